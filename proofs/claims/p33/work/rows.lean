section
-- ===== PART A: goes FIRST, ahead of the names: the tables' words, and 'selects' of the private methods out of them =====
/-- a private method of a class that the tables say can be made, by its rows of tables_1 -/
def lw_okq (q : MethodName × Nat) : Prop := (q.1.cls ≠ "java/lang/invoke/MethodHandle" ∧ q.1.cls ≠ "java/lang/invoke/VarHandle") ∧ Cond.instantiable q.1.cls q.2 ∈ tables_1 ∧ Cond.privateMethod q.1 ∈ tables_1 ∧ Cond.instanceMethod q.1 ∈ tables_1
theorem lw_p0 : lw_okq (⟨"GateRoads", "remember", "()V"⟩, 13) := ⟨⟨by decide +kernel, by decide +kernel⟩, List.mem_of_getElem? (i := 12) (by decide +kernel), List.mem_of_getElem? (i := 287) (by decide +kernel), List.mem_of_getElem? (i := 288) (by decide +kernel)⟩
theorem lw_p1 : lw_okq (⟨"GateRoads", "refuse", "(I)I"⟩, 13) := ⟨⟨by decide +kernel, by decide +kernel⟩, List.mem_of_getElem? (i := 12) (by decide +kernel), List.mem_of_getElem? (i := 389) (by decide +kernel), List.mem_of_getElem? (i := 390) (by decide +kernel)⟩
theorem lw_p2 : lw_okq (⟨"GateRoads", "firstComing", "(IIIIII)I"⟩, 13) := ⟨⟨by decide +kernel, by decide +kernel⟩, List.mem_of_getElem? (i := 12) (by decide +kernel), List.mem_of_getElem? (i := 438) (by decide +kernel), List.mem_of_getElem? (i := 439) (by decide +kernel)⟩
theorem lw_p3 : lw_okq (⟨"GateRoads$Gates", "letIn", "(LGateRoads$State;II)V"⟩, 2) := ⟨⟨by decide +kernel, by decide +kernel⟩, List.mem_of_getElem? (i := 92) (by decide +kernel), List.mem_of_getElem? (i := 450) (by decide +kernel), List.mem_of_getElem? (i := 451) (by decide +kernel)⟩
theorem lw_p4 : lw_okq (⟨"GateRoads$Gates", "shut", "(LGateRoads$State;I)V"⟩, 2) := ⟨⟨by decide +kernel, by decide +kernel⟩, List.mem_of_getElem? (i := 92) (by decide +kernel), List.mem_of_getElem? (i := 457) (by decide +kernel), List.mem_of_getElem? (i := 458) (by decide +kernel)⟩
theorem lw_p5 : lw_okq (⟨"GateRoads$Onward", "leave", "(LGateRoads$State;III)V"⟩, 2) := ⟨⟨by decide +kernel, by decide +kernel⟩, List.mem_of_getElem? (i := 106) (by decide +kernel), List.mem_of_getElem? (i := 488) (by decide +kernel), List.mem_of_getElem? (i := 489) (by decide +kernel)⟩
def lw_privs_1 : List (MethodName × Nat) := [(⟨"GateRoads", "remember", "()V"⟩, 13), (⟨"GateRoads", "refuse", "(I)I"⟩, 13), (⟨"GateRoads", "firstComing", "(IIIIII)I"⟩, 13), (⟨"GateRoads$Gates", "letIn", "(LGateRoads$State;II)V"⟩, 2), (⟨"GateRoads$Gates", "shut", "(LGateRoads$State;I)V"⟩, 2), (⟨"GateRoads$Onward", "leave", "(LGateRoads$State;III)V"⟩, 2)]
theorem lw_r1 : ∀ q ∈ lw_privs_1, lw_okq q := List.forall_mem_cons.mpr ⟨lw_p0, List.forall_mem_cons.mpr ⟨lw_p1, List.forall_mem_cons.mpr ⟨lw_p2, List.forall_mem_cons.mpr ⟨lw_p3, List.forall_mem_cons.mpr ⟨lw_p4, List.forall_mem_cons.mpr ⟨lw_p5, fun _ h => absurd h List.not_mem_nil⟩⟩⟩⟩⟩⟩
def lw_privs : List (MethodName × Nat) := lw_privs_1
def lw_tbl : List Cond := k2_sels lw_privs ++ tables_1
theorem lw_privs_ok : ∀ q ∈ lw_privs, lw_okq q := lw_r1
-- ===== end of PART A; then your names; then what follows =====
end
section
def zd (cc : ByteArray) (pc pc' : Nat) (i : Instr) (n : Nat) : Prop := decode cc pc = .ok (i, n) ∧ pc + n = pc'
def zTb : List Cond := lw_tbl.filter goodWord
theorem zTb_lw {w : Cond} (h : w ∈ zTb) : w ∈ lw_tbl := (List.mem_filter.mp h).1
def R_S : String := "GateRoads$State"
def F_S : u_T := fun k => match k with
  | 0 => ("GateRoads$State", "rooms", "[I", true)
  | 1 => ("GateRoads$State", "roads", "[I", true)
  | 2 => ("GateRoads$State", "entered", "[I", true)
  | 3 => ("GateRoads$State", "closures", "[I", true)
  | 4 => ("GateRoads$State", "travellers", "[I", true)
  | 5 => ("GateRoads$State", "roadCount", "I", false)
  | 6 => ("GateRoads$State", "closureCount", "I", false)
  | _ => ("GateRoads$State", "travellerCount", "I", false)
def t_S : Nat → FieldType := fun k => match k with
  | 0 => .array .int
  | 1 => .array .int
  | 2 => .array .int
  | 3 => .array .int
  | 4 => .array .int
  | 5 => .int
  | 6 => .int
  | _ => .int
theorem n_S : ∀ a, a < 8 → ∀ b, b < 8 → a ≠ b → (F_S a).2.1 ≠ (F_S b).2.1 := by decide +kernel
theorem t_S_ok : ∀ k, k < 8 → parseFieldDescriptor (F_S k).2.2.1 = some (t_S k) := by decide +kernel
theorem i_S : ∀ w ∈ u_ws R_S F_S 8, w ∈ zTb := by decide +kernel
def R_X : String := "GateRoads"
def F_X : u_T := fun k => match k with
  | 0 => ("GateRoads", "now", "LGateRoads$State;", true)
  | 1 => ("GateRoads", "history", "[LGateRoads$State;", true)
  | 2 => ("GateRoads", "changes", "I", false)
  | 3 => ("GateRoads", "slots", "[LGateRoads$State;", true)
  | 4 => ("GateRoads", "saved", "[Z", true)
  | 5 => ("GateRoads", "reason", "I", false)
  | 6 => ("GateRoads", "pad", "LGateRoads$Pad;", true)
  | 7 => ("GateRoads", "carrying", "Z", false)
  | 8 => ("GateRoads", "gates", "LGateRoads$Gates;", true)
  | 9 => ("GateRoads", "onward", "LGateRoads$Onward;", true)
  | 10 => ("GateRoads", "otherOnward", "LGateRoads$Onward;", true)
  | 11 => ("GateRoads", "backward", "LGateRoads$Backward;", true)
  | _ => ("GateRoads", "fewest", "LGateRoads$Fewest;", true)
def t_X : Nat → FieldType := fun k => match k with
  | 0 => .object "GateRoads$State"
  | 1 => .array (.object "GateRoads$State")
  | 2 => .int
  | 3 => .array (.object "GateRoads$State")
  | 4 => .array .boolean
  | 5 => .int
  | 6 => .object "GateRoads$Pad"
  | 7 => .boolean
  | 8 => .object "GateRoads$Gates"
  | 9 => .object "GateRoads$Onward"
  | 10 => .object "GateRoads$Onward"
  | 11 => .object "GateRoads$Backward"
  | _ => .object "GateRoads$Fewest"
theorem n_X : ∀ a, a < 13 → ∀ b, b < 13 → a ≠ b → (F_X a).2.1 ≠ (F_X b).2.1 := by decide +kernel
theorem t_X_ok : ∀ k, k < 13 → parseFieldDescriptor (F_X k).2.2.1 = some (t_X k) := by decide +kernel
theorem i_X : ∀ w ∈ u_ws R_X F_X 13, w ∈ zTb := by decide +kernel
def R_P : String := "GateRoads$Pad"
def F_P : u_T := fun k => match k with
  | 0 => ("GateRoads$Pad", "text", "[C", true)
  | 1 => ("GateRoads$Pad", "length", "I", false)
  | 2 => ("GateRoads$Pad", "at", "I", false)
  | 3 => ("GateRoads$Pad", "wrong", "Z", false)
  | 4 => ("GateRoads$Pad", "kind", "I", false)
  | 5 => ("GateRoads$Pad", "numbers", "[I", true)
  | 6 => ("GateRoads$Pad", "clocks", "[I", true)
  | 7 => ("GateRoads$Pad", "spans", "I", false)
  | _ => ("GateRoads$Pad", "strict", "I", false)
def t_P : Nat → FieldType := fun k => match k with
  | 0 => .array .char
  | 1 => .int
  | 2 => .int
  | 3 => .boolean
  | 4 => .int
  | 5 => .array .int
  | 6 => .array .int
  | 7 => .int
  | _ => .int
theorem n_P : ∀ a, a < 9 → ∀ b, b < 9 → a ≠ b → (F_P a).2.1 ≠ (F_P b).2.1 := by decide +kernel
theorem t_P_ok : ∀ k, k < 9 → parseFieldDescriptor (F_P k).2.2.1 = some (t_P k) := by decide +kernel
theorem i_P : ∀ w ∈ u_ws R_P F_P 9, w ∈ zTb := by decide +kernel
def R_G : String := "GateRoads$Gates"
def F_G : u_T := fun k => match k with
  | 0 => ("GateRoads$Gates", "roadsAt", "[I", true)
  | _ => ("GateRoads$Gates", "ready", "Z", false)
def t_G : Nat → FieldType := fun k => match k with
  | 0 => .array .int
  | _ => .boolean
theorem n_G : ∀ a, a < 2 → ∀ b, b < 2 → a ≠ b → (F_G a).2.1 ≠ (F_G b).2.1 := by decide +kernel
theorem t_G_ok : ∀ k, k < 2 → parseFieldDescriptor (F_G k).2.2.1 = some (t_G k) := by decide +kernel
theorem i_G : ∀ w ∈ u_ws R_G F_G 2, w ∈ zTb := by decide +kernel
def R_O : String := "GateRoads$Onward"
def F_O : u_T := fun k => match k with
  | 0 => ("GateRoads$Onward", "comers", "[I", true)
  | _ => ("GateRoads$Onward", "until", "[I", true)
def t_O : Nat → FieldType := fun k => match k with
  | 0 => .array .int
  | _ => .array .int
theorem n_O : ∀ a, a < 2 → ∀ b, b < 2 → a ≠ b → (F_O a).2.1 ≠ (F_O b).2.1 := by decide +kernel
theorem t_O_ok : ∀ k, k < 2 → parseFieldDescriptor (F_O k).2.2.1 = some (t_O k) := by decide +kernel
theorem i_O : ∀ w ∈ u_ws R_O F_O 2, w ∈ zTb := by decide +kernel
def R_B : String := "GateRoads$Backward"
def F_B : u_T := fun k => match k with
  | 0 => ("GateRoads$Backward", "leading", "[I", true)
  | 1 => ("GateRoads$Backward", "nextEntry", "[I", true)
  | 2 => ("GateRoads$Backward", "goal", "I", false)
  | _ => ("GateRoads$Backward", "by", "I", false)
def t_B : Nat → FieldType := fun k => match k with
  | 0 => .array .int
  | 1 => .array .int
  | 2 => .int
  | _ => .int
theorem n_B : ∀ a, a < 4 → ∀ b, b < 4 → a ≠ b → (F_B a).2.1 ≠ (F_B b).2.1 := by decide +kernel
theorem t_B_ok : ∀ k, k < 4 → parseFieldDescriptor (F_B k).2.2.1 = some (t_B k) := by decide +kernel
theorem i_B : ∀ w ∈ u_ws R_B F_B 4, w ∈ zTb := by decide +kernel
def R_F : String := "GateRoads$Fewest"
def F_F : u_T := fun k => match k with
  | 0 => ("GateRoads$Fewest", "coming", "[I", true)
  | 1 => ("GateRoads$Fewest", "queue", "[I", true)
  | 2 => ("GateRoads$Fewest", "head", "[I", true)
  | 3 => ("GateRoads$Fewest", "tail", "[I", true)
  | _ => ("GateRoads$Fewest", "best", "[I", true)
def t_F : Nat → FieldType := fun k => match k with
  | 0 => .array .int
  | 1 => .array .int
  | 2 => .array .int
  | 3 => .array .int
  | _ => .array .int
theorem n_F : ∀ a, a < 5 → ∀ b, b < 5 → a ≠ b → (F_F a).2.1 ≠ (F_F b).2.1 := by decide +kernel
theorem t_F_ok : ∀ k, k < 5 → parseFieldDescriptor (F_F k).2.2.1 = some (t_F k) := by decide +kernel
theorem i_F : ∀ w ∈ u_ws R_F F_F 5, w ∈ zTb := by decide +kernel
abbrev zCl : List vw_C := [(R_S, F_S, 8), (R_X, F_X, 13), (R_P, F_P, 9), (R_G, F_G, 2), (R_O, F_O, 2), (R_B, F_B, 4), (R_F, F_F, 5)]
abbrev zSh : Type := (Nat × Nat) ⊕ (Nat × List Int)
def zShp : List zSh := [.inr (0, [1, 2, 3, 4, 5, -1, -1, -1]), .inl (0, 24), .inl (0, 264), .inl (0, 24), .inl (0, 60), .inl (0, 80), .inr (0, [7, 8, 9, 10, 11, -1, -1, -1]), .inl (0, 24), .inl (0, 264), .inl (0, 24), .inl (0, 60), .inl (0, 80), .inr (0, [13, 14, 15, 16, 17, -1, -1, -1]), .inl (0, 24), .inl (0, 264), .inl (0, 24), .inl (0, 60), .inl (0, 80), .inr (0, [19, 20, 21, 22, 23, -1, -1, -1]), .inl (0, 24), .inl (0, 264), .inl (0, 24), .inl (0, 60), .inl (0, 80), .inr (0, [25, 26, 27, 28, 29, -1, -1, -1]), .inl (0, 24), .inl (0, 264), .inl (0, 24), .inl (0, 60), .inl (0, 80), .inr (0, [31, 32, 33, 34, 35, -1, -1, -1]), .inl (0, 24), .inl (0, 264), .inl (0, 24), .inl (0, 60), .inl (0, 80), .inr (0, [37, 38, 39, 40, 41, -1, -1, -1]), .inl (0, 24), .inl (0, 264), .inl (0, 24), .inl (0, 60), .inl (0, 80), .inr (0, [43, 44, 45, 46, 47, -1, -1, -1]), .inl (0, 24), .inl (0, 264), .inl (0, 24), .inl (0, 60), .inl (0, 80), .inr (0, [49, 50, 51, 52, 53, -1, -1, -1]), .inl (0, 24), .inl (0, 264), .inl (0, 24), .inl (0, 60), .inl (0, 80), .inr (1, [0, 55, -1, 56, 57, -1, 58, -1, 62, 64, 67, 70, 73]), .inl (3, 6), .inl (3, 2), .inl (1, 2), .inr (2, [59, -1, -1, -1, -1, 60, 61, -1, -1]), .inl (2, 80), .inl (0, 3), .inl (0, 6), .inr (3, [63, -1]), .inl (0, 2881), .inr (4, [65, 66]), .inl (0, 1024), .inl (0, 8), .inr (4, [68, 69]), .inl (0, 1024), .inl (0, 8), .inr (5, [71, 72, -1, -1]), .inl (0, 2881), .inl (0, 8), .inr (6, [74, 75, 76, 77, 78]), .inl (0, 8192), .inl (0, 8192), .inl (0, 8), .inl (0, 8), .inl (0, 8)]
def zNw : List (String × Nat × MethodName × String) := [("GateRoads$Onward", 24, ⟨"GateRoads", "has", "(II)Z"⟩, "GateRoads")]
theorem tw_r (i : Nat) {w : Cond} (h : tables_1[i]? = some w) (hg : goodWord w = true) : w ∈ zTb := List.mem_filter.mpr ⟨List.mem_append_right _ (List.mem_of_getElem? h), hg⟩
theorem tw_1 (i : Nat) {w : Cond} (h : tables_1_1[i]? = some w) (hg : goodWord w = true) : w ∈ zTb := List.mem_filter.mpr ⟨List.mem_append_right _ (show w ∈ tables_1 from (List.mem_append_left _ (List.mem_of_getElem? h))), hg⟩
theorem tw_2 (i : Nat) {w : Cond} (h : tables_1_2[i]? = some w) (hg : goodWord w = true) : w ∈ zTb := List.mem_filter.mpr ⟨List.mem_append_right _ (show w ∈ tables_1 from (List.mem_append_right _ (List.mem_append_left _ (List.mem_of_getElem? h)))), hg⟩
theorem tw_3 (i : Nat) {w : Cond} (h : tables_1_3[i]? = some w) (hg : goodWord w = true) : w ∈ zTb := List.mem_filter.mpr ⟨List.mem_append_right _ (show w ∈ tables_1 from (List.mem_append_right _ (List.mem_append_right _ (List.mem_of_getElem? h)))), hg⟩
theorem tw_l (i : Nat) {w : Cond} (h : (k2_sels lw_privs)[i]? = some w) (hg : goodWord w = true) : w ∈ zTb := List.mem_filter.mpr ⟨List.mem_append_left _ (List.mem_of_getElem? h), hg⟩
abbrev b_X_init : ByteArray := prog_1_method_1_code
def y_X_init : MethodName := ⟨"GateRoads", "<init>", "()V"⟩
abbrev b_S_init : ByteArray := prog_7_method_1_code
def y_S_init : MethodName := ⟨"GateRoads$State", "<init>", "()V"⟩
abbrev b_P_init : ByteArray := prog_6_method_1_code
def y_P_init : MethodName := ⟨"GateRoads$Pad", "<init>", "()V"⟩
abbrev b_G_init : ByteArray := prog_4_method_1_code
def y_G_init : MethodName := ⟨"GateRoads$Gates", "<init>", "()V"⟩
abbrev b_O_init : ByteArray := prog_5_method_1_code
def y_O_init : MethodName := ⟨"GateRoads$Onward", "<init>", "()V"⟩
abbrev b_B_init : ByteArray := prog_2_method_1_code
def y_B_init : MethodName := ⟨"GateRoads$Backward", "<init>", "()V"⟩
abbrev b_F_init : ByteArray := prog_3_method_1_code
def y_F_init : MethodName := ⟨"GateRoads$Fewest", "<init>", "()V"⟩
abbrev b_X_count : ByteArray := prog_1_method_15_code
def y_X_count : MethodName := ⟨"GateRoads", "count", "(I)I"⟩
abbrev b_L_cell : ByteArray := method_2_code
def y_L_cell : MethodName := ⟨"GateRoadsLaw", "cell", "([II)I"⟩
abbrev b_L_up : ByteArray := method_3_code
def y_L_up : MethodName := ⟨"GateRoadsLaw", "up", "(II)I"⟩
abbrev b_L_view : ByteArray := method_4_code
def y_L_view : MethodName := ⟨"GateRoadsLaw", "view", "(LGateRoads;)J"⟩
abbrev b_X_ofPlace : ByteArray := prog_1_method_11_code
def y_X_ofPlace : MethodName := ⟨"GateRoads", "ofPlace", "(II)I"⟩
abbrev b_X_isPlace : ByteArray := prog_1_method_33_code
def y_X_isPlace : MethodName := ⟨"GateRoads", "isPlace", "(I)Z"⟩
abbrev b_X_within : ByteArray := prog_1_method_32_code
def y_X_within : MethodName := ⟨"GateRoads", "within", "(III)Z"⟩
abbrev b_S_roadsWith : ByteArray := prog_7_method_21_code
def y_S_roadsWith : MethodName := ⟨"GateRoads$State", "roadsWith", "(II)I"⟩
abbrev b_S_ofRoads : ByteArray := prog_7_method_7_code
def y_S_ofRoads : MethodName := ⟨"GateRoads$State", "ofRoads", "(II)I"⟩
abbrev b_S_travellersAt : ByteArray := prog_7_method_22_code
def y_S_travellersAt : MethodName := ⟨"GateRoads$State", "travellersAt", "(I)I"⟩
abbrev b_S_ofTravellers : ByteArray := prog_7_method_9_code
def y_S_ofTravellers : MethodName := ⟨"GateRoads$State", "ofTravellers", "(II)I"⟩
abbrev b_S_ofRooms : ByteArray := prog_7_method_6_code
def y_S_ofRooms : MethodName := ⟨"GateRoads$State", "ofRooms", "(II)I"⟩
abbrev b_X_ofRoad : ByteArray := prog_1_method_12_code
def y_X_ofRoad : MethodName := ⟨"GateRoads", "ofRoad", "(II)I"⟩
abbrev b_S_hasRoad : ByteArray := prog_7_method_3_code
def y_S_hasRoad : MethodName := ⟨"GateRoads$State", "hasRoad", "(I)Z"⟩
abbrev b_S_closuresOf : ByteArray := prog_7_method_23_code
def y_S_closuresOf : MethodName := ⟨"GateRoads$State", "closuresOf", "(I)I"⟩
abbrev b_S_ofClosures : ByteArray := prog_7_method_8_code
def y_S_ofClosures : MethodName := ⟨"GateRoads$State", "ofClosures", "(II)I"⟩
abbrev b_X_ofClosure : ByteArray := prog_1_method_13_code
def y_X_ofClosure : MethodName := ⟨"GateRoads", "ofClosure", "(II)I"⟩
abbrev b_S_hasClosure : ByteArray := prog_7_method_4_code
def y_S_hasClosure : MethodName := ⟨"GateRoads$State", "hasClosure", "(I)Z"⟩
abbrev b_X_ofTraveller : ByteArray := prog_1_method_14_code
def y_X_ofTraveller : MethodName := ⟨"GateRoads", "ofTraveller", "(II)I"⟩
abbrev b_S_hasTraveller : ByteArray := prog_7_method_5_code
def y_S_hasTraveller : MethodName := ⟨"GateRoads$State", "hasTraveller", "(I)Z"⟩
abbrev b_L_turn : ByteArray := method_6_code
def y_L_turn : MethodName := ⟨"GateRoadsLaw", "turn", "(LGateRoads;III)I"⟩
abbrev b_X_room : ByteArray := prog_1_method_2_code
def y_X_room : MethodName := ⟨"GateRoads", "room", "(IIII)I"⟩
abbrev b_X_remember : ByteArray := prog_1_method_37_code
def y_X_remember : MethodName := ⟨"GateRoads", "remember", "()V"⟩
abbrev b_S_copyFrom : ByteArray := prog_7_method_2_code
def y_S_copyFrom : MethodName := ⟨"GateRoads$State", "copyFrom", "(LGateRoads$State;)V"⟩
abbrev b_X_road : ByteArray := prog_1_method_3_code
def y_X_road : MethodName := ⟨"GateRoads", "road", "(III)I"⟩
abbrev b_S_addRoad : ByteArray := prog_7_method_10_code
def y_S_addRoad : MethodName := ⟨"GateRoads$State", "addRoad", "(III)I"⟩
abbrev b_S_dropSpans : ByteArray := prog_7_method_11_code
def y_S_dropSpans : MethodName := ⟨"GateRoads$State", "dropSpans", "(II)V"⟩
abbrev b_Ar_fill_1 : ByteArray := prog_12_method_104_code
def y_Ar_fill_1 : MethodName := ⟨"java/util/Arrays", "fill", "([IIII)V"⟩
abbrev b_Ar_rangeCheck : ByteArray := prog_12_method_30_code
def y_Ar_rangeCheck : MethodName := ⟨"java/util/Arrays", "rangeCheck", "(III)V"⟩
abbrev b_S_addSpan : ByteArray := prog_7_method_15_code
def y_S_addSpan : MethodName := ⟨"GateRoads$State", "addSpan", "(III)V"⟩
abbrev b_S_spanFrom : ByteArray := prog_7_method_12_code
def y_S_spanFrom : MethodName := ⟨"GateRoads$State", "spanFrom", "(II)I"⟩
abbrev b_S_spanTo : ByteArray := prog_7_method_13_code
def y_S_spanTo : MethodName := ⟨"GateRoads$State", "spanTo", "(II)I"⟩
abbrev b_X_open : ByteArray := prog_1_method_4_code
def y_X_open : MethodName := ⟨"GateRoads", "open", "(IIII)I"⟩
abbrev b_X_isSpan : ByteArray := prog_1_method_34_code
def y_X_isSpan : MethodName := ⟨"GateRoads", "isSpan", "(III)Z"⟩
abbrev b_X_more : ByteArray := prog_1_method_5_code
def y_X_more : MethodName := ⟨"GateRoads", "more", "(III)I"⟩
abbrev b_S_meetsSpan : ByteArray := prog_7_method_14_code
def y_S_meetsSpan : MethodName := ⟨"GateRoads$State", "meetsSpan", "(III)Z"⟩
abbrev b_X_close : ByteArray := prog_1_method_6_code
def y_X_close : MethodName := ⟨"GateRoads", "close", "(III)I"⟩
abbrev b_S_addClosure : ByteArray := prog_7_method_16_code
def y_S_addClosure : MethodName := ⟨"GateRoads$State", "addClosure", "(III)I"⟩
abbrev b_X_lift : ByteArray := prog_1_method_7_code
def y_X_lift : MethodName := ⟨"GateRoads", "lift", "(I)I"⟩
abbrev b_S_dropClosure : ByteArray := prog_7_method_17_code
def y_S_dropClosure : MethodName := ⟨"GateRoads$State", "dropClosure", "(I)V"⟩
abbrev b_X_traveller : ByteArray := prog_1_method_8_code
def y_X_traveller : MethodName := ⟨"GateRoads", "traveller", "(II)I"⟩
abbrev b_S_addTraveller : ByteArray := prog_7_method_18_code
def y_S_addTraveller : MethodName := ⟨"GateRoads$State", "addTraveller", "(II)I"⟩
abbrev b_X_go : ByteArray := prog_1_method_9_code
def y_X_go : MethodName := ⟨"GateRoads", "go", "(II)I"⟩
abbrev b_S_whyNoGoing : ByteArray := prog_7_method_27_code
def y_S_whyNoGoing : MethodName := ⟨"GateRoads$State", "whyNoGoing", "(II)I"⟩
abbrev b_S_whyNoEntry : ByteArray := prog_7_method_29_code
def y_S_whyNoEntry : MethodName := ⟨"GateRoads$State", "whyNoEntry", "(II)I"⟩
abbrev b_S_spanEnd : ByteArray := prog_7_method_30_code
def y_S_spanEnd : MethodName := ⟨"GateRoads$State", "spanEnd", "(II)I"⟩
abbrev b_S_closedAt : ByteArray := prog_7_method_31_code
def y_S_closedAt : MethodName := ⟨"GateRoads$State", "closedAt", "(II)Z"⟩
abbrev b_X_refuse : ByteArray := prog_1_method_38_code
def y_X_refuse : MethodName := ⟨"GateRoads", "refuse", "(I)I"⟩
abbrev b_S_enter : ByteArray := prog_7_method_19_code
def y_S_enter : MethodName := ⟨"GateRoads$State", "enter", "(II)I"⟩
abbrev b_X_stay : ByteArray := prog_1_method_10_code
def y_X_stay : MethodName := ⟨"GateRoads", "stay", "(II)I"⟩
abbrev b_S_whyNoStaying : ByteArray := prog_7_method_28_code
def y_S_whyNoStaying : MethodName := ⟨"GateRoads$State", "whyNoStaying", "(II)I"⟩
abbrev b_S_openUntil : ByteArray := prog_7_method_24_code
def y_S_openUntil : MethodName := ⟨"GateRoads$State", "openUntil", "(II)I"⟩
abbrev b_S_waitThere : ByteArray := prog_7_method_20_code
def y_S_waitThere : MethodName := ⟨"GateRoads$State", "waitThere", "(II)I"⟩
abbrev b_X_canStay : ByteArray := prog_1_method_24_code
def y_X_canStay : MethodName := ⟨"GateRoads", "canStay", "(I)I"⟩
abbrev b_S_stayLeft : ByteArray := prog_7_method_26_code
def y_S_stayLeft : MethodName := ⟨"GateRoads$State", "stayLeft", "(I)I"⟩
abbrev b_Ma_min : ByteArray := prog_10_method_69_code
def y_Ma_min : MethodName := ⟨"java/lang/Math", "min", "(II)I"⟩
abbrev b_Ma_max : ByteArray := prog_10_method_65_code
def y_Ma_max : MethodName := ⟨"java/lang/Math", "max", "(II)I"⟩
abbrev b_L_any : ByteArray := method_5_code
def y_L_any : MethodName := ⟨"GateRoadsLaw", "any", "(LGateRoads;II)I"⟩
abbrev b_L_areRight : ByteArray := method_7_code
def y_L_areRight : MethodName := ⟨"GateRoadsLaw", "areRight", "(LGateRoads;)Z"⟩
abbrev b_X_arrives : ByteArray := prog_1_method_23_code
def y_X_arrives : MethodName := ⟨"GateRoads", "arrives", "(II)I"⟩
abbrev b_X_firstComing : ByteArray := prog_1_method_40_code
def y_X_firstComing : MethodName := ⟨"GateRoads", "firstComing", "(IIIIII)I"⟩
abbrev b_G_prepare : ByteArray := prog_4_method_3_code
def y_G_prepare : MethodName := ⟨"GateRoads$Gates", "prepare", "(LGateRoads$State;)V"⟩
abbrev b_Ar_fill_0 : ByteArray := prog_12_method_103_code
def y_Ar_fill_0 : MethodName := ⟨"java/util/Arrays", "fill", "([II)V"⟩
abbrev b_G_letIn : ByteArray := prog_4_method_4_code
def y_G_letIn : MethodName := ⟨"GateRoads$Gates", "letIn", "(LGateRoads$State;II)V"⟩
abbrev b_G_shut : ByteArray := prog_4_method_5_code
def y_G_shut : MethodName := ⟨"GateRoads$Gates", "shut", "(LGateRoads$State;I)V"⟩
abbrev b_O_start : ByteArray := prog_5_method_2_code
def y_O_start : MethodName := ⟨"GateRoads$Onward", "start", "(II)V"⟩
abbrev b_O_comersAt : ByteArray := prog_5_method_3_code
def y_O_comersAt : MethodName := ⟨"GateRoads$Onward", "comersAt", "(I)I"⟩
abbrev b_X_has : ByteArray := prog_1_method_35_code
def y_X_has : MethodName := ⟨"GateRoads", "has", "(II)Z"⟩
abbrev b_G_at : ByteArray := prog_4_method_2_code
def y_G_at : MethodName := ⟨"GateRoads$Gates", "at", "(I)I"⟩
abbrev b_O_minute : ByteArray := prog_5_method_4_code
def y_O_minute : MethodName := ⟨"GateRoads$Onward", "minute", "(LGateRoads$State;II)I"⟩
abbrev b_S_waitEnd : ByteArray := prog_7_method_25_code
def y_S_waitEnd : MethodName := ⟨"GateRoads$State", "waitEnd", "(II)I"⟩
abbrev b_O_leave : ByteArray := prog_5_method_5_code
def y_O_leave : MethodName := ⟨"GateRoads$Onward", "leave", "(LGateRoads$State;III)V"⟩
abbrev b_L_isDue : ByteArray := method_8_code
def y_L_isDue : MethodName := ⟨"GateRoadsLaw", "isDue", "(LGateRoads;III)Z"⟩
abbrev b_X_whyShut : ByteArray := prog_1_method_16_code
def y_X_whyShut : MethodName := ⟨"GateRoads", "whyShut", "(II)I"⟩
abbrev b_L_isUndone : ByteArray := method_9_code
def y_L_isUndone : MethodName := ⟨"GateRoadsLaw", "isUndone", "(LGateRoads;IIIIJ)Z"⟩
abbrev b_X_undo : ByteArray := prog_1_method_29_code
def y_X_undo : MethodName := ⟨"GateRoads", "undo", "()I"⟩
abbrev b_L_isSaved : ByteArray := method_10_code
def y_L_isSaved : MethodName := ⟨"GateRoadsLaw", "isSaved", "(LGateRoads;II)Z"⟩
abbrev b_X_save : ByteArray := prog_1_method_30_code
def y_X_save : MethodName := ⟨"GateRoads", "save", "(I)I"⟩
abbrev b_X_restore : ByteArray := prog_1_method_31_code
def y_X_restore : MethodName := ⟨"GateRoads", "restore", "(I)I"⟩
theorem sh_0 : zShp[0]? = some (.inr (0, [1, 2, 3, 4, 5, -1, -1, -1])) := rfl
theorem sh_1 : zShp[1]? = some (.inl (0, 24)) := rfl
theorem sh_2 : zShp[2]? = some (.inl (0, 264)) := rfl
theorem sh_3 : zShp[3]? = some (.inl (0, 24)) := rfl
theorem sh_4 : zShp[4]? = some (.inl (0, 60)) := rfl
theorem sh_5 : zShp[5]? = some (.inl (0, 80)) := rfl
theorem sh_6 : zShp[6]? = some (.inr (0, [7, 8, 9, 10, 11, -1, -1, -1])) := rfl
theorem sh_7 : zShp[7]? = some (.inl (0, 24)) := rfl
theorem sh_8 : zShp[8]? = some (.inl (0, 264)) := rfl
theorem sh_9 : zShp[9]? = some (.inl (0, 24)) := rfl
theorem sh_10 : zShp[10]? = some (.inl (0, 60)) := rfl
theorem sh_11 : zShp[11]? = some (.inl (0, 80)) := rfl
theorem sh_12 : zShp[12]? = some (.inr (0, [13, 14, 15, 16, 17, -1, -1, -1])) := rfl
theorem sh_13 : zShp[13]? = some (.inl (0, 24)) := rfl
theorem sh_14 : zShp[14]? = some (.inl (0, 264)) := rfl
theorem sh_15 : zShp[15]? = some (.inl (0, 24)) := rfl
theorem sh_16 : zShp[16]? = some (.inl (0, 60)) := rfl
theorem sh_17 : zShp[17]? = some (.inl (0, 80)) := rfl
theorem sh_18 : zShp[18]? = some (.inr (0, [19, 20, 21, 22, 23, -1, -1, -1])) := rfl
theorem sh_19 : zShp[19]? = some (.inl (0, 24)) := rfl
theorem sh_20 : zShp[20]? = some (.inl (0, 264)) := rfl
theorem sh_21 : zShp[21]? = some (.inl (0, 24)) := rfl
theorem sh_22 : zShp[22]? = some (.inl (0, 60)) := rfl
theorem sh_23 : zShp[23]? = some (.inl (0, 80)) := rfl
theorem sh_24 : zShp[24]? = some (.inr (0, [25, 26, 27, 28, 29, -1, -1, -1])) := rfl
theorem sh_25 : zShp[25]? = some (.inl (0, 24)) := rfl
theorem sh_26 : zShp[26]? = some (.inl (0, 264)) := rfl
theorem sh_27 : zShp[27]? = some (.inl (0, 24)) := rfl
theorem sh_28 : zShp[28]? = some (.inl (0, 60)) := rfl
theorem sh_29 : zShp[29]? = some (.inl (0, 80)) := rfl
theorem sh_30 : zShp[30]? = some (.inr (0, [31, 32, 33, 34, 35, -1, -1, -1])) := rfl
theorem sh_31 : zShp[31]? = some (.inl (0, 24)) := rfl
theorem sh_32 : zShp[32]? = some (.inl (0, 264)) := rfl
theorem sh_33 : zShp[33]? = some (.inl (0, 24)) := rfl
theorem sh_34 : zShp[34]? = some (.inl (0, 60)) := rfl
theorem sh_35 : zShp[35]? = some (.inl (0, 80)) := rfl
theorem sh_36 : zShp[36]? = some (.inr (0, [37, 38, 39, 40, 41, -1, -1, -1])) := rfl
theorem sh_37 : zShp[37]? = some (.inl (0, 24)) := rfl
theorem sh_38 : zShp[38]? = some (.inl (0, 264)) := rfl
theorem sh_39 : zShp[39]? = some (.inl (0, 24)) := rfl
theorem sh_40 : zShp[40]? = some (.inl (0, 60)) := rfl
theorem sh_41 : zShp[41]? = some (.inl (0, 80)) := rfl
theorem sh_42 : zShp[42]? = some (.inr (0, [43, 44, 45, 46, 47, -1, -1, -1])) := rfl
theorem sh_43 : zShp[43]? = some (.inl (0, 24)) := rfl
theorem sh_44 : zShp[44]? = some (.inl (0, 264)) := rfl
theorem sh_45 : zShp[45]? = some (.inl (0, 24)) := rfl
theorem sh_46 : zShp[46]? = some (.inl (0, 60)) := rfl
theorem sh_47 : zShp[47]? = some (.inl (0, 80)) := rfl
theorem sh_48 : zShp[48]? = some (.inr (0, [49, 50, 51, 52, 53, -1, -1, -1])) := rfl
theorem sh_49 : zShp[49]? = some (.inl (0, 24)) := rfl
theorem sh_50 : zShp[50]? = some (.inl (0, 264)) := rfl
theorem sh_51 : zShp[51]? = some (.inl (0, 24)) := rfl
theorem sh_52 : zShp[52]? = some (.inl (0, 60)) := rfl
theorem sh_53 : zShp[53]? = some (.inl (0, 80)) := rfl
theorem sh_54 : zShp[54]? = some (.inr (1, [0, 55, -1, 56, 57, -1, 58, -1, 62, 64, 67, 70, 73])) := rfl
theorem sh_55 : zShp[55]? = some (.inl (3, 6)) := rfl
theorem sh_56 : zShp[56]? = some (.inl (3, 2)) := rfl
theorem sh_57 : zShp[57]? = some (.inl (1, 2)) := rfl
theorem sh_58 : zShp[58]? = some (.inr (2, [59, -1, -1, -1, -1, 60, 61, -1, -1])) := rfl
theorem sh_59 : zShp[59]? = some (.inl (2, 80)) := rfl
theorem sh_60 : zShp[60]? = some (.inl (0, 3)) := rfl
theorem sh_61 : zShp[61]? = some (.inl (0, 6)) := rfl
theorem sh_62 : zShp[62]? = some (.inr (3, [63, -1])) := rfl
theorem sh_63 : zShp[63]? = some (.inl (0, 2881)) := rfl
theorem sh_64 : zShp[64]? = some (.inr (4, [65, 66])) := rfl
theorem sh_65 : zShp[65]? = some (.inl (0, 1024)) := rfl
theorem sh_66 : zShp[66]? = some (.inl (0, 8)) := rfl
theorem sh_67 : zShp[67]? = some (.inr (4, [68, 69])) := rfl
theorem sh_68 : zShp[68]? = some (.inl (0, 1024)) := rfl
theorem sh_69 : zShp[69]? = some (.inl (0, 8)) := rfl
theorem sh_70 : zShp[70]? = some (.inr (5, [71, 72, -1, -1])) := rfl
theorem sh_71 : zShp[71]? = some (.inl (0, 2881)) := rfl
theorem sh_72 : zShp[72]? = some (.inl (0, 8)) := rfl
theorem sh_73 : zShp[73]? = some (.inr (6, [74, 75, 76, 77, 78])) := rfl
theorem sh_74 : zShp[74]? = some (.inl (0, 8192)) := rfl
theorem sh_75 : zShp[75]? = some (.inl (0, 8192)) := rfl
theorem sh_76 : zShp[76]? = some (.inl (0, 8)) := rfl
theorem sh_77 : zShp[77]? = some (.inl (0, 8)) := rfl
theorem sh_78 : zShp[78]? = some (.inl (0, 8)) := rfl
set_option maxRecDepth 100000 in
theorem zs_max : Cond.static Lib.Math.max.name ∈ zTb := tw_2 185 rfl rfl
set_option maxRecDepth 100000 in
theorem zc_max : Cond.code Lib.Math.max.name Lib.Math.max.code 2 (some .int) ∈ zTb := tw_2 186 rfl rfl
set_option maxRecDepth 100000 in
theorem zs_min : Cond.static Lib.Math.min.name ∈ zTb := tw_2 182 rfl rfl
set_option maxRecDepth 100000 in
theorem zc_min : Cond.code Lib.Math.min.name Lib.Math.min.code 2 (some .int) ∈ zTb := tw_2 183 rfl rfl
set_option maxRecDepth 100000 in
theorem zi_Math : Cond.initialized "java/lang/Math" ∈ zTb := tw_1 10 rfl rfl
set_option maxRecDepth 100000 in
theorem zi_Sys : Cond.initialized "java/lang/System" ∈ zTb := tw_1 8 rfl rfl
set_option maxRecDepth 100000 in
theorem zn_copy : Cond.native arraycopyName ∈ zTb := tw_2 56 rfl rfl
set_option maxRecDepth 100000 in
theorem zs_copy : Cond.static arraycopyName ∈ zTb := tw_2 55 rfl rfl
set_option maxRecDepth 100000 in
theorem ml_L_97 : Cond.methodLink "GateRoadsLaw" 97 ⟨"GateRoads", "<init>", "()V"⟩ ∈ zTb := tw_1 13 rfl rfl
set_option maxRecDepth 100000 in
theorem ml_X_11 : Cond.methodLink "GateRoads" 11 ⟨"GateRoads$State", "<init>", "()V"⟩ ∈ zTb := tw_1 21 rfl rfl
set_option maxRecDepth 100000 in
theorem fl_S_9 : Cond.fieldLink "GateRoads$State" 9 "GateRoads$State" "rooms" "[I" ∈ zTb := tw_1 25 rfl rfl
set_option maxRecDepth 100000 in
theorem fl_X_76 : Cond.fieldLink "GateRoads" 76 "GateRoads$State" "rooms" "[I" ∈ zTb := tw_1 26 rfl rfl
set_option maxRecDepth 100000 in
theorem fl_S_15 : Cond.fieldLink "GateRoads$State" 15 "GateRoads$State" "roads" "[I" ∈ zTb := tw_1 27 rfl rfl
set_option maxRecDepth 100000 in
theorem fl_S_18 : Cond.fieldLink "GateRoads$State" 18 "GateRoads$State" "entered" "[I" ∈ zTb := tw_1 28 rfl rfl
set_option maxRecDepth 100000 in
theorem fl_X_159 : Cond.fieldLink "GateRoads" 159 "GateRoads$State" "entered" "[I" ∈ zTb := tw_1 29 rfl rfl
set_option maxRecDepth 100000 in
theorem fl_S_21 : Cond.fieldLink "GateRoads$State" 21 "GateRoads$State" "closures" "[I" ∈ zTb := tw_1 30 rfl rfl
set_option maxRecDepth 100000 in
theorem fl_S_24 : Cond.fieldLink "GateRoads$State" 24 "GateRoads$State" "travellers" "[I" ∈ zTb := tw_1 31 rfl rfl
set_option maxRecDepth 100000 in
theorem fl_S_33 : Cond.fieldLink "GateRoads$State" 33 "GateRoads$State" "roadCount" "I" ∈ zTb := tw_1 32 rfl rfl
set_option maxRecDepth 100000 in
theorem fl_G_25 : Cond.fieldLink "GateRoads$Gates" 25 "GateRoads$State" "roadCount" "I" ∈ zTb := tw_1 33 rfl rfl
set_option maxRecDepth 100000 in
theorem fl_X_80 : Cond.fieldLink "GateRoads" 80 "GateRoads$State" "roadCount" "I" ∈ zTb := tw_1 34 rfl rfl
set_option maxRecDepth 100000 in
theorem fl_O_43 : Cond.fieldLink "GateRoads$Onward" 43 "GateRoads$State" "roadCount" "I" ∈ zTb := tw_1 35 rfl rfl
set_option maxRecDepth 100000 in
theorem fl_S_37 : Cond.fieldLink "GateRoads$State" 37 "GateRoads$State" "closureCount" "I" ∈ zTb := tw_1 36 rfl rfl
set_option maxRecDepth 100000 in
theorem fl_G_39 : Cond.fieldLink "GateRoads$Gates" 39 "GateRoads$State" "closureCount" "I" ∈ zTb := tw_1 37 rfl rfl
set_option maxRecDepth 100000 in
theorem fl_X_109 : Cond.fieldLink "GateRoads" 109 "GateRoads$State" "closureCount" "I" ∈ zTb := tw_1 38 rfl rfl
set_option maxRecDepth 100000 in
theorem fl_S_40 : Cond.fieldLink "GateRoads$State" 40 "GateRoads$State" "travellerCount" "I" ∈ zTb := tw_1 39 rfl rfl
set_option maxRecDepth 100000 in
theorem fl_X_122 : Cond.fieldLink "GateRoads" 122 "GateRoads$State" "travellerCount" "I" ∈ zTb := tw_1 40 rfl rfl
set_option maxRecDepth 100000 in
theorem fl_P_9 : Cond.fieldLink "GateRoads$Pad" 9 "GateRoads$Pad" "text" "[C" ∈ zTb := tw_1 66 rfl rfl
set_option maxRecDepth 100000 in
theorem fl_X_171 : Cond.fieldLink "GateRoads" 171 "GateRoads$Pad" "length" "I" ∈ zTb := tw_1 67 rfl rfl
set_option maxRecDepth 100000 in
theorem fl_P_15 : Cond.fieldLink "GateRoads$Pad" 15 "GateRoads$Pad" "numbers" "[I" ∈ zTb := tw_1 68 rfl rfl
set_option maxRecDepth 100000 in
theorem fl_P_19 : Cond.fieldLink "GateRoads$Pad" 19 "GateRoads$Pad" "clocks" "[I" ∈ zTb := tw_1 69 rfl rfl
set_option maxRecDepth 100000 in
theorem fl_G_9 : Cond.fieldLink "GateRoads$Gates" 9 "GateRoads$Gates" "roadsAt" "[I" ∈ zTb := tw_1 97 rfl rfl
set_option maxRecDepth 100000 in
theorem fl_G_15 : Cond.fieldLink "GateRoads$Gates" 15 "GateRoads$Gates" "ready" "Z" ∈ zTb := tw_1 98 rfl rfl
set_option maxRecDepth 100000 in
theorem fl_X_282 : Cond.fieldLink "GateRoads" 282 "GateRoads$Gates" "ready" "Z" ∈ zTb := tw_1 99 rfl rfl
set_option maxRecDepth 100000 in
theorem fl_O_9 : Cond.fieldLink "GateRoads$Onward" 9 "GateRoads$Onward" "comers" "[I" ∈ zTb := tw_1 111 rfl rfl
set_option maxRecDepth 100000 in
theorem fl_O_15 : Cond.fieldLink "GateRoads$Onward" 15 "GateRoads$Onward" "until" "[I" ∈ zTb := tw_1 112 rfl rfl
set_option maxRecDepth 100000 in
theorem fl_B_9 : Cond.fieldLink "GateRoads$Backward" 9 "GateRoads$Backward" "leading" "[I" ∈ zTb := tw_1 124 rfl rfl
set_option maxRecDepth 100000 in
theorem fl_B_15 : Cond.fieldLink "GateRoads$Backward" 15 "GateRoads$Backward" "nextEntry" "[I" ∈ zTb := tw_1 125 rfl rfl
set_option maxRecDepth 100000 in
theorem fl_F_9 : Cond.fieldLink "GateRoads$Fewest" 9 "GateRoads$Fewest" "coming" "[I" ∈ zTb := tw_1 141 rfl rfl
set_option maxRecDepth 100000 in
theorem fl_F_15 : Cond.fieldLink "GateRoads$Fewest" 15 "GateRoads$Fewest" "queue" "[I" ∈ zTb := tw_1 142 rfl rfl
set_option maxRecDepth 100000 in
theorem fl_F_18 : Cond.fieldLink "GateRoads$Fewest" 18 "GateRoads$Fewest" "head" "[I" ∈ zTb := tw_1 143 rfl rfl
set_option maxRecDepth 100000 in
theorem fl_F_21 : Cond.fieldLink "GateRoads$Fewest" 21 "GateRoads$Fewest" "tail" "[I" ∈ zTb := tw_1 144 rfl rfl
set_option maxRecDepth 100000 in
theorem fl_F_24 : Cond.fieldLink "GateRoads$Fewest" 24 "GateRoads$Fewest" "best" "[I" ∈ zTb := tw_1 145 rfl rfl
set_option maxRecDepth 100000 in
theorem fl_X_12 : Cond.fieldLink "GateRoads" 12 "GateRoads" "now" "LGateRoads$State;" ∈ zTb := tw_1 157 rfl rfl
set_option maxRecDepth 100000 in
theorem fl_X_16 : Cond.fieldLink "GateRoads" 16 "GateRoads" "history" "[LGateRoads$State;" ∈ zTb := tw_1 158 rfl rfl
set_option maxRecDepth 100000 in
theorem fl_X_174 : Cond.fieldLink "GateRoads" 174 "GateRoads" "changes" "I" ∈ zTb := tw_1 159 rfl rfl
set_option maxRecDepth 100000 in
theorem fl_X_20 : Cond.fieldLink "GateRoads" 20 "GateRoads" "slots" "[LGateRoads$State;" ∈ zTb := tw_1 160 rfl rfl
set_option maxRecDepth 100000 in
theorem fl_X_23 : Cond.fieldLink "GateRoads" 23 "GateRoads" "saved" "[Z" ∈ zTb := tw_1 161 rfl rfl
set_option maxRecDepth 100000 in
theorem fl_X_168 : Cond.fieldLink "GateRoads" 168 "GateRoads" "reason" "I" ∈ zTb := tw_1 162 rfl rfl
set_option maxRecDepth 100000 in
theorem fl_X_30 : Cond.fieldLink "GateRoads" 30 "GateRoads" "pad" "LGateRoads$Pad;" ∈ zTb := tw_1 163 rfl rfl
set_option maxRecDepth 100000 in
theorem fl_X_262 : Cond.fieldLink "GateRoads" 262 "GateRoads" "carrying" "Z" ∈ zTb := tw_1 164 rfl rfl
set_option maxRecDepth 100000 in
theorem fl_X_37 : Cond.fieldLink "GateRoads" 37 "GateRoads" "gates" "LGateRoads$Gates;" ∈ zTb := tw_1 165 rfl rfl
set_option maxRecDepth 100000 in
theorem fl_X_44 : Cond.fieldLink "GateRoads" 44 "GateRoads" "onward" "LGateRoads$Onward;" ∈ zTb := tw_1 166 rfl rfl
set_option maxRecDepth 100000 in
theorem fl_X_48 : Cond.fieldLink "GateRoads" 48 "GateRoads" "otherOnward" "LGateRoads$Onward;" ∈ zTb := tw_1 167 rfl rfl
set_option maxRecDepth 100000 in
theorem fl_X_54 : Cond.fieldLink "GateRoads" 54 "GateRoads" "backward" "LGateRoads$Backward;" ∈ zTb := tw_1 168 rfl rfl
set_option maxRecDepth 100000 in
theorem fl_X_61 : Cond.fieldLink "GateRoads" 61 "GateRoads" "fewest" "LGateRoads$Fewest;" ∈ zTb := tw_1 169 rfl rfl
set_option maxRecDepth 100000 in
theorem ml_L_13 : Cond.methodLink "GateRoadsLaw" 13 ⟨"GateRoads", "count", "(I)I"⟩ ∈ zTb := tw_1 197 rfl rfl
set_option maxRecDepth 100000 in
theorem ml_L_98 : Cond.methodLink "GateRoadsLaw" 98 ⟨"GateRoadsLaw", "cell", "([II)I"⟩ ∈ zTb := tw_1 201 rfl rfl
set_option maxRecDepth 100000 in
theorem ck_L_7 : Cond.constant "GateRoadsLaw" 7 (763049417 : Int32) ∈ zTb := tw_1 204 rfl rfl
set_option maxRecDepth 100000 in
theorem ml_L_58 : Cond.methodLink "GateRoadsLaw" 58 ⟨"GateRoadsLaw", "up", "(II)I"⟩ ∈ zTb := tw_1 205 rfl rfl
set_option maxRecDepth 100000 in
theorem ck_L_8 : Cond.constant "GateRoadsLaw" 8 (2147483647 : Int32) ∈ zTb := tw_1 208 rfl rfl
set_option maxRecDepth 100000 in
theorem ml_L_83 : Cond.methodLink "GateRoadsLaw" 83 ⟨"GateRoadsLaw", "view", "(LGateRoads;)J"⟩ ∈ zTb := tw_1 209 rfl rfl
set_option maxRecDepth 100000 in
theorem cl_L_9 : Cond.constantLong "GateRoadsLaw" 9 (7 : Int64) ∈ zTb := tw_1 212 rfl rfl
set_option maxRecDepth 100000 in
theorem cl_L_11 : Cond.constantLong "GateRoadsLaw" 11 (31 : Int64) ∈ zTb := tw_1 213 rfl rfl
set_option maxRecDepth 100000 in
theorem ml_L_19 : Cond.methodLink "GateRoadsLaw" 19 ⟨"GateRoads", "ofPlace", "(II)I"⟩ ∈ zTb := tw_1 214 rfl rfl
set_option maxRecDepth 100000 in
theorem ml_X_65 : Cond.methodLink "GateRoads" 65 ⟨"GateRoads", "isPlace", "(I)Z"⟩ ∈ zTb := tw_1 218 rfl rfl
set_option maxRecDepth 100000 in
theorem ml_X_69 : Cond.methodLink "GateRoads" 69 ⟨"GateRoads", "within", "(III)Z"⟩ ∈ zTb := tw_1 221 rfl rfl
set_option maxRecDepth 100000 in
theorem ml_X_147 : Cond.methodLink "GateRoads" 147 ⟨"GateRoads$State", "roadsWith", "(II)I"⟩ ∈ zTb := tw_1 224 rfl rfl
set_option maxRecDepth 100000 in
theorem ml_S_57 : Cond.methodLink "GateRoads$State" 57 ⟨"GateRoads$State", "ofRoads", "(II)I"⟩ ∈ zTb := tw_1 228 rfl rfl
set_option maxRecDepth 100000 in
theorem ml_X_150 : Cond.methodLink "GateRoads" 150 ⟨"GateRoads$State", "travellersAt", "(I)I"⟩ ∈ zTb := tw_1 232 rfl rfl
set_option maxRecDepth 100000 in
theorem ml_S_67 : Cond.methodLink "GateRoads$State" 67 ⟨"GateRoads$State", "ofTravellers", "(II)I"⟩ ∈ zTb := tw_1 236 rfl rfl
set_option maxRecDepth 100000 in
theorem ml_X_153 : Cond.methodLink "GateRoads" 153 ⟨"GateRoads$State", "ofRooms", "(II)I"⟩ ∈ zTb := tw_2 0 rfl rfl
set_option maxRecDepth 100000 in
theorem ml_L_23 : Cond.methodLink "GateRoadsLaw" 23 ⟨"GateRoads", "ofRoad", "(II)I"⟩ ∈ zTb := tw_2 4 rfl rfl
set_option maxRecDepth 100000 in
theorem ml_X_88 : Cond.methodLink "GateRoads" 88 ⟨"GateRoads$State", "hasRoad", "(I)Z"⟩ ∈ zTb := tw_2 8 rfl rfl
set_option maxRecDepth 100000 in
theorem ml_X_156 : Cond.methodLink "GateRoads" 156 ⟨"GateRoads$State", "closuresOf", "(I)I"⟩ ∈ zTb := tw_2 12 rfl rfl
set_option maxRecDepth 100000 in
theorem ml_S_70 : Cond.methodLink "GateRoads$State" 70 ⟨"GateRoads$State", "ofClosures", "(II)I"⟩ ∈ zTb := tw_2 16 rfl rfl
set_option maxRecDepth 100000 in
theorem ml_X_94 : Cond.methodLink "GateRoads" 94 ⟨"GateRoads$State", "ofRoads", "(II)I"⟩ ∈ zTb := tw_2 20 rfl rfl
set_option maxRecDepth 100000 in
theorem ml_L_26 : Cond.methodLink "GateRoadsLaw" 26 ⟨"GateRoads", "ofClosure", "(II)I"⟩ ∈ zTb := tw_2 21 rfl rfl
set_option maxRecDepth 100000 in
theorem ml_X_115 : Cond.methodLink "GateRoads" 115 ⟨"GateRoads$State", "hasClosure", "(I)Z"⟩ ∈ zTb := tw_2 25 rfl rfl
set_option maxRecDepth 100000 in
theorem ml_X_162 : Cond.methodLink "GateRoads" 162 ⟨"GateRoads$State", "ofClosures", "(II)I"⟩ ∈ zTb := tw_2 29 rfl rfl
set_option maxRecDepth 100000 in
theorem ml_L_29 : Cond.methodLink "GateRoadsLaw" 29 ⟨"GateRoads", "ofTraveller", "(II)I"⟩ ∈ zTb := tw_2 30 rfl rfl
set_option maxRecDepth 100000 in
theorem ml_X_128 : Cond.methodLink "GateRoads" 128 ⟨"GateRoads$State", "hasTraveller", "(I)Z"⟩ ∈ zTb := tw_2 34 rfl rfl
set_option maxRecDepth 100000 in
theorem ml_X_165 : Cond.methodLink "GateRoads" 165 ⟨"GateRoads$State", "ofTravellers", "(II)I"⟩ ∈ zTb := tw_2 38 rfl rfl
set_option maxRecDepth 100000 in
theorem ml_L_87 : Cond.methodLink "GateRoadsLaw" 87 ⟨"GateRoadsLaw", "turn", "(LGateRoads;III)I"⟩ ∈ zTb := tw_2 39 rfl rfl
set_option maxRecDepth 100000 in
theorem ml_L_32 : Cond.methodLink "GateRoadsLaw" 32 ⟨"GateRoads", "room", "(IIII)I"⟩ ∈ zTb := tw_2 42 rfl rfl
set_option maxRecDepth 100000 in
theorem ml_X_73 : Cond.methodLink "GateRoads" 73 ⟨"GateRoads", "remember", "()V"⟩ ∈ zTb := tw_2 46 rfl rfl
set_option maxRecDepth 100000 in
theorem ml_X_279 : Cond.methodLink "GateRoads" 279 ⟨"GateRoads$State", "copyFrom", "(LGateRoads$State;)V"⟩ ∈ zTb := tw_2 50 rfl rfl
set_option maxRecDepth 100000 in
theorem ml_S_27 : Cond.methodLink "GateRoads$State" 27 ⟨"java/lang/System", "arraycopy", "(Ljava/lang/Object;ILjava/lang/Object;II)V"⟩ ∈ zTb := tw_2 54 rfl rfl
set_option maxRecDepth 100000 in
theorem ml_L_36 : Cond.methodLink "GateRoadsLaw" 36 ⟨"GateRoads", "road", "(III)I"⟩ ∈ zTb := tw_2 57 rfl rfl
set_option maxRecDepth 100000 in
theorem ml_X_84 : Cond.methodLink "GateRoads" 84 ⟨"GateRoads$State", "addRoad", "(III)I"⟩ ∈ zTb := tw_2 61 rfl rfl
set_option maxRecDepth 100000 in
theorem ml_S_43 : Cond.methodLink "GateRoads$State" 43 ⟨"GateRoads$State", "dropSpans", "(II)V"⟩ ∈ zTb := tw_2 65 rfl rfl
set_option maxRecDepth 100000 in
theorem ml_S_51 : Cond.methodLink "GateRoads$State" 51 ⟨"java/util/Arrays", "fill", "([IIII)V"⟩ ∈ zTb := tw_2 69 rfl rfl
set_option maxRecDepth 100000 in
theorem ml_Ar_13 : Cond.methodLink "java/util/Arrays" 13 ⟨"java/util/Arrays", "rangeCheck", "(III)V"⟩ ∈ zTb := tw_2 72 rfl rfl
set_option maxRecDepth 100000 in
theorem ml_S_47 : Cond.methodLink "GateRoads$State" 47 ⟨"GateRoads$State", "addSpan", "(III)V"⟩ ∈ zTb := tw_2 75 rfl rfl
set_option maxRecDepth 100000 in
theorem ml_S_64 : Cond.methodLink "GateRoads$State" 64 ⟨"GateRoads$State", "spanFrom", "(II)I"⟩ ∈ zTb := tw_2 79 rfl rfl
set_option maxRecDepth 100000 in
theorem ml_S_61 : Cond.methodLink "GateRoads$State" 61 ⟨"GateRoads$State", "spanTo", "(II)I"⟩ ∈ zTb := tw_2 83 rfl rfl
set_option maxRecDepth 100000 in
theorem ml_L_40 : Cond.methodLink "GateRoadsLaw" 40 ⟨"GateRoads", "open", "(IIII)I"⟩ ∈ zTb := tw_2 87 rfl rfl
set_option maxRecDepth 100000 in
theorem ml_X_91 : Cond.methodLink "GateRoads" 91 ⟨"GateRoads", "isSpan", "(III)Z"⟩ ∈ zTb := tw_2 91 rfl rfl
set_option maxRecDepth 100000 in
theorem ml_X_98 : Cond.methodLink "GateRoads" 98 ⟨"GateRoads$State", "dropSpans", "(II)V"⟩ ∈ zTb := tw_2 94 rfl rfl
set_option maxRecDepth 100000 in
theorem ml_X_102 : Cond.methodLink "GateRoads" 102 ⟨"GateRoads$State", "addSpan", "(III)V"⟩ ∈ zTb := tw_2 95 rfl rfl
set_option maxRecDepth 100000 in
theorem ml_L_43 : Cond.methodLink "GateRoadsLaw" 43 ⟨"GateRoads", "more", "(III)I"⟩ ∈ zTb := tw_2 96 rfl rfl
set_option maxRecDepth 100000 in
theorem ml_X_106 : Cond.methodLink "GateRoads" 106 ⟨"GateRoads$State", "meetsSpan", "(III)Z"⟩ ∈ zTb := tw_2 100 rfl rfl
set_option maxRecDepth 100000 in
theorem ml_L_46 : Cond.methodLink "GateRoadsLaw" 46 ⟨"GateRoads", "close", "(III)I"⟩ ∈ zTb := tw_2 104 rfl rfl
set_option maxRecDepth 100000 in
theorem ml_X_112 : Cond.methodLink "GateRoads" 112 ⟨"GateRoads$State", "addClosure", "(III)I"⟩ ∈ zTb := tw_2 108 rfl rfl
set_option maxRecDepth 100000 in
theorem ml_L_49 : Cond.methodLink "GateRoadsLaw" 49 ⟨"GateRoads", "lift", "(I)I"⟩ ∈ zTb := tw_2 112 rfl rfl
set_option maxRecDepth 100000 in
theorem ml_X_118 : Cond.methodLink "GateRoads" 118 ⟨"GateRoads$State", "dropClosure", "(I)V"⟩ ∈ zTb := tw_2 116 rfl rfl
set_option maxRecDepth 100000 in
theorem ml_L_52 : Cond.methodLink "GateRoadsLaw" 52 ⟨"GateRoads", "traveller", "(II)I"⟩ ∈ zTb := tw_2 120 rfl rfl
set_option maxRecDepth 100000 in
theorem ml_X_125 : Cond.methodLink "GateRoads" 125 ⟨"GateRoads$State", "addTraveller", "(II)I"⟩ ∈ zTb := tw_2 124 rfl rfl
set_option maxRecDepth 100000 in
theorem ml_L_63 : Cond.methodLink "GateRoadsLaw" 63 ⟨"GateRoads", "go", "(II)I"⟩ ∈ zTb := tw_2 128 rfl rfl
set_option maxRecDepth 100000 in
theorem ml_X_131 : Cond.methodLink "GateRoads" 131 ⟨"GateRoads$State", "whyNoGoing", "(II)I"⟩ ∈ zTb := tw_2 132 rfl rfl
set_option maxRecDepth 100000 in
theorem ml_S_87 : Cond.methodLink "GateRoads$State" 87 ⟨"GateRoads$State", "whyNoEntry", "(II)I"⟩ ∈ zTb := tw_2 136 rfl rfl
set_option maxRecDepth 100000 in
theorem ml_S_90 : Cond.methodLink "GateRoads$State" 90 ⟨"GateRoads$State", "spanEnd", "(II)I"⟩ ∈ zTb := tw_2 140 rfl rfl
set_option maxRecDepth 100000 in
theorem ml_S_93 : Cond.methodLink "GateRoads$State" 93 ⟨"GateRoads$State", "closedAt", "(II)Z"⟩ ∈ zTb := tw_2 144 rfl rfl
set_option maxRecDepth 100000 in
theorem ml_X_134 : Cond.methodLink "GateRoads" 134 ⟨"GateRoads", "refuse", "(I)I"⟩ ∈ zTb := tw_2 148 rfl rfl
set_option maxRecDepth 100000 in
theorem ml_X_138 : Cond.methodLink "GateRoads" 138 ⟨"GateRoads$State", "enter", "(II)I"⟩ ∈ zTb := tw_2 152 rfl rfl
set_option maxRecDepth 100000 in
theorem ml_L_55 : Cond.methodLink "GateRoadsLaw" 55 ⟨"GateRoads", "stay", "(II)I"⟩ ∈ zTb := tw_2 156 rfl rfl
set_option maxRecDepth 100000 in
theorem ml_X_141 : Cond.methodLink "GateRoads" 141 ⟨"GateRoads$State", "whyNoStaying", "(II)I"⟩ ∈ zTb := tw_2 160 rfl rfl
set_option maxRecDepth 100000 in
theorem ml_S_76 : Cond.methodLink "GateRoads$State" 76 ⟨"GateRoads$State", "openUntil", "(II)I"⟩ ∈ zTb := tw_2 164 rfl rfl
set_option maxRecDepth 100000 in
theorem ml_S_73 : Cond.methodLink "GateRoads$State" 73 ⟨"GateRoads$State", "ofRooms", "(II)I"⟩ ∈ zTb := tw_2 168 rfl rfl
set_option maxRecDepth 100000 in
theorem ml_X_144 : Cond.methodLink "GateRoads" 144 ⟨"GateRoads$State", "waitThere", "(II)I"⟩ ∈ zTb := tw_2 169 rfl rfl
set_option maxRecDepth 100000 in
theorem ml_L_66 : Cond.methodLink "GateRoadsLaw" 66 ⟨"GateRoads", "canStay", "(I)I"⟩ ∈ zTb := tw_2 173 rfl rfl
set_option maxRecDepth 100000 in
theorem ml_X_237 : Cond.methodLink "GateRoads" 237 ⟨"GateRoads$State", "stayLeft", "(I)I"⟩ ∈ zTb := tw_2 177 rfl rfl
set_option maxRecDepth 100000 in
theorem ml_S_79 : Cond.methodLink "GateRoads$State" 79 ⟨"java/lang/Math", "min", "(II)I"⟩ ∈ zTb := tw_2 181 rfl rfl
set_option maxRecDepth 100000 in
theorem ml_S_84 : Cond.methodLink "GateRoads$State" 84 ⟨"java/lang/Math", "max", "(II)I"⟩ ∈ zTb := tw_2 184 rfl rfl
set_option maxRecDepth 100000 in
theorem ml_L_69 : Cond.methodLink "GateRoadsLaw" 69 ⟨"GateRoadsLaw", "any", "(LGateRoads;II)I"⟩ ∈ zTb := tw_2 187 rfl rfl
set_option maxRecDepth 100000 in
theorem ml_L_114 : Cond.methodLink "GateRoadsLaw" 114 ⟨"GateRoadsLaw", "areRight", "(LGateRoads;)Z"⟩ ∈ zTb := tw_2 190 rfl rfl
set_option maxRecDepth 100000 in
theorem ml_L_73 : Cond.methodLink "GateRoadsLaw" 73 ⟨"GateRoads", "arrives", "(II)I"⟩ ∈ zTb := tw_2 193 rfl rfl
set_option maxRecDepth 100000 in
theorem ml_X_233 : Cond.methodLink "GateRoads" 233 ⟨"GateRoads", "firstComing", "(IIIIII)I"⟩ ∈ zTb := tw_2 197 rfl rfl
set_option maxRecDepth 100000 in
theorem ml_X_183 : Cond.methodLink "GateRoads" 183 ⟨"GateRoads$Gates", "prepare", "(LGateRoads$State;)V"⟩ ∈ zTb := tw_2 201 rfl rfl
set_option maxRecDepth 100000 in
theorem ml_G_19 : Cond.methodLink "GateRoads$Gates" 19 ⟨"java/util/Arrays", "fill", "([II)V"⟩ ∈ zTb := tw_2 205 rfl rfl
set_option maxRecDepth 100000 in
theorem ml_G_31 : Cond.methodLink "GateRoads$Gates" 31 ⟨"GateRoads$State", "ofRoads", "(II)I"⟩ ∈ zTb := tw_2 208 rfl rfl
set_option maxRecDepth 100000 in
theorem ml_G_35 : Cond.methodLink "GateRoads$Gates" 35 ⟨"GateRoads$Gates", "letIn", "(LGateRoads$State;II)V"⟩ ∈ zTb := tw_2 209 rfl rfl
set_option maxRecDepth 100000 in
theorem ml_G_46 : Cond.methodLink "GateRoads$Gates" 46 ⟨"GateRoads$State", "spanTo", "(II)I"⟩ ∈ zTb := tw_2 213 rfl rfl
set_option maxRecDepth 100000 in
theorem ml_G_49 : Cond.methodLink "GateRoads$Gates" 49 ⟨"java/lang/Math", "min", "(II)I"⟩ ∈ zTb := tw_2 214 rfl rfl
set_option maxRecDepth 100000 in
theorem ml_G_54 : Cond.methodLink "GateRoads$Gates" 54 ⟨"GateRoads$State", "spanFrom", "(II)I"⟩ ∈ zTb := tw_2 215 rfl rfl
set_option maxRecDepth 100000 in
theorem ml_G_42 : Cond.methodLink "GateRoads$Gates" 42 ⟨"GateRoads$Gates", "shut", "(LGateRoads$State;I)V"⟩ ∈ zTb := tw_2 216 rfl rfl
set_option maxRecDepth 100000 in
theorem ml_G_57 : Cond.methodLink "GateRoads$Gates" 57 ⟨"GateRoads$State", "ofClosures", "(II)I"⟩ ∈ zTb := tw_2 220 rfl rfl
set_option maxRecDepth 100000 in
theorem ml_X_220 : Cond.methodLink "GateRoads" 220 ⟨"GateRoads$Onward", "start", "(II)V"⟩ ∈ zTb := tw_2 221 rfl rfl
set_option maxRecDepth 100000 in
theorem ml_O_18 : Cond.methodLink "GateRoads$Onward" 18 ⟨"java/util/Arrays", "fill", "([II)V"⟩ ∈ zTb := tw_2 225 rfl rfl
set_option maxRecDepth 100000 in
theorem ml_X_221 : Cond.methodLink "GateRoads" 221 ⟨"GateRoads$Onward", "comersAt", "(I)I"⟩ ∈ zTb := tw_2 226 rfl rfl
set_option maxRecDepth 100000 in
theorem ml_X_230 : Cond.methodLink "GateRoads" 230 ⟨"GateRoads", "has", "(II)Z"⟩ ∈ zTb := tw_2 230 rfl rfl
set_option maxRecDepth 100000 in
theorem ml_X_190 : Cond.methodLink "GateRoads" 190 ⟨"GateRoads$Gates", "at", "(I)I"⟩ ∈ zTb := tw_2 233 rfl rfl
set_option maxRecDepth 100000 in
theorem ml_X_224 : Cond.methodLink "GateRoads" 224 ⟨"GateRoads$Onward", "minute", "(LGateRoads$State;II)I"⟩ ∈ zTb := tw_2 237 rfl rfl
set_option maxRecDepth 100000 in
theorem ml_O_28 : Cond.methodLink "GateRoads$Onward" 28 ⟨"GateRoads$State", "waitEnd", "(II)I"⟩ ∈ zTb := tw_3 2 rfl rfl
set_option maxRecDepth 100000 in
theorem ml_O_34 : Cond.methodLink "GateRoads$Onward" 34 ⟨"java/lang/Math", "max", "(II)I"⟩ ∈ zTb := tw_3 6 rfl rfl
set_option maxRecDepth 100000 in
theorem ml_O_39 : Cond.methodLink "GateRoads$Onward" 39 ⟨"GateRoads$Onward", "leave", "(LGateRoads$State;III)V"⟩ ∈ zTb := tw_3 7 rfl rfl
set_option maxRecDepth 100000 in
theorem ml_O_47 : Cond.methodLink "GateRoads$Onward" 47 ⟨"GateRoads$State", "ofRoads", "(II)I"⟩ ∈ zTb := tw_3 11 rfl rfl
set_option maxRecDepth 100000 in
theorem ml_L_110 : Cond.methodLink "GateRoadsLaw" 110 ⟨"GateRoadsLaw", "isDue", "(LGateRoads;III)Z"⟩ ∈ zTb := tw_3 12 rfl rfl
set_option maxRecDepth 100000 in
theorem ml_L_76 : Cond.methodLink "GateRoadsLaw" 76 ⟨"GateRoads", "whyShut", "(II)I"⟩ ∈ zTb := tw_3 15 rfl rfl
set_option maxRecDepth 100000 in
theorem ml_X_177 : Cond.methodLink "GateRoads" 177 ⟨"GateRoads$State", "whyNoEntry", "(II)I"⟩ ∈ zTb := tw_3 19 rfl rfl
set_option maxRecDepth 100000 in
theorem ml_L_102 : Cond.methodLink "GateRoadsLaw" 102 ⟨"GateRoadsLaw", "isUndone", "(LGateRoads;IIIIJ)Z"⟩ ∈ zTb := tw_3 20 rfl rfl
set_option maxRecDepth 100000 in
theorem ml_L_79 : Cond.methodLink "GateRoadsLaw" 79 ⟨"GateRoads", "undo", "()I"⟩ ∈ zTb := tw_3 23 rfl rfl
set_option maxRecDepth 100000 in
theorem ml_L_106 : Cond.methodLink "GateRoadsLaw" 106 ⟨"GateRoadsLaw", "isSaved", "(LGateRoads;II)Z"⟩ ∈ zTb := tw_3 27 rfl rfl
set_option maxRecDepth 100000 in
theorem ml_L_91 : Cond.methodLink "GateRoadsLaw" 91 ⟨"GateRoads", "save", "(I)I"⟩ ∈ zTb := tw_3 30 rfl rfl
set_option maxRecDepth 100000 in
theorem ml_L_94 : Cond.methodLink "GateRoadsLaw" 94 ⟨"GateRoads", "restore", "(I)I"⟩ ∈ zTb := tw_3 34 rfl rfl
def zMI (y : MethodName) (bytes : ByteArray) (maxL : Nat) (ret : Option FieldType) (n : Nat) : Prop := Cond.instanceMethod y ∈ zTb ∧ Cond.selects y.cls y y ∈ zTb ∧ Cond.initialized y.cls ∈ zTb ∧ Cond.code y bytes maxL ret ∈ zTb ∧ y.cls ≠ "java/lang/invoke/MethodHandle" ∧ y.cls ≠ "java/lang/invoke/VarHandle" ∧ (parseMethodDescriptor y.desc).map (fun d => d.parameters.length) = some n
def zMS (y : MethodName) (bytes : ByteArray) (maxL : Nat) (ret : Option FieldType) (n : Nat) : Prop := Cond.static y ∈ zTb ∧ Cond.initialized y.cls ∈ zTb ∧ Cond.code y bytes maxL ret ∈ zTb ∧ y.cls ≠ "java/lang/invoke/MethodHandle" ∧ y.cls ≠ "java/lang/invoke/VarHandle" ∧ (parseMethodDescriptor y.desc).map (fun d => d.parameters.length) = some n
set_option maxRecDepth 100000 in
theorem mi_X_count : zMI y_X_count b_X_count 2 (some .int) 1 := ⟨tw_1 198 rfl rfl, tw_1 199 rfl rfl, tw_1 1 rfl rfl, tw_1 200 rfl rfl, by decide, by decide, by decide +kernel⟩
set_option maxRecDepth 100000 in
theorem ms_L_cell : zMS y_L_cell b_L_cell 2 (some .int) 2 := ⟨tw_1 202 rfl rfl, tw_1 0 rfl rfl, tw_1 203 rfl rfl, by decide, by decide, by decide +kernel⟩
set_option maxRecDepth 100000 in
theorem ms_L_up : zMS y_L_up b_L_up 2 (some .int) 2 := ⟨tw_1 206 rfl rfl, tw_1 0 rfl rfl, tw_1 207 rfl rfl, by decide, by decide, by decide +kernel⟩
set_option maxRecDepth 100000 in
theorem ms_L_view : zMS y_L_view b_L_view 5 (some .long) 1 := ⟨tw_1 210 rfl rfl, tw_1 0 rfl rfl, tw_1 211 rfl rfl, by decide, by decide, by decide +kernel⟩
set_option maxRecDepth 100000 in
theorem mi_X_ofPlace : zMI y_X_ofPlace b_X_ofPlace 3 (some .int) 2 := ⟨tw_1 215 rfl rfl, tw_1 216 rfl rfl, tw_1 1 rfl rfl, tw_1 217 rfl rfl, by decide, by decide, by decide +kernel⟩
set_option maxRecDepth 100000 in
theorem ms_X_isPlace : zMS y_X_isPlace b_X_isPlace 1 (some .boolean) 1 := ⟨tw_1 219 rfl rfl, tw_1 1 rfl rfl, tw_1 220 rfl rfl, by decide, by decide, by decide +kernel⟩
set_option maxRecDepth 100000 in
theorem ms_X_within : zMS y_X_within b_X_within 3 (some .boolean) 3 := ⟨tw_1 222 rfl rfl, tw_1 1 rfl rfl, tw_1 223 rfl rfl, by decide, by decide, by decide +kernel⟩
set_option maxRecDepth 100000 in
theorem mi_S_roadsWith : zMI y_S_roadsWith b_S_roadsWith 5 (some .int) 2 := ⟨tw_1 225 rfl rfl, tw_1 226 rfl rfl, tw_1 2 rfl rfl, tw_1 227 rfl rfl, by decide, by decide, by decide +kernel⟩
set_option maxRecDepth 100000 in
theorem mi_S_ofRoads : zMI y_S_ofRoads b_S_ofRoads 3 (some .int) 2 := ⟨tw_1 229 rfl rfl, tw_1 230 rfl rfl, tw_1 2 rfl rfl, tw_1 231 rfl rfl, by decide, by decide, by decide +kernel⟩
set_option maxRecDepth 100000 in
theorem mi_S_travellersAt : zMI y_S_travellersAt b_S_travellersAt 4 (some .int) 1 := ⟨tw_1 233 rfl rfl, tw_1 234 rfl rfl, tw_1 2 rfl rfl, tw_1 235 rfl rfl, by decide, by decide, by decide +kernel⟩
set_option maxRecDepth 100000 in
theorem mi_S_ofTravellers : zMI y_S_ofTravellers b_S_ofTravellers 3 (some .int) 2 := ⟨tw_1 237 rfl rfl, tw_1 238 rfl rfl, tw_1 2 rfl rfl, tw_1 239 rfl rfl, by decide, by decide, by decide +kernel⟩
set_option maxRecDepth 100000 in
theorem mi_S_ofRooms : zMI y_S_ofRooms b_S_ofRooms 3 (some .int) 2 := ⟨tw_2 1 rfl rfl, tw_2 2 rfl rfl, tw_1 2 rfl rfl, tw_2 3 rfl rfl, by decide, by decide, by decide +kernel⟩
set_option maxRecDepth 100000 in
theorem mi_X_ofRoad : zMI y_X_ofRoad b_X_ofRoad 3 (some .int) 2 := ⟨tw_2 5 rfl rfl, tw_2 6 rfl rfl, tw_1 1 rfl rfl, tw_2 7 rfl rfl, by decide, by decide, by decide +kernel⟩
set_option maxRecDepth 100000 in
theorem mi_S_hasRoad : zMI y_S_hasRoad b_S_hasRoad 2 (some .boolean) 1 := ⟨tw_2 9 rfl rfl, tw_2 10 rfl rfl, tw_1 2 rfl rfl, tw_2 11 rfl rfl, by decide, by decide, by decide +kernel⟩
set_option maxRecDepth 100000 in
theorem mi_S_closuresOf : zMI y_S_closuresOf b_S_closuresOf 4 (some .int) 1 := ⟨tw_2 13 rfl rfl, tw_2 14 rfl rfl, tw_1 2 rfl rfl, tw_2 15 rfl rfl, by decide, by decide, by decide +kernel⟩
set_option maxRecDepth 100000 in
theorem mi_S_ofClosures : zMI y_S_ofClosures b_S_ofClosures 3 (some .int) 2 := ⟨tw_2 17 rfl rfl, tw_2 18 rfl rfl, tw_1 2 rfl rfl, tw_2 19 rfl rfl, by decide, by decide, by decide +kernel⟩
set_option maxRecDepth 100000 in
theorem mi_X_ofClosure : zMI y_X_ofClosure b_X_ofClosure 3 (some .int) 2 := ⟨tw_2 22 rfl rfl, tw_2 23 rfl rfl, tw_1 1 rfl rfl, tw_2 24 rfl rfl, by decide, by decide, by decide +kernel⟩
set_option maxRecDepth 100000 in
theorem mi_S_hasClosure : zMI y_S_hasClosure b_S_hasClosure 2 (some .boolean) 1 := ⟨tw_2 26 rfl rfl, tw_2 27 rfl rfl, tw_1 2 rfl rfl, tw_2 28 rfl rfl, by decide, by decide, by decide +kernel⟩
set_option maxRecDepth 100000 in
theorem mi_X_ofTraveller : zMI y_X_ofTraveller b_X_ofTraveller 3 (some .int) 2 := ⟨tw_2 31 rfl rfl, tw_2 32 rfl rfl, tw_1 1 rfl rfl, tw_2 33 rfl rfl, by decide, by decide, by decide +kernel⟩
set_option maxRecDepth 100000 in
theorem mi_S_hasTraveller : zMI y_S_hasTraveller b_S_hasTraveller 2 (some .boolean) 1 := ⟨tw_2 35 rfl rfl, tw_2 36 rfl rfl, tw_1 2 rfl rfl, tw_2 37 rfl rfl, by decide, by decide, by decide +kernel⟩
set_option maxRecDepth 100000 in
theorem ms_L_turn : zMS y_L_turn b_L_turn 6 (some .int) 4 := ⟨tw_2 40 rfl rfl, tw_1 0 rfl rfl, tw_2 41 rfl rfl, by decide, by decide, by decide +kernel⟩
set_option maxRecDepth 100000 in
theorem mi_X_room : zMI y_X_room b_X_room 7 (some .int) 4 := ⟨tw_2 43 rfl rfl, tw_2 44 rfl rfl, tw_1 1 rfl rfl, tw_2 45 rfl rfl, by decide, by decide, by decide +kernel⟩
set_option maxRecDepth 100000 in
theorem mi_X_remember : zMI y_X_remember b_X_remember 3 (none) 0 := ⟨tw_2 48 rfl rfl, tw_l 0 rfl rfl, tw_1 1 rfl rfl, tw_2 49 rfl rfl, by decide, by decide, by decide +kernel⟩
set_option maxRecDepth 100000 in
theorem mi_S_copyFrom : zMI y_S_copyFrom b_S_copyFrom 2 (none) 1 := ⟨tw_2 51 rfl rfl, tw_2 52 rfl rfl, tw_1 2 rfl rfl, tw_2 53 rfl rfl, by decide, by decide, by decide +kernel⟩
set_option maxRecDepth 100000 in
theorem mi_X_road : zMI y_X_road b_X_road 4 (some .int) 3 := ⟨tw_2 58 rfl rfl, tw_2 59 rfl rfl, tw_1 1 rfl rfl, tw_2 60 rfl rfl, by decide, by decide, by decide +kernel⟩
set_option maxRecDepth 100000 in
theorem mi_S_addRoad : zMI y_S_addRoad b_S_addRoad 6 (some .int) 3 := ⟨tw_2 62 rfl rfl, tw_2 63 rfl rfl, tw_1 2 rfl rfl, tw_2 64 rfl rfl, by decide, by decide, by decide +kernel⟩
set_option maxRecDepth 100000 in
theorem mi_S_dropSpans : zMI y_S_dropSpans b_S_dropSpans 4 (none) 2 := ⟨tw_2 66 rfl rfl, tw_2 67 rfl rfl, tw_1 2 rfl rfl, tw_2 68 rfl rfl, by decide, by decide, by decide +kernel⟩
set_option maxRecDepth 100000 in
theorem ms_Ar_fill_1 : zMS y_Ar_fill_1 b_Ar_fill_1 5 (none) 4 := ⟨tw_2 70 rfl rfl, tw_1 9 rfl rfl, tw_2 71 rfl rfl, by decide, by decide, by decide +kernel⟩
set_option maxRecDepth 100000 in
theorem ms_Ar_rangeCheck : zMS y_Ar_rangeCheck b_Ar_rangeCheck 3 (none) 3 := ⟨tw_2 73 rfl rfl, tw_1 9 rfl rfl, tw_2 74 rfl rfl, by decide, by decide, by decide +kernel⟩
set_option maxRecDepth 100000 in
theorem mi_S_addSpan : zMI y_S_addSpan b_S_addSpan 7 (none) 3 := ⟨tw_2 76 rfl rfl, tw_2 77 rfl rfl, tw_1 2 rfl rfl, tw_2 78 rfl rfl, by decide, by decide, by decide +kernel⟩
set_option maxRecDepth 100000 in
theorem mi_S_spanFrom : zMI y_S_spanFrom b_S_spanFrom 3 (some .int) 2 := ⟨tw_2 80 rfl rfl, tw_2 81 rfl rfl, tw_1 2 rfl rfl, tw_2 82 rfl rfl, by decide, by decide, by decide +kernel⟩
set_option maxRecDepth 100000 in
theorem mi_S_spanTo : zMI y_S_spanTo b_S_spanTo 3 (some .int) 2 := ⟨tw_2 84 rfl rfl, tw_2 85 rfl rfl, tw_1 2 rfl rfl, tw_2 86 rfl rfl, by decide, by decide, by decide +kernel⟩
set_option maxRecDepth 100000 in
theorem mi_X_open : zMI y_X_open b_X_open 6 (some .int) 4 := ⟨tw_2 88 rfl rfl, tw_2 89 rfl rfl, tw_1 1 rfl rfl, tw_2 90 rfl rfl, by decide, by decide, by decide +kernel⟩
set_option maxRecDepth 100000 in
theorem ms_X_isSpan : zMS y_X_isSpan b_X_isSpan 3 (some .boolean) 3 := ⟨tw_2 92 rfl rfl, tw_1 1 rfl rfl, tw_2 93 rfl rfl, by decide, by decide, by decide +kernel⟩
set_option maxRecDepth 100000 in
theorem mi_X_more : zMI y_X_more b_X_more 4 (some .int) 3 := ⟨tw_2 97 rfl rfl, tw_2 98 rfl rfl, tw_1 1 rfl rfl, tw_2 99 rfl rfl, by decide, by decide, by decide +kernel⟩
set_option maxRecDepth 100000 in
theorem mi_S_meetsSpan : zMI y_S_meetsSpan b_S_meetsSpan 6 (some .boolean) 3 := ⟨tw_2 101 rfl rfl, tw_2 102 rfl rfl, tw_1 2 rfl rfl, tw_2 103 rfl rfl, by decide, by decide, by decide +kernel⟩
set_option maxRecDepth 100000 in
theorem mi_X_close : zMI y_X_close b_X_close 4 (some .int) 3 := ⟨tw_2 105 rfl rfl, tw_2 106 rfl rfl, tw_1 1 rfl rfl, tw_2 107 rfl rfl, by decide, by decide, by decide +kernel⟩
set_option maxRecDepth 100000 in
theorem mi_S_addClosure : zMI y_S_addClosure b_S_addClosure 5 (some .int) 3 := ⟨tw_2 109 rfl rfl, tw_2 110 rfl rfl, tw_1 2 rfl rfl, tw_2 111 rfl rfl, by decide, by decide, by decide +kernel⟩
set_option maxRecDepth 100000 in
theorem mi_X_lift : zMI y_X_lift b_X_lift 2 (some .int) 1 := ⟨tw_2 113 rfl rfl, tw_2 114 rfl rfl, tw_1 1 rfl rfl, tw_2 115 rfl rfl, by decide, by decide, by decide +kernel⟩
set_option maxRecDepth 100000 in
theorem mi_S_dropClosure : zMI y_S_dropClosure b_S_dropClosure 3 (none) 1 := ⟨tw_2 117 rfl rfl, tw_2 118 rfl rfl, tw_1 2 rfl rfl, tw_2 119 rfl rfl, by decide, by decide, by decide +kernel⟩
set_option maxRecDepth 100000 in
theorem mi_X_traveller : zMI y_X_traveller b_X_traveller 3 (some .int) 2 := ⟨tw_2 121 rfl rfl, tw_2 122 rfl rfl, tw_1 1 rfl rfl, tw_2 123 rfl rfl, by decide, by decide, by decide +kernel⟩
set_option maxRecDepth 100000 in
theorem mi_S_addTraveller : zMI y_S_addTraveller b_S_addTraveller 4 (some .int) 2 := ⟨tw_2 125 rfl rfl, tw_2 126 rfl rfl, tw_1 2 rfl rfl, tw_2 127 rfl rfl, by decide, by decide, by decide +kernel⟩
set_option maxRecDepth 100000 in
theorem mi_X_go : zMI y_X_go b_X_go 4 (some .int) 2 := ⟨tw_2 129 rfl rfl, tw_2 130 rfl rfl, tw_1 1 rfl rfl, tw_2 131 rfl rfl, by decide, by decide, by decide +kernel⟩
set_option maxRecDepth 100000 in
theorem mi_S_whyNoGoing : zMI y_S_whyNoGoing b_S_whyNoGoing 3 (some .int) 2 := ⟨tw_2 133 rfl rfl, tw_2 134 rfl rfl, tw_1 2 rfl rfl, tw_2 135 rfl rfl, by decide, by decide, by decide +kernel⟩
set_option maxRecDepth 100000 in
theorem mi_S_whyNoEntry : zMI y_S_whyNoEntry b_S_whyNoEntry 6 (some .int) 2 := ⟨tw_2 137 rfl rfl, tw_2 138 rfl rfl, tw_1 2 rfl rfl, tw_2 139 rfl rfl, by decide, by decide, by decide +kernel⟩
set_option maxRecDepth 100000 in
theorem mi_S_spanEnd : zMI y_S_spanEnd b_S_spanEnd 5 (some .int) 2 := ⟨tw_2 141 rfl rfl, tw_2 142 rfl rfl, tw_1 2 rfl rfl, tw_2 143 rfl rfl, by decide, by decide, by decide +kernel⟩
set_option maxRecDepth 100000 in
theorem mi_S_closedAt : zMI y_S_closedAt b_S_closedAt 4 (some .boolean) 2 := ⟨tw_2 145 rfl rfl, tw_2 146 rfl rfl, tw_1 2 rfl rfl, tw_2 147 rfl rfl, by decide, by decide, by decide +kernel⟩
set_option maxRecDepth 100000 in
theorem mi_X_refuse : zMI y_X_refuse b_X_refuse 2 (some .int) 1 := ⟨tw_2 150 rfl rfl, tw_l 1 rfl rfl, tw_1 1 rfl rfl, tw_2 151 rfl rfl, by decide, by decide, by decide +kernel⟩
set_option maxRecDepth 100000 in
theorem mi_S_enter : zMI y_S_enter b_S_enter 6 (some .int) 2 := ⟨tw_2 153 rfl rfl, tw_2 154 rfl rfl, tw_1 2 rfl rfl, tw_2 155 rfl rfl, by decide, by decide, by decide +kernel⟩
set_option maxRecDepth 100000 in
theorem mi_X_stay : zMI y_X_stay b_X_stay 4 (some .int) 2 := ⟨tw_2 157 rfl rfl, tw_2 158 rfl rfl, tw_1 1 rfl rfl, tw_2 159 rfl rfl, by decide, by decide, by decide +kernel⟩
set_option maxRecDepth 100000 in
theorem mi_S_whyNoStaying : zMI y_S_whyNoStaying b_S_whyNoStaying 5 (some .int) 2 := ⟨tw_2 161 rfl rfl, tw_2 162 rfl rfl, tw_1 2 rfl rfl, tw_2 163 rfl rfl, by decide, by decide, by decide +kernel⟩
set_option maxRecDepth 100000 in
theorem mi_S_openUntil : zMI y_S_openUntil b_S_openUntil 6 (some .int) 2 := ⟨tw_2 165 rfl rfl, tw_2 166 rfl rfl, tw_1 2 rfl rfl, tw_2 167 rfl rfl, by decide, by decide, by decide +kernel⟩
set_option maxRecDepth 100000 in
theorem mi_S_waitThere : zMI y_S_waitThere b_S_waitThere 4 (some .int) 2 := ⟨tw_2 170 rfl rfl, tw_2 171 rfl rfl, tw_1 2 rfl rfl, tw_2 172 rfl rfl, by decide, by decide, by decide +kernel⟩
set_option maxRecDepth 100000 in
theorem mi_X_canStay : zMI y_X_canStay b_X_canStay 2 (some .int) 1 := ⟨tw_2 174 rfl rfl, tw_2 175 rfl rfl, tw_1 1 rfl rfl, tw_2 176 rfl rfl, by decide, by decide, by decide +kernel⟩
set_option maxRecDepth 100000 in
theorem mi_S_stayLeft : zMI y_S_stayLeft b_S_stayLeft 6 (some .int) 1 := ⟨tw_2 178 rfl rfl, tw_2 179 rfl rfl, tw_1 2 rfl rfl, tw_2 180 rfl rfl, by decide, by decide, by decide +kernel⟩
set_option maxRecDepth 100000 in
theorem ms_Ma_min : zMS y_Ma_min b_Ma_min 2 (some .int) 2 := ⟨tw_2 182 rfl rfl, tw_1 10 rfl rfl, tw_2 183 rfl rfl, by decide, by decide, by decide +kernel⟩
set_option maxRecDepth 100000 in
theorem ms_Ma_max : zMS y_Ma_max b_Ma_max 2 (some .int) 2 := ⟨tw_2 185 rfl rfl, tw_1 10 rfl rfl, tw_2 186 rfl rfl, by decide, by decide, by decide +kernel⟩
set_option maxRecDepth 100000 in
theorem ms_L_any : zMS y_L_any b_L_any 3 (some .int) 3 := ⟨tw_2 188 rfl rfl, tw_1 0 rfl rfl, tw_2 189 rfl rfl, by decide, by decide, by decide +kernel⟩
set_option maxRecDepth 100000 in
theorem ms_L_areRight : zMS y_L_areRight b_L_areRight 6 (some .boolean) 1 := ⟨tw_2 191 rfl rfl, tw_1 0 rfl rfl, tw_2 192 rfl rfl, by decide, by decide, by decide +kernel⟩
set_option maxRecDepth 100000 in
theorem mi_X_arrives : zMI y_X_arrives b_X_arrives 5 (some .int) 2 := ⟨tw_2 194 rfl rfl, tw_2 195 rfl rfl, tw_1 1 rfl rfl, tw_2 196 rfl rfl, by decide, by decide, by decide +kernel⟩
set_option maxRecDepth 100000 in
theorem mi_X_firstComing : zMI y_X_firstComing b_X_firstComing 8 (some .int) 6 := ⟨tw_2 199 rfl rfl, tw_l 2 rfl rfl, tw_1 1 rfl rfl, tw_2 200 rfl rfl, by decide, by decide, by decide +kernel⟩
set_option maxRecDepth 100000 in
theorem mi_G_prepare : zMI y_G_prepare b_G_prepare 5 (none) 1 := ⟨tw_2 202 rfl rfl, tw_2 203 rfl rfl, tw_1 4 rfl rfl, tw_2 204 rfl rfl, by decide, by decide, by decide +kernel⟩
set_option maxRecDepth 100000 in
theorem ms_Ar_fill_0 : zMS y_Ar_fill_0 b_Ar_fill_0 4 (none) 2 := ⟨tw_2 206 rfl rfl, tw_1 9 rfl rfl, tw_2 207 rfl rfl, by decide, by decide, by decide +kernel⟩
set_option maxRecDepth 100000 in
theorem mi_G_letIn : zMI y_G_letIn b_G_letIn 10 (none) 3 := ⟨tw_2 211 rfl rfl, tw_l 3 rfl rfl, tw_1 4 rfl rfl, tw_2 212 rfl rfl, by decide, by decide, by decide +kernel⟩
set_option maxRecDepth 100000 in
theorem mi_G_shut : zMI y_G_shut b_G_shut 6 (none) 2 := ⟨tw_2 218 rfl rfl, tw_l 4 rfl rfl, tw_1 4 rfl rfl, tw_2 219 rfl rfl, by decide, by decide, by decide +kernel⟩
set_option maxRecDepth 100000 in
theorem mi_O_start : zMI y_O_start b_O_start 3 (none) 2 := ⟨tw_2 222 rfl rfl, tw_2 223 rfl rfl, tw_1 5 rfl rfl, tw_2 224 rfl rfl, by decide, by decide, by decide +kernel⟩
set_option maxRecDepth 100000 in
theorem mi_O_comersAt : zMI y_O_comersAt b_O_comersAt 2 (some .int) 1 := ⟨tw_2 227 rfl rfl, tw_2 228 rfl rfl, tw_1 5 rfl rfl, tw_2 229 rfl rfl, by decide, by decide, by decide +kernel⟩
set_option maxRecDepth 100000 in
theorem ms_X_has : zMS y_X_has b_X_has 2 (some .boolean) 2 := ⟨tw_2 231 rfl rfl, tw_1 1 rfl rfl, tw_2 232 rfl rfl, by decide, by decide, by decide +kernel⟩
set_option maxRecDepth 100000 in
theorem mi_G_at : zMI y_G_at b_G_at 2 (some .int) 1 := ⟨tw_2 234 rfl rfl, tw_2 235 rfl rfl, tw_1 4 rfl rfl, tw_2 236 rfl rfl, by decide, by decide, by decide +kernel⟩
set_option maxRecDepth 100000 in
theorem mi_O_minute : zMI y_O_minute b_O_minute 7 (some .int) 3 := ⟨tw_2 238 rfl rfl, tw_2 239 rfl rfl, tw_1 5 rfl rfl, tw_3 0 rfl rfl, by decide, by decide, by decide +kernel⟩
set_option maxRecDepth 100000 in
theorem mi_S_waitEnd : zMI y_S_waitEnd b_S_waitEnd 4 (some .int) 2 := ⟨tw_3 3 rfl rfl, tw_3 4 rfl rfl, tw_1 2 rfl rfl, tw_3 5 rfl rfl, by decide, by decide, by decide +kernel⟩
set_option maxRecDepth 100000 in
theorem mi_O_leave : zMI y_O_leave b_O_leave 7 (none) 4 := ⟨tw_3 9 rfl rfl, tw_l 5 rfl rfl, tw_1 5 rfl rfl, tw_3 10 rfl rfl, by decide, by decide, by decide +kernel⟩
set_option maxRecDepth 100000 in
theorem ms_L_isDue : zMS y_L_isDue b_L_isDue 8 (some .boolean) 4 := ⟨tw_3 13 rfl rfl, tw_1 0 rfl rfl, tw_3 14 rfl rfl, by decide, by decide, by decide +kernel⟩
set_option maxRecDepth 100000 in
theorem mi_X_whyShut : zMI y_X_whyShut b_X_whyShut 3 (some .int) 2 := ⟨tw_3 16 rfl rfl, tw_3 17 rfl rfl, tw_1 1 rfl rfl, tw_3 18 rfl rfl, by decide, by decide, by decide +kernel⟩
set_option maxRecDepth 100000 in
theorem ms_L_isUndone : zMS y_L_isUndone b_L_isUndone 8 (some .boolean) 6 := ⟨tw_3 21 rfl rfl, tw_1 0 rfl rfl, tw_3 22 rfl rfl, by decide, by decide, by decide +kernel⟩
set_option maxRecDepth 100000 in
theorem mi_X_undo : zMI y_X_undo b_X_undo 1 (some .int) 0 := ⟨tw_3 24 rfl rfl, tw_3 25 rfl rfl, tw_1 1 rfl rfl, tw_3 26 rfl rfl, by decide, by decide, by decide +kernel⟩
set_option maxRecDepth 100000 in
theorem ms_L_isSaved : zMS y_L_isSaved b_L_isSaved 7 (some .boolean) 3 := ⟨tw_3 28 rfl rfl, tw_1 0 rfl rfl, tw_3 29 rfl rfl, by decide, by decide, by decide +kernel⟩
set_option maxRecDepth 100000 in
theorem mi_X_save : zMI y_X_save b_X_save 2 (some .int) 1 := ⟨tw_3 31 rfl rfl, tw_3 32 rfl rfl, tw_1 1 rfl rfl, tw_3 33 rfl rfl, by decide, by decide, by decide +kernel⟩
set_option maxRecDepth 100000 in
theorem mi_X_restore : zMI y_X_restore b_X_restore 2 (some .int) 1 := ⟨tw_3 35 rfl rfl, tw_3 36 rfl rfl, tw_1 1 rfl rfl, tw_3 37 rfl rfl, by decide, by decide, by decide +kernel⟩
end
section
theorem d_S_init_0 : zd b_S_init 0 1 (.aload_n 0) 1 := ⟨by decide +kernel, rfl⟩
theorem d_S_init_1 : zd b_S_init 1 4 (.invokespecial 3) 3 := ⟨by decide +kernel, rfl⟩
theorem d_S_init_4 : zd b_S_init 4 5 (.aload_n 0) 1 := ⟨by decide +kernel, rfl⟩
theorem d_S_init_5 : zd b_S_init 5 7 (.bipush 24) 2 := ⟨by decide +kernel, rfl⟩
theorem d_S_init_7 : zd b_S_init 7 9 (.newarray .int) 2 := ⟨by decide +kernel, rfl⟩
theorem d_S_init_9 : zd b_S_init 9 12 (.putfield 9) 3 := ⟨by decide +kernel, rfl⟩
theorem d_S_init_12 : zd b_S_init 12 13 (.aload_n 0) 1 := ⟨by decide +kernel, rfl⟩
theorem d_S_init_13 : zd b_S_init 13 16 (.sipush 264) 3 := ⟨by decide +kernel, rfl⟩
theorem d_S_init_16 : zd b_S_init 16 18 (.newarray .int) 2 := ⟨by decide +kernel, rfl⟩
theorem d_S_init_18 : zd b_S_init 18 21 (.putfield 15) 3 := ⟨by decide +kernel, rfl⟩
theorem d_S_init_21 : zd b_S_init 21 22 (.aload_n 0) 1 := ⟨by decide +kernel, rfl⟩
theorem d_S_init_22 : zd b_S_init 22 24 (.bipush 24) 2 := ⟨by decide +kernel, rfl⟩
theorem d_S_init_24 : zd b_S_init 24 26 (.newarray .int) 2 := ⟨by decide +kernel, rfl⟩
theorem d_S_init_26 : zd b_S_init 26 29 (.putfield 18) 3 := ⟨by decide +kernel, rfl⟩
theorem d_S_init_29 : zd b_S_init 29 30 (.aload_n 0) 1 := ⟨by decide +kernel, rfl⟩
theorem d_S_init_30 : zd b_S_init 30 32 (.bipush 60) 2 := ⟨by decide +kernel, rfl⟩
theorem d_S_init_32 : zd b_S_init 32 34 (.newarray .int) 2 := ⟨by decide +kernel, rfl⟩
theorem d_S_init_34 : zd b_S_init 34 37 (.putfield 21) 3 := ⟨by decide +kernel, rfl⟩
theorem d_S_init_37 : zd b_S_init 37 38 (.aload_n 0) 1 := ⟨by decide +kernel, rfl⟩
theorem d_S_init_38 : zd b_S_init 38 40 (.bipush 80) 2 := ⟨by decide +kernel, rfl⟩
theorem d_S_init_40 : zd b_S_init 40 42 (.newarray .int) 2 := ⟨by decide +kernel, rfl⟩
theorem d_S_init_42 : zd b_S_init 42 45 (.putfield 24) 3 := ⟨by decide +kernel, rfl⟩
theorem d_S_init_45 : zd b_S_init 45 46 (.iconst 0) 1 := ⟨by decide +kernel, rfl⟩
theorem d_S_init_46 : zd b_S_init 46 47 (.istore_n 1) 1 := ⟨by decide +kernel, rfl⟩
theorem d_S_init_47 : zd b_S_init 47 48 (.iload_n 1) 1 := ⟨by decide +kernel, rfl⟩
theorem d_S_init_48 : zd b_S_init 48 50 (.bipush 8) 2 := ⟨by decide +kernel, rfl⟩
theorem d_S_init_50 : zd b_S_init 50 53 (.if_icmp .ge 35) 3 := ⟨by decide +kernel, rfl⟩
theorem d_S_init_53 : zd b_S_init 53 54 (.aload_n 0) 1 := ⟨by decide +kernel, rfl⟩
theorem d_S_init_54 : zd b_S_init 54 57 (.getfield 9) 3 := ⟨by decide +kernel, rfl⟩
theorem d_S_init_57 : zd b_S_init 57 58 (.iload_n 1) 1 := ⟨by decide +kernel, rfl⟩
theorem d_S_init_58 : zd b_S_init 58 59 (.iconst 3) 1 := ⟨by decide +kernel, rfl⟩
theorem d_S_init_59 : zd b_S_init 59 60 (.imul) 1 := ⟨by decide +kernel, rfl⟩
theorem d_S_init_60 : zd b_S_init 60 61 (.iconst 1) 1 := ⟨by decide +kernel, rfl⟩
theorem d_S_init_61 : zd b_S_init 61 62 (.iadd) 1 := ⟨by decide +kernel, rfl⟩
theorem d_S_init_62 : zd b_S_init 62 65 (.sipush 1440) 3 := ⟨by decide +kernel, rfl⟩
theorem d_S_init_65 : zd b_S_init 65 66 (.iastore) 1 := ⟨by decide +kernel, rfl⟩
theorem d_S_init_66 : zd b_S_init 66 67 (.aload_n 0) 1 := ⟨by decide +kernel, rfl⟩
theorem d_S_init_67 : zd b_S_init 67 70 (.getfield 9) 3 := ⟨by decide +kernel, rfl⟩
theorem d_S_init_70 : zd b_S_init 70 71 (.iload_n 1) 1 := ⟨by decide +kernel, rfl⟩
theorem d_S_init_71 : zd b_S_init 71 72 (.iconst 3) 1 := ⟨by decide +kernel, rfl⟩
theorem d_S_init_72 : zd b_S_init 72 73 (.imul) 1 := ⟨by decide +kernel, rfl⟩
theorem d_S_init_73 : zd b_S_init 73 74 (.iconst 2) 1 := ⟨by decide +kernel, rfl⟩
theorem d_S_init_74 : zd b_S_init 74 75 (.iadd) 1 := ⟨by decide +kernel, rfl⟩
theorem d_S_init_75 : zd b_S_init 75 78 (.sipush 1000) 3 := ⟨by decide +kernel, rfl⟩
theorem d_S_init_78 : zd b_S_init 78 79 (.iastore) 1 := ⟨by decide +kernel, rfl⟩
theorem d_S_init_79 : zd b_S_init 79 82 (.iinc 1 1) 3 := ⟨by decide +kernel, rfl⟩
theorem d_S_init_82 : zd b_S_init 82 85 (.goto (-35)) 3 := ⟨by decide +kernel, rfl⟩
theorem d_S_init_85 : zd b_S_init 85 86 (.return_) 1 := ⟨by decide +kernel, rfl⟩
theorem d_P_init_0 : zd b_P_init 0 1 (.aload_n 0) 1 := ⟨by decide +kernel, rfl⟩
theorem d_P_init_1 : zd b_P_init 1 4 (.invokespecial 3) 3 := ⟨by decide +kernel, rfl⟩
theorem d_P_init_4 : zd b_P_init 4 5 (.aload_n 0) 1 := ⟨by decide +kernel, rfl⟩
theorem d_P_init_5 : zd b_P_init 5 7 (.bipush 80) 2 := ⟨by decide +kernel, rfl⟩
theorem d_P_init_7 : zd b_P_init 7 9 (.newarray .char) 2 := ⟨by decide +kernel, rfl⟩
theorem d_P_init_9 : zd b_P_init 9 12 (.putfield 9) 3 := ⟨by decide +kernel, rfl⟩
theorem d_P_init_12 : zd b_P_init 12 13 (.aload_n 0) 1 := ⟨by decide +kernel, rfl⟩
theorem d_P_init_13 : zd b_P_init 13 14 (.iconst 3) 1 := ⟨by decide +kernel, rfl⟩
theorem d_P_init_14 : zd b_P_init 14 16 (.newarray .int) 2 := ⟨by decide +kernel, rfl⟩
theorem d_P_init_16 : zd b_P_init 16 19 (.putfield 15) 3 := ⟨by decide +kernel, rfl⟩
theorem d_P_init_19 : zd b_P_init 19 20 (.aload_n 0) 1 := ⟨by decide +kernel, rfl⟩
theorem d_P_init_20 : zd b_P_init 20 22 (.bipush 6) 2 := ⟨by decide +kernel, rfl⟩
theorem d_P_init_22 : zd b_P_init 22 24 (.newarray .int) 2 := ⟨by decide +kernel, rfl⟩
theorem d_P_init_24 : zd b_P_init 24 27 (.putfield 19) 3 := ⟨by decide +kernel, rfl⟩
theorem d_P_init_27 : zd b_P_init 27 28 (.return_) 1 := ⟨by decide +kernel, rfl⟩
theorem d_G_init_0 : zd b_G_init 0 1 (.aload_n 0) 1 := ⟨by decide +kernel, rfl⟩
theorem d_G_init_1 : zd b_G_init 1 4 (.invokespecial 3) 3 := ⟨by decide +kernel, rfl⟩
theorem d_G_init_4 : zd b_G_init 4 5 (.aload_n 0) 1 := ⟨by decide +kernel, rfl⟩
theorem d_G_init_5 : zd b_G_init 5 8 (.sipush 2881) 3 := ⟨by decide +kernel, rfl⟩
theorem d_G_init_8 : zd b_G_init 8 10 (.newarray .int) 2 := ⟨by decide +kernel, rfl⟩
theorem d_G_init_10 : zd b_G_init 10 13 (.putfield 9) 3 := ⟨by decide +kernel, rfl⟩
theorem d_G_init_13 : zd b_G_init 13 14 (.return_) 1 := ⟨by decide +kernel, rfl⟩
theorem d_O_init_0 : zd b_O_init 0 1 (.aload_n 0) 1 := ⟨by decide +kernel, rfl⟩
theorem d_O_init_1 : zd b_O_init 1 4 (.invokespecial 3) 3 := ⟨by decide +kernel, rfl⟩
theorem d_O_init_4 : zd b_O_init 4 5 (.aload_n 0) 1 := ⟨by decide +kernel, rfl⟩
theorem d_O_init_5 : zd b_O_init 5 8 (.sipush 1024) 3 := ⟨by decide +kernel, rfl⟩
theorem d_O_init_8 : zd b_O_init 8 10 (.newarray .int) 2 := ⟨by decide +kernel, rfl⟩
theorem d_O_init_10 : zd b_O_init 10 13 (.putfield 9) 3 := ⟨by decide +kernel, rfl⟩
theorem d_O_init_13 : zd b_O_init 13 14 (.aload_n 0) 1 := ⟨by decide +kernel, rfl⟩
theorem d_O_init_14 : zd b_O_init 14 16 (.bipush 8) 2 := ⟨by decide +kernel, rfl⟩
theorem d_O_init_16 : zd b_O_init 16 18 (.newarray .int) 2 := ⟨by decide +kernel, rfl⟩
theorem d_O_init_18 : zd b_O_init 18 21 (.putfield 15) 3 := ⟨by decide +kernel, rfl⟩
theorem d_O_init_21 : zd b_O_init 21 22 (.return_) 1 := ⟨by decide +kernel, rfl⟩
theorem d_B_init_0 : zd b_B_init 0 1 (.aload_n 0) 1 := ⟨by decide +kernel, rfl⟩
theorem d_B_init_1 : zd b_B_init 1 4 (.invokespecial 3) 3 := ⟨by decide +kernel, rfl⟩
theorem d_B_init_4 : zd b_B_init 4 5 (.aload_n 0) 1 := ⟨by decide +kernel, rfl⟩
theorem d_B_init_5 : zd b_B_init 5 8 (.sipush 2881) 3 := ⟨by decide +kernel, rfl⟩
theorem d_B_init_8 : zd b_B_init 8 10 (.newarray .int) 2 := ⟨by decide +kernel, rfl⟩
theorem d_B_init_10 : zd b_B_init 10 13 (.putfield 9) 3 := ⟨by decide +kernel, rfl⟩
theorem d_B_init_13 : zd b_B_init 13 14 (.aload_n 0) 1 := ⟨by decide +kernel, rfl⟩
theorem d_B_init_14 : zd b_B_init 14 16 (.bipush 8) 2 := ⟨by decide +kernel, rfl⟩
theorem d_B_init_16 : zd b_B_init 16 18 (.newarray .int) 2 := ⟨by decide +kernel, rfl⟩
theorem d_B_init_18 : zd b_B_init 18 21 (.putfield 15) 3 := ⟨by decide +kernel, rfl⟩
theorem d_B_init_21 : zd b_B_init 21 22 (.return_) 1 := ⟨by decide +kernel, rfl⟩
theorem d_F_init_0 : zd b_F_init 0 1 (.aload_n 0) 1 := ⟨by decide +kernel, rfl⟩
theorem d_F_init_1 : zd b_F_init 1 4 (.invokespecial 3) 3 := ⟨by decide +kernel, rfl⟩
theorem d_F_init_4 : zd b_F_init 4 5 (.aload_n 0) 1 := ⟨by decide +kernel, rfl⟩
theorem d_F_init_5 : zd b_F_init 5 8 (.sipush 8192) 3 := ⟨by decide +kernel, rfl⟩
theorem d_F_init_8 : zd b_F_init 8 10 (.newarray .int) 2 := ⟨by decide +kernel, rfl⟩
theorem d_F_init_10 : zd b_F_init 10 13 (.putfield 9) 3 := ⟨by decide +kernel, rfl⟩
theorem d_F_init_13 : zd b_F_init 13 14 (.aload_n 0) 1 := ⟨by decide +kernel, rfl⟩
theorem d_F_init_14 : zd b_F_init 14 17 (.sipush 8192) 3 := ⟨by decide +kernel, rfl⟩
theorem d_F_init_17 : zd b_F_init 17 19 (.newarray .int) 2 := ⟨by decide +kernel, rfl⟩
theorem d_F_init_19 : zd b_F_init 19 22 (.putfield 15) 3 := ⟨by decide +kernel, rfl⟩
theorem d_F_init_22 : zd b_F_init 22 23 (.aload_n 0) 1 := ⟨by decide +kernel, rfl⟩
theorem d_F_init_23 : zd b_F_init 23 25 (.bipush 8) 2 := ⟨by decide +kernel, rfl⟩
theorem d_F_init_25 : zd b_F_init 25 27 (.newarray .int) 2 := ⟨by decide +kernel, rfl⟩
theorem d_F_init_27 : zd b_F_init 27 30 (.putfield 18) 3 := ⟨by decide +kernel, rfl⟩
theorem d_F_init_30 : zd b_F_init 30 31 (.aload_n 0) 1 := ⟨by decide +kernel, rfl⟩
theorem d_F_init_31 : zd b_F_init 31 33 (.bipush 8) 2 := ⟨by decide +kernel, rfl⟩
theorem d_F_init_33 : zd b_F_init 33 35 (.newarray .int) 2 := ⟨by decide +kernel, rfl⟩
theorem d_F_init_35 : zd b_F_init 35 38 (.putfield 21) 3 := ⟨by decide +kernel, rfl⟩
theorem d_F_init_38 : zd b_F_init 38 39 (.aload_n 0) 1 := ⟨by decide +kernel, rfl⟩
theorem d_F_init_39 : zd b_F_init 39 41 (.bipush 8) 2 := ⟨by decide +kernel, rfl⟩
theorem d_F_init_41 : zd b_F_init 41 43 (.newarray .int) 2 := ⟨by decide +kernel, rfl⟩
theorem d_F_init_43 : zd b_F_init 43 46 (.putfield 24) 3 := ⟨by decide +kernel, rfl⟩
theorem d_F_init_46 : zd b_F_init 46 47 (.return_) 1 := ⟨by decide +kernel, rfl⟩
theorem d_X_init_0 : zd b_X_init 0 1 (.aload_n 0) 1 := ⟨by decide +kernel, rfl⟩
theorem d_X_init_1 : zd b_X_init 1 4 (.invokespecial 3) 3 := ⟨by decide +kernel, rfl⟩
theorem d_X_init_4 : zd b_X_init 4 5 (.aload_n 0) 1 := ⟨by decide +kernel, rfl⟩
theorem d_X_init_5 : zd b_X_init 5 8 (.new 9) 3 := ⟨by decide +kernel, rfl⟩
theorem d_X_init_8 : zd b_X_init 8 9 (.dup) 1 := ⟨by decide +kernel, rfl⟩
theorem d_X_init_9 : zd b_X_init 9 12 (.invokespecial 11) 3 := ⟨by decide +kernel, rfl⟩
theorem d_X_init_12 : zd b_X_init 12 15 (.putfield 12) 3 := ⟨by decide +kernel, rfl⟩
theorem d_X_init_15 : zd b_X_init 15 16 (.aload_n 0) 1 := ⟨by decide +kernel, rfl⟩
theorem d_X_init_16 : zd b_X_init 16 18 (.bipush 6) 2 := ⟨by decide +kernel, rfl⟩
theorem d_X_init_18 : zd b_X_init 18 21 (.anewarray 9) 3 := ⟨by decide +kernel, rfl⟩
theorem d_X_init_21 : zd b_X_init 21 24 (.putfield 16) 3 := ⟨by decide +kernel, rfl⟩
theorem d_X_init_24 : zd b_X_init 24 25 (.aload_n 0) 1 := ⟨by decide +kernel, rfl⟩
theorem d_X_init_25 : zd b_X_init 25 26 (.iconst 2) 1 := ⟨by decide +kernel, rfl⟩
theorem d_X_init_26 : zd b_X_init 26 29 (.anewarray 9) 3 := ⟨by decide +kernel, rfl⟩
theorem d_X_init_29 : zd b_X_init 29 32 (.putfield 20) 3 := ⟨by decide +kernel, rfl⟩
theorem d_X_init_32 : zd b_X_init 32 33 (.aload_n 0) 1 := ⟨by decide +kernel, rfl⟩
theorem d_X_init_33 : zd b_X_init 33 34 (.iconst 2) 1 := ⟨by decide +kernel, rfl⟩
theorem d_X_init_34 : zd b_X_init 34 36 (.newarray .boolean) 2 := ⟨by decide +kernel, rfl⟩
theorem d_X_init_36 : zd b_X_init 36 39 (.putfield 23) 3 := ⟨by decide +kernel, rfl⟩
theorem d_X_init_39 : zd b_X_init 39 40 (.aload_n 0) 1 := ⟨by decide +kernel, rfl⟩
theorem d_X_init_40 : zd b_X_init 40 43 (.new 27) 3 := ⟨by decide +kernel, rfl⟩
theorem d_X_init_43 : zd b_X_init 43 44 (.dup) 1 := ⟨by decide +kernel, rfl⟩
theorem d_X_init_44 : zd b_X_init 44 47 (.invokespecial 29) 3 := ⟨by decide +kernel, rfl⟩
theorem d_X_init_47 : zd b_X_init 47 50 (.putfield 30) 3 := ⟨by decide +kernel, rfl⟩
theorem d_X_init_50 : zd b_X_init 50 51 (.aload_n 0) 1 := ⟨by decide +kernel, rfl⟩
theorem d_X_init_51 : zd b_X_init 51 54 (.new 34) 3 := ⟨by decide +kernel, rfl⟩
theorem d_X_init_54 : zd b_X_init 54 55 (.dup) 1 := ⟨by decide +kernel, rfl⟩
theorem d_X_init_55 : zd b_X_init 55 58 (.invokespecial 36) 3 := ⟨by decide +kernel, rfl⟩
theorem d_X_init_58 : zd b_X_init 58 61 (.putfield 37) 3 := ⟨by decide +kernel, rfl⟩
theorem d_X_init_61 : zd b_X_init 61 62 (.aload_n 0) 1 := ⟨by decide +kernel, rfl⟩
theorem d_X_init_62 : zd b_X_init 62 65 (.new 41) 3 := ⟨by decide +kernel, rfl⟩
theorem d_X_init_65 : zd b_X_init 65 66 (.dup) 1 := ⟨by decide +kernel, rfl⟩
theorem d_X_init_66 : zd b_X_init 66 69 (.invokespecial 43) 3 := ⟨by decide +kernel, rfl⟩
theorem d_X_init_69 : zd b_X_init 69 72 (.putfield 44) 3 := ⟨by decide +kernel, rfl⟩
theorem d_X_init_72 : zd b_X_init 72 73 (.aload_n 0) 1 := ⟨by decide +kernel, rfl⟩
theorem d_X_init_73 : zd b_X_init 73 76 (.new 41) 3 := ⟨by decide +kernel, rfl⟩
theorem d_X_init_76 : zd b_X_init 76 77 (.dup) 1 := ⟨by decide +kernel, rfl⟩
theorem d_X_init_77 : zd b_X_init 77 80 (.invokespecial 43) 3 := ⟨by decide +kernel, rfl⟩
theorem d_X_init_80 : zd b_X_init 80 83 (.putfield 48) 3 := ⟨by decide +kernel, rfl⟩
theorem d_X_init_83 : zd b_X_init 83 84 (.aload_n 0) 1 := ⟨by decide +kernel, rfl⟩
theorem d_X_init_84 : zd b_X_init 84 87 (.new 51) 3 := ⟨by decide +kernel, rfl⟩
theorem d_X_init_87 : zd b_X_init 87 88 (.dup) 1 := ⟨by decide +kernel, rfl⟩
theorem d_X_init_88 : zd b_X_init 88 91 (.invokespecial 53) 3 := ⟨by decide +kernel, rfl⟩
theorem d_X_init_91 : zd b_X_init 91 94 (.putfield 54) 3 := ⟨by decide +kernel, rfl⟩
theorem d_X_init_94 : zd b_X_init 94 95 (.aload_n 0) 1 := ⟨by decide +kernel, rfl⟩
theorem d_X_init_95 : zd b_X_init 95 98 (.new 58) 3 := ⟨by decide +kernel, rfl⟩
theorem d_X_init_98 : zd b_X_init 98 99 (.dup) 1 := ⟨by decide +kernel, rfl⟩
theorem d_X_init_99 : zd b_X_init 99 102 (.invokespecial 60) 3 := ⟨by decide +kernel, rfl⟩
theorem d_X_init_102 : zd b_X_init 102 105 (.putfield 61) 3 := ⟨by decide +kernel, rfl⟩
theorem d_X_init_105 : zd b_X_init 105 106 (.iconst 0) 1 := ⟨by decide +kernel, rfl⟩
theorem d_X_init_106 : zd b_X_init 106 107 (.istore_n 1) 1 := ⟨by decide +kernel, rfl⟩
theorem d_X_init_107 : zd b_X_init 107 108 (.iload_n 1) 1 := ⟨by decide +kernel, rfl⟩
theorem d_X_init_108 : zd b_X_init 108 110 (.bipush 6) 2 := ⟨by decide +kernel, rfl⟩
theorem d_X_init_110 : zd b_X_init 110 113 (.if_icmp .ge 22) 3 := ⟨by decide +kernel, rfl⟩
theorem d_X_init_113 : zd b_X_init 113 114 (.aload_n 0) 1 := ⟨by decide +kernel, rfl⟩
theorem d_X_init_114 : zd b_X_init 114 117 (.getfield 16) 3 := ⟨by decide +kernel, rfl⟩
theorem d_X_init_117 : zd b_X_init 117 118 (.iload_n 1) 1 := ⟨by decide +kernel, rfl⟩
theorem d_X_init_118 : zd b_X_init 118 121 (.new 9) 3 := ⟨by decide +kernel, rfl⟩
theorem d_X_init_121 : zd b_X_init 121 122 (.dup) 1 := ⟨by decide +kernel, rfl⟩
theorem d_X_init_122 : zd b_X_init 122 125 (.invokespecial 11) 3 := ⟨by decide +kernel, rfl⟩
theorem d_X_init_125 : zd b_X_init 125 126 (.aastore) 1 := ⟨by decide +kernel, rfl⟩
theorem d_X_init_126 : zd b_X_init 126 129 (.iinc 1 1) 3 := ⟨by decide +kernel, rfl⟩
theorem d_X_init_129 : zd b_X_init 129 132 (.goto (-22)) 3 := ⟨by decide +kernel, rfl⟩
theorem d_X_init_132 : zd b_X_init 132 133 (.iconst 0) 1 := ⟨by decide +kernel, rfl⟩
theorem d_X_init_133 : zd b_X_init 133 134 (.istore_n 1) 1 := ⟨by decide +kernel, rfl⟩
theorem d_X_init_134 : zd b_X_init 134 135 (.iload_n 1) 1 := ⟨by decide +kernel, rfl⟩
theorem d_X_init_135 : zd b_X_init 135 136 (.iconst 2) 1 := ⟨by decide +kernel, rfl⟩
theorem d_X_init_136 : zd b_X_init 136 139 (.if_icmp .ge 22) 3 := ⟨by decide +kernel, rfl⟩
theorem d_X_init_139 : zd b_X_init 139 140 (.aload_n 0) 1 := ⟨by decide +kernel, rfl⟩
theorem d_X_init_140 : zd b_X_init 140 143 (.getfield 20) 3 := ⟨by decide +kernel, rfl⟩
theorem d_X_init_143 : zd b_X_init 143 144 (.iload_n 1) 1 := ⟨by decide +kernel, rfl⟩
theorem d_X_init_144 : zd b_X_init 144 147 (.new 9) 3 := ⟨by decide +kernel, rfl⟩
theorem d_X_init_147 : zd b_X_init 147 148 (.dup) 1 := ⟨by decide +kernel, rfl⟩
theorem d_X_init_148 : zd b_X_init 148 151 (.invokespecial 11) 3 := ⟨by decide +kernel, rfl⟩
theorem d_X_init_151 : zd b_X_init 151 152 (.aastore) 1 := ⟨by decide +kernel, rfl⟩
theorem d_X_init_152 : zd b_X_init 152 155 (.iinc 1 1) 3 := ⟨by decide +kernel, rfl⟩
theorem d_X_init_155 : zd b_X_init 155 158 (.goto (-21)) 3 := ⟨by decide +kernel, rfl⟩
theorem d_X_init_158 : zd b_X_init 158 159 (.return_) 1 := ⟨by decide +kernel, rfl⟩
theorem d_X_count_0 : zd b_X_count 0 1 (.iload_n 1) 1 := ⟨by decide +kernel, rfl⟩
theorem d_X_count_1 : zd b_X_count 1 40 (.tableswitch 81 0 5 #[39, 47, 55, 63, 68, 76]) 39 := ⟨by decide +kernel, rfl⟩
theorem d_X_count_40 : zd b_X_count 40 41 (.aload_n 0) 1 := ⟨by decide +kernel, rfl⟩
theorem d_X_count_41 : zd b_X_count 41 44 (.getfield 12) 3 := ⟨by decide +kernel, rfl⟩
theorem d_X_count_44 : zd b_X_count 44 47 (.getfield 80) 3 := ⟨by decide +kernel, rfl⟩
theorem d_X_count_47 : zd b_X_count 47 48 (.ireturn) 1 := ⟨by decide +kernel, rfl⟩
theorem d_X_count_48 : zd b_X_count 48 49 (.aload_n 0) 1 := ⟨by decide +kernel, rfl⟩
theorem d_X_count_49 : zd b_X_count 49 52 (.getfield 12) 3 := ⟨by decide +kernel, rfl⟩
theorem d_X_count_52 : zd b_X_count 52 55 (.getfield 109) 3 := ⟨by decide +kernel, rfl⟩
theorem d_X_count_55 : zd b_X_count 55 56 (.ireturn) 1 := ⟨by decide +kernel, rfl⟩
theorem d_X_count_56 : zd b_X_count 56 57 (.aload_n 0) 1 := ⟨by decide +kernel, rfl⟩
theorem d_X_count_57 : zd b_X_count 57 60 (.getfield 12) 3 := ⟨by decide +kernel, rfl⟩
theorem d_X_count_60 : zd b_X_count 60 63 (.getfield 122) 3 := ⟨by decide +kernel, rfl⟩
theorem d_X_count_63 : zd b_X_count 63 64 (.ireturn) 1 := ⟨by decide +kernel, rfl⟩
theorem d_X_count_64 : zd b_X_count 64 65 (.aload_n 0) 1 := ⟨by decide +kernel, rfl⟩
theorem d_X_count_65 : zd b_X_count 65 68 (.getfield 168) 3 := ⟨by decide +kernel, rfl⟩
theorem d_X_count_68 : zd b_X_count 68 69 (.ireturn) 1 := ⟨by decide +kernel, rfl⟩
theorem d_X_count_69 : zd b_X_count 69 70 (.aload_n 0) 1 := ⟨by decide +kernel, rfl⟩
theorem d_X_count_70 : zd b_X_count 70 73 (.getfield 30) 3 := ⟨by decide +kernel, rfl⟩
theorem d_X_count_73 : zd b_X_count 73 76 (.getfield 171) 3 := ⟨by decide +kernel, rfl⟩
theorem d_X_count_76 : zd b_X_count 76 77 (.ireturn) 1 := ⟨by decide +kernel, rfl⟩
theorem d_X_count_77 : zd b_X_count 77 78 (.aload_n 0) 1 := ⟨by decide +kernel, rfl⟩
theorem d_X_count_78 : zd b_X_count 78 81 (.getfield 174) 3 := ⟨by decide +kernel, rfl⟩
theorem d_X_count_81 : zd b_X_count 81 82 (.ireturn) 1 := ⟨by decide +kernel, rfl⟩
theorem d_X_count_82 : zd b_X_count 82 84 (.bipush (-2)) 2 := ⟨by decide +kernel, rfl⟩
theorem d_X_count_84 : zd b_X_count 84 85 (.ireturn) 1 := ⟨by decide +kernel, rfl⟩
theorem d_X_within_0 : zd b_X_within 0 1 (.iload_n 0) 1 := ⟨by decide +kernel, rfl⟩
theorem d_X_within_1 : zd b_X_within 1 2 (.iload_n 1) 1 := ⟨by decide +kernel, rfl⟩
theorem d_X_within_2 : zd b_X_within 2 5 (.if_icmp .lt 12) 3 := ⟨by decide +kernel, rfl⟩
theorem d_X_within_5 : zd b_X_within 5 6 (.iload_n 0) 1 := ⟨by decide +kernel, rfl⟩
theorem d_X_within_6 : zd b_X_within 6 7 (.iload_n 2) 1 := ⟨by decide +kernel, rfl⟩
theorem d_X_within_7 : zd b_X_within 7 10 (.if_icmp .gt 7) 3 := ⟨by decide +kernel, rfl⟩
theorem d_X_within_10 : zd b_X_within 10 11 (.iconst 1) 1 := ⟨by decide +kernel, rfl⟩
theorem d_X_within_11 : zd b_X_within 11 14 (.goto 4) 3 := ⟨by decide +kernel, rfl⟩
theorem d_X_within_14 : zd b_X_within 14 15 (.iconst 0) 1 := ⟨by decide +kernel, rfl⟩
theorem d_X_within_15 : zd b_X_within 15 16 (.ireturn) 1 := ⟨by decide +kernel, rfl⟩
theorem d_X_isPlace_0 : zd b_X_isPlace 0 1 (.iload_n 0) 1 := ⟨by decide +kernel, rfl⟩
theorem d_X_isPlace_1 : zd b_X_isPlace 1 2 (.iconst 0) 1 := ⟨by decide +kernel, rfl⟩
theorem d_X_isPlace_2 : zd b_X_isPlace 2 4 (.bipush 7) 2 := ⟨by decide +kernel, rfl⟩
theorem d_X_isPlace_4 : zd b_X_isPlace 4 7 (.invokestatic 69) 3 := ⟨by decide +kernel, rfl⟩
theorem d_X_isPlace_7 : zd b_X_isPlace 7 8 (.ireturn) 1 := ⟨by decide +kernel, rfl⟩
theorem d_S_ofRoads_0 : zd b_S_ofRoads 0 1 (.aload_n 0) 1 := ⟨by decide +kernel, rfl⟩
theorem d_S_ofRoads_1 : zd b_S_ofRoads 1 4 (.getfield 15) 3 := ⟨by decide +kernel, rfl⟩
theorem d_S_ofRoads_4 : zd b_S_ofRoads 4 5 (.iload_n 1) 1 := ⟨by decide +kernel, rfl⟩
theorem d_S_ofRoads_5 : zd b_S_ofRoads 5 7 (.bipush 11) 2 := ⟨by decide +kernel, rfl⟩
theorem d_S_ofRoads_7 : zd b_S_ofRoads 7 8 (.imul) 1 := ⟨by decide +kernel, rfl⟩
theorem d_S_ofRoads_8 : zd b_S_ofRoads 8 9 (.iload_n 2) 1 := ⟨by decide +kernel, rfl⟩
theorem d_S_ofRoads_9 : zd b_S_ofRoads 9 10 (.iadd) 1 := ⟨by decide +kernel, rfl⟩
theorem d_S_ofRoads_10 : zd b_S_ofRoads 10 11 (.iaload) 1 := ⟨by decide +kernel, rfl⟩
theorem d_S_ofRoads_11 : zd b_S_ofRoads 11 12 (.ireturn) 1 := ⟨by decide +kernel, rfl⟩
theorem d_S_roadsWith_0 : zd b_S_roadsWith 0 1 (.iconst 0) 1 := ⟨by decide +kernel, rfl⟩
theorem d_S_roadsWith_1 : zd b_S_roadsWith 1 2 (.istore_n 3) 1 := ⟨by decide +kernel, rfl⟩
theorem d_S_roadsWith_2 : zd b_S_roadsWith 2 3 (.iconst 0) 1 := ⟨by decide +kernel, rfl⟩
theorem d_S_roadsWith_3 : zd b_S_roadsWith 3 5 (.istore 4) 2 := ⟨by decide +kernel, rfl⟩
theorem d_S_roadsWith_5 : zd b_S_roadsWith 5 7 (.iload 4) 2 := ⟨by decide +kernel, rfl⟩
theorem d_S_roadsWith_7 : zd b_S_roadsWith 7 8 (.aload_n 0) 1 := ⟨by decide +kernel, rfl⟩
theorem d_S_roadsWith_8 : zd b_S_roadsWith 8 11 (.getfield 33) 3 := ⟨by decide +kernel, rfl⟩
theorem d_S_roadsWith_11 : zd b_S_roadsWith 11 14 (.if_icmp .ge 27) 3 := ⟨by decide +kernel, rfl⟩
theorem d_S_roadsWith_14 : zd b_S_roadsWith 14 15 (.aload_n 0) 1 := ⟨by decide +kernel, rfl⟩
theorem d_S_roadsWith_15 : zd b_S_roadsWith 15 17 (.iload 4) 2 := ⟨by decide +kernel, rfl⟩
theorem d_S_roadsWith_17 : zd b_S_roadsWith 17 18 (.iload_n 1) 1 := ⟨by decide +kernel, rfl⟩
theorem d_S_roadsWith_18 : zd b_S_roadsWith 18 21 (.invokevirtual 57) 3 := ⟨by decide +kernel, rfl⟩
theorem d_S_roadsWith_21 : zd b_S_roadsWith 21 22 (.iload_n 2) 1 := ⟨by decide +kernel, rfl⟩
theorem d_S_roadsWith_22 : zd b_S_roadsWith 22 25 (.if_icmp .ne 10) 3 := ⟨by decide +kernel, rfl⟩
theorem d_S_roadsWith_25 : zd b_S_roadsWith 25 26 (.iload_n 3) 1 := ⟨by decide +kernel, rfl⟩
theorem d_S_roadsWith_26 : zd b_S_roadsWith 26 27 (.iconst 1) 1 := ⟨by decide +kernel, rfl⟩
theorem d_S_roadsWith_27 : zd b_S_roadsWith 27 29 (.iload 4) 2 := ⟨by decide +kernel, rfl⟩
theorem d_S_roadsWith_29 : zd b_S_roadsWith 29 30 (.ishl) 1 := ⟨by decide +kernel, rfl⟩
theorem d_S_roadsWith_30 : zd b_S_roadsWith 30 31 (.ior) 1 := ⟨by decide +kernel, rfl⟩
theorem d_S_roadsWith_31 : zd b_S_roadsWith 31 32 (.istore_n 3) 1 := ⟨by decide +kernel, rfl⟩
theorem d_S_roadsWith_32 : zd b_S_roadsWith 32 35 (.iinc 4 1) 3 := ⟨by decide +kernel, rfl⟩
theorem d_S_roadsWith_35 : zd b_S_roadsWith 35 38 (.goto (-30)) 3 := ⟨by decide +kernel, rfl⟩
theorem d_S_roadsWith_38 : zd b_S_roadsWith 38 39 (.iload_n 3) 1 := ⟨by decide +kernel, rfl⟩
theorem d_S_roadsWith_39 : zd b_S_roadsWith 39 40 (.ireturn) 1 := ⟨by decide +kernel, rfl⟩
theorem d_S_ofTravellers_0 : zd b_S_ofTravellers 0 1 (.aload_n 0) 1 := ⟨by decide +kernel, rfl⟩
theorem d_S_ofTravellers_1 : zd b_S_ofTravellers 1 4 (.getfield 24) 3 := ⟨by decide +kernel, rfl⟩
theorem d_S_ofTravellers_4 : zd b_S_ofTravellers 4 5 (.iload_n 1) 1 := ⟨by decide +kernel, rfl⟩
theorem d_S_ofTravellers_5 : zd b_S_ofTravellers 5 7 (.bipush 8) 2 := ⟨by decide +kernel, rfl⟩
theorem d_S_ofTravellers_7 : zd b_S_ofTravellers 7 8 (.imul) 1 := ⟨by decide +kernel, rfl⟩
theorem d_S_ofTravellers_8 : zd b_S_ofTravellers 8 9 (.iload_n 2) 1 := ⟨by decide +kernel, rfl⟩
theorem d_S_ofTravellers_9 : zd b_S_ofTravellers 9 10 (.iadd) 1 := ⟨by decide +kernel, rfl⟩
theorem d_S_ofTravellers_10 : zd b_S_ofTravellers 10 11 (.iaload) 1 := ⟨by decide +kernel, rfl⟩
theorem d_S_ofTravellers_11 : zd b_S_ofTravellers 11 12 (.ireturn) 1 := ⟨by decide +kernel, rfl⟩
theorem d_S_travellersAt_0 : zd b_S_travellersAt 0 1 (.iconst 0) 1 := ⟨by decide +kernel, rfl⟩
theorem d_S_travellersAt_1 : zd b_S_travellersAt 1 2 (.istore_n 2) 1 := ⟨by decide +kernel, rfl⟩
theorem d_S_travellersAt_2 : zd b_S_travellersAt 2 3 (.iconst 0) 1 := ⟨by decide +kernel, rfl⟩
theorem d_S_travellersAt_3 : zd b_S_travellersAt 3 4 (.istore_n 3) 1 := ⟨by decide +kernel, rfl⟩
theorem d_S_travellersAt_4 : zd b_S_travellersAt 4 5 (.iload_n 3) 1 := ⟨by decide +kernel, rfl⟩
theorem d_S_travellersAt_5 : zd b_S_travellersAt 5 6 (.aload_n 0) 1 := ⟨by decide +kernel, rfl⟩
theorem d_S_travellersAt_6 : zd b_S_travellersAt 6 9 (.getfield 40) 3 := ⟨by decide +kernel, rfl⟩
theorem d_S_travellersAt_9 : zd b_S_travellersAt 9 12 (.if_icmp .ge 25) 3 := ⟨by decide +kernel, rfl⟩
theorem d_S_travellersAt_12 : zd b_S_travellersAt 12 13 (.aload_n 0) 1 := ⟨by decide +kernel, rfl⟩
theorem d_S_travellersAt_13 : zd b_S_travellersAt 13 14 (.iload_n 3) 1 := ⟨by decide +kernel, rfl⟩
theorem d_S_travellersAt_14 : zd b_S_travellersAt 14 15 (.iconst 0) 1 := ⟨by decide +kernel, rfl⟩
theorem d_S_travellersAt_15 : zd b_S_travellersAt 15 18 (.invokevirtual 67) 3 := ⟨by decide +kernel, rfl⟩
theorem d_S_travellersAt_18 : zd b_S_travellersAt 18 19 (.iload_n 1) 1 := ⟨by decide +kernel, rfl⟩
theorem d_S_travellersAt_19 : zd b_S_travellersAt 19 22 (.if_icmp .ne 9) 3 := ⟨by decide +kernel, rfl⟩
theorem d_S_travellersAt_22 : zd b_S_travellersAt 22 23 (.iload_n 2) 1 := ⟨by decide +kernel, rfl⟩
theorem d_S_travellersAt_23 : zd b_S_travellersAt 23 24 (.iconst 1) 1 := ⟨by decide +kernel, rfl⟩
theorem d_S_travellersAt_24 : zd b_S_travellersAt 24 25 (.iload_n 3) 1 := ⟨by decide +kernel, rfl⟩
theorem d_S_travellersAt_25 : zd b_S_travellersAt 25 26 (.ishl) 1 := ⟨by decide +kernel, rfl⟩
theorem d_S_travellersAt_26 : zd b_S_travellersAt 26 27 (.ior) 1 := ⟨by decide +kernel, rfl⟩
theorem d_S_travellersAt_27 : zd b_S_travellersAt 27 28 (.istore_n 2) 1 := ⟨by decide +kernel, rfl⟩
theorem d_S_travellersAt_28 : zd b_S_travellersAt 28 31 (.iinc 3 1) 3 := ⟨by decide +kernel, rfl⟩
theorem d_S_travellersAt_31 : zd b_S_travellersAt 31 34 (.goto (-27)) 3 := ⟨by decide +kernel, rfl⟩
theorem d_S_travellersAt_34 : zd b_S_travellersAt 34 35 (.iload_n 2) 1 := ⟨by decide +kernel, rfl⟩
theorem d_S_travellersAt_35 : zd b_S_travellersAt 35 36 (.ireturn) 1 := ⟨by decide +kernel, rfl⟩
theorem d_S_ofRooms_0 : zd b_S_ofRooms 0 1 (.aload_n 0) 1 := ⟨by decide +kernel, rfl⟩
theorem d_S_ofRooms_1 : zd b_S_ofRooms 1 4 (.getfield 9) 3 := ⟨by decide +kernel, rfl⟩
theorem d_S_ofRooms_4 : zd b_S_ofRooms 4 5 (.iload_n 1) 1 := ⟨by decide +kernel, rfl⟩
theorem d_S_ofRooms_5 : zd b_S_ofRooms 5 6 (.iconst 3) 1 := ⟨by decide +kernel, rfl⟩
theorem d_S_ofRooms_6 : zd b_S_ofRooms 6 7 (.imul) 1 := ⟨by decide +kernel, rfl⟩
theorem d_S_ofRooms_7 : zd b_S_ofRooms 7 8 (.iload_n 2) 1 := ⟨by decide +kernel, rfl⟩
theorem d_S_ofRooms_8 : zd b_S_ofRooms 8 9 (.iadd) 1 := ⟨by decide +kernel, rfl⟩
theorem d_S_ofRooms_9 : zd b_S_ofRooms 9 10 (.iaload) 1 := ⟨by decide +kernel, rfl⟩
theorem d_S_ofRooms_10 : zd b_S_ofRooms 10 11 (.ireturn) 1 := ⟨by decide +kernel, rfl⟩
theorem d_X_ofPlace_0 : zd b_X_ofPlace 0 1 (.iload_n 1) 1 := ⟨by decide +kernel, rfl⟩
theorem d_X_ofPlace_1 : zd b_X_ofPlace 1 4 (.invokestatic 65) 3 := ⟨by decide +kernel, rfl⟩
theorem d_X_ofPlace_4 : zd b_X_ofPlace 4 7 (.ifCond .ne 5) 3 := ⟨by decide +kernel, rfl⟩
theorem d_X_ofPlace_7 : zd b_X_ofPlace 7 8 (.iconst (-1)) 1 := ⟨by decide +kernel, rfl⟩
theorem d_X_ofPlace_8 : zd b_X_ofPlace 8 9 (.ireturn) 1 := ⟨by decide +kernel, rfl⟩
theorem d_X_ofPlace_9 : zd b_X_ofPlace 9 10 (.iload_n 2) 1 := ⟨by decide +kernel, rfl⟩
theorem d_X_ofPlace_10 : zd b_X_ofPlace 10 11 (.iconst 0) 1 := ⟨by decide +kernel, rfl⟩
theorem d_X_ofPlace_11 : zd b_X_ofPlace 11 12 (.iconst 5) 1 := ⟨by decide +kernel, rfl⟩
theorem d_X_ofPlace_12 : zd b_X_ofPlace 12 15 (.invokestatic 69) 3 := ⟨by decide +kernel, rfl⟩
theorem d_X_ofPlace_15 : zd b_X_ofPlace 15 18 (.ifCond .ne 6) 3 := ⟨by decide +kernel, rfl⟩
theorem d_X_ofPlace_18 : zd b_X_ofPlace 18 20 (.bipush (-2)) 2 := ⟨by decide +kernel, rfl⟩
theorem d_X_ofPlace_20 : zd b_X_ofPlace 20 21 (.ireturn) 1 := ⟨by decide +kernel, rfl⟩
theorem d_X_ofPlace_21 : zd b_X_ofPlace 21 22 (.iload_n 2) 1 := ⟨by decide +kernel, rfl⟩
theorem d_X_ofPlace_22 : zd b_X_ofPlace 22 23 (.iconst 3) 1 := ⟨by decide +kernel, rfl⟩
theorem d_X_ofPlace_23 : zd b_X_ofPlace 23 26 (.if_icmp .ne 13) 3 := ⟨by decide +kernel, rfl⟩
theorem d_X_ofPlace_26 : zd b_X_ofPlace 26 27 (.aload_n 0) 1 := ⟨by decide +kernel, rfl⟩
theorem d_X_ofPlace_27 : zd b_X_ofPlace 27 30 (.getfield 12) 3 := ⟨by decide +kernel, rfl⟩
theorem d_X_ofPlace_30 : zd b_X_ofPlace 30 31 (.iconst 0) 1 := ⟨by decide +kernel, rfl⟩
theorem d_X_ofPlace_31 : zd b_X_ofPlace 31 32 (.iload_n 1) 1 := ⟨by decide +kernel, rfl⟩
theorem d_X_ofPlace_32 : zd b_X_ofPlace 32 35 (.invokevirtual 147) 3 := ⟨by decide +kernel, rfl⟩
theorem d_X_ofPlace_35 : zd b_X_ofPlace 35 36 (.ireturn) 1 := ⟨by decide +kernel, rfl⟩
theorem d_X_ofPlace_36 : zd b_X_ofPlace 36 37 (.iload_n 2) 1 := ⟨by decide +kernel, rfl⟩
theorem d_X_ofPlace_37 : zd b_X_ofPlace 37 38 (.iconst 4) 1 := ⟨by decide +kernel, rfl⟩
theorem d_X_ofPlace_38 : zd b_X_ofPlace 38 41 (.if_icmp .ne 13) 3 := ⟨by decide +kernel, rfl⟩
theorem d_X_ofPlace_41 : zd b_X_ofPlace 41 42 (.aload_n 0) 1 := ⟨by decide +kernel, rfl⟩
theorem d_X_ofPlace_42 : zd b_X_ofPlace 42 45 (.getfield 12) 3 := ⟨by decide +kernel, rfl⟩
theorem d_X_ofPlace_45 : zd b_X_ofPlace 45 46 (.iconst 1) 1 := ⟨by decide +kernel, rfl⟩
theorem d_X_ofPlace_46 : zd b_X_ofPlace 46 47 (.iload_n 1) 1 := ⟨by decide +kernel, rfl⟩
theorem d_X_ofPlace_47 : zd b_X_ofPlace 47 50 (.invokevirtual 147) 3 := ⟨by decide +kernel, rfl⟩
theorem d_X_ofPlace_50 : zd b_X_ofPlace 50 51 (.ireturn) 1 := ⟨by decide +kernel, rfl⟩
theorem d_X_ofPlace_51 : zd b_X_ofPlace 51 52 (.iload_n 2) 1 := ⟨by decide +kernel, rfl⟩
theorem d_X_ofPlace_52 : zd b_X_ofPlace 52 53 (.iconst 5) 1 := ⟨by decide +kernel, rfl⟩
theorem d_X_ofPlace_53 : zd b_X_ofPlace 53 56 (.if_icmp .ne 12) 3 := ⟨by decide +kernel, rfl⟩
theorem d_X_ofPlace_56 : zd b_X_ofPlace 56 57 (.aload_n 0) 1 := ⟨by decide +kernel, rfl⟩
theorem d_X_ofPlace_57 : zd b_X_ofPlace 57 60 (.getfield 12) 3 := ⟨by decide +kernel, rfl⟩
theorem d_X_ofPlace_60 : zd b_X_ofPlace 60 61 (.iload_n 1) 1 := ⟨by decide +kernel, rfl⟩
theorem d_X_ofPlace_61 : zd b_X_ofPlace 61 64 (.invokevirtual 150) 3 := ⟨by decide +kernel, rfl⟩
theorem d_X_ofPlace_64 : zd b_X_ofPlace 64 65 (.ireturn) 1 := ⟨by decide +kernel, rfl⟩
theorem d_X_ofPlace_65 : zd b_X_ofPlace 65 66 (.aload_n 0) 1 := ⟨by decide +kernel, rfl⟩
theorem d_X_ofPlace_66 : zd b_X_ofPlace 66 69 (.getfield 12) 3 := ⟨by decide +kernel, rfl⟩
theorem d_X_ofPlace_69 : zd b_X_ofPlace 69 70 (.iload_n 1) 1 := ⟨by decide +kernel, rfl⟩
theorem d_X_ofPlace_70 : zd b_X_ofPlace 70 71 (.iload_n 2) 1 := ⟨by decide +kernel, rfl⟩
theorem d_X_ofPlace_71 : zd b_X_ofPlace 71 74 (.invokevirtual 153) 3 := ⟨by decide +kernel, rfl⟩
theorem d_X_ofPlace_74 : zd b_X_ofPlace 74 75 (.ireturn) 1 := ⟨by decide +kernel, rfl⟩
theorem d_S_hasRoad_0 : zd b_S_hasRoad 0 1 (.iload_n 1) 1 := ⟨by decide +kernel, rfl⟩
theorem d_S_hasRoad_1 : zd b_S_hasRoad 1 4 (.ifCond .lt 15) 3 := ⟨by decide +kernel, rfl⟩
theorem d_S_hasRoad_4 : zd b_S_hasRoad 4 5 (.iload_n 1) 1 := ⟨by decide +kernel, rfl⟩
theorem d_S_hasRoad_5 : zd b_S_hasRoad 5 6 (.aload_n 0) 1 := ⟨by decide +kernel, rfl⟩
theorem d_S_hasRoad_6 : zd b_S_hasRoad 6 9 (.getfield 33) 3 := ⟨by decide +kernel, rfl⟩
theorem d_S_hasRoad_9 : zd b_S_hasRoad 9 12 (.if_icmp .ge 7) 3 := ⟨by decide +kernel, rfl⟩
theorem d_S_hasRoad_12 : zd b_S_hasRoad 12 13 (.iconst 1) 1 := ⟨by decide +kernel, rfl⟩
theorem d_S_hasRoad_13 : zd b_S_hasRoad 13 16 (.goto 4) 3 := ⟨by decide +kernel, rfl⟩
theorem d_S_hasRoad_16 : zd b_S_hasRoad 16 17 (.iconst 0) 1 := ⟨by decide +kernel, rfl⟩
theorem d_S_hasRoad_17 : zd b_S_hasRoad 17 18 (.ireturn) 1 := ⟨by decide +kernel, rfl⟩
theorem d_S_ofClosures_0 : zd b_S_ofClosures 0 1 (.aload_n 0) 1 := ⟨by decide +kernel, rfl⟩
theorem d_S_ofClosures_1 : zd b_S_ofClosures 1 4 (.getfield 21) 3 := ⟨by decide +kernel, rfl⟩
theorem d_S_ofClosures_4 : zd b_S_ofClosures 4 5 (.iload_n 1) 1 := ⟨by decide +kernel, rfl⟩
theorem d_S_ofClosures_5 : zd b_S_ofClosures 5 6 (.iconst 3) 1 := ⟨by decide +kernel, rfl⟩
theorem d_S_ofClosures_6 : zd b_S_ofClosures 6 7 (.imul) 1 := ⟨by decide +kernel, rfl⟩
theorem d_S_ofClosures_7 : zd b_S_ofClosures 7 8 (.iload_n 2) 1 := ⟨by decide +kernel, rfl⟩
theorem d_S_ofClosures_8 : zd b_S_ofClosures 8 9 (.iadd) 1 := ⟨by decide +kernel, rfl⟩
theorem d_S_ofClosures_9 : zd b_S_ofClosures 9 10 (.iaload) 1 := ⟨by decide +kernel, rfl⟩
theorem d_S_ofClosures_10 : zd b_S_ofClosures 10 11 (.ireturn) 1 := ⟨by decide +kernel, rfl⟩
theorem d_S_closuresOf_0 : zd b_S_closuresOf 0 1 (.iconst 0) 1 := ⟨by decide +kernel, rfl⟩
theorem d_S_closuresOf_1 : zd b_S_closuresOf 1 2 (.istore_n 2) 1 := ⟨by decide +kernel, rfl⟩
theorem d_S_closuresOf_2 : zd b_S_closuresOf 2 3 (.iconst 0) 1 := ⟨by decide +kernel, rfl⟩
theorem d_S_closuresOf_3 : zd b_S_closuresOf 3 4 (.istore_n 3) 1 := ⟨by decide +kernel, rfl⟩
theorem d_S_closuresOf_4 : zd b_S_closuresOf 4 5 (.iload_n 3) 1 := ⟨by decide +kernel, rfl⟩
theorem d_S_closuresOf_5 : zd b_S_closuresOf 5 6 (.aload_n 0) 1 := ⟨by decide +kernel, rfl⟩
theorem d_S_closuresOf_6 : zd b_S_closuresOf 6 9 (.getfield 37) 3 := ⟨by decide +kernel, rfl⟩
theorem d_S_closuresOf_9 : zd b_S_closuresOf 9 12 (.if_icmp .ge 22) 3 := ⟨by decide +kernel, rfl⟩
theorem d_S_closuresOf_12 : zd b_S_closuresOf 12 13 (.aload_n 0) 1 := ⟨by decide +kernel, rfl⟩
theorem d_S_closuresOf_13 : zd b_S_closuresOf 13 14 (.iload_n 3) 1 := ⟨by decide +kernel, rfl⟩
theorem d_S_closuresOf_14 : zd b_S_closuresOf 14 15 (.iconst 0) 1 := ⟨by decide +kernel, rfl⟩
theorem d_S_closuresOf_15 : zd b_S_closuresOf 15 18 (.invokevirtual 70) 3 := ⟨by decide +kernel, rfl⟩
theorem d_S_closuresOf_18 : zd b_S_closuresOf 18 19 (.iload_n 1) 1 := ⟨by decide +kernel, rfl⟩
theorem d_S_closuresOf_19 : zd b_S_closuresOf 19 22 (.if_icmp .ne 6) 3 := ⟨by decide +kernel, rfl⟩
theorem d_S_closuresOf_22 : zd b_S_closuresOf 22 25 (.iinc 2 1) 3 := ⟨by decide +kernel, rfl⟩
theorem d_S_closuresOf_25 : zd b_S_closuresOf 25 28 (.iinc 3 1) 3 := ⟨by decide +kernel, rfl⟩
theorem d_S_closuresOf_28 : zd b_S_closuresOf 28 31 (.goto (-24)) 3 := ⟨by decide +kernel, rfl⟩
theorem d_S_closuresOf_31 : zd b_S_closuresOf 31 32 (.iload_n 2) 1 := ⟨by decide +kernel, rfl⟩
theorem d_S_closuresOf_32 : zd b_S_closuresOf 32 33 (.ireturn) 1 := ⟨by decide +kernel, rfl⟩
theorem d_X_ofRoad_0 : zd b_X_ofRoad 0 1 (.aload_n 0) 1 := ⟨by decide +kernel, rfl⟩
theorem d_X_ofRoad_1 : zd b_X_ofRoad 1 4 (.getfield 12) 3 := ⟨by decide +kernel, rfl⟩
theorem d_X_ofRoad_4 : zd b_X_ofRoad 4 5 (.iload_n 1) 1 := ⟨by decide +kernel, rfl⟩
theorem d_X_ofRoad_5 : zd b_X_ofRoad 5 8 (.invokevirtual 88) 3 := ⟨by decide +kernel, rfl⟩
theorem d_X_ofRoad_8 : zd b_X_ofRoad 8 11 (.ifCond .ne 5) 3 := ⟨by decide +kernel, rfl⟩
theorem d_X_ofRoad_11 : zd b_X_ofRoad 11 12 (.iconst (-1)) 1 := ⟨by decide +kernel, rfl⟩
theorem d_X_ofRoad_12 : zd b_X_ofRoad 12 13 (.ireturn) 1 := ⟨by decide +kernel, rfl⟩
theorem d_X_ofRoad_13 : zd b_X_ofRoad 13 14 (.iload_n 2) 1 := ⟨by decide +kernel, rfl⟩
theorem d_X_ofRoad_14 : zd b_X_ofRoad 14 15 (.iconst 0) 1 := ⟨by decide +kernel, rfl⟩
theorem d_X_ofRoad_15 : zd b_X_ofRoad 15 17 (.bipush 12) 2 := ⟨by decide +kernel, rfl⟩
theorem d_X_ofRoad_17 : zd b_X_ofRoad 17 20 (.invokestatic 69) 3 := ⟨by decide +kernel, rfl⟩
theorem d_X_ofRoad_20 : zd b_X_ofRoad 20 23 (.ifCond .ne 6) 3 := ⟨by decide +kernel, rfl⟩
theorem d_X_ofRoad_23 : zd b_X_ofRoad 23 25 (.bipush (-2)) 2 := ⟨by decide +kernel, rfl⟩
theorem d_X_ofRoad_25 : zd b_X_ofRoad 25 26 (.ireturn) 1 := ⟨by decide +kernel, rfl⟩
theorem d_X_ofRoad_26 : zd b_X_ofRoad 26 27 (.iload_n 2) 1 := ⟨by decide +kernel, rfl⟩
theorem d_X_ofRoad_27 : zd b_X_ofRoad 27 29 (.bipush 11) 2 := ⟨by decide +kernel, rfl⟩
theorem d_X_ofRoad_29 : zd b_X_ofRoad 29 32 (.if_icmp .ne 12) 3 := ⟨by decide +kernel, rfl⟩
theorem d_X_ofRoad_32 : zd b_X_ofRoad 32 33 (.aload_n 0) 1 := ⟨by decide +kernel, rfl⟩
theorem d_X_ofRoad_33 : zd b_X_ofRoad 33 36 (.getfield 12) 3 := ⟨by decide +kernel, rfl⟩
theorem d_X_ofRoad_36 : zd b_X_ofRoad 36 37 (.iload_n 1) 1 := ⟨by decide +kernel, rfl⟩
theorem d_X_ofRoad_37 : zd b_X_ofRoad 37 40 (.invokevirtual 156) 3 := ⟨by decide +kernel, rfl⟩
theorem d_X_ofRoad_40 : zd b_X_ofRoad 40 41 (.ireturn) 1 := ⟨by decide +kernel, rfl⟩
theorem d_X_ofRoad_41 : zd b_X_ofRoad 41 42 (.iload_n 2) 1 := ⟨by decide +kernel, rfl⟩
theorem d_X_ofRoad_42 : zd b_X_ofRoad 42 44 (.bipush 12) 2 := ⟨by decide +kernel, rfl⟩
theorem d_X_ofRoad_44 : zd b_X_ofRoad 44 47 (.if_icmp .ne 13) 3 := ⟨by decide +kernel, rfl⟩
theorem d_X_ofRoad_47 : zd b_X_ofRoad 47 48 (.aload_n 0) 1 := ⟨by decide +kernel, rfl⟩
theorem d_X_ofRoad_48 : zd b_X_ofRoad 48 51 (.getfield 12) 3 := ⟨by decide +kernel, rfl⟩
theorem d_X_ofRoad_51 : zd b_X_ofRoad 51 54 (.getfield 159) 3 := ⟨by decide +kernel, rfl⟩
theorem d_X_ofRoad_54 : zd b_X_ofRoad 54 55 (.iload_n 1) 1 := ⟨by decide +kernel, rfl⟩
theorem d_X_ofRoad_55 : zd b_X_ofRoad 55 56 (.iaload) 1 := ⟨by decide +kernel, rfl⟩
theorem d_X_ofRoad_56 : zd b_X_ofRoad 56 57 (.ireturn) 1 := ⟨by decide +kernel, rfl⟩
theorem d_X_ofRoad_57 : zd b_X_ofRoad 57 58 (.aload_n 0) 1 := ⟨by decide +kernel, rfl⟩
theorem d_X_ofRoad_58 : zd b_X_ofRoad 58 61 (.getfield 12) 3 := ⟨by decide +kernel, rfl⟩
theorem d_X_ofRoad_61 : zd b_X_ofRoad 61 62 (.iload_n 1) 1 := ⟨by decide +kernel, rfl⟩
theorem d_X_ofRoad_62 : zd b_X_ofRoad 62 63 (.iload_n 2) 1 := ⟨by decide +kernel, rfl⟩
theorem d_X_ofRoad_63 : zd b_X_ofRoad 63 66 (.invokevirtual 94) 3 := ⟨by decide +kernel, rfl⟩
theorem d_X_ofRoad_66 : zd b_X_ofRoad 66 67 (.ireturn) 1 := ⟨by decide +kernel, rfl⟩
theorem d_S_hasClosure_0 : zd b_S_hasClosure 0 1 (.iload_n 1) 1 := ⟨by decide +kernel, rfl⟩
theorem d_S_hasClosure_1 : zd b_S_hasClosure 1 4 (.ifCond .lt 15) 3 := ⟨by decide +kernel, rfl⟩
theorem d_S_hasClosure_4 : zd b_S_hasClosure 4 5 (.iload_n 1) 1 := ⟨by decide +kernel, rfl⟩
theorem d_S_hasClosure_5 : zd b_S_hasClosure 5 6 (.aload_n 0) 1 := ⟨by decide +kernel, rfl⟩
theorem d_S_hasClosure_6 : zd b_S_hasClosure 6 9 (.getfield 37) 3 := ⟨by decide +kernel, rfl⟩
theorem d_S_hasClosure_9 : zd b_S_hasClosure 9 12 (.if_icmp .ge 7) 3 := ⟨by decide +kernel, rfl⟩
theorem d_S_hasClosure_12 : zd b_S_hasClosure 12 13 (.iconst 1) 1 := ⟨by decide +kernel, rfl⟩
theorem d_S_hasClosure_13 : zd b_S_hasClosure 13 16 (.goto 4) 3 := ⟨by decide +kernel, rfl⟩
theorem d_S_hasClosure_16 : zd b_S_hasClosure 16 17 (.iconst 0) 1 := ⟨by decide +kernel, rfl⟩
theorem d_S_hasClosure_17 : zd b_S_hasClosure 17 18 (.ireturn) 1 := ⟨by decide +kernel, rfl⟩
theorem d_X_ofClosure_0 : zd b_X_ofClosure 0 1 (.aload_n 0) 1 := ⟨by decide +kernel, rfl⟩
theorem d_X_ofClosure_1 : zd b_X_ofClosure 1 4 (.getfield 12) 3 := ⟨by decide +kernel, rfl⟩
theorem d_X_ofClosure_4 : zd b_X_ofClosure 4 5 (.iload_n 1) 1 := ⟨by decide +kernel, rfl⟩
theorem d_X_ofClosure_5 : zd b_X_ofClosure 5 8 (.invokevirtual 115) 3 := ⟨by decide +kernel, rfl⟩
theorem d_X_ofClosure_8 : zd b_X_ofClosure 8 11 (.ifCond .ne 5) 3 := ⟨by decide +kernel, rfl⟩
theorem d_X_ofClosure_11 : zd b_X_ofClosure 11 12 (.iconst (-1)) 1 := ⟨by decide +kernel, rfl⟩
theorem d_X_ofClosure_12 : zd b_X_ofClosure 12 13 (.ireturn) 1 := ⟨by decide +kernel, rfl⟩
theorem d_X_ofClosure_13 : zd b_X_ofClosure 13 14 (.iload_n 2) 1 := ⟨by decide +kernel, rfl⟩
theorem d_X_ofClosure_14 : zd b_X_ofClosure 14 15 (.iconst 0) 1 := ⟨by decide +kernel, rfl⟩
theorem d_X_ofClosure_15 : zd b_X_ofClosure 15 16 (.iconst 2) 1 := ⟨by decide +kernel, rfl⟩
theorem d_X_ofClosure_16 : zd b_X_ofClosure 16 19 (.invokestatic 69) 3 := ⟨by decide +kernel, rfl⟩
theorem d_X_ofClosure_19 : zd b_X_ofClosure 19 22 (.ifCond .ne 6) 3 := ⟨by decide +kernel, rfl⟩
theorem d_X_ofClosure_22 : zd b_X_ofClosure 22 24 (.bipush (-2)) 2 := ⟨by decide +kernel, rfl⟩
theorem d_X_ofClosure_24 : zd b_X_ofClosure 24 25 (.ireturn) 1 := ⟨by decide +kernel, rfl⟩
theorem d_X_ofClosure_25 : zd b_X_ofClosure 25 26 (.aload_n 0) 1 := ⟨by decide +kernel, rfl⟩
theorem d_X_ofClosure_26 : zd b_X_ofClosure 26 29 (.getfield 12) 3 := ⟨by decide +kernel, rfl⟩
theorem d_X_ofClosure_29 : zd b_X_ofClosure 29 30 (.iload_n 1) 1 := ⟨by decide +kernel, rfl⟩
theorem d_X_ofClosure_30 : zd b_X_ofClosure 30 31 (.iload_n 2) 1 := ⟨by decide +kernel, rfl⟩
theorem d_X_ofClosure_31 : zd b_X_ofClosure 31 34 (.invokevirtual 162) 3 := ⟨by decide +kernel, rfl⟩
theorem d_X_ofClosure_34 : zd b_X_ofClosure 34 35 (.ireturn) 1 := ⟨by decide +kernel, rfl⟩
theorem d_S_hasTraveller_0 : zd b_S_hasTraveller 0 1 (.iload_n 1) 1 := ⟨by decide +kernel, rfl⟩
theorem d_S_hasTraveller_1 : zd b_S_hasTraveller 1 4 (.ifCond .lt 15) 3 := ⟨by decide +kernel, rfl⟩
theorem d_S_hasTraveller_4 : zd b_S_hasTraveller 4 5 (.iload_n 1) 1 := ⟨by decide +kernel, rfl⟩
theorem d_S_hasTraveller_5 : zd b_S_hasTraveller 5 6 (.aload_n 0) 1 := ⟨by decide +kernel, rfl⟩
theorem d_S_hasTraveller_6 : zd b_S_hasTraveller 6 9 (.getfield 40) 3 := ⟨by decide +kernel, rfl⟩
theorem d_S_hasTraveller_9 : zd b_S_hasTraveller 9 12 (.if_icmp .ge 7) 3 := ⟨by decide +kernel, rfl⟩
theorem d_S_hasTraveller_12 : zd b_S_hasTraveller 12 13 (.iconst 1) 1 := ⟨by decide +kernel, rfl⟩
theorem d_S_hasTraveller_13 : zd b_S_hasTraveller 13 16 (.goto 4) 3 := ⟨by decide +kernel, rfl⟩
theorem d_S_hasTraveller_16 : zd b_S_hasTraveller 16 17 (.iconst 0) 1 := ⟨by decide +kernel, rfl⟩
theorem d_S_hasTraveller_17 : zd b_S_hasTraveller 17 18 (.ireturn) 1 := ⟨by decide +kernel, rfl⟩
theorem d_X_ofTraveller_0 : zd b_X_ofTraveller 0 1 (.aload_n 0) 1 := ⟨by decide +kernel, rfl⟩
theorem d_X_ofTraveller_1 : zd b_X_ofTraveller 1 4 (.getfield 12) 3 := ⟨by decide +kernel, rfl⟩
theorem d_X_ofTraveller_4 : zd b_X_ofTraveller 4 5 (.iload_n 1) 1 := ⟨by decide +kernel, rfl⟩
theorem d_X_ofTraveller_5 : zd b_X_ofTraveller 5 8 (.invokevirtual 128) 3 := ⟨by decide +kernel, rfl⟩
theorem d_X_ofTraveller_8 : zd b_X_ofTraveller 8 11 (.ifCond .ne 5) 3 := ⟨by decide +kernel, rfl⟩
theorem d_X_ofTraveller_11 : zd b_X_ofTraveller 11 12 (.iconst (-1)) 1 := ⟨by decide +kernel, rfl⟩
theorem d_X_ofTraveller_12 : zd b_X_ofTraveller 12 13 (.ireturn) 1 := ⟨by decide +kernel, rfl⟩
theorem d_X_ofTraveller_13 : zd b_X_ofTraveller 13 14 (.iload_n 2) 1 := ⟨by decide +kernel, rfl⟩
theorem d_X_ofTraveller_14 : zd b_X_ofTraveller 14 15 (.iconst 0) 1 := ⟨by decide +kernel, rfl⟩
theorem d_X_ofTraveller_15 : zd b_X_ofTraveller 15 17 (.bipush 7) 2 := ⟨by decide +kernel, rfl⟩
theorem d_X_ofTraveller_17 : zd b_X_ofTraveller 17 20 (.invokestatic 69) 3 := ⟨by decide +kernel, rfl⟩
theorem d_X_ofTraveller_20 : zd b_X_ofTraveller 20 23 (.ifCond .ne 6) 3 := ⟨by decide +kernel, rfl⟩
theorem d_X_ofTraveller_23 : zd b_X_ofTraveller 23 25 (.bipush (-2)) 2 := ⟨by decide +kernel, rfl⟩
theorem d_X_ofTraveller_25 : zd b_X_ofTraveller 25 26 (.ireturn) 1 := ⟨by decide +kernel, rfl⟩
theorem d_X_ofTraveller_26 : zd b_X_ofTraveller 26 27 (.aload_n 0) 1 := ⟨by decide +kernel, rfl⟩
theorem d_X_ofTraveller_27 : zd b_X_ofTraveller 27 30 (.getfield 12) 3 := ⟨by decide +kernel, rfl⟩
theorem d_X_ofTraveller_30 : zd b_X_ofTraveller 30 31 (.iload_n 1) 1 := ⟨by decide +kernel, rfl⟩
theorem d_X_ofTraveller_31 : zd b_X_ofTraveller 31 32 (.iload_n 2) 1 := ⟨by decide +kernel, rfl⟩
theorem d_X_ofTraveller_32 : zd b_X_ofTraveller 32 35 (.invokevirtual 165) 3 := ⟨by decide +kernel, rfl⟩
theorem d_X_ofTraveller_35 : zd b_X_ofTraveller 35 36 (.ireturn) 1 := ⟨by decide +kernel, rfl⟩
theorem d_S_copyFrom_0 : zd b_S_copyFrom 0 1 (.aload_n 1) 1 := ⟨by decide +kernel, rfl⟩
theorem d_S_copyFrom_1 : zd b_S_copyFrom 1 4 (.getfield 9) 3 := ⟨by decide +kernel, rfl⟩
theorem d_S_copyFrom_4 : zd b_S_copyFrom 4 5 (.iconst 0) 1 := ⟨by decide +kernel, rfl⟩
theorem d_S_copyFrom_5 : zd b_S_copyFrom 5 6 (.aload_n 0) 1 := ⟨by decide +kernel, rfl⟩
theorem d_S_copyFrom_6 : zd b_S_copyFrom 6 9 (.getfield 9) 3 := ⟨by decide +kernel, rfl⟩
theorem d_S_copyFrom_9 : zd b_S_copyFrom 9 10 (.iconst 0) 1 := ⟨by decide +kernel, rfl⟩
theorem d_S_copyFrom_10 : zd b_S_copyFrom 10 11 (.aload_n 0) 1 := ⟨by decide +kernel, rfl⟩
theorem d_S_copyFrom_11 : zd b_S_copyFrom 11 14 (.getfield 9) 3 := ⟨by decide +kernel, rfl⟩
theorem d_S_copyFrom_14 : zd b_S_copyFrom 14 15 (.arraylength) 1 := ⟨by decide +kernel, rfl⟩
theorem d_S_copyFrom_15 : zd b_S_copyFrom 15 18 (.invokestatic 27) 3 := ⟨by decide +kernel, rfl⟩
theorem d_S_copyFrom_18 : zd b_S_copyFrom 18 19 (.aload_n 1) 1 := ⟨by decide +kernel, rfl⟩
theorem d_S_copyFrom_19 : zd b_S_copyFrom 19 22 (.getfield 15) 3 := ⟨by decide +kernel, rfl⟩
theorem d_S_copyFrom_22 : zd b_S_copyFrom 22 23 (.iconst 0) 1 := ⟨by decide +kernel, rfl⟩
theorem d_S_copyFrom_23 : zd b_S_copyFrom 23 24 (.aload_n 0) 1 := ⟨by decide +kernel, rfl⟩
theorem d_S_copyFrom_24 : zd b_S_copyFrom 24 27 (.getfield 15) 3 := ⟨by decide +kernel, rfl⟩
theorem d_S_copyFrom_27 : zd b_S_copyFrom 27 28 (.iconst 0) 1 := ⟨by decide +kernel, rfl⟩
theorem d_S_copyFrom_28 : zd b_S_copyFrom 28 29 (.aload_n 0) 1 := ⟨by decide +kernel, rfl⟩
theorem d_S_copyFrom_29 : zd b_S_copyFrom 29 32 (.getfield 15) 3 := ⟨by decide +kernel, rfl⟩
theorem d_S_copyFrom_32 : zd b_S_copyFrom 32 33 (.arraylength) 1 := ⟨by decide +kernel, rfl⟩
theorem d_S_copyFrom_33 : zd b_S_copyFrom 33 36 (.invokestatic 27) 3 := ⟨by decide +kernel, rfl⟩
theorem d_S_copyFrom_36 : zd b_S_copyFrom 36 37 (.aload_n 1) 1 := ⟨by decide +kernel, rfl⟩
theorem d_S_copyFrom_37 : zd b_S_copyFrom 37 40 (.getfield 18) 3 := ⟨by decide +kernel, rfl⟩
theorem d_S_copyFrom_40 : zd b_S_copyFrom 40 41 (.iconst 0) 1 := ⟨by decide +kernel, rfl⟩
theorem d_S_copyFrom_41 : zd b_S_copyFrom 41 42 (.aload_n 0) 1 := ⟨by decide +kernel, rfl⟩
theorem d_S_copyFrom_42 : zd b_S_copyFrom 42 45 (.getfield 18) 3 := ⟨by decide +kernel, rfl⟩
theorem d_S_copyFrom_45 : zd b_S_copyFrom 45 46 (.iconst 0) 1 := ⟨by decide +kernel, rfl⟩
theorem d_S_copyFrom_46 : zd b_S_copyFrom 46 47 (.aload_n 0) 1 := ⟨by decide +kernel, rfl⟩
theorem d_S_copyFrom_47 : zd b_S_copyFrom 47 50 (.getfield 18) 3 := ⟨by decide +kernel, rfl⟩
theorem d_S_copyFrom_50 : zd b_S_copyFrom 50 51 (.arraylength) 1 := ⟨by decide +kernel, rfl⟩
theorem d_S_copyFrom_51 : zd b_S_copyFrom 51 54 (.invokestatic 27) 3 := ⟨by decide +kernel, rfl⟩
theorem d_S_copyFrom_54 : zd b_S_copyFrom 54 55 (.aload_n 1) 1 := ⟨by decide +kernel, rfl⟩
theorem d_S_copyFrom_55 : zd b_S_copyFrom 55 58 (.getfield 21) 3 := ⟨by decide +kernel, rfl⟩
theorem d_S_copyFrom_58 : zd b_S_copyFrom 58 59 (.iconst 0) 1 := ⟨by decide +kernel, rfl⟩
theorem d_S_copyFrom_59 : zd b_S_copyFrom 59 60 (.aload_n 0) 1 := ⟨by decide +kernel, rfl⟩
theorem d_S_copyFrom_60 : zd b_S_copyFrom 60 63 (.getfield 21) 3 := ⟨by decide +kernel, rfl⟩
theorem d_S_copyFrom_63 : zd b_S_copyFrom 63 64 (.iconst 0) 1 := ⟨by decide +kernel, rfl⟩
theorem d_S_copyFrom_64 : zd b_S_copyFrom 64 65 (.aload_n 0) 1 := ⟨by decide +kernel, rfl⟩
theorem d_S_copyFrom_65 : zd b_S_copyFrom 65 68 (.getfield 21) 3 := ⟨by decide +kernel, rfl⟩
theorem d_S_copyFrom_68 : zd b_S_copyFrom 68 69 (.arraylength) 1 := ⟨by decide +kernel, rfl⟩
theorem d_S_copyFrom_69 : zd b_S_copyFrom 69 72 (.invokestatic 27) 3 := ⟨by decide +kernel, rfl⟩
theorem d_S_copyFrom_72 : zd b_S_copyFrom 72 73 (.aload_n 1) 1 := ⟨by decide +kernel, rfl⟩
theorem d_S_copyFrom_73 : zd b_S_copyFrom 73 76 (.getfield 24) 3 := ⟨by decide +kernel, rfl⟩
theorem d_S_copyFrom_76 : zd b_S_copyFrom 76 77 (.iconst 0) 1 := ⟨by decide +kernel, rfl⟩
theorem d_S_copyFrom_77 : zd b_S_copyFrom 77 78 (.aload_n 0) 1 := ⟨by decide +kernel, rfl⟩
theorem d_S_copyFrom_78 : zd b_S_copyFrom 78 81 (.getfield 24) 3 := ⟨by decide +kernel, rfl⟩
theorem d_S_copyFrom_81 : zd b_S_copyFrom 81 82 (.iconst 0) 1 := ⟨by decide +kernel, rfl⟩
theorem d_S_copyFrom_82 : zd b_S_copyFrom 82 83 (.aload_n 0) 1 := ⟨by decide +kernel, rfl⟩
theorem d_S_copyFrom_83 : zd b_S_copyFrom 83 86 (.getfield 24) 3 := ⟨by decide +kernel, rfl⟩
theorem d_S_copyFrom_86 : zd b_S_copyFrom 86 87 (.arraylength) 1 := ⟨by decide +kernel, rfl⟩
theorem d_S_copyFrom_87 : zd b_S_copyFrom 87 90 (.invokestatic 27) 3 := ⟨by decide +kernel, rfl⟩
theorem d_S_copyFrom_90 : zd b_S_copyFrom 90 91 (.aload_n 0) 1 := ⟨by decide +kernel, rfl⟩
theorem d_S_copyFrom_91 : zd b_S_copyFrom 91 92 (.aload_n 1) 1 := ⟨by decide +kernel, rfl⟩
theorem d_S_copyFrom_92 : zd b_S_copyFrom 92 95 (.getfield 33) 3 := ⟨by decide +kernel, rfl⟩
theorem d_S_copyFrom_95 : zd b_S_copyFrom 95 98 (.putfield 33) 3 := ⟨by decide +kernel, rfl⟩
theorem d_S_copyFrom_98 : zd b_S_copyFrom 98 99 (.aload_n 0) 1 := ⟨by decide +kernel, rfl⟩
theorem d_S_copyFrom_99 : zd b_S_copyFrom 99 100 (.aload_n 1) 1 := ⟨by decide +kernel, rfl⟩
theorem d_S_copyFrom_100 : zd b_S_copyFrom 100 103 (.getfield 37) 3 := ⟨by decide +kernel, rfl⟩
theorem d_S_copyFrom_103 : zd b_S_copyFrom 103 106 (.putfield 37) 3 := ⟨by decide +kernel, rfl⟩
theorem d_S_copyFrom_106 : zd b_S_copyFrom 106 107 (.aload_n 0) 1 := ⟨by decide +kernel, rfl⟩
theorem d_S_copyFrom_107 : zd b_S_copyFrom 107 108 (.aload_n 1) 1 := ⟨by decide +kernel, rfl⟩
theorem d_S_copyFrom_108 : zd b_S_copyFrom 108 111 (.getfield 40) 3 := ⟨by decide +kernel, rfl⟩
theorem d_S_copyFrom_111 : zd b_S_copyFrom 111 114 (.putfield 40) 3 := ⟨by decide +kernel, rfl⟩
theorem d_S_copyFrom_114 : zd b_S_copyFrom 114 115 (.return_) 1 := ⟨by decide +kernel, rfl⟩
theorem d_X_remember_0 : zd b_X_remember 0 1 (.aload_n 0) 1 := ⟨by decide +kernel, rfl⟩
theorem d_X_remember_1 : zd b_X_remember 1 4 (.getfield 37) 3 := ⟨by decide +kernel, rfl⟩
theorem d_X_remember_4 : zd b_X_remember 4 5 (.iconst 0) 1 := ⟨by decide +kernel, rfl⟩
theorem d_X_remember_5 : zd b_X_remember 5 8 (.putfield 282) 3 := ⟨by decide +kernel, rfl⟩
theorem d_X_remember_8 : zd b_X_remember 8 9 (.aload_n 0) 1 := ⟨by decide +kernel, rfl⟩
theorem d_X_remember_9 : zd b_X_remember 9 12 (.getfield 262) 3 := ⟨by decide +kernel, rfl⟩
theorem d_X_remember_12 : zd b_X_remember 12 15 (.ifCond .eq 4) 3 := ⟨by decide +kernel, rfl⟩
theorem d_X_remember_15 : zd b_X_remember 15 16 (.return_) 1 := ⟨by decide +kernel, rfl⟩
theorem d_X_remember_16 : zd b_X_remember 16 17 (.aload_n 0) 1 := ⟨by decide +kernel, rfl⟩
theorem d_X_remember_17 : zd b_X_remember 17 20 (.getfield 174) 3 := ⟨by decide +kernel, rfl⟩
theorem d_X_remember_20 : zd b_X_remember 20 22 (.bipush 6) 2 := ⟨by decide +kernel, rfl⟩
theorem d_X_remember_22 : zd b_X_remember 22 25 (.if_icmp .lt 50) 3 := ⟨by decide +kernel, rfl⟩
theorem d_X_remember_25 : zd b_X_remember 25 26 (.aload_n 0) 1 := ⟨by decide +kernel, rfl⟩
theorem d_X_remember_26 : zd b_X_remember 26 29 (.getfield 16) 3 := ⟨by decide +kernel, rfl⟩
theorem d_X_remember_29 : zd b_X_remember 29 30 (.iconst 0) 1 := ⟨by decide +kernel, rfl⟩
theorem d_X_remember_30 : zd b_X_remember 30 31 (.aaload) 1 := ⟨by decide +kernel, rfl⟩
theorem d_X_remember_31 : zd b_X_remember 31 32 (.astore_n 1) 1 := ⟨by decide +kernel, rfl⟩
theorem d_X_remember_32 : zd b_X_remember 32 33 (.iconst 1) 1 := ⟨by decide +kernel, rfl⟩
theorem d_X_remember_33 : zd b_X_remember 33 34 (.istore_n 2) 1 := ⟨by decide +kernel, rfl⟩
theorem d_X_remember_34 : zd b_X_remember 34 35 (.iload_n 2) 1 := ⟨by decide +kernel, rfl⟩
theorem d_X_remember_35 : zd b_X_remember 35 37 (.bipush 6) 2 := ⟨by decide +kernel, rfl⟩
theorem d_X_remember_37 : zd b_X_remember 37 40 (.if_icmp .ge 23) 3 := ⟨by decide +kernel, rfl⟩
theorem d_X_remember_40 : zd b_X_remember 40 41 (.aload_n 0) 1 := ⟨by decide +kernel, rfl⟩
theorem d_X_remember_41 : zd b_X_remember 41 44 (.getfield 16) 3 := ⟨by decide +kernel, rfl⟩
theorem d_X_remember_44 : zd b_X_remember 44 45 (.iload_n 2) 1 := ⟨by decide +kernel, rfl⟩
theorem d_X_remember_45 : zd b_X_remember 45 46 (.iconst 1) 1 := ⟨by decide +kernel, rfl⟩
theorem d_X_remember_46 : zd b_X_remember 46 47 (.isub) 1 := ⟨by decide +kernel, rfl⟩
theorem d_X_remember_47 : zd b_X_remember 47 48 (.aload_n 0) 1 := ⟨by decide +kernel, rfl⟩
theorem d_X_remember_48 : zd b_X_remember 48 51 (.getfield 16) 3 := ⟨by decide +kernel, rfl⟩
theorem d_X_remember_51 : zd b_X_remember 51 52 (.iload_n 2) 1 := ⟨by decide +kernel, rfl⟩
theorem d_X_remember_52 : zd b_X_remember 52 53 (.aaload) 1 := ⟨by decide +kernel, rfl⟩
theorem d_X_remember_53 : zd b_X_remember 53 54 (.aastore) 1 := ⟨by decide +kernel, rfl⟩
theorem d_X_remember_54 : zd b_X_remember 54 57 (.iinc 2 1) 3 := ⟨by decide +kernel, rfl⟩
theorem d_X_remember_57 : zd b_X_remember 57 60 (.goto (-23)) 3 := ⟨by decide +kernel, rfl⟩
theorem d_X_remember_60 : zd b_X_remember 60 61 (.aload_n 0) 1 := ⟨by decide +kernel, rfl⟩
theorem d_X_remember_61 : zd b_X_remember 61 64 (.getfield 16) 3 := ⟨by decide +kernel, rfl⟩
theorem d_X_remember_64 : zd b_X_remember 64 65 (.iconst 5) 1 := ⟨by decide +kernel, rfl⟩
theorem d_X_remember_65 : zd b_X_remember 65 66 (.aload_n 1) 1 := ⟨by decide +kernel, rfl⟩
theorem d_X_remember_66 : zd b_X_remember 66 67 (.aastore) 1 := ⟨by decide +kernel, rfl⟩
theorem d_X_remember_67 : zd b_X_remember 67 68 (.aload_n 0) 1 := ⟨by decide +kernel, rfl⟩
theorem d_X_remember_68 : zd b_X_remember 68 69 (.iconst 5) 1 := ⟨by decide +kernel, rfl⟩
theorem d_X_remember_69 : zd b_X_remember 69 72 (.putfield 174) 3 := ⟨by decide +kernel, rfl⟩
theorem d_X_remember_72 : zd b_X_remember 72 73 (.aload_n 0) 1 := ⟨by decide +kernel, rfl⟩
theorem d_X_remember_73 : zd b_X_remember 73 76 (.getfield 16) 3 := ⟨by decide +kernel, rfl⟩
theorem d_X_remember_76 : zd b_X_remember 76 77 (.aload_n 0) 1 := ⟨by decide +kernel, rfl⟩
theorem d_X_remember_77 : zd b_X_remember 77 80 (.getfield 174) 3 := ⟨by decide +kernel, rfl⟩
theorem d_X_remember_80 : zd b_X_remember 80 81 (.aaload) 1 := ⟨by decide +kernel, rfl⟩
theorem d_X_remember_81 : zd b_X_remember 81 82 (.aload_n 0) 1 := ⟨by decide +kernel, rfl⟩
theorem d_X_remember_82 : zd b_X_remember 82 85 (.getfield 12) 3 := ⟨by decide +kernel, rfl⟩
theorem d_X_remember_85 : zd b_X_remember 85 88 (.invokevirtual 279) 3 := ⟨by decide +kernel, rfl⟩
theorem d_X_remember_88 : zd b_X_remember 88 89 (.aload_n 0) 1 := ⟨by decide +kernel, rfl⟩
theorem d_X_remember_89 : zd b_X_remember 89 90 (.dup) 1 := ⟨by decide +kernel, rfl⟩
theorem d_X_remember_90 : zd b_X_remember 90 93 (.getfield 174) 3 := ⟨by decide +kernel, rfl⟩
theorem d_X_remember_93 : zd b_X_remember 93 94 (.iconst 1) 1 := ⟨by decide +kernel, rfl⟩
theorem d_X_remember_94 : zd b_X_remember 94 95 (.iadd) 1 := ⟨by decide +kernel, rfl⟩
theorem d_X_remember_95 : zd b_X_remember 95 98 (.putfield 174) 3 := ⟨by decide +kernel, rfl⟩
theorem d_X_remember_98 : zd b_X_remember 98 99 (.return_) 1 := ⟨by decide +kernel, rfl⟩
theorem d_X_room_0 : zd b_X_room 0 1 (.iload_n 1) 1 := ⟨by decide +kernel, rfl⟩
theorem d_X_room_1 : zd b_X_room 1 4 (.invokestatic 65) 3 := ⟨by decide +kernel, rfl⟩
theorem d_X_room_4 : zd b_X_room 4 7 (.ifCond .ne 5) 3 := ⟨by decide +kernel, rfl⟩
theorem d_X_room_7 : zd b_X_room 7 8 (.iconst (-1)) 1 := ⟨by decide +kernel, rfl⟩
theorem d_X_room_8 : zd b_X_room 8 9 (.ireturn) 1 := ⟨by decide +kernel, rfl⟩
theorem d_X_room_9 : zd b_X_room 9 10 (.iload_n 2) 1 := ⟨by decide +kernel, rfl⟩
theorem d_X_room_10 : zd b_X_room 10 11 (.iconst 0) 1 := ⟨by decide +kernel, rfl⟩
theorem d_X_room_11 : zd b_X_room 11 14 (.sipush 1440) 3 := ⟨by decide +kernel, rfl⟩
theorem d_X_room_14 : zd b_X_room 14 17 (.invokestatic 69) 3 := ⟨by decide +kernel, rfl⟩
theorem d_X_room_17 : zd b_X_room 17 20 (.ifCond .eq 26) 3 := ⟨by decide +kernel, rfl⟩
theorem d_X_room_20 : zd b_X_room 20 21 (.iload_n 3) 1 := ⟨by decide +kernel, rfl⟩
theorem d_X_room_21 : zd b_X_room 21 22 (.iload_n 2) 1 := ⟨by decide +kernel, rfl⟩
theorem d_X_room_22 : zd b_X_room 22 25 (.sipush 1440) 3 := ⟨by decide +kernel, rfl⟩
theorem d_X_room_25 : zd b_X_room 25 28 (.invokestatic 69) 3 := ⟨by decide +kernel, rfl⟩
theorem d_X_room_28 : zd b_X_room 28 31 (.ifCond .eq 15) 3 := ⟨by decide +kernel, rfl⟩
theorem d_X_room_31 : zd b_X_room 31 33 (.iload 4) 2 := ⟨by decide +kernel, rfl⟩
theorem d_X_room_33 : zd b_X_room 33 34 (.iconst 0) 1 := ⟨by decide +kernel, rfl⟩
theorem d_X_room_34 : zd b_X_room 34 37 (.sipush 1000) 3 := ⟨by decide +kernel, rfl⟩
theorem d_X_room_37 : zd b_X_room 37 40 (.invokestatic 69) 3 := ⟨by decide +kernel, rfl⟩
theorem d_X_room_40 : zd b_X_room 40 43 (.ifCond .ne 6) 3 := ⟨by decide +kernel, rfl⟩
theorem d_X_room_43 : zd b_X_room 43 45 (.bipush (-2)) 2 := ⟨by decide +kernel, rfl⟩
theorem d_X_room_45 : zd b_X_room 45 46 (.ireturn) 1 := ⟨by decide +kernel, rfl⟩
theorem d_X_room_46 : zd b_X_room 46 47 (.aload_n 0) 1 := ⟨by decide +kernel, rfl⟩
theorem d_X_room_47 : zd b_X_room 47 50 (.invokevirtual 73) 3 := ⟨by decide +kernel, rfl⟩
theorem d_X_room_50 : zd b_X_room 50 51 (.iload_n 1) 1 := ⟨by decide +kernel, rfl⟩
theorem d_X_room_51 : zd b_X_room 51 52 (.iconst 3) 1 := ⟨by decide +kernel, rfl⟩
theorem d_X_room_52 : zd b_X_room 52 53 (.imul) 1 := ⟨by decide +kernel, rfl⟩
theorem d_X_room_53 : zd b_X_room 53 55 (.istore 5) 2 := ⟨by decide +kernel, rfl⟩
theorem d_X_room_55 : zd b_X_room 55 56 (.aload_n 0) 1 := ⟨by decide +kernel, rfl⟩
theorem d_X_room_56 : zd b_X_room 56 59 (.getfield 12) 3 := ⟨by decide +kernel, rfl⟩
theorem d_X_room_59 : zd b_X_room 59 62 (.getfield 76) 3 := ⟨by decide +kernel, rfl⟩
theorem d_X_room_62 : zd b_X_room 62 64 (.iload 5) 2 := ⟨by decide +kernel, rfl⟩
theorem d_X_room_64 : zd b_X_room 64 65 (.iconst 2) 1 := ⟨by decide +kernel, rfl⟩
theorem d_X_room_65 : zd b_X_room 65 66 (.iadd) 1 := ⟨by decide +kernel, rfl⟩
theorem d_X_room_66 : zd b_X_room 66 67 (.iaload) 1 := ⟨by decide +kernel, rfl⟩
theorem d_X_room_67 : zd b_X_room 67 69 (.istore 6) 2 := ⟨by decide +kernel, rfl⟩
theorem d_X_room_69 : zd b_X_room 69 70 (.aload_n 0) 1 := ⟨by decide +kernel, rfl⟩
theorem d_X_room_70 : zd b_X_room 70 73 (.getfield 12) 3 := ⟨by decide +kernel, rfl⟩
theorem d_X_room_73 : zd b_X_room 73 76 (.getfield 76) 3 := ⟨by decide +kernel, rfl⟩
theorem d_X_room_76 : zd b_X_room 76 78 (.iload 5) 2 := ⟨by decide +kernel, rfl⟩
theorem d_X_room_78 : zd b_X_room 78 79 (.iconst 0) 1 := ⟨by decide +kernel, rfl⟩
theorem d_X_room_79 : zd b_X_room 79 80 (.iadd) 1 := ⟨by decide +kernel, rfl⟩
theorem d_X_room_80 : zd b_X_room 80 81 (.iload_n 2) 1 := ⟨by decide +kernel, rfl⟩
theorem d_X_room_81 : zd b_X_room 81 82 (.iastore) 1 := ⟨by decide +kernel, rfl⟩
theorem d_X_room_82 : zd b_X_room 82 83 (.aload_n 0) 1 := ⟨by decide +kernel, rfl⟩
theorem d_X_room_83 : zd b_X_room 83 86 (.getfield 12) 3 := ⟨by decide +kernel, rfl⟩
theorem d_X_room_86 : zd b_X_room 86 89 (.getfield 76) 3 := ⟨by decide +kernel, rfl⟩
theorem d_X_room_89 : zd b_X_room 89 91 (.iload 5) 2 := ⟨by decide +kernel, rfl⟩
theorem d_X_room_91 : zd b_X_room 91 92 (.iconst 1) 1 := ⟨by decide +kernel, rfl⟩
theorem d_X_room_92 : zd b_X_room 92 93 (.iadd) 1 := ⟨by decide +kernel, rfl⟩
theorem d_X_room_93 : zd b_X_room 93 94 (.iload_n 3) 1 := ⟨by decide +kernel, rfl⟩
theorem d_X_room_94 : zd b_X_room 94 95 (.iastore) 1 := ⟨by decide +kernel, rfl⟩
theorem d_X_room_95 : zd b_X_room 95 96 (.aload_n 0) 1 := ⟨by decide +kernel, rfl⟩
theorem d_X_room_96 : zd b_X_room 96 99 (.getfield 12) 3 := ⟨by decide +kernel, rfl⟩
theorem d_X_room_99 : zd b_X_room 99 102 (.getfield 76) 3 := ⟨by decide +kernel, rfl⟩
theorem d_X_room_102 : zd b_X_room 102 104 (.iload 5) 2 := ⟨by decide +kernel, rfl⟩
theorem d_X_room_104 : zd b_X_room 104 105 (.iconst 2) 1 := ⟨by decide +kernel, rfl⟩
theorem d_X_room_105 : zd b_X_room 105 106 (.iadd) 1 := ⟨by decide +kernel, rfl⟩
theorem d_X_room_106 : zd b_X_room 106 108 (.iload 4) 2 := ⟨by decide +kernel, rfl⟩
theorem d_X_room_108 : zd b_X_room 108 109 (.iastore) 1 := ⟨by decide +kernel, rfl⟩
theorem d_X_room_109 : zd b_X_room 109 111 (.iload 6) 2 := ⟨by decide +kernel, rfl⟩
theorem d_X_room_111 : zd b_X_room 111 112 (.ireturn) 1 := ⟨by decide +kernel, rfl⟩
theorem d_Ar_rangeCheck_0 : zd b_Ar_rangeCheck 0 1 (.iload_n 1) 1 := ⟨by decide +kernel, rfl⟩
theorem d_Ar_rangeCheck_1 : zd b_Ar_rangeCheck 1 2 (.iload_n 2) 1 := ⟨by decide +kernel, rfl⟩
theorem d_Ar_rangeCheck_2 : zd b_Ar_rangeCheck 2 5 (.if_icmp .le 44) 3 := ⟨by decide +kernel, rfl⟩
theorem d_Ar_rangeCheck_5 : zd b_Ar_rangeCheck 5 8 (.new 43) 3 := ⟨by decide +kernel, rfl⟩
theorem d_Ar_rangeCheck_8 : zd b_Ar_rangeCheck 8 9 (.dup) 1 := ⟨by decide +kernel, rfl⟩
theorem d_Ar_rangeCheck_9 : zd b_Ar_rangeCheck 9 12 (.new 45) 3 := ⟨by decide +kernel, rfl⟩
theorem d_Ar_rangeCheck_12 : zd b_Ar_rangeCheck 12 13 (.dup) 1 := ⟨by decide +kernel, rfl⟩
theorem d_Ar_rangeCheck_13 : zd b_Ar_rangeCheck 13 16 (.invokespecial 47) 3 := ⟨by decide +kernel, rfl⟩
theorem d_Ar_rangeCheck_16 : zd b_Ar_rangeCheck 16 18 (.ldc 48) 2 := ⟨by decide +kernel, rfl⟩
theorem d_Ar_rangeCheck_18 : zd b_Ar_rangeCheck 18 21 (.invokevirtual 50) 3 := ⟨by decide +kernel, rfl⟩
theorem d_Ar_rangeCheck_21 : zd b_Ar_rangeCheck 21 22 (.iload_n 1) 1 := ⟨by decide +kernel, rfl⟩
theorem d_Ar_rangeCheck_22 : zd b_Ar_rangeCheck 22 25 (.invokevirtual 54) 3 := ⟨by decide +kernel, rfl⟩
theorem d_Ar_rangeCheck_25 : zd b_Ar_rangeCheck 25 27 (.ldc 57) 2 := ⟨by decide +kernel, rfl⟩
theorem d_Ar_rangeCheck_27 : zd b_Ar_rangeCheck 27 30 (.invokevirtual 50) 3 := ⟨by decide +kernel, rfl⟩
theorem d_Ar_rangeCheck_30 : zd b_Ar_rangeCheck 30 31 (.iload_n 2) 1 := ⟨by decide +kernel, rfl⟩
theorem d_Ar_rangeCheck_31 : zd b_Ar_rangeCheck 31 34 (.invokevirtual 54) 3 := ⟨by decide +kernel, rfl⟩
theorem d_Ar_rangeCheck_34 : zd b_Ar_rangeCheck 34 36 (.ldc 59) 2 := ⟨by decide +kernel, rfl⟩
theorem d_Ar_rangeCheck_36 : zd b_Ar_rangeCheck 36 39 (.invokevirtual 50) 3 := ⟨by decide +kernel, rfl⟩
theorem d_Ar_rangeCheck_39 : zd b_Ar_rangeCheck 39 42 (.invokevirtual 61) 3 := ⟨by decide +kernel, rfl⟩
theorem d_Ar_rangeCheck_42 : zd b_Ar_rangeCheck 42 45 (.invokespecial 65) 3 := ⟨by decide +kernel, rfl⟩
theorem d_Ar_rangeCheck_45 : zd b_Ar_rangeCheck 45 46 (.athrow) 1 := ⟨by decide +kernel, rfl⟩
theorem d_Ar_rangeCheck_46 : zd b_Ar_rangeCheck 46 47 (.iload_n 1) 1 := ⟨by decide +kernel, rfl⟩
theorem d_Ar_rangeCheck_47 : zd b_Ar_rangeCheck 47 50 (.ifCond .ge 12) 3 := ⟨by decide +kernel, rfl⟩
theorem d_Ar_rangeCheck_50 : zd b_Ar_rangeCheck 50 53 (.new 68) 3 := ⟨by decide +kernel, rfl⟩
theorem d_Ar_rangeCheck_53 : zd b_Ar_rangeCheck 53 54 (.dup) 1 := ⟨by decide +kernel, rfl⟩
theorem d_Ar_rangeCheck_54 : zd b_Ar_rangeCheck 54 55 (.iload_n 1) 1 := ⟨by decide +kernel, rfl⟩
theorem d_Ar_rangeCheck_55 : zd b_Ar_rangeCheck 55 58 (.invokespecial 70) 3 := ⟨by decide +kernel, rfl⟩
theorem d_Ar_rangeCheck_58 : zd b_Ar_rangeCheck 58 59 (.athrow) 1 := ⟨by decide +kernel, rfl⟩
theorem d_Ar_rangeCheck_59 : zd b_Ar_rangeCheck 59 60 (.iload_n 2) 1 := ⟨by decide +kernel, rfl⟩
theorem d_Ar_rangeCheck_60 : zd b_Ar_rangeCheck 60 61 (.iload_n 0) 1 := ⟨by decide +kernel, rfl⟩
theorem d_Ar_rangeCheck_61 : zd b_Ar_rangeCheck 61 64 (.if_icmp .le 12) 3 := ⟨by decide +kernel, rfl⟩
theorem d_Ar_rangeCheck_64 : zd b_Ar_rangeCheck 64 67 (.new 68) 3 := ⟨by decide +kernel, rfl⟩
theorem d_Ar_rangeCheck_67 : zd b_Ar_rangeCheck 67 68 (.dup) 1 := ⟨by decide +kernel, rfl⟩
theorem d_Ar_rangeCheck_68 : zd b_Ar_rangeCheck 68 69 (.iload_n 2) 1 := ⟨by decide +kernel, rfl⟩
theorem d_Ar_rangeCheck_69 : zd b_Ar_rangeCheck 69 72 (.invokespecial 70) 3 := ⟨by decide +kernel, rfl⟩
theorem d_Ar_rangeCheck_72 : zd b_Ar_rangeCheck 72 73 (.athrow) 1 := ⟨by decide +kernel, rfl⟩
theorem d_Ar_rangeCheck_73 : zd b_Ar_rangeCheck 73 74 (.return_) 1 := ⟨by decide +kernel, rfl⟩
theorem d_Ar_fill_1_0 : zd b_Ar_fill_1 0 1 (.aload_n 0) 1 := ⟨by decide +kernel, rfl⟩
theorem d_Ar_fill_1_1 : zd b_Ar_fill_1 1 2 (.arraylength) 1 := ⟨by decide +kernel, rfl⟩
theorem d_Ar_fill_1_2 : zd b_Ar_fill_1 2 3 (.iload_n 1) 1 := ⟨by decide +kernel, rfl⟩
theorem d_Ar_fill_1_3 : zd b_Ar_fill_1 3 4 (.iload_n 2) 1 := ⟨by decide +kernel, rfl⟩
theorem d_Ar_fill_1_4 : zd b_Ar_fill_1 4 7 (.invokestatic 13) 3 := ⟨by decide +kernel, rfl⟩
theorem d_Ar_fill_1_7 : zd b_Ar_fill_1 7 8 (.iload_n 1) 1 := ⟨by decide +kernel, rfl⟩
theorem d_Ar_fill_1_8 : zd b_Ar_fill_1 8 10 (.istore 4) 2 := ⟨by decide +kernel, rfl⟩
theorem d_Ar_fill_1_10 : zd b_Ar_fill_1 10 12 (.iload 4) 2 := ⟨by decide +kernel, rfl⟩
theorem d_Ar_fill_1_12 : zd b_Ar_fill_1 12 13 (.iload_n 2) 1 := ⟨by decide +kernel, rfl⟩
theorem d_Ar_fill_1_13 : zd b_Ar_fill_1 13 16 (.if_icmp .ge 14) 3 := ⟨by decide +kernel, rfl⟩
theorem d_Ar_fill_1_16 : zd b_Ar_fill_1 16 17 (.aload_n 0) 1 := ⟨by decide +kernel, rfl⟩
theorem d_Ar_fill_1_17 : zd b_Ar_fill_1 17 19 (.iload 4) 2 := ⟨by decide +kernel, rfl⟩
theorem d_Ar_fill_1_19 : zd b_Ar_fill_1 19 20 (.iload_n 3) 1 := ⟨by decide +kernel, rfl⟩
theorem d_Ar_fill_1_20 : zd b_Ar_fill_1 20 21 (.iastore) 1 := ⟨by decide +kernel, rfl⟩
theorem d_Ar_fill_1_21 : zd b_Ar_fill_1 21 24 (.iinc 4 1) 3 := ⟨by decide +kernel, rfl⟩
theorem d_Ar_fill_1_24 : zd b_Ar_fill_1 24 27 (.goto (-14)) 3 := ⟨by decide +kernel, rfl⟩
theorem d_Ar_fill_1_27 : zd b_Ar_fill_1 27 28 (.return_) 1 := ⟨by decide +kernel, rfl⟩
theorem d_S_dropSpans_0 : zd b_S_dropSpans 0 1 (.iload_n 1) 1 := ⟨by decide +kernel, rfl⟩
theorem d_S_dropSpans_1 : zd b_S_dropSpans 1 3 (.bipush 11) 2 := ⟨by decide +kernel, rfl⟩
theorem d_S_dropSpans_3 : zd b_S_dropSpans 3 4 (.imul) 1 := ⟨by decide +kernel, rfl⟩
theorem d_S_dropSpans_4 : zd b_S_dropSpans 4 5 (.istore_n 3) 1 := ⟨by decide +kernel, rfl⟩
theorem d_S_dropSpans_5 : zd b_S_dropSpans 5 6 (.aload_n 0) 1 := ⟨by decide +kernel, rfl⟩
theorem d_S_dropSpans_6 : zd b_S_dropSpans 6 9 (.getfield 15) 3 := ⟨by decide +kernel, rfl⟩
theorem d_S_dropSpans_9 : zd b_S_dropSpans 9 10 (.iload_n 3) 1 := ⟨by decide +kernel, rfl⟩
theorem d_S_dropSpans_10 : zd b_S_dropSpans 10 11 (.iconst 3) 1 := ⟨by decide +kernel, rfl⟩
theorem d_S_dropSpans_11 : zd b_S_dropSpans 11 12 (.iadd) 1 := ⟨by decide +kernel, rfl⟩
theorem d_S_dropSpans_12 : zd b_S_dropSpans 12 13 (.iload_n 2) 1 := ⟨by decide +kernel, rfl⟩
theorem d_S_dropSpans_13 : zd b_S_dropSpans 13 14 (.iastore) 1 := ⟨by decide +kernel, rfl⟩
theorem d_S_dropSpans_14 : zd b_S_dropSpans 14 15 (.aload_n 0) 1 := ⟨by decide +kernel, rfl⟩
theorem d_S_dropSpans_15 : zd b_S_dropSpans 15 18 (.getfield 15) 3 := ⟨by decide +kernel, rfl⟩
theorem d_S_dropSpans_18 : zd b_S_dropSpans 18 19 (.iload_n 3) 1 := ⟨by decide +kernel, rfl⟩
theorem d_S_dropSpans_19 : zd b_S_dropSpans 19 20 (.iconst 4) 1 := ⟨by decide +kernel, rfl⟩
theorem d_S_dropSpans_20 : zd b_S_dropSpans 20 21 (.iadd) 1 := ⟨by decide +kernel, rfl⟩
theorem d_S_dropSpans_21 : zd b_S_dropSpans 21 22 (.iconst 0) 1 := ⟨by decide +kernel, rfl⟩
theorem d_S_dropSpans_22 : zd b_S_dropSpans 22 23 (.iastore) 1 := ⟨by decide +kernel, rfl⟩
theorem d_S_dropSpans_23 : zd b_S_dropSpans 23 24 (.aload_n 0) 1 := ⟨by decide +kernel, rfl⟩
theorem d_S_dropSpans_24 : zd b_S_dropSpans 24 27 (.getfield 15) 3 := ⟨by decide +kernel, rfl⟩
theorem d_S_dropSpans_27 : zd b_S_dropSpans 27 28 (.iload_n 3) 1 := ⟨by decide +kernel, rfl⟩
theorem d_S_dropSpans_28 : zd b_S_dropSpans 28 29 (.iconst 5) 1 := ⟨by decide +kernel, rfl⟩
theorem d_S_dropSpans_29 : zd b_S_dropSpans 29 30 (.iadd) 1 := ⟨by decide +kernel, rfl⟩
theorem d_S_dropSpans_30 : zd b_S_dropSpans 30 31 (.iload_n 3) 1 := ⟨by decide +kernel, rfl⟩
theorem d_S_dropSpans_31 : zd b_S_dropSpans 31 33 (.bipush 11) 2 := ⟨by decide +kernel, rfl⟩
theorem d_S_dropSpans_33 : zd b_S_dropSpans 33 34 (.iadd) 1 := ⟨by decide +kernel, rfl⟩
theorem d_S_dropSpans_34 : zd b_S_dropSpans 34 36 (.bipush (-6)) 2 := ⟨by decide +kernel, rfl⟩
theorem d_S_dropSpans_36 : zd b_S_dropSpans 36 39 (.invokestatic 51) 3 := ⟨by decide +kernel, rfl⟩
theorem d_S_dropSpans_39 : zd b_S_dropSpans 39 40 (.return_) 1 := ⟨by decide +kernel, rfl⟩
theorem d_S_spanFrom_0 : zd b_S_spanFrom 0 1 (.aload_n 0) 1 := ⟨by decide +kernel, rfl⟩
theorem d_S_spanFrom_1 : zd b_S_spanFrom 1 4 (.getfield 15) 3 := ⟨by decide +kernel, rfl⟩
theorem d_S_spanFrom_4 : zd b_S_spanFrom 4 5 (.iload_n 1) 1 := ⟨by decide +kernel, rfl⟩
theorem d_S_spanFrom_5 : zd b_S_spanFrom 5 7 (.bipush 11) 2 := ⟨by decide +kernel, rfl⟩
theorem d_S_spanFrom_7 : zd b_S_spanFrom 7 8 (.imul) 1 := ⟨by decide +kernel, rfl⟩
theorem d_S_spanFrom_8 : zd b_S_spanFrom 8 9 (.iconst 5) 1 := ⟨by decide +kernel, rfl⟩
theorem d_S_spanFrom_9 : zd b_S_spanFrom 9 10 (.iadd) 1 := ⟨by decide +kernel, rfl⟩
theorem d_S_spanFrom_10 : zd b_S_spanFrom 10 11 (.iconst 2) 1 := ⟨by decide +kernel, rfl⟩
theorem d_S_spanFrom_11 : zd b_S_spanFrom 11 12 (.iload_n 2) 1 := ⟨by decide +kernel, rfl⟩
theorem d_S_spanFrom_12 : zd b_S_spanFrom 12 13 (.imul) 1 := ⟨by decide +kernel, rfl⟩
theorem d_S_spanFrom_13 : zd b_S_spanFrom 13 14 (.iadd) 1 := ⟨by decide +kernel, rfl⟩
theorem d_S_spanFrom_14 : zd b_S_spanFrom 14 15 (.iaload) 1 := ⟨by decide +kernel, rfl⟩
theorem d_S_spanFrom_15 : zd b_S_spanFrom 15 16 (.ireturn) 1 := ⟨by decide +kernel, rfl⟩
theorem d_S_spanTo_0 : zd b_S_spanTo 0 1 (.aload_n 0) 1 := ⟨by decide +kernel, rfl⟩
theorem d_S_spanTo_1 : zd b_S_spanTo 1 4 (.getfield 15) 3 := ⟨by decide +kernel, rfl⟩
theorem d_S_spanTo_4 : zd b_S_spanTo 4 5 (.iload_n 1) 1 := ⟨by decide +kernel, rfl⟩
theorem d_S_spanTo_5 : zd b_S_spanTo 5 7 (.bipush 11) 2 := ⟨by decide +kernel, rfl⟩
theorem d_S_spanTo_7 : zd b_S_spanTo 7 8 (.imul) 1 := ⟨by decide +kernel, rfl⟩
theorem d_S_spanTo_8 : zd b_S_spanTo 8 9 (.iconst 5) 1 := ⟨by decide +kernel, rfl⟩
theorem d_S_spanTo_9 : zd b_S_spanTo 9 10 (.iadd) 1 := ⟨by decide +kernel, rfl⟩
theorem d_S_spanTo_10 : zd b_S_spanTo 10 11 (.iconst 2) 1 := ⟨by decide +kernel, rfl⟩
theorem d_S_spanTo_11 : zd b_S_spanTo 11 12 (.iload_n 2) 1 := ⟨by decide +kernel, rfl⟩
theorem d_S_spanTo_12 : zd b_S_spanTo 12 13 (.imul) 1 := ⟨by decide +kernel, rfl⟩
theorem d_S_spanTo_13 : zd b_S_spanTo 13 14 (.iadd) 1 := ⟨by decide +kernel, rfl⟩
theorem d_S_spanTo_14 : zd b_S_spanTo 14 15 (.iconst 1) 1 := ⟨by decide +kernel, rfl⟩
theorem d_S_spanTo_15 : zd b_S_spanTo 15 16 (.iadd) 1 := ⟨by decide +kernel, rfl⟩
theorem d_S_spanTo_16 : zd b_S_spanTo 16 17 (.iaload) 1 := ⟨by decide +kernel, rfl⟩
theorem d_S_spanTo_17 : zd b_S_spanTo 17 18 (.ireturn) 1 := ⟨by decide +kernel, rfl⟩
theorem d_S_addSpan_0 : zd b_S_addSpan 0 1 (.aload_n 0) 1 := ⟨by decide +kernel, rfl⟩
theorem d_S_addSpan_1 : zd b_S_addSpan 1 2 (.iload_n 1) 1 := ⟨by decide +kernel, rfl⟩
theorem d_S_addSpan_2 : zd b_S_addSpan 2 3 (.iconst 4) 1 := ⟨by decide +kernel, rfl⟩
theorem d_S_addSpan_3 : zd b_S_addSpan 3 6 (.invokevirtual 57) 3 := ⟨by decide +kernel, rfl⟩
theorem d_S_addSpan_6 : zd b_S_addSpan 6 8 (.istore 4) 2 := ⟨by decide +kernel, rfl⟩
theorem d_S_addSpan_8 : zd b_S_addSpan 8 10 (.iload 4) 2 := ⟨by decide +kernel, rfl⟩
theorem d_S_addSpan_10 : zd b_S_addSpan 10 11 (.iconst 3) 1 := ⟨by decide +kernel, rfl⟩
theorem d_S_addSpan_11 : zd b_S_addSpan 11 14 (.if_icmp .lt 4) 3 := ⟨by decide +kernel, rfl⟩
theorem d_S_addSpan_14 : zd b_S_addSpan 14 15 (.return_) 1 := ⟨by decide +kernel, rfl⟩
theorem d_S_addSpan_15 : zd b_S_addSpan 15 16 (.iload_n 1) 1 := ⟨by decide +kernel, rfl⟩
theorem d_S_addSpan_16 : zd b_S_addSpan 16 18 (.bipush 11) 2 := ⟨by decide +kernel, rfl⟩
theorem d_S_addSpan_18 : zd b_S_addSpan 18 19 (.imul) 1 := ⟨by decide +kernel, rfl⟩
theorem d_S_addSpan_19 : zd b_S_addSpan 19 20 (.iconst 5) 1 := ⟨by decide +kernel, rfl⟩
theorem d_S_addSpan_20 : zd b_S_addSpan 20 21 (.iadd) 1 := ⟨by decide +kernel, rfl⟩
theorem d_S_addSpan_21 : zd b_S_addSpan 21 23 (.istore 5) 2 := ⟨by decide +kernel, rfl⟩
theorem d_S_addSpan_23 : zd b_S_addSpan 23 25 (.iload 4) 2 := ⟨by decide +kernel, rfl⟩
theorem d_S_addSpan_25 : zd b_S_addSpan 25 27 (.istore 6) 2 := ⟨by decide +kernel, rfl⟩
theorem d_S_addSpan_27 : zd b_S_addSpan 27 29 (.iload 6) 2 := ⟨by decide +kernel, rfl⟩
theorem d_S_addSpan_29 : zd b_S_addSpan 29 32 (.ifCond .le 66) 3 := ⟨by decide +kernel, rfl⟩
theorem d_S_addSpan_32 : zd b_S_addSpan 32 33 (.aload_n 0) 1 := ⟨by decide +kernel, rfl⟩
theorem d_S_addSpan_33 : zd b_S_addSpan 33 34 (.iload_n 1) 1 := ⟨by decide +kernel, rfl⟩
theorem d_S_addSpan_34 : zd b_S_addSpan 34 36 (.iload 6) 2 := ⟨by decide +kernel, rfl⟩
theorem d_S_addSpan_36 : zd b_S_addSpan 36 37 (.iconst 1) 1 := ⟨by decide +kernel, rfl⟩
theorem d_S_addSpan_37 : zd b_S_addSpan 37 38 (.isub) 1 := ⟨by decide +kernel, rfl⟩
theorem d_S_addSpan_38 : zd b_S_addSpan 38 41 (.invokevirtual 64) 3 := ⟨by decide +kernel, rfl⟩
theorem d_S_addSpan_41 : zd b_S_addSpan 41 42 (.iload_n 2) 1 := ⟨by decide +kernel, rfl⟩
theorem d_S_addSpan_42 : zd b_S_addSpan 42 45 (.if_icmp .le 53) 3 := ⟨by decide +kernel, rfl⟩
theorem d_S_addSpan_45 : zd b_S_addSpan 45 46 (.aload_n 0) 1 := ⟨by decide +kernel, rfl⟩
theorem d_S_addSpan_46 : zd b_S_addSpan 46 49 (.getfield 15) 3 := ⟨by decide +kernel, rfl⟩
theorem d_S_addSpan_49 : zd b_S_addSpan 49 51 (.iload 5) 2 := ⟨by decide +kernel, rfl⟩
theorem d_S_addSpan_51 : zd b_S_addSpan 51 52 (.iconst 2) 1 := ⟨by decide +kernel, rfl⟩
theorem d_S_addSpan_52 : zd b_S_addSpan 52 54 (.iload 6) 2 := ⟨by decide +kernel, rfl⟩
theorem d_S_addSpan_54 : zd b_S_addSpan 54 55 (.imul) 1 := ⟨by decide +kernel, rfl⟩
theorem d_S_addSpan_55 : zd b_S_addSpan 55 56 (.iadd) 1 := ⟨by decide +kernel, rfl⟩
theorem d_S_addSpan_56 : zd b_S_addSpan 56 57 (.aload_n 0) 1 := ⟨by decide +kernel, rfl⟩
theorem d_S_addSpan_57 : zd b_S_addSpan 57 58 (.iload_n 1) 1 := ⟨by decide +kernel, rfl⟩
theorem d_S_addSpan_58 : zd b_S_addSpan 58 60 (.iload 6) 2 := ⟨by decide +kernel, rfl⟩
theorem d_S_addSpan_60 : zd b_S_addSpan 60 61 (.iconst 1) 1 := ⟨by decide +kernel, rfl⟩
theorem d_S_addSpan_61 : zd b_S_addSpan 61 62 (.isub) 1 := ⟨by decide +kernel, rfl⟩
theorem d_S_addSpan_62 : zd b_S_addSpan 62 65 (.invokevirtual 64) 3 := ⟨by decide +kernel, rfl⟩
theorem d_S_addSpan_65 : zd b_S_addSpan 65 66 (.iastore) 1 := ⟨by decide +kernel, rfl⟩
theorem d_S_addSpan_66 : zd b_S_addSpan 66 67 (.aload_n 0) 1 := ⟨by decide +kernel, rfl⟩
theorem d_S_addSpan_67 : zd b_S_addSpan 67 70 (.getfield 15) 3 := ⟨by decide +kernel, rfl⟩
theorem d_S_addSpan_70 : zd b_S_addSpan 70 72 (.iload 5) 2 := ⟨by decide +kernel, rfl⟩
theorem d_S_addSpan_72 : zd b_S_addSpan 72 73 (.iconst 2) 1 := ⟨by decide +kernel, rfl⟩
theorem d_S_addSpan_73 : zd b_S_addSpan 73 75 (.iload 6) 2 := ⟨by decide +kernel, rfl⟩
theorem d_S_addSpan_75 : zd b_S_addSpan 75 76 (.imul) 1 := ⟨by decide +kernel, rfl⟩
theorem d_S_addSpan_76 : zd b_S_addSpan 76 77 (.iadd) 1 := ⟨by decide +kernel, rfl⟩
theorem d_S_addSpan_77 : zd b_S_addSpan 77 78 (.iconst 1) 1 := ⟨by decide +kernel, rfl⟩
theorem d_S_addSpan_78 : zd b_S_addSpan 78 79 (.iadd) 1 := ⟨by decide +kernel, rfl⟩
theorem d_S_addSpan_79 : zd b_S_addSpan 79 80 (.aload_n 0) 1 := ⟨by decide +kernel, rfl⟩
theorem d_S_addSpan_80 : zd b_S_addSpan 80 81 (.iload_n 1) 1 := ⟨by decide +kernel, rfl⟩
theorem d_S_addSpan_81 : zd b_S_addSpan 81 83 (.iload 6) 2 := ⟨by decide +kernel, rfl⟩
theorem d_S_addSpan_83 : zd b_S_addSpan 83 84 (.iconst 1) 1 := ⟨by decide +kernel, rfl⟩
theorem d_S_addSpan_84 : zd b_S_addSpan 84 85 (.isub) 1 := ⟨by decide +kernel, rfl⟩
theorem d_S_addSpan_85 : zd b_S_addSpan 85 88 (.invokevirtual 61) 3 := ⟨by decide +kernel, rfl⟩
theorem d_S_addSpan_88 : zd b_S_addSpan 88 89 (.iastore) 1 := ⟨by decide +kernel, rfl⟩
theorem d_S_addSpan_89 : zd b_S_addSpan 89 92 (.iinc 6 (-1)) 3 := ⟨by decide +kernel, rfl⟩
theorem d_S_addSpan_92 : zd b_S_addSpan 92 95 (.goto (-65)) 3 := ⟨by decide +kernel, rfl⟩
theorem d_S_addSpan_95 : zd b_S_addSpan 95 96 (.aload_n 0) 1 := ⟨by decide +kernel, rfl⟩
theorem d_S_addSpan_96 : zd b_S_addSpan 96 99 (.getfield 15) 3 := ⟨by decide +kernel, rfl⟩
theorem d_S_addSpan_99 : zd b_S_addSpan 99 101 (.iload 5) 2 := ⟨by decide +kernel, rfl⟩
theorem d_S_addSpan_101 : zd b_S_addSpan 101 102 (.iconst 2) 1 := ⟨by decide +kernel, rfl⟩
theorem d_S_addSpan_102 : zd b_S_addSpan 102 104 (.iload 6) 2 := ⟨by decide +kernel, rfl⟩
theorem d_S_addSpan_104 : zd b_S_addSpan 104 105 (.imul) 1 := ⟨by decide +kernel, rfl⟩
theorem d_S_addSpan_105 : zd b_S_addSpan 105 106 (.iadd) 1 := ⟨by decide +kernel, rfl⟩
theorem d_S_addSpan_106 : zd b_S_addSpan 106 107 (.iload_n 2) 1 := ⟨by decide +kernel, rfl⟩
theorem d_S_addSpan_107 : zd b_S_addSpan 107 108 (.iastore) 1 := ⟨by decide +kernel, rfl⟩
theorem d_S_addSpan_108 : zd b_S_addSpan 108 109 (.aload_n 0) 1 := ⟨by decide +kernel, rfl⟩
theorem d_S_addSpan_109 : zd b_S_addSpan 109 112 (.getfield 15) 3 := ⟨by decide +kernel, rfl⟩
theorem d_S_addSpan_112 : zd b_S_addSpan 112 114 (.iload 5) 2 := ⟨by decide +kernel, rfl⟩
theorem d_S_addSpan_114 : zd b_S_addSpan 114 115 (.iconst 2) 1 := ⟨by decide +kernel, rfl⟩
theorem d_S_addSpan_115 : zd b_S_addSpan 115 117 (.iload 6) 2 := ⟨by decide +kernel, rfl⟩
theorem d_S_addSpan_117 : zd b_S_addSpan 117 118 (.imul) 1 := ⟨by decide +kernel, rfl⟩
theorem d_S_addSpan_118 : zd b_S_addSpan 118 119 (.iadd) 1 := ⟨by decide +kernel, rfl⟩
theorem d_S_addSpan_119 : zd b_S_addSpan 119 120 (.iconst 1) 1 := ⟨by decide +kernel, rfl⟩
theorem d_S_addSpan_120 : zd b_S_addSpan 120 121 (.iadd) 1 := ⟨by decide +kernel, rfl⟩
theorem d_S_addSpan_121 : zd b_S_addSpan 121 122 (.iload_n 3) 1 := ⟨by decide +kernel, rfl⟩
theorem d_S_addSpan_122 : zd b_S_addSpan 122 123 (.iastore) 1 := ⟨by decide +kernel, rfl⟩
theorem d_S_addSpan_123 : zd b_S_addSpan 123 124 (.aload_n 0) 1 := ⟨by decide +kernel, rfl⟩
theorem d_S_addSpan_124 : zd b_S_addSpan 124 127 (.getfield 15) 3 := ⟨by decide +kernel, rfl⟩
theorem d_S_addSpan_127 : zd b_S_addSpan 127 128 (.iload_n 1) 1 := ⟨by decide +kernel, rfl⟩
theorem d_S_addSpan_128 : zd b_S_addSpan 128 130 (.bipush 11) 2 := ⟨by decide +kernel, rfl⟩
theorem d_S_addSpan_130 : zd b_S_addSpan 130 131 (.imul) 1 := ⟨by decide +kernel, rfl⟩
theorem d_S_addSpan_131 : zd b_S_addSpan 131 132 (.iconst 4) 1 := ⟨by decide +kernel, rfl⟩
theorem d_S_addSpan_132 : zd b_S_addSpan 132 133 (.iadd) 1 := ⟨by decide +kernel, rfl⟩
theorem d_S_addSpan_133 : zd b_S_addSpan 133 135 (.iload 4) 2 := ⟨by decide +kernel, rfl⟩
theorem d_S_addSpan_135 : zd b_S_addSpan 135 136 (.iconst 1) 1 := ⟨by decide +kernel, rfl⟩
theorem d_S_addSpan_136 : zd b_S_addSpan 136 137 (.iadd) 1 := ⟨by decide +kernel, rfl⟩
theorem d_S_addSpan_137 : zd b_S_addSpan 137 138 (.iastore) 1 := ⟨by decide +kernel, rfl⟩
theorem d_S_addSpan_138 : zd b_S_addSpan 138 139 (.return_) 1 := ⟨by decide +kernel, rfl⟩
theorem d_S_addRoad_0 : zd b_S_addRoad 0 1 (.aload_n 0) 1 := ⟨by decide +kernel, rfl⟩
theorem d_S_addRoad_1 : zd b_S_addRoad 1 4 (.getfield 33) 3 := ⟨by decide +kernel, rfl⟩
theorem d_S_addRoad_4 : zd b_S_addRoad 4 6 (.istore 4) 2 := ⟨by decide +kernel, rfl⟩
theorem d_S_addRoad_6 : zd b_S_addRoad 6 8 (.iload 4) 2 := ⟨by decide +kernel, rfl⟩
theorem d_S_addRoad_8 : zd b_S_addRoad 8 10 (.bipush 11) 2 := ⟨by decide +kernel, rfl⟩
theorem d_S_addRoad_10 : zd b_S_addRoad 10 11 (.imul) 1 := ⟨by decide +kernel, rfl⟩
theorem d_S_addRoad_11 : zd b_S_addRoad 11 13 (.istore 5) 2 := ⟨by decide +kernel, rfl⟩
theorem d_S_addRoad_13 : zd b_S_addRoad 13 14 (.aload_n 0) 1 := ⟨by decide +kernel, rfl⟩
theorem d_S_addRoad_14 : zd b_S_addRoad 14 17 (.getfield 15) 3 := ⟨by decide +kernel, rfl⟩
theorem d_S_addRoad_17 : zd b_S_addRoad 17 19 (.iload 5) 2 := ⟨by decide +kernel, rfl⟩
theorem d_S_addRoad_19 : zd b_S_addRoad 19 20 (.iconst 0) 1 := ⟨by decide +kernel, rfl⟩
theorem d_S_addRoad_20 : zd b_S_addRoad 20 21 (.iadd) 1 := ⟨by decide +kernel, rfl⟩
theorem d_S_addRoad_21 : zd b_S_addRoad 21 22 (.iload_n 1) 1 := ⟨by decide +kernel, rfl⟩
theorem d_S_addRoad_22 : zd b_S_addRoad 22 23 (.iastore) 1 := ⟨by decide +kernel, rfl⟩
theorem d_S_addRoad_23 : zd b_S_addRoad 23 24 (.aload_n 0) 1 := ⟨by decide +kernel, rfl⟩
theorem d_S_addRoad_24 : zd b_S_addRoad 24 27 (.getfield 15) 3 := ⟨by decide +kernel, rfl⟩
theorem d_S_addRoad_27 : zd b_S_addRoad 27 29 (.iload 5) 2 := ⟨by decide +kernel, rfl⟩
theorem d_S_addRoad_29 : zd b_S_addRoad 29 30 (.iconst 1) 1 := ⟨by decide +kernel, rfl⟩
theorem d_S_addRoad_30 : zd b_S_addRoad 30 31 (.iadd) 1 := ⟨by decide +kernel, rfl⟩
theorem d_S_addRoad_31 : zd b_S_addRoad 31 32 (.iload_n 2) 1 := ⟨by decide +kernel, rfl⟩
theorem d_S_addRoad_32 : zd b_S_addRoad 32 33 (.iastore) 1 := ⟨by decide +kernel, rfl⟩
theorem d_S_addRoad_33 : zd b_S_addRoad 33 34 (.aload_n 0) 1 := ⟨by decide +kernel, rfl⟩
theorem d_S_addRoad_34 : zd b_S_addRoad 34 37 (.getfield 15) 3 := ⟨by decide +kernel, rfl⟩
theorem d_S_addRoad_37 : zd b_S_addRoad 37 39 (.iload 5) 2 := ⟨by decide +kernel, rfl⟩
theorem d_S_addRoad_39 : zd b_S_addRoad 39 40 (.iconst 2) 1 := ⟨by decide +kernel, rfl⟩
theorem d_S_addRoad_40 : zd b_S_addRoad 40 41 (.iadd) 1 := ⟨by decide +kernel, rfl⟩
theorem d_S_addRoad_41 : zd b_S_addRoad 41 42 (.iload_n 3) 1 := ⟨by decide +kernel, rfl⟩
theorem d_S_addRoad_42 : zd b_S_addRoad 42 43 (.iastore) 1 := ⟨by decide +kernel, rfl⟩
theorem d_S_addRoad_43 : zd b_S_addRoad 43 44 (.aload_n 0) 1 := ⟨by decide +kernel, rfl⟩
theorem d_S_addRoad_44 : zd b_S_addRoad 44 47 (.getfield 18) 3 := ⟨by decide +kernel, rfl⟩
theorem d_S_addRoad_47 : zd b_S_addRoad 47 49 (.iload 4) 2 := ⟨by decide +kernel, rfl⟩
theorem d_S_addRoad_49 : zd b_S_addRoad 49 50 (.iconst 0) 1 := ⟨by decide +kernel, rfl⟩
theorem d_S_addRoad_50 : zd b_S_addRoad 50 51 (.iastore) 1 := ⟨by decide +kernel, rfl⟩
theorem d_S_addRoad_51 : zd b_S_addRoad 51 52 (.aload_n 0) 1 := ⟨by decide +kernel, rfl⟩
theorem d_S_addRoad_52 : zd b_S_addRoad 52 53 (.dup) 1 := ⟨by decide +kernel, rfl⟩
theorem d_S_addRoad_53 : zd b_S_addRoad 53 56 (.getfield 33) 3 := ⟨by decide +kernel, rfl⟩
theorem d_S_addRoad_56 : zd b_S_addRoad 56 57 (.iconst 1) 1 := ⟨by decide +kernel, rfl⟩
theorem d_S_addRoad_57 : zd b_S_addRoad 57 58 (.iadd) 1 := ⟨by decide +kernel, rfl⟩
theorem d_S_addRoad_58 : zd b_S_addRoad 58 61 (.putfield 33) 3 := ⟨by decide +kernel, rfl⟩
theorem d_S_addRoad_61 : zd b_S_addRoad 61 62 (.aload_n 0) 1 := ⟨by decide +kernel, rfl⟩
theorem d_S_addRoad_62 : zd b_S_addRoad 62 64 (.iload 4) 2 := ⟨by decide +kernel, rfl⟩
theorem d_S_addRoad_64 : zd b_S_addRoad 64 65 (.iconst 0) 1 := ⟨by decide +kernel, rfl⟩
theorem d_S_addRoad_65 : zd b_S_addRoad 65 68 (.invokevirtual 43) 3 := ⟨by decide +kernel, rfl⟩
theorem d_S_addRoad_68 : zd b_S_addRoad 68 69 (.aload_n 0) 1 := ⟨by decide +kernel, rfl⟩
theorem d_S_addRoad_69 : zd b_S_addRoad 69 71 (.iload 4) 2 := ⟨by decide +kernel, rfl⟩
theorem d_S_addRoad_71 : zd b_S_addRoad 71 72 (.iconst 0) 1 := ⟨by decide +kernel, rfl⟩
theorem d_S_addRoad_72 : zd b_S_addRoad 72 75 (.sipush 1440) 3 := ⟨by decide +kernel, rfl⟩
theorem d_S_addRoad_75 : zd b_S_addRoad 75 78 (.invokevirtual 47) 3 := ⟨by decide +kernel, rfl⟩
theorem d_S_addRoad_78 : zd b_S_addRoad 78 80 (.iload 4) 2 := ⟨by decide +kernel, rfl⟩
theorem d_S_addRoad_80 : zd b_S_addRoad 80 81 (.ireturn) 1 := ⟨by decide +kernel, rfl⟩
end
section
theorem d_X_road_0 : zd b_X_road 0 1 (.iload_n 1) 1 := ⟨by decide +kernel, rfl⟩
theorem d_X_road_1 : zd b_X_road 1 4 (.invokestatic 65) 3 := ⟨by decide +kernel, rfl⟩
theorem d_X_road_4 : zd b_X_road 4 7 (.ifCond .eq 15) 3 := ⟨by decide +kernel, rfl⟩
theorem d_X_road_7 : zd b_X_road 7 8 (.iload_n 2) 1 := ⟨by decide +kernel, rfl⟩
theorem d_X_road_8 : zd b_X_road 8 11 (.invokestatic 65) 3 := ⟨by decide +kernel, rfl⟩
theorem d_X_road_11 : zd b_X_road 11 14 (.ifCond .eq 8) 3 := ⟨by decide +kernel, rfl⟩
theorem d_X_road_14 : zd b_X_road 14 15 (.iload_n 1) 1 := ⟨by decide +kernel, rfl⟩
theorem d_X_road_15 : zd b_X_road 15 16 (.iload_n 2) 1 := ⟨by decide +kernel, rfl⟩
theorem d_X_road_16 : zd b_X_road 16 19 (.if_icmp .ne 5) 3 := ⟨by decide +kernel, rfl⟩
theorem d_X_road_19 : zd b_X_road 19 20 (.iconst (-1)) 1 := ⟨by decide +kernel, rfl⟩
theorem d_X_road_20 : zd b_X_road 20 21 (.ireturn) 1 := ⟨by decide +kernel, rfl⟩
theorem d_X_road_21 : zd b_X_road 21 22 (.iload_n 3) 1 := ⟨by decide +kernel, rfl⟩
theorem d_X_road_22 : zd b_X_road 22 23 (.iconst 1) 1 := ⟨by decide +kernel, rfl⟩
theorem d_X_road_23 : zd b_X_road 23 26 (.sipush 600) 3 := ⟨by decide +kernel, rfl⟩
theorem d_X_road_26 : zd b_X_road 26 29 (.invokestatic 69) 3 := ⟨by decide +kernel, rfl⟩
theorem d_X_road_29 : zd b_X_road 29 32 (.ifCond .ne 6) 3 := ⟨by decide +kernel, rfl⟩
theorem d_X_road_32 : zd b_X_road 32 34 (.bipush (-2)) 2 := ⟨by decide +kernel, rfl⟩
theorem d_X_road_34 : zd b_X_road 34 35 (.ireturn) 1 := ⟨by decide +kernel, rfl⟩
theorem d_X_road_35 : zd b_X_road 35 36 (.aload_n 0) 1 := ⟨by decide +kernel, rfl⟩
theorem d_X_road_36 : zd b_X_road 36 39 (.getfield 12) 3 := ⟨by decide +kernel, rfl⟩
theorem d_X_road_39 : zd b_X_road 39 42 (.getfield 80) 3 := ⟨by decide +kernel, rfl⟩
theorem d_X_road_42 : zd b_X_road 42 44 (.bipush 24) 2 := ⟨by decide +kernel, rfl⟩
theorem d_X_road_44 : zd b_X_road 44 47 (.if_icmp .lt 6) 3 := ⟨by decide +kernel, rfl⟩
theorem d_X_road_47 : zd b_X_road 47 49 (.bipush (-4)) 2 := ⟨by decide +kernel, rfl⟩
theorem d_X_road_49 : zd b_X_road 49 50 (.ireturn) 1 := ⟨by decide +kernel, rfl⟩
theorem d_X_road_50 : zd b_X_road 50 51 (.aload_n 0) 1 := ⟨by decide +kernel, rfl⟩
theorem d_X_road_51 : zd b_X_road 51 54 (.invokevirtual 73) 3 := ⟨by decide +kernel, rfl⟩
theorem d_X_road_54 : zd b_X_road 54 55 (.aload_n 0) 1 := ⟨by decide +kernel, rfl⟩
theorem d_X_road_55 : zd b_X_road 55 58 (.getfield 12) 3 := ⟨by decide +kernel, rfl⟩
theorem d_X_road_58 : zd b_X_road 58 59 (.iload_n 1) 1 := ⟨by decide +kernel, rfl⟩
theorem d_X_road_59 : zd b_X_road 59 60 (.iload_n 2) 1 := ⟨by decide +kernel, rfl⟩
theorem d_X_road_60 : zd b_X_road 60 61 (.iload_n 3) 1 := ⟨by decide +kernel, rfl⟩
theorem d_X_road_61 : zd b_X_road 61 64 (.invokevirtual 84) 3 := ⟨by decide +kernel, rfl⟩
theorem d_X_road_64 : zd b_X_road 64 65 (.ireturn) 1 := ⟨by decide +kernel, rfl⟩
theorem d_X_isSpan_0 : zd b_X_isSpan 0 1 (.iload_n 0) 1 := ⟨by decide +kernel, rfl⟩
theorem d_X_isSpan_1 : zd b_X_isSpan 1 2 (.iconst 0) 1 := ⟨by decide +kernel, rfl⟩
theorem d_X_isSpan_2 : zd b_X_isSpan 2 3 (.iload_n 2) 1 := ⟨by decide +kernel, rfl⟩
theorem d_X_isSpan_3 : zd b_X_isSpan 3 4 (.iconst 1) 1 := ⟨by decide +kernel, rfl⟩
theorem d_X_isSpan_4 : zd b_X_isSpan 4 5 (.isub) 1 := ⟨by decide +kernel, rfl⟩
theorem d_X_isSpan_5 : zd b_X_isSpan 5 8 (.invokestatic 69) 3 := ⟨by decide +kernel, rfl⟩
theorem d_X_isSpan_8 : zd b_X_isSpan 8 11 (.ifCond .eq 18) 3 := ⟨by decide +kernel, rfl⟩
theorem d_X_isSpan_11 : zd b_X_isSpan 11 12 (.iload_n 1) 1 := ⟨by decide +kernel, rfl⟩
theorem d_X_isSpan_12 : zd b_X_isSpan 12 13 (.iload_n 0) 1 := ⟨by decide +kernel, rfl⟩
theorem d_X_isSpan_13 : zd b_X_isSpan 13 14 (.iconst 1) 1 := ⟨by decide +kernel, rfl⟩
theorem d_X_isSpan_14 : zd b_X_isSpan 14 15 (.iadd) 1 := ⟨by decide +kernel, rfl⟩
theorem d_X_isSpan_15 : zd b_X_isSpan 15 16 (.iload_n 2) 1 := ⟨by decide +kernel, rfl⟩
theorem d_X_isSpan_16 : zd b_X_isSpan 16 19 (.invokestatic 69) 3 := ⟨by decide +kernel, rfl⟩
theorem d_X_isSpan_19 : zd b_X_isSpan 19 22 (.ifCond .eq 7) 3 := ⟨by decide +kernel, rfl⟩
theorem d_X_isSpan_22 : zd b_X_isSpan 22 23 (.iconst 1) 1 := ⟨by decide +kernel, rfl⟩
theorem d_X_isSpan_23 : zd b_X_isSpan 23 26 (.goto 4) 3 := ⟨by decide +kernel, rfl⟩
theorem d_X_isSpan_26 : zd b_X_isSpan 26 27 (.iconst 0) 1 := ⟨by decide +kernel, rfl⟩
theorem d_X_isSpan_27 : zd b_X_isSpan 27 28 (.ireturn) 1 := ⟨by decide +kernel, rfl⟩
theorem d_X_open_0 : zd b_X_open 0 1 (.aload_n 0) 1 := ⟨by decide +kernel, rfl⟩
theorem d_X_open_1 : zd b_X_open 1 4 (.getfield 12) 3 := ⟨by decide +kernel, rfl⟩
theorem d_X_open_4 : zd b_X_open 4 5 (.iload_n 1) 1 := ⟨by decide +kernel, rfl⟩
theorem d_X_open_5 : zd b_X_open 5 8 (.invokevirtual 88) 3 := ⟨by decide +kernel, rfl⟩
theorem d_X_open_8 : zd b_X_open 8 11 (.ifCond .ne 5) 3 := ⟨by decide +kernel, rfl⟩
theorem d_X_open_11 : zd b_X_open 11 12 (.iconst (-1)) 1 := ⟨by decide +kernel, rfl⟩
theorem d_X_open_12 : zd b_X_open 12 13 (.ireturn) 1 := ⟨by decide +kernel, rfl⟩
theorem d_X_open_13 : zd b_X_open 13 14 (.iload_n 2) 1 := ⟨by decide +kernel, rfl⟩
theorem d_X_open_14 : zd b_X_open 14 15 (.iload_n 3) 1 := ⟨by decide +kernel, rfl⟩
theorem d_X_open_15 : zd b_X_open 15 18 (.sipush 1440) 3 := ⟨by decide +kernel, rfl⟩
theorem d_X_open_18 : zd b_X_open 18 21 (.invokestatic 91) 3 := ⟨by decide +kernel, rfl⟩
theorem d_X_open_21 : zd b_X_open 21 24 (.ifCond .eq 13) 3 := ⟨by decide +kernel, rfl⟩
theorem d_X_open_24 : zd b_X_open 24 26 (.iload 4) 2 := ⟨by decide +kernel, rfl⟩
theorem d_X_open_26 : zd b_X_open 26 27 (.iconst 0) 1 := ⟨by decide +kernel, rfl⟩
theorem d_X_open_27 : zd b_X_open 27 28 (.iconst 1) 1 := ⟨by decide +kernel, rfl⟩
theorem d_X_open_28 : zd b_X_open 28 31 (.invokestatic 69) 3 := ⟨by decide +kernel, rfl⟩
theorem d_X_open_31 : zd b_X_open 31 34 (.ifCond .ne 6) 3 := ⟨by decide +kernel, rfl⟩
theorem d_X_open_34 : zd b_X_open 34 36 (.bipush (-2)) 2 := ⟨by decide +kernel, rfl⟩
theorem d_X_open_36 : zd b_X_open 36 37 (.ireturn) 1 := ⟨by decide +kernel, rfl⟩
theorem d_X_open_37 : zd b_X_open 37 38 (.aload_n 0) 1 := ⟨by decide +kernel, rfl⟩
theorem d_X_open_38 : zd b_X_open 38 41 (.invokevirtual 73) 3 := ⟨by decide +kernel, rfl⟩
theorem d_X_open_41 : zd b_X_open 41 42 (.aload_n 0) 1 := ⟨by decide +kernel, rfl⟩
theorem d_X_open_42 : zd b_X_open 42 45 (.getfield 12) 3 := ⟨by decide +kernel, rfl⟩
theorem d_X_open_45 : zd b_X_open 45 46 (.iload_n 1) 1 := ⟨by decide +kernel, rfl⟩
theorem d_X_open_46 : zd b_X_open 46 47 (.iconst 4) 1 := ⟨by decide +kernel, rfl⟩
theorem d_X_open_47 : zd b_X_open 47 50 (.invokevirtual 94) 3 := ⟨by decide +kernel, rfl⟩
theorem d_X_open_50 : zd b_X_open 50 52 (.istore 5) 2 := ⟨by decide +kernel, rfl⟩
theorem d_X_open_52 : zd b_X_open 52 53 (.aload_n 0) 1 := ⟨by decide +kernel, rfl⟩
theorem d_X_open_53 : zd b_X_open 53 56 (.getfield 12) 3 := ⟨by decide +kernel, rfl⟩
theorem d_X_open_56 : zd b_X_open 56 57 (.iload_n 1) 1 := ⟨by decide +kernel, rfl⟩
theorem d_X_open_57 : zd b_X_open 57 59 (.iload 4) 2 := ⟨by decide +kernel, rfl⟩
theorem d_X_open_59 : zd b_X_open 59 62 (.invokevirtual 98) 3 := ⟨by decide +kernel, rfl⟩
theorem d_X_open_62 : zd b_X_open 62 63 (.aload_n 0) 1 := ⟨by decide +kernel, rfl⟩
theorem d_X_open_63 : zd b_X_open 63 66 (.getfield 12) 3 := ⟨by decide +kernel, rfl⟩
theorem d_X_open_66 : zd b_X_open 66 67 (.iload_n 1) 1 := ⟨by decide +kernel, rfl⟩
theorem d_X_open_67 : zd b_X_open 67 68 (.iload_n 2) 1 := ⟨by decide +kernel, rfl⟩
theorem d_X_open_68 : zd b_X_open 68 69 (.iload_n 3) 1 := ⟨by decide +kernel, rfl⟩
theorem d_X_open_69 : zd b_X_open 69 72 (.invokevirtual 102) 3 := ⟨by decide +kernel, rfl⟩
theorem d_X_open_72 : zd b_X_open 72 74 (.iload 5) 2 := ⟨by decide +kernel, rfl⟩
theorem d_X_open_74 : zd b_X_open 74 75 (.ireturn) 1 := ⟨by decide +kernel, rfl⟩
theorem d_S_meetsSpan_0 : zd b_S_meetsSpan 0 1 (.aload_n 0) 1 := ⟨by decide +kernel, rfl⟩
theorem d_S_meetsSpan_1 : zd b_S_meetsSpan 1 2 (.iload_n 1) 1 := ⟨by decide +kernel, rfl⟩
theorem d_S_meetsSpan_2 : zd b_S_meetsSpan 2 3 (.iconst 4) 1 := ⟨by decide +kernel, rfl⟩
theorem d_S_meetsSpan_3 : zd b_S_meetsSpan 3 6 (.invokevirtual 57) 3 := ⟨by decide +kernel, rfl⟩
theorem d_S_meetsSpan_6 : zd b_S_meetsSpan 6 8 (.istore 4) 2 := ⟨by decide +kernel, rfl⟩
theorem d_S_meetsSpan_8 : zd b_S_meetsSpan 8 9 (.iconst 0) 1 := ⟨by decide +kernel, rfl⟩
theorem d_S_meetsSpan_9 : zd b_S_meetsSpan 9 11 (.istore 5) 2 := ⟨by decide +kernel, rfl⟩
theorem d_S_meetsSpan_11 : zd b_S_meetsSpan 11 13 (.iload 5) 2 := ⟨by decide +kernel, rfl⟩
theorem d_S_meetsSpan_13 : zd b_S_meetsSpan 13 15 (.iload 4) 2 := ⟨by decide +kernel, rfl⟩
theorem d_S_meetsSpan_15 : zd b_S_meetsSpan 15 18 (.if_icmp .ge 33) 3 := ⟨by decide +kernel, rfl⟩
theorem d_S_meetsSpan_18 : zd b_S_meetsSpan 18 19 (.iload_n 2) 1 := ⟨by decide +kernel, rfl⟩
theorem d_S_meetsSpan_19 : zd b_S_meetsSpan 19 20 (.aload_n 0) 1 := ⟨by decide +kernel, rfl⟩
theorem d_S_meetsSpan_20 : zd b_S_meetsSpan 20 21 (.iload_n 1) 1 := ⟨by decide +kernel, rfl⟩
theorem d_S_meetsSpan_21 : zd b_S_meetsSpan 21 23 (.iload 5) 2 := ⟨by decide +kernel, rfl⟩
theorem d_S_meetsSpan_23 : zd b_S_meetsSpan 23 26 (.invokevirtual 61) 3 := ⟨by decide +kernel, rfl⟩
theorem d_S_meetsSpan_26 : zd b_S_meetsSpan 26 29 (.if_icmp .ge 16) 3 := ⟨by decide +kernel, rfl⟩
theorem d_S_meetsSpan_29 : zd b_S_meetsSpan 29 30 (.aload_n 0) 1 := ⟨by decide +kernel, rfl⟩
theorem d_S_meetsSpan_30 : zd b_S_meetsSpan 30 31 (.iload_n 1) 1 := ⟨by decide +kernel, rfl⟩
theorem d_S_meetsSpan_31 : zd b_S_meetsSpan 31 33 (.iload 5) 2 := ⟨by decide +kernel, rfl⟩
theorem d_S_meetsSpan_33 : zd b_S_meetsSpan 33 36 (.invokevirtual 64) 3 := ⟨by decide +kernel, rfl⟩
theorem d_S_meetsSpan_36 : zd b_S_meetsSpan 36 37 (.iload_n 3) 1 := ⟨by decide +kernel, rfl⟩
theorem d_S_meetsSpan_37 : zd b_S_meetsSpan 37 40 (.if_icmp .ge 5) 3 := ⟨by decide +kernel, rfl⟩
theorem d_S_meetsSpan_40 : zd b_S_meetsSpan 40 41 (.iconst 1) 1 := ⟨by decide +kernel, rfl⟩
theorem d_S_meetsSpan_41 : zd b_S_meetsSpan 41 42 (.ireturn) 1 := ⟨by decide +kernel, rfl⟩
theorem d_S_meetsSpan_42 : zd b_S_meetsSpan 42 45 (.iinc 5 1) 3 := ⟨by decide +kernel, rfl⟩
theorem d_S_meetsSpan_45 : zd b_S_meetsSpan 45 48 (.goto (-34)) 3 := ⟨by decide +kernel, rfl⟩
theorem d_S_meetsSpan_48 : zd b_S_meetsSpan 48 49 (.iconst 0) 1 := ⟨by decide +kernel, rfl⟩
theorem d_S_meetsSpan_49 : zd b_S_meetsSpan 49 50 (.ireturn) 1 := ⟨by decide +kernel, rfl⟩
theorem d_X_more_0 : zd b_X_more 0 1 (.aload_n 0) 1 := ⟨by decide +kernel, rfl⟩
theorem d_X_more_1 : zd b_X_more 1 4 (.getfield 12) 3 := ⟨by decide +kernel, rfl⟩
theorem d_X_more_4 : zd b_X_more 4 5 (.iload_n 1) 1 := ⟨by decide +kernel, rfl⟩
theorem d_X_more_5 : zd b_X_more 5 8 (.invokevirtual 88) 3 := ⟨by decide +kernel, rfl⟩
theorem d_X_more_8 : zd b_X_more 8 11 (.ifCond .ne 5) 3 := ⟨by decide +kernel, rfl⟩
theorem d_X_more_11 : zd b_X_more 11 12 (.iconst (-1)) 1 := ⟨by decide +kernel, rfl⟩
theorem d_X_more_12 : zd b_X_more 12 13 (.ireturn) 1 := ⟨by decide +kernel, rfl⟩
theorem d_X_more_13 : zd b_X_more 13 14 (.iload_n 2) 1 := ⟨by decide +kernel, rfl⟩
theorem d_X_more_14 : zd b_X_more 14 15 (.iload_n 3) 1 := ⟨by decide +kernel, rfl⟩
theorem d_X_more_15 : zd b_X_more 15 18 (.sipush 1440) 3 := ⟨by decide +kernel, rfl⟩
theorem d_X_more_18 : zd b_X_more 18 21 (.invokestatic 91) 3 := ⟨by decide +kernel, rfl⟩
theorem d_X_more_21 : zd b_X_more 21 24 (.ifCond .eq 16) 3 := ⟨by decide +kernel, rfl⟩
theorem d_X_more_24 : zd b_X_more 24 25 (.aload_n 0) 1 := ⟨by decide +kernel, rfl⟩
theorem d_X_more_25 : zd b_X_more 25 28 (.getfield 12) 3 := ⟨by decide +kernel, rfl⟩
theorem d_X_more_28 : zd b_X_more 28 29 (.iload_n 1) 1 := ⟨by decide +kernel, rfl⟩
theorem d_X_more_29 : zd b_X_more 29 30 (.iload_n 2) 1 := ⟨by decide +kernel, rfl⟩
theorem d_X_more_30 : zd b_X_more 30 31 (.iload_n 3) 1 := ⟨by decide +kernel, rfl⟩
theorem d_X_more_31 : zd b_X_more 31 34 (.invokevirtual 106) 3 := ⟨by decide +kernel, rfl⟩
theorem d_X_more_34 : zd b_X_more 34 37 (.ifCond .eq 6) 3 := ⟨by decide +kernel, rfl⟩
theorem d_X_more_37 : zd b_X_more 37 39 (.bipush (-2)) 2 := ⟨by decide +kernel, rfl⟩
theorem d_X_more_39 : zd b_X_more 39 40 (.ireturn) 1 := ⟨by decide +kernel, rfl⟩
theorem d_X_more_40 : zd b_X_more 40 41 (.aload_n 0) 1 := ⟨by decide +kernel, rfl⟩
theorem d_X_more_41 : zd b_X_more 41 44 (.getfield 12) 3 := ⟨by decide +kernel, rfl⟩
theorem d_X_more_44 : zd b_X_more 44 45 (.iload_n 1) 1 := ⟨by decide +kernel, rfl⟩
theorem d_X_more_45 : zd b_X_more 45 46 (.iconst 4) 1 := ⟨by decide +kernel, rfl⟩
theorem d_X_more_46 : zd b_X_more 46 49 (.invokevirtual 94) 3 := ⟨by decide +kernel, rfl⟩
theorem d_X_more_49 : zd b_X_more 49 50 (.iconst 3) 1 := ⟨by decide +kernel, rfl⟩
theorem d_X_more_50 : zd b_X_more 50 53 (.if_icmp .lt 6) 3 := ⟨by decide +kernel, rfl⟩
theorem d_X_more_53 : zd b_X_more 53 55 (.bipush (-4)) 2 := ⟨by decide +kernel, rfl⟩
theorem d_X_more_55 : zd b_X_more 55 56 (.ireturn) 1 := ⟨by decide +kernel, rfl⟩
theorem d_X_more_56 : zd b_X_more 56 57 (.aload_n 0) 1 := ⟨by decide +kernel, rfl⟩
theorem d_X_more_57 : zd b_X_more 57 60 (.invokevirtual 73) 3 := ⟨by decide +kernel, rfl⟩
theorem d_X_more_60 : zd b_X_more 60 61 (.aload_n 0) 1 := ⟨by decide +kernel, rfl⟩
theorem d_X_more_61 : zd b_X_more 61 64 (.getfield 12) 3 := ⟨by decide +kernel, rfl⟩
theorem d_X_more_64 : zd b_X_more 64 65 (.iload_n 1) 1 := ⟨by decide +kernel, rfl⟩
theorem d_X_more_65 : zd b_X_more 65 66 (.iload_n 2) 1 := ⟨by decide +kernel, rfl⟩
theorem d_X_more_66 : zd b_X_more 66 67 (.iload_n 3) 1 := ⟨by decide +kernel, rfl⟩
theorem d_X_more_67 : zd b_X_more 67 70 (.invokevirtual 102) 3 := ⟨by decide +kernel, rfl⟩
theorem d_X_more_70 : zd b_X_more 70 71 (.aload_n 0) 1 := ⟨by decide +kernel, rfl⟩
theorem d_X_more_71 : zd b_X_more 71 74 (.getfield 12) 3 := ⟨by decide +kernel, rfl⟩
theorem d_X_more_74 : zd b_X_more 74 75 (.iload_n 1) 1 := ⟨by decide +kernel, rfl⟩
theorem d_X_more_75 : zd b_X_more 75 76 (.iconst 4) 1 := ⟨by decide +kernel, rfl⟩
theorem d_X_more_76 : zd b_X_more 76 79 (.invokevirtual 94) 3 := ⟨by decide +kernel, rfl⟩
theorem d_X_more_79 : zd b_X_more 79 80 (.ireturn) 1 := ⟨by decide +kernel, rfl⟩
theorem d_S_addClosure_0 : zd b_S_addClosure 0 1 (.aload_n 0) 1 := ⟨by decide +kernel, rfl⟩
theorem d_S_addClosure_1 : zd b_S_addClosure 1 4 (.getfield 37) 3 := ⟨by decide +kernel, rfl⟩
theorem d_S_addClosure_4 : zd b_S_addClosure 4 5 (.iconst 3) 1 := ⟨by decide +kernel, rfl⟩
theorem d_S_addClosure_5 : zd b_S_addClosure 5 6 (.imul) 1 := ⟨by decide +kernel, rfl⟩
theorem d_S_addClosure_6 : zd b_S_addClosure 6 8 (.istore 4) 2 := ⟨by decide +kernel, rfl⟩
theorem d_S_addClosure_8 : zd b_S_addClosure 8 9 (.aload_n 0) 1 := ⟨by decide +kernel, rfl⟩
theorem d_S_addClosure_9 : zd b_S_addClosure 9 12 (.getfield 21) 3 := ⟨by decide +kernel, rfl⟩
theorem d_S_addClosure_12 : zd b_S_addClosure 12 14 (.iload 4) 2 := ⟨by decide +kernel, rfl⟩
theorem d_S_addClosure_14 : zd b_S_addClosure 14 15 (.iconst 0) 1 := ⟨by decide +kernel, rfl⟩
theorem d_S_addClosure_15 : zd b_S_addClosure 15 16 (.iadd) 1 := ⟨by decide +kernel, rfl⟩
theorem d_S_addClosure_16 : zd b_S_addClosure 16 17 (.iload_n 1) 1 := ⟨by decide +kernel, rfl⟩
theorem d_S_addClosure_17 : zd b_S_addClosure 17 18 (.iastore) 1 := ⟨by decide +kernel, rfl⟩
theorem d_S_addClosure_18 : zd b_S_addClosure 18 19 (.aload_n 0) 1 := ⟨by decide +kernel, rfl⟩
theorem d_S_addClosure_19 : zd b_S_addClosure 19 22 (.getfield 21) 3 := ⟨by decide +kernel, rfl⟩
theorem d_S_addClosure_22 : zd b_S_addClosure 22 24 (.iload 4) 2 := ⟨by decide +kernel, rfl⟩
theorem d_S_addClosure_24 : zd b_S_addClosure 24 25 (.iconst 1) 1 := ⟨by decide +kernel, rfl⟩
theorem d_S_addClosure_25 : zd b_S_addClosure 25 26 (.iadd) 1 := ⟨by decide +kernel, rfl⟩
theorem d_S_addClosure_26 : zd b_S_addClosure 26 27 (.iload_n 2) 1 := ⟨by decide +kernel, rfl⟩
theorem d_S_addClosure_27 : zd b_S_addClosure 27 28 (.iastore) 1 := ⟨by decide +kernel, rfl⟩
theorem d_S_addClosure_28 : zd b_S_addClosure 28 29 (.aload_n 0) 1 := ⟨by decide +kernel, rfl⟩
theorem d_S_addClosure_29 : zd b_S_addClosure 29 32 (.getfield 21) 3 := ⟨by decide +kernel, rfl⟩
theorem d_S_addClosure_32 : zd b_S_addClosure 32 34 (.iload 4) 2 := ⟨by decide +kernel, rfl⟩
theorem d_S_addClosure_34 : zd b_S_addClosure 34 35 (.iconst 2) 1 := ⟨by decide +kernel, rfl⟩
theorem d_S_addClosure_35 : zd b_S_addClosure 35 36 (.iadd) 1 := ⟨by decide +kernel, rfl⟩
theorem d_S_addClosure_36 : zd b_S_addClosure 36 37 (.iload_n 3) 1 := ⟨by decide +kernel, rfl⟩
theorem d_S_addClosure_37 : zd b_S_addClosure 37 38 (.iastore) 1 := ⟨by decide +kernel, rfl⟩
theorem d_S_addClosure_38 : zd b_S_addClosure 38 39 (.aload_n 0) 1 := ⟨by decide +kernel, rfl⟩
theorem d_S_addClosure_39 : zd b_S_addClosure 39 40 (.dup) 1 := ⟨by decide +kernel, rfl⟩
theorem d_S_addClosure_40 : zd b_S_addClosure 40 43 (.getfield 37) 3 := ⟨by decide +kernel, rfl⟩
theorem d_S_addClosure_43 : zd b_S_addClosure 43 44 (.iconst 1) 1 := ⟨by decide +kernel, rfl⟩
theorem d_S_addClosure_44 : zd b_S_addClosure 44 45 (.iadd) 1 := ⟨by decide +kernel, rfl⟩
theorem d_S_addClosure_45 : zd b_S_addClosure 45 48 (.putfield 37) 3 := ⟨by decide +kernel, rfl⟩
theorem d_S_addClosure_48 : zd b_S_addClosure 48 49 (.aload_n 0) 1 := ⟨by decide +kernel, rfl⟩
theorem d_S_addClosure_49 : zd b_S_addClosure 49 52 (.getfield 37) 3 := ⟨by decide +kernel, rfl⟩
theorem d_S_addClosure_52 : zd b_S_addClosure 52 53 (.iconst 1) 1 := ⟨by decide +kernel, rfl⟩
theorem d_S_addClosure_53 : zd b_S_addClosure 53 54 (.isub) 1 := ⟨by decide +kernel, rfl⟩
theorem d_S_addClosure_54 : zd b_S_addClosure 54 55 (.ireturn) 1 := ⟨by decide +kernel, rfl⟩
theorem d_X_close_0 : zd b_X_close 0 1 (.aload_n 0) 1 := ⟨by decide +kernel, rfl⟩
theorem d_X_close_1 : zd b_X_close 1 4 (.getfield 12) 3 := ⟨by decide +kernel, rfl⟩
theorem d_X_close_4 : zd b_X_close 4 5 (.iload_n 1) 1 := ⟨by decide +kernel, rfl⟩
theorem d_X_close_5 : zd b_X_close 5 8 (.invokevirtual 88) 3 := ⟨by decide +kernel, rfl⟩
theorem d_X_close_8 : zd b_X_close 8 11 (.ifCond .ne 5) 3 := ⟨by decide +kernel, rfl⟩
theorem d_X_close_11 : zd b_X_close 11 12 (.iconst (-1)) 1 := ⟨by decide +kernel, rfl⟩
theorem d_X_close_12 : zd b_X_close 12 13 (.ireturn) 1 := ⟨by decide +kernel, rfl⟩
theorem d_X_close_13 : zd b_X_close 13 14 (.iload_n 2) 1 := ⟨by decide +kernel, rfl⟩
theorem d_X_close_14 : zd b_X_close 14 15 (.iload_n 3) 1 := ⟨by decide +kernel, rfl⟩
theorem d_X_close_15 : zd b_X_close 15 18 (.sipush 2880) 3 := ⟨by decide +kernel, rfl⟩
theorem d_X_close_18 : zd b_X_close 18 21 (.invokestatic 91) 3 := ⟨by decide +kernel, rfl⟩
theorem d_X_close_21 : zd b_X_close 21 24 (.ifCond .ne 6) 3 := ⟨by decide +kernel, rfl⟩
theorem d_X_close_24 : zd b_X_close 24 26 (.bipush (-2)) 2 := ⟨by decide +kernel, rfl⟩
theorem d_X_close_26 : zd b_X_close 26 27 (.ireturn) 1 := ⟨by decide +kernel, rfl⟩
theorem d_X_close_27 : zd b_X_close 27 28 (.aload_n 0) 1 := ⟨by decide +kernel, rfl⟩
theorem d_X_close_28 : zd b_X_close 28 31 (.getfield 12) 3 := ⟨by decide +kernel, rfl⟩
theorem d_X_close_31 : zd b_X_close 31 34 (.getfield 109) 3 := ⟨by decide +kernel, rfl⟩
theorem d_X_close_34 : zd b_X_close 34 36 (.bipush 20) 2 := ⟨by decide +kernel, rfl⟩
theorem d_X_close_36 : zd b_X_close 36 39 (.if_icmp .lt 6) 3 := ⟨by decide +kernel, rfl⟩
theorem d_X_close_39 : zd b_X_close 39 41 (.bipush (-4)) 2 := ⟨by decide +kernel, rfl⟩
theorem d_X_close_41 : zd b_X_close 41 42 (.ireturn) 1 := ⟨by decide +kernel, rfl⟩
theorem d_X_close_42 : zd b_X_close 42 43 (.aload_n 0) 1 := ⟨by decide +kernel, rfl⟩
theorem d_X_close_43 : zd b_X_close 43 46 (.invokevirtual 73) 3 := ⟨by decide +kernel, rfl⟩
theorem d_X_close_46 : zd b_X_close 46 47 (.aload_n 0) 1 := ⟨by decide +kernel, rfl⟩
theorem d_X_close_47 : zd b_X_close 47 50 (.getfield 12) 3 := ⟨by decide +kernel, rfl⟩
theorem d_X_close_50 : zd b_X_close 50 51 (.iload_n 1) 1 := ⟨by decide +kernel, rfl⟩
theorem d_X_close_51 : zd b_X_close 51 52 (.iload_n 2) 1 := ⟨by decide +kernel, rfl⟩
theorem d_X_close_52 : zd b_X_close 52 53 (.iload_n 3) 1 := ⟨by decide +kernel, rfl⟩
theorem d_X_close_53 : zd b_X_close 53 56 (.invokevirtual 112) 3 := ⟨by decide +kernel, rfl⟩
theorem d_X_close_56 : zd b_X_close 56 57 (.ireturn) 1 := ⟨by decide +kernel, rfl⟩
theorem d_S_dropClosure_0 : zd b_S_dropClosure 0 1 (.iload_n 1) 1 := ⟨by decide +kernel, rfl⟩
theorem d_S_dropClosure_1 : zd b_S_dropClosure 1 2 (.iconst 1) 1 := ⟨by decide +kernel, rfl⟩
theorem d_S_dropClosure_2 : zd b_S_dropClosure 2 3 (.iadd) 1 := ⟨by decide +kernel, rfl⟩
theorem d_S_dropClosure_3 : zd b_S_dropClosure 3 4 (.iconst 3) 1 := ⟨by decide +kernel, rfl⟩
theorem d_S_dropClosure_4 : zd b_S_dropClosure 4 5 (.imul) 1 := ⟨by decide +kernel, rfl⟩
theorem d_S_dropClosure_5 : zd b_S_dropClosure 5 6 (.istore_n 2) 1 := ⟨by decide +kernel, rfl⟩
theorem d_S_dropClosure_6 : zd b_S_dropClosure 6 7 (.aload_n 0) 1 := ⟨by decide +kernel, rfl⟩
theorem d_S_dropClosure_7 : zd b_S_dropClosure 7 10 (.getfield 21) 3 := ⟨by decide +kernel, rfl⟩
theorem d_S_dropClosure_10 : zd b_S_dropClosure 10 11 (.iload_n 2) 1 := ⟨by decide +kernel, rfl⟩
theorem d_S_dropClosure_11 : zd b_S_dropClosure 11 12 (.aload_n 0) 1 := ⟨by decide +kernel, rfl⟩
theorem d_S_dropClosure_12 : zd b_S_dropClosure 12 15 (.getfield 21) 3 := ⟨by decide +kernel, rfl⟩
theorem d_S_dropClosure_15 : zd b_S_dropClosure 15 16 (.iload_n 2) 1 := ⟨by decide +kernel, rfl⟩
theorem d_S_dropClosure_16 : zd b_S_dropClosure 16 17 (.iconst 3) 1 := ⟨by decide +kernel, rfl⟩
theorem d_S_dropClosure_17 : zd b_S_dropClosure 17 18 (.isub) 1 := ⟨by decide +kernel, rfl⟩
theorem d_S_dropClosure_18 : zd b_S_dropClosure 18 19 (.aload_n 0) 1 := ⟨by decide +kernel, rfl⟩
theorem d_S_dropClosure_19 : zd b_S_dropClosure 19 22 (.getfield 37) 3 := ⟨by decide +kernel, rfl⟩
theorem d_S_dropClosure_22 : zd b_S_dropClosure 22 23 (.iconst 3) 1 := ⟨by decide +kernel, rfl⟩
theorem d_S_dropClosure_23 : zd b_S_dropClosure 23 24 (.imul) 1 := ⟨by decide +kernel, rfl⟩
theorem d_S_dropClosure_24 : zd b_S_dropClosure 24 25 (.iload_n 2) 1 := ⟨by decide +kernel, rfl⟩
theorem d_S_dropClosure_25 : zd b_S_dropClosure 25 26 (.isub) 1 := ⟨by decide +kernel, rfl⟩
theorem d_S_dropClosure_26 : zd b_S_dropClosure 26 29 (.invokestatic 27) 3 := ⟨by decide +kernel, rfl⟩
theorem d_S_dropClosure_29 : zd b_S_dropClosure 29 30 (.aload_n 0) 1 := ⟨by decide +kernel, rfl⟩
theorem d_S_dropClosure_30 : zd b_S_dropClosure 30 31 (.dup) 1 := ⟨by decide +kernel, rfl⟩
theorem d_S_dropClosure_31 : zd b_S_dropClosure 31 34 (.getfield 37) 3 := ⟨by decide +kernel, rfl⟩
theorem d_S_dropClosure_34 : zd b_S_dropClosure 34 35 (.iconst 1) 1 := ⟨by decide +kernel, rfl⟩
theorem d_S_dropClosure_35 : zd b_S_dropClosure 35 36 (.isub) 1 := ⟨by decide +kernel, rfl⟩
theorem d_S_dropClosure_36 : zd b_S_dropClosure 36 39 (.putfield 37) 3 := ⟨by decide +kernel, rfl⟩
theorem d_S_dropClosure_39 : zd b_S_dropClosure 39 40 (.return_) 1 := ⟨by decide +kernel, rfl⟩
theorem d_X_lift_0 : zd b_X_lift 0 1 (.aload_n 0) 1 := ⟨by decide +kernel, rfl⟩
theorem d_X_lift_1 : zd b_X_lift 1 4 (.getfield 12) 3 := ⟨by decide +kernel, rfl⟩
theorem d_X_lift_4 : zd b_X_lift 4 5 (.iload_n 1) 1 := ⟨by decide +kernel, rfl⟩
theorem d_X_lift_5 : zd b_X_lift 5 8 (.invokevirtual 115) 3 := ⟨by decide +kernel, rfl⟩
theorem d_X_lift_8 : zd b_X_lift 8 11 (.ifCond .ne 5) 3 := ⟨by decide +kernel, rfl⟩
theorem d_X_lift_11 : zd b_X_lift 11 12 (.iconst (-1)) 1 := ⟨by decide +kernel, rfl⟩
theorem d_X_lift_12 : zd b_X_lift 12 13 (.ireturn) 1 := ⟨by decide +kernel, rfl⟩
theorem d_X_lift_13 : zd b_X_lift 13 14 (.aload_n 0) 1 := ⟨by decide +kernel, rfl⟩
theorem d_X_lift_14 : zd b_X_lift 14 17 (.invokevirtual 73) 3 := ⟨by decide +kernel, rfl⟩
theorem d_X_lift_17 : zd b_X_lift 17 18 (.aload_n 0) 1 := ⟨by decide +kernel, rfl⟩
theorem d_X_lift_18 : zd b_X_lift 18 21 (.getfield 12) 3 := ⟨by decide +kernel, rfl⟩
theorem d_X_lift_21 : zd b_X_lift 21 22 (.iload_n 1) 1 := ⟨by decide +kernel, rfl⟩
theorem d_X_lift_22 : zd b_X_lift 22 25 (.invokevirtual 118) 3 := ⟨by decide +kernel, rfl⟩
theorem d_X_lift_25 : zd b_X_lift 25 26 (.aload_n 0) 1 := ⟨by decide +kernel, rfl⟩
theorem d_X_lift_26 : zd b_X_lift 26 29 (.getfield 12) 3 := ⟨by decide +kernel, rfl⟩
theorem d_X_lift_29 : zd b_X_lift 29 32 (.getfield 109) 3 := ⟨by decide +kernel, rfl⟩
theorem d_X_lift_32 : zd b_X_lift 32 33 (.ireturn) 1 := ⟨by decide +kernel, rfl⟩
theorem d_S_addTraveller_0 : zd b_S_addTraveller 0 1 (.aload_n 0) 1 := ⟨by decide +kernel, rfl⟩
theorem d_S_addTraveller_1 : zd b_S_addTraveller 1 4 (.getfield 40) 3 := ⟨by decide +kernel, rfl⟩
theorem d_S_addTraveller_4 : zd b_S_addTraveller 4 6 (.bipush 8) 2 := ⟨by decide +kernel, rfl⟩
theorem d_S_addTraveller_6 : zd b_S_addTraveller 6 7 (.imul) 1 := ⟨by decide +kernel, rfl⟩
theorem d_S_addTraveller_7 : zd b_S_addTraveller 7 8 (.istore_n 3) 1 := ⟨by decide +kernel, rfl⟩
theorem d_S_addTraveller_8 : zd b_S_addTraveller 8 9 (.aload_n 0) 1 := ⟨by decide +kernel, rfl⟩
theorem d_S_addTraveller_9 : zd b_S_addTraveller 9 12 (.getfield 24) 3 := ⟨by decide +kernel, rfl⟩
theorem d_S_addTraveller_12 : zd b_S_addTraveller 12 13 (.iload_n 3) 1 := ⟨by decide +kernel, rfl⟩
theorem d_S_addTraveller_13 : zd b_S_addTraveller 13 14 (.iload_n 3) 1 := ⟨by decide +kernel, rfl⟩
theorem d_S_addTraveller_14 : zd b_S_addTraveller 14 16 (.bipush 8) 2 := ⟨by decide +kernel, rfl⟩
theorem d_S_addTraveller_16 : zd b_S_addTraveller 16 17 (.iadd) 1 := ⟨by decide +kernel, rfl⟩
theorem d_S_addTraveller_17 : zd b_S_addTraveller 17 18 (.iconst 0) 1 := ⟨by decide +kernel, rfl⟩
theorem d_S_addTraveller_18 : zd b_S_addTraveller 18 21 (.invokestatic 51) 3 := ⟨by decide +kernel, rfl⟩
theorem d_S_addTraveller_21 : zd b_S_addTraveller 21 22 (.aload_n 0) 1 := ⟨by decide +kernel, rfl⟩
theorem d_S_addTraveller_22 : zd b_S_addTraveller 22 25 (.getfield 24) 3 := ⟨by decide +kernel, rfl⟩
theorem d_S_addTraveller_25 : zd b_S_addTraveller 25 26 (.iload_n 3) 1 := ⟨by decide +kernel, rfl⟩
theorem d_S_addTraveller_26 : zd b_S_addTraveller 26 27 (.iconst 0) 1 := ⟨by decide +kernel, rfl⟩
theorem d_S_addTraveller_27 : zd b_S_addTraveller 27 28 (.iadd) 1 := ⟨by decide +kernel, rfl⟩
theorem d_S_addTraveller_28 : zd b_S_addTraveller 28 29 (.iload_n 1) 1 := ⟨by decide +kernel, rfl⟩
theorem d_S_addTraveller_29 : zd b_S_addTraveller 29 30 (.iastore) 1 := ⟨by decide +kernel, rfl⟩
theorem d_S_addTraveller_30 : zd b_S_addTraveller 30 31 (.aload_n 0) 1 := ⟨by decide +kernel, rfl⟩
theorem d_S_addTraveller_31 : zd b_S_addTraveller 31 34 (.getfield 24) 3 := ⟨by decide +kernel, rfl⟩
theorem d_S_addTraveller_34 : zd b_S_addTraveller 34 35 (.iload_n 3) 1 := ⟨by decide +kernel, rfl⟩
theorem d_S_addTraveller_35 : zd b_S_addTraveller 35 36 (.iconst 1) 1 := ⟨by decide +kernel, rfl⟩
theorem d_S_addTraveller_36 : zd b_S_addTraveller 36 37 (.iadd) 1 := ⟨by decide +kernel, rfl⟩
theorem d_S_addTraveller_37 : zd b_S_addTraveller 37 38 (.iload_n 2) 1 := ⟨by decide +kernel, rfl⟩
theorem d_S_addTraveller_38 : zd b_S_addTraveller 38 39 (.iastore) 1 := ⟨by decide +kernel, rfl⟩
theorem d_S_addTraveller_39 : zd b_S_addTraveller 39 40 (.aload_n 0) 1 := ⟨by decide +kernel, rfl⟩
theorem d_S_addTraveller_40 : zd b_S_addTraveller 40 43 (.getfield 24) 3 := ⟨by decide +kernel, rfl⟩
theorem d_S_addTraveller_43 : zd b_S_addTraveller 43 44 (.iload_n 3) 1 := ⟨by decide +kernel, rfl⟩
theorem d_S_addTraveller_44 : zd b_S_addTraveller 44 45 (.iconst 2) 1 := ⟨by decide +kernel, rfl⟩
theorem d_S_addTraveller_45 : zd b_S_addTraveller 45 46 (.iadd) 1 := ⟨by decide +kernel, rfl⟩
theorem d_S_addTraveller_46 : zd b_S_addTraveller 46 47 (.iload_n 2) 1 := ⟨by decide +kernel, rfl⟩
theorem d_S_addTraveller_47 : zd b_S_addTraveller 47 48 (.iastore) 1 := ⟨by decide +kernel, rfl⟩
theorem d_S_addTraveller_48 : zd b_S_addTraveller 48 49 (.aload_n 0) 1 := ⟨by decide +kernel, rfl⟩
theorem d_S_addTraveller_49 : zd b_S_addTraveller 49 52 (.getfield 24) 3 := ⟨by decide +kernel, rfl⟩
theorem d_S_addTraveller_52 : zd b_S_addTraveller 52 53 (.iload_n 3) 1 := ⟨by decide +kernel, rfl⟩
theorem d_S_addTraveller_53 : zd b_S_addTraveller 53 55 (.bipush 6) 2 := ⟨by decide +kernel, rfl⟩
theorem d_S_addTraveller_55 : zd b_S_addTraveller 55 56 (.iadd) 1 := ⟨by decide +kernel, rfl⟩
theorem d_S_addTraveller_56 : zd b_S_addTraveller 56 57 (.iload_n 1) 1 := ⟨by decide +kernel, rfl⟩
theorem d_S_addTraveller_57 : zd b_S_addTraveller 57 58 (.iastore) 1 := ⟨by decide +kernel, rfl⟩
theorem d_S_addTraveller_58 : zd b_S_addTraveller 58 59 (.aload_n 0) 1 := ⟨by decide +kernel, rfl⟩
theorem d_S_addTraveller_59 : zd b_S_addTraveller 59 62 (.getfield 24) 3 := ⟨by decide +kernel, rfl⟩
theorem d_S_addTraveller_62 : zd b_S_addTraveller 62 63 (.iload_n 3) 1 := ⟨by decide +kernel, rfl⟩
theorem d_S_addTraveller_63 : zd b_S_addTraveller 63 65 (.bipush 7) 2 := ⟨by decide +kernel, rfl⟩
theorem d_S_addTraveller_65 : zd b_S_addTraveller 65 66 (.iadd) 1 := ⟨by decide +kernel, rfl⟩
theorem d_S_addTraveller_66 : zd b_S_addTraveller 66 67 (.iload_n 2) 1 := ⟨by decide +kernel, rfl⟩
theorem d_S_addTraveller_67 : zd b_S_addTraveller 67 68 (.iastore) 1 := ⟨by decide +kernel, rfl⟩
theorem d_S_addTraveller_68 : zd b_S_addTraveller 68 69 (.aload_n 0) 1 := ⟨by decide +kernel, rfl⟩
theorem d_S_addTraveller_69 : zd b_S_addTraveller 69 70 (.dup) 1 := ⟨by decide +kernel, rfl⟩
theorem d_S_addTraveller_70 : zd b_S_addTraveller 70 73 (.getfield 40) 3 := ⟨by decide +kernel, rfl⟩
theorem d_S_addTraveller_73 : zd b_S_addTraveller 73 74 (.iconst 1) 1 := ⟨by decide +kernel, rfl⟩
theorem d_S_addTraveller_74 : zd b_S_addTraveller 74 75 (.iadd) 1 := ⟨by decide +kernel, rfl⟩
theorem d_S_addTraveller_75 : zd b_S_addTraveller 75 78 (.putfield 40) 3 := ⟨by decide +kernel, rfl⟩
theorem d_S_addTraveller_78 : zd b_S_addTraveller 78 79 (.aload_n 0) 1 := ⟨by decide +kernel, rfl⟩
theorem d_S_addTraveller_79 : zd b_S_addTraveller 79 82 (.getfield 40) 3 := ⟨by decide +kernel, rfl⟩
theorem d_S_addTraveller_82 : zd b_S_addTraveller 82 83 (.iconst 1) 1 := ⟨by decide +kernel, rfl⟩
theorem d_S_addTraveller_83 : zd b_S_addTraveller 83 84 (.isub) 1 := ⟨by decide +kernel, rfl⟩
theorem d_S_addTraveller_84 : zd b_S_addTraveller 84 85 (.ireturn) 1 := ⟨by decide +kernel, rfl⟩
theorem d_X_traveller_0 : zd b_X_traveller 0 1 (.iload_n 1) 1 := ⟨by decide +kernel, rfl⟩
theorem d_X_traveller_1 : zd b_X_traveller 1 4 (.invokestatic 65) 3 := ⟨by decide +kernel, rfl⟩
theorem d_X_traveller_4 : zd b_X_traveller 4 7 (.ifCond .ne 5) 3 := ⟨by decide +kernel, rfl⟩
theorem d_X_traveller_7 : zd b_X_traveller 7 8 (.iconst (-1)) 1 := ⟨by decide +kernel, rfl⟩
theorem d_X_traveller_8 : zd b_X_traveller 8 9 (.ireturn) 1 := ⟨by decide +kernel, rfl⟩
theorem d_X_traveller_9 : zd b_X_traveller 9 10 (.iload_n 2) 1 := ⟨by decide +kernel, rfl⟩
theorem d_X_traveller_10 : zd b_X_traveller 10 11 (.iconst 0) 1 := ⟨by decide +kernel, rfl⟩
theorem d_X_traveller_11 : zd b_X_traveller 11 14 (.sipush 2880) 3 := ⟨by decide +kernel, rfl⟩
theorem d_X_traveller_14 : zd b_X_traveller 14 17 (.invokestatic 69) 3 := ⟨by decide +kernel, rfl⟩
theorem d_X_traveller_17 : zd b_X_traveller 17 20 (.ifCond .ne 6) 3 := ⟨by decide +kernel, rfl⟩
theorem d_X_traveller_20 : zd b_X_traveller 20 22 (.bipush (-2)) 2 := ⟨by decide +kernel, rfl⟩
theorem d_X_traveller_22 : zd b_X_traveller 22 23 (.ireturn) 1 := ⟨by decide +kernel, rfl⟩
theorem d_X_traveller_23 : zd b_X_traveller 23 24 (.aload_n 0) 1 := ⟨by decide +kernel, rfl⟩
theorem d_X_traveller_24 : zd b_X_traveller 24 27 (.getfield 12) 3 := ⟨by decide +kernel, rfl⟩
theorem d_X_traveller_27 : zd b_X_traveller 27 30 (.getfield 122) 3 := ⟨by decide +kernel, rfl⟩
theorem d_X_traveller_30 : zd b_X_traveller 30 32 (.bipush 10) 2 := ⟨by decide +kernel, rfl⟩
theorem d_X_traveller_32 : zd b_X_traveller 32 35 (.if_icmp .lt 6) 3 := ⟨by decide +kernel, rfl⟩
theorem d_X_traveller_35 : zd b_X_traveller 35 37 (.bipush (-4)) 2 := ⟨by decide +kernel, rfl⟩
theorem d_X_traveller_37 : zd b_X_traveller 37 38 (.ireturn) 1 := ⟨by decide +kernel, rfl⟩
theorem d_X_traveller_38 : zd b_X_traveller 38 39 (.aload_n 0) 1 := ⟨by decide +kernel, rfl⟩
theorem d_X_traveller_39 : zd b_X_traveller 39 42 (.invokevirtual 73) 3 := ⟨by decide +kernel, rfl⟩
theorem d_X_traveller_42 : zd b_X_traveller 42 43 (.aload_n 0) 1 := ⟨by decide +kernel, rfl⟩
theorem d_X_traveller_43 : zd b_X_traveller 43 46 (.getfield 12) 3 := ⟨by decide +kernel, rfl⟩
theorem d_X_traveller_46 : zd b_X_traveller 46 47 (.iload_n 1) 1 := ⟨by decide +kernel, rfl⟩
theorem d_X_traveller_47 : zd b_X_traveller 47 48 (.iload_n 2) 1 := ⟨by decide +kernel, rfl⟩
theorem d_X_traveller_48 : zd b_X_traveller 48 51 (.invokevirtual 125) 3 := ⟨by decide +kernel, rfl⟩
theorem d_X_traveller_51 : zd b_X_traveller 51 52 (.ireturn) 1 := ⟨by decide +kernel, rfl⟩
theorem d_S_spanEnd_0 : zd b_S_spanEnd 0 1 (.aload_n 0) 1 := ⟨by decide +kernel, rfl⟩
theorem d_S_spanEnd_1 : zd b_S_spanEnd 1 2 (.iload_n 1) 1 := ⟨by decide +kernel, rfl⟩
theorem d_S_spanEnd_2 : zd b_S_spanEnd 2 3 (.iconst 4) 1 := ⟨by decide +kernel, rfl⟩
theorem d_S_spanEnd_3 : zd b_S_spanEnd 3 6 (.invokevirtual 57) 3 := ⟨by decide +kernel, rfl⟩
theorem d_S_spanEnd_6 : zd b_S_spanEnd 6 7 (.istore_n 3) 1 := ⟨by decide +kernel, rfl⟩
theorem d_S_spanEnd_7 : zd b_S_spanEnd 7 8 (.iconst 0) 1 := ⟨by decide +kernel, rfl⟩
theorem d_S_spanEnd_8 : zd b_S_spanEnd 8 10 (.istore 4) 2 := ⟨by decide +kernel, rfl⟩
theorem d_S_spanEnd_10 : zd b_S_spanEnd 10 12 (.iload 4) 2 := ⟨by decide +kernel, rfl⟩
theorem d_S_spanEnd_12 : zd b_S_spanEnd 12 13 (.iload_n 3) 1 := ⟨by decide +kernel, rfl⟩
theorem d_S_spanEnd_13 : zd b_S_spanEnd 13 16 (.if_icmp .ge 39) 3 := ⟨by decide +kernel, rfl⟩
theorem d_S_spanEnd_16 : zd b_S_spanEnd 16 17 (.iload_n 2) 1 := ⟨by decide +kernel, rfl⟩
theorem d_S_spanEnd_17 : zd b_S_spanEnd 17 18 (.aload_n 0) 1 := ⟨by decide +kernel, rfl⟩
theorem d_S_spanEnd_18 : zd b_S_spanEnd 18 19 (.iload_n 1) 1 := ⟨by decide +kernel, rfl⟩
theorem d_S_spanEnd_19 : zd b_S_spanEnd 19 21 (.iload 4) 2 := ⟨by decide +kernel, rfl⟩
theorem d_S_spanEnd_21 : zd b_S_spanEnd 21 24 (.invokevirtual 64) 3 := ⟨by decide +kernel, rfl⟩
theorem d_S_spanEnd_24 : zd b_S_spanEnd 24 27 (.if_icmp .lt 22) 3 := ⟨by decide +kernel, rfl⟩
theorem d_S_spanEnd_27 : zd b_S_spanEnd 27 28 (.iload_n 2) 1 := ⟨by decide +kernel, rfl⟩
theorem d_S_spanEnd_28 : zd b_S_spanEnd 28 29 (.aload_n 0) 1 := ⟨by decide +kernel, rfl⟩
theorem d_S_spanEnd_29 : zd b_S_spanEnd 29 30 (.iload_n 1) 1 := ⟨by decide +kernel, rfl⟩
theorem d_S_spanEnd_30 : zd b_S_spanEnd 30 32 (.iload 4) 2 := ⟨by decide +kernel, rfl⟩
theorem d_S_spanEnd_32 : zd b_S_spanEnd 32 35 (.invokevirtual 61) 3 := ⟨by decide +kernel, rfl⟩
theorem d_S_spanEnd_35 : zd b_S_spanEnd 35 38 (.if_icmp .ge 11) 3 := ⟨by decide +kernel, rfl⟩
theorem d_S_spanEnd_38 : zd b_S_spanEnd 38 39 (.aload_n 0) 1 := ⟨by decide +kernel, rfl⟩
theorem d_S_spanEnd_39 : zd b_S_spanEnd 39 40 (.iload_n 1) 1 := ⟨by decide +kernel, rfl⟩
theorem d_S_spanEnd_40 : zd b_S_spanEnd 40 42 (.iload 4) 2 := ⟨by decide +kernel, rfl⟩
theorem d_S_spanEnd_42 : zd b_S_spanEnd 42 45 (.invokevirtual 61) 3 := ⟨by decide +kernel, rfl⟩
theorem d_S_spanEnd_45 : zd b_S_spanEnd 45 46 (.ireturn) 1 := ⟨by decide +kernel, rfl⟩
theorem d_S_spanEnd_46 : zd b_S_spanEnd 46 49 (.iinc 4 1) 3 := ⟨by decide +kernel, rfl⟩
theorem d_S_spanEnd_49 : zd b_S_spanEnd 49 52 (.goto (-39)) 3 := ⟨by decide +kernel, rfl⟩
theorem d_S_spanEnd_52 : zd b_S_spanEnd 52 54 (.bipush (-6)) 2 := ⟨by decide +kernel, rfl⟩
theorem d_S_spanEnd_54 : zd b_S_spanEnd 54 55 (.ireturn) 1 := ⟨by decide +kernel, rfl⟩
theorem d_S_closedAt_0 : zd b_S_closedAt 0 1 (.iconst 0) 1 := ⟨by decide +kernel, rfl⟩
theorem d_S_closedAt_1 : zd b_S_closedAt 1 2 (.istore_n 3) 1 := ⟨by decide +kernel, rfl⟩
theorem d_S_closedAt_2 : zd b_S_closedAt 2 3 (.iload_n 3) 1 := ⟨by decide +kernel, rfl⟩
theorem d_S_closedAt_3 : zd b_S_closedAt 3 4 (.aload_n 0) 1 := ⟨by decide +kernel, rfl⟩
theorem d_S_closedAt_4 : zd b_S_closedAt 4 7 (.getfield 37) 3 := ⟨by decide +kernel, rfl⟩
theorem d_S_closedAt_7 : zd b_S_closedAt 7 10 (.if_icmp .ge 41) 3 := ⟨by decide +kernel, rfl⟩
theorem d_S_closedAt_10 : zd b_S_closedAt 10 11 (.aload_n 0) 1 := ⟨by decide +kernel, rfl⟩
theorem d_S_closedAt_11 : zd b_S_closedAt 11 12 (.iload_n 3) 1 := ⟨by decide +kernel, rfl⟩
theorem d_S_closedAt_12 : zd b_S_closedAt 12 13 (.iconst 0) 1 := ⟨by decide +kernel, rfl⟩
theorem d_S_closedAt_13 : zd b_S_closedAt 13 16 (.invokevirtual 70) 3 := ⟨by decide +kernel, rfl⟩
theorem d_S_closedAt_16 : zd b_S_closedAt 16 17 (.iload_n 1) 1 := ⟨by decide +kernel, rfl⟩
theorem d_S_closedAt_17 : zd b_S_closedAt 17 20 (.if_icmp .ne 25) 3 := ⟨by decide +kernel, rfl⟩
theorem d_S_closedAt_20 : zd b_S_closedAt 20 21 (.iload_n 2) 1 := ⟨by decide +kernel, rfl⟩
theorem d_S_closedAt_21 : zd b_S_closedAt 21 22 (.aload_n 0) 1 := ⟨by decide +kernel, rfl⟩
theorem d_S_closedAt_22 : zd b_S_closedAt 22 23 (.iload_n 3) 1 := ⟨by decide +kernel, rfl⟩
theorem d_S_closedAt_23 : zd b_S_closedAt 23 24 (.iconst 1) 1 := ⟨by decide +kernel, rfl⟩
theorem d_S_closedAt_24 : zd b_S_closedAt 24 27 (.invokevirtual 70) 3 := ⟨by decide +kernel, rfl⟩
theorem d_S_closedAt_27 : zd b_S_closedAt 27 30 (.if_icmp .lt 15) 3 := ⟨by decide +kernel, rfl⟩
theorem d_S_closedAt_30 : zd b_S_closedAt 30 31 (.iload_n 2) 1 := ⟨by decide +kernel, rfl⟩
theorem d_S_closedAt_31 : zd b_S_closedAt 31 32 (.aload_n 0) 1 := ⟨by decide +kernel, rfl⟩
theorem d_S_closedAt_32 : zd b_S_closedAt 32 33 (.iload_n 3) 1 := ⟨by decide +kernel, rfl⟩
theorem d_S_closedAt_33 : zd b_S_closedAt 33 34 (.iconst 2) 1 := ⟨by decide +kernel, rfl⟩
theorem d_S_closedAt_34 : zd b_S_closedAt 34 37 (.invokevirtual 70) 3 := ⟨by decide +kernel, rfl⟩
theorem d_S_closedAt_37 : zd b_S_closedAt 37 40 (.if_icmp .ge 5) 3 := ⟨by decide +kernel, rfl⟩
theorem d_S_closedAt_40 : zd b_S_closedAt 40 41 (.iconst 1) 1 := ⟨by decide +kernel, rfl⟩
theorem d_S_closedAt_41 : zd b_S_closedAt 41 42 (.ireturn) 1 := ⟨by decide +kernel, rfl⟩
theorem d_S_closedAt_42 : zd b_S_closedAt 42 45 (.iinc 3 1) 3 := ⟨by decide +kernel, rfl⟩
theorem d_S_closedAt_45 : zd b_S_closedAt 45 48 (.goto (-43)) 3 := ⟨by decide +kernel, rfl⟩
theorem d_S_closedAt_48 : zd b_S_closedAt 48 49 (.iconst 0) 1 := ⟨by decide +kernel, rfl⟩
theorem d_S_closedAt_49 : zd b_S_closedAt 49 50 (.ireturn) 1 := ⟨by decide +kernel, rfl⟩
theorem d_S_whyNoEntry_0 : zd b_S_whyNoEntry 0 1 (.iload_n 2) 1 := ⟨by decide +kernel, rfl⟩
theorem d_S_whyNoEntry_1 : zd b_S_whyNoEntry 1 4 (.sipush 1440) 3 := ⟨by decide +kernel, rfl⟩
theorem d_S_whyNoEntry_4 : zd b_S_whyNoEntry 4 5 (.irem) 1 := ⟨by decide +kernel, rfl⟩
theorem d_S_whyNoEntry_5 : zd b_S_whyNoEntry 5 6 (.istore_n 3) 1 := ⟨by decide +kernel, rfl⟩
theorem d_S_whyNoEntry_6 : zd b_S_whyNoEntry 6 7 (.aload_n 0) 1 := ⟨by decide +kernel, rfl⟩
theorem d_S_whyNoEntry_7 : zd b_S_whyNoEntry 7 8 (.iload_n 1) 1 := ⟨by decide +kernel, rfl⟩
theorem d_S_whyNoEntry_8 : zd b_S_whyNoEntry 8 9 (.iload_n 3) 1 := ⟨by decide +kernel, rfl⟩
theorem d_S_whyNoEntry_9 : zd b_S_whyNoEntry 9 12 (.invokevirtual 90) 3 := ⟨by decide +kernel, rfl⟩
theorem d_S_whyNoEntry_12 : zd b_S_whyNoEntry 12 14 (.istore 4) 2 := ⟨by decide +kernel, rfl⟩
theorem d_S_whyNoEntry_14 : zd b_S_whyNoEntry 14 16 (.iload 4) 2 := ⟨by decide +kernel, rfl⟩
theorem d_S_whyNoEntry_16 : zd b_S_whyNoEntry 16 18 (.bipush (-6)) 2 := ⟨by decide +kernel, rfl⟩
theorem d_S_whyNoEntry_18 : zd b_S_whyNoEntry 18 21 (.if_icmp .ne 5) 3 := ⟨by decide +kernel, rfl⟩
theorem d_S_whyNoEntry_21 : zd b_S_whyNoEntry 21 22 (.iconst 2) 1 := ⟨by decide +kernel, rfl⟩
theorem d_S_whyNoEntry_22 : zd b_S_whyNoEntry 22 23 (.ireturn) 1 := ⟨by decide +kernel, rfl⟩
theorem d_S_whyNoEntry_23 : zd b_S_whyNoEntry 23 24 (.aload_n 0) 1 := ⟨by decide +kernel, rfl⟩
theorem d_S_whyNoEntry_24 : zd b_S_whyNoEntry 24 25 (.iload_n 1) 1 := ⟨by decide +kernel, rfl⟩
theorem d_S_whyNoEntry_25 : zd b_S_whyNoEntry 25 26 (.iconst 2) 1 := ⟨by decide +kernel, rfl⟩
theorem d_S_whyNoEntry_26 : zd b_S_whyNoEntry 26 29 (.invokevirtual 57) 3 := ⟨by decide +kernel, rfl⟩
theorem d_S_whyNoEntry_29 : zd b_S_whyNoEntry 29 31 (.istore 5) 2 := ⟨by decide +kernel, rfl⟩
theorem d_S_whyNoEntry_31 : zd b_S_whyNoEntry 31 32 (.aload_n 0) 1 := ⟨by decide +kernel, rfl⟩
theorem d_S_whyNoEntry_32 : zd b_S_whyNoEntry 32 33 (.iload_n 1) 1 := ⟨by decide +kernel, rfl⟩
theorem d_S_whyNoEntry_33 : zd b_S_whyNoEntry 33 34 (.iconst 3) 1 := ⟨by decide +kernel, rfl⟩
theorem d_S_whyNoEntry_34 : zd b_S_whyNoEntry 34 37 (.invokevirtual 57) 3 := ⟨by decide +kernel, rfl⟩
theorem d_S_whyNoEntry_37 : zd b_S_whyNoEntry 37 40 (.ifCond .eq 14) 3 := ⟨by decide +kernel, rfl⟩
theorem d_S_whyNoEntry_40 : zd b_S_whyNoEntry 40 41 (.iload_n 3) 1 := ⟨by decide +kernel, rfl⟩
theorem d_S_whyNoEntry_41 : zd b_S_whyNoEntry 41 43 (.iload 5) 2 := ⟨by decide +kernel, rfl⟩
theorem d_S_whyNoEntry_43 : zd b_S_whyNoEntry 43 44 (.iadd) 1 := ⟨by decide +kernel, rfl⟩
theorem d_S_whyNoEntry_44 : zd b_S_whyNoEntry 44 46 (.iload 4) 2 := ⟨by decide +kernel, rfl⟩
theorem d_S_whyNoEntry_46 : zd b_S_whyNoEntry 46 49 (.if_icmp .le 5) 3 := ⟨by decide +kernel, rfl⟩
theorem d_S_whyNoEntry_49 : zd b_S_whyNoEntry 49 50 (.iconst 3) 1 := ⟨by decide +kernel, rfl⟩
theorem d_S_whyNoEntry_50 : zd b_S_whyNoEntry 50 51 (.ireturn) 1 := ⟨by decide +kernel, rfl⟩
theorem d_S_whyNoEntry_51 : zd b_S_whyNoEntry 51 52 (.aload_n 0) 1 := ⟨by decide +kernel, rfl⟩
theorem d_S_whyNoEntry_52 : zd b_S_whyNoEntry 52 53 (.iload_n 1) 1 := ⟨by decide +kernel, rfl⟩
theorem d_S_whyNoEntry_53 : zd b_S_whyNoEntry 53 54 (.iload_n 2) 1 := ⟨by decide +kernel, rfl⟩
theorem d_S_whyNoEntry_54 : zd b_S_whyNoEntry 54 57 (.invokevirtual 93) 3 := ⟨by decide +kernel, rfl⟩
theorem d_S_whyNoEntry_57 : zd b_S_whyNoEntry 57 60 (.ifCond .eq 5) 3 := ⟨by decide +kernel, rfl⟩
theorem d_S_whyNoEntry_60 : zd b_S_whyNoEntry 60 61 (.iconst 4) 1 := ⟨by decide +kernel, rfl⟩
theorem d_S_whyNoEntry_61 : zd b_S_whyNoEntry 61 62 (.ireturn) 1 := ⟨by decide +kernel, rfl⟩
theorem d_S_whyNoEntry_62 : zd b_S_whyNoEntry 62 63 (.iload_n 2) 1 := ⟨by decide +kernel, rfl⟩
theorem d_S_whyNoEntry_63 : zd b_S_whyNoEntry 63 65 (.iload 5) 2 := ⟨by decide +kernel, rfl⟩
theorem d_S_whyNoEntry_65 : zd b_S_whyNoEntry 65 66 (.iadd) 1 := ⟨by decide +kernel, rfl⟩
theorem d_S_whyNoEntry_66 : zd b_S_whyNoEntry 66 69 (.sipush 2880) 3 := ⟨by decide +kernel, rfl⟩
theorem d_S_whyNoEntry_69 : zd b_S_whyNoEntry 69 72 (.if_icmp .le 7) 3 := ⟨by decide +kernel, rfl⟩
theorem d_S_whyNoEntry_72 : zd b_S_whyNoEntry 72 73 (.iconst 5) 1 := ⟨by decide +kernel, rfl⟩
theorem d_S_whyNoEntry_73 : zd b_S_whyNoEntry 73 76 (.goto 4) 3 := ⟨by decide +kernel, rfl⟩
theorem d_S_whyNoEntry_76 : zd b_S_whyNoEntry 76 77 (.iconst 0) 1 := ⟨by decide +kernel, rfl⟩
theorem d_S_whyNoEntry_77 : zd b_S_whyNoEntry 77 78 (.ireturn) 1 := ⟨by decide +kernel, rfl⟩
theorem d_S_whyNoGoing_0 : zd b_S_whyNoGoing 0 1 (.aload_n 0) 1 := ⟨by decide +kernel, rfl⟩
theorem d_S_whyNoGoing_1 : zd b_S_whyNoGoing 1 2 (.iload_n 2) 1 := ⟨by decide +kernel, rfl⟩
theorem d_S_whyNoGoing_2 : zd b_S_whyNoGoing 2 3 (.iconst 0) 1 := ⟨by decide +kernel, rfl⟩
theorem d_S_whyNoGoing_3 : zd b_S_whyNoGoing 3 6 (.invokevirtual 57) 3 := ⟨by decide +kernel, rfl⟩
theorem d_S_whyNoGoing_6 : zd b_S_whyNoGoing 6 7 (.aload_n 0) 1 := ⟨by decide +kernel, rfl⟩
theorem d_S_whyNoGoing_7 : zd b_S_whyNoGoing 7 8 (.iload_n 1) 1 := ⟨by decide +kernel, rfl⟩
theorem d_S_whyNoGoing_8 : zd b_S_whyNoGoing 8 9 (.iconst 0) 1 := ⟨by decide +kernel, rfl⟩
theorem d_S_whyNoGoing_9 : zd b_S_whyNoGoing 9 12 (.invokevirtual 67) 3 := ⟨by decide +kernel, rfl⟩
theorem d_S_whyNoGoing_12 : zd b_S_whyNoGoing 12 15 (.if_icmp .eq 5) 3 := ⟨by decide +kernel, rfl⟩
theorem d_S_whyNoGoing_15 : zd b_S_whyNoGoing 15 16 (.iconst 1) 1 := ⟨by decide +kernel, rfl⟩
theorem d_S_whyNoGoing_16 : zd b_S_whyNoGoing 16 17 (.ireturn) 1 := ⟨by decide +kernel, rfl⟩
theorem d_S_whyNoGoing_17 : zd b_S_whyNoGoing 17 18 (.aload_n 0) 1 := ⟨by decide +kernel, rfl⟩
theorem d_S_whyNoGoing_18 : zd b_S_whyNoGoing 18 19 (.iload_n 2) 1 := ⟨by decide +kernel, rfl⟩
theorem d_S_whyNoGoing_19 : zd b_S_whyNoGoing 19 20 (.aload_n 0) 1 := ⟨by decide +kernel, rfl⟩
theorem d_S_whyNoGoing_20 : zd b_S_whyNoGoing 20 21 (.iload_n 1) 1 := ⟨by decide +kernel, rfl⟩
theorem d_S_whyNoGoing_21 : zd b_S_whyNoGoing 21 22 (.iconst 1) 1 := ⟨by decide +kernel, rfl⟩
theorem d_S_whyNoGoing_22 : zd b_S_whyNoGoing 22 25 (.invokevirtual 67) 3 := ⟨by decide +kernel, rfl⟩
theorem d_S_whyNoGoing_25 : zd b_S_whyNoGoing 25 28 (.invokevirtual 87) 3 := ⟨by decide +kernel, rfl⟩
theorem d_S_whyNoGoing_28 : zd b_S_whyNoGoing 28 29 (.ireturn) 1 := ⟨by decide +kernel, rfl⟩
theorem d_X_refuse_0 : zd b_X_refuse 0 1 (.aload_n 0) 1 := ⟨by decide +kernel, rfl⟩
theorem d_X_refuse_1 : zd b_X_refuse 1 2 (.iload_n 1) 1 := ⟨by decide +kernel, rfl⟩
theorem d_X_refuse_2 : zd b_X_refuse 2 5 (.putfield 168) 3 := ⟨by decide +kernel, rfl⟩
theorem d_X_refuse_5 : zd b_X_refuse 5 7 (.bipush (-5)) 2 := ⟨by decide +kernel, rfl⟩
theorem d_X_refuse_7 : zd b_X_refuse 7 8 (.ireturn) 1 := ⟨by decide +kernel, rfl⟩
theorem d_S_enter_0 : zd b_S_enter 0 1 (.iload_n 1) 1 := ⟨by decide +kernel, rfl⟩
theorem d_S_enter_1 : zd b_S_enter 1 3 (.bipush 8) 2 := ⟨by decide +kernel, rfl⟩
theorem d_S_enter_3 : zd b_S_enter 3 4 (.imul) 1 := ⟨by decide +kernel, rfl⟩
theorem d_S_enter_4 : zd b_S_enter 4 5 (.istore_n 3) 1 := ⟨by decide +kernel, rfl⟩
theorem d_S_enter_5 : zd b_S_enter 5 6 (.aload_n 0) 1 := ⟨by decide +kernel, rfl⟩
theorem d_S_enter_6 : zd b_S_enter 6 7 (.iload_n 2) 1 := ⟨by decide +kernel, rfl⟩
theorem d_S_enter_7 : zd b_S_enter 7 8 (.iconst 2) 1 := ⟨by decide +kernel, rfl⟩
theorem d_S_enter_8 : zd b_S_enter 8 11 (.invokevirtual 57) 3 := ⟨by decide +kernel, rfl⟩
theorem d_S_enter_11 : zd b_S_enter 11 13 (.istore 4) 2 := ⟨by decide +kernel, rfl⟩
theorem d_S_enter_13 : zd b_S_enter 13 14 (.aload_n 0) 1 := ⟨by decide +kernel, rfl⟩
theorem d_S_enter_14 : zd b_S_enter 14 17 (.getfield 24) 3 := ⟨by decide +kernel, rfl⟩
theorem d_S_enter_17 : zd b_S_enter 17 18 (.iload_n 3) 1 := ⟨by decide +kernel, rfl⟩
theorem d_S_enter_18 : zd b_S_enter 18 19 (.iconst 1) 1 := ⟨by decide +kernel, rfl⟩
theorem d_S_enter_19 : zd b_S_enter 19 20 (.iadd) 1 := ⟨by decide +kernel, rfl⟩
theorem d_S_enter_20 : zd b_S_enter 20 21 (.iaload) 1 := ⟨by decide +kernel, rfl⟩
theorem d_S_enter_21 : zd b_S_enter 21 23 (.iload 4) 2 := ⟨by decide +kernel, rfl⟩
theorem d_S_enter_23 : zd b_S_enter 23 24 (.iadd) 1 := ⟨by decide +kernel, rfl⟩
theorem d_S_enter_24 : zd b_S_enter 24 26 (.istore 5) 2 := ⟨by decide +kernel, rfl⟩
theorem d_S_enter_26 : zd b_S_enter 26 27 (.aload_n 0) 1 := ⟨by decide +kernel, rfl⟩
theorem d_S_enter_27 : zd b_S_enter 27 30 (.getfield 24) 3 := ⟨by decide +kernel, rfl⟩
theorem d_S_enter_30 : zd b_S_enter 30 31 (.iload_n 3) 1 := ⟨by decide +kernel, rfl⟩
theorem d_S_enter_31 : zd b_S_enter 31 32 (.iconst 0) 1 := ⟨by decide +kernel, rfl⟩
theorem d_S_enter_32 : zd b_S_enter 32 33 (.iadd) 1 := ⟨by decide +kernel, rfl⟩
theorem d_S_enter_33 : zd b_S_enter 33 34 (.aload_n 0) 1 := ⟨by decide +kernel, rfl⟩
theorem d_S_enter_34 : zd b_S_enter 34 35 (.iload_n 2) 1 := ⟨by decide +kernel, rfl⟩
theorem d_S_enter_35 : zd b_S_enter 35 36 (.iconst 1) 1 := ⟨by decide +kernel, rfl⟩
theorem d_S_enter_36 : zd b_S_enter 36 39 (.invokevirtual 57) 3 := ⟨by decide +kernel, rfl⟩
theorem d_S_enter_39 : zd b_S_enter 39 40 (.iastore) 1 := ⟨by decide +kernel, rfl⟩
theorem d_S_enter_40 : zd b_S_enter 40 41 (.aload_n 0) 1 := ⟨by decide +kernel, rfl⟩
theorem d_S_enter_41 : zd b_S_enter 41 44 (.getfield 24) 3 := ⟨by decide +kernel, rfl⟩
theorem d_S_enter_44 : zd b_S_enter 44 45 (.iload_n 3) 1 := ⟨by decide +kernel, rfl⟩
theorem d_S_enter_45 : zd b_S_enter 45 46 (.iconst 1) 1 := ⟨by decide +kernel, rfl⟩
theorem d_S_enter_46 : zd b_S_enter 46 47 (.iadd) 1 := ⟨by decide +kernel, rfl⟩
theorem d_S_enter_47 : zd b_S_enter 47 49 (.iload 5) 2 := ⟨by decide +kernel, rfl⟩
theorem d_S_enter_49 : zd b_S_enter 49 50 (.iastore) 1 := ⟨by decide +kernel, rfl⟩
theorem d_S_enter_50 : zd b_S_enter 50 51 (.aload_n 0) 1 := ⟨by decide +kernel, rfl⟩
theorem d_S_enter_51 : zd b_S_enter 51 54 (.getfield 24) 3 := ⟨by decide +kernel, rfl⟩
theorem d_S_enter_54 : zd b_S_enter 54 55 (.iload_n 3) 1 := ⟨by decide +kernel, rfl⟩
theorem d_S_enter_55 : zd b_S_enter 55 56 (.iconst 2) 1 := ⟨by decide +kernel, rfl⟩
theorem d_S_enter_56 : zd b_S_enter 56 57 (.iadd) 1 := ⟨by decide +kernel, rfl⟩
theorem d_S_enter_57 : zd b_S_enter 57 59 (.iload 5) 2 := ⟨by decide +kernel, rfl⟩
theorem d_S_enter_59 : zd b_S_enter 59 60 (.iastore) 1 := ⟨by decide +kernel, rfl⟩
theorem d_S_enter_60 : zd b_S_enter 60 61 (.aload_n 0) 1 := ⟨by decide +kernel, rfl⟩
theorem d_S_enter_61 : zd b_S_enter 61 64 (.getfield 24) 3 := ⟨by decide +kernel, rfl⟩
theorem d_S_enter_64 : zd b_S_enter 64 65 (.iload_n 3) 1 := ⟨by decide +kernel, rfl⟩
theorem d_S_enter_65 : zd b_S_enter 65 66 (.iconst 3) 1 := ⟨by decide +kernel, rfl⟩
theorem d_S_enter_66 : zd b_S_enter 66 67 (.iadd) 1 := ⟨by decide +kernel, rfl⟩
theorem d_S_enter_67 : zd b_S_enter 67 68 (.dup2) 1 := ⟨by decide +kernel, rfl⟩
theorem d_S_enter_68 : zd b_S_enter 68 69 (.iaload) 1 := ⟨by decide +kernel, rfl⟩
theorem d_S_enter_69 : zd b_S_enter 69 70 (.iconst 1) 1 := ⟨by decide +kernel, rfl⟩
theorem d_S_enter_70 : zd b_S_enter 70 71 (.iadd) 1 := ⟨by decide +kernel, rfl⟩
theorem d_S_enter_71 : zd b_S_enter 71 72 (.iastore) 1 := ⟨by decide +kernel, rfl⟩
theorem d_S_enter_72 : zd b_S_enter 72 73 (.aload_n 0) 1 := ⟨by decide +kernel, rfl⟩
theorem d_S_enter_73 : zd b_S_enter 73 76 (.getfield 24) 3 := ⟨by decide +kernel, rfl⟩
theorem d_S_enter_76 : zd b_S_enter 76 77 (.iload_n 3) 1 := ⟨by decide +kernel, rfl⟩
theorem d_S_enter_77 : zd b_S_enter 77 78 (.iconst 5) 1 := ⟨by decide +kernel, rfl⟩
theorem d_S_enter_78 : zd b_S_enter 78 79 (.iadd) 1 := ⟨by decide +kernel, rfl⟩
theorem d_S_enter_79 : zd b_S_enter 79 80 (.dup2) 1 := ⟨by decide +kernel, rfl⟩
theorem d_S_enter_80 : zd b_S_enter 80 81 (.iaload) 1 := ⟨by decide +kernel, rfl⟩
theorem d_S_enter_81 : zd b_S_enter 81 83 (.iload 4) 2 := ⟨by decide +kernel, rfl⟩
theorem d_S_enter_83 : zd b_S_enter 83 84 (.iadd) 1 := ⟨by decide +kernel, rfl⟩
theorem d_S_enter_84 : zd b_S_enter 84 85 (.iastore) 1 := ⟨by decide +kernel, rfl⟩
theorem d_S_enter_85 : zd b_S_enter 85 86 (.aload_n 0) 1 := ⟨by decide +kernel, rfl⟩
theorem d_S_enter_86 : zd b_S_enter 86 89 (.getfield 18) 3 := ⟨by decide +kernel, rfl⟩
theorem d_S_enter_89 : zd b_S_enter 89 90 (.iload_n 2) 1 := ⟨by decide +kernel, rfl⟩
theorem d_S_enter_90 : zd b_S_enter 90 91 (.dup2) 1 := ⟨by decide +kernel, rfl⟩
theorem d_S_enter_91 : zd b_S_enter 91 92 (.iaload) 1 := ⟨by decide +kernel, rfl⟩
theorem d_S_enter_92 : zd b_S_enter 92 93 (.iconst 1) 1 := ⟨by decide +kernel, rfl⟩
theorem d_S_enter_93 : zd b_S_enter 93 94 (.iadd) 1 := ⟨by decide +kernel, rfl⟩
theorem d_S_enter_94 : zd b_S_enter 94 95 (.iastore) 1 := ⟨by decide +kernel, rfl⟩
theorem d_S_enter_95 : zd b_S_enter 95 97 (.iload 5) 2 := ⟨by decide +kernel, rfl⟩
theorem d_S_enter_97 : zd b_S_enter 97 98 (.ireturn) 1 := ⟨by decide +kernel, rfl⟩
theorem d_X_go_0 : zd b_X_go 0 1 (.aload_n 0) 1 := ⟨by decide +kernel, rfl⟩
theorem d_X_go_1 : zd b_X_go 1 4 (.getfield 12) 3 := ⟨by decide +kernel, rfl⟩
theorem d_X_go_4 : zd b_X_go 4 5 (.iload_n 1) 1 := ⟨by decide +kernel, rfl⟩
theorem d_X_go_5 : zd b_X_go 5 8 (.invokevirtual 128) 3 := ⟨by decide +kernel, rfl⟩
theorem d_X_go_8 : zd b_X_go 8 11 (.ifCond .eq 14) 3 := ⟨by decide +kernel, rfl⟩
theorem d_X_go_11 : zd b_X_go 11 12 (.aload_n 0) 1 := ⟨by decide +kernel, rfl⟩
theorem d_X_go_12 : zd b_X_go 12 15 (.getfield 12) 3 := ⟨by decide +kernel, rfl⟩
theorem d_X_go_15 : zd b_X_go 15 16 (.iload_n 2) 1 := ⟨by decide +kernel, rfl⟩
theorem d_X_go_16 : zd b_X_go 16 19 (.invokevirtual 88) 3 := ⟨by decide +kernel, rfl⟩
theorem d_X_go_19 : zd b_X_go 19 22 (.ifCond .ne 5) 3 := ⟨by decide +kernel, rfl⟩
theorem d_X_go_22 : zd b_X_go 22 23 (.iconst (-1)) 1 := ⟨by decide +kernel, rfl⟩
theorem d_X_go_23 : zd b_X_go 23 24 (.ireturn) 1 := ⟨by decide +kernel, rfl⟩
theorem d_X_go_24 : zd b_X_go 24 25 (.aload_n 0) 1 := ⟨by decide +kernel, rfl⟩
theorem d_X_go_25 : zd b_X_go 25 28 (.getfield 12) 3 := ⟨by decide +kernel, rfl⟩
theorem d_X_go_28 : zd b_X_go 28 29 (.iload_n 1) 1 := ⟨by decide +kernel, rfl⟩
theorem d_X_go_29 : zd b_X_go 29 30 (.iload_n 2) 1 := ⟨by decide +kernel, rfl⟩
theorem d_X_go_30 : zd b_X_go 30 33 (.invokevirtual 131) 3 := ⟨by decide +kernel, rfl⟩
theorem d_X_go_33 : zd b_X_go 33 34 (.istore_n 3) 1 := ⟨by decide +kernel, rfl⟩
theorem d_X_go_34 : zd b_X_go 34 35 (.iload_n 3) 1 := ⟨by decide +kernel, rfl⟩
theorem d_X_go_35 : zd b_X_go 35 38 (.ifCond .eq 9) 3 := ⟨by decide +kernel, rfl⟩
theorem d_X_go_38 : zd b_X_go 38 39 (.aload_n 0) 1 := ⟨by decide +kernel, rfl⟩
theorem d_X_go_39 : zd b_X_go 39 40 (.iload_n 3) 1 := ⟨by decide +kernel, rfl⟩
theorem d_X_go_40 : zd b_X_go 40 43 (.invokevirtual 134) 3 := ⟨by decide +kernel, rfl⟩
theorem d_X_go_43 : zd b_X_go 43 44 (.ireturn) 1 := ⟨by decide +kernel, rfl⟩
theorem d_X_go_44 : zd b_X_go 44 45 (.aload_n 0) 1 := ⟨by decide +kernel, rfl⟩
theorem d_X_go_45 : zd b_X_go 45 48 (.invokevirtual 73) 3 := ⟨by decide +kernel, rfl⟩
theorem d_X_go_48 : zd b_X_go 48 49 (.aload_n 0) 1 := ⟨by decide +kernel, rfl⟩
theorem d_X_go_49 : zd b_X_go 49 52 (.getfield 12) 3 := ⟨by decide +kernel, rfl⟩
theorem d_X_go_52 : zd b_X_go 52 53 (.iload_n 1) 1 := ⟨by decide +kernel, rfl⟩
theorem d_X_go_53 : zd b_X_go 53 54 (.iload_n 2) 1 := ⟨by decide +kernel, rfl⟩
theorem d_X_go_54 : zd b_X_go 54 57 (.invokevirtual 138) 3 := ⟨by decide +kernel, rfl⟩
theorem d_X_go_57 : zd b_X_go 57 58 (.ireturn) 1 := ⟨by decide +kernel, rfl⟩
theorem d_S_openUntil_0 : zd b_S_openUntil 0 1 (.aload_n 0) 1 := ⟨by decide +kernel, rfl⟩
theorem d_S_openUntil_1 : zd b_S_openUntil 1 2 (.iload_n 1) 1 := ⟨by decide +kernel, rfl⟩
theorem d_S_openUntil_2 : zd b_S_openUntil 2 3 (.iconst 0) 1 := ⟨by decide +kernel, rfl⟩
theorem d_S_openUntil_3 : zd b_S_openUntil 3 6 (.invokevirtual 73) 3 := ⟨by decide +kernel, rfl⟩
theorem d_S_openUntil_6 : zd b_S_openUntil 6 7 (.istore_n 3) 1 := ⟨by decide +kernel, rfl⟩
theorem d_S_openUntil_7 : zd b_S_openUntil 7 8 (.aload_n 0) 1 := ⟨by decide +kernel, rfl⟩
theorem d_S_openUntil_8 : zd b_S_openUntil 8 9 (.iload_n 1) 1 := ⟨by decide +kernel, rfl⟩
theorem d_S_openUntil_9 : zd b_S_openUntil 9 10 (.iconst 1) 1 := ⟨by decide +kernel, rfl⟩
theorem d_S_openUntil_10 : zd b_S_openUntil 10 13 (.invokevirtual 73) 3 := ⟨by decide +kernel, rfl⟩
theorem d_S_openUntil_13 : zd b_S_openUntil 13 15 (.istore 4) 2 := ⟨by decide +kernel, rfl⟩
theorem d_S_openUntil_15 : zd b_S_openUntil 15 16 (.iload_n 3) 1 := ⟨by decide +kernel, rfl⟩
theorem d_S_openUntil_16 : zd b_S_openUntil 16 19 (.ifCond .ne 15) 3 := ⟨by decide +kernel, rfl⟩
theorem d_S_openUntil_19 : zd b_S_openUntil 19 21 (.iload 4) 2 := ⟨by decide +kernel, rfl⟩
theorem d_S_openUntil_21 : zd b_S_openUntil 21 24 (.sipush 1440) 3 := ⟨by decide +kernel, rfl⟩
theorem d_S_openUntil_24 : zd b_S_openUntil 24 27 (.if_icmp .ne 7) 3 := ⟨by decide +kernel, rfl⟩
theorem d_S_openUntil_27 : zd b_S_openUntil 27 30 (.sipush 2880) 3 := ⟨by decide +kernel, rfl⟩
theorem d_S_openUntil_30 : zd b_S_openUntil 30 31 (.ireturn) 1 := ⟨by decide +kernel, rfl⟩
theorem d_S_openUntil_31 : zd b_S_openUntil 31 32 (.iload_n 2) 1 := ⟨by decide +kernel, rfl⟩
theorem d_S_openUntil_32 : zd b_S_openUntil 32 35 (.sipush 1440) 3 := ⟨by decide +kernel, rfl⟩
theorem d_S_openUntil_35 : zd b_S_openUntil 35 36 (.irem) 1 := ⟨by decide +kernel, rfl⟩
theorem d_S_openUntil_36 : zd b_S_openUntil 36 38 (.istore 5) 2 := ⟨by decide +kernel, rfl⟩
theorem d_S_openUntil_38 : zd b_S_openUntil 38 40 (.iload 5) 2 := ⟨by decide +kernel, rfl⟩
theorem d_S_openUntil_40 : zd b_S_openUntil 40 41 (.iload_n 3) 1 := ⟨by decide +kernel, rfl⟩
theorem d_S_openUntil_41 : zd b_S_openUntil 41 44 (.if_icmp .lt 20) 3 := ⟨by decide +kernel, rfl⟩
theorem d_S_openUntil_44 : zd b_S_openUntil 44 46 (.iload 5) 2 := ⟨by decide +kernel, rfl⟩
theorem d_S_openUntil_46 : zd b_S_openUntil 46 48 (.iload 4) 2 := ⟨by decide +kernel, rfl⟩
theorem d_S_openUntil_48 : zd b_S_openUntil 48 51 (.if_icmp .ge 13) 3 := ⟨by decide +kernel, rfl⟩
theorem d_S_openUntil_51 : zd b_S_openUntil 51 52 (.iload_n 2) 1 := ⟨by decide +kernel, rfl⟩
theorem d_S_openUntil_52 : zd b_S_openUntil 52 54 (.iload 5) 2 := ⟨by decide +kernel, rfl⟩
theorem d_S_openUntil_54 : zd b_S_openUntil 54 55 (.isub) 1 := ⟨by decide +kernel, rfl⟩
theorem d_S_openUntil_55 : zd b_S_openUntil 55 57 (.iload 4) 2 := ⟨by decide +kernel, rfl⟩
theorem d_S_openUntil_57 : zd b_S_openUntil 57 58 (.iadd) 1 := ⟨by decide +kernel, rfl⟩
theorem d_S_openUntil_58 : zd b_S_openUntil 58 61 (.goto 4) 3 := ⟨by decide +kernel, rfl⟩
theorem d_S_openUntil_61 : zd b_S_openUntil 61 62 (.iload_n 2) 1 := ⟨by decide +kernel, rfl⟩
theorem d_S_openUntil_62 : zd b_S_openUntil 62 63 (.ireturn) 1 := ⟨by decide +kernel, rfl⟩
theorem d_S_whyNoStaying_0 : zd b_S_whyNoStaying 0 1 (.aload_n 0) 1 := ⟨by decide +kernel, rfl⟩
theorem d_S_whyNoStaying_1 : zd b_S_whyNoStaying 1 2 (.iload_n 1) 1 := ⟨by decide +kernel, rfl⟩
theorem d_S_whyNoStaying_2 : zd b_S_whyNoStaying 2 3 (.iconst 0) 1 := ⟨by decide +kernel, rfl⟩
theorem d_S_whyNoStaying_3 : zd b_S_whyNoStaying 3 6 (.invokevirtual 67) 3 := ⟨by decide +kernel, rfl⟩
theorem d_S_whyNoStaying_6 : zd b_S_whyNoStaying 6 7 (.istore_n 3) 1 := ⟨by decide +kernel, rfl⟩
theorem d_S_whyNoStaying_7 : zd b_S_whyNoStaying 7 8 (.aload_n 0) 1 := ⟨by decide +kernel, rfl⟩
theorem d_S_whyNoStaying_8 : zd b_S_whyNoStaying 8 9 (.iload_n 1) 1 := ⟨by decide +kernel, rfl⟩
theorem d_S_whyNoStaying_9 : zd b_S_whyNoStaying 9 10 (.iconst 1) 1 := ⟨by decide +kernel, rfl⟩
theorem d_S_whyNoStaying_10 : zd b_S_whyNoStaying 10 13 (.invokevirtual 67) 3 := ⟨by decide +kernel, rfl⟩
theorem d_S_whyNoStaying_13 : zd b_S_whyNoStaying 13 14 (.iload_n 2) 1 := ⟨by decide +kernel, rfl⟩
theorem d_S_whyNoStaying_14 : zd b_S_whyNoStaying 14 15 (.iadd) 1 := ⟨by decide +kernel, rfl⟩
theorem d_S_whyNoStaying_15 : zd b_S_whyNoStaying 15 17 (.istore 4) 2 := ⟨by decide +kernel, rfl⟩
theorem d_S_whyNoStaying_17 : zd b_S_whyNoStaying 17 19 (.iload 4) 2 := ⟨by decide +kernel, rfl⟩
theorem d_S_whyNoStaying_19 : zd b_S_whyNoStaying 19 22 (.sipush 2880) 3 := ⟨by decide +kernel, rfl⟩
theorem d_S_whyNoStaying_22 : zd b_S_whyNoStaying 22 25 (.if_icmp .le 5) 3 := ⟨by decide +kernel, rfl⟩
theorem d_S_whyNoStaying_25 : zd b_S_whyNoStaying 25 26 (.iconst 5) 1 := ⟨by decide +kernel, rfl⟩
theorem d_S_whyNoStaying_26 : zd b_S_whyNoStaying 26 27 (.ireturn) 1 := ⟨by decide +kernel, rfl⟩
theorem d_S_whyNoStaying_27 : zd b_S_whyNoStaying 27 29 (.iload 4) 2 := ⟨by decide +kernel, rfl⟩
theorem d_S_whyNoStaying_29 : zd b_S_whyNoStaying 29 30 (.aload_n 0) 1 := ⟨by decide +kernel, rfl⟩
theorem d_S_whyNoStaying_30 : zd b_S_whyNoStaying 30 31 (.iload_n 3) 1 := ⟨by decide +kernel, rfl⟩
theorem d_S_whyNoStaying_31 : zd b_S_whyNoStaying 31 32 (.aload_n 0) 1 := ⟨by decide +kernel, rfl⟩
theorem d_S_whyNoStaying_32 : zd b_S_whyNoStaying 32 33 (.iload_n 1) 1 := ⟨by decide +kernel, rfl⟩
theorem d_S_whyNoStaying_33 : zd b_S_whyNoStaying 33 34 (.iconst 1) 1 := ⟨by decide +kernel, rfl⟩
theorem d_S_whyNoStaying_34 : zd b_S_whyNoStaying 34 37 (.invokevirtual 67) 3 := ⟨by decide +kernel, rfl⟩
theorem d_S_whyNoStaying_37 : zd b_S_whyNoStaying 37 40 (.invokevirtual 76) 3 := ⟨by decide +kernel, rfl⟩
theorem d_S_whyNoStaying_40 : zd b_S_whyNoStaying 40 43 (.if_icmp .le 6) 3 := ⟨by decide +kernel, rfl⟩
theorem d_S_whyNoStaying_43 : zd b_S_whyNoStaying 43 45 (.bipush 6) 2 := ⟨by decide +kernel, rfl⟩
theorem d_S_whyNoStaying_45 : zd b_S_whyNoStaying 45 46 (.ireturn) 1 := ⟨by decide +kernel, rfl⟩
theorem d_S_whyNoStaying_46 : zd b_S_whyNoStaying 46 48 (.iload 4) 2 := ⟨by decide +kernel, rfl⟩
theorem d_S_whyNoStaying_48 : zd b_S_whyNoStaying 48 49 (.aload_n 0) 1 := ⟨by decide +kernel, rfl⟩
theorem d_S_whyNoStaying_49 : zd b_S_whyNoStaying 49 50 (.iload_n 1) 1 := ⟨by decide +kernel, rfl⟩
theorem d_S_whyNoStaying_50 : zd b_S_whyNoStaying 50 51 (.iconst 2) 1 := ⟨by decide +kernel, rfl⟩
theorem d_S_whyNoStaying_51 : zd b_S_whyNoStaying 51 54 (.invokevirtual 67) 3 := ⟨by decide +kernel, rfl⟩
theorem d_S_whyNoStaying_54 : zd b_S_whyNoStaying 54 55 (.isub) 1 := ⟨by decide +kernel, rfl⟩
theorem d_S_whyNoStaying_55 : zd b_S_whyNoStaying 55 56 (.aload_n 0) 1 := ⟨by decide +kernel, rfl⟩
theorem d_S_whyNoStaying_56 : zd b_S_whyNoStaying 56 57 (.iload_n 3) 1 := ⟨by decide +kernel, rfl⟩
theorem d_S_whyNoStaying_57 : zd b_S_whyNoStaying 57 58 (.iconst 2) 1 := ⟨by decide +kernel, rfl⟩
theorem d_S_whyNoStaying_58 : zd b_S_whyNoStaying 58 61 (.invokevirtual 73) 3 := ⟨by decide +kernel, rfl⟩
theorem d_S_whyNoStaying_61 : zd b_S_whyNoStaying 61 64 (.if_icmp .le 8) 3 := ⟨by decide +kernel, rfl⟩
theorem d_S_whyNoStaying_64 : zd b_S_whyNoStaying 64 66 (.bipush 7) 2 := ⟨by decide +kernel, rfl⟩
theorem d_S_whyNoStaying_66 : zd b_S_whyNoStaying 66 69 (.goto 4) 3 := ⟨by decide +kernel, rfl⟩
theorem d_S_whyNoStaying_69 : zd b_S_whyNoStaying 69 70 (.iconst 0) 1 := ⟨by decide +kernel, rfl⟩
theorem d_S_whyNoStaying_70 : zd b_S_whyNoStaying 70 71 (.ireturn) 1 := ⟨by decide +kernel, rfl⟩
theorem d_S_waitThere_0 : zd b_S_waitThere 0 1 (.iload_n 1) 1 := ⟨by decide +kernel, rfl⟩
theorem d_S_waitThere_1 : zd b_S_waitThere 1 3 (.bipush 8) 2 := ⟨by decide +kernel, rfl⟩
theorem d_S_waitThere_3 : zd b_S_waitThere 3 4 (.imul) 1 := ⟨by decide +kernel, rfl⟩
theorem d_S_waitThere_4 : zd b_S_waitThere 4 5 (.istore_n 3) 1 := ⟨by decide +kernel, rfl⟩
theorem d_S_waitThere_5 : zd b_S_waitThere 5 6 (.aload_n 0) 1 := ⟨by decide +kernel, rfl⟩
theorem d_S_waitThere_6 : zd b_S_waitThere 6 9 (.getfield 24) 3 := ⟨by decide +kernel, rfl⟩
theorem d_S_waitThere_9 : zd b_S_waitThere 9 10 (.iload_n 3) 1 := ⟨by decide +kernel, rfl⟩
theorem d_S_waitThere_10 : zd b_S_waitThere 10 11 (.iconst 1) 1 := ⟨by decide +kernel, rfl⟩
theorem d_S_waitThere_11 : zd b_S_waitThere 11 12 (.iadd) 1 := ⟨by decide +kernel, rfl⟩
theorem d_S_waitThere_12 : zd b_S_waitThere 12 13 (.dup2) 1 := ⟨by decide +kernel, rfl⟩
theorem d_S_waitThere_13 : zd b_S_waitThere 13 14 (.iaload) 1 := ⟨by decide +kernel, rfl⟩
theorem d_S_waitThere_14 : zd b_S_waitThere 14 15 (.iload_n 2) 1 := ⟨by decide +kernel, rfl⟩
theorem d_S_waitThere_15 : zd b_S_waitThere 15 16 (.iadd) 1 := ⟨by decide +kernel, rfl⟩
theorem d_S_waitThere_16 : zd b_S_waitThere 16 17 (.iastore) 1 := ⟨by decide +kernel, rfl⟩
theorem d_S_waitThere_17 : zd b_S_waitThere 17 18 (.aload_n 0) 1 := ⟨by decide +kernel, rfl⟩
theorem d_S_waitThere_18 : zd b_S_waitThere 18 21 (.getfield 24) 3 := ⟨by decide +kernel, rfl⟩
theorem d_S_waitThere_21 : zd b_S_waitThere 21 22 (.iload_n 3) 1 := ⟨by decide +kernel, rfl⟩
theorem d_S_waitThere_22 : zd b_S_waitThere 22 23 (.iconst 4) 1 := ⟨by decide +kernel, rfl⟩
theorem d_S_waitThere_23 : zd b_S_waitThere 23 24 (.iadd) 1 := ⟨by decide +kernel, rfl⟩
theorem d_S_waitThere_24 : zd b_S_waitThere 24 25 (.dup2) 1 := ⟨by decide +kernel, rfl⟩
theorem d_S_waitThere_25 : zd b_S_waitThere 25 26 (.iaload) 1 := ⟨by decide +kernel, rfl⟩
theorem d_S_waitThere_26 : zd b_S_waitThere 26 27 (.iload_n 2) 1 := ⟨by decide +kernel, rfl⟩
theorem d_S_waitThere_27 : zd b_S_waitThere 27 28 (.iadd) 1 := ⟨by decide +kernel, rfl⟩
theorem d_S_waitThere_28 : zd b_S_waitThere 28 29 (.iastore) 1 := ⟨by decide +kernel, rfl⟩
theorem d_S_waitThere_29 : zd b_S_waitThere 29 30 (.aload_n 0) 1 := ⟨by decide +kernel, rfl⟩
theorem d_S_waitThere_30 : zd b_S_waitThere 30 33 (.getfield 24) 3 := ⟨by decide +kernel, rfl⟩
theorem d_S_waitThere_33 : zd b_S_waitThere 33 34 (.iload_n 3) 1 := ⟨by decide +kernel, rfl⟩
theorem d_S_waitThere_34 : zd b_S_waitThere 34 35 (.iconst 1) 1 := ⟨by decide +kernel, rfl⟩
theorem d_S_waitThere_35 : zd b_S_waitThere 35 36 (.iadd) 1 := ⟨by decide +kernel, rfl⟩
theorem d_S_waitThere_36 : zd b_S_waitThere 36 37 (.iaload) 1 := ⟨by decide +kernel, rfl⟩
theorem d_S_waitThere_37 : zd b_S_waitThere 37 38 (.ireturn) 1 := ⟨by decide +kernel, rfl⟩
theorem d_X_stay_0 : zd b_X_stay 0 1 (.aload_n 0) 1 := ⟨by decide +kernel, rfl⟩
theorem d_X_stay_1 : zd b_X_stay 1 4 (.getfield 12) 3 := ⟨by decide +kernel, rfl⟩
theorem d_X_stay_4 : zd b_X_stay 4 5 (.iload_n 1) 1 := ⟨by decide +kernel, rfl⟩
theorem d_X_stay_5 : zd b_X_stay 5 8 (.invokevirtual 128) 3 := ⟨by decide +kernel, rfl⟩
theorem d_X_stay_8 : zd b_X_stay 8 11 (.ifCond .ne 5) 3 := ⟨by decide +kernel, rfl⟩
theorem d_X_stay_11 : zd b_X_stay 11 12 (.iconst (-1)) 1 := ⟨by decide +kernel, rfl⟩
theorem d_X_stay_12 : zd b_X_stay 12 13 (.ireturn) 1 := ⟨by decide +kernel, rfl⟩
theorem d_X_stay_13 : zd b_X_stay 13 14 (.iload_n 2) 1 := ⟨by decide +kernel, rfl⟩
theorem d_X_stay_14 : zd b_X_stay 14 15 (.iconst 1) 1 := ⟨by decide +kernel, rfl⟩
theorem d_X_stay_15 : zd b_X_stay 15 18 (.sipush 1000) 3 := ⟨by decide +kernel, rfl⟩
theorem d_X_stay_18 : zd b_X_stay 18 21 (.invokestatic 69) 3 := ⟨by decide +kernel, rfl⟩
theorem d_X_stay_21 : zd b_X_stay 21 24 (.ifCond .ne 6) 3 := ⟨by decide +kernel, rfl⟩
theorem d_X_stay_24 : zd b_X_stay 24 26 (.bipush (-2)) 2 := ⟨by decide +kernel, rfl⟩
theorem d_X_stay_26 : zd b_X_stay 26 27 (.ireturn) 1 := ⟨by decide +kernel, rfl⟩
theorem d_X_stay_27 : zd b_X_stay 27 28 (.aload_n 0) 1 := ⟨by decide +kernel, rfl⟩
theorem d_X_stay_28 : zd b_X_stay 28 31 (.getfield 12) 3 := ⟨by decide +kernel, rfl⟩
theorem d_X_stay_31 : zd b_X_stay 31 32 (.iload_n 1) 1 := ⟨by decide +kernel, rfl⟩
theorem d_X_stay_32 : zd b_X_stay 32 33 (.iload_n 2) 1 := ⟨by decide +kernel, rfl⟩
theorem d_X_stay_33 : zd b_X_stay 33 36 (.invokevirtual 141) 3 := ⟨by decide +kernel, rfl⟩
theorem d_X_stay_36 : zd b_X_stay 36 37 (.istore_n 3) 1 := ⟨by decide +kernel, rfl⟩
theorem d_X_stay_37 : zd b_X_stay 37 38 (.iload_n 3) 1 := ⟨by decide +kernel, rfl⟩
theorem d_X_stay_38 : zd b_X_stay 38 41 (.ifCond .eq 9) 3 := ⟨by decide +kernel, rfl⟩
theorem d_X_stay_41 : zd b_X_stay 41 42 (.aload_n 0) 1 := ⟨by decide +kernel, rfl⟩
theorem d_X_stay_42 : zd b_X_stay 42 43 (.iload_n 3) 1 := ⟨by decide +kernel, rfl⟩
theorem d_X_stay_43 : zd b_X_stay 43 46 (.invokevirtual 134) 3 := ⟨by decide +kernel, rfl⟩
theorem d_X_stay_46 : zd b_X_stay 46 47 (.ireturn) 1 := ⟨by decide +kernel, rfl⟩
theorem d_X_stay_47 : zd b_X_stay 47 48 (.aload_n 0) 1 := ⟨by decide +kernel, rfl⟩
theorem d_X_stay_48 : zd b_X_stay 48 51 (.invokevirtual 73) 3 := ⟨by decide +kernel, rfl⟩
theorem d_X_stay_51 : zd b_X_stay 51 52 (.aload_n 0) 1 := ⟨by decide +kernel, rfl⟩
theorem d_X_stay_52 : zd b_X_stay 52 55 (.getfield 12) 3 := ⟨by decide +kernel, rfl⟩
theorem d_X_stay_55 : zd b_X_stay 55 56 (.iload_n 1) 1 := ⟨by decide +kernel, rfl⟩
theorem d_X_stay_56 : zd b_X_stay 56 57 (.iload_n 2) 1 := ⟨by decide +kernel, rfl⟩
theorem d_X_stay_57 : zd b_X_stay 57 60 (.invokevirtual 144) 3 := ⟨by decide +kernel, rfl⟩
theorem d_X_stay_60 : zd b_X_stay 60 61 (.ireturn) 1 := ⟨by decide +kernel, rfl⟩
theorem d_S_stayLeft_0 : zd b_S_stayLeft 0 1 (.aload_n 0) 1 := ⟨by decide +kernel, rfl⟩
theorem d_S_stayLeft_1 : zd b_S_stayLeft 1 2 (.iload_n 1) 1 := ⟨by decide +kernel, rfl⟩
theorem d_S_stayLeft_2 : zd b_S_stayLeft 2 3 (.iconst 0) 1 := ⟨by decide +kernel, rfl⟩
theorem d_S_stayLeft_3 : zd b_S_stayLeft 3 6 (.invokevirtual 67) 3 := ⟨by decide +kernel, rfl⟩
theorem d_S_stayLeft_6 : zd b_S_stayLeft 6 7 (.istore_n 2) 1 := ⟨by decide +kernel, rfl⟩
theorem d_S_stayLeft_7 : zd b_S_stayLeft 7 8 (.aload_n 0) 1 := ⟨by decide +kernel, rfl⟩
theorem d_S_stayLeft_8 : zd b_S_stayLeft 8 9 (.iload_n 1) 1 := ⟨by decide +kernel, rfl⟩
theorem d_S_stayLeft_9 : zd b_S_stayLeft 9 10 (.iconst 1) 1 := ⟨by decide +kernel, rfl⟩
theorem d_S_stayLeft_10 : zd b_S_stayLeft 10 13 (.invokevirtual 67) 3 := ⟨by decide +kernel, rfl⟩
theorem d_S_stayLeft_13 : zd b_S_stayLeft 13 14 (.istore_n 3) 1 := ⟨by decide +kernel, rfl⟩
theorem d_S_stayLeft_14 : zd b_S_stayLeft 14 15 (.aload_n 0) 1 := ⟨by decide +kernel, rfl⟩
theorem d_S_stayLeft_15 : zd b_S_stayLeft 15 16 (.iload_n 1) 1 := ⟨by decide +kernel, rfl⟩
theorem d_S_stayLeft_16 : zd b_S_stayLeft 16 17 (.iconst 2) 1 := ⟨by decide +kernel, rfl⟩
theorem d_S_stayLeft_17 : zd b_S_stayLeft 17 20 (.invokevirtual 67) 3 := ⟨by decide +kernel, rfl⟩
theorem d_S_stayLeft_20 : zd b_S_stayLeft 20 21 (.aload_n 0) 1 := ⟨by decide +kernel, rfl⟩
theorem d_S_stayLeft_21 : zd b_S_stayLeft 21 22 (.iload_n 2) 1 := ⟨by decide +kernel, rfl⟩
theorem d_S_stayLeft_22 : zd b_S_stayLeft 22 23 (.iconst 2) 1 := ⟨by decide +kernel, rfl⟩
theorem d_S_stayLeft_23 : zd b_S_stayLeft 23 26 (.invokevirtual 73) 3 := ⟨by decide +kernel, rfl⟩
theorem d_S_stayLeft_26 : zd b_S_stayLeft 26 27 (.iadd) 1 := ⟨by decide +kernel, rfl⟩
theorem d_S_stayLeft_27 : zd b_S_stayLeft 27 29 (.istore 4) 2 := ⟨by decide +kernel, rfl⟩
theorem d_S_stayLeft_29 : zd b_S_stayLeft 29 30 (.aload_n 0) 1 := ⟨by decide +kernel, rfl⟩
theorem d_S_stayLeft_30 : zd b_S_stayLeft 30 31 (.iload_n 2) 1 := ⟨by decide +kernel, rfl⟩
theorem d_S_stayLeft_31 : zd b_S_stayLeft 31 32 (.iload_n 3) 1 := ⟨by decide +kernel, rfl⟩
theorem d_S_stayLeft_32 : zd b_S_stayLeft 32 35 (.invokevirtual 76) 3 := ⟨by decide +kernel, rfl⟩
theorem d_S_stayLeft_35 : zd b_S_stayLeft 35 37 (.iload 4) 2 := ⟨by decide +kernel, rfl⟩
theorem d_S_stayLeft_37 : zd b_S_stayLeft 37 40 (.invokestatic 79) 3 := ⟨by decide +kernel, rfl⟩
theorem d_S_stayLeft_40 : zd b_S_stayLeft 40 43 (.sipush 2880) 3 := ⟨by decide +kernel, rfl⟩
theorem d_S_stayLeft_43 : zd b_S_stayLeft 43 46 (.invokestatic 79) 3 := ⟨by decide +kernel, rfl⟩
theorem d_S_stayLeft_46 : zd b_S_stayLeft 46 48 (.istore 5) 2 := ⟨by decide +kernel, rfl⟩
theorem d_S_stayLeft_48 : zd b_S_stayLeft 48 50 (.iload 5) 2 := ⟨by decide +kernel, rfl⟩
theorem d_S_stayLeft_50 : zd b_S_stayLeft 50 51 (.iload_n 3) 1 := ⟨by decide +kernel, rfl⟩
theorem d_S_stayLeft_51 : zd b_S_stayLeft 51 52 (.isub) 1 := ⟨by decide +kernel, rfl⟩
theorem d_S_stayLeft_52 : zd b_S_stayLeft 52 53 (.iconst 0) 1 := ⟨by decide +kernel, rfl⟩
theorem d_S_stayLeft_53 : zd b_S_stayLeft 53 56 (.invokestatic 84) 3 := ⟨by decide +kernel, rfl⟩
theorem d_S_stayLeft_56 : zd b_S_stayLeft 56 57 (.ireturn) 1 := ⟨by decide +kernel, rfl⟩
theorem d_X_canStay_0 : zd b_X_canStay 0 1 (.aload_n 0) 1 := ⟨by decide +kernel, rfl⟩
theorem d_X_canStay_1 : zd b_X_canStay 1 4 (.getfield 12) 3 := ⟨by decide +kernel, rfl⟩
theorem d_X_canStay_4 : zd b_X_canStay 4 5 (.iload_n 1) 1 := ⟨by decide +kernel, rfl⟩
theorem d_X_canStay_5 : zd b_X_canStay 5 8 (.invokevirtual 128) 3 := ⟨by decide +kernel, rfl⟩
theorem d_X_canStay_8 : zd b_X_canStay 8 11 (.ifCond .eq 14) 3 := ⟨by decide +kernel, rfl⟩
theorem d_X_canStay_11 : zd b_X_canStay 11 12 (.aload_n 0) 1 := ⟨by decide +kernel, rfl⟩
theorem d_X_canStay_12 : zd b_X_canStay 12 15 (.getfield 12) 3 := ⟨by decide +kernel, rfl⟩
theorem d_X_canStay_15 : zd b_X_canStay 15 16 (.iload_n 1) 1 := ⟨by decide +kernel, rfl⟩
theorem d_X_canStay_16 : zd b_X_canStay 16 19 (.invokevirtual 237) 3 := ⟨by decide +kernel, rfl⟩
theorem d_X_canStay_19 : zd b_X_canStay 19 22 (.goto 4) 3 := ⟨by decide +kernel, rfl⟩
theorem d_X_canStay_22 : zd b_X_canStay 22 23 (.iconst (-1)) 1 := ⟨by decide +kernel, rfl⟩
theorem d_X_canStay_23 : zd b_X_canStay 23 24 (.ireturn) 1 := ⟨by decide +kernel, rfl⟩
theorem d_Ar_fill_0_0 : zd b_Ar_fill_0 0 1 (.iconst 0) 1 := ⟨by decide +kernel, rfl⟩
theorem d_Ar_fill_0_1 : zd b_Ar_fill_0 1 2 (.istore_n 2) 1 := ⟨by decide +kernel, rfl⟩
theorem d_Ar_fill_0_2 : zd b_Ar_fill_0 2 3 (.aload_n 0) 1 := ⟨by decide +kernel, rfl⟩
theorem d_Ar_fill_0_3 : zd b_Ar_fill_0 3 4 (.arraylength) 1 := ⟨by decide +kernel, rfl⟩
theorem d_Ar_fill_0_4 : zd b_Ar_fill_0 4 5 (.istore_n 3) 1 := ⟨by decide +kernel, rfl⟩
theorem d_Ar_fill_0_5 : zd b_Ar_fill_0 5 6 (.iload_n 2) 1 := ⟨by decide +kernel, rfl⟩
theorem d_Ar_fill_0_6 : zd b_Ar_fill_0 6 7 (.iload_n 3) 1 := ⟨by decide +kernel, rfl⟩
theorem d_Ar_fill_0_7 : zd b_Ar_fill_0 7 10 (.if_icmp .ge 13) 3 := ⟨by decide +kernel, rfl⟩
theorem d_Ar_fill_0_10 : zd b_Ar_fill_0 10 11 (.aload_n 0) 1 := ⟨by decide +kernel, rfl⟩
theorem d_Ar_fill_0_11 : zd b_Ar_fill_0 11 12 (.iload_n 2) 1 := ⟨by decide +kernel, rfl⟩
theorem d_Ar_fill_0_12 : zd b_Ar_fill_0 12 13 (.iload_n 1) 1 := ⟨by decide +kernel, rfl⟩
theorem d_Ar_fill_0_13 : zd b_Ar_fill_0 13 14 (.iastore) 1 := ⟨by decide +kernel, rfl⟩
theorem d_Ar_fill_0_14 : zd b_Ar_fill_0 14 17 (.iinc 2 1) 3 := ⟨by decide +kernel, rfl⟩
theorem d_Ar_fill_0_17 : zd b_Ar_fill_0 17 20 (.goto (-12)) 3 := ⟨by decide +kernel, rfl⟩
theorem d_Ar_fill_0_20 : zd b_Ar_fill_0 20 21 (.return_) 1 := ⟨by decide +kernel, rfl⟩
theorem d_G_letIn_0 : zd b_G_letIn 0 1 (.aload_n 1) 1 := ⟨by decide +kernel, rfl⟩
theorem d_G_letIn_1 : zd b_G_letIn 1 2 (.iload_n 2) 1 := ⟨by decide +kernel, rfl⟩
theorem d_G_letIn_2 : zd b_G_letIn 2 3 (.iconst 2) 1 := ⟨by decide +kernel, rfl⟩
theorem d_G_letIn_3 : zd b_G_letIn 3 6 (.invokevirtual 31) 3 := ⟨by decide +kernel, rfl⟩
theorem d_G_letIn_6 : zd b_G_letIn 6 8 (.istore 4) 2 := ⟨by decide +kernel, rfl⟩
theorem d_G_letIn_8 : zd b_G_letIn 8 9 (.aload_n 1) 1 := ⟨by decide +kernel, rfl⟩
theorem d_G_letIn_9 : zd b_G_letIn 9 10 (.iload_n 2) 1 := ⟨by decide +kernel, rfl⟩
theorem d_G_letIn_10 : zd b_G_letIn 10 11 (.iconst 3) 1 := ⟨by decide +kernel, rfl⟩
theorem d_G_letIn_11 : zd b_G_letIn 11 14 (.invokevirtual 31) 3 := ⟨by decide +kernel, rfl⟩
theorem d_G_letIn_14 : zd b_G_letIn 14 17 (.ifCond .eq 7) 3 := ⟨by decide +kernel, rfl⟩
theorem d_G_letIn_17 : zd b_G_letIn 17 18 (.iconst 1) 1 := ⟨by decide +kernel, rfl⟩
theorem d_G_letIn_18 : zd b_G_letIn 18 21 (.goto 4) 3 := ⟨by decide +kernel, rfl⟩
theorem d_G_letIn_21 : zd b_G_letIn 21 22 (.iconst 0) 1 := ⟨by decide +kernel, rfl⟩
theorem d_G_letIn_22 : zd b_G_letIn 22 24 (.istore 5) 2 := ⟨by decide +kernel, rfl⟩
theorem d_G_letIn_24 : zd b_G_letIn 24 25 (.aload_n 1) 1 := ⟨by decide +kernel, rfl⟩
theorem d_G_letIn_25 : zd b_G_letIn 25 26 (.iload_n 2) 1 := ⟨by decide +kernel, rfl⟩
theorem d_G_letIn_26 : zd b_G_letIn 26 27 (.iload_n 3) 1 := ⟨by decide +kernel, rfl⟩
theorem d_G_letIn_27 : zd b_G_letIn 27 30 (.invokevirtual 46) 3 := ⟨by decide +kernel, rfl⟩
theorem d_G_letIn_30 : zd b_G_letIn 30 32 (.iload 5) 2 := ⟨by decide +kernel, rfl⟩
theorem d_G_letIn_32 : zd b_G_letIn 32 35 (.ifCond .eq 8) 3 := ⟨by decide +kernel, rfl⟩
theorem d_G_letIn_35 : zd b_G_letIn 35 37 (.iload 4) 2 := ⟨by decide +kernel, rfl⟩
theorem d_G_letIn_37 : zd b_G_letIn 37 40 (.goto 4) 3 := ⟨by decide +kernel, rfl⟩
theorem d_G_letIn_40 : zd b_G_letIn 40 41 (.iconst 1) 1 := ⟨by decide +kernel, rfl⟩
theorem d_G_letIn_41 : zd b_G_letIn 41 42 (.isub) 1 := ⟨by decide +kernel, rfl⟩
theorem d_G_letIn_42 : zd b_G_letIn 42 44 (.istore 6) 2 := ⟨by decide +kernel, rfl⟩
theorem d_G_letIn_44 : zd b_G_letIn 44 45 (.iconst 0) 1 := ⟨by decide +kernel, rfl⟩
theorem d_G_letIn_45 : zd b_G_letIn 45 47 (.istore 7) 2 := ⟨by decide +kernel, rfl⟩
theorem d_G_letIn_47 : zd b_G_letIn 47 49 (.iload 7) 2 := ⟨by decide +kernel, rfl⟩
theorem d_G_letIn_49 : zd b_G_letIn 49 52 (.sipush 2880) 3 := ⟨by decide +kernel, rfl⟩
theorem d_G_letIn_52 : zd b_G_letIn 52 55 (.if_icmp .ge 65) 3 := ⟨by decide +kernel, rfl⟩
theorem d_G_letIn_55 : zd b_G_letIn 55 57 (.iload 7) 2 := ⟨by decide +kernel, rfl⟩
theorem d_G_letIn_57 : zd b_G_letIn 57 59 (.iload 6) 2 := ⟨by decide +kernel, rfl⟩
theorem d_G_letIn_59 : zd b_G_letIn 59 60 (.iadd) 1 := ⟨by decide +kernel, rfl⟩
theorem d_G_letIn_60 : zd b_G_letIn 60 63 (.sipush 2880) 3 := ⟨by decide +kernel, rfl⟩
theorem d_G_letIn_63 : zd b_G_letIn 63 65 (.iload 4) 2 := ⟨by decide +kernel, rfl⟩
theorem d_G_letIn_65 : zd b_G_letIn 65 66 (.isub) 1 := ⟨by decide +kernel, rfl⟩
theorem d_G_letIn_66 : zd b_G_letIn 66 69 (.invokestatic 49) 3 := ⟨by decide +kernel, rfl⟩
theorem d_G_letIn_69 : zd b_G_letIn 69 71 (.istore 8) 2 := ⟨by decide +kernel, rfl⟩
theorem d_G_letIn_71 : zd b_G_letIn 71 73 (.iload 7) 2 := ⟨by decide +kernel, rfl⟩
theorem d_G_letIn_73 : zd b_G_letIn 73 74 (.aload_n 1) 1 := ⟨by decide +kernel, rfl⟩
theorem d_G_letIn_74 : zd b_G_letIn 74 75 (.iload_n 2) 1 := ⟨by decide +kernel, rfl⟩
theorem d_G_letIn_75 : zd b_G_letIn 75 76 (.iload_n 3) 1 := ⟨by decide +kernel, rfl⟩
theorem d_G_letIn_76 : zd b_G_letIn 76 79 (.invokevirtual 54) 3 := ⟨by decide +kernel, rfl⟩
theorem d_G_letIn_79 : zd b_G_letIn 79 80 (.iadd) 1 := ⟨by decide +kernel, rfl⟩
theorem d_G_letIn_80 : zd b_G_letIn 80 82 (.istore 9) 2 := ⟨by decide +kernel, rfl⟩
theorem d_G_letIn_82 : zd b_G_letIn 82 84 (.iload 9) 2 := ⟨by decide +kernel, rfl⟩
theorem d_G_letIn_84 : zd b_G_letIn 84 86 (.iload 8) 2 := ⟨by decide +kernel, rfl⟩
theorem d_G_letIn_86 : zd b_G_letIn 86 89 (.if_icmp .gt 22) 3 := ⟨by decide +kernel, rfl⟩
theorem d_G_letIn_89 : zd b_G_letIn 89 90 (.aload_n 0) 1 := ⟨by decide +kernel, rfl⟩
theorem d_G_letIn_90 : zd b_G_letIn 90 93 (.getfield 9) 3 := ⟨by decide +kernel, rfl⟩
theorem d_G_letIn_93 : zd b_G_letIn 93 95 (.iload 9) 2 := ⟨by decide +kernel, rfl⟩
theorem d_G_letIn_95 : zd b_G_letIn 95 96 (.dup2) 1 := ⟨by decide +kernel, rfl⟩
theorem d_G_letIn_96 : zd b_G_letIn 96 97 (.iaload) 1 := ⟨by decide +kernel, rfl⟩
theorem d_G_letIn_97 : zd b_G_letIn 97 98 (.iconst 1) 1 := ⟨by decide +kernel, rfl⟩
theorem d_G_letIn_98 : zd b_G_letIn 98 99 (.iload_n 2) 1 := ⟨by decide +kernel, rfl⟩
theorem d_G_letIn_99 : zd b_G_letIn 99 100 (.ishl) 1 := ⟨by decide +kernel, rfl⟩
theorem d_G_letIn_100 : zd b_G_letIn 100 101 (.ior) 1 := ⟨by decide +kernel, rfl⟩
theorem d_G_letIn_101 : zd b_G_letIn 101 102 (.iastore) 1 := ⟨by decide +kernel, rfl⟩
theorem d_G_letIn_102 : zd b_G_letIn 102 105 (.iinc 9 1) 3 := ⟨by decide +kernel, rfl⟩
theorem d_G_letIn_105 : zd b_G_letIn 105 108 (.goto (-23)) 3 := ⟨by decide +kernel, rfl⟩
theorem d_G_letIn_108 : zd b_G_letIn 108 114 (.iinc 7 1440) 6 := ⟨by decide +kernel, rfl⟩
theorem d_G_letIn_114 : zd b_G_letIn 114 117 (.goto (-67)) 3 := ⟨by decide +kernel, rfl⟩
theorem d_G_letIn_117 : zd b_G_letIn 117 118 (.return_) 1 := ⟨by decide +kernel, rfl⟩
theorem d_G_shut_0 : zd b_G_shut 0 1 (.iconst 1) 1 := ⟨by decide +kernel, rfl⟩
theorem d_G_shut_1 : zd b_G_shut 1 2 (.aload_n 1) 1 := ⟨by decide +kernel, rfl⟩
theorem d_G_shut_2 : zd b_G_shut 2 3 (.iload_n 2) 1 := ⟨by decide +kernel, rfl⟩
theorem d_G_shut_3 : zd b_G_shut 3 4 (.iconst 0) 1 := ⟨by decide +kernel, rfl⟩
theorem d_G_shut_4 : zd b_G_shut 4 7 (.invokevirtual 57) 3 := ⟨by decide +kernel, rfl⟩
theorem d_G_shut_7 : zd b_G_shut 7 8 (.ishl) 1 := ⟨by decide +kernel, rfl⟩
theorem d_G_shut_8 : zd b_G_shut 8 9 (.iconst (-1)) 1 := ⟨by decide +kernel, rfl⟩
theorem d_G_shut_9 : zd b_G_shut 9 10 (.ixor) 1 := ⟨by decide +kernel, rfl⟩
theorem d_G_shut_10 : zd b_G_shut 10 11 (.istore_n 3) 1 := ⟨by decide +kernel, rfl⟩
theorem d_G_shut_11 : zd b_G_shut 11 12 (.aload_n 1) 1 := ⟨by decide +kernel, rfl⟩
theorem d_G_shut_12 : zd b_G_shut 12 13 (.iload_n 2) 1 := ⟨by decide +kernel, rfl⟩
theorem d_G_shut_13 : zd b_G_shut 13 14 (.iconst 2) 1 := ⟨by decide +kernel, rfl⟩
theorem d_G_shut_14 : zd b_G_shut 14 17 (.invokevirtual 57) 3 := ⟨by decide +kernel, rfl⟩
theorem d_G_shut_17 : zd b_G_shut 17 19 (.istore 4) 2 := ⟨by decide +kernel, rfl⟩
theorem d_G_shut_19 : zd b_G_shut 19 20 (.aload_n 1) 1 := ⟨by decide +kernel, rfl⟩
theorem d_G_shut_20 : zd b_G_shut 20 21 (.iload_n 2) 1 := ⟨by decide +kernel, rfl⟩
theorem d_G_shut_21 : zd b_G_shut 21 22 (.iconst 1) 1 := ⟨by decide +kernel, rfl⟩
theorem d_G_shut_22 : zd b_G_shut 22 25 (.invokevirtual 57) 3 := ⟨by decide +kernel, rfl⟩
theorem d_G_shut_25 : zd b_G_shut 25 27 (.istore 5) 2 := ⟨by decide +kernel, rfl⟩
theorem d_G_shut_27 : zd b_G_shut 27 29 (.iload 5) 2 := ⟨by decide +kernel, rfl⟩
theorem d_G_shut_29 : zd b_G_shut 29 31 (.iload 4) 2 := ⟨by decide +kernel, rfl⟩
theorem d_G_shut_31 : zd b_G_shut 31 34 (.if_icmp .ge 20) 3 := ⟨by decide +kernel, rfl⟩
theorem d_G_shut_34 : zd b_G_shut 34 35 (.aload_n 0) 1 := ⟨by decide +kernel, rfl⟩
theorem d_G_shut_35 : zd b_G_shut 35 38 (.getfield 9) 3 := ⟨by decide +kernel, rfl⟩
theorem d_G_shut_38 : zd b_G_shut 38 40 (.iload 5) 2 := ⟨by decide +kernel, rfl⟩
theorem d_G_shut_40 : zd b_G_shut 40 41 (.dup2) 1 := ⟨by decide +kernel, rfl⟩
theorem d_G_shut_41 : zd b_G_shut 41 42 (.iaload) 1 := ⟨by decide +kernel, rfl⟩
theorem d_G_shut_42 : zd b_G_shut 42 43 (.iload_n 3) 1 := ⟨by decide +kernel, rfl⟩
theorem d_G_shut_43 : zd b_G_shut 43 44 (.iand) 1 := ⟨by decide +kernel, rfl⟩
theorem d_G_shut_44 : zd b_G_shut 44 45 (.iastore) 1 := ⟨by decide +kernel, rfl⟩
theorem d_G_shut_45 : zd b_G_shut 45 48 (.iinc 5 1) 3 := ⟨by decide +kernel, rfl⟩
theorem d_G_shut_48 : zd b_G_shut 48 51 (.goto (-21)) 3 := ⟨by decide +kernel, rfl⟩
theorem d_G_shut_51 : zd b_G_shut 51 52 (.return_) 1 := ⟨by decide +kernel, rfl⟩
theorem d_G_prepare_0 : zd b_G_prepare 0 1 (.aload_n 0) 1 := ⟨by decide +kernel, rfl⟩
theorem d_G_prepare_1 : zd b_G_prepare 1 4 (.getfield 15) 3 := ⟨by decide +kernel, rfl⟩
theorem d_G_prepare_4 : zd b_G_prepare 4 7 (.ifCond .eq 4) 3 := ⟨by decide +kernel, rfl⟩
theorem d_G_prepare_7 : zd b_G_prepare 7 8 (.return_) 1 := ⟨by decide +kernel, rfl⟩
theorem d_G_prepare_8 : zd b_G_prepare 8 9 (.aload_n 0) 1 := ⟨by decide +kernel, rfl⟩
theorem d_G_prepare_9 : zd b_G_prepare 9 12 (.getfield 9) 3 := ⟨by decide +kernel, rfl⟩
theorem d_G_prepare_12 : zd b_G_prepare 12 13 (.iconst 0) 1 := ⟨by decide +kernel, rfl⟩
theorem d_G_prepare_13 : zd b_G_prepare 13 16 (.invokestatic 19) 3 := ⟨by decide +kernel, rfl⟩
theorem d_G_prepare_16 : zd b_G_prepare 16 17 (.iconst 0) 1 := ⟨by decide +kernel, rfl⟩
theorem d_G_prepare_17 : zd b_G_prepare 17 18 (.istore_n 2) 1 := ⟨by decide +kernel, rfl⟩
theorem d_G_prepare_18 : zd b_G_prepare 18 19 (.iload_n 2) 1 := ⟨by decide +kernel, rfl⟩
theorem d_G_prepare_19 : zd b_G_prepare 19 20 (.aload_n 1) 1 := ⟨by decide +kernel, rfl⟩
theorem d_G_prepare_20 : zd b_G_prepare 20 23 (.getfield 25) 3 := ⟨by decide +kernel, rfl⟩
theorem d_G_prepare_23 : zd b_G_prepare 23 26 (.if_icmp .ge 39) 3 := ⟨by decide +kernel, rfl⟩
theorem d_G_prepare_26 : zd b_G_prepare 26 27 (.aload_n 1) 1 := ⟨by decide +kernel, rfl⟩
theorem d_G_prepare_27 : zd b_G_prepare 27 28 (.iload_n 2) 1 := ⟨by decide +kernel, rfl⟩
theorem d_G_prepare_28 : zd b_G_prepare 28 29 (.iconst 4) 1 := ⟨by decide +kernel, rfl⟩
theorem d_G_prepare_29 : zd b_G_prepare 29 32 (.invokevirtual 31) 3 := ⟨by decide +kernel, rfl⟩
theorem d_G_prepare_32 : zd b_G_prepare 32 33 (.istore_n 3) 1 := ⟨by decide +kernel, rfl⟩
theorem d_G_prepare_33 : zd b_G_prepare 33 34 (.iconst 0) 1 := ⟨by decide +kernel, rfl⟩
theorem d_G_prepare_34 : zd b_G_prepare 34 36 (.istore 4) 2 := ⟨by decide +kernel, rfl⟩
theorem d_G_prepare_36 : zd b_G_prepare 36 38 (.iload 4) 2 := ⟨by decide +kernel, rfl⟩
theorem d_G_prepare_38 : zd b_G_prepare 38 39 (.iload_n 3) 1 := ⟨by decide +kernel, rfl⟩
theorem d_G_prepare_39 : zd b_G_prepare 39 42 (.if_icmp .ge 17) 3 := ⟨by decide +kernel, rfl⟩
theorem d_G_prepare_42 : zd b_G_prepare 42 43 (.aload_n 0) 1 := ⟨by decide +kernel, rfl⟩
theorem d_G_prepare_43 : zd b_G_prepare 43 44 (.aload_n 1) 1 := ⟨by decide +kernel, rfl⟩
theorem d_G_prepare_44 : zd b_G_prepare 44 45 (.iload_n 2) 1 := ⟨by decide +kernel, rfl⟩
theorem d_G_prepare_45 : zd b_G_prepare 45 47 (.iload 4) 2 := ⟨by decide +kernel, rfl⟩
theorem d_G_prepare_47 : zd b_G_prepare 47 50 (.invokevirtual 35) 3 := ⟨by decide +kernel, rfl⟩
theorem d_G_prepare_50 : zd b_G_prepare 50 53 (.iinc 4 1) 3 := ⟨by decide +kernel, rfl⟩
theorem d_G_prepare_53 : zd b_G_prepare 53 56 (.goto (-17)) 3 := ⟨by decide +kernel, rfl⟩
theorem d_G_prepare_56 : zd b_G_prepare 56 59 (.iinc 2 1) 3 := ⟨by decide +kernel, rfl⟩
theorem d_G_prepare_59 : zd b_G_prepare 59 62 (.goto (-41)) 3 := ⟨by decide +kernel, rfl⟩
theorem d_G_prepare_62 : zd b_G_prepare 62 63 (.iconst 0) 1 := ⟨by decide +kernel, rfl⟩
theorem d_G_prepare_63 : zd b_G_prepare 63 64 (.istore_n 2) 1 := ⟨by decide +kernel, rfl⟩
theorem d_G_prepare_64 : zd b_G_prepare 64 65 (.iload_n 2) 1 := ⟨by decide +kernel, rfl⟩
theorem d_G_prepare_65 : zd b_G_prepare 65 66 (.aload_n 1) 1 := ⟨by decide +kernel, rfl⟩
theorem d_G_prepare_66 : zd b_G_prepare 66 69 (.getfield 39) 3 := ⟨by decide +kernel, rfl⟩
theorem d_G_prepare_69 : zd b_G_prepare 69 72 (.if_icmp .ge 15) 3 := ⟨by decide +kernel, rfl⟩
theorem d_G_prepare_72 : zd b_G_prepare 72 73 (.aload_n 0) 1 := ⟨by decide +kernel, rfl⟩
theorem d_G_prepare_73 : zd b_G_prepare 73 74 (.aload_n 1) 1 := ⟨by decide +kernel, rfl⟩
theorem d_G_prepare_74 : zd b_G_prepare 74 75 (.iload_n 2) 1 := ⟨by decide +kernel, rfl⟩
theorem d_G_prepare_75 : zd b_G_prepare 75 78 (.invokevirtual 42) 3 := ⟨by decide +kernel, rfl⟩
theorem d_G_prepare_78 : zd b_G_prepare 78 81 (.iinc 2 1) 3 := ⟨by decide +kernel, rfl⟩
theorem d_G_prepare_81 : zd b_G_prepare 81 84 (.goto (-17)) 3 := ⟨by decide +kernel, rfl⟩
theorem d_G_prepare_84 : zd b_G_prepare 84 85 (.aload_n 0) 1 := ⟨by decide +kernel, rfl⟩
theorem d_G_prepare_85 : zd b_G_prepare 85 86 (.iconst 1) 1 := ⟨by decide +kernel, rfl⟩
theorem d_G_prepare_86 : zd b_G_prepare 86 89 (.putfield 15) 3 := ⟨by decide +kernel, rfl⟩
theorem d_G_prepare_89 : zd b_G_prepare 89 90 (.return_) 1 := ⟨by decide +kernel, rfl⟩
end
section
theorem d_O_start_0 : zd b_O_start 0 1 (.aload_n 0) 1 := ⟨by decide +kernel, rfl⟩
theorem d_O_start_1 : zd b_O_start 1 4 (.getfield 9) 3 := ⟨by decide +kernel, rfl⟩
theorem d_O_start_4 : zd b_O_start 4 5 (.iconst 0) 1 := ⟨by decide +kernel, rfl⟩
theorem d_O_start_5 : zd b_O_start 5 8 (.invokestatic 18) 3 := ⟨by decide +kernel, rfl⟩
theorem d_O_start_8 : zd b_O_start 8 9 (.aload_n 0) 1 := ⟨by decide +kernel, rfl⟩
theorem d_O_start_9 : zd b_O_start 9 12 (.getfield 15) 3 := ⟨by decide +kernel, rfl⟩
theorem d_O_start_12 : zd b_O_start 12 14 (.bipush (-6)) 2 := ⟨by decide +kernel, rfl⟩
theorem d_O_start_14 : zd b_O_start 14 17 (.invokestatic 18) 3 := ⟨by decide +kernel, rfl⟩
theorem d_O_start_17 : zd b_O_start 17 18 (.aload_n 0) 1 := ⟨by decide +kernel, rfl⟩
theorem d_O_start_18 : zd b_O_start 18 21 (.getfield 15) 3 := ⟨by decide +kernel, rfl⟩
theorem d_O_start_21 : zd b_O_start 21 22 (.iload_n 1) 1 := ⟨by decide +kernel, rfl⟩
theorem d_O_start_22 : zd b_O_start 22 23 (.iload_n 2) 1 := ⟨by decide +kernel, rfl⟩
theorem d_O_start_23 : zd b_O_start 23 24 (.iastore) 1 := ⟨by decide +kernel, rfl⟩
theorem d_O_start_24 : zd b_O_start 24 25 (.return_) 1 := ⟨by decide +kernel, rfl⟩
theorem d_O_comersAt_0 : zd b_O_comersAt 0 1 (.aload_n 0) 1 := ⟨by decide +kernel, rfl⟩
theorem d_O_comersAt_1 : zd b_O_comersAt 1 4 (.getfield 9) 3 := ⟨by decide +kernel, rfl⟩
theorem d_O_comersAt_4 : zd b_O_comersAt 4 5 (.iload_n 1) 1 := ⟨by decide +kernel, rfl⟩
theorem d_O_comersAt_5 : zd b_O_comersAt 5 8 (.sipush 1023) 3 := ⟨by decide +kernel, rfl⟩
theorem d_O_comersAt_8 : zd b_O_comersAt 8 9 (.iand) 1 := ⟨by decide +kernel, rfl⟩
theorem d_O_comersAt_9 : zd b_O_comersAt 9 10 (.iaload) 1 := ⟨by decide +kernel, rfl⟩
theorem d_O_comersAt_10 : zd b_O_comersAt 10 11 (.ireturn) 1 := ⟨by decide +kernel, rfl⟩
theorem d_X_has_0 : zd b_X_has 0 1 (.iload_n 0) 1 := ⟨by decide +kernel, rfl⟩
theorem d_X_has_1 : zd b_X_has 1 2 (.iload_n 1) 1 := ⟨by decide +kernel, rfl⟩
theorem d_X_has_2 : zd b_X_has 2 3 (.iushr) 1 := ⟨by decide +kernel, rfl⟩
theorem d_X_has_3 : zd b_X_has 3 4 (.iconst 1) 1 := ⟨by decide +kernel, rfl⟩
theorem d_X_has_4 : zd b_X_has 4 5 (.iand) 1 := ⟨by decide +kernel, rfl⟩
theorem d_X_has_5 : zd b_X_has 5 8 (.ifCond .eq 7) 3 := ⟨by decide +kernel, rfl⟩
theorem d_X_has_8 : zd b_X_has 8 9 (.iconst 1) 1 := ⟨by decide +kernel, rfl⟩
theorem d_X_has_9 : zd b_X_has 9 12 (.goto 4) 3 := ⟨by decide +kernel, rfl⟩
theorem d_X_has_12 : zd b_X_has 12 13 (.iconst 0) 1 := ⟨by decide +kernel, rfl⟩
theorem d_X_has_13 : zd b_X_has 13 14 (.ireturn) 1 := ⟨by decide +kernel, rfl⟩
theorem d_G_at_0 : zd b_G_at 0 1 (.iload_n 1) 1 := ⟨by decide +kernel, rfl⟩
theorem d_G_at_1 : zd b_G_at 1 4 (.ifCond .lt 19) 3 := ⟨by decide +kernel, rfl⟩
theorem d_G_at_4 : zd b_G_at 4 5 (.iload_n 1) 1 := ⟨by decide +kernel, rfl⟩
theorem d_G_at_5 : zd b_G_at 5 8 (.sipush 2880) 3 := ⟨by decide +kernel, rfl⟩
theorem d_G_at_8 : zd b_G_at 8 11 (.if_icmp .gt 12) 3 := ⟨by decide +kernel, rfl⟩
theorem d_G_at_11 : zd b_G_at 11 12 (.aload_n 0) 1 := ⟨by decide +kernel, rfl⟩
theorem d_G_at_12 : zd b_G_at 12 15 (.getfield 9) 3 := ⟨by decide +kernel, rfl⟩
theorem d_G_at_15 : zd b_G_at 15 16 (.iload_n 1) 1 := ⟨by decide +kernel, rfl⟩
theorem d_G_at_16 : zd b_G_at 16 17 (.iaload) 1 := ⟨by decide +kernel, rfl⟩
theorem d_G_at_17 : zd b_G_at 17 20 (.goto 4) 3 := ⟨by decide +kernel, rfl⟩
theorem d_G_at_20 : zd b_G_at 20 21 (.iconst 0) 1 := ⟨by decide +kernel, rfl⟩
theorem d_G_at_21 : zd b_G_at 21 22 (.ireturn) 1 := ⟨by decide +kernel, rfl⟩
theorem d_S_waitEnd_0 : zd b_S_waitEnd 0 1 (.aload_n 0) 1 := ⟨by decide +kernel, rfl⟩
theorem d_S_waitEnd_1 : zd b_S_waitEnd 1 2 (.iload_n 1) 1 := ⟨by decide +kernel, rfl⟩
theorem d_S_waitEnd_2 : zd b_S_waitEnd 2 3 (.iload_n 2) 1 := ⟨by decide +kernel, rfl⟩
theorem d_S_waitEnd_3 : zd b_S_waitEnd 3 6 (.invokevirtual 76) 3 := ⟨by decide +kernel, rfl⟩
theorem d_S_waitEnd_6 : zd b_S_waitEnd 6 7 (.iload_n 2) 1 := ⟨by decide +kernel, rfl⟩
theorem d_S_waitEnd_7 : zd b_S_waitEnd 7 8 (.aload_n 0) 1 := ⟨by decide +kernel, rfl⟩
theorem d_S_waitEnd_8 : zd b_S_waitEnd 8 9 (.iload_n 1) 1 := ⟨by decide +kernel, rfl⟩
theorem d_S_waitEnd_9 : zd b_S_waitEnd 9 10 (.iconst 2) 1 := ⟨by decide +kernel, rfl⟩
theorem d_S_waitEnd_10 : zd b_S_waitEnd 10 13 (.invokevirtual 73) 3 := ⟨by decide +kernel, rfl⟩
theorem d_S_waitEnd_13 : zd b_S_waitEnd 13 14 (.iadd) 1 := ⟨by decide +kernel, rfl⟩
theorem d_S_waitEnd_14 : zd b_S_waitEnd 14 17 (.invokestatic 79) 3 := ⟨by decide +kernel, rfl⟩
theorem d_S_waitEnd_17 : zd b_S_waitEnd 17 18 (.istore_n 3) 1 := ⟨by decide +kernel, rfl⟩
theorem d_S_waitEnd_18 : zd b_S_waitEnd 18 19 (.iload_n 3) 1 := ⟨by decide +kernel, rfl⟩
theorem d_S_waitEnd_19 : zd b_S_waitEnd 19 22 (.sipush 2880) 3 := ⟨by decide +kernel, rfl⟩
theorem d_S_waitEnd_22 : zd b_S_waitEnd 22 25 (.invokestatic 79) 3 := ⟨by decide +kernel, rfl⟩
theorem d_S_waitEnd_25 : zd b_S_waitEnd 25 26 (.ireturn) 1 := ⟨by decide +kernel, rfl⟩
theorem d_O_leave_0 : zd b_O_leave 0 1 (.iconst 0) 1 := ⟨by decide +kernel, rfl⟩
theorem d_O_leave_1 : zd b_O_leave 1 3 (.istore 5) 2 := ⟨by decide +kernel, rfl⟩
theorem d_O_leave_3 : zd b_O_leave 3 5 (.iload 5) 2 := ⟨by decide +kernel, rfl⟩
theorem d_O_leave_5 : zd b_O_leave 5 6 (.aload_n 1) 1 := ⟨by decide +kernel, rfl⟩
theorem d_O_leave_6 : zd b_O_leave 6 9 (.getfield 43) 3 := ⟨by decide +kernel, rfl⟩
theorem d_O_leave_9 : zd b_O_leave 9 12 (.if_icmp .ge 67) 3 := ⟨by decide +kernel, rfl⟩
theorem d_O_leave_12 : zd b_O_leave 12 13 (.iload_n 2) 1 := ⟨by decide +kernel, rfl⟩
theorem d_O_leave_13 : zd b_O_leave 13 15 (.iload 5) 2 := ⟨by decide +kernel, rfl⟩
theorem d_O_leave_15 : zd b_O_leave 15 18 (.invokestatic 24) 3 := ⟨by decide +kernel, rfl⟩
theorem d_O_leave_18 : zd b_O_leave 18 21 (.ifCond .eq 52) 3 := ⟨by decide +kernel, rfl⟩
theorem d_O_leave_21 : zd b_O_leave 21 22 (.iload_n 3) 1 := ⟨by decide +kernel, rfl⟩
theorem d_O_leave_22 : zd b_O_leave 22 23 (.aload_n 1) 1 := ⟨by decide +kernel, rfl⟩
theorem d_O_leave_23 : zd b_O_leave 23 25 (.iload 5) 2 := ⟨by decide +kernel, rfl⟩
theorem d_O_leave_25 : zd b_O_leave 25 26 (.iconst 0) 1 := ⟨by decide +kernel, rfl⟩
theorem d_O_leave_26 : zd b_O_leave 26 29 (.invokevirtual 47) 3 := ⟨by decide +kernel, rfl⟩
theorem d_O_leave_29 : zd b_O_leave 29 32 (.invokestatic 24) 3 := ⟨by decide +kernel, rfl⟩
theorem d_O_leave_32 : zd b_O_leave 32 35 (.ifCond .eq 38) 3 := ⟨by decide +kernel, rfl⟩
theorem d_O_leave_35 : zd b_O_leave 35 37 (.iload 4) 2 := ⟨by decide +kernel, rfl⟩
theorem d_O_leave_37 : zd b_O_leave 37 38 (.aload_n 1) 1 := ⟨by decide +kernel, rfl⟩
theorem d_O_leave_38 : zd b_O_leave 38 40 (.iload 5) 2 := ⟨by decide +kernel, rfl⟩
theorem d_O_leave_40 : zd b_O_leave 40 41 (.iconst 2) 1 := ⟨by decide +kernel, rfl⟩
theorem d_O_leave_41 : zd b_O_leave 41 44 (.invokevirtual 47) 3 := ⟨by decide +kernel, rfl⟩
theorem d_O_leave_44 : zd b_O_leave 44 45 (.iadd) 1 := ⟨by decide +kernel, rfl⟩
theorem d_O_leave_45 : zd b_O_leave 45 47 (.istore 6) 2 := ⟨by decide +kernel, rfl⟩
theorem d_O_leave_47 : zd b_O_leave 47 48 (.aload_n 0) 1 := ⟨by decide +kernel, rfl⟩
theorem d_O_leave_48 : zd b_O_leave 48 51 (.getfield 9) 3 := ⟨by decide +kernel, rfl⟩
theorem d_O_leave_51 : zd b_O_leave 51 53 (.iload 6) 2 := ⟨by decide +kernel, rfl⟩
theorem d_O_leave_53 : zd b_O_leave 53 56 (.sipush 1023) 3 := ⟨by decide +kernel, rfl⟩
theorem d_O_leave_56 : zd b_O_leave 56 57 (.iand) 1 := ⟨by decide +kernel, rfl⟩
theorem d_O_leave_57 : zd b_O_leave 57 58 (.dup2) 1 := ⟨by decide +kernel, rfl⟩
theorem d_O_leave_58 : zd b_O_leave 58 59 (.iaload) 1 := ⟨by decide +kernel, rfl⟩
theorem d_O_leave_59 : zd b_O_leave 59 60 (.iconst 1) 1 := ⟨by decide +kernel, rfl⟩
theorem d_O_leave_60 : zd b_O_leave 60 61 (.aload_n 1) 1 := ⟨by decide +kernel, rfl⟩
theorem d_O_leave_61 : zd b_O_leave 61 63 (.iload 5) 2 := ⟨by decide +kernel, rfl⟩
theorem d_O_leave_63 : zd b_O_leave 63 64 (.iconst 1) 1 := ⟨by decide +kernel, rfl⟩
theorem d_O_leave_64 : zd b_O_leave 64 67 (.invokevirtual 47) 3 := ⟨by decide +kernel, rfl⟩
theorem d_O_leave_67 : zd b_O_leave 67 68 (.ishl) 1 := ⟨by decide +kernel, rfl⟩
theorem d_O_leave_68 : zd b_O_leave 68 69 (.ior) 1 := ⟨by decide +kernel, rfl⟩
theorem d_O_leave_69 : zd b_O_leave 69 70 (.iastore) 1 := ⟨by decide +kernel, rfl⟩
theorem d_O_leave_70 : zd b_O_leave 70 73 (.iinc 5 1) 3 := ⟨by decide +kernel, rfl⟩
theorem d_O_leave_73 : zd b_O_leave 73 76 (.goto (-70)) 3 := ⟨by decide +kernel, rfl⟩
theorem d_O_leave_76 : zd b_O_leave 76 77 (.return_) 1 := ⟨by decide +kernel, rfl⟩
theorem d_O_minute_0 : zd b_O_minute 0 1 (.iconst 0) 1 := ⟨by decide +kernel, rfl⟩
theorem d_O_minute_1 : zd b_O_minute 1 3 (.istore 4) 2 := ⟨by decide +kernel, rfl⟩
theorem d_O_minute_3 : zd b_O_minute 3 4 (.aload_n 0) 1 := ⟨by decide +kernel, rfl⟩
theorem d_O_minute_4 : zd b_O_minute 4 7 (.getfield 9) 3 := ⟨by decide +kernel, rfl⟩
theorem d_O_minute_7 : zd b_O_minute 7 8 (.iload_n 3) 1 := ⟨by decide +kernel, rfl⟩
theorem d_O_minute_8 : zd b_O_minute 8 11 (.sipush 1023) 3 := ⟨by decide +kernel, rfl⟩
theorem d_O_minute_11 : zd b_O_minute 11 12 (.iand) 1 := ⟨by decide +kernel, rfl⟩
theorem d_O_minute_12 : zd b_O_minute 12 13 (.iaload) 1 := ⟨by decide +kernel, rfl⟩
theorem d_O_minute_13 : zd b_O_minute 13 15 (.istore 5) 2 := ⟨by decide +kernel, rfl⟩
theorem d_O_minute_15 : zd b_O_minute 15 16 (.aload_n 0) 1 := ⟨by decide +kernel, rfl⟩
theorem d_O_minute_16 : zd b_O_minute 16 19 (.getfield 9) 3 := ⟨by decide +kernel, rfl⟩
theorem d_O_minute_19 : zd b_O_minute 19 20 (.iload_n 3) 1 := ⟨by decide +kernel, rfl⟩
theorem d_O_minute_20 : zd b_O_minute 20 23 (.sipush 1023) 3 := ⟨by decide +kernel, rfl⟩
theorem d_O_minute_23 : zd b_O_minute 23 24 (.iand) 1 := ⟨by decide +kernel, rfl⟩
theorem d_O_minute_24 : zd b_O_minute 24 25 (.iconst 0) 1 := ⟨by decide +kernel, rfl⟩
theorem d_O_minute_25 : zd b_O_minute 25 26 (.iastore) 1 := ⟨by decide +kernel, rfl⟩
theorem d_O_minute_26 : zd b_O_minute 26 27 (.iconst 0) 1 := ⟨by decide +kernel, rfl⟩
theorem d_O_minute_27 : zd b_O_minute 27 29 (.istore 6) 2 := ⟨by decide +kernel, rfl⟩
theorem d_O_minute_29 : zd b_O_minute 29 31 (.iload 6) 2 := ⟨by decide +kernel, rfl⟩
theorem d_O_minute_31 : zd b_O_minute 31 33 (.bipush 8) 2 := ⟨by decide +kernel, rfl⟩
theorem d_O_minute_33 : zd b_O_minute 33 36 (.if_icmp .ge 63) 3 := ⟨by decide +kernel, rfl⟩
theorem d_O_minute_36 : zd b_O_minute 36 38 (.iload 5) 2 := ⟨by decide +kernel, rfl⟩
theorem d_O_minute_38 : zd b_O_minute 38 40 (.iload 6) 2 := ⟨by decide +kernel, rfl⟩
theorem d_O_minute_40 : zd b_O_minute 40 43 (.invokestatic 24) 3 := ⟨by decide +kernel, rfl⟩
theorem d_O_minute_43 : zd b_O_minute 43 46 (.ifCond .eq 27) 3 := ⟨by decide +kernel, rfl⟩
theorem d_O_minute_46 : zd b_O_minute 46 47 (.aload_n 0) 1 := ⟨by decide +kernel, rfl⟩
theorem d_O_minute_47 : zd b_O_minute 47 50 (.getfield 15) 3 := ⟨by decide +kernel, rfl⟩
theorem d_O_minute_50 : zd b_O_minute 50 52 (.iload 6) 2 := ⟨by decide +kernel, rfl⟩
theorem d_O_minute_52 : zd b_O_minute 52 53 (.aload_n 0) 1 := ⟨by decide +kernel, rfl⟩
theorem d_O_minute_53 : zd b_O_minute 53 56 (.getfield 15) 3 := ⟨by decide +kernel, rfl⟩
theorem d_O_minute_56 : zd b_O_minute 56 58 (.iload 6) 2 := ⟨by decide +kernel, rfl⟩
theorem d_O_minute_58 : zd b_O_minute 58 59 (.iaload) 1 := ⟨by decide +kernel, rfl⟩
theorem d_O_minute_59 : zd b_O_minute 59 60 (.aload_n 1) 1 := ⟨by decide +kernel, rfl⟩
theorem d_O_minute_60 : zd b_O_minute 60 62 (.iload 6) 2 := ⟨by decide +kernel, rfl⟩
theorem d_O_minute_62 : zd b_O_minute 62 63 (.iload_n 3) 1 := ⟨by decide +kernel, rfl⟩
theorem d_O_minute_63 : zd b_O_minute 63 66 (.invokevirtual 28) 3 := ⟨by decide +kernel, rfl⟩
theorem d_O_minute_66 : zd b_O_minute 66 69 (.invokestatic 34) 3 := ⟨by decide +kernel, rfl⟩
theorem d_O_minute_69 : zd b_O_minute 69 70 (.iastore) 1 := ⟨by decide +kernel, rfl⟩
theorem d_O_minute_70 : zd b_O_minute 70 71 (.aload_n 0) 1 := ⟨by decide +kernel, rfl⟩
theorem d_O_minute_71 : zd b_O_minute 71 74 (.getfield 15) 3 := ⟨by decide +kernel, rfl⟩
theorem d_O_minute_74 : zd b_O_minute 74 76 (.iload 6) 2 := ⟨by decide +kernel, rfl⟩
theorem d_O_minute_76 : zd b_O_minute 76 77 (.iaload) 1 := ⟨by decide +kernel, rfl⟩
theorem d_O_minute_77 : zd b_O_minute 77 78 (.iload_n 3) 1 := ⟨by decide +kernel, rfl⟩
theorem d_O_minute_78 : zd b_O_minute 78 81 (.if_icmp .lt 12) 3 := ⟨by decide +kernel, rfl⟩
theorem d_O_minute_81 : zd b_O_minute 81 83 (.iload 4) 2 := ⟨by decide +kernel, rfl⟩
theorem d_O_minute_83 : zd b_O_minute 83 84 (.iconst 1) 1 := ⟨by decide +kernel, rfl⟩
theorem d_O_minute_84 : zd b_O_minute 84 86 (.iload 6) 2 := ⟨by decide +kernel, rfl⟩
theorem d_O_minute_86 : zd b_O_minute 86 87 (.ishl) 1 := ⟨by decide +kernel, rfl⟩
theorem d_O_minute_87 : zd b_O_minute 87 88 (.ior) 1 := ⟨by decide +kernel, rfl⟩
theorem d_O_minute_88 : zd b_O_minute 88 90 (.istore 4) 2 := ⟨by decide +kernel, rfl⟩
theorem d_O_minute_90 : zd b_O_minute 90 93 (.iinc 6 1) 3 := ⟨by decide +kernel, rfl⟩
theorem d_O_minute_93 : zd b_O_minute 93 96 (.goto (-64)) 3 := ⟨by decide +kernel, rfl⟩
theorem d_O_minute_96 : zd b_O_minute 96 98 (.iload 4) 2 := ⟨by decide +kernel, rfl⟩
theorem d_O_minute_98 : zd b_O_minute 98 101 (.ifCond .eq 16) 3 := ⟨by decide +kernel, rfl⟩
theorem d_O_minute_101 : zd b_O_minute 101 102 (.iload_n 2) 1 := ⟨by decide +kernel, rfl⟩
theorem d_O_minute_102 : zd b_O_minute 102 105 (.ifCond .eq 12) 3 := ⟨by decide +kernel, rfl⟩
theorem d_O_minute_105 : zd b_O_minute 105 106 (.aload_n 0) 1 := ⟨by decide +kernel, rfl⟩
theorem d_O_minute_106 : zd b_O_minute 106 107 (.aload_n 1) 1 := ⟨by decide +kernel, rfl⟩
theorem d_O_minute_107 : zd b_O_minute 107 108 (.iload_n 2) 1 := ⟨by decide +kernel, rfl⟩
theorem d_O_minute_108 : zd b_O_minute 108 110 (.iload 4) 2 := ⟨by decide +kernel, rfl⟩
theorem d_O_minute_110 : zd b_O_minute 110 111 (.iload_n 3) 1 := ⟨by decide +kernel, rfl⟩
theorem d_O_minute_111 : zd b_O_minute 111 114 (.invokevirtual 39) 3 := ⟨by decide +kernel, rfl⟩
theorem d_O_minute_114 : zd b_O_minute 114 116 (.iload 4) 2 := ⟨by decide +kernel, rfl⟩
theorem d_O_minute_116 : zd b_O_minute 116 117 (.ireturn) 1 := ⟨by decide +kernel, rfl⟩
theorem d_X_firstComing_0 : zd b_X_firstComing 0 1 (.aload_n 0) 1 := ⟨by decide +kernel, rfl⟩
theorem d_X_firstComing_1 : zd b_X_firstComing 1 4 (.getfield 37) 3 := ⟨by decide +kernel, rfl⟩
theorem d_X_firstComing_4 : zd b_X_firstComing 4 5 (.aload_n 0) 1 := ⟨by decide +kernel, rfl⟩
theorem d_X_firstComing_5 : zd b_X_firstComing 5 8 (.getfield 12) 3 := ⟨by decide +kernel, rfl⟩
theorem d_X_firstComing_8 : zd b_X_firstComing 8 11 (.invokevirtual 183) 3 := ⟨by decide +kernel, rfl⟩
theorem d_X_firstComing_11 : zd b_X_firstComing 11 12 (.aload_n 0) 1 := ⟨by decide +kernel, rfl⟩
theorem d_X_firstComing_12 : zd b_X_firstComing 12 15 (.getfield 44) 3 := ⟨by decide +kernel, rfl⟩
theorem d_X_firstComing_15 : zd b_X_firstComing 15 16 (.iload_n 1) 1 := ⟨by decide +kernel, rfl⟩
theorem d_X_firstComing_16 : zd b_X_firstComing 16 17 (.iload_n 3) 1 := ⟨by decide +kernel, rfl⟩
theorem d_X_firstComing_17 : zd b_X_firstComing 17 20 (.invokevirtual 220) 3 := ⟨by decide +kernel, rfl⟩
theorem d_X_firstComing_20 : zd b_X_firstComing 20 21 (.iload_n 2) 1 := ⟨by decide +kernel, rfl⟩
theorem d_X_firstComing_21 : zd b_X_firstComing 21 23 (.istore 7) 2 := ⟨by decide +kernel, rfl⟩
theorem d_X_firstComing_23 : zd b_X_firstComing 23 25 (.iload 7) 2 := ⟨by decide +kernel, rfl⟩
theorem d_X_firstComing_25 : zd b_X_firstComing 25 27 (.iload 5) 2 := ⟨by decide +kernel, rfl⟩
theorem d_X_firstComing_27 : zd b_X_firstComing 27 30 (.if_icmp .gt 57) 3 := ⟨by decide +kernel, rfl⟩
theorem d_X_firstComing_30 : zd b_X_firstComing 30 31 (.aload_n 0) 1 := ⟨by decide +kernel, rfl⟩
theorem d_X_firstComing_31 : zd b_X_firstComing 31 34 (.getfield 44) 3 := ⟨by decide +kernel, rfl⟩
theorem d_X_firstComing_34 : zd b_X_firstComing 34 36 (.iload 7) 2 := ⟨by decide +kernel, rfl⟩
theorem d_X_firstComing_36 : zd b_X_firstComing 36 39 (.invokevirtual 221) 3 := ⟨by decide +kernel, rfl⟩
theorem d_X_firstComing_39 : zd b_X_firstComing 39 41 (.iload 4) 2 := ⟨by decide +kernel, rfl⟩
theorem d_X_firstComing_41 : zd b_X_firstComing 41 44 (.invokestatic 230) 3 := ⟨by decide +kernel, rfl⟩
theorem d_X_firstComing_44 : zd b_X_firstComing 44 47 (.ifCond .eq 6) 3 := ⟨by decide +kernel, rfl⟩
theorem d_X_firstComing_47 : zd b_X_firstComing 47 49 (.iload 7) 2 := ⟨by decide +kernel, rfl⟩
theorem d_X_firstComing_49 : zd b_X_firstComing 49 50 (.ireturn) 1 := ⟨by decide +kernel, rfl⟩
theorem d_X_firstComing_50 : zd b_X_firstComing 50 51 (.aload_n 0) 1 := ⟨by decide +kernel, rfl⟩
theorem d_X_firstComing_51 : zd b_X_firstComing 51 54 (.getfield 44) 3 := ⟨by decide +kernel, rfl⟩
theorem d_X_firstComing_54 : zd b_X_firstComing 54 55 (.aload_n 0) 1 := ⟨by decide +kernel, rfl⟩
theorem d_X_firstComing_55 : zd b_X_firstComing 55 58 (.getfield 12) 3 := ⟨by decide +kernel, rfl⟩
theorem d_X_firstComing_58 : zd b_X_firstComing 58 59 (.aload_n 0) 1 := ⟨by decide +kernel, rfl⟩
theorem d_X_firstComing_59 : zd b_X_firstComing 59 62 (.getfield 37) 3 := ⟨by decide +kernel, rfl⟩
theorem d_X_firstComing_62 : zd b_X_firstComing 62 64 (.iload 7) 2 := ⟨by decide +kernel, rfl⟩
theorem d_X_firstComing_64 : zd b_X_firstComing 64 67 (.invokevirtual 190) 3 := ⟨by decide +kernel, rfl⟩
theorem d_X_firstComing_67 : zd b_X_firstComing 67 69 (.iload 6) 2 := ⟨by decide +kernel, rfl⟩
theorem d_X_firstComing_69 : zd b_X_firstComing 69 70 (.iconst (-1)) 1 := ⟨by decide +kernel, rfl⟩
theorem d_X_firstComing_70 : zd b_X_firstComing 70 71 (.ixor) 1 := ⟨by decide +kernel, rfl⟩
theorem d_X_firstComing_71 : zd b_X_firstComing 71 72 (.iand) 1 := ⟨by decide +kernel, rfl⟩
theorem d_X_firstComing_72 : zd b_X_firstComing 72 74 (.iload 7) 2 := ⟨by decide +kernel, rfl⟩
theorem d_X_firstComing_74 : zd b_X_firstComing 74 77 (.invokevirtual 224) 3 := ⟨by decide +kernel, rfl⟩
theorem d_X_firstComing_77 : zd b_X_firstComing 77 78 (.pop) 1 := ⟨by decide +kernel, rfl⟩
theorem d_X_firstComing_78 : zd b_X_firstComing 78 81 (.iinc 7 1) 3 := ⟨by decide +kernel, rfl⟩
theorem d_X_firstComing_81 : zd b_X_firstComing 81 84 (.goto (-58)) 3 := ⟨by decide +kernel, rfl⟩
theorem d_X_firstComing_84 : zd b_X_firstComing 84 86 (.bipush (-6)) 2 := ⟨by decide +kernel, rfl⟩
theorem d_X_firstComing_86 : zd b_X_firstComing 86 87 (.ireturn) 1 := ⟨by decide +kernel, rfl⟩
theorem d_X_arrives_0 : zd b_X_arrives 0 1 (.aload_n 0) 1 := ⟨by decide +kernel, rfl⟩
theorem d_X_arrives_1 : zd b_X_arrives 1 4 (.getfield 12) 3 := ⟨by decide +kernel, rfl⟩
theorem d_X_arrives_4 : zd b_X_arrives 4 5 (.iload_n 1) 1 := ⟨by decide +kernel, rfl⟩
theorem d_X_arrives_5 : zd b_X_arrives 5 8 (.invokevirtual 128) 3 := ⟨by decide +kernel, rfl⟩
theorem d_X_arrives_8 : zd b_X_arrives 8 11 (.ifCond .eq 10) 3 := ⟨by decide +kernel, rfl⟩
theorem d_X_arrives_11 : zd b_X_arrives 11 12 (.iload_n 2) 1 := ⟨by decide +kernel, rfl⟩
theorem d_X_arrives_12 : zd b_X_arrives 12 15 (.invokestatic 65) 3 := ⟨by decide +kernel, rfl⟩
theorem d_X_arrives_15 : zd b_X_arrives 15 18 (.ifCond .ne 5) 3 := ⟨by decide +kernel, rfl⟩
theorem d_X_arrives_18 : zd b_X_arrives 18 19 (.iconst (-1)) 1 := ⟨by decide +kernel, rfl⟩
theorem d_X_arrives_19 : zd b_X_arrives 19 20 (.ireturn) 1 := ⟨by decide +kernel, rfl⟩
theorem d_X_arrives_20 : zd b_X_arrives 20 21 (.aload_n 0) 1 := ⟨by decide +kernel, rfl⟩
theorem d_X_arrives_21 : zd b_X_arrives 21 24 (.getfield 12) 3 := ⟨by decide +kernel, rfl⟩
theorem d_X_arrives_24 : zd b_X_arrives 24 25 (.iload_n 1) 1 := ⟨by decide +kernel, rfl⟩
theorem d_X_arrives_25 : zd b_X_arrives 25 26 (.iconst 0) 1 := ⟨by decide +kernel, rfl⟩
theorem d_X_arrives_26 : zd b_X_arrives 26 29 (.invokevirtual 165) 3 := ⟨by decide +kernel, rfl⟩
theorem d_X_arrives_29 : zd b_X_arrives 29 30 (.istore_n 3) 1 := ⟨by decide +kernel, rfl⟩
theorem d_X_arrives_30 : zd b_X_arrives 30 31 (.aload_n 0) 1 := ⟨by decide +kernel, rfl⟩
theorem d_X_arrives_31 : zd b_X_arrives 31 34 (.getfield 12) 3 := ⟨by decide +kernel, rfl⟩
theorem d_X_arrives_34 : zd b_X_arrives 34 35 (.iload_n 1) 1 := ⟨by decide +kernel, rfl⟩
theorem d_X_arrives_35 : zd b_X_arrives 35 36 (.iconst 1) 1 := ⟨by decide +kernel, rfl⟩
theorem d_X_arrives_36 : zd b_X_arrives 36 39 (.invokevirtual 165) 3 := ⟨by decide +kernel, rfl⟩
theorem d_X_arrives_39 : zd b_X_arrives 39 41 (.istore 4) 2 := ⟨by decide +kernel, rfl⟩
theorem d_X_arrives_41 : zd b_X_arrives 41 42 (.iload_n 3) 1 := ⟨by decide +kernel, rfl⟩
theorem d_X_arrives_42 : zd b_X_arrives 42 43 (.iload_n 2) 1 := ⟨by decide +kernel, rfl⟩
theorem d_X_arrives_43 : zd b_X_arrives 43 46 (.if_icmp .ne 6) 3 := ⟨by decide +kernel, rfl⟩
theorem d_X_arrives_46 : zd b_X_arrives 46 48 (.iload 4) 2 := ⟨by decide +kernel, rfl⟩
theorem d_X_arrives_48 : zd b_X_arrives 48 49 (.ireturn) 1 := ⟨by decide +kernel, rfl⟩
theorem d_X_arrives_49 : zd b_X_arrives 49 50 (.aload_n 0) 1 := ⟨by decide +kernel, rfl⟩
theorem d_X_arrives_50 : zd b_X_arrives 50 51 (.iload_n 3) 1 := ⟨by decide +kernel, rfl⟩
theorem d_X_arrives_51 : zd b_X_arrives 51 53 (.iload 4) 2 := ⟨by decide +kernel, rfl⟩
theorem d_X_arrives_53 : zd b_X_arrives 53 55 (.iload 4) 2 := ⟨by decide +kernel, rfl⟩
theorem d_X_arrives_55 : zd b_X_arrives 55 56 (.aload_n 0) 1 := ⟨by decide +kernel, rfl⟩
theorem d_X_arrives_56 : zd b_X_arrives 56 59 (.getfield 12) 3 := ⟨by decide +kernel, rfl⟩
theorem d_X_arrives_59 : zd b_X_arrives 59 60 (.iload_n 1) 1 := ⟨by decide +kernel, rfl⟩
theorem d_X_arrives_60 : zd b_X_arrives 60 63 (.invokevirtual 237) 3 := ⟨by decide +kernel, rfl⟩
theorem d_X_arrives_63 : zd b_X_arrives 63 64 (.iadd) 1 := ⟨by decide +kernel, rfl⟩
theorem d_X_arrives_64 : zd b_X_arrives 64 65 (.iload_n 2) 1 := ⟨by decide +kernel, rfl⟩
theorem d_X_arrives_65 : zd b_X_arrives 65 68 (.sipush 2880) 3 := ⟨by decide +kernel, rfl⟩
theorem d_X_arrives_68 : zd b_X_arrives 68 69 (.iconst 0) 1 := ⟨by decide +kernel, rfl⟩
theorem d_X_arrives_69 : zd b_X_arrives 69 72 (.invokevirtual 233) 3 := ⟨by decide +kernel, rfl⟩
theorem d_X_arrives_72 : zd b_X_arrives 72 73 (.ireturn) 1 := ⟨by decide +kernel, rfl⟩
theorem d_X_whyShut_0 : zd b_X_whyShut 0 1 (.aload_n 0) 1 := ⟨by decide +kernel, rfl⟩
theorem d_X_whyShut_1 : zd b_X_whyShut 1 4 (.getfield 12) 3 := ⟨by decide +kernel, rfl⟩
theorem d_X_whyShut_4 : zd b_X_whyShut 4 5 (.iload_n 1) 1 := ⟨by decide +kernel, rfl⟩
theorem d_X_whyShut_5 : zd b_X_whyShut 5 8 (.invokevirtual 88) 3 := ⟨by decide +kernel, rfl⟩
theorem d_X_whyShut_8 : zd b_X_whyShut 8 11 (.ifCond .ne 5) 3 := ⟨by decide +kernel, rfl⟩
theorem d_X_whyShut_11 : zd b_X_whyShut 11 12 (.iconst (-1)) 1 := ⟨by decide +kernel, rfl⟩
theorem d_X_whyShut_12 : zd b_X_whyShut 12 13 (.ireturn) 1 := ⟨by decide +kernel, rfl⟩
theorem d_X_whyShut_13 : zd b_X_whyShut 13 14 (.iload_n 2) 1 := ⟨by decide +kernel, rfl⟩
theorem d_X_whyShut_14 : zd b_X_whyShut 14 15 (.iconst 0) 1 := ⟨by decide +kernel, rfl⟩
theorem d_X_whyShut_15 : zd b_X_whyShut 15 18 (.sipush 2880) 3 := ⟨by decide +kernel, rfl⟩
theorem d_X_whyShut_18 : zd b_X_whyShut 18 21 (.invokestatic 69) 3 := ⟨by decide +kernel, rfl⟩
theorem d_X_whyShut_21 : zd b_X_whyShut 21 24 (.ifCond .ne 6) 3 := ⟨by decide +kernel, rfl⟩
theorem d_X_whyShut_24 : zd b_X_whyShut 24 26 (.bipush (-2)) 2 := ⟨by decide +kernel, rfl⟩
theorem d_X_whyShut_26 : zd b_X_whyShut 26 27 (.ireturn) 1 := ⟨by decide +kernel, rfl⟩
theorem d_X_whyShut_27 : zd b_X_whyShut 27 28 (.aload_n 0) 1 := ⟨by decide +kernel, rfl⟩
theorem d_X_whyShut_28 : zd b_X_whyShut 28 31 (.getfield 12) 3 := ⟨by decide +kernel, rfl⟩
theorem d_X_whyShut_31 : zd b_X_whyShut 31 32 (.iload_n 1) 1 := ⟨by decide +kernel, rfl⟩
theorem d_X_whyShut_32 : zd b_X_whyShut 32 33 (.iload_n 2) 1 := ⟨by decide +kernel, rfl⟩
theorem d_X_whyShut_33 : zd b_X_whyShut 33 36 (.invokevirtual 177) 3 := ⟨by decide +kernel, rfl⟩
theorem d_X_whyShut_36 : zd b_X_whyShut 36 37 (.ireturn) 1 := ⟨by decide +kernel, rfl⟩
theorem d_X_undo_0 : zd b_X_undo 0 1 (.aload_n 0) 1 := ⟨by decide +kernel, rfl⟩
theorem d_X_undo_1 : zd b_X_undo 1 4 (.getfield 174) 3 := ⟨by decide +kernel, rfl⟩
theorem d_X_undo_4 : zd b_X_undo 4 7 (.ifCond .gt 6) 3 := ⟨by decide +kernel, rfl⟩
theorem d_X_undo_7 : zd b_X_undo 7 9 (.bipush (-6)) 2 := ⟨by decide +kernel, rfl⟩
theorem d_X_undo_9 : zd b_X_undo 9 10 (.ireturn) 1 := ⟨by decide +kernel, rfl⟩
theorem d_X_undo_10 : zd b_X_undo 10 11 (.aload_n 0) 1 := ⟨by decide +kernel, rfl⟩
theorem d_X_undo_11 : zd b_X_undo 11 12 (.dup) 1 := ⟨by decide +kernel, rfl⟩
theorem d_X_undo_12 : zd b_X_undo 12 15 (.getfield 174) 3 := ⟨by decide +kernel, rfl⟩
theorem d_X_undo_15 : zd b_X_undo 15 16 (.iconst 1) 1 := ⟨by decide +kernel, rfl⟩
theorem d_X_undo_16 : zd b_X_undo 16 17 (.isub) 1 := ⟨by decide +kernel, rfl⟩
theorem d_X_undo_17 : zd b_X_undo 17 20 (.putfield 174) 3 := ⟨by decide +kernel, rfl⟩
theorem d_X_undo_20 : zd b_X_undo 20 21 (.aload_n 0) 1 := ⟨by decide +kernel, rfl⟩
theorem d_X_undo_21 : zd b_X_undo 21 24 (.getfield 12) 3 := ⟨by decide +kernel, rfl⟩
theorem d_X_undo_24 : zd b_X_undo 24 25 (.aload_n 0) 1 := ⟨by decide +kernel, rfl⟩
theorem d_X_undo_25 : zd b_X_undo 25 28 (.getfield 16) 3 := ⟨by decide +kernel, rfl⟩
theorem d_X_undo_28 : zd b_X_undo 28 29 (.aload_n 0) 1 := ⟨by decide +kernel, rfl⟩
theorem d_X_undo_29 : zd b_X_undo 29 32 (.getfield 174) 3 := ⟨by decide +kernel, rfl⟩
theorem d_X_undo_32 : zd b_X_undo 32 33 (.aaload) 1 := ⟨by decide +kernel, rfl⟩
theorem d_X_undo_33 : zd b_X_undo 33 36 (.invokevirtual 279) 3 := ⟨by decide +kernel, rfl⟩
theorem d_X_undo_36 : zd b_X_undo 36 37 (.aload_n 0) 1 := ⟨by decide +kernel, rfl⟩
theorem d_X_undo_37 : zd b_X_undo 37 40 (.getfield 37) 3 := ⟨by decide +kernel, rfl⟩
theorem d_X_undo_40 : zd b_X_undo 40 41 (.iconst 0) 1 := ⟨by decide +kernel, rfl⟩
theorem d_X_undo_41 : zd b_X_undo 41 44 (.putfield 282) 3 := ⟨by decide +kernel, rfl⟩
theorem d_X_undo_44 : zd b_X_undo 44 45 (.aload_n 0) 1 := ⟨by decide +kernel, rfl⟩
theorem d_X_undo_45 : zd b_X_undo 45 48 (.getfield 174) 3 := ⟨by decide +kernel, rfl⟩
theorem d_X_undo_48 : zd b_X_undo 48 49 (.ireturn) 1 := ⟨by decide +kernel, rfl⟩
theorem d_X_save_0 : zd b_X_save 0 1 (.iload_n 1) 1 := ⟨by decide +kernel, rfl⟩
theorem d_X_save_1 : zd b_X_save 1 2 (.iconst 0) 1 := ⟨by decide +kernel, rfl⟩
theorem d_X_save_2 : zd b_X_save 2 3 (.iconst 1) 1 := ⟨by decide +kernel, rfl⟩
theorem d_X_save_3 : zd b_X_save 3 6 (.invokestatic 69) 3 := ⟨by decide +kernel, rfl⟩
theorem d_X_save_6 : zd b_X_save 6 9 (.ifCond .ne 5) 3 := ⟨by decide +kernel, rfl⟩
theorem d_X_save_9 : zd b_X_save 9 10 (.iconst (-1)) 1 := ⟨by decide +kernel, rfl⟩
theorem d_X_save_10 : zd b_X_save 10 11 (.ireturn) 1 := ⟨by decide +kernel, rfl⟩
theorem d_X_save_11 : zd b_X_save 11 12 (.aload_n 0) 1 := ⟨by decide +kernel, rfl⟩
theorem d_X_save_12 : zd b_X_save 12 15 (.getfield 20) 3 := ⟨by decide +kernel, rfl⟩
theorem d_X_save_15 : zd b_X_save 15 16 (.iload_n 1) 1 := ⟨by decide +kernel, rfl⟩
theorem d_X_save_16 : zd b_X_save 16 17 (.aaload) 1 := ⟨by decide +kernel, rfl⟩
theorem d_X_save_17 : zd b_X_save 17 18 (.aload_n 0) 1 := ⟨by decide +kernel, rfl⟩
theorem d_X_save_18 : zd b_X_save 18 21 (.getfield 12) 3 := ⟨by decide +kernel, rfl⟩
theorem d_X_save_21 : zd b_X_save 21 24 (.invokevirtual 279) 3 := ⟨by decide +kernel, rfl⟩
theorem d_X_save_24 : zd b_X_save 24 25 (.aload_n 0) 1 := ⟨by decide +kernel, rfl⟩
theorem d_X_save_25 : zd b_X_save 25 28 (.getfield 23) 3 := ⟨by decide +kernel, rfl⟩
theorem d_X_save_28 : zd b_X_save 28 29 (.iload_n 1) 1 := ⟨by decide +kernel, rfl⟩
theorem d_X_save_29 : zd b_X_save 29 30 (.iconst 1) 1 := ⟨by decide +kernel, rfl⟩
theorem d_X_save_30 : zd b_X_save 30 31 (.bastore) 1 := ⟨by decide +kernel, rfl⟩
theorem d_X_save_31 : zd b_X_save 31 32 (.aload_n 0) 1 := ⟨by decide +kernel, rfl⟩
theorem d_X_save_32 : zd b_X_save 32 35 (.getfield 12) 3 := ⟨by decide +kernel, rfl⟩
theorem d_X_save_35 : zd b_X_save 35 38 (.getfield 80) 3 := ⟨by decide +kernel, rfl⟩
theorem d_X_save_38 : zd b_X_save 38 39 (.ireturn) 1 := ⟨by decide +kernel, rfl⟩
theorem d_X_restore_0 : zd b_X_restore 0 1 (.iload_n 1) 1 := ⟨by decide +kernel, rfl⟩
theorem d_X_restore_1 : zd b_X_restore 1 2 (.iconst 0) 1 := ⟨by decide +kernel, rfl⟩
theorem d_X_restore_2 : zd b_X_restore 2 3 (.iconst 1) 1 := ⟨by decide +kernel, rfl⟩
theorem d_X_restore_3 : zd b_X_restore 3 6 (.invokestatic 69) 3 := ⟨by decide +kernel, rfl⟩
theorem d_X_restore_6 : zd b_X_restore 6 9 (.ifCond .eq 12) 3 := ⟨by decide +kernel, rfl⟩
theorem d_X_restore_9 : zd b_X_restore 9 10 (.aload_n 0) 1 := ⟨by decide +kernel, rfl⟩
theorem d_X_restore_10 : zd b_X_restore 10 13 (.getfield 23) 3 := ⟨by decide +kernel, rfl⟩
theorem d_X_restore_13 : zd b_X_restore 13 14 (.iload_n 1) 1 := ⟨by decide +kernel, rfl⟩
theorem d_X_restore_14 : zd b_X_restore 14 15 (.baload) 1 := ⟨by decide +kernel, rfl⟩
theorem d_X_restore_15 : zd b_X_restore 15 18 (.ifCond .ne 5) 3 := ⟨by decide +kernel, rfl⟩
theorem d_X_restore_18 : zd b_X_restore 18 19 (.iconst (-1)) 1 := ⟨by decide +kernel, rfl⟩
theorem d_X_restore_19 : zd b_X_restore 19 20 (.ireturn) 1 := ⟨by decide +kernel, rfl⟩
theorem d_X_restore_20 : zd b_X_restore 20 21 (.aload_n 0) 1 := ⟨by decide +kernel, rfl⟩
theorem d_X_restore_21 : zd b_X_restore 21 24 (.invokevirtual 73) 3 := ⟨by decide +kernel, rfl⟩
theorem d_X_restore_24 : zd b_X_restore 24 25 (.aload_n 0) 1 := ⟨by decide +kernel, rfl⟩
theorem d_X_restore_25 : zd b_X_restore 25 28 (.getfield 12) 3 := ⟨by decide +kernel, rfl⟩
theorem d_X_restore_28 : zd b_X_restore 28 29 (.aload_n 0) 1 := ⟨by decide +kernel, rfl⟩
theorem d_X_restore_29 : zd b_X_restore 29 32 (.getfield 20) 3 := ⟨by decide +kernel, rfl⟩
theorem d_X_restore_32 : zd b_X_restore 32 33 (.iload_n 1) 1 := ⟨by decide +kernel, rfl⟩
theorem d_X_restore_33 : zd b_X_restore 33 34 (.aaload) 1 := ⟨by decide +kernel, rfl⟩
theorem d_X_restore_34 : zd b_X_restore 34 37 (.invokevirtual 279) 3 := ⟨by decide +kernel, rfl⟩
theorem d_X_restore_37 : zd b_X_restore 37 38 (.aload_n 0) 1 := ⟨by decide +kernel, rfl⟩
theorem d_X_restore_38 : zd b_X_restore 38 41 (.getfield 12) 3 := ⟨by decide +kernel, rfl⟩
theorem d_X_restore_41 : zd b_X_restore 41 44 (.getfield 80) 3 := ⟨by decide +kernel, rfl⟩
theorem d_X_restore_44 : zd b_X_restore 44 45 (.ireturn) 1 := ⟨by decide +kernel, rfl⟩
end
section
/-! numbers: Int, as the machine's ints -/
abbrev zM : Type := Nat → Int → Int
def zI (x : Int) : Int32 := Int32.ofInt x
def zR (x : Int) : Prop := -2147483648 ≤ x ∧ x ≤ 2147483647
def zRM (σ : zM) : Prop := ∀ n j, zR (σ n j)
def zU (σ : zM) (n : Nat) (j v : Int) : zM := fun a b => if a = n ∧ b = j then v else σ a b
theorem zU_rg {σ : zM} (h : zRM σ) (n : Nat) (j : Int) {v : Int} (hv : zR v) : zRM (zU σ n j v) := by
  intro a b
  unfold zU
  split
  · exact hv
  · exact h a b
theorem zI_toInt {x : Int} (h : zR x) : (zI x).toInt = x := Int32.toInt_ofInt_of_le (by have := h.1; omega) (by have := h.2; omega)
theorem zI_rg (x : Int32) : zR x.toInt := ⟨by have := Int32.le_toInt x; omega, by have := Int32.toInt_lt x; omega⟩
theorem zI_of (x : Int32) : zI x.toInt = x := Int32.ofInt_toInt x
theorem zI_lt {x y : Int} (hx : zR x) (hy : zR y) : zI x < zI y ↔ x < y := by rw [Int32.lt_iff_toInt_lt, zI_toInt hx, zI_toInt hy]
theorem zI_le {x y : Int} (hx : zR x) (hy : zR y) : zI x ≤ zI y ↔ x ≤ y := by rw [Int32.le_iff_toInt_le, zI_toInt hx, zI_toInt hy]
theorem zI_eq {x y : Int} (hx : zR x) (hy : zR y) : zI x = zI y ↔ x = y := by rw [← Int32.toInt_inj, zI_toInt hx, zI_toInt hy]
theorem zI_0 : (0 : Int32) = zI 0 := rfl
theorem zR_0 : zR 0 := ⟨by omega, by omega⟩
theorem zI_clamp {x : Int} (h0 : 0 ≤ x) (h : x ≤ 2147483647) : (zI x).toNatClampNeg = x.toNat := by
  show (zI x).toInt.toNat = x.toNat
  rw [zI_toInt ⟨by omega, h⟩]
theorem zI_in {x : Int} {n : Nat} (h0 : 0 ≤ x) (h : x < n) (hn : n ≤ 2147483647) : vp_in (zI x) n := by
  rw [vp_in_iff, zI_toInt ⟨by omega, by omega⟩]
  exact ⟨h0, h⟩
theorem zI_nn {x : Int} (h : zR x) (h0 : 0 ≤ x) : ¬ zI x < 0 := by
  rw [zI_0, zI_lt h zR_0]; omega
def zAnd (x y : Int) : Int := (zI x &&& zI y).toInt
def zOr (x y : Int) : Int := (zI x ||| zI y).toInt
def zXor (x y : Int) : Int := (zI x ^^^ zI y).toInt
def zShl (x y : Int) : Int := (zI x <<< (zI y &&& 31)).toInt
def zShr (x y : Int) : Int := (zI x >>> (zI y &&& 31)).toInt
def zUshr (x y : Int) : Int := (((zI x).toUInt32 >>> ((zI y).toUInt32 &&& Int32.toUInt32 31)).toInt32).toInt
theorem zAnd_rg (x y : Int) : zR (zAnd x y) := zI_rg _
theorem zOr_rg (x y : Int) : zR (zOr x y) := zI_rg _
theorem zXor_rg (x y : Int) : zR (zXor x y) := zI_rg _
theorem zShl_rg (x y : Int) : zR (zShl x y) := zI_rg _
theorem zShr_rg (x y : Int) : zR (zShr x y) := zI_rg _
theorem zUshr_rg (x y : Int) : zR (zUshr x y) := zI_rg _
/-! the world -/
def zFld (ad : Nat → Nat) (σ : zM) (n : Nat) : Int → List Int → List Value
  | _, [] => []
  | j, d :: r => (if d < 0 then Value.int (zI (σ n j)) else Value.ref (ad d.toNat)) :: zFld ad σ n (j + 1) r
def zEnt (ad : Nat → Nat) (ca : Nat → ClassId) (σ : zM) (n : Nat) : zSh → va_E
  | .inl (t, len) => .inl (ca t, (len, if t = 3 then .inr (.inr (.inr (.inr (fun j => some (ad (6 * (σ n j).toNat)))))) else .inl (fun j => zI (σ n j))))
  | .inr (ci, fs) => .inr (ci, zFld ad σ n 0 fs)
def zWs (ad : Nat → Nat) (ca : Nat → ClassId) (σ : zM) : va_W := zShp.mapIdx (fun n sh => (ad n, zEnt ad ca σ n sh))
theorem zWs_get {ad : Nat → Nat} {ca : Nat → ClassId} {σ : zM} {n : Nat} {sh : zSh} (h : zShp[n]? = some sh) : (zWs ad ca σ)[n]? = some (ad n, zEnt ad ca σ n sh) := by
  unfold zWs
  rw [List.getElem?_mapIdx, h]; rfl
theorem zFld_congr {ad : Nat → Nat} {σ σ' : zM} {n : Nat} (h : ∀ j, σ n j = σ' n j) : ∀ (l : List Int) (j : Int), zFld ad σ n j l = zFld ad σ' n j l
  | [], _ => rfl
  | d :: r, j => by unfold zFld; rw [h j, zFld_congr h r (j + 1)]
theorem zEnt_congr {ad : Nat → Nat} {ca : Nat → ClassId} {σ σ' : zM} {n : Nat} (h : ∀ j, σ n j = σ' n j) (sh : zSh) : zEnt ad ca σ n sh = zEnt ad ca σ' n sh := by
  have h' : σ n = σ' n := funext h
  cases sh with
  | inl x => obtain ⟨t, len⟩ := x; unfold zEnt; rw [h']
  | inr x =>
    obtain ⟨ci, fs⟩ := x
    show (Sum.inr (ci, zFld ad σ n 0 fs) : va_E) = .inr (ci, zFld ad σ' n 0 fs)
    rw [zFld_congr h]
theorem zWs_set {ad : Nat → Nat} {ca : Nat → ClassId} {σ σ' : zM} {n : Nat} {sh : zSh} {e : va_E} (hn : zShp[n]? = some sh) (he : zEnt ad ca σ' n sh = e) (ho : ∀ m, m ≠ n → ∀ j, σ m j = σ' m j) : (zWs ad ca σ).set n (ad n, e) = zWs ad ca σ' := by
  have hl : n < (zWs ad ca σ).length := (List.getElem?_eq_some_iff.mp (zWs_get (ad := ad) (ca := ca) (σ := σ) hn)).1
  apply List.ext_getElem?
  intro m
  by_cases hm : m = n
  · subst hm
    rw [List.getElem?_set_self hl, zWs_get hn, he]
  · rw [List.getElem?_set_ne (Ne.symm hm)]
    unfold zWs
    rw [List.getElem?_mapIdx, List.getElem?_mapIdx]
    cases zShp[m]? with
    | none => rfl
    | some sh' => simp only [Option.map_some]; rw [zEnt_congr (ho m hm)]
theorem zU_o {σ : zM} {n m : Nat} {i v : Int} (h : m ≠ n) (j : Int) : σ m j = zU σ n i v m j := by
  unfold zU
  rw [if_neg (fun hh => h hh.1)]
theorem zFld_set {ad : Nat → Nat} {σ : zM} {n : Nat} {v : Int} : ∀ (fs : List Int) (b : Int) (k : Nat), fs[k]? = some (-1) → zFld ad (zU σ n (b + k) v) n b fs = (zFld ad σ n b fs).set k (.int (zI v))
  | [], b, k, h => by simp at h
  | d :: r, b, 0, h => by
    have hd : d = -1 := by simpa using h
    subst hd
    have key : ∀ (r : List Int) (c : Int), b < c → zFld ad (zU σ n b v) n c r = zFld ad σ n c r := by
      intro r
      induction r with
      | nil => intro c _; rfl
      | cons x r ih =>
        intro c hc
        unfold zFld
        rw [ih (c + 1) (by omega)]
        have : zU σ n b v n c = σ n c := by unfold zU; rw [if_neg (fun hh => by omega)]
        rw [this]
    have hb : b + ((0 : Nat) : Int) = b := by omega
    rw [hb]
    unfold zFld
    rw [key r (b + 1) (by omega)]
    simp [zU]
  | d :: r, b, k + 1, h => by
    have h' : r[k]? = some (-1) := by simpa using h
    have ih := zFld_set (ad := ad) (σ := σ) (n := n) (v := v) r (b + 1) k h'
    have hb : b + ((k + 1 : Nat) : Int) = b + 1 + (k : Int) := by omega
    rw [hb]
    unfold zFld
    rw [ih]
    have : zU σ n (b + 1 + k) v n b = σ n b := by unfold zU; rw [if_neg (fun hh => by omega)]
    rw [this]
    rfl
theorem zFld_get {ad : Nat → Nat} {σ : zM} {n : Nat} : ∀ (fs : List Int) (b : Int) (k : Nat) (d : Int), fs[k]? = some d → (zFld ad σ n b fs)[k]? = some (if d < 0 then Value.int (zI (σ n (b + k))) else Value.ref (ad d.toNat))
  | [], b, k, d, h => by simp at h
  | x :: r, b, 0, d, h => by
    have hd : x = d := by simpa using h
    subst hd
    have hb : b + ((0 : Nat) : Int) = b := by omega
    rw [hb]; rfl
  | x :: r, b, k + 1, d, h => by
    have h' : r[k]? = some d := by simpa using h
    have ih := zFld_get (ad := ad) (σ := σ) (n := n) r (b + 1) k d h'
    have hb : b + ((k + 1 : Nat) : Int) = b + 1 + (k : Int) := by omega
    rw [hb]
    unfold zFld
    rw [List.getElem?_cons_succ]
    exact ih
theorem zFld_len {ad : Nat → Nat} {σ : zM} {n : Nat} : ∀ (fs : List Int) (b : Int), (zFld ad σ n b fs).length = fs.length
  | [], _ => rfl
  | d :: r, b => by unfold zFld; rw [List.length_cons, List.length_cons, zFld_len r]
/-- which cells the system's methods may change: those of the world -/
def zAw (ad : Nat → Nat) : Nat → Prop := fun q => ∃ n, n < 79 ∧ ad n = q
theorem zShp_lt {n : Nat} {sh : zSh} (h : zShp[n]? = some sh) : n < 79 := (List.getElem?_eq_some_iff.mp h).1
theorem zWs_inv {ad : Nat → Nat} {ca : Nat → ClassId} {σ : zM} {n : Nat} {q : Nat × va_E} (h : (zWs ad ca σ)[n]? = some q) : n < 79 ∧ q.1 = ad n := by
  unfold zWs at h
  rw [List.getElem?_mapIdx] at h
  cases hs : zShp[n]? with
  | none => rw [hs] at h; cases h
  | some sh =>
    rw [hs] at h
    cases h
    exact ⟨zShp_lt hs, rfl⟩
theorem zD_to {A : Nat → Prop} {ad : Nat → Nat} {ca : Nat → ClassId} {σ σ' : zM} (h : va_D A (zWs ad ca σ)) : va_D A (zWs ad ca σ') := by
  have key : ∀ (n : Nat) (q : Nat × va_E), (zWs ad ca σ')[n]? = some q → ∃ q', (zWs ad ca σ)[n]? = some q' ∧ q'.1 = q.1 := by
    intro n q hq
    obtain ⟨h1, h2⟩ := zWs_inv hq
    have hl : n < zShp.length := h1
    exact ⟨_, zWs_get (List.getElem?_eq_getElem hl), h2.symm⟩
  refine ⟨fun i j p q hi hj e => ?_, fun k q hk => ?_⟩
  · obtain ⟨p', h1, h2⟩ := key i p hi
    obtain ⟨q', h3, h4⟩ := key j q hj
    exact h.1 i j p' q' h1 h3 (by rw [h2, h4, e])
  · obtain ⟨q', h1, h2⟩ := key k q hk
    rw [← h2]; exact h.2 k q' h1
theorem zD_aw {A : Nat → Prop} {ad : Nat → Nat} {ca : Nat → ClassId} {σ : zM} (h : va_D A (zWs ad ca σ)) : va_D (zAw ad) (zWs ad ca σ) :=
  ⟨h.1, fun k q hk => by obtain ⟨h1, h2⟩ := zWs_inv hk; exact ⟨k, h1, h2.symm⟩⟩
theorem zAw_in {A : Nat → Prop} {ad : Nat → Nat} {ca : Nat → ClassId} {σ : zM} (h : va_D A (zWs ad ca σ)) : ∀ q, zAw ad q → A q := by
  intro q ⟨n, hn, e⟩
  have hl : n < zShp.length := hn
  have := h.2 n _ (zWs_get (List.getElem?_eq_getElem hl))
  rw [← e]; exact this
/-! contexts: what a frame of a method stands in -/
abbrev zX : Type := Program × Launch × Env × Room × State × MethodId × Array Value × List Frame × Method × Code
/-- D, addresses, array classes, what may change, the heap at the start, cells and slots made -/
abbrev zG : Type := va_G × (Nat → Nat) × (Nat → ClassId) × (Nat → Prop) × Heap × Nat × Nat
abbrev xp (X : zX) : Program := X.1
abbrev xl (X : zX) : Launch := X.2.1
abbrev xe (X : zX) : Env := X.2.2.1
abbrev xR (X : zX) : Room := X.2.2.2.1
abbrev xs (X : zX) : State := X.2.2.2.2.1
abbrev xm (X : zX) : MethodId := X.2.2.2.2.2.1
abbrev xa (X : zX) : Array Value := X.2.2.2.2.2.2.1
abbrev xb (X : zX) : List Frame := X.2.2.2.2.2.2.2.1
abbrev xt (X : zX) : Method := X.2.2.2.2.2.2.2.2.1
abbrev xc (X : zX) : Code := X.2.2.2.2.2.2.2.2.2
abbrev gD (G : zG) : va_G := G.1
abbrev gad (G : zG) : Nat → Nat := G.2.1
abbrev gca (G : zG) : Nat → ClassId := G.2.2.1
abbrev gA (G : zG) : Nat → Prop := G.2.2.2.1
abbrev gH (G : zG) : Heap := G.2.2.2.2.1
abbrev gc (G : zG) : Nat := G.2.2.2.2.2.1
abbrev gs (G : zG) : Nat := G.2.2.2.2.2.2
abbrev zTy (ca : Nat → ClassId) : List (ClassId × FieldType) := [(ca 0, .int), (ca 1, .boolean), (ca 2, .char), (ca 3, .object R_S)]
/-- what a frame knows of the tables: the classes, the arrays' classes, the nest mates' links -/
def zK (D : va_G) (ca : Nat → ClassId) (U : State) : Prop := va_K D zCl (zTy ca) U ∧ ∀ q ∈ zNw, va_Nw (.methodLinkNest q.1 q.2.1 q.2.2.1 q.2.2.2) U
def zC (X : zX) (G : zG) (cc : ByteArray) (own : String) (nL : Nat) (ret : Option FieldType) (rF rL : Nat) : Prop :=
  (xp X).tables.exec = Jvm.exec ∧ (xc X).code = cc ∧ (xc X).maxLocals = nL ∧ (xs X).vm.findClass own = some (xm X).cls ∧ (∀ w ∈ zTb, w.before (xa X) (xs X) = true) ∧ (xt X).locks = false ∧ (xt X).sig.returnType = ret ∧ zK (gD G) (gca G) (xs X) ∧ gc G ≤ (xR X).cells ∧ gs G ≤ (xR X).slots ∧ gH G = (xs X).heap ∧ rF ≤ (xR X).frames ∧ rL ≤ (xR X).locals
def zJ (X : zX) (G : zG) (Q : State → Prop) (nL pc : Nat) (L : List (Nat × Value)) (st : List Value) (σ : zM) : Prop :=
  ∀ (H : Heap) (locs : List Loc) (ls : Array Slot), lv_has ls nL L → va_P (gD G) zCl (zWs (gad G) (gca G) σ) H → va_D (gA G) (zWs (gad G) (gca G) σ) → va_S (gA G) (gH G) H locs → W (xp X) (xl X) (xe X) (xR X) (xs X) (xm X) (xa X) (xb X) (xt X) (xc X) H locs (gc G) (gs G) Q (F0 (xm X) pc ls st)
section J1
variable {X : zX} {G : zG} {Q : State → Prop} {nL pc pc' : Nat} {L L' : List (Nat × Value)} {st : List Value} {σ : zM} {cc : ByteArray} {own : String} {ret : Option FieldType} {rF rL : Nat}
theorem j_sub (ks : List Nat) (hl : lv_pick L ks = L') (k : zJ X G Q nL pc L' st σ) : zJ X G Q nL pc L st σ := fun H locs ls hL hP hD hS => k H locs ls (lv_sub hL ks hl) hP hD hS
theorem j_eq {x y : Int} (e : x = y) (k : zJ X G Q nL pc L (.int (zI y) :: st) σ) : zJ X G Q nL pc L (.int (zI x) :: st) σ := by rw [e]; exact k
theorem j_name {x : Int} (k : ∀ y : Int, y = x → zJ X G Q nL pc L (.int (zI y) :: st) σ) : zJ X G Q nL pc L (.int (zI x) :: st) σ := k x rfl
theorem j_iconst (C : zC X G cc own nL ret rF rL) {n : Int} (d : zd cc pc pc' (.iconst n) 1) (k : zJ X G Q nL pc' L (.int (zI n) :: st) σ) : zJ X G Q nL pc L st σ := by
  obtain ⟨d, rfl⟩ := d
  exact fun H locs ls hL hP hD hS => lv_iconst C.1 C.2.1 d rfl (k H locs ls hL hP hD hS)
theorem zI_8 {n : Int} (h : (decide (-128 ≤ n) && decide (n < 128)) = true) : (Int8.ofInt n).toInt32 = zI n := by
  simp only [Bool.and_eq_true, decide_eq_true_eq] at h
  apply Int32.toInt_inj.mp
  rw [Int8.toInt_toInt32, Int8.toInt_ofInt_of_le (by omega) (by omega), zI_toInt ⟨by omega, by omega⟩]
theorem zI_16 {n : Int} (h : (decide (-32768 ≤ n) && decide (n < 32768)) = true) : (Int16.ofInt n).toInt32 = zI n := by
  simp only [Bool.and_eq_true, decide_eq_true_eq] at h
  apply Int32.toInt_inj.mp
  rw [Int16.toInt_toInt32, Int16.toInt_ofInt_of_le (by omega) (by omega), zI_toInt ⟨by omega, by omega⟩]
theorem j_bipush (C : zC X G cc own nL ret rF rL) {n : Int} (d : zd cc pc pc' (.bipush n) 2) (hn : (decide (-128 ≤ n) && decide (n < 128)) = true) (k : zJ X G Q nL pc' L (.int (zI n) :: st) σ) : zJ X G Q nL pc L st σ := by
  obtain ⟨d, rfl⟩ := d
  exact fun H locs ls hL hP hD hS => lv_bipush C.1 C.2.1 d (zI_8 hn) (k H locs ls hL hP hD hS)
theorem j_sipush (C : zC X G cc own nL ret rF rL) {n : Int} (d : zd cc pc pc' (.sipush n) 3) (hn : (decide (-32768 ≤ n) && decide (n < 32768)) = true) (k : zJ X G Q nL pc' L (.int (zI n) :: st) σ) : zJ X G Q nL pc L st σ := by
  obtain ⟨d, rfl⟩ := d
  exact fun H locs ls hL hP hD hS => lv_sipush C.1 C.2.1 d (zI_16 hn) (k H locs ls hL hP hD hS)
theorem j_ldc (C : zC X G cc own nL ret rF rL) {n : Int} {v : Int32} {index : Nat} (hw : Jvm.Cond.constant own index v ∈ zTb) (hv : zI n = v) (d : zd cc pc pc' (.ldc index) 2) (k : zJ X G Q nL pc' L (.int (zI n) :: st) σ) : zJ X G Q nL pc L st σ := by
  obtain ⟨d, rfl⟩ := d
  subst hv
  exact fun H locs ls hL hP hD hS => lv_ldc C.1 C.2.1 C.2.2.2.1 (C.2.2.2.2.1 _ hw) d (k H locs ls hL hP hD hS)
theorem j_ldcw (C : zC X G cc own nL ret rF rL) {n : Int} {v : Int32} {index : Nat} (hw : Jvm.Cond.constant own index v ∈ zTb) (hv : zI n = v) (d : zd cc pc pc' (.ldc_w index) 3) (k : zJ X G Q nL pc' L (.int (zI n) :: st) σ) : zJ X G Q nL pc L st σ := by
  obtain ⟨d, rfl⟩ := d
  subst hv
  exact fun H locs ls hL hP hD hS => lv_ldcw C.1 C.2.1 C.2.2.2.1 (C.2.2.2.2.1 _ hw) d (k H locs ls hL hP hD hS)
theorem j_ldc2 (C : zC X G cc own nL ret rF rL) {v : Int64} {index : Nat} (hw : Jvm.Cond.constantLong own index v ∈ zTb) (d : zd cc pc pc' (.ldc2_w index) 3) (k : zJ X G Q nL pc' L (.long v :: st) σ) : zJ X G Q nL pc L st σ := by
  obtain ⟨d, rfl⟩ := d
  exact fun H locs ls hL hP hD hS => lv_ldc2 C.1 C.2.1 C.2.2.2.1 (C.2.2.2.2.1 _ hw) d (k H locs ls hL hP hD hS)
theorem j_lconst (C : zC X G cc own nL ret rF rL) {n : Fin 2} {v : Int64} (d : zd cc pc pc' (.lconst n) 1) (hv : Int64.ofNat (n : Nat) = v) (k : zJ X G Q nL pc' L (.long v :: st) σ) : zJ X G Q nL pc L st σ := by
  obtain ⟨d, rfl⟩ := d
  exact fun H locs ls hL hP hD hS => lv_lconst C.1 C.2.1 d hv (k H locs ls hL hP hD hS)
theorem j_iload_n (C : zC X G cc own nL ret rF rL) {k : Fin 4} {i : Nat} {x : Int} (d : zd cc pc pc' (.iload_n k) 1) (a : Nat) (ha : L[a]? = some (i, .int (zI x))) (hi : (k : Nat) = i) (kk : zJ X G Q nL pc' L (.int (zI x) :: st) σ) : zJ X G Q nL pc L st σ := by
  obtain ⟨d, rfl⟩ := d
  exact fun H locs ls hL hP hD hS => lv_iload_n C.1 C.2.1 d hi (lv_at hL a ha) (kk H locs ls hL hP hD hS)
theorem j_iload (C : zC X G cc own nL ret rF rL) {i : Nat} {x : Int} (d : zd cc pc pc' (.iload i) 2) (a : Nat) (ha : L[a]? = some (i, .int (zI x))) (kk : zJ X G Q nL pc' L (.int (zI x) :: st) σ) : zJ X G Q nL pc L st σ := by
  obtain ⟨d, rfl⟩ := d
  exact fun H locs ls hL hP hD hS => lv_iload C.1 C.2.1 d (lv_at hL a ha) (kk H locs ls hL hP hD hS)
theorem j_lload_n (C : zC X G cc own nL ret rF rL) {k : Fin 4} {i : Nat} {x : Int64} (d : zd cc pc pc' (.lload_n k) 1) (a : Nat) (ha : L[a]? = some (i, .long x)) (hi : (k : Nat) = i) (kk : zJ X G Q nL pc' L (.long x :: st) σ) : zJ X G Q nL pc L st σ := by
  obtain ⟨d, rfl⟩ := d
  exact fun H locs ls hL hP hD hS => lv_lload_n C.1 C.2.1 d hi (lv_at hL a ha) (kk H locs ls hL hP hD hS)
theorem j_lload (C : zC X G cc own nL ret rF rL) {i : Nat} {x : Int64} (d : zd cc pc pc' (.lload i) 2) (a : Nat) (ha : L[a]? = some (i, .long x)) (kk : zJ X G Q nL pc' L (.long x :: st) σ) : zJ X G Q nL pc L st σ := by
  obtain ⟨d, rfl⟩ := d
  exact fun H locs ls hL hP hD hS => lv_lload C.1 C.2.1 d (lv_at hL a ha) (kk H locs ls hL hP hD hS)
theorem j_aload_n (C : zC X G cc own nL ret rF rL) {k : Fin 4} {i x : Nat} (d : zd cc pc pc' (.aload_n k) 1) (a : Nat) (ha : L[a]? = some (i, .ref x)) (hi : (k : Nat) = i) (kk : zJ X G Q nL pc' L (.ref x :: st) σ) : zJ X G Q nL pc L st σ := by
  obtain ⟨d, rfl⟩ := d
  exact fun H locs ls hL hP hD hS => lv_aload_n C.1 C.2.1 d hi (lv_at hL a ha) (kk H locs ls hL hP hD hS)
theorem j_aload (C : zC X G cc own nL ret rF rL) {i x : Nat} (d : zd cc pc pc' (.aload i) 2) (a : Nat) (ha : L[a]? = some (i, .ref x)) (kk : zJ X G Q nL pc' L (.ref x :: st) σ) : zJ X G Q nL pc L st σ := by
  obtain ⟨d, rfl⟩ := d
  exact fun H locs ls hL hP hD hS => lv_aload C.1 C.2.1 d (lv_at hL a ha) (kk H locs ls hL hP hD hS)
theorem j_istore_n (C : zC X G cc own nL ret rF rL) {k : Fin 4} {i : Nat} {x : Int} (d : zd cc pc pc' (.istore_n k) 1) (hi : (k : Nat) = i) (hn : Nat.ble (i + 1) nL = true) (hl : (i, Value.int (zI x)) :: L.filter (fun q => !(q.1 == i) && !(q.1 + 1 == i && q.2.category == 2)) = L') (kk : zJ X G Q nL pc' L' st σ) : zJ X G Q nL pc L (.int (zI x) :: st) σ := by
  obtain ⟨d, rfl⟩ := d
  exact fun H locs ls hL hP hD hS => lv_istore_n C.1 C.2.1 d hi hL (Nat.le_of_ble_eq_true hn) hl (fun ls' hL' => kk H locs ls' hL' hP hD hS)
theorem j_istore (C : zC X G cc own nL ret rF rL) {i : Nat} {x : Int} (d : zd cc pc pc' (.istore i) 2) (hn : Nat.ble (i + 1) nL = true) (hl : (i, Value.int (zI x)) :: L.filter (fun q => !(q.1 == i) && !(q.1 + 1 == i && q.2.category == 2)) = L') (kk : zJ X G Q nL pc' L' st σ) : zJ X G Q nL pc L (.int (zI x) :: st) σ := by
  obtain ⟨d, rfl⟩ := d
  exact fun H locs ls hL hP hD hS => lv_istore C.1 C.2.1 d hL (Nat.le_of_ble_eq_true hn) hl (fun ls' hL' => kk H locs ls' hL' hP hD hS)
theorem j_astore_n (C : zC X G cc own nL ret rF rL) {k : Fin 4} {i x : Nat} (d : zd cc pc pc' (.astore_n k) 1) (hi : (k : Nat) = i) (hn : Nat.ble (i + 1) nL = true) (hl : (i, Value.ref x) :: L.filter (fun q => !(q.1 == i) && !(q.1 + 1 == i && q.2.category == 2)) = L') (kk : zJ X G Q nL pc' L' st σ) : zJ X G Q nL pc L (.ref x :: st) σ := by
  obtain ⟨d, rfl⟩ := d
  exact fun H locs ls hL hP hD hS => lv_astore_n C.1 C.2.1 d hi hL (Nat.le_of_ble_eq_true hn) hl (fun ls' hL' => kk H locs ls' hL' hP hD hS)
theorem j_lstore_n (C : zC X G cc own nL ret rF rL) {k : Fin 4} {i : Nat} {x : Int64} (d : zd cc pc pc' (.lstore_n k) 1) (hi : (k : Nat) = i) (hn : Nat.ble (i + 2) nL = true) (hl : (i, Value.long x) :: L.filter (fun q => !(q.1 == i) && (!(q.1 == i + 1) && !(q.1 + 1 == i && q.2.category == 2))) = L') (kk : zJ X G Q nL pc' L' st σ) : zJ X G Q nL pc L (.long x :: st) σ := by
  obtain ⟨d, rfl⟩ := d
  exact fun H locs ls hL hP hD hS => lv_lstore_n C.1 C.2.1 d hi hL (Nat.le_of_ble_eq_true hn) hl (fun ls' hL' => kk H locs ls' hL' hP hD hS)
theorem j_lstore (C : zC X G cc own nL ret rF rL) {i : Nat} {x : Int64} (d : zd cc pc pc' (.lstore i) 2) (hn : Nat.ble (i + 2) nL = true) (hl : (i, Value.long x) :: L.filter (fun q => !(q.1 == i) && (!(q.1 == i + 1) && !(q.1 + 1 == i && q.2.category == 2))) = L') (kk : zJ X G Q nL pc' L' st σ) : zJ X G Q nL pc L (.long x :: st) σ := by
  obtain ⟨d, rfl⟩ := d
  exact fun H locs ls hL hP hD hS => lv_lstore C.1 C.2.1 d hL (Nat.le_of_ble_eq_true hn) hl (fun ls' hL' => kk H locs ls' hL' hP hD hS)
theorem j_iinc (C : zC X G cc own nL ret rF rL) {i : Nat} {n x : Int} (d : zd cc pc pc' (.iinc i n) 3) (a : Nat) (ha : L[a]? = some (i, .int (zI x))) (hn : Nat.ble (i + 1) nL = true) (hl : (i, Value.int (zI (x + n))) :: L.filter (fun q => !(q.1 == i) && !(q.1 + 1 == i && q.2.category == 2)) = L') (kk : zJ X G Q nL pc' L' st σ) : zJ X G Q nL pc L st σ := by
  obtain ⟨d, rfl⟩ := d
  exact fun H locs ls hL hP hD hS => lv_iinc C.1 C.2.1 d hL ha (by show zI x + Int32.ofInt n = zI (x + n); exact (Int32.ofInt_add x n).symm) (Nat.le_of_ble_eq_true hn) hl (fun ls' hL' => kk H locs ls' hL' hP hD hS)
theorem j_iincW (C : zC X G cc own nL ret rF rL) {i : Nat} {n x : Int} (d : zd cc pc pc' (.iinc i n) 6) (a : Nat) (ha : L[a]? = some (i, .int (zI x))) (hn : Nat.ble (i + 1) nL = true) (hl : (i, Value.int (zI (x + n))) :: L.filter (fun q => !(q.1 == i) && !(q.1 + 1 == i && q.2.category == 2)) = L') (kk : zJ X G Q nL pc' L' st σ) : zJ X G Q nL pc L st σ := by
  obtain ⟨d, rfl⟩ := d
  exact fun H locs ls hL hP hD hS => lv_iincW C.1 C.2.1 d hL ha (by show zI x + Int32.ofInt n = zI (x + n); exact (Int32.ofInt_add x n).symm) (Nat.le_of_ble_eq_true hn) hl (fun ls' hL' => kk H locs ls' hL' hP hD hS)
theorem j_iadd (C : zC X G cc own nL ret rF rL) {x y : Int} (d : zd cc pc pc' .iadd 1) (k : zJ X G Q nL pc' L (.int (zI (x + y)) :: st) σ) : zJ X G Q nL pc L (.int (zI y) :: .int (zI x) :: st) σ := by
  obtain ⟨d, rfl⟩ := d
  exact fun H locs ls hL hP hD hS => lv_iadd C.1 C.2.1 d (by have := k H locs ls hL hP hD hS; rwa [show zI (x + y) = zI x + zI y from Int32.ofInt_add x y] at this)
theorem j_isub (C : zC X G cc own nL ret rF rL) {x y : Int} (d : zd cc pc pc' .isub 1) (k : zJ X G Q nL pc' L (.int (zI (x - y)) :: st) σ) : zJ X G Q nL pc L (.int (zI y) :: .int (zI x) :: st) σ := by
  obtain ⟨d, rfl⟩ := d
  exact fun H locs ls hL hP hD hS => lv_isub C.1 C.2.1 d (by have := k H locs ls hL hP hD hS; rwa [show zI (x - y) = zI x - zI y from Int32.ofInt_sub x y] at this)
theorem j_imul (C : zC X G cc own nL ret rF rL) {x y : Int} (d : zd cc pc pc' .imul 1) (k : zJ X G Q nL pc' L (.int (zI (x * y)) :: st) σ) : zJ X G Q nL pc L (.int (zI y) :: .int (zI x) :: st) σ := by
  obtain ⟨d, rfl⟩ := d
  exact fun H locs ls hL hP hD hS => lv_imul C.1 C.2.1 d (by have := k H locs ls hL hP hD hS; rwa [show zI (x * y) = zI x * zI y from Int32.ofInt_mul x y] at this)
theorem j_ineg (C : zC X G cc own nL ret rF rL) {x : Int} (d : zd cc pc pc' .ineg 1) (k : zJ X G Q nL pc' L (.int (zI (-x)) :: st) σ) : zJ X G Q nL pc L (.int (zI x) :: st) σ := by
  obtain ⟨d, rfl⟩ := d
  exact fun H locs ls hL hP hD hS => lv_ineg C.1 C.2.1 d (by have := k H locs ls hL hP hD hS; rwa [show zI (-x) = - zI x from Int32.ofInt_neg x] at this)
theorem zI_div {x y : Int} (hx : zR x) (h0 : 0 ≤ x) (hy : zR y) (hy0 : 0 < y) : zI x / zI y = zI (x / y) := by
  have h1 : x / y ≤ x := Int.ediv_le_self y h0
  have h2 : 0 ≤ x / y := Int.ediv_nonneg h0 (by omega)
  have h3 := hx.2
  apply Int32.toInt_inj.mp
  rw [Int32.toInt_div_of_ne_right _ _ (by intro h; have := congrArg Int32.toInt h; rw [zI_toInt hy] at this; have e : (-1 : Int32).toInt = -1 := rfl; omega), zI_toInt hx, zI_toInt hy, zI_toInt ⟨by omega, by omega⟩]
  exact Int.tdiv_eq_ediv_of_nonneg h0
theorem zI_ne0 {y : Int} (hy : zR y) (hy0 : 0 < y) : ¬ zI y = 0 := by
  rw [zI_0, zI_eq hy zR_0]; omega
theorem j_idiv (C : zC X G cc own nL ret rF rL) {x y : Int} (d : zd cc pc pc' .idiv 1) (hx : zR x) (h0 : 0 ≤ x) (hy : zR y) (hy0 : 0 < y) (k : zJ X G Q nL pc' L (.int (zI (x / y)) :: st) σ) : zJ X G Q nL pc L (.int (zI y) :: .int (zI x) :: st) σ := by
  obtain ⟨d, rfl⟩ := d
  exact fun H locs ls hL hP hD hS => lv_idiv C.1 C.2.1 d (zI_ne0 hy hy0) (by have := k H locs ls hL hP hD hS; rwa [← zI_div hx h0 hy hy0] at this)
theorem j_irem (C : zC X G cc own nL ret rF rL) {x y : Int} (d : zd cc pc pc' .irem 1) (hx : zR x) (h0 : 0 ≤ x) (hy : zR y) (hy0 : 0 < y) (k : zJ X G Q nL pc' L (.int (zI (x % y)) :: st) σ) : zJ X G Q nL pc L (.int (zI y) :: .int (zI x) :: st) σ := by
  obtain ⟨d, rfl⟩ := d
  refine fun H locs ls hL hP hD hS => lv_irem C.1 C.2.1 d (zI_ne0 hy hy0) ?_
  have e : zI x - zI x / zI y * zI y = zI (x % y) := by
    rw [zI_div hx h0 hy hy0]
    show Int32.ofInt x - Int32.ofInt (x / y) * Int32.ofInt y = Int32.ofInt (x % y)
    rw [← Int32.ofInt_mul, ← Int32.ofInt_sub]
    congr 1
    have := Int.mul_ediv_add_emod x y
    rw [Int.mul_comm] at this
    omega
  rw [e]
  exact k H locs ls hL hP hD hS
theorem j_iand (C : zC X G cc own nL ret rF rL) {x y : Int} (d : zd cc pc pc' .iand 1) (k : zJ X G Q nL pc' L (.int (zI (zAnd x y)) :: st) σ) : zJ X G Q nL pc L (.int (zI y) :: .int (zI x) :: st) σ := by
  obtain ⟨d, rfl⟩ := d
  exact fun H locs ls hL hP hD hS => lv_iand C.1 C.2.1 d (by have := k H locs ls hL hP hD hS; rwa [show zI (zAnd x y) = zI x &&& zI y from zI_of _] at this)
theorem j_ior (C : zC X G cc own nL ret rF rL) {x y : Int} (d : zd cc pc pc' .ior 1) (k : zJ X G Q nL pc' L (.int (zI (zOr x y)) :: st) σ) : zJ X G Q nL pc L (.int (zI y) :: .int (zI x) :: st) σ := by
  obtain ⟨d, rfl⟩ := d
  exact fun H locs ls hL hP hD hS => lv_ior C.1 C.2.1 d (by have := k H locs ls hL hP hD hS; rwa [show zI (zOr x y) = zI x ||| zI y from zI_of _] at this)
theorem j_ixor (C : zC X G cc own nL ret rF rL) {x y : Int} (d : zd cc pc pc' .ixor 1) (k : zJ X G Q nL pc' L (.int (zI (zXor x y)) :: st) σ) : zJ X G Q nL pc L (.int (zI y) :: .int (zI x) :: st) σ := by
  obtain ⟨d, rfl⟩ := d
  exact fun H locs ls hL hP hD hS => lv_ixor C.1 C.2.1 d (by have := k H locs ls hL hP hD hS; rwa [show zI (zXor x y) = zI x ^^^ zI y from zI_of _] at this)
theorem j_ishl (C : zC X G cc own nL ret rF rL) {x y : Int} (d : zd cc pc pc' .ishl 1) (k : zJ X G Q nL pc' L (.int (zI (zShl x y)) :: st) σ) : zJ X G Q nL pc L (.int (zI y) :: .int (zI x) :: st) σ := by
  obtain ⟨d, rfl⟩ := d
  exact fun H locs ls hL hP hD hS => lv_ishl C.1 C.2.1 d (by have := k H locs ls hL hP hD hS; rwa [show zI (zShl x y) = zI x <<< (zI y &&& 31) from zI_of _] at this)
theorem j_ishr (C : zC X G cc own nL ret rF rL) {x y : Int} (d : zd cc pc pc' .ishr 1) (k : zJ X G Q nL pc' L (.int (zI (zShr x y)) :: st) σ) : zJ X G Q nL pc L (.int (zI y) :: .int (zI x) :: st) σ := by
  obtain ⟨d, rfl⟩ := d
  exact fun H locs ls hL hP hD hS => lv_ishr C.1 C.2.1 d (by have := k H locs ls hL hP hD hS; rwa [show zI (zShr x y) = zI x >>> (zI y &&& 31) from zI_of _] at this)
theorem j_iushr (C : zC X G cc own nL ret rF rL) {x y : Int} (d : zd cc pc pc' .iushr 1) (k : zJ X G Q nL pc' L (.int (zI (zUshr x y)) :: st) σ) : zJ X G Q nL pc L (.int (zI y) :: .int (zI x) :: st) σ := by
  obtain ⟨d, rfl⟩ := d
  exact fun H locs ls hL hP hD hS => lv_iushr C.1 C.2.1 d (show _ = zI (zUshr x y) from (zI_of _).symm) (k H locs ls hL hP hD hS)
/-! longs -/
def zLand (x y : Int64) : Int64 := x &&& y
def zLor (x y : Int64) : Int64 := x ||| y
def zLushr (x : Int64) (y : Int) : Int64 := (x.toUInt64 >>> ((zI y).toInt64.toUInt64 &&& Int64.toUInt64 63)).toInt64
def zLshr (x : Int64) (y : Int) : Int64 := x >>> ((zI y).toInt64 &&& 63)
def zLshl (x : Int64) (y : Int) : Int64 := x <<< ((zI y).toInt64 &&& 63)
def zL2i (x : Int64) : Int := x.toInt32.toInt
def zI2l (x : Int) : Int64 := (zI x).toInt64
def zLcmp (x y : Int64) : Int := (lg_cmp x y).toInt
theorem zL2i_rg (x : Int64) : zR (zL2i x) := zI_rg _
theorem zLcmp_rg (x y : Int64) : zR (zLcmp x y) := zI_rg _
theorem j_land (C : zC X G cc own nL ret rF rL) {x y : Int64} (d : zd cc pc pc' .land 1) (k : zJ X G Q nL pc' L (.long (zLand x y) :: st) σ) : zJ X G Q nL pc L (.long y :: .long x :: st) σ := by
  obtain ⟨d, rfl⟩ := d
  exact fun H locs ls hL hP hD hS => lv_land C.1 C.2.1 d (k H locs ls hL hP hD hS)
theorem j_lor (C : zC X G cc own nL ret rF rL) {x y : Int64} (d : zd cc pc pc' .lor 1) (k : zJ X G Q nL pc' L (.long (zLor x y) :: st) σ) : zJ X G Q nL pc L (.long y :: .long x :: st) σ := by
  obtain ⟨d, rfl⟩ := d
  exact fun H locs ls hL hP hD hS => lv_lor C.1 C.2.1 d (k H locs ls hL hP hD hS)
theorem j_lushr (C : zC X G cc own nL ret rF rL) {x : Int64} {y : Int} (d : zd cc pc pc' .lushr 1) (k : zJ X G Q nL pc' L (.long (zLushr x y) :: st) σ) : zJ X G Q nL pc L (.int (zI y) :: .long x :: st) σ := by
  obtain ⟨d, rfl⟩ := d
  exact fun H locs ls hL hP hD hS => lv_lushr C.1 C.2.1 d rfl (k H locs ls hL hP hD hS)
theorem j_lshr (C : zC X G cc own nL ret rF rL) {x : Int64} {y : Int} (d : zd cc pc pc' .lshr 1) (k : zJ X G Q nL pc' L (.long (zLshr x y) :: st) σ) : zJ X G Q nL pc L (.int (zI y) :: .long x :: st) σ := by
  obtain ⟨d, rfl⟩ := d
  exact fun H locs ls hL hP hD hS => lv_lshr C.1 C.2.1 d rfl (k H locs ls hL hP hD hS)
theorem j_lshl (C : zC X G cc own nL ret rF rL) {x : Int64} {y : Int} (d : zd cc pc pc' .lshl 1) (k : zJ X G Q nL pc' L (.long (zLshl x y) :: st) σ) : zJ X G Q nL pc L (.int (zI y) :: .long x :: st) σ := by
  obtain ⟨d, rfl⟩ := d
  exact fun H locs ls hL hP hD hS => lv_lshl C.1 C.2.1 d rfl (k H locs ls hL hP hD hS)
theorem j_l2i (C : zC X G cc own nL ret rF rL) {x : Int64} (d : zd cc pc pc' .l2i 1) (k : zJ X G Q nL pc' L (.int (zI (zL2i x)) :: st) σ) : zJ X G Q nL pc L (.long x :: st) σ := by
  obtain ⟨d, rfl⟩ := d
  exact fun H locs ls hL hP hD hS => lv_l2i C.1 C.2.1 d (show _ = zI (zL2i x) from (zI_of _).symm) (k H locs ls hL hP hD hS)
theorem j_i2l (C : zC X G cc own nL ret rF rL) {x : Int} (d : zd cc pc pc' .i2l 1) (k : zJ X G Q nL pc' L (.long (zI2l x) :: st) σ) : zJ X G Q nL pc L (.int (zI x) :: st) σ := by
  obtain ⟨d, rfl⟩ := d
  exact fun H locs ls hL hP hD hS => lv_i2l C.1 C.2.1 d rfl (k H locs ls hL hP hD hS)
theorem j_lcmp (C : zC X G cc own nL ret rF rL) {x y : Int64} (d : zd cc pc pc' .lcmp 1) (k : zJ X G Q nL pc' L (.int (zI (zLcmp x y)) :: st) σ) : zJ X G Q nL pc L (.long y :: .long x :: st) σ := by
  obtain ⟨d, rfl⟩ := d
  exact fun H locs ls hL hP hD hS => W.lcmp C.1 C.2.1 d (by have := k H locs ls hL hP hD hS; rwa [show zI (zLcmp x y) = lg_cmp x y from zI_of _] at this)
theorem j_i2c (C : zC X G cc own nL ret rF rL) {x : Int} (d : zd cc pc pc' .i2c 1) (h0 : 0 ≤ x) (h1 : x < 65536) (k : zJ X G Q nL pc' L (.int (zI x) :: st) σ) : zJ X G Q nL pc L (.int (zI x) :: st) σ := by
  obtain ⟨d, rfl⟩ := d
  have e : ((zI x).toUInt32 % 65536).toInt32 = zI x := by
    obtain ⟨n, rfl⟩ := Int.eq_ofNat_of_zero_le h0
    have hn : zI (n : Int) = nI n := Int32.ofInt_eq_ofNat
    rw [hn, pk_char, pk_tn (by omega), Nat.mod_eq_of_lt (by omega)]
  exact fun H locs ls hL hP hD hS => lv_i2c C.1 C.2.1 d e (k H locs ls hL hP hD hS)
end J1
end
section
/-! branches, returns, arrays, fields, calls -/
theorem zGoodIn {y : MethodName} {bytes : ByteArray} {maxL : Nat} {ret : Option FieldType} (h : Cond.code y bytes maxL ret ∈ zTb) : GoodIn zTb (Cond.code y bytes maxL ret :: zTb) := by
  intro w hw
  have hw' : w ∈ zTb := by
    rcases List.mem_cons.mp hw with rfl | h2
    · exact h
    · exact h2
  exact ⟨hw', good_of_word (List.mem_filter.mp hw').2⟩
theorem zLen {n t len : Nat} (h : zShp[n]? = some (.inl (t, len))) : len ≤ 100000 := by
  have key : zShp.all (fun sh => match sh with | .inl (_, len) => Nat.ble len 100000 | .inr _ => true) = true := by decide +kernel
  have := List.all_eq_true.mp key _ (List.mem_of_getElem? h)
  exact Nat.le_of_ble_eq_true this
section J2
variable {X : zX} {G : zG} {Q : State → Prop} {nL pc pc' : Nat} {L L' : List (Nat × Value)} {st stk : List Value} {σ : zM} {cc : ByteArray} {own : String} {ret : Option FieldType} {rF rL : Nat}
theorem j_dup (C : zC X G cc own nL ret rF rL) {v : Value} (d : zd cc pc pc' .dup 1) (hv : v.category = 1) (k : zJ X G Q nL pc' L (v :: v :: st) σ) : zJ X G Q nL pc L (v :: st) σ := by
  obtain ⟨d, rfl⟩ := d
  exact fun H locs ls hL hP hD hS => lv_dup C.1 C.2.1 d hv (k H locs ls hL hP hD hS)
theorem j_pop (C : zC X G cc own nL ret rF rL) {v : Value} (d : zd cc pc pc' .pop 1) (hv : v.category = 1) (k : zJ X G Q nL pc' L st σ) : zJ X G Q nL pc L (v :: st) σ := by
  obtain ⟨d, rfl⟩ := d
  exact fun H locs ls hL hP hD hS => lv_pop C.1 C.2.1 d hv (k H locs ls hL hP hD hS)
theorem j_dup2 (C : zC X G cc own nL ret rF rL) {v w : Value} (d : zd cc pc pc' .dup2 1) (hv : v.category = 1) (hw : w.category = 1) (k : zJ X G Q nL pc' L (v :: w :: v :: w :: st) σ) : zJ X G Q nL pc L (v :: w :: st) σ := by
  obtain ⟨d, rfl⟩ := d
  exact fun H locs ls hL hP hD hS => lv_dup2_11 C.1 C.2.1 d hv hw (k H locs ls hL hP hD hS)
theorem j_goto (C : zC X G cc own nL ret rF rL) {off : Int} {tgt : Nat} (d : zd cc pc pc' (.goto off) 3) (ht : (pc : Int) + off = (tgt : Int)) (k : zJ X G Q nL tgt L st σ) : zJ X G Q nL pc L st σ := by
  obtain ⟨d, rfl⟩ := d
  exact fun H locs ls hL hP hD hS => lv_goto C.1 C.2.1 d ht (k H locs ls hL hP hD hS)
theorem j_icmp_eq (C : zC X G cc own nL ret rF rL) {x y : Int} {off : Int} {tgt : Nat} (d : zd cc pc pc' (.if_icmp .eq off) 3) (ht : (pc : Int) + off = (tgt : Int)) (hx : zR x) (hy : zR y) (kt : x = y → zJ X G Q nL tgt L st σ) (kf : ¬ x = y → zJ X G Q nL pc' L st σ) : zJ X G Q nL pc L (.int (zI y) :: .int (zI x) :: st) σ := by
  obtain ⟨d, rfl⟩ := d
  exact fun H locs ls hL hP hD hS => lv_icmp_eq C.1 C.2.1 d ht (fun h => kt ((zI_eq hx hy).mp h) H locs ls hL hP hD hS) (fun h => kf (fun e => h ((zI_eq hx hy).mpr e)) H locs ls hL hP hD hS)
theorem j_icmp_ne (C : zC X G cc own nL ret rF rL) {x y : Int} {off : Int} {tgt : Nat} (d : zd cc pc pc' (.if_icmp .ne off) 3) (ht : (pc : Int) + off = (tgt : Int)) (hx : zR x) (hy : zR y) (kt : ¬ x = y → zJ X G Q nL tgt L st σ) (kf : x = y → zJ X G Q nL pc' L st σ) : zJ X G Q nL pc L (.int (zI y) :: .int (zI x) :: st) σ := by
  obtain ⟨d, rfl⟩ := d
  exact fun H locs ls hL hP hD hS => lv_icmp_ne C.1 C.2.1 d ht (fun h => kt (fun e => h ((zI_eq hx hy).mpr e)) H locs ls hL hP hD hS) (fun h => kf ((zI_eq hx hy).mp h) H locs ls hL hP hD hS)
theorem j_icmp_lt (C : zC X G cc own nL ret rF rL) {x y : Int} {off : Int} {tgt : Nat} (d : zd cc pc pc' (.if_icmp .lt off) 3) (ht : (pc : Int) + off = (tgt : Int)) (hx : zR x) (hy : zR y) (kt : x < y → zJ X G Q nL tgt L st σ) (kf : ¬ x < y → zJ X G Q nL pc' L st σ) : zJ X G Q nL pc L (.int (zI y) :: .int (zI x) :: st) σ := by
  obtain ⟨d, rfl⟩ := d
  exact fun H locs ls hL hP hD hS => lv_icmp_lt C.1 C.2.1 d ht (fun h => kt ((zI_lt hx hy).mp h) H locs ls hL hP hD hS) (fun h => kf (fun e => h ((zI_lt hx hy).mpr e)) H locs ls hL hP hD hS)
theorem j_icmp_ge (C : zC X G cc own nL ret rF rL) {x y : Int} {off : Int} {tgt : Nat} (d : zd cc pc pc' (.if_icmp .ge off) 3) (ht : (pc : Int) + off = (tgt : Int)) (hx : zR x) (hy : zR y) (kt : y ≤ x → zJ X G Q nL tgt L st σ) (kf : ¬ y ≤ x → zJ X G Q nL pc' L st σ) : zJ X G Q nL pc L (.int (zI y) :: .int (zI x) :: st) σ := by
  obtain ⟨d, rfl⟩ := d
  exact fun H locs ls hL hP hD hS => lv_icmp_ge C.1 C.2.1 d ht (fun h => kt ((zI_le hy hx).mp h) H locs ls hL hP hD hS) (fun h => kf (fun e => h ((zI_le hy hx).mpr e)) H locs ls hL hP hD hS)
theorem j_icmp_gt (C : zC X G cc own nL ret rF rL) {x y : Int} {off : Int} {tgt : Nat} (d : zd cc pc pc' (.if_icmp .gt off) 3) (ht : (pc : Int) + off = (tgt : Int)) (hx : zR x) (hy : zR y) (kt : y < x → zJ X G Q nL tgt L st σ) (kf : ¬ y < x → zJ X G Q nL pc' L st σ) : zJ X G Q nL pc L (.int (zI y) :: .int (zI x) :: st) σ := by
  obtain ⟨d, rfl⟩ := d
  exact fun H locs ls hL hP hD hS => lv_icmp_gt C.1 C.2.1 d ht (fun h => kt ((zI_lt hy hx).mp h) H locs ls hL hP hD hS) (fun h => kf (fun e => h ((zI_lt hy hx).mpr e)) H locs ls hL hP hD hS)
theorem j_icmp_le (C : zC X G cc own nL ret rF rL) {x y : Int} {off : Int} {tgt : Nat} (d : zd cc pc pc' (.if_icmp .le off) 3) (ht : (pc : Int) + off = (tgt : Int)) (hx : zR x) (hy : zR y) (kt : x ≤ y → zJ X G Q nL tgt L st σ) (kf : ¬ x ≤ y → zJ X G Q nL pc' L st σ) : zJ X G Q nL pc L (.int (zI y) :: .int (zI x) :: st) σ := by
  obtain ⟨d, rfl⟩ := d
  exact fun H locs ls hL hP hD hS => lv_icmp_le C.1 C.2.1 d ht (fun h => kt ((zI_le hx hy).mp h) H locs ls hL hP hD hS) (fun h => kf (fun e => h ((zI_le hx hy).mpr e)) H locs ls hL hP hD hS)
theorem j_if_eq (C : zC X G cc own nL ret rF rL) {x : Int} {off : Int} {tgt : Nat} (d : zd cc pc pc' (.ifCond .eq off) 3) (ht : (pc : Int) + off = (tgt : Int)) (hx : zR x) (kt : x = 0 → zJ X G Q nL tgt L st σ) (kf : ¬ x = 0 → zJ X G Q nL pc' L st σ) : zJ X G Q nL pc L (.int (zI x) :: st) σ := by
  obtain ⟨d, rfl⟩ := d
  exact fun H locs ls hL hP hD hS => lv_if_eq C.1 C.2.1 d ht (fun h => kt ((zI_eq hx zR_0).mp h) H locs ls hL hP hD hS) (fun h => kf (fun e => h ((zI_eq hx zR_0).mpr e)) H locs ls hL hP hD hS)
theorem j_if_ne (C : zC X G cc own nL ret rF rL) {x : Int} {off : Int} {tgt : Nat} (d : zd cc pc pc' (.ifCond .ne off) 3) (ht : (pc : Int) + off = (tgt : Int)) (hx : zR x) (kt : ¬ x = 0 → zJ X G Q nL tgt L st σ) (kf : x = 0 → zJ X G Q nL pc' L st σ) : zJ X G Q nL pc L (.int (zI x) :: st) σ := by
  obtain ⟨d, rfl⟩ := d
  exact fun H locs ls hL hP hD hS => lv_if_ne C.1 C.2.1 d ht (fun h => kt (fun e => h ((zI_eq hx zR_0).mpr e)) H locs ls hL hP hD hS) (fun h => kf ((zI_eq hx zR_0).mp h) H locs ls hL hP hD hS)
theorem j_if_lt (C : zC X G cc own nL ret rF rL) {x : Int} {off : Int} {tgt : Nat} (d : zd cc pc pc' (.ifCond .lt off) 3) (ht : (pc : Int) + off = (tgt : Int)) (hx : zR x) (kt : x < 0 → zJ X G Q nL tgt L st σ) (kf : ¬ x < 0 → zJ X G Q nL pc' L st σ) : zJ X G Q nL pc L (.int (zI x) :: st) σ := by
  obtain ⟨d, rfl⟩ := d
  exact fun H locs ls hL hP hD hS => lv_if_lt C.1 C.2.1 d ht (fun h => kt ((zI_lt hx zR_0).mp h) H locs ls hL hP hD hS) (fun h => kf (fun e => h ((zI_lt hx zR_0).mpr e)) H locs ls hL hP hD hS)
theorem j_if_ge (C : zC X G cc own nL ret rF rL) {x : Int} {off : Int} {tgt : Nat} (d : zd cc pc pc' (.ifCond .ge off) 3) (ht : (pc : Int) + off = (tgt : Int)) (hx : zR x) (kt : 0 ≤ x → zJ X G Q nL tgt L st σ) (kf : ¬ 0 ≤ x → zJ X G Q nL pc' L st σ) : zJ X G Q nL pc L (.int (zI x) :: st) σ := by
  obtain ⟨d, rfl⟩ := d
  exact fun H locs ls hL hP hD hS => lv_if_ge C.1 C.2.1 d ht (fun h => kt ((zI_le zR_0 hx).mp h) H locs ls hL hP hD hS) (fun h => kf (fun e => h ((zI_le zR_0 hx).mpr e)) H locs ls hL hP hD hS)
theorem j_if_gt (C : zC X G cc own nL ret rF rL) {x : Int} {off : Int} {tgt : Nat} (d : zd cc pc pc' (.ifCond .gt off) 3) (ht : (pc : Int) + off = (tgt : Int)) (hx : zR x) (kt : 0 < x → zJ X G Q nL tgt L st σ) (kf : ¬ 0 < x → zJ X G Q nL pc' L st σ) : zJ X G Q nL pc L (.int (zI x) :: st) σ := by
  obtain ⟨d, rfl⟩ := d
  exact fun H locs ls hL hP hD hS => lv_if_gt C.1 C.2.1 d ht (fun h => kt ((zI_lt zR_0 hx).mp h) H locs ls hL hP hD hS) (fun h => kf (fun e => h ((zI_lt zR_0 hx).mpr e)) H locs ls hL hP hD hS)
theorem j_if_le (C : zC X G cc own nL ret rF rL) {x : Int} {off : Int} {tgt : Nat} (d : zd cc pc pc' (.ifCond .le off) 3) (ht : (pc : Int) + off = (tgt : Int)) (hx : zR x) (kt : x ≤ 0 → zJ X G Q nL tgt L st σ) (kf : ¬ x ≤ 0 → zJ X G Q nL pc' L st σ) : zJ X G Q nL pc L (.int (zI x) :: st) σ := by
  obtain ⟨d, rfl⟩ := d
  exact fun H locs ls hL hP hD hS => lv_if_le C.1 C.2.1 d ht (fun h => kt ((zI_le hx zR_0).mp h) H locs ls hL hP hD hS) (fun h => kf (fun e => h ((zI_le hx zR_0).mpr e)) H locs ls hL hP hD hS)
theorem j_tableOut (C : zC X G cc own nL ret rF rL) {dflt lo hi : Int} {offs : Array Int} {len : Nat} {x : Int} {tgt : Nat} (d : zd cc pc pc' (.tableswitch dflt lo hi offs) len) (hx : zR x) (h : x < lo ∨ hi < x) (ht : (pc : Int) + dflt = (tgt : Int)) (k : zJ X G Q nL tgt L st σ) : zJ X G Q nL pc L (.int (zI x) :: st) σ := by
  obtain ⟨d, rfl⟩ := d
  exact fun H locs ls hL hP hD hS => lv_tableOut C.1 C.2.1 d (by rw [zI_toInt hx]; exact h) ht (k H locs ls hL hP hD hS)
theorem j_tableIn (C : zC X G cc own nL ret rF rL) {dflt lo hi : Int} {offs : Array Int} {len : Nat} {x off : Int} {tgt : Nat} (d : zd cc pc pc' (.tableswitch dflt lo hi offs) len) (hx : zR x) (v : Int) (e : x = v) (hv : (decide (lo ≤ v) && decide (v ≤ hi)) = true) (ho : offs[(v - lo).toNat]? = some off) (ht : (pc : Int) + off = (tgt : Int)) (k : zJ X G Q nL tgt L st σ) : zJ X G Q nL pc L (.int (zI x) :: st) σ := by
  obtain ⟨d, rfl⟩ := d
  subst e
  simp only [Bool.and_eq_true, decide_eq_true_eq] at hv
  exact fun H locs ls hL hP hD hS => lv_tableIn C.1 C.2.1 d (by rw [zI_toInt hx]; omega) (by rw [zI_toInt hx]; omega) (by rw [zI_toInt hx]; exact ho) ht (k H locs ls hL hP hD hS)
theorem j_lookup (C : zC X G cc own nL ret rF rL) {dflt : Int} {ps : Array (Int × Int)} {len : Nat} {x off : Int} {tgt : Nat} (d : zd cc pc pc' (.lookupswitch dflt ps) len) (hx : zR x) (hp : (ps.toList.zip (ps.toList.drop 1)).all (fun (a, next) => a.1 < next.1) = true) (ho : Op.lookupswitch.offset ps.toList dflt x = off) (ht : (pc : Int) + off = (tgt : Int)) (k : zJ X G Q nL tgt L st σ) : zJ X G Q nL pc L (.int (zI x) :: st) σ := by
  obtain ⟨d, rfl⟩ := d
  exact fun H locs ls hL hP hD hS => lv_lookup C.1 C.2.1 d hp (by rw [zI_toInt hx]; exact ho) ht (k H locs ls hL hP hD hS)
/-! ends -/
def zQi (X : zX) (G : zG) (Post : Int → zM → Prop) : State → Prop := MQ (xb X) (va_Qi (fun (r : Int32) (u : zM) => ∃ z, r = zI z ∧ zR z ∧ zRM u ∧ Post z u) (fun u t => va_P (gD G) zCl (zWs (gad G) (gca G) u) t.heap) (gA G)) (xa X) (xs X) (gc G) (gs G) (gA G)
def zQv (X : zX) (G : zG) (Post : zM → Prop) : State → Prop := MQ (xb X) (va_Qv (fun (u : zM) => zRM u ∧ Post u) (fun u t => va_P (gD G) zCl (zWs (gad G) (gca G) u) t.heap) (gA G)) (xa X) (xs X) (gc G) (gs G) (gA G)
theorem j_ireturn (C : zC X G cc own nL (some .int) rF rL) {z : Int} {Post : Int → zM → Prop} (d : zd cc pc pc' .ireturn 1) (hz : zR z) (hσ : zRM σ) (h : Post z σ) : zJ X G (zQi X G Post) nL pc L [.int (zI z)] σ := by
  obtain ⟨d, rfl⟩ := d
  obtain ⟨hx, hb, -, -, -, hlk, hr, -, -, -, hH, -⟩ := C
  intro H locs ls hL hP hD hS
  refine W.iret hx hb hr (fun t ht hW => ⟨⟨zI z, σ, rfl, ⟨z, rfl, hz, hσ, h⟩, by show va_P _ _ _ t.heap; rw [ht]; exact hP⟩, ?_⟩) hS.2.2 d hlk
  rw [hH] at hS
  exact hS.F ht
theorem j_zreturn (C : zC X G cc own nL (some .boolean) rF rL) {z : Int} {Post : Int → zM → Prop} (d : zd cc pc pc' .ireturn 1) (hz : z = 0 ∨ z = 1) (hσ : zRM σ) (h : Post z σ) : zJ X G (zQi X G Post) nL pc L [.int (zI z)] σ := by
  obtain ⟨d, rfl⟩ := d
  obtain ⟨hx, hb, -, -, -, hlk, hr, -, -, -, hH, -⟩ := C
  intro H locs ls hL hP hD hS
  have hn : narrow .boolean (.int (zI z)) = .int (zI z) := by rcases hz with rfl | rfl <;> rfl
  refine W.zret hx hb hr hn (fun t ht hW => ⟨⟨zI z, σ, rfl, ⟨z, rfl, by rcases hz with rfl | rfl <;> exact ⟨by omega, by omega⟩, hσ, h⟩, by show va_P _ _ _ t.heap; rw [ht]; exact hP⟩, ?_⟩) hS.2.2 d hlk
  rw [hH] at hS
  exact hS.F ht
theorem j_vreturn (C : zC X G cc own nL none rF rL) {Post : zM → Prop} (d : zd cc pc pc' .return_ 1) (hσ : zRM σ) (h : Post σ) : zJ X G (zQv X G Post) nL pc L [] σ := by
  obtain ⟨d, rfl⟩ := d
  obtain ⟨hx, hb, -, -, -, hlk, hr, -, -, -, hH, -⟩ := C
  intro H locs ls hL hP hD hS
  refine W.vret hx hb hr (fun t ht hW => ⟨⟨σ, rfl, ⟨hσ, h⟩, by show va_P _ _ _ t.heap; rw [ht]; exact hP⟩, ?_⟩) hS.2.2 d hlk
  rw [hH] at hS
  exact hS.F ht
/-! arrays -/
theorem zI_ix {i : Int} {len : Nat} (h : 0 ≤ i ∧ i < (len : Int)) (hl : len ≤ 100000) : vp_in (zI i) len ∧ (zI i).toNatClampNeg = i.toNat ∧ ((i.toNat : Nat) : Int) = i := by
  refine ⟨zI_in h.1 h.2 (by omega), zI_clamp h.1 (by omega), by omega⟩
theorem j_iaload (C : zC X G cc own nL ret rF rL) {n len : Nat} {i : Int} (d : zd cc pc pc' .iaload 1) (hn : zShp[n]? = some (.inl (0, len))) (h : 0 ≤ i ∧ i < (len : Int)) (k : zJ X G Q nL pc' L (.int (zI (σ n i)) :: st) σ) : zJ X G Q nL pc L (.int (zI i) :: .ref (gad G n) :: st) σ := by
  obtain ⟨d, rfl⟩ := d
  obtain ⟨h1, h2, h3⟩ := zI_ix h (zLen hn)
  intro H locs ls hL hP hD hS
  refine va_iald C.1 C.2.1 C.2.2.2.2.2.2.2.1.1 hP n 0 (zWs_get hn) rfl h1 d ?_
  rw [h2]
  show W _ _ _ _ _ _ _ _ _ _ _ _ _ _ _ (F0 _ _ _ (.int (zI (σ n (i.toNat : Int))) :: st))
  rw [h3]
  exact k H locs ls hL hP hD hS
theorem j_baload (C : zC X G cc own nL ret rF rL) {n len : Nat} {i : Int} (d : zd cc pc pc' .baload 1) (hn : zShp[n]? = some (.inl (1, len))) (h : 0 ≤ i ∧ i < (len : Int)) (k : zJ X G Q nL pc' L (.int (zI (σ n i)) :: st) σ) : zJ X G Q nL pc L (.int (zI i) :: .ref (gad G n) :: st) σ := by
  obtain ⟨d, rfl⟩ := d
  obtain ⟨h1, h2, h3⟩ := zI_ix h (zLen hn)
  intro H locs ls hL hP hD hS
  refine va_zald C.1 C.2.1 C.2.2.2.2.2.2.2.1.1 hP n 1 (zWs_get hn) rfl h1 d ?_
  rw [h2]
  show W _ _ _ _ _ _ _ _ _ _ _ _ _ _ _ (F0 _ _ _ (.int (zI (σ n (i.toNat : Int))) :: st))
  rw [h3]
  exact k H locs ls hL hP hD hS
theorem j_caload (C : zC X G cc own nL ret rF rL) {n len : Nat} {i : Int} (d : zd cc pc pc' .caload 1) (hn : zShp[n]? = some (.inl (2, len))) (h : 0 ≤ i ∧ i < (len : Int)) (k : zJ X G Q nL pc' L (.int (zI (σ n i)) :: st) σ) : zJ X G Q nL pc L (.int (zI i) :: .ref (gad G n) :: st) σ := by
  obtain ⟨d, rfl⟩ := d
  obtain ⟨h1, h2, h3⟩ := zI_ix h (zLen hn)
  intro H locs ls hL hP hD hS
  refine va_cald C.1 C.2.1 C.2.2.2.2.2.2.2.1.1 hP n 2 (zWs_get hn) rfl h1 d ?_
  rw [h2]
  show W _ _ _ _ _ _ _ _ _ _ _ _ _ _ _ (F0 _ _ _ (.int (zI (σ n (i.toNat : Int))) :: st))
  rw [h3]
  exact k H locs ls hL hP hD hS
theorem j_aaload (C : zC X G cc own nL ret rF rL) {n len : Nat} {i : Int} (d : zd cc pc pc' .aaload 1) (hn : zShp[n]? = some (.inl (3, len))) (h : 0 ≤ i ∧ i < (len : Int)) (k : zJ X G Q nL pc' L (.ref (gad G (6 * (σ n i).toNat)) :: st) σ) : zJ X G Q nL pc L (.int (zI i) :: .ref (gad G n) :: st) σ := by
  obtain ⟨d, rfl⟩ := d
  obtain ⟨h1, h2, h3⟩ := zI_ix h (zLen hn)
  intro H locs ls hL hP hD hS
  refine va_aldq C.1 C.2.1 C.2.2.2.2.2.2.2.1.1 hP n 3 (zWs_get hn) rfl h1 d ?_
  rw [h2]
  show W _ _ _ _ _ _ _ _ _ _ _ _ _ _ _ (F0 _ _ _ (.ref (gad G (6 * (σ n (i.toNat : Int)).toNat)) :: st))
  rw [h3]
  exact k H locs ls hL hP hD hS
theorem zUpd {σ : zM} {n : Nat} {i v : Int} (h3 : ((i.toNat : Nat) : Int) = i) : (fun j : Nat => zI (zU σ n i v n (j : Int))) = upd (fun j : Nat => zI (σ n (j : Int))) i.toNat (zI v) := by
  funext j
  unfold upd zU
  by_cases hj : j = i.toNat
  · subst hj
    rw [if_pos ⟨rfl, h3⟩, if_pos rfl]
  · rw [if_neg (fun hh => hj (by omega)), if_neg hj]
theorem j_iastore (C : zC X G cc own nL ret rF rL) {n len : Nat} {i v : Int} (d : zd cc pc pc' .iastore 1) (hn : zShp[n]? = some (.inl (0, len))) (h : 0 ≤ i ∧ i < (len : Int)) (k : zJ X G Q nL pc' L st (zU σ n i v)) : zJ X G Q nL pc L (.int (zI v) :: .int (zI i) :: .ref (gad G n) :: st) σ := by
  obtain ⟨d, rfl⟩ := d
  obtain ⟨h1, h2, h3⟩ := zI_ix h (zLen hn)
  intro H locs ls hL hP hD hS
  refine va_iast C.1 C.2.1 C.2.2.2.2.2.2.2.1.1 hP hD hS n 0 (zWs_get hn) rfl h1 d (fun H1 locs1 hP1 hD1 hS1 => ?_)
  rw [h2, zWs_set (σ' := zU σ n i v) hn (by rw [← zUpd h3]; rfl) (fun m hm j => zU_o hm j)] at hP1 hD1
  exact k H1 locs1 ls hL hP1 hD1 hS1
theorem j_bastore (C : zC X G cc own nL ret rF rL) {n len : Nat} {i v : Int} (d : zd cc pc pc' .bastore 1) (hn : zShp[n]? = some (.inl (1, len))) (h : 0 ≤ i ∧ i < (len : Int)) (hv : v = 0 ∨ v = 1) (k : zJ X G Q nL pc' L st (zU σ n i v)) : zJ X G Q nL pc L (.int (zI v) :: .int (zI i) :: .ref (gad G n) :: st) σ := by
  obtain ⟨d, rfl⟩ := d
  obtain ⟨h1, h2, h3⟩ := zI_ix h (zLen hn)
  have hn' : vp_nar .boolean (zI v) = zI v := by rcases hv with rfl | rfl <;> rfl
  intro H locs ls hL hP hD hS
  refine va_zast C.1 C.2.1 C.2.2.2.2.2.2.2.1.1 hP hD hS n 1 (zWs_get hn) rfl h1 d (fun H1 locs1 hP1 hD1 hS1 => ?_)
  rw [hn', h2, zWs_set (σ' := zU σ n i v) hn (by rw [← zUpd h3]; rfl) (fun m hm j => zU_o hm j)] at hP1 hD1
  exact k H1 locs1 ls hL hP1 hD1 hS1
theorem j_castore (C : zC X G cc own nL ret rF rL) {n len : Nat} {i v : Int} (d : zd cc pc pc' .castore 1) (hn : zShp[n]? = some (.inl (2, len))) (h : 0 ≤ i ∧ i < (len : Int)) (hv : 0 ≤ v ∧ v < 65536) (k : zJ X G Q nL pc' L st (zU σ n i v)) : zJ X G Q nL pc L (.int (zI v) :: .int (zI i) :: .ref (gad G n) :: st) σ := by
  obtain ⟨d, rfl⟩ := d
  obtain ⟨h1, h2, h3⟩ := zI_ix h (zLen hn)
  have hn' : vp_nar .char (zI v) = zI v := by
    obtain ⟨q, rfl⟩ := Int.eq_ofNat_of_zero_le hv.1
    have hq : zI (q : Int) = nI q := Int32.ofInt_eq_ofNat
    unfold vp_nar
    rw [hq, (pk_charN (q := q) (by omega)).1]
  intro H locs ls hL hP hD hS
  refine va_cast C.1 C.2.1 C.2.2.2.2.2.2.2.1.1 hP hD hS n 2 (zWs_get hn) rfl h1 d (fun H1 locs1 hP1 hD1 hS1 => ?_)
  rw [hn', h2, zWs_set (σ' := zU σ n i v) hn (by rw [← zUpd h3]; rfl) (fun m hm j => zU_o hm j)] at hP1 hD1
  exact k H1 locs1 ls hL hP1 hD1 hS1
theorem zSt : ∀ a : Nat, a < 9 → zShp[6 * a]? = some (.inr (0, [((6 * a + 1 : Nat) : Int), ((6 * a + 2 : Nat) : Int), ((6 * a + 3 : Nat) : Int), ((6 * a + 4 : Nat) : Int), ((6 * a + 5 : Nat) : Int), -1, -1, -1])) := by decide +kernel
theorem zSt1 : ∀ a : Nat, a < 9 → zShp[6 * a + 1]? = some (.inl (0, 24)) := by decide +kernel
theorem zSt2 : ∀ a : Nat, a < 9 → zShp[6 * a + 2]? = some (.inl (0, 264)) := by decide +kernel
theorem zSt3 : ∀ a : Nat, a < 9 → zShp[6 * a + 3]? = some (.inl (0, 24)) := by decide +kernel
theorem zSt4 : ∀ a : Nat, a < 9 → zShp[6 * a + 4]? = some (.inl (0, 60)) := by decide +kernel
theorem zSt5 : ∀ a : Nat, a < 9 → zShp[6 * a + 5]? = some (.inl (0, 80)) := by decide +kernel
theorem j_aastore (C : zC X G cc own nL ret rF rL) {n len a : Nat} {i : Int} (d : zd cc pc pc' .aastore 1) (hn : zShp[n]? = some (.inl (3, len))) (h : 0 ≤ i ∧ i < (len : Int)) (ha : a < 9) (k : zJ X G Q nL pc' L st (zU σ n i (a : Int))) : zJ X G Q nL pc L (.ref (gad G (6 * a)) :: .int (zI i) :: .ref (gad G n) :: st) σ := by
  obtain ⟨d, rfl⟩ := d
  obtain ⟨h1, h2, h3⟩ := zI_ix h (zLen hn)
  intro H locs ls hL hP hD hS
  refine va_astq C.1 C.2.1 C.2.2.2.2.2.2.2.1.1 hP hD hS n 3 (6 * a) 0 (r := (R_S, F_S, 8)) (zWs_get hn) rfl (zWs_get (zSt a ha)) rfl h1 d (fun H1 locs1 hP1 hD1 hS1 => ?_)
  rw [h2] at hP1 hD1
  have e : (fun j : Nat => some (gad G (6 * (zU σ n i (a : Int) n (j : Int)).toNat))) = va_up (fun j : Nat => some (gad G (6 * (σ n (j : Int)).toNat))) i.toNat (some (gad G (6 * a))) := by
    funext j
    unfold va_up zU
    by_cases hj : j = i.toNat
    · subst hj
      rw [if_pos ⟨rfl, h3⟩, if_pos rfl]; rfl
    · rw [if_neg (fun hh => hj (by omega)), if_neg hj]
  rw [zWs_set (σ' := zU σ n i (a : Int)) hn (by rw [← e]; rfl) (fun m hm j => zU_o hm j)] at hP1 hD1
  exact k H1 locs1 ls hL hP1 hD1 hS1
theorem j_alen (C : zC X G cc own nL ret rF rL) {n len : Nat} (d : zd cc pc pc' .arraylength 1) (hn : zShp[n]? = some (.inl (0, len))) (k : zJ X G Q nL pc' L (.int (zI (len : Int)) :: st) σ) : zJ X G Q nL pc L (.ref (gad G n) :: st) σ := by
  obtain ⟨d, rfl⟩ := d
  intro H locs ls hL hP hD hS
  exact va_alen C.1 C.2.1 C.2.2.2.2.2.2.2.1.1 hP n 0 (zWs_get hn) (ty := .int) rfl (v := zI (len : Int)) (Int32.ofInt_eq_ofNat).symm d (k H locs ls hL hP hD hS)
/-! fields -/
theorem j_getr (C : zC X G cc own nL ret rF rL) {n ci kf m idx N : Nat} {fs : List Int} {T : u_T} {c : String} (d : zd cc pc pc' (.getfield idx) 3) (hn : zShp[n]? = some (.inr (ci, fs))) (hc : zCl[ci]? = some (c, T, N)) (hin : ∀ w ∈ u_ws c T N, w ∈ zTb) (hk : Nat.ble (kf + 1) N = true) (hf : fs[kf]? = some (m : Int)) (hl : Cond.fieldLink own idx (T kf).1 (T kf).2.1 (T kf).2.2.1 ∈ zTb) (k : zJ X G Q nL pc' L (.ref (gad G m) :: st) σ) : zJ X G Q nL pc L (.ref (gad G n) :: st) σ := by
  obtain ⟨d, rfl⟩ := d
  intro H locs ls hL hP hD hS
  have hv := zFld_get (ad := gad G) (σ := σ) (n := n) fs 0 kf _ hf
  rw [if_neg (by omega)] at hv
  exact va_get C.1 C.2.1 C.2.2.2.2.1 hin C.2.2.2.1 C.2.2.2.2.2.2.2.1.1 hP n (zWs_get hn) hc kf (Nat.le_of_ble_eq_true hk) (C.2.2.2.2.1 _ hl) (fun _ h => h) hv d (k H locs ls hL hP hD hS)
theorem j_geti (C : zC X G cc own nL ret rF rL) {n ci kf idx N : Nat} {fs : List Int} {T : u_T} {c : String} {kI : Int} (d : zd cc pc pc' (.getfield idx) 3) (hn : zShp[n]? = some (.inr (ci, fs))) (hc : zCl[ci]? = some (c, T, N)) (hin : ∀ w ∈ u_ws c T N, w ∈ zTb) (hk : Nat.ble (kf + 1) N = true) (hf : fs[kf]? = some (-1)) (hkI : 0 + (kf : Int) = kI) (hl : Cond.fieldLink own idx (T kf).1 (T kf).2.1 (T kf).2.2.1 ∈ zTb) (k : zJ X G Q nL pc' L (.int (zI (σ n kI)) :: st) σ) : zJ X G Q nL pc L (.ref (gad G n) :: st) σ := by
  obtain ⟨d, rfl⟩ := d
  intro H locs ls hL hP hD hS
  have hv := zFld_get (ad := gad G) (σ := σ) (n := n) fs 0 kf _ hf
  rw [if_pos (by omega), hkI] at hv
  exact va_get C.1 C.2.1 C.2.2.2.2.1 hin C.2.2.2.1 C.2.2.2.2.2.2.2.1.1 hP n (zWs_get hn) hc kf (Nat.le_of_ble_eq_true hk) (C.2.2.2.2.1 _ hl) (fun _ h => h) hv d (k H locs ls hL hP hD hS)
theorem j_puti (C : zC X G cc own nL ret rF rL) {n ci kf idx N : Nat} {fs : List Int} {T : u_T} {c : String} {kI v : Int} (t : Nat → FieldType) (d : zd cc pc pc' (.putfield idx) 3) (hn : zShp[n]? = some (.inr (ci, fs))) (hc : zCl[ci]? = some (c, T, N)) (hin : ∀ w ∈ u_ws c T N, w ∈ zTb) (hty : ∀ k, k < N → parseFieldDescriptor (T k).2.2.1 = some (t k)) (hnm : ∀ a, a < N → ∀ b, b < N → a ≠ b → (T a).2.1 ≠ (T b).2.1) (hk : Nat.ble (kf + 1) N = true) (hf : fs[kf]? = some (-1)) (hkI : 0 + (kf : Int) = kI) (hl : Cond.fieldLink own idx (T kf).1 (T kf).2.1 (T kf).2.2.1 ∈ zTb) (hfin : (T kf).2.2.2 = false) (ht : (t kf = .int) ∨ (t kf = .boolean ∧ (v = 0 ∨ v = 1))) (k : zJ X G Q nL pc' L st (zU σ n kI v)) : zJ X G Q nL pc L (.int (zI v) :: .ref (gad G n) :: st) σ := by
  obtain ⟨d, rfl⟩ := d
  intro H locs ls hL hP hD hS
  have hkN := Nat.le_of_ble_eq_true hk
  have hs : kf < fs.length := (List.getElem?_eq_some_iff.mp hf).1
  have hset := zFld_set (ad := gad G) (σ := σ) (n := n) (v := v) fs 0 kf hf
  rw [hkI] at hset
  have hnw : narrow (t kf) (.int (zI v)) = .int (zI v) ∧ fits (t kf) (.int (zI v)) = true := by
    rcases ht with h | ⟨h, rfl | rfl⟩ <;> rw [h]
    · exact ⟨rfl, rfl⟩
    · exact ⟨by decide, by decide⟩
    · exact ⟨by decide, by decide⟩
  refine va_put C.1 C.2.1 C.2.2.2.2.1 hin t hty hnm C.2.2.2.1 C.2.2.2.2.2.2.2.1.1 hP hD hS n (zWs_get hn) hc kf hkN (C.2.2.2.2.1 _ hl) (fun _ h => h) hfin (ty := t kf) (hty kf hkN) hnw.1 hnw.2 (by rw [zFld_len]; exact hs) d (fun H1 locs1 hP1 hD1 hS1 => ?_)
  rw [← hset, zWs_set (ad := gad G) (ca := gca G) (σ := σ) (σ' := zU σ n kI v) (e := Sum.inr (ci, zFld (gad G) (zU σ n kI v) n 0 fs)) hn rfl (fun m hm j => zU_o hm j)] at hP1 hD1
  exact k H1 locs1 ls hL hP1 hD1 hS1
end J2
/-! calls -/
theorem zK_moved {D : va_G} {ca : Nat → ClassId} {u U : State} (hW : u.WarmedH U.vm) (h : zK D ca u) : zK D ca U := ⟨va_K.moved hW.alike h.1, fun q hq => (h.2 q hq).warmM hW⟩
theorem zK_calling {D : va_G} {ca : Nat → ClassId} {U : State} {g : JFrame} {mk : MethodId} {a : Array Value} (h : zK D ca U) : zK D ca (U.calling g mk a) := ⟨va_K.moved (u := U) (U := U.calling g mk a) (Vm.Alike.refl U.vm) h.1, fun q hq => (h.2 q hq).same rfl rfl⟩
def zIn (D : va_G) (ad : Nat → Nat) (ca : Nat → ClassId) (σ : zM) (U : State) : Prop := va_P D zCl (zWs ad ca σ) U.heap ∧ zK D ca U ∧ va_D (zAw ad) (zWs ad ca σ)
/-- the contract of a method that answers a number -/
def zCi (l : Launch) (D : va_G) (ad : Nat → Nat) (ca : Nat → ClassId) (y : MethodName) (bytes : ByteArray) (maxL : Nat) (ret : Option FieldType) (rm : Room) (avs : List Value) (σ : zM) (Post : Int → zM → Prop) : Prop :=
  Met l y (.code y bytes maxL ret :: zTb) rm (va_Pc avs (zIn D ad ca σ)) (va_Qi (fun (r : Int32) (u : zM) => ∃ z, r = zI z ∧ zR z ∧ zRM u ∧ Post z u) (fun u t => va_P D zCl (zWs ad ca u) t.heap) (zAw ad)) 0 0 (zAw ad)
def zCv (l : Launch) (D : va_G) (ad : Nat → Nat) (ca : Nat → ClassId) (y : MethodName) (bytes : ByteArray) (maxL : Nat) (rm : Room) (avs : List Value) (σ : zM) (Post : zM → Prop) : Prop :=
  Met l y (.code y bytes maxL none :: zTb) rm (va_Pc avs (zIn D ad ca σ)) (va_Qv (fun (u : zM) => zRM u ∧ Post u) (fun u t => va_P D zCl (zWs ad ca u) t.heap) (zAw ad)) 0 0 (zAw ad)
theorem zIn_blind {D : va_G} {ad : Nat → Nat} {ca : Nat → ClassId} {σ : zM} {avs : List Value} : FrameBlind (va_Pc avs (zIn D ad ca σ)) := fun _ _ _ _ q => ⟨q.1, q.2.1, zK_calling q.2.2.1, q.2.2.2⟩
def zrm (f n : Nat) : Room := { frames := f, cells := 0, slots := 0, locals := n }
theorem zCi_of {l : Launch} {D : va_G} {ad : Nat → Nat} {ca : Nat → ClassId} {y : MethodName} {bytes : ByteArray} {maxL f n : Nat} {ret : Option FieldType} {avs : List Value} {σ : zM} {Post : Int → zM → Prop} (hy : plainFor y = true) (hl : (lg_sl avs).length ≤ maxL)
    (body : ∀ (X : zX) (G : zG), zC X G bytes y.cls maxL ret f n → xl X = l → gD G = D → gad G = ad → gca G = ca → zJ X G (zQi X G Post) maxL 0 (lv_args 0 avs) [] σ) : zCi l D ad ca y bytes maxL ret (zrm f n) avs σ Post := by
  refine va_MetF (cc := bytes) (maxL := maxL) (ret := ret) hy rfl ?_
  intro p e s m args below meth c s₁ B hml hv
  obtain ⟨rfl, hP, hK, hD⟩ := hv
  have hts := atoms_spec (ws := Cond.code y bytes maxL ret :: zTb) B.pre
  have hown : s.vm.findClass y.cls = some m.cls := findClass_of_methodNamed B.named
  have hl' := lv_entry avs (n := maxL) hl
  rw [lg_entry_eq]
  have C : zC (p, l, e, zrm f n, s, m, avs.toArray, below, meth, c) (D, ad, ca, zAw ad, s.heap, 0, 0) bytes y.cls maxL ret f n :=
    ⟨B.exec, B.bytes, hml, hown, fun w hw => hts w (List.mem_cons_of_mem _ hw), B.notSynchronized, B.returns, hK, Nat.zero_le _, Nat.zero_le _, rfl, Nat.le_refl _, Nat.le_refl _⟩
  exact body _ _ C rfl rfl rfl rfl s.heap [] _ hl' hP hD va_S.rf
theorem zCv_of {l : Launch} {D : va_G} {ad : Nat → Nat} {ca : Nat → ClassId} {y : MethodName} {bytes : ByteArray} {maxL f n : Nat} {avs : List Value} {σ : zM} {Post : zM → Prop} (hy : plainFor y = true) (hl : (lg_sl avs).length ≤ maxL)
    (body : ∀ (X : zX) (G : zG), zC X G bytes y.cls maxL none f n → xl X = l → gD G = D → gad G = ad → gca G = ca → zJ X G (zQv X G Post) maxL 0 (lv_args 0 avs) [] σ) : zCv l D ad ca y bytes maxL (zrm f n) avs σ Post := by
  refine va_MetF (cc := bytes) (maxL := maxL) (ret := none) hy rfl ?_
  intro p e s m args below meth c s₁ B hml hv
  obtain ⟨rfl, hP, hK, hD⟩ := hv
  have hts := atoms_spec (ws := Cond.code y bytes maxL none :: zTb) B.pre
  have hown : s.vm.findClass y.cls = some m.cls := findClass_of_methodNamed B.named
  have hl' := lv_entry avs (n := maxL) hl
  rw [lg_entry_eq]
  have C : zC (p, l, e, zrm f n, s, m, avs.toArray, below, meth, c) (D, ad, ca, zAw ad, s.heap, 0, 0) bytes y.cls maxL none f n :=
    ⟨B.exec, B.bytes, hml, hown, fun w hw => hts w (List.mem_cons_of_mem _ hw), B.notSynchronized, B.returns, hK, Nat.zero_le _, Nat.zero_le _, rfl, Nat.le_refl _, Nat.le_refl _⟩
  exact body _ _ C rfl rfl rfl rfl s.heap [] _ hl' hP hD va_S.rf
section J3
variable {X : zX} {G : zG} {Q : State → Prop} {nL pc pc' : Nat} {L L' : List (Nat × Value)} {st stk : List Value} {σ : zM} {cc : ByteArray} {own : String} {ret : Option FieldType} {rF rL : Nat}
variable {y : MethodName} {bytes : ByteArray} {maxL idx na f lo n ci : Nat} {rt : Option FieldType} {As : List Value} {fs : List Int} {r : vw_C}
theorem zCB (C : zC X G cc own nL ret rF rL) (hl : Cond.methodLink own idx y ∈ zTb) (hini : Cond.initialized y.cls ∈ zTb) (hcode : Cond.code y bytes maxL rt ∈ zTb) (hd : y.cls ≠ "java/lang/invoke/MethodHandle" ∧ y.cls ≠ "java/lang/invoke/VarHandle" ∧ (parseMethodDescriptor y.desc).map (fun d => d.parameters.length) = some na) (hf : Nat.ble (f + 1) rF = true) (ho : Nat.ble (8 + (maxL + 11) + lo) rL = true) : CallB (xR X) (xs X) (xa X) own idx y bytes maxL rt (.code y bytes maxL rt :: zTb) (zrm f lo) 0 0 na := by
  obtain ⟨-, -, -, -, hts, -, -, -, -, -, -, hrF, hrL⟩ := C
  exact callB_of na hts (zGoodIn hcode) rfl rfl rfl (hts _ hini) (hts _ hl) hd ⟨Nat.le_trans (Nat.le_of_ble_eq_true hf) hrF, Nat.le_trans (Nat.le_of_ble_eq_true ho) hrL⟩
theorem zPre (C : zC X G cc own nL ret rF rL) {H : Heap} {avs : List Value} (hP : va_P (gD G) zCl (zWs (gad G) (gca G) σ) H) (hD : va_D (gA G) (zWs (gad G) (gca G) σ)) : ∀ U : State, U.heap = H → (xs X).WarmedH U.vm → va_Pc avs (zIn (gD G) (gad G) (gca G) σ) avs.toArray U := by
  intro U hU hW
  exact ⟨rfl, by rw [hU]; exact hP, zK_moved hW C.2.2.2.2.2.2.2.1, zD_aw hD⟩
theorem j_callV {Post : Int → zM → Prop} (C : zC X G cc own nL ret rF rL) (d : zd cc pc pc' (.invokevirtual idx) 3) (hl : Cond.methodLink own idx y ∈ zTb) (hy : zMI y bytes maxL rt na) (hM : zCi (xl X) (gD G) (gad G) (gca G) y bytes maxL rt (zrm f lo) (.ref (gad G n) :: As) σ Post) (hn : zShp[n]? = some (.inr (ci, fs))) (hc : zCl[ci]? = some r) (hr : r.1 = y.cls) (hna : As.length = na) (hst : stk = As.reverse ++ .ref (gad G n) :: st) (hcat : Nat.ble (st.map fun v => v.category).sum 8 = true) (hf : Nat.ble (f + 1) rF = true) (ho : Nat.ble (8 + (maxL + 11) + lo) rL = true) (k : ∀ z σ', zR z → zRM σ' → Post z σ' → zJ X G Q nL pc' L (.int (zI z) :: st) σ') : zJ X G Q nL pc L stk σ := by
  obtain ⟨d, rfl⟩ := d
  obtain ⟨hi, hs, hini, hcode, hd⟩ := hy
  have hts := C.2.2.2.2.1
  intro H locs ls hL hP hD hS
  refine va_calli (va_runV (As := As) (rest := st) (b := gad G n) (C := y.cls) ⟨C.1, C.2.1, C.2.2.1, C.2.2.2.1, hts⟩ hM ⟨zCB C hl hini hcode hd hf ho, hts _ hi, hts _ hs⟩ ⟨zIn_blind, by rw [← hr]; exact va_recv C.2.2.2.2.2.2.2.1.1 hP hc (zWs_get hn), zPre C hP hD⟩ rfl hna hL.1 hst (lv_room (Nat.le_of_ble_eq_true hcat)) d ⟨C.2.2.2.2.2.2.2.2.1, C.2.2.2.2.2.2.2.2.2.1⟩) hS (fun q _ h => zAw_in hD q h) (zAw_in hD) (fun r u t H1 locs1 ht hvm hpost hB hz hk hS1 => ?_)
  obtain ⟨z, rfl, hz, hu, hp⟩ := hpost
  rw [ht] at hB
  exact k z u hz hu hp H1 locs1 ls hL hB (zD_to hD) hS1
theorem j_callVv {Post : zM → Prop} (C : zC X G cc own nL ret rF rL) (d : zd cc pc pc' (.invokevirtual idx) 3) (hl : Cond.methodLink own idx y ∈ zTb) (hy : zMI y bytes maxL none na) (hM : zCv (xl X) (gD G) (gad G) (gca G) y bytes maxL (zrm f lo) (.ref (gad G n) :: As) σ Post) (hn : zShp[n]? = some (.inr (ci, fs))) (hc : zCl[ci]? = some r) (hr : r.1 = y.cls) (hna : As.length = na) (hst : stk = As.reverse ++ .ref (gad G n) :: st) (hcat : Nat.ble (st.map fun v => v.category).sum 8 = true) (hf : Nat.ble (f + 1) rF = true) (ho : Nat.ble (8 + (maxL + 11) + lo) rL = true) (k : ∀ σ', zRM σ' → Post σ' → zJ X G Q nL pc' L st σ') : zJ X G Q nL pc L stk σ := by
  obtain ⟨d, rfl⟩ := d
  obtain ⟨hi, hs, hini, hcode, hd⟩ := hy
  have hts := C.2.2.2.2.1
  intro H locs ls hL hP hD hS
  refine va_callv (va_runV (As := As) (rest := st) (b := gad G n) (C := y.cls) ⟨C.1, C.2.1, C.2.2.1, C.2.2.2.1, hts⟩ hM ⟨zCB C hl hini hcode hd hf ho, hts _ hi, hts _ hs⟩ ⟨zIn_blind, by rw [← hr]; exact va_recv C.2.2.2.2.2.2.2.1.1 hP hc (zWs_get hn), zPre C hP hD⟩ rfl hna hL.1 hst (lv_room (Nat.le_of_ble_eq_true hcat)) d ⟨C.2.2.2.2.2.2.2.2.1, C.2.2.2.2.2.2.2.2.2.1⟩) hS (fun q _ h => zAw_in hD q h) (zAw_in hD) (fun u t H1 locs1 ht hvm hpost hB hz hk hS1 => ?_)
  obtain ⟨hu, hp⟩ := hpost
  rw [ht] at hB
  exact k u hu hp H1 locs1 ls hL hB (zD_to hD) hS1
theorem j_callS {Post : Int → zM → Prop} (C : zC X G cc own nL ret rF rL) (d : zd cc pc pc' (.invokestatic idx) 3) (hl : Cond.methodLink own idx y ∈ zTb) (hy : zMS y bytes maxL rt na) (hM : zCi (xl X) (gD G) (gad G) (gca G) y bytes maxL rt (zrm f lo) As σ Post) (hna : As.length = na) (hst : stk = As.reverse ++ st) (hcat : Nat.ble (st.map fun v => v.category).sum 8 = true) (hf : Nat.ble (f + 1) rF = true) (ho : Nat.ble (8 + (maxL + 11) + lo) rL = true) (k : ∀ z σ', zR z → zRM σ' → Post z σ' → zJ X G Q nL pc' L (.int (zI z) :: st) σ') : zJ X G Q nL pc L stk σ := by
  obtain ⟨d, rfl⟩ := d
  obtain ⟨hst', hini, hcode, hd⟩ := hy
  have hts := C.2.2.2.2.1
  intro H locs ls hL hP hD hS
  refine va_calli (va_runS (As := As) (rest := st) ⟨C.1, C.2.1, C.2.2.1, C.2.2.2.1, hts⟩ hM ⟨zCB C hl hini hcode hd hf ho, hts _ hst'⟩ ⟨zIn_blind, zPre C hP hD⟩ rfl hna hL.1 hst (lv_room (Nat.le_of_ble_eq_true hcat)) d ⟨C.2.2.2.2.2.2.2.2.1, C.2.2.2.2.2.2.2.2.2.1⟩) hS (fun q _ h => zAw_in hD q h) (zAw_in hD) (fun r u t H1 locs1 ht hvm hpost hB hz hk hS1 => ?_)
  obtain ⟨z, rfl, hz, hu, hp⟩ := hpost
  rw [ht] at hB
  exact k z u hz hu hp H1 locs1 ls hL hB (zD_to hD) hS1
theorem j_callSv {Post : zM → Prop} (C : zC X G cc own nL ret rF rL) (d : zd cc pc pc' (.invokestatic idx) 3) (hl : Cond.methodLink own idx y ∈ zTb) (hy : zMS y bytes maxL none na) (hM : zCv (xl X) (gD G) (gad G) (gca G) y bytes maxL (zrm f lo) As σ Post) (hna : As.length = na) (hst : stk = As.reverse ++ st) (hcat : Nat.ble (st.map fun v => v.category).sum 8 = true) (hf : Nat.ble (f + 1) rF = true) (ho : Nat.ble (8 + (maxL + 11) + lo) rL = true) (k : ∀ σ', zRM σ' → Post σ' → zJ X G Q nL pc' L st σ') : zJ X G Q nL pc L stk σ := by
  obtain ⟨d, rfl⟩ := d
  obtain ⟨hst', hini, hcode, hd⟩ := hy
  have hts := C.2.2.2.2.1
  intro H locs ls hL hP hD hS
  refine va_callv (va_runS (As := As) (rest := st) ⟨C.1, C.2.1, C.2.2.1, C.2.2.2.1, hts⟩ hM ⟨zCB C hl hini hcode hd hf ho, hts _ hst'⟩ ⟨zIn_blind, zPre C hP hD⟩ rfl hna hL.1 hst (lv_room (Nat.le_of_ble_eq_true hcat)) d ⟨C.2.2.2.2.2.2.2.2.1, C.2.2.2.2.2.2.2.2.2.1⟩) hS (fun q _ h => zAw_in hD q h) (zAw_in hD) (fun u t H1 locs1 ht hvm hpost hB hz hk hS1 => ?_)
  obtain ⟨hu, hp⟩ := hpost
  rw [ht] at hB
  exact k u hu hp H1 locs1 ls hL hB (zD_to hD) hS1
/-- a call of a private static method of a nest mate -/
theorem j_callSN {Post : Int → zM → Prop} {host : String} (C : zC X G cc own nL ret rF rL) (d : zd cc pc pc' (.invokestatic idx) 3) (hl : (own, idx, y, host) ∈ zNw) (hy : zMS y bytes maxL rt na) (hM : zCi (xl X) (gD G) (gad G) (gca G) y bytes maxL rt (zrm f lo) As σ Post) (hna : As.length = na) (hst : stk = As.reverse ++ st) (hcat : Nat.ble (st.map fun v => v.category).sum 8 = true) (hf : Nat.ble (f + 1) rF = true) (ho : Nat.ble (8 + (maxL + 11) + lo) rL = true) (k : ∀ z σ', zR z → zRM σ' → Post z σ' → zJ X G Q nL pc' L (.int (zI z) :: st) σ') : zJ X G Q nL pc L stk σ := by
  obtain ⟨d, rfl⟩ := d
  obtain ⟨hst', hini, hcode, hd⟩ := hy
  have hts := C.2.2.2.2.1
  have hR : (zrm f lo).frames + 1 ≤ (xR X).frames ∧ 8 + (maxL + 11) + (zrm f lo).locals ≤ (xR X).locals := ⟨Nat.le_trans (Nat.le_of_ble_eq_true hf) C.2.2.2.2.2.2.2.2.2.2.2.1, Nat.le_trans (Nat.le_of_ble_eq_true ho) C.2.2.2.2.2.2.2.2.2.2.2.2⟩
  intro H locs ls hL hP hD hS
  refine va_calli (va_runSN (As := As) (rest := st) (host := host) ⟨C.1, C.2.1, C.2.2.1, C.2.2.2.1, hts⟩ hM ⟨va_cnB (rm := zrm f lo) na hts (zGoodIn hcode) rfl rfl rfl (C.2.2.2.2.2.2.2.1.2 _ hl) (hts _ hini) hd hR, hts _ hst', trivial⟩ ⟨zIn_blind, zPre C hP hD⟩ rfl hna hL.1 hst (lv_room (Nat.le_of_ble_eq_true hcat)) d ⟨C.2.2.2.2.2.2.2.2.1, C.2.2.2.2.2.2.2.2.2.1⟩) hS (fun q _ h => zAw_in hD q h) (zAw_in hD) (fun r u t H1 locs1 ht hvm hpost hB hz hk hS1 => ?_)
  obtain ⟨z, rfl, hz, hu, hp⟩ := hpost
  rw [ht] at hB
  exact k z u hz hu hp H1 locs1 ls hL hB (zD_to hD) hS1
theorem j_max (C : zC X G cc own nL ret rF rL) (d : zd cc pc pc' (.invokestatic idx) 3) (hl : Cond.methodLink own idx Lib.Math.max.name ∈ zTb) (hs : Cond.static Lib.Math.max.name ∈ zTb) (hi : Cond.initialized "java/lang/Math" ∈ zTb) (hcode : Cond.code Lib.Math.max.name Lib.Math.max.code 2 (some .int) ∈ zTb) (hf : Nat.ble 1 rF = true) (ho : Nat.ble ((st.map fun v => v.category).sum + 13) rL = true) {x y : Int} (hx : zR x) (hy : zR y) (k : zJ X G Q nL pc' L (.int (zI (max x y)) :: st) σ) : zJ X G Q nL pc L (.int (zI y) :: .int (zI x) :: st) σ := by
  obtain ⟨d, rfl⟩ := d
  have hts := C.2.2.2.2.1
  have e : (if zI x < zI y then zI y else zI x) = zI (max x y) := by
    by_cases h : x < y
    · rw [if_pos ((zI_lt hx hy).mpr h), Int.max_eq_right (by omega)]
    · rw [if_neg (fun q => h ((zI_lt hx hy).mp q)), Int.max_eq_left (by omega)]
  intro H locs ls hL hP hD hS
  refine va_mmax C.1 C.2.1 (C.2.2.1.trans hL.1.symm) C.2.2.2.1 (hts _ hl) (hts _ hs) (hts _ hi) (hts _ hcode) (Nat.le_trans (Nat.le_of_ble_eq_true hf) C.2.2.2.2.2.2.2.2.2.2.2.1) (Nat.le_trans (Nat.le_of_ble_eq_true ho) C.2.2.2.2.2.2.2.2.2.2.2.2) C.2.2.2.2.2.2.2.2.1 C.2.2.2.2.2.2.2.2.2.1 d ?_
  rw [e]
  exact k H locs ls hL hP hD hS
theorem j_min (C : zC X G cc own nL ret rF rL) (d : zd cc pc pc' (.invokestatic idx) 3) (hl : Cond.methodLink own idx Lib.Math.min.name ∈ zTb) (hs : Cond.static Lib.Math.min.name ∈ zTb) (hi : Cond.initialized "java/lang/Math" ∈ zTb) (hcode : Cond.code Lib.Math.min.name Lib.Math.min.code 2 (some .int) ∈ zTb) (hf : Nat.ble 1 rF = true) (ho : Nat.ble ((st.map fun v => v.category).sum + 13) rL = true) {x y : Int} (hx : zR x) (hy : zR y) (k : zJ X G Q nL pc' L (.int (zI (min x y)) :: st) σ) : zJ X G Q nL pc L (.int (zI y) :: .int (zI x) :: st) σ := by
  obtain ⟨d, rfl⟩ := d
  have hts := C.2.2.2.2.1
  have e : (if zI y < zI x then zI y else zI x) = zI (min x y) := by
    by_cases h : y < x
    · rw [if_pos ((zI_lt hy hx).mpr h), Int.min_eq_right (by omega)]
    · rw [if_neg (fun q => h ((zI_lt hy hx).mp q)), Int.min_eq_left (by omega)]
  intro H locs ls hL hP hD hS
  refine va_mmin C.1 C.2.1 (C.2.2.1.trans hL.1.symm) C.2.2.2.1 (hts _ hl) (hts _ hs) (hts _ hi) (hts _ hcode) (Nat.le_trans (Nat.le_of_ble_eq_true hf) C.2.2.2.2.2.2.2.2.2.2.2.1) (Nat.le_trans (Nat.le_of_ble_eq_true ho) C.2.2.2.2.2.2.2.2.2.2.2.2) C.2.2.2.2.2.2.2.2.1 C.2.2.2.2.2.2.2.2.2.1 d ?_
  rw [e]
  exact k H locs ls hL hP hD hS
/-- n cells of the array a, from sp on, to the array b, from dp on -/
def zCp (σ : zM) (a b : Nat) (sp dp n : Int) : zM := fun q j => if q = b ∧ dp ≤ j ∧ j < dp + n then σ a (sp + (j - dp)) else σ q j
theorem zCp_rg {σ : zM} (h : zRM σ) (a b : Nat) (sp dp n : Int) : zRM (zCp σ a b sp dp n) := by
  intro q j
  unfold zCp
  split
  · exact h _ _
  · exact h _ _
theorem j_copy (C : zC X G cc own nL ret rF rL) {a b la lb : Nat} {sp dp m : Int} (d : zd cc pc pc' (.invokestatic idx) 3) (hl : Cond.methodLink own idx arraycopyName ∈ zTb) (hnat : Cond.native arraycopyName ∈ zTb) (hs : Cond.static arraycopyName ∈ zTb) (hi : Cond.initialized "java/lang/System" ∈ zTb) (hf : Nat.ble 1 rF = true) (ho : Nat.ble ((st.map fun v => v.category).sum + (nativeFrameWords "java/lang/System" "arraycopy" 5 + 11)) rL = true) (ha : zShp[a]? = some (.inl (0, la))) (hb : zShp[b]? = some (.inl (0, lb))) (h : 0 ≤ sp ∧ 0 ≤ dp ∧ 0 ≤ m ∧ sp + m ≤ (la : Int) ∧ dp + m ≤ (lb : Int)) (k : zJ X G Q nL pc' L st (zCp σ a b sp dp m)) : zJ X G Q nL pc L (.int (zI m) :: .int (zI dp) :: .ref (gad G b) :: .int (zI sp) :: .ref (gad G a) :: st) σ := by
  obtain ⟨d, rfl⟩ := d
  have hts := C.2.2.2.2.1
  obtain ⟨h1, h2, h3, h4, h5⟩ := h
  have la' := zLen ha
  have lb' := zLen hb
  have e1 : (zI sp).toNatClampNeg = sp.toNat := zI_clamp h1 (by omega)
  have e2 : (zI dp).toNatClampNeg = dp.toNat := zI_clamp h2 (by omega)
  have e3 : (zI m).toNatClampNeg = m.toNat := zI_clamp h3 (by omega)
  intro H locs ls hL hP hD hS
  refine va_copyi C.1 C.2.1 (C.2.2.1.trans hL.1.symm) C.2.2.2.1 (hts _ hl) (hts _ hnat) (hts _ hs) (hts _ hi) C.2.2.2.2.2.2.2.1.1 hP hD hS a b 0 0 (zWs_get ha) (zWs_get hb) rfl rfl rfl (zI_nn ⟨by omega, by omega⟩ h1) (zI_nn ⟨by omega, by omega⟩ h2) (zI_nn ⟨by omega, by omega⟩ h3) (by rw [e1, e3]; omega) (by rw [e2, e3]; omega) (fun _ _ => rfl) (Nat.le_trans (Nat.le_of_ble_eq_true hf) C.2.2.2.2.2.2.2.2.2.2.2.1) (Nat.le_trans (Nat.le_of_ble_eq_true ho) C.2.2.2.2.2.2.2.2.2.2.2.2) d (fun H1 locs1 hP1 hD1 hS1 => ?_)
  have e : (fun j : Nat => zI (zCp σ a b sp dp m b (j : Int))) = va_cpy (fun j : Nat => zI (σ a (j : Int))) (fun j : Nat => zI (σ b (j : Int))) sp.toNat dp.toNat m.toNat := by
    funext j
    unfold va_cpy zCp
    by_cases hj : dp.toNat ≤ j ∧ j < dp.toNat + m.toNat
    · rw [if_pos hj, if_pos ⟨rfl, by omega, by omega⟩]
      show zI _ = zI (σ a (_ : Int))
      rw [show ((sp.toNat + (j - dp.toNat) : Nat) : Int) = sp + ((j : Int) - dp) by omega]
    · rw [if_neg hj, if_neg (fun hh => hj (by omega))]
  rw [e1, e2, e3, zWs_set (ad := gad G) (ca := gca G) (σ := σ) (σ' := zCp σ a b sp dp m) hb (by rw [← e]; rfl) (fun q hq j => by unfold zCp; rw [if_neg (fun hh => hq hh.1)])] at hP1 hD1
  exact k H1 locs1 ls hL hP1 hD1 hS1
end J3
end
section
theorem zR_of {x : Int} (h : (decide (-2147483648 ≤ x) && decide (x ≤ 2147483647)) = true) : zR x := by
  simp only [Bool.and_eq_true, decide_eq_true_eq] at h
  exact h
theorem zIx {i : Int} {n : Nat} (h : (decide (0 ≤ i) && decide (i < (n : Int))) = true) : 0 ≤ i ∧ i < (n : Int) := by
  simp only [Bool.and_eq_true, decide_eq_true_eq] at h
  exact h
theorem zMod_rg {x y : Int} (hx : zR x) (h0 : 0 ≤ x) (hy : zR y) (hp : 0 < y) : zR (x % y) := by
  have h1 := Int.emod_nonneg x (by omega : y ≠ 0)
  have h2 := Int.emod_lt_of_pos x hp
  exact ⟨by omega, by have := hy.2; omega⟩
theorem zDiv_rg {x y : Int} (hx : zR x) (h0 : 0 ≤ x) (hy : zR y) (hp : 0 < y) : zR (x / y) := by
  have h1 : x / y ≤ x := Int.ediv_le_self y h0
  have h2 : 0 ≤ x / y := Int.ediv_nonneg h0 (by omega)
  exact ⟨by omega, by have := hx.2; omega⟩
theorem zMax_rg {x y : Int} (hx : zR x) (hy : zR y) : zR (max x y) := by
  unfold zR at *; omega
theorem zMin_rg {x y : Int} (hx : zR x) (hy : zR y) : zR (min x y) := by
  unfold zR at *; omega
theorem zR_nat {a : Nat} (h : a < 9) : zR (a : Int) := by unfold zR; omega
theorem j_mem {X : zX} {G : zG} {Q : State → Prop} {nL pc : Nat} {L : List (Nat × Value)} {st : List Value} {σ : zM} (k : ∀ τ : zM, τ = σ → zJ X G Q nL pc L st τ) : zJ X G Q nL pc L st σ := k σ rfl
def zOn (o : Nat) : Prop := zShp[o]? = some (.inr (4, [((o + 1 : Nat) : Int), ((o + 2 : Nat) : Int)])) ∧ zShp[o + 1]? = some (.inl (0, 1024)) ∧ zShp[o + 2]? = some (.inl (0, 8))
theorem zOn64 : zOn 64 := ⟨rfl, rfl, rfl⟩
theorem zOn67 : zOn 67 := ⟨rfl, rfl, rfl⟩
theorem zIf_no {a o x d : Int} {r : List (Int × Int)} (h : ¬ x = a) : Op.lookupswitch.offset ((a, o) :: r) d x = Op.lookupswitch.offset r d x := by
  rw [Op.lookupswitch.offset_cons, if_neg (fun e => h e.symm)]
theorem zLk4 {a1 a2 a3 a4 o1 o2 o3 o4 x d : Int} (h : ¬ x = a1 ∧ ¬ x = a2 ∧ ¬ x = a3 ∧ ¬ x = a4) : Op.lookupswitch.offset (#[(a1, o1), (a2, o2), (a3, o3), (a4, o4)] : Array (Int × Int)).toList d x = d := by
  show Op.lookupswitch.offset [(a1, o1), (a2, o2), (a3, o3), (a4, o4)] d x = d
  rw [zIf_no h.1, zIf_no h.2.1, zIf_no h.2.2.1, zIf_no h.2.2.2]
  rfl
def zFl (σ : zM) (n : Nat) (a b v : Int) : zM := fun q j => if q = n ∧ a ≤ j ∧ j < b then v else σ q j
theorem zFl_rg {σ : zM} (h : zRM σ) (n : Nat) (a b : Int) {v : Int} (hv : zR v) : zRM (zFl σ n a b v) := by
  intro q j
  unfold zFl
  split
  · exact hv
  · exact h q j
theorem zFl_0 (σ : zM) (n : Nat) (a v : Int) : zFl σ n a a v = σ := by
  funext q j
  unfold zFl
  rw [if_neg (fun h => by omega)]
theorem zFl_1 (σ : zM) (n : Nat) {a b : Int} (h : a ≤ b) (v : Int) : zU (zFl σ n a b v) n b v = zFl σ n a (b + 1) v := by
  funext q j
  unfold zFl zU
  by_cases hq : q = n ∧ j = b
  · rw [if_pos hq, if_pos ⟨hq.1, by omega, by omega⟩]
  · rw [if_neg hq]
    dsimp only
    by_cases hq2 : q = n ∧ a ≤ j ∧ j < b
    · rw [if_pos hq2, if_pos ⟨hq2.1, by omega, by omega⟩]
    · rw [if_neg hq2, if_neg (fun h => hq2 ⟨h.1, h.2.1, by have := h.2.2; have : ¬ j = b := fun e => hq ⟨h.1, e⟩; omega⟩)]
end
section
set_option maxRecDepth 100000 in
set_option maxHeartbeats 4000000 in
theorem w_Ar_fill_0_L5 {X : zX} {G : zG} (C : zC X G b_Ar_fill_0 "java/util/Arrays" 4 none 0 0) {σ0 : zM} {an len : Nat} (han : zShp[an]? = some (.inl (0, len))) {v : Int} (hv : zR v) : ∀ (k : Nat) (i : Int) (σ : zM), i = (len : Int) - k → 0 ≤ i → zRM σ → σ = zFl σ0 an 0 i v → zJ X G (zQv X G (fun u => u = zFl σ0 an 0 (len : Int) v)) 4 5 [(0, .ref (gad G an)), (1, .int (zI v)), (2, .int (zI i)), (3, .int (zI (len : Int)))] [] σ := by
  have hl := zLen han
  have hR : ∀ x : Int, 0 ≤ x → x ≤ (len : Int) → zR x := fun x h1 h2 => ⟨by omega, by omega⟩
  intro k
  induction k with
  | zero =>
    intro i σ hi h0 hσ e
    refine j_iload_n C d_Ar_fill_0_5 2 rfl rfl ?_
    refine j_iload_n C d_Ar_fill_0_6 3 rfl rfl ?_
    refine j_icmp_ge (tgt := 20) C d_Ar_fill_0_7 rfl (hR i h0 (by omega)) (hR _ (by omega) (by omega)) (fun c => ?_) (fun c => absurd (by omega) c)
    refine j_vreturn C d_Ar_fill_0_20 hσ ?_
    rw [e, show i = (len : Int) by omega]
  | succ k ih =>
    intro i σ hi h0 hσ e
    refine j_iload_n C d_Ar_fill_0_5 2 rfl rfl ?_
    refine j_iload_n C d_Ar_fill_0_6 3 rfl rfl ?_
    refine j_icmp_ge (tgt := 20) C d_Ar_fill_0_7 rfl (hR i h0 (by omega)) (hR _ (by omega) (by omega)) (fun c => absurd c (by omega)) (fun c => ?_)
    refine j_aload_n C d_Ar_fill_0_10 0 rfl rfl ?_
    refine j_iload_n C d_Ar_fill_0_11 2 rfl rfl ?_
    refine j_iload_n C d_Ar_fill_0_12 1 rfl rfl ?_
    refine j_iastore C d_Ar_fill_0_13 han ⟨h0, by omega⟩ ?_
    refine j_iinc (L' := [(2, .int (zI (i + 1))), (0, .ref (gad G an)), (1, .int (zI v)), (3, .int (zI (len : Int)))]) C d_Ar_fill_0_14 2 rfl rfl rfl ?_
    refine j_goto (tgt := 5) C d_Ar_fill_0_17 rfl ?_
    refine j_sub (L' := [(0, .ref (gad G an)), (1, .int (zI v)), (2, .int (zI (i + 1))), (3, .int (zI (len : Int)))]) [1, 2, 0, 3] rfl ?_
    exact ih (i + 1) _ (by omega) (by omega) (zU_rg hσ _ _ hv) (by rw [e, zFl_1 _ _ h0])
set_option maxRecDepth 100000 in
set_option maxHeartbeats 4000000 in
theorem c_Ar_fill_0 (l : Launch) (D : va_G) (ad : Nat → Nat) (ca : Nat → ClassId) {σ : zM} (hσ : zRM σ) {an len : Nat} (han : zShp[an]? = some (.inl (0, len))) {v : Int} (hv : zR v) : zCv l D ad ca y_Ar_fill_0 b_Ar_fill_0 4 (zrm 0 0) [.ref (ad an), .int (zI v)] σ (fun u => u = zFl σ an 0 (len : Int) v) := by
  refine zCv_of (by decide +kernel) (Nat.le_of_ble_eq_true rfl) ?_
  intro X G C hl hD had hca
  subst hl hD had hca
  have C : zC X G b_Ar_fill_0 "java/util/Arrays" 4 none 0 0 := C
  show zJ X G (zQv X G _) 4 0 [(0, .ref (gad G an)), (1, .int (zI v))] [] σ
  refine j_iconst C d_Ar_fill_0_0 ?_
  refine j_istore_n (L' := [(2, .int (zI 0)), (0, .ref (gad G an)), (1, .int (zI v))]) C d_Ar_fill_0_1 rfl rfl rfl ?_
  refine j_aload_n C d_Ar_fill_0_2 1 rfl rfl ?_
  refine j_alen C d_Ar_fill_0_3 han ?_
  refine j_istore_n (L' := [(3, .int (zI (len : Int))), (2, .int (zI 0)), (0, .ref (gad G an)), (1, .int (zI v))]) C d_Ar_fill_0_4 rfl rfl rfl ?_
  refine j_sub (L' := [(0, .ref (gad G an)), (1, .int (zI v)), (2, .int (zI 0)), (3, .int (zI (len : Int)))]) [2, 3, 1, 0] rfl ?_
  exact w_Ar_fill_0_L5 C han hv len 0 σ (by omega) (by omega) hσ (zFl_0 _ _ _ _).symm
set_option maxRecDepth 100000 in
set_option maxHeartbeats 4000000 in
theorem c_Ar_rangeCheck (l : Launch) (D : va_G) (ad : Nat → Nat) (ca : Nat → ClassId) {σ : zM} (hσ : zRM σ) {n a b : Int} (hn : zR n) (h : 0 ≤ a ∧ a ≤ b ∧ b ≤ n) : zCv l D ad ca y_Ar_rangeCheck b_Ar_rangeCheck 3 (zrm 0 0) [.int (zI n), .int (zI a), .int (zI b)] σ (fun u => u = σ) := by
  refine zCv_of (by decide +kernel) (Nat.le_of_ble_eq_true rfl) ?_
  intro X G C hl hD had hca
  subst hl hD had hca
  have C : zC X G b_Ar_rangeCheck "java/util/Arrays" 3 none 0 0 := C
  have hn2 := hn.2
  have ha : zR a := ⟨by omega, by omega⟩
  have hb : zR b := ⟨by omega, by omega⟩
  show zJ X G (zQv X G _) 3 0 [(0, .int (zI n)), (1, .int (zI a)), (2, .int (zI b))] [] σ
  refine j_iload_n C d_Ar_rangeCheck_0 1 rfl rfl ?_
  refine j_iload_n C d_Ar_rangeCheck_1 2 rfl rfl ?_
  refine j_icmp_le (tgt := 46) C d_Ar_rangeCheck_2 rfl ha hb (fun c => ?_) (fun c => absurd h.2.1 c)
  refine j_iload_n C d_Ar_rangeCheck_46 1 rfl rfl ?_
  refine j_if_ge (tgt := 59) C d_Ar_rangeCheck_47 rfl ha (fun c => ?_) (fun c => absurd h.1 c)
  refine j_iload_n C d_Ar_rangeCheck_59 2 rfl rfl ?_
  refine j_iload_n C d_Ar_rangeCheck_60 0 rfl rfl ?_
  refine j_icmp_le (tgt := 73) C d_Ar_rangeCheck_61 rfl hb hn (fun c => ?_) (fun c => absurd h.2.2 c)
  exact j_vreturn C d_Ar_rangeCheck_73 hσ rfl
set_option maxRecDepth 100000 in
set_option maxHeartbeats 4000000 in
theorem w_Ar_fill_1_L10 {X : zX} {G : zG} (C : zC X G b_Ar_fill_1 "java/util/Arrays" 5 none 1 22) {σ0 : zM} {an len : Nat} (han : zShp[an]? = some (.inl (0, len))) {v lo hi : Int} (hv : zR v) (h : 0 ≤ lo ∧ lo ≤ hi ∧ hi ≤ (len : Int)) : ∀ (k : Nat) (i : Int) (σ : zM), i = hi - k → lo ≤ i → zRM σ → σ = zFl σ0 an lo i v → zJ X G (zQv X G (fun u => u = zFl σ0 an lo hi v)) 5 10 [(0, .ref (gad G an)), (2, .int (zI hi)), (3, .int (zI v)), (4, .int (zI i))] [] σ := by
  have hl := zLen han
  have hR : ∀ x : Int, 0 ≤ x → x ≤ (len : Int) → zR x := fun x h1 h2 => ⟨by omega, by omega⟩
  intro k
  induction k with
  | zero =>
    intro i σ hE h0 hσ e
    refine j_iload C d_Ar_fill_1_10 3 rfl ?_
    refine j_iload_n C d_Ar_fill_1_12 1 rfl rfl ?_
    refine j_icmp_ge (tgt := 27) C d_Ar_fill_1_13 rfl (hR i (by omega) (by omega)) (hR _ (by omega) (by omega)) (fun c => ?_) (fun c => absurd (by omega) c)
    refine j_vreturn C d_Ar_fill_1_27 hσ ?_
    rw [e, show i = hi by omega]
  | succ k ih =>
    intro i σ hE h0 hσ e
    refine j_iload C d_Ar_fill_1_10 3 rfl ?_
    refine j_iload_n C d_Ar_fill_1_12 1 rfl rfl ?_
    refine j_icmp_ge (tgt := 27) C d_Ar_fill_1_13 rfl (hR i (by omega) (by omega)) (hR _ (by omega) (by omega)) (fun c => absurd c (by omega)) (fun c => ?_)
    refine j_aload_n C d_Ar_fill_1_16 0 rfl rfl ?_
    refine j_iload C d_Ar_fill_1_17 3 rfl ?_
    refine j_iload_n C d_Ar_fill_1_19 2 rfl rfl ?_
    refine j_iastore C d_Ar_fill_1_20 han ⟨by omega, by omega⟩ ?_
    refine j_iinc (L' := [(4, .int (zI (i + 1))), (0, .ref (gad G an)), (2, .int (zI _)), (3, .int (zI v))]) C d_Ar_fill_1_21 3 rfl rfl rfl ?_
    refine j_goto (tgt := 10) C d_Ar_fill_1_24 rfl ?_
    refine j_sub (L' := [(0, .ref (gad G an)), (2, .int (zI _)), (3, .int (zI v)), (4, .int (zI (i + 1)))]) [1, 2, 3, 0] rfl ?_
    exact ih (i + 1) _ (by omega) (by omega) (zU_rg hσ _ _ hv) (by rw [e, zFl_1 _ _ h0])
set_option maxRecDepth 100000 in
set_option maxHeartbeats 4000000 in
theorem c_Ar_fill_1 (l : Launch) (D : va_G) (ad : Nat → Nat) (ca : Nat → ClassId) {σ : zM} (hσ : zRM σ) {an len : Nat} (han : zShp[an]? = some (.inl (0, len))) {v lo hi : Int} (hv : zR v) (h : 0 ≤ lo ∧ lo ≤ hi ∧ hi ≤ (len : Int)) : zCv l D ad ca y_Ar_fill_1 b_Ar_fill_1 5 (zrm 1 22) [.ref (ad an), .int (zI lo), .int (zI hi), .int (zI v)] σ (fun u => u = zFl σ an lo hi v) := by
  refine zCv_of (by decide +kernel) (Nat.le_of_ble_eq_true rfl) ?_
  intro X G C hl hD had hca
  subst hl hD had hca
  have C : zC X G b_Ar_fill_1 "java/util/Arrays" 5 none 1 22 := C
  have hlen := zLen han
  show zJ X G (zQv X G _) 5 0 [(0, .ref (gad G an)), (1, .int (zI lo)), (2, .int (zI hi)), (3, .int (zI v))] [] σ
  refine j_aload_n C d_Ar_fill_1_0 0 rfl rfl ?_
  refine j_alen C d_Ar_fill_1_1 han ?_
  refine j_iload_n C d_Ar_fill_1_2 1 rfl rfl ?_
  refine j_iload_n C d_Ar_fill_1_3 2 rfl rfl ?_
  refine j_callSv C d_Ar_fill_1_4 ml_Ar_13 ms_Ar_rangeCheck (c_Ar_rangeCheck (xl X) (gD G) (gad G) (gca G) hσ (n := (len : Int)) ⟨by omega, by omega⟩ h) rfl rfl rfl rfl rfl (fun σ1 h1 e1 => ?_)
  subst e1
  refine j_iload_n C d_Ar_fill_1_7 1 rfl rfl ?_
  refine j_istore (L' := [(4, .int (zI lo)), (0, .ref (gad G an)), (1, .int (zI lo)), (2, .int (zI hi)), (3, .int (zI v))]) C d_Ar_fill_1_8 rfl rfl ?_
  refine j_sub (L' := [(0, .ref (gad G an)), (2, .int (zI hi)), (3, .int (zI v)), (4, .int (zI lo))]) [1, 3, 4, 0] rfl ?_
  exact w_Ar_fill_1_L10 C han hv h (hi - lo).toNat lo _ (by omega) (by omega) hσ (zFl_0 _ _ _ _).symm
end
section
def wp_X_count (σ : zM) (v1 : Int) (Q : Int → Prop) : Prop := ((v1 = 0 → Q (σ 0 5)) ∧ (v1 = 1 → Q (σ 0 6)) ∧ (v1 = 2 → Q (σ 0 7)) ∧ (v1 = 3 → Q (σ 54 5)) ∧ (v1 = 4 → Q (σ 58 1)) ∧ (v1 = 5 → Q (σ 54 2)) ∧ (v1 < 0 ∨ 5 < v1 → Q (-2)))
def wp_X_within (σ : zM) (v0 : Int) (v1 : Int) (v2 : Int) (Q : Int → Prop) : Prop := ((v0 < v1 → Q 0) ∧ (¬ v0 < v1 → ((v2 < v0 → Q 0) ∧ (¬ v2 < v0 → Q 1))))
def wp_X_isPlace (σ : zM) (v0 : Int) (Q : Int → Prop) : Prop := wp_X_within σ v0 0 7 (fun z1 => (z1 = 0 ∨ z1 = 1) ∧ Q z1)
def wp_S_ofRoads (σ : zM) (v1 : Int) (v2 : Int) (Q : Int → Prop) : Prop := (0 ≤ ((v1 * 11) + v2) ∧ ((v1 * 11) + v2) < 264) ∧ Q (σ 2 ((v1 * 11) + v2))
def wp_S_roadsWith_b32 (σ : zM) (v1 : Int) (v2 : Int) (k5 : Int → Int → Prop) (Q : Int → Prop) (v3 : Int) (v4 : Int) : Prop := zR (v4 + 1) ∧ k5 v3 (v4 + 1)
def wp_S_roadsWith_L5 (σ : zM) (v1 : Int) (v2 : Int) (Q : Int → Prop) : Nat → Int → Int → Prop
  | 0, _, _ => False
  | n + 1, v3, v4 => (((σ 0 5) ≤ v4 → Q v3) ∧ (¬ (σ 0 5) ≤ v4 → wp_S_ofRoads σ v4 v1 (fun z1 => ((¬ z1 = v2 → wp_S_roadsWith_b32 σ v1 v2 (wp_S_roadsWith_L5 σ v1 v2 Q n) Q v3 v4) ∧ (z1 = v2 → wp_S_roadsWith_b32 σ v1 v2 (wp_S_roadsWith_L5 σ v1 v2 Q n) Q (zOr v3 (zShl 1 v4)) v4)))))
def wp_S_roadsWith (σ : zM) (v1 : Int) (v2 : Int) (Q : Int → Prop) : Prop := ∃ n4, wp_S_roadsWith_L5 σ v1 v2 Q n4 0 0
def wp_S_ofTravellers (σ : zM) (v1 : Int) (v2 : Int) (Q : Int → Prop) : Prop := (0 ≤ ((v1 * 8) + v2) ∧ ((v1 * 8) + v2) < 80) ∧ Q (σ 5 ((v1 * 8) + v2))
def wp_S_travellersAt_b28 (σ : zM) (v1 : Int) (k4 : Int → Int → Prop) (Q : Int → Prop) (v2 : Int) (v3 : Int) : Prop := zR (v3 + 1) ∧ k4 v2 (v3 + 1)
def wp_S_travellersAt_L4 (σ : zM) (v1 : Int) (Q : Int → Prop) : Nat → Int → Int → Prop
  | 0, _, _ => False
  | n + 1, v2, v3 => (((σ 0 7) ≤ v3 → Q v2) ∧ (¬ (σ 0 7) ≤ v3 → wp_S_ofTravellers σ v3 0 (fun z1 => ((¬ z1 = v1 → wp_S_travellersAt_b28 σ v1 (wp_S_travellersAt_L4 σ v1 Q n) Q v2 v3) ∧ (z1 = v1 → wp_S_travellersAt_b28 σ v1 (wp_S_travellersAt_L4 σ v1 Q n) Q (zOr v2 (zShl 1 v3)) v3)))))
def wp_S_travellersAt (σ : zM) (v1 : Int) (Q : Int → Prop) : Prop := ∃ n4, wp_S_travellersAt_L4 σ v1 Q n4 0 0
def wp_S_ofRooms (σ : zM) (v1 : Int) (v2 : Int) (Q : Int → Prop) : Prop := (0 ≤ ((v1 * 3) + v2) ∧ ((v1 * 3) + v2) < 24) ∧ Q (σ 1 ((v1 * 3) + v2))
def wp_X_ofPlace (σ : zM) (v1 : Int) (v2 : Int) (Q : Int → Prop) : Prop := wp_X_isPlace σ v1 (fun z1 => ((¬ z1 = 0 → wp_X_within σ v2 0 5 (fun z3 => ((¬ z3 = 0 → ((¬ v2 = 3 → ((¬ v2 = 4 → ((¬ v2 = 5 → wp_S_ofRooms σ v1 v2 (fun z5 => Q z5)) ∧ (v2 = 5 → wp_S_travellersAt σ v1 (fun z7 => Q z7)))) ∧ (v2 = 4 → wp_S_roadsWith σ 1 v1 (fun z9 => Q z9)))) ∧ (v2 = 3 → wp_S_roadsWith σ 0 v1 (fun z11 => Q z11)))) ∧ (z3 = 0 → Q (-2))))) ∧ (z1 = 0 → Q (-1))))
def wp_S_hasRoad (σ : zM) (v1 : Int) (Q : Int → Prop) : Prop := ((v1 < 0 → Q 0) ∧ (¬ v1 < 0 → (((σ 0 5) ≤ v1 → Q 0) ∧ (¬ (σ 0 5) ≤ v1 → Q 1))))
def wp_S_ofClosures (σ : zM) (v1 : Int) (v2 : Int) (Q : Int → Prop) : Prop := (0 ≤ ((v1 * 3) + v2) ∧ ((v1 * 3) + v2) < 60) ∧ Q (σ 4 ((v1 * 3) + v2))
def wp_S_closuresOf_b25 (σ : zM) (v1 : Int) (k4 : Int → Int → Prop) (Q : Int → Prop) (v2 : Int) (v3 : Int) : Prop := zR (v3 + 1) ∧ k4 v2 (v3 + 1)
def wp_S_closuresOf_L4 (σ : zM) (v1 : Int) (Q : Int → Prop) : Nat → Int → Int → Prop
  | 0, _, _ => False
  | n + 1, v2, v3 => (((σ 0 6) ≤ v3 → Q v2) ∧ (¬ (σ 0 6) ≤ v3 → wp_S_ofClosures σ v3 0 (fun z1 => ((¬ z1 = v1 → wp_S_closuresOf_b25 σ v1 (wp_S_closuresOf_L4 σ v1 Q n) Q v2 v3) ∧ (z1 = v1 → zR (v2 + 1) ∧ wp_S_closuresOf_b25 σ v1 (wp_S_closuresOf_L4 σ v1 Q n) Q (v2 + 1) v3)))))
def wp_S_closuresOf (σ : zM) (v1 : Int) (Q : Int → Prop) : Prop := ∃ n5, wp_S_closuresOf_L4 σ v1 Q n5 0 0
def wp_X_ofRoad (σ : zM) (v1 : Int) (v2 : Int) (Q : Int → Prop) : Prop := wp_S_hasRoad σ v1 (fun z1 => ((¬ z1 = 0 → wp_X_within σ v2 0 12 (fun z3 => ((¬ z3 = 0 → ((¬ v2 = 11 → ((¬ v2 = 12 → wp_S_ofRoads σ v1 v2 (fun z5 => Q z5)) ∧ (v2 = 12 → (0 ≤ v1 ∧ v1 < 24) ∧ Q (σ 3 v1)))) ∧ (v2 = 11 → wp_S_closuresOf σ v1 (fun z8 => Q z8)))) ∧ (z3 = 0 → Q (-2))))) ∧ (z1 = 0 → Q (-1))))
def wp_S_hasClosure (σ : zM) (v1 : Int) (Q : Int → Prop) : Prop := ((v1 < 0 → Q 0) ∧ (¬ v1 < 0 → (((σ 0 6) ≤ v1 → Q 0) ∧ (¬ (σ 0 6) ≤ v1 → Q 1))))
def wp_X_ofClosure (σ : zM) (v1 : Int) (v2 : Int) (Q : Int → Prop) : Prop := wp_S_hasClosure σ v1 (fun z1 => ((¬ z1 = 0 → wp_X_within σ v2 0 2 (fun z3 => ((¬ z3 = 0 → wp_S_ofClosures σ v1 v2 (fun z5 => Q z5)) ∧ (z3 = 0 → Q (-2))))) ∧ (z1 = 0 → Q (-1))))
def wp_S_hasTraveller (σ : zM) (v1 : Int) (Q : Int → Prop) : Prop := ((v1 < 0 → Q 0) ∧ (¬ v1 < 0 → (((σ 0 7) ≤ v1 → Q 0) ∧ (¬ (σ 0 7) ≤ v1 → Q 1))))
def wp_X_ofTraveller (σ : zM) (v1 : Int) (v2 : Int) (Q : Int → Prop) : Prop := wp_S_hasTraveller σ v1 (fun z1 => ((¬ z1 = 0 → wp_X_within σ v2 0 7 (fun z3 => ((¬ z3 = 0 → wp_S_ofTravellers σ v1 v2 (fun z5 => Q z5)) ∧ (z3 = 0 → Q (-2))))) ∧ (z1 = 0 → Q (-1))))
def wp_S_copyFrom (σ : zM) (a : Nat) (b : Nat) (Q : zM → Prop) : Prop := (0 ≤ (0 : Int) ∧ 0 ≤ (0 : Int) ∧ 0 ≤ (24 : Int) ∧ (0 : Int) + (24 : Int) ≤ 24 ∧ (0 : Int) + (24 : Int) ≤ 24) ∧ ∀ σ2 : zM, σ2 = zCp σ (6 * b + 1) (6 * a + 1) 0 0 24 → (0 ≤ (0 : Int) ∧ 0 ≤ (0 : Int) ∧ 0 ≤ (264 : Int) ∧ (0 : Int) + (264 : Int) ≤ 264 ∧ (0 : Int) + (264 : Int) ≤ 264) ∧ ∀ σ4 : zM, σ4 = zCp σ2 (6 * b + 2) (6 * a + 2) 0 0 264 → (0 ≤ (0 : Int) ∧ 0 ≤ (0 : Int) ∧ 0 ≤ (24 : Int) ∧ (0 : Int) + (24 : Int) ≤ 24 ∧ (0 : Int) + (24 : Int) ≤ 24) ∧ ∀ σ6 : zM, σ6 = zCp σ4 (6 * b + 3) (6 * a + 3) 0 0 24 → (0 ≤ (0 : Int) ∧ 0 ≤ (0 : Int) ∧ 0 ≤ (60 : Int) ∧ (0 : Int) + (60 : Int) ≤ 60 ∧ (0 : Int) + (60 : Int) ≤ 60) ∧ ∀ σ8 : zM, σ8 = zCp σ6 (6 * b + 4) (6 * a + 4) 0 0 60 → (0 ≤ (0 : Int) ∧ 0 ≤ (0 : Int) ∧ 0 ≤ (80 : Int) ∧ (0 : Int) + (80 : Int) ≤ 80 ∧ (0 : Int) + (80 : Int) ≤ 80) ∧ ∀ σ10 : zM, σ10 = zCp σ8 (6 * b + 5) (6 * a + 5) 0 0 80 → ∀ σ11 : zM, σ11 = zU σ10 (6 * a) 5 (σ10 (6 * b) 5) → ∀ σ12 : zM, σ12 = zU σ11 (6 * a) 6 (σ11 (6 * b) 6) → ∀ σ13 : zM, σ13 = zU σ12 (6 * a) 7 (σ12 (6 * b) 7) → Q σ13
def wp_X_remember_b72 (Q : zM → Prop) (σ : zM) : Prop := (0 ≤ (σ 54 2) ∧ (σ 54 2) < 6) ∧ ((σ 55 (σ 54 2)).toNat < 9) ∧ wp_S_copyFrom σ ((σ 55 (σ 54 2)).toNat) 0 (fun σ5 => zR ((σ5 54 2) + 1) ∧ ∀ σ7 : zM, σ7 = zU σ5 54 2 ((σ5 54 2) + 1) → Q σ7)
def wp_X_remember_L34 (w1 : Nat) (Q : zM → Prop) : Nat → zM → Int → Prop
  | 0, _, _ => False
  | n + 1, σ, v2 => ((6 ≤ v2 → ∀ σ9 : zM, σ9 = zU σ 55 5 (w1 : Int) → ∀ σ10 : zM, σ10 = zU σ9 54 2 5 → wp_X_remember_b72 Q σ10) ∧ (¬ 6 ≤ v2 → (0 ≤ v2 ∧ v2 < 6) ∧ ((σ 55 v2).toNat < 9) ∧ (0 ≤ (v2 - 1) ∧ (v2 - 1) < 6) ∧ ∀ σ14 : zM, σ14 = zU σ 55 (v2 - 1) ((σ 55 v2).toNat : Int) → zR (v2 + 1) ∧ wp_X_remember_L34 w1 Q n σ14 (v2 + 1)))
def wp_X_remember (σ : zM) (Q : zM → Prop) : Prop := ∀ σ1 : zM, σ1 = zU σ 62 1 0 → (((σ1 54 7) = 0 → (((σ1 54 2) < 6 → wp_X_remember_b72 Q σ1) ∧ (¬ (σ1 54 2) < 6 → ((σ1 55 0).toNat < 9) ∧ ∃ n16, wp_X_remember_L34 ((σ1 55 0).toNat) Q n16 σ1 1))) ∧ (¬ (σ1 54 7) = 0 → Q σ1))
def wp_X_room (σ : zM) (v1 : Int) (v2 : Int) (v3 : Int) (v4 : Int) (Q : Int → zM → Prop) : Prop := wp_X_isPlace σ v1 (fun z1 => ((¬ z1 = 0 → wp_X_within σ v2 0 1440 (fun z3 => ((z3 = 0 → Q (-2) σ) ∧ (¬ z3 = 0 → wp_X_within σ v3 v2 1440 (fun z5 => ((z5 = 0 → Q (-2) σ) ∧ (¬ z5 = 0 → wp_X_within σ v4 0 1000 (fun z7 => ((¬ z7 = 0 → wp_X_remember σ (fun σ10 => zR (v1 * 3) ∧ (0 ≤ ((v1 * 3) + 2) ∧ ((v1 * 3) + 2) < 24) ∧ (0 ≤ ((v1 * 3) + 0) ∧ ((v1 * 3) + 0) < 24) ∧ ∀ σ14 : zM, σ14 = zU σ10 1 ((v1 * 3) + 0) v2 → (0 ≤ ((v1 * 3) + 1) ∧ ((v1 * 3) + 1) < 24) ∧ ∀ σ16 : zM, σ16 = zU σ14 1 ((v1 * 3) + 1) v3 → (0 ≤ ((v1 * 3) + 2) ∧ ((v1 * 3) + 2) < 24) ∧ ∀ σ18 : zM, σ18 = zU σ16 1 ((v1 * 3) + 2) v4 → Q (σ10 1 ((v1 * 3) + 2)) σ18)) ∧ (z7 = 0 → Q (-2) σ)))))))))) ∧ (z1 = 0 → Q (-1) σ)))
def wp_S_dropSpans (σ : zM) (v1 : Int) (v2 : Int) (Q : zM → Prop) : Prop := zR (v1 * 11) ∧ (0 ≤ ((v1 * 11) + 3) ∧ ((v1 * 11) + 3) < 264) ∧ ∀ σ3 : zM, σ3 = zU σ 2 ((v1 * 11) + 3) v2 → (0 ≤ ((v1 * 11) + 4) ∧ ((v1 * 11) + 4) < 264) ∧ ∀ σ5 : zM, σ5 = zU σ3 2 ((v1 * 11) + 4) 0 → zR ((v1 * 11) + 5) ∧ zR ((v1 * 11) + 11) ∧ (0 ≤ ((v1 * 11) + 5) ∧ ((v1 * 11) + 5) ≤ ((v1 * 11) + 11) ∧ ((v1 * 11) + 11) ≤ 264) ∧ ∀ σ9 : zM, σ9 = zFl σ5 2 ((v1 * 11) + 5) ((v1 * 11) + 11) (-6) → Q σ9
def wp_S_spanFrom (σ : zM) (v1 : Int) (v2 : Int) (Q : Int → Prop) : Prop := (0 ≤ (((v1 * 11) + 5) + (2 * v2)) ∧ (((v1 * 11) + 5) + (2 * v2)) < 264) ∧ Q (σ 2 (((v1 * 11) + 5) + (2 * v2)))
def wp_S_spanTo (σ : zM) (v1 : Int) (v2 : Int) (Q : Int → Prop) : Prop := (0 ≤ ((((v1 * 11) + 5) + (2 * v2)) + 1) ∧ ((((v1 * 11) + 5) + (2 * v2)) + 1) < 264) ∧ Q (σ 2 ((((v1 * 11) + 5) + (2 * v2)) + 1))
def wp_S_addSpan_L27 (v1 : Int) (v2 : Int) (v3 : Int) (v4 : Int) (v5 : Int) (k95 : zM → Int → Prop) (Q : zM → Prop) : Nat → zM → Int → Prop
  | 0, _, _ => False
  | n + 1, σ, v6 => ((v6 ≤ 0 → k95 σ v6) ∧ (¬ v6 ≤ 0 → zR (v6 - 1) ∧ wp_S_spanFrom σ v1 (v6 - 1) (fun z5 => ((z5 ≤ v2 → k95 σ v6) ∧ (¬ z5 ≤ v2 → zR (v6 - 1) ∧ wp_S_spanFrom σ v1 (v6 - 1) (fun z8 => (0 ≤ (v5 + (2 * v6)) ∧ (v5 + (2 * v6)) < 264) ∧ ∀ σ11 : zM, σ11 = zU σ 2 (v5 + (2 * v6)) z8 → zR (v6 - 1) ∧ wp_S_spanTo σ11 v1 (v6 - 1) (fun z13 => (0 ≤ ((v5 + (2 * v6)) + 1) ∧ ((v5 + (2 * v6)) + 1) < 264) ∧ ∀ σ16 : zM, σ16 = zU σ11 2 ((v5 + (2 * v6)) + 1) z13 → zR (v6 + (-1)) ∧ wp_S_addSpan_L27 v1 v2 v3 v4 v5 k95 Q n σ16 (v6 + (-1)))))))))
def wp_S_addSpan_b95 (Q : zM → Prop) (σ : zM) (v1 : Int) (v2 : Int) (v3 : Int) (v4 : Int) (v5 : Int) (v6 : Int) : Prop := (0 ≤ (v5 + (2 * v6)) ∧ (v5 + (2 * v6)) < 264) ∧ ∀ σ21 : zM, σ21 = zU σ 2 (v5 + (2 * v6)) v2 → (0 ≤ ((v5 + (2 * v6)) + 1) ∧ ((v5 + (2 * v6)) + 1) < 264) ∧ ∀ σ23 : zM, σ23 = zU σ21 2 ((v5 + (2 * v6)) + 1) v3 → (0 ≤ ((v1 * 11) + 4) ∧ ((v1 * 11) + 4) < 264) ∧ zR (v4 + 1) ∧ ∀ σ26 : zM, σ26 = zU σ23 2 ((v1 * 11) + 4) (v4 + 1) → Q σ26
def wp_S_addSpan (σ : zM) (v1 : Int) (v2 : Int) (v3 : Int) (Q : zM → Prop) : Prop := wp_S_ofRoads σ v1 4 (fun z1 => ((z1 < 3 → zR ((v1 * 11) + 5) ∧ ∃ n27, wp_S_addSpan_L27 v1 v2 v3 z1 ((v1 * 11) + 5) (fun σ18 u19 => wp_S_addSpan_b95 Q σ18 v1 v2 v3 z1 ((v1 * 11) + 5) u19) Q n27 σ z1) ∧ (¬ z1 < 3 → Q σ)))
def wp_S_addRoad (σ : zM) (v1 : Int) (v2 : Int) (v3 : Int) (Q : Int → zM → Prop) : Prop := zR ((σ 0 5) * 11) ∧ (0 ≤ (((σ 0 5) * 11) + 0) ∧ (((σ 0 5) * 11) + 0) < 264) ∧ ∀ σ3 : zM, σ3 = zU σ 2 (((σ 0 5) * 11) + 0) v1 → (0 ≤ (((σ 0 5) * 11) + 1) ∧ (((σ 0 5) * 11) + 1) < 264) ∧ ∀ σ5 : zM, σ5 = zU σ3 2 (((σ 0 5) * 11) + 1) v2 → (0 ≤ (((σ 0 5) * 11) + 2) ∧ (((σ 0 5) * 11) + 2) < 264) ∧ ∀ σ7 : zM, σ7 = zU σ5 2 (((σ 0 5) * 11) + 2) v3 → (0 ≤ (σ 0 5) ∧ (σ 0 5) < 24) ∧ ∀ σ9 : zM, σ9 = zU σ7 3 (σ 0 5) 0 → zR ((σ9 0 5) + 1) ∧ ∀ σ11 : zM, σ11 = zU σ9 0 5 ((σ9 0 5) + 1) → wp_S_dropSpans σ11 (σ 0 5) 0 (fun σ13 => wp_S_addSpan σ13 (σ 0 5) 0 1440 (fun σ15 => Q (σ 0 5) σ15))
def wp_X_road (σ : zM) (v1 : Int) (v2 : Int) (v3 : Int) (Q : Int → zM → Prop) : Prop := wp_X_isPlace σ v1 (fun z1 => ((z1 = 0 → Q (-1) σ) ∧ (¬ z1 = 0 → wp_X_isPlace σ v2 (fun z3 => ((z3 = 0 → Q (-1) σ) ∧ (¬ z3 = 0 → ((¬ v1 = v2 → wp_X_within σ v3 1 600 (fun z5 => ((¬ z5 = 0 → (((σ 0 5) < 24 → wp_X_remember σ (fun σ8 => wp_S_addRoad σ8 v1 v2 v3 (fun z9 σ10 => Q z9 σ10))) ∧ (¬ (σ 0 5) < 24 → Q (-4) σ))) ∧ (z5 = 0 → Q (-2) σ)))) ∧ (v1 = v2 → Q (-1) σ))))))))
def wp_X_isSpan (σ : zM) (v0 : Int) (v1 : Int) (v2 : Int) (Q : Int → Prop) : Prop := zR (v2 - 1) ∧ wp_X_within σ v0 0 (v2 - 1) (fun z2 => ((z2 = 0 → Q 0) ∧ (¬ z2 = 0 → zR (v0 + 1) ∧ wp_X_within σ v1 (v0 + 1) v2 (fun z5 => ((z5 = 0 → Q 0) ∧ (¬ z5 = 0 → Q 1))))))
def wp_X_open (σ : zM) (v1 : Int) (v2 : Int) (v3 : Int) (v4 : Int) (Q : Int → zM → Prop) : Prop := wp_S_hasRoad σ v1 (fun z1 => ((¬ z1 = 0 → wp_X_isSpan σ v2 v3 1440 (fun z3 => ((z3 = 0 → Q (-2) σ) ∧ (¬ z3 = 0 → wp_X_within σ v4 0 1 (fun z5 => ((¬ z5 = 0 → wp_X_remember σ (fun σ8 => wp_S_ofRoads σ8 v1 4 (fun z9 => wp_S_dropSpans σ8 v1 v4 (fun σ12 => wp_S_addSpan σ12 v1 v2 v3 (fun σ14 => Q z9 σ14))))) ∧ (z5 = 0 → Q (-2) σ))))))) ∧ (z1 = 0 → Q (-1) σ)))
def wp_S_meetsSpan_b42 (σ : zM) (v1 : Int) (v2 : Int) (v3 : Int) (v4 : Int) (k11 : Int → Prop) (Q : Int → Prop) (v5 : Int) : Prop := zR (v5 + 1) ∧ k11 (v5 + 1)
def wp_S_meetsSpan_L11 (σ : zM) (v1 : Int) (v2 : Int) (v3 : Int) (v4 : Int) (Q : Int → Prop) : Nat → Int → Prop
  | 0, _ => False
  | n + 1, v5 => ((v4 ≤ v5 → Q 0) ∧ (¬ v4 ≤ v5 → wp_S_spanTo σ v1 v5 (fun z3 => ((z3 ≤ v2 → wp_S_meetsSpan_b42 σ v1 v2 v3 v4 (wp_S_meetsSpan_L11 σ v1 v2 v3 v4 Q n) Q v5) ∧ (¬ z3 ≤ v2 → wp_S_spanFrom σ v1 v5 (fun z6 => ((v3 ≤ z6 → wp_S_meetsSpan_b42 σ v1 v2 v3 v4 (wp_S_meetsSpan_L11 σ v1 v2 v3 v4 Q n) Q v5) ∧ (¬ v3 ≤ z6 → Q 1))))))))
def wp_S_meetsSpan (σ : zM) (v1 : Int) (v2 : Int) (v3 : Int) (Q : Int → Prop) : Prop := wp_S_ofRoads σ v1 4 (fun z1 => ∃ n8, wp_S_meetsSpan_L11 σ v1 v2 v3 z1 Q n8 0)
def wp_X_more (σ : zM) (v1 : Int) (v2 : Int) (v3 : Int) (Q : Int → zM → Prop) : Prop := wp_S_hasRoad σ v1 (fun z1 => ((¬ z1 = 0 → wp_X_isSpan σ v2 v3 1440 (fun z3 => ((z3 = 0 → Q (-2) σ) ∧ (¬ z3 = 0 → wp_S_meetsSpan σ v1 v2 v3 (fun z5 => ((z5 = 0 → wp_S_ofRoads σ v1 4 (fun z7 => ((z7 < 3 → wp_X_remember σ (fun σ10 => wp_S_addSpan σ10 v1 v2 v3 (fun σ12 => wp_S_ofRoads σ12 v1 4 (fun z13 => Q z13 σ12)))) ∧ (¬ z7 < 3 → Q (-4) σ)))) ∧ (¬ z5 = 0 → Q (-2) σ))))))) ∧ (z1 = 0 → Q (-1) σ)))
def wp_S_addClosure (σ : zM) (v1 : Int) (v2 : Int) (v3 : Int) (Q : Int → zM → Prop) : Prop := zR ((σ 0 6) * 3) ∧ (0 ≤ (((σ 0 6) * 3) + 0) ∧ (((σ 0 6) * 3) + 0) < 60) ∧ ∀ σ3 : zM, σ3 = zU σ 4 (((σ 0 6) * 3) + 0) v1 → (0 ≤ (((σ 0 6) * 3) + 1) ∧ (((σ 0 6) * 3) + 1) < 60) ∧ ∀ σ5 : zM, σ5 = zU σ3 4 (((σ 0 6) * 3) + 1) v2 → (0 ≤ (((σ 0 6) * 3) + 2) ∧ (((σ 0 6) * 3) + 2) < 60) ∧ ∀ σ7 : zM, σ7 = zU σ5 4 (((σ 0 6) * 3) + 2) v3 → zR ((σ7 0 6) + 1) ∧ ∀ σ9 : zM, σ9 = zU σ7 0 6 ((σ7 0 6) + 1) → zR ((σ9 0 6) - 1) ∧ Q ((σ9 0 6) - 1) σ9
def wp_X_close (σ : zM) (v1 : Int) (v2 : Int) (v3 : Int) (Q : Int → zM → Prop) : Prop := wp_S_hasRoad σ v1 (fun z1 => ((¬ z1 = 0 → wp_X_isSpan σ v2 v3 2880 (fun z3 => ((¬ z3 = 0 → (((σ 0 6) < 20 → wp_X_remember σ (fun σ6 => wp_S_addClosure σ6 v1 v2 v3 (fun z7 σ8 => Q z7 σ8))) ∧ (¬ (σ 0 6) < 20 → Q (-4) σ))) ∧ (z3 = 0 → Q (-2) σ)))) ∧ (z1 = 0 → Q (-1) σ)))
def wp_S_dropClosure (σ : zM) (v1 : Int) (Q : zM → Prop) : Prop := zR ((v1 + 1) * 3) ∧ (0 ≤ ((v1 + 1) * 3) ∧ 0 ≤ (((v1 + 1) * 3) - 3) ∧ 0 ≤ (((σ 0 6) * 3) - ((v1 + 1) * 3)) ∧ ((v1 + 1) * 3) + (((σ 0 6) * 3) - ((v1 + 1) * 3)) ≤ 60 ∧ (((v1 + 1) * 3) - 3) + (((σ 0 6) * 3) - ((v1 + 1) * 3)) ≤ 60) ∧ ∀ σ3 : zM, σ3 = zCp σ 4 4 ((v1 + 1) * 3) (((v1 + 1) * 3) - 3) (((σ 0 6) * 3) - ((v1 + 1) * 3)) → zR ((σ3 0 6) - 1) ∧ ∀ σ5 : zM, σ5 = zU σ3 0 6 ((σ3 0 6) - 1) → Q σ5
def wp_X_lift (σ : zM) (v1 : Int) (Q : Int → zM → Prop) : Prop := wp_S_hasClosure σ v1 (fun z1 => ((¬ z1 = 0 → wp_X_remember σ (fun σ4 => wp_S_dropClosure σ4 v1 (fun σ6 => Q (σ6 0 6) σ6))) ∧ (z1 = 0 → Q (-1) σ)))
def wp_S_addTraveller (σ : zM) (v1 : Int) (v2 : Int) (Q : Int → zM → Prop) : Prop := zR ((σ 0 7) * 8) ∧ zR (((σ 0 7) * 8) + 8) ∧ (0 ≤ ((σ 0 7) * 8) ∧ ((σ 0 7) * 8) ≤ (((σ 0 7) * 8) + 8) ∧ (((σ 0 7) * 8) + 8) ≤ 80) ∧ ∀ σ4 : zM, σ4 = zFl σ 5 ((σ 0 7) * 8) (((σ 0 7) * 8) + 8) 0 → (0 ≤ (((σ 0 7) * 8) + 0) ∧ (((σ 0 7) * 8) + 0) < 80) ∧ ∀ σ6 : zM, σ6 = zU σ4 5 (((σ 0 7) * 8) + 0) v1 → (0 ≤ (((σ 0 7) * 8) + 1) ∧ (((σ 0 7) * 8) + 1) < 80) ∧ ∀ σ8 : zM, σ8 = zU σ6 5 (((σ 0 7) * 8) + 1) v2 → (0 ≤ (((σ 0 7) * 8) + 2) ∧ (((σ 0 7) * 8) + 2) < 80) ∧ ∀ σ10 : zM, σ10 = zU σ8 5 (((σ 0 7) * 8) + 2) v2 → (0 ≤ (((σ 0 7) * 8) + 6) ∧ (((σ 0 7) * 8) + 6) < 80) ∧ ∀ σ12 : zM, σ12 = zU σ10 5 (((σ 0 7) * 8) + 6) v1 → (0 ≤ (((σ 0 7) * 8) + 7) ∧ (((σ 0 7) * 8) + 7) < 80) ∧ ∀ σ14 : zM, σ14 = zU σ12 5 (((σ 0 7) * 8) + 7) v2 → zR ((σ14 0 7) + 1) ∧ ∀ σ16 : zM, σ16 = zU σ14 0 7 ((σ14 0 7) + 1) → zR ((σ16 0 7) - 1) ∧ Q ((σ16 0 7) - 1) σ16
def wp_X_traveller (σ : zM) (v1 : Int) (v2 : Int) (Q : Int → zM → Prop) : Prop := wp_X_isPlace σ v1 (fun z1 => ((¬ z1 = 0 → wp_X_within σ v2 0 2880 (fun z3 => ((¬ z3 = 0 → (((σ 0 7) < 10 → wp_X_remember σ (fun σ6 => wp_S_addTraveller σ6 v1 v2 (fun z7 σ8 => Q z7 σ8))) ∧ (¬ (σ 0 7) < 10 → Q (-4) σ))) ∧ (z3 = 0 → Q (-2) σ)))) ∧ (z1 = 0 → Q (-1) σ)))
def wp_S_spanEnd_b46 (σ : zM) (v1 : Int) (v2 : Int) (v3 : Int) (k10 : Int → Prop) (Q : Int → Prop) (v4 : Int) : Prop := zR (v4 + 1) ∧ k10 (v4 + 1)
def wp_S_spanEnd_L10 (σ : zM) (v1 : Int) (v2 : Int) (v3 : Int) (Q : Int → Prop) : Nat → Int → Prop
  | 0, _ => False
  | n + 1, v4 => ((v3 ≤ v4 → Q (-6)) ∧ (¬ v3 ≤ v4 → wp_S_spanFrom σ v1 v4 (fun z3 => ((v2 < z3 → wp_S_spanEnd_b46 σ v1 v2 v3 (wp_S_spanEnd_L10 σ v1 v2 v3 Q n) Q v4) ∧ (¬ v2 < z3 → wp_S_spanTo σ v1 v4 (fun z6 => ((z6 ≤ v2 → wp_S_spanEnd_b46 σ v1 v2 v3 (wp_S_spanEnd_L10 σ v1 v2 v3 Q n) Q v4) ∧ (¬ z6 ≤ v2 → wp_S_spanTo σ v1 v4 (fun z8 => Q z8)))))))))
def wp_S_spanEnd (σ : zM) (v1 : Int) (v2 : Int) (Q : Int → Prop) : Prop := wp_S_ofRoads σ v1 4 (fun z1 => ∃ n10, wp_S_spanEnd_L10 σ v1 v2 z1 Q n10 0)
def wp_S_closedAt_b42 (σ : zM) (v1 : Int) (v2 : Int) (k2 : Int → Prop) (Q : Int → Prop) (v3 : Int) : Prop := zR (v3 + 1) ∧ k2 (v3 + 1)
def wp_S_closedAt_L2 (σ : zM) (v1 : Int) (v2 : Int) (Q : Int → Prop) : Nat → Int → Prop
  | 0, _ => False
  | n + 1, v3 => (((σ 0 6) ≤ v3 → Q 0) ∧ (¬ (σ 0 6) ≤ v3 → wp_S_ofClosures σ v3 0 (fun z1 => ((¬ z1 = v1 → wp_S_closedAt_b42 σ v1 v2 (wp_S_closedAt_L2 σ v1 v2 Q n) Q v3) ∧ (z1 = v1 → wp_S_ofClosures σ v3 1 (fun z4 => ((v2 < z4 → wp_S_closedAt_b42 σ v1 v2 (wp_S_closedAt_L2 σ v1 v2 Q n) Q v3) ∧ (¬ v2 < z4 → wp_S_ofClosures σ v3 2 (fun z6 => ((z6 ≤ v2 → wp_S_closedAt_b42 σ v1 v2 (wp_S_closedAt_L2 σ v1 v2 Q n) Q v3) ∧ (¬ z6 ≤ v2 → Q 1)))))))))))
def wp_S_closedAt (σ : zM) (v1 : Int) (v2 : Int) (Q : Int → Prop) : Prop := ∃ n8, wp_S_closedAt_L2 σ v1 v2 Q n8 0
def wp_S_whyNoEntry_b51 (σ : zM) (Q : Int → Prop) (v1 : Int) (v2 : Int) (v5 : Int) : Prop := wp_S_closedAt σ v1 v2 (fun z8 => ((z8 = 0 → zR (v2 + v5) ∧ (((v2 + v5) ≤ 2880 → Q 0) ∧ (¬ (v2 + v5) ≤ 2880 → Q 5))) ∧ (¬ z8 = 0 → Q 4)))
def wp_S_whyNoEntry (σ : zM) (v1 : Int) (v2 : Int) (Q : Int → Prop) : Prop := (0 ≤ v2) ∧ wp_S_spanEnd σ v1 (v2 % 1440) (fun z2 => ((¬ z2 = (-6) → wp_S_ofRoads σ v1 2 (fun z4 => wp_S_ofRoads σ v1 3 (fun z6 => ((z6 = 0 → wp_S_whyNoEntry_b51 σ Q v1 v2 z4) ∧ (¬ z6 = 0 → zR ((v2 % 1440) + z4) ∧ ((((v2 % 1440) + z4) ≤ z2 → wp_S_whyNoEntry_b51 σ Q v1 v2 z4) ∧ (¬ ((v2 % 1440) + z4) ≤ z2 → Q 3))))))) ∧ (z2 = (-6) → Q 2)))
def wp_S_whyNoGoing (σ : zM) (v1 : Int) (v2 : Int) (Q : Int → Prop) : Prop := wp_S_ofRoads σ v2 0 (fun z1 => wp_S_ofTravellers σ v1 0 (fun z3 => ((z1 = z3 → wp_S_ofTravellers σ v1 1 (fun z5 => wp_S_whyNoEntry σ v2 z5 (fun z7 => Q z7))) ∧ (¬ z1 = z3 → Q 1))))
def wp_X_refuse (σ : zM) (v1 : Int) (Q : Int → zM → Prop) : Prop := ∀ σ1 : zM, σ1 = zU σ 54 5 v1 → Q (-5) σ1
def wp_S_enter (σ : zM) (v1 : Int) (v2 : Int) (Q : Int → zM → Prop) : Prop := zR (v1 * 8) ∧ wp_S_ofRoads σ v2 2 (fun z2 => (0 ≤ ((v1 * 8) + 1) ∧ ((v1 * 8) + 1) < 80) ∧ zR ((σ 5 ((v1 * 8) + 1)) + z2) ∧ wp_S_ofRoads σ v2 1 (fun z6 => (0 ≤ ((v1 * 8) + 0) ∧ ((v1 * 8) + 0) < 80) ∧ ∀ σ9 : zM, σ9 = zU σ 5 ((v1 * 8) + 0) z6 → (0 ≤ ((v1 * 8) + 1) ∧ ((v1 * 8) + 1) < 80) ∧ ∀ σ11 : zM, σ11 = zU σ9 5 ((v1 * 8) + 1) ((σ 5 ((v1 * 8) + 1)) + z2) → (0 ≤ ((v1 * 8) + 2) ∧ ((v1 * 8) + 2) < 80) ∧ ∀ σ13 : zM, σ13 = zU σ11 5 ((v1 * 8) + 2) ((σ 5 ((v1 * 8) + 1)) + z2) → (0 ≤ ((v1 * 8) + 3) ∧ ((v1 * 8) + 3) < 80) ∧ (0 ≤ ((v1 * 8) + 3) ∧ ((v1 * 8) + 3) < 80) ∧ zR ((σ13 5 ((v1 * 8) + 3)) + 1) ∧ ∀ σ17 : zM, σ17 = zU σ13 5 ((v1 * 8) + 3) ((σ13 5 ((v1 * 8) + 3)) + 1) → (0 ≤ ((v1 * 8) + 5) ∧ ((v1 * 8) + 5) < 80) ∧ (0 ≤ ((v1 * 8) + 5) ∧ ((v1 * 8) + 5) < 80) ∧ zR ((σ17 5 ((v1 * 8) + 5)) + z2) ∧ ∀ σ21 : zM, σ21 = zU σ17 5 ((v1 * 8) + 5) ((σ17 5 ((v1 * 8) + 5)) + z2) → (0 ≤ v2 ∧ v2 < 24) ∧ (0 ≤ v2 ∧ v2 < 24) ∧ zR ((σ21 3 v2) + 1) ∧ ∀ σ25 : zM, σ25 = zU σ21 3 v2 ((σ21 3 v2) + 1) → Q ((σ 5 ((v1 * 8) + 1)) + z2) σ25))
def wp_X_go (σ : zM) (v1 : Int) (v2 : Int) (Q : Int → zM → Prop) : Prop := wp_S_hasTraveller σ v1 (fun z1 => ((z1 = 0 → Q (-1) σ) ∧ (¬ z1 = 0 → wp_S_hasRoad σ v2 (fun z3 => ((¬ z3 = 0 → wp_S_whyNoGoing σ v1 v2 (fun z5 => ((z5 = 0 → wp_X_remember σ (fun σ8 => wp_S_enter σ8 v1 v2 (fun z9 σ10 => Q z9 σ10))) ∧ (¬ z5 = 0 → wp_X_refuse σ z5 (fun z11 σ12 => Q z11 σ12))))) ∧ (z3 = 0 → Q (-1) σ))))))
def wp_S_openUntil_b31 (σ : zM) (Q : Int → Prop) (v2 : Int) (v3 : Int) (v4 : Int) : Prop := (0 ≤ v2) ∧ (((v2 % 1440) < v3 → Q v2) ∧ (¬ (v2 % 1440) < v3 → ((v4 ≤ (v2 % 1440) → Q v2) ∧ (¬ v4 ≤ (v2 % 1440) → zR ((v2 - (v2 % 1440)) + v4) ∧ Q ((v2 - (v2 % 1440)) + v4)))))
def wp_S_openUntil (σ : zM) (v1 : Int) (v2 : Int) (Q : Int → Prop) : Prop := wp_S_ofRooms σ v1 0 (fun z1 => wp_S_ofRooms σ v1 1 (fun z3 => ((¬ z1 = 0 → wp_S_openUntil_b31 σ Q v2 z1 z3) ∧ (z1 = 0 → ((¬ z3 = 1440 → wp_S_openUntil_b31 σ Q v2 z1 z3) ∧ (z3 = 1440 → Q 2880))))))
def wp_S_whyNoStaying (σ : zM) (v1 : Int) (v2 : Int) (Q : Int → Prop) : Prop := wp_S_ofTravellers σ v1 0 (fun z1 => wp_S_ofTravellers σ v1 1 (fun z3 => zR (z3 + v2) ∧ (((z3 + v2) ≤ 2880 → wp_S_ofTravellers σ v1 1 (fun z6 => wp_S_openUntil σ z1 z6 (fun z8 => (((z3 + v2) ≤ z8 → wp_S_ofTravellers σ v1 2 (fun z10 => wp_S_ofRooms σ z1 2 (fun z12 => zR ((z3 + v2) - z10) ∧ ((((z3 + v2) - z10) ≤ z12 → Q 0) ∧ (¬ ((z3 + v2) - z10) ≤ z12 → Q 7))))) ∧ (¬ (z3 + v2) ≤ z8 → Q 6))))) ∧ (¬ (z3 + v2) ≤ 2880 → Q 5))))
def wp_S_waitThere (σ : zM) (v1 : Int) (v2 : Int) (Q : Int → zM → Prop) : Prop := zR (v1 * 8) ∧ (0 ≤ ((v1 * 8) + 1) ∧ ((v1 * 8) + 1) < 80) ∧ (0 ≤ ((v1 * 8) + 1) ∧ ((v1 * 8) + 1) < 80) ∧ zR ((σ 5 ((v1 * 8) + 1)) + v2) ∧ ∀ σ5 : zM, σ5 = zU σ 5 ((v1 * 8) + 1) ((σ 5 ((v1 * 8) + 1)) + v2) → (0 ≤ ((v1 * 8) + 4) ∧ ((v1 * 8) + 4) < 80) ∧ (0 ≤ ((v1 * 8) + 4) ∧ ((v1 * 8) + 4) < 80) ∧ zR ((σ5 5 ((v1 * 8) + 4)) + v2) ∧ ∀ σ9 : zM, σ9 = zU σ5 5 ((v1 * 8) + 4) ((σ5 5 ((v1 * 8) + 4)) + v2) → (0 ≤ ((v1 * 8) + 1) ∧ ((v1 * 8) + 1) < 80) ∧ Q (σ9 5 ((v1 * 8) + 1)) σ9
def wp_X_stay (σ : zM) (v1 : Int) (v2 : Int) (Q : Int → zM → Prop) : Prop := wp_S_hasTraveller σ v1 (fun z1 => ((¬ z1 = 0 → wp_X_within σ v2 1 1000 (fun z3 => ((¬ z3 = 0 → wp_S_whyNoStaying σ v1 v2 (fun z5 => ((z5 = 0 → wp_X_remember σ (fun σ8 => wp_S_waitThere σ8 v1 v2 (fun z9 σ10 => Q z9 σ10))) ∧ (¬ z5 = 0 → wp_X_refuse σ z5 (fun z11 σ12 => Q z11 σ12))))) ∧ (z3 = 0 → Q (-2) σ)))) ∧ (z1 = 0 → Q (-1) σ)))
def wp_S_stayLeft (σ : zM) (v1 : Int) (Q : Int → Prop) : Prop := wp_S_ofTravellers σ v1 0 (fun z1 => wp_S_ofTravellers σ v1 1 (fun z3 => wp_S_ofTravellers σ v1 2 (fun z5 => wp_S_ofRooms σ z1 2 (fun z7 => zR (z5 + z7) ∧ wp_S_openUntil σ z1 z3 (fun z10 => ∀ t12 : Int, t12 = min (min z10 (z5 + z7)) 2880 → zR (t12 - z3) ∧ Q (max (t12 - z3) 0))))))
def wp_X_canStay (σ : zM) (v1 : Int) (Q : Int → Prop) : Prop := wp_S_hasTraveller σ v1 (fun z1 => ((z1 = 0 → Q (-1)) ∧ (¬ z1 = 0 → wp_S_stayLeft σ v1 (fun z3 => Q z3))))
def wp_G_letIn_L82 (v2 : Int) (v3 : Int) (v4 : Int) (v6 : Int) (v7 : Int) (v8 : Int) (k108 : zM → Prop) (Q : zM → Prop) : Nat → zM → Int → Prop
  | 0, _, _ => False
  | n + 1, σ, v9 => ((v8 < v9 → k108 σ) ∧ (¬ v8 < v9 → (0 ≤ v9 ∧ v9 < 2881) ∧ (0 ≤ v9 ∧ v9 < 2881) ∧ ∀ σ15 : zM, σ15 = zU σ 63 v9 (zOr (σ 63 v9) (zShl 1 v2)) → zR (v9 + 1) ∧ wp_G_letIn_L82 v2 v3 v4 v6 v7 v8 k108 Q n σ15 (v9 + 1)))
def wp_G_letIn_L47 (v2 : Int) (v3 : Int) (v4 : Int) (v6 : Int) (Q : zM → Prop) : Nat → zM → Int → Prop
  | 0, _, _ => False
  | n + 1, σ, v7 => ((2880 ≤ v7 → Q σ) ∧ (¬ 2880 ≤ v7 → zR (v7 + v6) ∧ zR (2880 - v4) ∧ wp_S_spanFrom σ v2 v3 (fun z10 => zR (v7 + z10) ∧ ∃ n19, wp_G_letIn_L82 v2 v3 v4 v6 v7 (min (v7 + v6) (2880 - v4)) (fun σ17 => zR (v7 + 1440) ∧ wp_G_letIn_L47 v2 v3 v4 v6 Q n σ17 (v7 + 1440)) Q n19 σ (v7 + z10))))
def wp_G_letIn_b41 (Q : zM → Prop) (σ : zM) (v2 : Int) (v3 : Int) (v4 : Int) (s0 : Int) (s1 : Int) : Prop := zR (s0 - s1) ∧ ∃ n20, wp_G_letIn_L47 v2 v3 v4 (s0 - s1) Q n20 σ 0
def wp_G_letIn_b22 (Q : zM → Prop) (σ : zM) (v2 : Int) (v3 : Int) (v4 : Int) (s0 : Int) : Prop := wp_S_spanTo σ v2 v3 (fun z5 => ((s0 = 0 → wp_G_letIn_b41 Q σ v2 v3 v4 z5 1) ∧ (¬ s0 = 0 → wp_G_letIn_b41 Q σ v2 v3 v4 z5 v4)))
def wp_G_letIn (σ : zM) (v2 : Int) (v3 : Int) (Q : zM → Prop) : Prop := wp_S_ofRoads σ v2 2 (fun z1 => wp_S_ofRoads σ v2 3 (fun z3 => ((z3 = 0 → wp_G_letIn_b22 Q σ v2 v3 z1 0) ∧ (¬ z3 = 0 → wp_G_letIn_b22 Q σ v2 v3 z1 1))))
def wp_G_shut_L27 (v3 : Int) (v4 : Int) (Q : zM → Prop) : Nat → zM → Int → Prop
  | 0, _, _ => False
  | n + 1, σ, v5 => ((v4 ≤ v5 → Q σ) ∧ (¬ v4 ≤ v5 → (0 ≤ v5 ∧ v5 < 2881) ∧ (0 ≤ v5 ∧ v5 < 2881) ∧ ∀ σ9 : zM, σ9 = zU σ 63 v5 (zAnd (σ 63 v5) v3) → zR (v5 + 1) ∧ wp_G_shut_L27 v3 v4 Q n σ9 (v5 + 1)))
def wp_G_shut (σ : zM) (v2 : Int) (Q : zM → Prop) : Prop := wp_S_ofClosures σ v2 0 (fun z1 => wp_S_ofClosures σ v2 2 (fun z3 => wp_S_ofClosures σ v2 1 (fun z5 => ∃ n11, wp_G_shut_L27 (zXor (zShl 1 z1) (-1)) z3 Q n11 σ z5)))
def wp_G_prepare_L36 (v2 : Int) (v3 : Int) (k56 : zM → Prop) (Q : zM → Prop) : Nat → zM → Int → Prop
  | 0, _, _ => False
  | n + 1, σ, v4 => ((v3 ≤ v4 → k56 σ) ∧ (¬ v3 ≤ v4 → wp_G_letIn σ v2 v4 (fun σ5 => zR (v4 + 1) ∧ wp_G_prepare_L36 v2 v3 k56 Q n σ5 (v4 + 1))))
def wp_G_prepare_L18 (k62 : zM → Prop) (Q : zM → Prop) : Nat → zM → Int → Prop
  | 0, _, _ => False
  | n + 1, σ, v2 => (((σ 0 5) ≤ v2 → k62 σ) ∧ (¬ (σ 0 5) ≤ v2 → wp_S_ofRoads σ v2 4 (fun z2 => ∃ n9, wp_G_prepare_L36 v2 z2 (fun σ7 => zR (v2 + 1) ∧ wp_G_prepare_L18 k62 Q n σ7 (v2 + 1)) Q n9 σ 0)))
def wp_G_prepare_L64 (Q : zM → Prop) : Nat → zM → Int → Prop
  | 0, _, _ => False
  | n + 1, σ, v2 => (((σ 0 6) ≤ v2 → ∀ σ11 : zM, σ11 = zU σ 62 1 1 → Q σ11) ∧ (¬ (σ 0 6) ≤ v2 → wp_G_shut σ v2 (fun σ13 => zR (v2 + 1) ∧ wp_G_prepare_L64 Q n σ13 (v2 + 1))))
def wp_G_prepare (σ : zM) (Q : zM → Prop) : Prop := (((σ 62 1) = 0 → ∀ σ1 : zM, σ1 = zFl σ 63 0 2881 0 → ∃ n16, wp_G_prepare_L18 (fun σ10 => ∃ n15, wp_G_prepare_L64 Q n15 σ10 0) Q n16 σ1 0) ∧ (¬ (σ 62 1) = 0 → Q σ))
def wp_O_start (σ : zM) (o : Nat) (v1 : Int) (v2 : Int) (Q : zM → Prop) : Prop := ∀ σ1 : zM, σ1 = zFl σ (o + 1) 0 1024 0 → ∀ σ2 : zM, σ2 = zFl σ1 (o + 2) 0 8 (-6) → (0 ≤ v1 ∧ v1 < 8) ∧ ∀ σ4 : zM, σ4 = zU σ2 (o + 2) v1 v2 → Q σ4
def wp_O_comersAt (σ : zM) (o : Nat) (v1 : Int) (Q : Int → Prop) : Prop := (0 ≤ (zAnd v1 1023) ∧ (zAnd v1 1023) < 1024) ∧ Q (σ (o + 1) (zAnd v1 1023))
def wp_X_has (σ : zM) (v0 : Int) (v1 : Int) (Q : Int → Prop) : Prop := (((zAnd (zUshr v0 v1) 1) = 0 → Q 0) ∧ (¬ (zAnd (zUshr v0 v1) 1) = 0 → Q 1))
def wp_G_at (σ : zM) (v1 : Int) (Q : Int → Prop) : Prop := ((v1 < 0 → Q 0) ∧ (¬ v1 < 0 → ((2880 < v1 → Q 0) ∧ (¬ 2880 < v1 → (0 ≤ v1 ∧ v1 < 2881) ∧ Q (σ 63 v1)))))
def wp_S_waitEnd (σ : zM) (v1 : Int) (v2 : Int) (Q : Int → Prop) : Prop := wp_S_openUntil σ v1 v2 (fun z1 => wp_S_ofRooms σ v1 2 (fun z3 => zR (v2 + z3) ∧ Q (min (min z1 (v2 + z3)) 2880)))
def wp_O_leave_b70 (o : Nat) (v2 : Int) (v3 : Int) (v4 : Int) (k3 : zM → Int → Prop) (Q : zM → Prop) (σ : zM) (v5 : Int) : Prop := zR (v5 + 1) ∧ k3 σ (v5 + 1)
def wp_O_leave_L3 (o : Nat) (v2 : Int) (v3 : Int) (v4 : Int) (Q : zM → Prop) : Nat → zM → Int → Prop
  | 0, _, _ => False
  | n + 1, σ, v5 => (((σ 0 5) ≤ v5 → Q σ) ∧ (¬ (σ 0 5) ≤ v5 → wp_X_has σ v2 v5 (fun z1 => ((z1 = 0 → wp_O_leave_b70 o v2 v3 v4 (wp_O_leave_L3 o v2 v3 v4 Q n) Q σ v5) ∧ (¬ z1 = 0 → wp_S_ofRoads σ v5 0 (fun z4 => wp_X_has σ v3 z4 (fun z6 => ((z6 = 0 → wp_O_leave_b70 o v2 v3 v4 (wp_O_leave_L3 o v2 v3 v4 Q n) Q σ v5) ∧ (¬ z6 = 0 → wp_S_ofRoads σ v5 2 (fun z8 => zR (v4 + z8) ∧ (0 ≤ (zAnd (v4 + z8) 1023) ∧ (zAnd (v4 + z8) 1023) < 1024) ∧ wp_S_ofRoads σ v5 1 (fun z12 => (0 ≤ (zAnd (v4 + z8) 1023) ∧ (zAnd (v4 + z8) 1023) < 1024) ∧ ∀ σ15 : zM, σ15 = zU σ (o + 1) (zAnd (v4 + z8) 1023) (zOr (σ (o + 1) (zAnd (v4 + z8) 1023)) (zShl 1 z12)) → wp_O_leave_b70 o v2 v3 v4 (wp_O_leave_L3 o v2 v3 v4 Q n) Q σ15 v5)))))))))))
def wp_O_leave (σ : zM) (o : Nat) (v2 : Int) (v3 : Int) (v4 : Int) (Q : zM → Prop) : Prop := ∃ n16, wp_O_leave_L3 o v2 v3 v4 Q n16 σ 0
def wp_O_minute_b90 (o : Nat) (v2 : Int) (v3 : Int) (v5 : Int) (k29 : zM → Int → Int → Prop) (Q : Int → zM → Prop) (σ : zM) (v4 : Int) (v6 : Int) : Prop := zR (v6 + 1) ∧ k29 σ v4 (v6 + 1)
def wp_O_minute_b70 (o : Nat) (v2 : Int) (v3 : Int) (v5 : Int) (k29 : zM → Int → Int → Prop) (Q : Int → zM → Prop) (σ : zM) (v4 : Int) (v6 : Int) : Prop := (0 ≤ v6 ∧ v6 < 8) ∧ (((σ (o + 2) v6) < v3 → wp_O_minute_b90 o v2 v3 v5 k29 Q σ v4 v6) ∧ (¬ (σ (o + 2) v6) < v3 → wp_O_minute_b90 o v2 v3 v5 k29 Q σ (zOr v4 (zShl 1 v6)) v6))
def wp_O_minute_L29 (o : Nat) (v2 : Int) (v3 : Int) (v5 : Int) (Q : Int → zM → Prop) : Nat → zM → Int → Int → Prop
  | 0, _, _, _ => False
  | n + 1, σ, v4, v6 => ((8 ≤ v6 → ((v4 = 0 → Q v4 σ) ∧ (¬ v4 = 0 → ((v2 = 0 → Q v4 σ) ∧ (¬ v2 = 0 → wp_O_leave σ o v2 v4 v3 (fun σ5 => Q v4 σ5)))))) ∧ (¬ 8 ≤ v6 → wp_X_has σ v5 v6 (fun z6 => ((z6 = 0 → wp_O_minute_b70 o v2 v3 v5 (wp_O_minute_L29 o v2 v3 v5 Q n) Q σ v4 v6) ∧ (¬ z6 = 0 → (0 ≤ v6 ∧ v6 < 8) ∧ wp_S_waitEnd σ v6 v3 (fun z11 => (0 ≤ v6 ∧ v6 < 8) ∧ ∀ σ14 : zM, σ14 = zU σ (o + 2) v6 (max (σ (o + 2) v6) z11) → wp_O_minute_b70 o v2 v3 v5 (wp_O_minute_L29 o v2 v3 v5 Q n) Q σ14 v4 v6))))))
def wp_O_minute (σ : zM) (o : Nat) (v2 : Int) (v3 : Int) (Q : Int → zM → Prop) : Prop := (0 ≤ (zAnd v3 1023) ∧ (zAnd v3 1023) < 1024) ∧ (0 ≤ (zAnd v3 1023) ∧ (zAnd v3 1023) < 1024) ∧ ∀ σ3 : zM, σ3 = zU σ (o + 1) (zAnd v3 1023) 0 → ∃ n15, wp_O_minute_L29 o v2 v3 (σ (o + 1) (zAnd v3 1023)) Q n15 σ3 0 0
def wp_X_firstComing_L23 (v4 : Int) (v5 : Int) (v6 : Int) (Q : Int → zM → Prop) : Nat → zM → Int → Prop
  | 0, _, _ => False
  | n + 1, σ, v7 => ((v5 < v7 → Q (-6) σ) ∧ (¬ v5 < v7 → wp_O_comersAt σ 64 v7 (fun z5 => wp_X_has σ z5 v4 (fun z7 => ((z7 = 0 → wp_G_at σ v7 (fun z9 => wp_O_minute σ 64 (zAnd z9 (zXor v6 (-1))) v7 (fun z11 σ12 => zR (v7 + 1) ∧ wp_X_firstComing_L23 v4 v5 v6 Q n σ12 (v7 + 1)))) ∧ (¬ z7 = 0 → Q v7 σ))))))
def wp_X_firstComing (σ : zM) (v1 : Int) (v2 : Int) (v3 : Int) (v4 : Int) (v5 : Int) (v6 : Int) (Q : Int → zM → Prop) : Prop := wp_G_prepare σ (fun σ2 => wp_O_start σ2 64 v1 v3 (fun σ4 => ∃ n14, wp_X_firstComing_L23 v4 v5 v6 Q n14 σ4 v2))
def wp_X_arrives (σ : zM) (v1 : Int) (v2 : Int) (Q : Int → zM → Prop) : Prop := wp_S_hasTraveller σ v1 (fun z1 => ((z1 = 0 → Q (-1) σ) ∧ (¬ z1 = 0 → wp_X_isPlace σ v2 (fun z3 => ((¬ z3 = 0 → wp_S_ofTravellers σ v1 0 (fun z5 => wp_S_ofTravellers σ v1 1 (fun z7 => ((¬ z5 = v2 → wp_S_stayLeft σ v1 (fun z9 => zR (z7 + z9) ∧ wp_X_firstComing σ z5 z7 (z7 + z9) v2 2880 0 (fun z12 σ13 => Q z12 σ13))) ∧ (z5 = v2 → Q z7 σ))))) ∧ (z3 = 0 → Q (-1) σ))))))
def wp_X_whyShut (σ : zM) (v1 : Int) (v2 : Int) (Q : Int → Prop) : Prop := wp_S_hasRoad σ v1 (fun z1 => ((¬ z1 = 0 → wp_X_within σ v2 0 2880 (fun z3 => ((¬ z3 = 0 → wp_S_whyNoEntry σ v1 v2 (fun z5 => Q z5)) ∧ (z3 = 0 → Q (-2))))) ∧ (z1 = 0 → Q (-1))))
def wp_X_undo (σ : zM) (Q : Int → zM → Prop) : Prop := ((0 < (σ 54 2) → zR ((σ 54 2) - 1) ∧ ∀ σ2 : zM, σ2 = zU σ 54 2 ((σ 54 2) - 1) → (0 ≤ (σ2 54 2) ∧ (σ2 54 2) < 6) ∧ ((σ2 55 (σ2 54 2)).toNat < 9) ∧ wp_S_copyFrom σ2 0 ((σ2 55 (σ2 54 2)).toNat) (fun σ6 => ∀ σ7 : zM, σ7 = zU σ6 62 1 0 → Q (σ7 54 2) σ7)) ∧ (¬ 0 < (σ 54 2) → Q (-6) σ))
def wp_X_save (σ : zM) (v1 : Int) (Q : Int → zM → Prop) : Prop := wp_X_within σ v1 0 1 (fun z1 => ((¬ z1 = 0 → (0 ≤ v1 ∧ v1 < 2) ∧ ((σ 56 v1).toNat < 9) ∧ wp_S_copyFrom σ ((σ 56 v1).toNat) 0 (fun σ6 => (0 ≤ v1 ∧ v1 < 2) ∧ ∀ σ8 : zM, σ8 = zU σ6 57 v1 1 → Q (σ8 0 5) σ8)) ∧ (z1 = 0 → Q (-1) σ)))
def wp_X_restore (σ : zM) (v1 : Int) (Q : Int → zM → Prop) : Prop := wp_X_within σ v1 0 1 (fun z1 => ((z1 = 0 → Q (-1) σ) ∧ (¬ z1 = 0 → (0 ≤ v1 ∧ v1 < 2) ∧ ((¬ (σ 57 v1) = 0 → wp_X_remember σ (fun σ5 => (0 ≤ v1 ∧ v1 < 2) ∧ ((σ5 56 v1).toNat < 9) ∧ wp_S_copyFrom σ5 0 ((σ5 56 v1).toNat) (fun σ9 => Q (σ9 0 5) σ9))) ∧ ((σ 57 v1) = 0 → Q (-1) σ)))))
end
section
set_option maxRecDepth 100000 in
set_option maxHeartbeats 4000000 in
theorem c_X_count (l : Launch) (D : va_G) (ad : Nat → Nat) (ca : Nat → ClassId) {σ : zM} {v1 : Int} {Q : Int → Prop} (hσ : zRM σ) (r1 : zR v1) (h : wp_X_count σ v1 Q) : zCi l D ad ca y_X_count b_X_count 2 (some .int) (zrm 0 0) [.ref (ad 54), .int (zI v1)] σ (fun z u => σ = u ∧ Q z) := by
  refine zCi_of (by decide +kernel) (Nat.le_of_ble_eq_true rfl) ?_
  intro X G C hl hD had hca
  subst hl hD had hca
  have C : zC X G b_X_count "GateRoads" 2 (some .int) 0 0 := C
  show zJ X G (zQi X G (fun z u => σ = u ∧ Q z)) 2 0 [(0, .ref (gad G 54)), (1, .int (zI v1))] [] σ
  unfold wp_X_count at h
  refine j_iload_n C d_X_count_0 1 rfl rfl ?_
  have hc : v1 = 0 ∨ v1 = 1 ∨ v1 = 2 ∨ v1 = 3 ∨ v1 = 4 ∨ v1 = 5 ∨ (v1 < 0 ∨ 5 < v1) := by omega
  rcases hc with c | c | c | c | c | c | c
  · have h := h.1 c
    refine j_tableIn (tgt := 40) C d_X_count_1 r1 0 c rfl rfl rfl ?_
    refine j_aload_n C d_X_count_40 0 rfl rfl ?_
    refine j_getr (kf := 0) (m := 0) C d_X_count_41 sh_54 rfl i_X rfl rfl fl_X_12 ?_
    refine j_geti (kf := 5) (kI := 5) C d_X_count_44 sh_0 rfl i_S rfl rfl rfl fl_X_80 ?_
    exact j_ireturn C d_X_count_47 (hσ _ _) hσ ⟨rfl, h⟩
  · have h := h.2.1 c
    refine j_tableIn (tgt := 48) C d_X_count_1 r1 1 c rfl rfl rfl ?_
    refine j_aload_n C d_X_count_48 0 rfl rfl ?_
    refine j_getr (kf := 0) (m := 0) C d_X_count_49 sh_54 rfl i_X rfl rfl fl_X_12 ?_
    refine j_geti (kf := 6) (kI := 6) C d_X_count_52 sh_0 rfl i_S rfl rfl rfl fl_X_109 ?_
    exact j_ireturn C d_X_count_55 (hσ _ _) hσ ⟨rfl, h⟩
  · have h := h.2.2.1 c
    refine j_tableIn (tgt := 56) C d_X_count_1 r1 2 c rfl rfl rfl ?_
    refine j_aload_n C d_X_count_56 0 rfl rfl ?_
    refine j_getr (kf := 0) (m := 0) C d_X_count_57 sh_54 rfl i_X rfl rfl fl_X_12 ?_
    refine j_geti (kf := 7) (kI := 7) C d_X_count_60 sh_0 rfl i_S rfl rfl rfl fl_X_122 ?_
    exact j_ireturn C d_X_count_63 (hσ _ _) hσ ⟨rfl, h⟩
  · have h := h.2.2.2.1 c
    refine j_tableIn (tgt := 64) C d_X_count_1 r1 3 c rfl rfl rfl ?_
    refine j_aload_n C d_X_count_64 0 rfl rfl ?_
    refine j_geti (kf := 5) (kI := 5) C d_X_count_65 sh_54 rfl i_X rfl rfl rfl fl_X_168 ?_
    exact j_ireturn C d_X_count_68 (hσ _ _) hσ ⟨rfl, h⟩
  · have h := h.2.2.2.2.1 c
    refine j_tableIn (tgt := 69) C d_X_count_1 r1 4 c rfl rfl rfl ?_
    refine j_aload_n C d_X_count_69 0 rfl rfl ?_
    refine j_getr (kf := 6) (m := 58) C d_X_count_70 sh_54 rfl i_X rfl rfl fl_X_30 ?_
    refine j_geti (kf := 1) (kI := 1) C d_X_count_73 sh_58 rfl i_P rfl rfl rfl fl_X_171 ?_
    exact j_ireturn C d_X_count_76 (hσ _ _) hσ ⟨rfl, h⟩
  · have h := h.2.2.2.2.2.1 c
    refine j_tableIn (tgt := 77) C d_X_count_1 r1 5 c rfl rfl rfl ?_
    refine j_aload_n C d_X_count_77 0 rfl rfl ?_
    refine j_geti (kf := 2) (kI := 2) C d_X_count_78 sh_54 rfl i_X rfl rfl rfl fl_X_174 ?_
    exact j_ireturn C d_X_count_81 (hσ _ _) hσ ⟨rfl, h⟩
  · have h := h.2.2.2.2.2.2 c
    refine j_tableOut (tgt := 82) C d_X_count_1 r1 c rfl ?_
    refine j_bipush C d_X_count_82 rfl ?_
    exact j_ireturn C d_X_count_84 (zR_of (x := (-2)) rfl) hσ ⟨rfl, h⟩
set_option maxRecDepth 100000 in
set_option maxHeartbeats 4000000 in
theorem c_X_within (l : Launch) (D : va_G) (ad : Nat → Nat) (ca : Nat → ClassId) {σ : zM} {v0 : Int} {v1 : Int} {v2 : Int} {Q : Int → Prop} (hσ : zRM σ) (r0 : zR v0) (r1 : zR v1) (r2 : zR v2) (h : wp_X_within σ v0 v1 v2 Q) : zCi l D ad ca y_X_within b_X_within 3 (some .boolean) (zrm 0 0) [.int (zI v0), .int (zI v1), .int (zI v2)] σ (fun z u => σ = u ∧ Q z) := by
  refine zCi_of (by decide +kernel) (Nat.le_of_ble_eq_true rfl) ?_
  intro X G C hl hD had hca
  subst hl hD had hca
  have C : zC X G b_X_within "GateRoads" 3 (some .boolean) 0 0 := C
  show zJ X G (zQi X G (fun z u => σ = u ∧ Q z)) 3 0 [(0, .int (zI v0)), (1, .int (zI v1)), (2, .int (zI v2))] [] σ
  unfold wp_X_within at h
  refine j_iload_n C d_X_within_0 0 rfl rfl ?_
  refine j_iload_n C d_X_within_1 1 rfl rfl ?_
  refine j_icmp_lt (tgt := 14) C d_X_within_2 rfl r0 r1 (fun c => ?_) (fun c => ?_)
  · have h := h.1 c
    refine j_iconst C d_X_within_14 ?_
    exact j_zreturn C d_X_within_15 (by decide) hσ ⟨rfl, h⟩
  · have h := h.2 c
    refine j_iload_n C d_X_within_5 0 rfl rfl ?_
    refine j_iload_n C d_X_within_6 2 rfl rfl ?_
    refine j_icmp_gt (tgt := 14) C d_X_within_7 rfl r0 r2 (fun c => ?_) (fun c => ?_)
    · have h := h.1 c
      refine j_iconst C d_X_within_14 ?_
      exact j_zreturn C d_X_within_15 (by decide) hσ ⟨rfl, h⟩
    · have h := h.2 c
      refine j_iconst C d_X_within_10 ?_
      refine j_goto (tgt := 15) C d_X_within_11 rfl ?_
      exact j_zreturn C d_X_within_15 (by decide) hσ ⟨rfl, h⟩
set_option maxRecDepth 100000 in
set_option maxHeartbeats 4000000 in
theorem c_X_isPlace (l : Launch) (D : va_G) (ad : Nat → Nat) (ca : Nat → ClassId) {σ : zM} {v0 : Int} {Q : Int → Prop} (hσ : zRM σ) (r0 : zR v0) (h : wp_X_isPlace σ v0 Q) : zCi l D ad ca y_X_isPlace b_X_isPlace 1 (some .boolean) (zrm 1 22) [.int (zI v0)] σ (fun z u => σ = u ∧ Q z) := by
  refine zCi_of (by decide +kernel) (Nat.le_of_ble_eq_true rfl) ?_
  intro X G C hl hD had hca
  subst hl hD had hca
  have C : zC X G b_X_isPlace "GateRoads" 1 (some .boolean) 1 22 := C
  show zJ X G (zQi X G (fun z u => σ = u ∧ Q z)) 1 0 [(0, .int (zI v0))] [] σ
  unfold wp_X_isPlace at h
  refine j_iload_n C d_X_isPlace_0 0 rfl rfl ?_
  refine j_iconst C d_X_isPlace_1 ?_
  refine j_bipush C d_X_isPlace_2 rfl ?_
  refine j_callS C d_X_isPlace_4 ml_X_69 ms_X_within (c_X_within (xl X) (gD G) (gad G) (gca G) (v0 := v0) (v1 := 0) (v2 := 7) hσ r0 (zR_of (x := 0) rfl) (zR_of (x := 7) rfl) h) rfl rfl rfl rfl rfl (fun z1 σ2 rz1 hσ2 h => ?_)
  obtain ⟨ez1, h⟩ := h; subst ez1
  obtain ⟨g3, h⟩ := h
  exact j_zreturn C d_X_isPlace_7 g3 hσ ⟨rfl, h⟩
set_option maxRecDepth 100000 in
set_option maxHeartbeats 4000000 in
theorem c_S_ofRoads (l : Launch) (D : va_G) (ad : Nat → Nat) (ca : Nat → ClassId) {σ : zM} {v1 : Int} {v2 : Int} {Q : Int → Prop} (hσ : zRM σ) (r1 : zR v1) (r2 : zR v2) (h : wp_S_ofRoads σ v1 v2 Q) : zCi l D ad ca y_S_ofRoads b_S_ofRoads 3 (some .int) (zrm 0 0) [.ref (ad 0), .int (zI v1), .int (zI v2)] σ (fun z u => σ = u ∧ Q z) := by
  refine zCi_of (by decide +kernel) (Nat.le_of_ble_eq_true rfl) ?_
  intro X G C hl hD had hca
  subst hl hD had hca
  have C : zC X G b_S_ofRoads "GateRoads$State" 3 (some .int) 0 0 := C
  show zJ X G (zQi X G (fun z u => σ = u ∧ Q z)) 3 0 [(0, .ref (gad G 0)), (1, .int (zI v1)), (2, .int (zI v2))] [] σ
  unfold wp_S_ofRoads at h
  refine j_aload_n C d_S_ofRoads_0 0 rfl rfl ?_
  refine j_getr (kf := 1) (m := 2) C d_S_ofRoads_1 sh_0 rfl i_S rfl rfl fl_S_15 ?_
  refine j_iload_n C d_S_ofRoads_4 1 rfl rfl ?_
  refine j_bipush C d_S_ofRoads_5 rfl ?_
  refine j_imul C d_S_ofRoads_7 ?_
  refine j_iload_n C d_S_ofRoads_8 2 rfl rfl ?_
  refine j_iadd C d_S_ofRoads_9 ?_
  obtain ⟨g1, h⟩ := h
  refine j_iaload C d_S_ofRoads_10 sh_2 g1 ?_
  exact j_ireturn C d_S_ofRoads_11 (hσ _ _) hσ ⟨rfl, h⟩
set_option maxRecDepth 100000 in
set_option maxHeartbeats 4000000 in
theorem w_S_roadsWith_b32 {X : zX} {G : zG} (C : zC X G b_S_roadsWith "GateRoads$State" 5 (some .int) 1 22) {σ : zM} {v1 : Int} {v2 : Int} (hσ : zRM σ) (r1 : zR v1) (r2 : zR v2) {Q : Int → Prop} {k5 : Int → Int → Prop} (hk5 : ∀ (v3 : Int) (v4 : Int), zR v3 → zR v4 → k5 v3 v4 → zJ X G (zQi X G (fun z u => σ = u ∧ Q z)) 5 5 [(0, .ref (gad G 0)), (1, .int (zI v1)), (2, .int (zI v2)), (3, .int (zI v3)), (4, .int (zI v4))] [] σ) (v3 : Int) (v4 : Int) (r3 : zR v3) (r4 : zR v4) (h : wp_S_roadsWith_b32 σ v1 v2 k5 Q v3 v4) : zJ X G (zQi X G (fun z u => σ = u ∧ Q z)) 5 32 [(0, .ref (gad G 0)), (1, .int (zI v1)), (2, .int (zI v2)), (3, .int (zI v3)), (4, .int (zI v4))] [] σ := by
  unfold wp_S_roadsWith_b32 at h
  obtain ⟨g3, h⟩ := h
  refine j_iinc (L' := [(4, .int (zI (v4 + 1))), (0, .ref (gad G 0)), (1, .int (zI v1)), (2, .int (zI v2)), (3, .int (zI v3))]) C d_S_roadsWith_32 4 rfl rfl rfl ?_
  refine j_goto (tgt := 5) C d_S_roadsWith_35 rfl ?_
  refine j_sub (L' := [(0, .ref (gad G 0)), (1, .int (zI v1)), (2, .int (zI v2)), (3, .int (zI v3)), (4, .int (zI (v4 + 1)))]) [1, 2, 3, 4, 0] rfl ?_
  exact hk5 v3 (v4 + 1) r3 g3 h
set_option maxRecDepth 100000 in
set_option maxHeartbeats 4000000 in
theorem w_S_roadsWith_L5 {X : zX} {G : zG} (C : zC X G b_S_roadsWith "GateRoads$State" 5 (some .int) 1 22) {σ : zM} {v1 : Int} {v2 : Int} (hσ : zRM σ) (r1 : zR v1) (r2 : zR v2) {Q : Int → Prop} : ∀ (n : Nat) (v3 : Int) (v4 : Int) (r3 : zR v3) (r4 : zR v4), wp_S_roadsWith_L5 σ v1 v2 Q n v3 v4 → zJ X G (zQi X G (fun z u => σ = u ∧ Q z)) 5 5 [(0, .ref (gad G 0)), (1, .int (zI v1)), (2, .int (zI v2)), (3, .int (zI v3)), (4, .int (zI v4))] [] σ := by
  intro n
  induction n with
  | zero => intro v3 v4 r3 r4 h; exact False.elim h
  | succ n ih =>
    intro v3 v4 r3 r4 h
    rw [wp_S_roadsWith_L5] at h
    refine j_iload C d_S_roadsWith_5 4 rfl ?_
    refine j_aload_n C d_S_roadsWith_7 0 rfl rfl ?_
    refine j_geti (kf := 5) (kI := 5) C d_S_roadsWith_8 sh_0 rfl i_S rfl rfl rfl fl_S_33 ?_
    refine j_icmp_ge (tgt := 38) C d_S_roadsWith_11 rfl r4 (hσ _ _) (fun c => ?_) (fun c => ?_)
    · have h := h.1 c
      refine j_iload_n C d_S_roadsWith_38 3 rfl rfl ?_
      exact j_ireturn C d_S_roadsWith_39 r3 hσ ⟨rfl, h⟩
    · have h := h.2 c
      refine j_aload_n C d_S_roadsWith_14 0 rfl rfl ?_
      refine j_iload C d_S_roadsWith_15 4 rfl ?_
      refine j_iload_n C d_S_roadsWith_17 1 rfl rfl ?_
      refine j_callV C d_S_roadsWith_18 ml_S_57 mi_S_ofRoads (c_S_ofRoads (xl X) (gD G) (gad G) (gca G) (v1 := v4) (v2 := v1) hσ r4 r1 h) sh_0 rfl rfl rfl rfl rfl rfl rfl (fun z1 σ2 rz1 hσ2 h => ?_)
      obtain ⟨ez1, h⟩ := h; subst ez1
      refine j_iload_n C d_S_roadsWith_21 2 rfl rfl ?_
      refine j_icmp_ne (tgt := 32) C d_S_roadsWith_22 rfl rz1 r2 (fun c => ?_) (fun c => ?_)
      · have h := h.1 c
        refine w_S_roadsWith_b32 C hσ r1 r2 ih v3 v4 r3 r4 h
      · have h := h.2 c
        refine j_iload_n C d_S_roadsWith_25 3 rfl rfl ?_
        refine j_iconst C d_S_roadsWith_26 ?_
        refine j_iload C d_S_roadsWith_27 4 rfl ?_
        refine j_ishl C d_S_roadsWith_29 ?_
        refine j_ior C d_S_roadsWith_30 ?_
        refine j_istore_n (L' := [(3, .int (zI (zOr v3 (zShl 1 v4)))), (0, .ref (gad G 0)), (1, .int (zI v1)), (2, .int (zI v2)), (4, .int (zI v4))]) C d_S_roadsWith_31 rfl rfl rfl ?_
        refine j_sub (L' := [(0, .ref (gad G 0)), (1, .int (zI v1)), (2, .int (zI v2)), (3, .int (zI (zOr v3 (zShl 1 v4)))), (4, .int (zI v4))]) [1, 2, 3, 0, 4] rfl ?_
        refine w_S_roadsWith_b32 C hσ r1 r2 ih (zOr v3 (zShl 1 v4)) v4 (zOr_rg _ _) r4 h
set_option maxRecDepth 100000 in
set_option maxHeartbeats 4000000 in
theorem c_S_roadsWith (l : Launch) (D : va_G) (ad : Nat → Nat) (ca : Nat → ClassId) {σ : zM} {v1 : Int} {v2 : Int} {Q : Int → Prop} (hσ : zRM σ) (r1 : zR v1) (r2 : zR v2) (h : wp_S_roadsWith σ v1 v2 Q) : zCi l D ad ca y_S_roadsWith b_S_roadsWith 5 (some .int) (zrm 1 22) [.ref (ad 0), .int (zI v1), .int (zI v2)] σ (fun z u => σ = u ∧ Q z) := by
  refine zCi_of (by decide +kernel) (Nat.le_of_ble_eq_true rfl) ?_
  intro X G C hl hD had hca
  subst hl hD had hca
  have C : zC X G b_S_roadsWith "GateRoads$State" 5 (some .int) 1 22 := C
  show zJ X G (zQi X G (fun z u => σ = u ∧ Q z)) 5 0 [(0, .ref (gad G 0)), (1, .int (zI v1)), (2, .int (zI v2))] [] σ
  unfold wp_S_roadsWith at h
  refine j_iconst C d_S_roadsWith_0 ?_
  refine j_istore_n (L' := [(3, .int (zI 0)), (0, .ref (gad G 0)), (1, .int (zI v1)), (2, .int (zI v2))]) C d_S_roadsWith_1 rfl rfl rfl ?_
  refine j_iconst C d_S_roadsWith_2 ?_
  refine j_istore (L' := [(4, .int (zI 0)), (3, .int (zI 0)), (0, .ref (gad G 0)), (1, .int (zI v1)), (2, .int (zI v2))]) C d_S_roadsWith_3 rfl rfl ?_
  obtain ⟨n4, h⟩ := h
  refine j_sub (L' := [(0, .ref (gad G 0)), (1, .int (zI v1)), (2, .int (zI v2)), (3, .int (zI 0)), (4, .int (zI 0))]) [2, 3, 4, 1, 0] rfl ?_
  refine w_S_roadsWith_L5 C hσ r1 r2 n4 0 0 (zR_of (x := 0) rfl) (zR_of (x := 0) rfl) h
set_option maxRecDepth 100000 in
set_option maxHeartbeats 4000000 in
theorem c_S_ofTravellers (l : Launch) (D : va_G) (ad : Nat → Nat) (ca : Nat → ClassId) {σ : zM} {v1 : Int} {v2 : Int} {Q : Int → Prop} (hσ : zRM σ) (r1 : zR v1) (r2 : zR v2) (h : wp_S_ofTravellers σ v1 v2 Q) : zCi l D ad ca y_S_ofTravellers b_S_ofTravellers 3 (some .int) (zrm 0 0) [.ref (ad 0), .int (zI v1), .int (zI v2)] σ (fun z u => σ = u ∧ Q z) := by
  refine zCi_of (by decide +kernel) (Nat.le_of_ble_eq_true rfl) ?_
  intro X G C hl hD had hca
  subst hl hD had hca
  have C : zC X G b_S_ofTravellers "GateRoads$State" 3 (some .int) 0 0 := C
  show zJ X G (zQi X G (fun z u => σ = u ∧ Q z)) 3 0 [(0, .ref (gad G 0)), (1, .int (zI v1)), (2, .int (zI v2))] [] σ
  unfold wp_S_ofTravellers at h
  refine j_aload_n C d_S_ofTravellers_0 0 rfl rfl ?_
  refine j_getr (kf := 4) (m := 5) C d_S_ofTravellers_1 sh_0 rfl i_S rfl rfl fl_S_24 ?_
  refine j_iload_n C d_S_ofTravellers_4 1 rfl rfl ?_
  refine j_bipush C d_S_ofTravellers_5 rfl ?_
  refine j_imul C d_S_ofTravellers_7 ?_
  refine j_iload_n C d_S_ofTravellers_8 2 rfl rfl ?_
  refine j_iadd C d_S_ofTravellers_9 ?_
  obtain ⟨g1, h⟩ := h
  refine j_iaload C d_S_ofTravellers_10 sh_5 g1 ?_
  exact j_ireturn C d_S_ofTravellers_11 (hσ _ _) hσ ⟨rfl, h⟩
set_option maxRecDepth 100000 in
set_option maxHeartbeats 4000000 in
theorem w_S_travellersAt_b28 {X : zX} {G : zG} (C : zC X G b_S_travellersAt "GateRoads$State" 4 (some .int) 1 22) {σ : zM} {v1 : Int} (hσ : zRM σ) (r1 : zR v1) {Q : Int → Prop} {k4 : Int → Int → Prop} (hk4 : ∀ (v2 : Int) (v3 : Int), zR v2 → zR v3 → k4 v2 v3 → zJ X G (zQi X G (fun z u => σ = u ∧ Q z)) 4 4 [(0, .ref (gad G 0)), (1, .int (zI v1)), (2, .int (zI v2)), (3, .int (zI v3))] [] σ) (v2 : Int) (v3 : Int) (r2 : zR v2) (r3 : zR v3) (h : wp_S_travellersAt_b28 σ v1 k4 Q v2 v3) : zJ X G (zQi X G (fun z u => σ = u ∧ Q z)) 4 28 [(0, .ref (gad G 0)), (1, .int (zI v1)), (2, .int (zI v2)), (3, .int (zI v3))] [] σ := by
  unfold wp_S_travellersAt_b28 at h
  obtain ⟨g3, h⟩ := h
  refine j_iinc (L' := [(3, .int (zI (v3 + 1))), (0, .ref (gad G 0)), (1, .int (zI v1)), (2, .int (zI v2))]) C d_S_travellersAt_28 3 rfl rfl rfl ?_
  refine j_goto (tgt := 4) C d_S_travellersAt_31 rfl ?_
  refine j_sub (L' := [(0, .ref (gad G 0)), (1, .int (zI v1)), (2, .int (zI v2)), (3, .int (zI (v3 + 1)))]) [1, 2, 3, 0] rfl ?_
  exact hk4 v2 (v3 + 1) r2 g3 h
set_option maxRecDepth 100000 in
set_option maxHeartbeats 4000000 in
theorem w_S_travellersAt_L4 {X : zX} {G : zG} (C : zC X G b_S_travellersAt "GateRoads$State" 4 (some .int) 1 22) {σ : zM} {v1 : Int} (hσ : zRM σ) (r1 : zR v1) {Q : Int → Prop} : ∀ (n : Nat) (v2 : Int) (v3 : Int) (r2 : zR v2) (r3 : zR v3), wp_S_travellersAt_L4 σ v1 Q n v2 v3 → zJ X G (zQi X G (fun z u => σ = u ∧ Q z)) 4 4 [(0, .ref (gad G 0)), (1, .int (zI v1)), (2, .int (zI v2)), (3, .int (zI v3))] [] σ := by
  intro n
  induction n with
  | zero => intro v2 v3 r2 r3 h; exact False.elim h
  | succ n ih =>
    intro v2 v3 r2 r3 h
    rw [wp_S_travellersAt_L4] at h
    refine j_iload_n C d_S_travellersAt_4 3 rfl rfl ?_
    refine j_aload_n C d_S_travellersAt_5 0 rfl rfl ?_
    refine j_geti (kf := 7) (kI := 7) C d_S_travellersAt_6 sh_0 rfl i_S rfl rfl rfl fl_S_40 ?_
    refine j_icmp_ge (tgt := 34) C d_S_travellersAt_9 rfl r3 (hσ _ _) (fun c => ?_) (fun c => ?_)
    · have h := h.1 c
      refine j_iload_n C d_S_travellersAt_34 2 rfl rfl ?_
      exact j_ireturn C d_S_travellersAt_35 r2 hσ ⟨rfl, h⟩
    · have h := h.2 c
      refine j_aload_n C d_S_travellersAt_12 0 rfl rfl ?_
      refine j_iload_n C d_S_travellersAt_13 3 rfl rfl ?_
      refine j_iconst C d_S_travellersAt_14 ?_
      refine j_callV C d_S_travellersAt_15 ml_S_67 mi_S_ofTravellers (c_S_ofTravellers (xl X) (gD G) (gad G) (gca G) (v1 := v3) (v2 := 0) hσ r3 (zR_of (x := 0) rfl) h) sh_0 rfl rfl rfl rfl rfl rfl rfl (fun z1 σ2 rz1 hσ2 h => ?_)
      obtain ⟨ez1, h⟩ := h; subst ez1
      refine j_iload_n C d_S_travellersAt_18 1 rfl rfl ?_
      refine j_icmp_ne (tgt := 28) C d_S_travellersAt_19 rfl rz1 r1 (fun c => ?_) (fun c => ?_)
      · have h := h.1 c
        refine w_S_travellersAt_b28 C hσ r1 ih v2 v3 r2 r3 h
      · have h := h.2 c
        refine j_iload_n C d_S_travellersAt_22 2 rfl rfl ?_
        refine j_iconst C d_S_travellersAt_23 ?_
        refine j_iload_n C d_S_travellersAt_24 3 rfl rfl ?_
        refine j_ishl C d_S_travellersAt_25 ?_
        refine j_ior C d_S_travellersAt_26 ?_
        refine j_istore_n (L' := [(2, .int (zI (zOr v2 (zShl 1 v3)))), (0, .ref (gad G 0)), (1, .int (zI v1)), (3, .int (zI v3))]) C d_S_travellersAt_27 rfl rfl rfl ?_
        refine j_sub (L' := [(0, .ref (gad G 0)), (1, .int (zI v1)), (2, .int (zI (zOr v2 (zShl 1 v3)))), (3, .int (zI v3))]) [1, 2, 0, 3] rfl ?_
        refine w_S_travellersAt_b28 C hσ r1 ih (zOr v2 (zShl 1 v3)) v3 (zOr_rg _ _) r3 h
set_option maxRecDepth 100000 in
set_option maxHeartbeats 4000000 in
theorem c_S_travellersAt (l : Launch) (D : va_G) (ad : Nat → Nat) (ca : Nat → ClassId) {σ : zM} {v1 : Int} {Q : Int → Prop} (hσ : zRM σ) (r1 : zR v1) (h : wp_S_travellersAt σ v1 Q) : zCi l D ad ca y_S_travellersAt b_S_travellersAt 4 (some .int) (zrm 1 22) [.ref (ad 0), .int (zI v1)] σ (fun z u => σ = u ∧ Q z) := by
  refine zCi_of (by decide +kernel) (Nat.le_of_ble_eq_true rfl) ?_
  intro X G C hl hD had hca
  subst hl hD had hca
  have C : zC X G b_S_travellersAt "GateRoads$State" 4 (some .int) 1 22 := C
  show zJ X G (zQi X G (fun z u => σ = u ∧ Q z)) 4 0 [(0, .ref (gad G 0)), (1, .int (zI v1))] [] σ
  unfold wp_S_travellersAt at h
  refine j_iconst C d_S_travellersAt_0 ?_
  refine j_istore_n (L' := [(2, .int (zI 0)), (0, .ref (gad G 0)), (1, .int (zI v1))]) C d_S_travellersAt_1 rfl rfl rfl ?_
  refine j_iconst C d_S_travellersAt_2 ?_
  refine j_istore_n (L' := [(3, .int (zI 0)), (2, .int (zI 0)), (0, .ref (gad G 0)), (1, .int (zI v1))]) C d_S_travellersAt_3 rfl rfl rfl ?_
  obtain ⟨n4, h⟩ := h
  refine j_sub (L' := [(0, .ref (gad G 0)), (1, .int (zI v1)), (2, .int (zI 0)), (3, .int (zI 0))]) [2, 3, 1, 0] rfl ?_
  refine w_S_travellersAt_L4 C hσ r1 n4 0 0 (zR_of (x := 0) rfl) (zR_of (x := 0) rfl) h
set_option maxRecDepth 100000 in
set_option maxHeartbeats 4000000 in
theorem c_S_ofRooms (l : Launch) (D : va_G) (ad : Nat → Nat) (ca : Nat → ClassId) {σ : zM} {v1 : Int} {v2 : Int} {Q : Int → Prop} (hσ : zRM σ) (r1 : zR v1) (r2 : zR v2) (h : wp_S_ofRooms σ v1 v2 Q) : zCi l D ad ca y_S_ofRooms b_S_ofRooms 3 (some .int) (zrm 0 0) [.ref (ad 0), .int (zI v1), .int (zI v2)] σ (fun z u => σ = u ∧ Q z) := by
  refine zCi_of (by decide +kernel) (Nat.le_of_ble_eq_true rfl) ?_
  intro X G C hl hD had hca
  subst hl hD had hca
  have C : zC X G b_S_ofRooms "GateRoads$State" 3 (some .int) 0 0 := C
  show zJ X G (zQi X G (fun z u => σ = u ∧ Q z)) 3 0 [(0, .ref (gad G 0)), (1, .int (zI v1)), (2, .int (zI v2))] [] σ
  unfold wp_S_ofRooms at h
  refine j_aload_n C d_S_ofRooms_0 0 rfl rfl ?_
  refine j_getr (kf := 0) (m := 1) C d_S_ofRooms_1 sh_0 rfl i_S rfl rfl fl_S_9 ?_
  refine j_iload_n C d_S_ofRooms_4 1 rfl rfl ?_
  refine j_iconst C d_S_ofRooms_5 ?_
  refine j_imul C d_S_ofRooms_6 ?_
  refine j_iload_n C d_S_ofRooms_7 2 rfl rfl ?_
  refine j_iadd C d_S_ofRooms_8 ?_
  obtain ⟨g1, h⟩ := h
  refine j_iaload C d_S_ofRooms_9 sh_1 g1 ?_
  exact j_ireturn C d_S_ofRooms_10 (hσ _ _) hσ ⟨rfl, h⟩
set_option maxRecDepth 100000 in
set_option maxHeartbeats 4000000 in
theorem c_X_ofPlace (l : Launch) (D : va_G) (ad : Nat → Nat) (ca : Nat → ClassId) {σ : zM} {v1 : Int} {v2 : Int} {Q : Int → Prop} (hσ : zRM σ) (r1 : zR v1) (r2 : zR v2) (h : wp_X_ofPlace σ v1 v2 Q) : zCi l D ad ca y_X_ofPlace b_X_ofPlace 3 (some .int) (zrm 2 46) [.ref (ad 54), .int (zI v1), .int (zI v2)] σ (fun z u => σ = u ∧ Q z) := by
  refine zCi_of (by decide +kernel) (Nat.le_of_ble_eq_true rfl) ?_
  intro X G C hl hD had hca
  subst hl hD had hca
  have C : zC X G b_X_ofPlace "GateRoads" 3 (some .int) 2 46 := C
  show zJ X G (zQi X G (fun z u => σ = u ∧ Q z)) 3 0 [(0, .ref (gad G 54)), (1, .int (zI v1)), (2, .int (zI v2))] [] σ
  unfold wp_X_ofPlace at h
  refine j_iload_n C d_X_ofPlace_0 1 rfl rfl ?_
  refine j_callS C d_X_ofPlace_1 ml_X_65 ms_X_isPlace (c_X_isPlace (xl X) (gD G) (gad G) (gca G) (v0 := v1) hσ r1 h) rfl rfl rfl rfl rfl (fun z1 σ2 rz1 hσ2 h => ?_)
  obtain ⟨ez1, h⟩ := h; subst ez1
  refine j_if_ne (tgt := 9) C d_X_ofPlace_4 rfl rz1 (fun c => ?_) (fun c => ?_)
  · have h := h.1 c
    refine j_iload_n C d_X_ofPlace_9 2 rfl rfl ?_
    refine j_iconst C d_X_ofPlace_10 ?_
    refine j_iconst C d_X_ofPlace_11 ?_
    refine j_callS C d_X_ofPlace_12 ml_X_69 ms_X_within (c_X_within (xl X) (gD G) (gad G) (gca G) (v0 := v2) (v1 := 0) (v2 := 5) hσ r2 (zR_of (x := 0) rfl) (zR_of (x := 5) rfl) h) rfl rfl rfl rfl rfl (fun z3 σ4 rz3 hσ4 h => ?_)
    obtain ⟨ez3, h⟩ := h; subst ez3
    refine j_if_ne (tgt := 21) C d_X_ofPlace_15 rfl rz3 (fun c => ?_) (fun c => ?_)
    · have h := h.1 c
      refine j_iload_n C d_X_ofPlace_21 2 rfl rfl ?_
      refine j_iconst C d_X_ofPlace_22 ?_
      refine j_icmp_ne (tgt := 36) C d_X_ofPlace_23 rfl r2 (zR_of (x := 3) rfl) (fun c => ?_) (fun c => ?_)
      · have h := h.1 c
        refine j_iload_n C d_X_ofPlace_36 2 rfl rfl ?_
        refine j_iconst C d_X_ofPlace_37 ?_
        refine j_icmp_ne (tgt := 51) C d_X_ofPlace_38 rfl r2 (zR_of (x := 4) rfl) (fun c => ?_) (fun c => ?_)
        · have h := h.1 c
          refine j_iload_n C d_X_ofPlace_51 2 rfl rfl ?_
          refine j_iconst C d_X_ofPlace_52 ?_
          refine j_icmp_ne (tgt := 65) C d_X_ofPlace_53 rfl r2 (zR_of (x := 5) rfl) (fun c => ?_) (fun c => ?_)
          · have h := h.1 c
            refine j_aload_n C d_X_ofPlace_65 0 rfl rfl ?_
            refine j_getr (kf := 0) (m := 0) C d_X_ofPlace_66 sh_54 rfl i_X rfl rfl fl_X_12 ?_
            refine j_iload_n C d_X_ofPlace_69 1 rfl rfl ?_
            refine j_iload_n C d_X_ofPlace_70 2 rfl rfl ?_
            refine j_callV C d_X_ofPlace_71 ml_X_153 mi_S_ofRooms (c_S_ofRooms (xl X) (gD G) (gad G) (gca G) (v1 := v1) (v2 := v2) hσ r1 r2 h) sh_0 rfl rfl rfl rfl rfl rfl rfl (fun z5 σ6 rz5 hσ6 h => ?_)
            obtain ⟨ez5, h⟩ := h; subst ez5
            exact j_ireturn C d_X_ofPlace_74 rz5 hσ ⟨rfl, h⟩
          · have h := h.2 c
            refine j_aload_n C d_X_ofPlace_56 0 rfl rfl ?_
            refine j_getr (kf := 0) (m := 0) C d_X_ofPlace_57 sh_54 rfl i_X rfl rfl fl_X_12 ?_
            refine j_iload_n C d_X_ofPlace_60 1 rfl rfl ?_
            refine j_callV C d_X_ofPlace_61 ml_X_150 mi_S_travellersAt (c_S_travellersAt (xl X) (gD G) (gad G) (gca G) (v1 := v1) hσ r1 h) sh_0 rfl rfl rfl rfl rfl rfl rfl (fun z7 σ8 rz7 hσ8 h => ?_)
            obtain ⟨ez7, h⟩ := h; subst ez7
            exact j_ireturn C d_X_ofPlace_64 rz7 hσ ⟨rfl, h⟩
        · have h := h.2 c
          refine j_aload_n C d_X_ofPlace_41 0 rfl rfl ?_
          refine j_getr (kf := 0) (m := 0) C d_X_ofPlace_42 sh_54 rfl i_X rfl rfl fl_X_12 ?_
          refine j_iconst C d_X_ofPlace_45 ?_
          refine j_iload_n C d_X_ofPlace_46 1 rfl rfl ?_
          refine j_callV C d_X_ofPlace_47 ml_X_147 mi_S_roadsWith (c_S_roadsWith (xl X) (gD G) (gad G) (gca G) (v1 := 1) (v2 := v1) hσ (zR_of (x := 1) rfl) r1 h) sh_0 rfl rfl rfl rfl rfl rfl rfl (fun z9 σ10 rz9 hσ10 h => ?_)
          obtain ⟨ez9, h⟩ := h; subst ez9
          exact j_ireturn C d_X_ofPlace_50 rz9 hσ ⟨rfl, h⟩
      · have h := h.2 c
        refine j_aload_n C d_X_ofPlace_26 0 rfl rfl ?_
        refine j_getr (kf := 0) (m := 0) C d_X_ofPlace_27 sh_54 rfl i_X rfl rfl fl_X_12 ?_
        refine j_iconst C d_X_ofPlace_30 ?_
        refine j_iload_n C d_X_ofPlace_31 1 rfl rfl ?_
        refine j_callV C d_X_ofPlace_32 ml_X_147 mi_S_roadsWith (c_S_roadsWith (xl X) (gD G) (gad G) (gca G) (v1 := 0) (v2 := v1) hσ (zR_of (x := 0) rfl) r1 h) sh_0 rfl rfl rfl rfl rfl rfl rfl (fun z11 σ12 rz11 hσ12 h => ?_)
        obtain ⟨ez11, h⟩ := h; subst ez11
        exact j_ireturn C d_X_ofPlace_35 rz11 hσ ⟨rfl, h⟩
    · have h := h.2 c
      refine j_bipush C d_X_ofPlace_18 rfl ?_
      exact j_ireturn C d_X_ofPlace_20 (zR_of (x := (-2)) rfl) hσ ⟨rfl, h⟩
  · have h := h.2 c
    refine j_iconst C d_X_ofPlace_7 ?_
    exact j_ireturn C d_X_ofPlace_8 (zR_of (x := (-1)) rfl) hσ ⟨rfl, h⟩
set_option maxRecDepth 100000 in
set_option maxHeartbeats 4000000 in
theorem c_S_hasRoad (l : Launch) (D : va_G) (ad : Nat → Nat) (ca : Nat → ClassId) {σ : zM} {v1 : Int} {Q : Int → Prop} (hσ : zRM σ) (r1 : zR v1) (h : wp_S_hasRoad σ v1 Q) : zCi l D ad ca y_S_hasRoad b_S_hasRoad 2 (some .boolean) (zrm 0 0) [.ref (ad 0), .int (zI v1)] σ (fun z u => σ = u ∧ Q z) := by
  refine zCi_of (by decide +kernel) (Nat.le_of_ble_eq_true rfl) ?_
  intro X G C hl hD had hca
  subst hl hD had hca
  have C : zC X G b_S_hasRoad "GateRoads$State" 2 (some .boolean) 0 0 := C
  show zJ X G (zQi X G (fun z u => σ = u ∧ Q z)) 2 0 [(0, .ref (gad G 0)), (1, .int (zI v1))] [] σ
  unfold wp_S_hasRoad at h
  refine j_iload_n C d_S_hasRoad_0 1 rfl rfl ?_
  refine j_if_lt (tgt := 16) C d_S_hasRoad_1 rfl r1 (fun c => ?_) (fun c => ?_)
  · have h := h.1 c
    refine j_iconst C d_S_hasRoad_16 ?_
    exact j_zreturn C d_S_hasRoad_17 (by decide) hσ ⟨rfl, h⟩
  · have h := h.2 c
    refine j_iload_n C d_S_hasRoad_4 1 rfl rfl ?_
    refine j_aload_n C d_S_hasRoad_5 0 rfl rfl ?_
    refine j_geti (kf := 5) (kI := 5) C d_S_hasRoad_6 sh_0 rfl i_S rfl rfl rfl fl_S_33 ?_
    refine j_icmp_ge (tgt := 16) C d_S_hasRoad_9 rfl r1 (hσ _ _) (fun c => ?_) (fun c => ?_)
    · have h := h.1 c
      refine j_iconst C d_S_hasRoad_16 ?_
      exact j_zreturn C d_S_hasRoad_17 (by decide) hσ ⟨rfl, h⟩
    · have h := h.2 c
      refine j_iconst C d_S_hasRoad_12 ?_
      refine j_goto (tgt := 17) C d_S_hasRoad_13 rfl ?_
      exact j_zreturn C d_S_hasRoad_17 (by decide) hσ ⟨rfl, h⟩
set_option maxRecDepth 100000 in
set_option maxHeartbeats 4000000 in
theorem c_S_ofClosures (l : Launch) (D : va_G) (ad : Nat → Nat) (ca : Nat → ClassId) {σ : zM} {v1 : Int} {v2 : Int} {Q : Int → Prop} (hσ : zRM σ) (r1 : zR v1) (r2 : zR v2) (h : wp_S_ofClosures σ v1 v2 Q) : zCi l D ad ca y_S_ofClosures b_S_ofClosures 3 (some .int) (zrm 0 0) [.ref (ad 0), .int (zI v1), .int (zI v2)] σ (fun z u => σ = u ∧ Q z) := by
  refine zCi_of (by decide +kernel) (Nat.le_of_ble_eq_true rfl) ?_
  intro X G C hl hD had hca
  subst hl hD had hca
  have C : zC X G b_S_ofClosures "GateRoads$State" 3 (some .int) 0 0 := C
  show zJ X G (zQi X G (fun z u => σ = u ∧ Q z)) 3 0 [(0, .ref (gad G 0)), (1, .int (zI v1)), (2, .int (zI v2))] [] σ
  unfold wp_S_ofClosures at h
  refine j_aload_n C d_S_ofClosures_0 0 rfl rfl ?_
  refine j_getr (kf := 3) (m := 4) C d_S_ofClosures_1 sh_0 rfl i_S rfl rfl fl_S_21 ?_
  refine j_iload_n C d_S_ofClosures_4 1 rfl rfl ?_
  refine j_iconst C d_S_ofClosures_5 ?_
  refine j_imul C d_S_ofClosures_6 ?_
  refine j_iload_n C d_S_ofClosures_7 2 rfl rfl ?_
  refine j_iadd C d_S_ofClosures_8 ?_
  obtain ⟨g1, h⟩ := h
  refine j_iaload C d_S_ofClosures_9 sh_4 g1 ?_
  exact j_ireturn C d_S_ofClosures_10 (hσ _ _) hσ ⟨rfl, h⟩
set_option maxRecDepth 100000 in
set_option maxHeartbeats 4000000 in
theorem w_S_closuresOf_b25 {X : zX} {G : zG} (C : zC X G b_S_closuresOf "GateRoads$State" 4 (some .int) 1 22) {σ : zM} {v1 : Int} (hσ : zRM σ) (r1 : zR v1) {Q : Int → Prop} {k4 : Int → Int → Prop} (hk4 : ∀ (v2 : Int) (v3 : Int), zR v2 → zR v3 → k4 v2 v3 → zJ X G (zQi X G (fun z u => σ = u ∧ Q z)) 4 4 [(0, .ref (gad G 0)), (1, .int (zI v1)), (2, .int (zI v2)), (3, .int (zI v3))] [] σ) (v2 : Int) (v3 : Int) (r2 : zR v2) (r3 : zR v3) (h : wp_S_closuresOf_b25 σ v1 k4 Q v2 v3) : zJ X G (zQi X G (fun z u => σ = u ∧ Q z)) 4 25 [(0, .ref (gad G 0)), (1, .int (zI v1)), (2, .int (zI v2)), (3, .int (zI v3))] [] σ := by
  unfold wp_S_closuresOf_b25 at h
  obtain ⟨g3, h⟩ := h
  refine j_iinc (L' := [(3, .int (zI (v3 + 1))), (0, .ref (gad G 0)), (1, .int (zI v1)), (2, .int (zI v2))]) C d_S_closuresOf_25 3 rfl rfl rfl ?_
  refine j_goto (tgt := 4) C d_S_closuresOf_28 rfl ?_
  refine j_sub (L' := [(0, .ref (gad G 0)), (1, .int (zI v1)), (2, .int (zI v2)), (3, .int (zI (v3 + 1)))]) [1, 2, 3, 0] rfl ?_
  exact hk4 v2 (v3 + 1) r2 g3 h
set_option maxRecDepth 100000 in
set_option maxHeartbeats 4000000 in
theorem w_S_closuresOf_L4 {X : zX} {G : zG} (C : zC X G b_S_closuresOf "GateRoads$State" 4 (some .int) 1 22) {σ : zM} {v1 : Int} (hσ : zRM σ) (r1 : zR v1) {Q : Int → Prop} : ∀ (n : Nat) (v2 : Int) (v3 : Int) (r2 : zR v2) (r3 : zR v3), wp_S_closuresOf_L4 σ v1 Q n v2 v3 → zJ X G (zQi X G (fun z u => σ = u ∧ Q z)) 4 4 [(0, .ref (gad G 0)), (1, .int (zI v1)), (2, .int (zI v2)), (3, .int (zI v3))] [] σ := by
  intro n
  induction n with
  | zero => intro v2 v3 r2 r3 h; exact False.elim h
  | succ n ih =>
    intro v2 v3 r2 r3 h
    rw [wp_S_closuresOf_L4] at h
    refine j_iload_n C d_S_closuresOf_4 3 rfl rfl ?_
    refine j_aload_n C d_S_closuresOf_5 0 rfl rfl ?_
    refine j_geti (kf := 6) (kI := 6) C d_S_closuresOf_6 sh_0 rfl i_S rfl rfl rfl fl_S_37 ?_
    refine j_icmp_ge (tgt := 31) C d_S_closuresOf_9 rfl r3 (hσ _ _) (fun c => ?_) (fun c => ?_)
    · have h := h.1 c
      refine j_iload_n C d_S_closuresOf_31 2 rfl rfl ?_
      exact j_ireturn C d_S_closuresOf_32 r2 hσ ⟨rfl, h⟩
    · have h := h.2 c
      refine j_aload_n C d_S_closuresOf_12 0 rfl rfl ?_
      refine j_iload_n C d_S_closuresOf_13 3 rfl rfl ?_
      refine j_iconst C d_S_closuresOf_14 ?_
      refine j_callV C d_S_closuresOf_15 ml_S_70 mi_S_ofClosures (c_S_ofClosures (xl X) (gD G) (gad G) (gca G) (v1 := v3) (v2 := 0) hσ r3 (zR_of (x := 0) rfl) h) sh_0 rfl rfl rfl rfl rfl rfl rfl (fun z1 σ2 rz1 hσ2 h => ?_)
      obtain ⟨ez1, h⟩ := h; subst ez1
      refine j_iload_n C d_S_closuresOf_18 1 rfl rfl ?_
      refine j_icmp_ne (tgt := 25) C d_S_closuresOf_19 rfl rz1 r1 (fun c => ?_) (fun c => ?_)
      · have h := h.1 c
        refine w_S_closuresOf_b25 C hσ r1 ih v2 v3 r2 r3 h
      · have h := h.2 c
        obtain ⟨g4, h⟩ := h
        refine j_iinc (L' := [(2, .int (zI (v2 + 1))), (0, .ref (gad G 0)), (1, .int (zI v1)), (3, .int (zI v3))]) C d_S_closuresOf_22 2 rfl rfl rfl ?_
        refine j_sub (L' := [(0, .ref (gad G 0)), (1, .int (zI v1)), (2, .int (zI (v2 + 1))), (3, .int (zI v3))]) [1, 2, 0, 3] rfl ?_
        refine w_S_closuresOf_b25 C hσ r1 ih (v2 + 1) v3 g4 r3 h
set_option maxRecDepth 100000 in
set_option maxHeartbeats 4000000 in
theorem c_S_closuresOf (l : Launch) (D : va_G) (ad : Nat → Nat) (ca : Nat → ClassId) {σ : zM} {v1 : Int} {Q : Int → Prop} (hσ : zRM σ) (r1 : zR v1) (h : wp_S_closuresOf σ v1 Q) : zCi l D ad ca y_S_closuresOf b_S_closuresOf 4 (some .int) (zrm 1 22) [.ref (ad 0), .int (zI v1)] σ (fun z u => σ = u ∧ Q z) := by
  refine zCi_of (by decide +kernel) (Nat.le_of_ble_eq_true rfl) ?_
  intro X G C hl hD had hca
  subst hl hD had hca
  have C : zC X G b_S_closuresOf "GateRoads$State" 4 (some .int) 1 22 := C
  show zJ X G (zQi X G (fun z u => σ = u ∧ Q z)) 4 0 [(0, .ref (gad G 0)), (1, .int (zI v1))] [] σ
  unfold wp_S_closuresOf at h
  refine j_iconst C d_S_closuresOf_0 ?_
  refine j_istore_n (L' := [(2, .int (zI 0)), (0, .ref (gad G 0)), (1, .int (zI v1))]) C d_S_closuresOf_1 rfl rfl rfl ?_
  refine j_iconst C d_S_closuresOf_2 ?_
  refine j_istore_n (L' := [(3, .int (zI 0)), (2, .int (zI 0)), (0, .ref (gad G 0)), (1, .int (zI v1))]) C d_S_closuresOf_3 rfl rfl rfl ?_
  obtain ⟨n5, h⟩ := h
  refine j_sub (L' := [(0, .ref (gad G 0)), (1, .int (zI v1)), (2, .int (zI 0)), (3, .int (zI 0))]) [2, 3, 1, 0] rfl ?_
  refine w_S_closuresOf_L4 C hσ r1 n5 0 0 (zR_of (x := 0) rfl) (zR_of (x := 0) rfl) h
set_option maxRecDepth 100000 in
set_option maxHeartbeats 4000000 in
theorem c_X_ofRoad (l : Launch) (D : va_G) (ad : Nat → Nat) (ca : Nat → ClassId) {σ : zM} {v1 : Int} {v2 : Int} {Q : Int → Prop} (hσ : zRM σ) (r1 : zR v1) (r2 : zR v2) (h : wp_X_ofRoad σ v1 v2 Q) : zCi l D ad ca y_X_ofRoad b_X_ofRoad 3 (some .int) (zrm 2 45) [.ref (ad 54), .int (zI v1), .int (zI v2)] σ (fun z u => σ = u ∧ Q z) := by
  refine zCi_of (by decide +kernel) (Nat.le_of_ble_eq_true rfl) ?_
  intro X G C hl hD had hca
  subst hl hD had hca
  have C : zC X G b_X_ofRoad "GateRoads" 3 (some .int) 2 45 := C
  show zJ X G (zQi X G (fun z u => σ = u ∧ Q z)) 3 0 [(0, .ref (gad G 54)), (1, .int (zI v1)), (2, .int (zI v2))] [] σ
  unfold wp_X_ofRoad at h
  refine j_aload_n C d_X_ofRoad_0 0 rfl rfl ?_
  refine j_getr (kf := 0) (m := 0) C d_X_ofRoad_1 sh_54 rfl i_X rfl rfl fl_X_12 ?_
  refine j_iload_n C d_X_ofRoad_4 1 rfl rfl ?_
  refine j_callV C d_X_ofRoad_5 ml_X_88 mi_S_hasRoad (c_S_hasRoad (xl X) (gD G) (gad G) (gca G) (v1 := v1) hσ r1 h) sh_0 rfl rfl rfl rfl rfl rfl rfl (fun z1 σ2 rz1 hσ2 h => ?_)
  obtain ⟨ez1, h⟩ := h; subst ez1
  refine j_if_ne (tgt := 13) C d_X_ofRoad_8 rfl rz1 (fun c => ?_) (fun c => ?_)
  · have h := h.1 c
    refine j_iload_n C d_X_ofRoad_13 2 rfl rfl ?_
    refine j_iconst C d_X_ofRoad_14 ?_
    refine j_bipush C d_X_ofRoad_15 rfl ?_
    refine j_callS C d_X_ofRoad_17 ml_X_69 ms_X_within (c_X_within (xl X) (gD G) (gad G) (gca G) (v0 := v2) (v1 := 0) (v2 := 12) hσ r2 (zR_of (x := 0) rfl) (zR_of (x := 12) rfl) h) rfl rfl rfl rfl rfl (fun z3 σ4 rz3 hσ4 h => ?_)
    obtain ⟨ez3, h⟩ := h; subst ez3
    refine j_if_ne (tgt := 26) C d_X_ofRoad_20 rfl rz3 (fun c => ?_) (fun c => ?_)
    · have h := h.1 c
      refine j_iload_n C d_X_ofRoad_26 2 rfl rfl ?_
      refine j_bipush C d_X_ofRoad_27 rfl ?_
      refine j_icmp_ne (tgt := 41) C d_X_ofRoad_29 rfl r2 (zR_of (x := 11) rfl) (fun c => ?_) (fun c => ?_)
      · have h := h.1 c
        refine j_iload_n C d_X_ofRoad_41 2 rfl rfl ?_
        refine j_bipush C d_X_ofRoad_42 rfl ?_
        refine j_icmp_ne (tgt := 57) C d_X_ofRoad_44 rfl r2 (zR_of (x := 12) rfl) (fun c => ?_) (fun c => ?_)
        · have h := h.1 c
          refine j_aload_n C d_X_ofRoad_57 0 rfl rfl ?_
          refine j_getr (kf := 0) (m := 0) C d_X_ofRoad_58 sh_54 rfl i_X rfl rfl fl_X_12 ?_
          refine j_iload_n C d_X_ofRoad_61 1 rfl rfl ?_
          refine j_iload_n C d_X_ofRoad_62 2 rfl rfl ?_
          refine j_callV C d_X_ofRoad_63 ml_X_94 mi_S_ofRoads (c_S_ofRoads (xl X) (gD G) (gad G) (gca G) (v1 := v1) (v2 := v2) hσ r1 r2 h) sh_0 rfl rfl rfl rfl rfl rfl rfl (fun z5 σ6 rz5 hσ6 h => ?_)
          obtain ⟨ez5, h⟩ := h; subst ez5
          exact j_ireturn C d_X_ofRoad_66 rz5 hσ ⟨rfl, h⟩
        · have h := h.2 c
          refine j_aload_n C d_X_ofRoad_47 0 rfl rfl ?_
          refine j_getr (kf := 0) (m := 0) C d_X_ofRoad_48 sh_54 rfl i_X rfl rfl fl_X_12 ?_
          refine j_getr (kf := 2) (m := 3) C d_X_ofRoad_51 sh_0 rfl i_S rfl rfl fl_X_159 ?_
          refine j_iload_n C d_X_ofRoad_54 1 rfl rfl ?_
          obtain ⟨g7, h⟩ := h
          refine j_iaload C d_X_ofRoad_55 sh_3 g7 ?_
          exact j_ireturn C d_X_ofRoad_56 (hσ _ _) hσ ⟨rfl, h⟩
      · have h := h.2 c
        refine j_aload_n C d_X_ofRoad_32 0 rfl rfl ?_
        refine j_getr (kf := 0) (m := 0) C d_X_ofRoad_33 sh_54 rfl i_X rfl rfl fl_X_12 ?_
        refine j_iload_n C d_X_ofRoad_36 1 rfl rfl ?_
        refine j_callV C d_X_ofRoad_37 ml_X_156 mi_S_closuresOf (c_S_closuresOf (xl X) (gD G) (gad G) (gca G) (v1 := v1) hσ r1 h) sh_0 rfl rfl rfl rfl rfl rfl rfl (fun z8 σ9 rz8 hσ9 h => ?_)
        obtain ⟨ez8, h⟩ := h; subst ez8
        exact j_ireturn C d_X_ofRoad_40 rz8 hσ ⟨rfl, h⟩
    · have h := h.2 c
      refine j_bipush C d_X_ofRoad_23 rfl ?_
      exact j_ireturn C d_X_ofRoad_25 (zR_of (x := (-2)) rfl) hσ ⟨rfl, h⟩
  · have h := h.2 c
    refine j_iconst C d_X_ofRoad_11 ?_
    exact j_ireturn C d_X_ofRoad_12 (zR_of (x := (-1)) rfl) hσ ⟨rfl, h⟩
set_option maxRecDepth 100000 in
set_option maxHeartbeats 4000000 in
theorem c_S_hasClosure (l : Launch) (D : va_G) (ad : Nat → Nat) (ca : Nat → ClassId) {σ : zM} {v1 : Int} {Q : Int → Prop} (hσ : zRM σ) (r1 : zR v1) (h : wp_S_hasClosure σ v1 Q) : zCi l D ad ca y_S_hasClosure b_S_hasClosure 2 (some .boolean) (zrm 0 0) [.ref (ad 0), .int (zI v1)] σ (fun z u => σ = u ∧ Q z) := by
  refine zCi_of (by decide +kernel) (Nat.le_of_ble_eq_true rfl) ?_
  intro X G C hl hD had hca
  subst hl hD had hca
  have C : zC X G b_S_hasClosure "GateRoads$State" 2 (some .boolean) 0 0 := C
  show zJ X G (zQi X G (fun z u => σ = u ∧ Q z)) 2 0 [(0, .ref (gad G 0)), (1, .int (zI v1))] [] σ
  unfold wp_S_hasClosure at h
  refine j_iload_n C d_S_hasClosure_0 1 rfl rfl ?_
  refine j_if_lt (tgt := 16) C d_S_hasClosure_1 rfl r1 (fun c => ?_) (fun c => ?_)
  · have h := h.1 c
    refine j_iconst C d_S_hasClosure_16 ?_
    exact j_zreturn C d_S_hasClosure_17 (by decide) hσ ⟨rfl, h⟩
  · have h := h.2 c
    refine j_iload_n C d_S_hasClosure_4 1 rfl rfl ?_
    refine j_aload_n C d_S_hasClosure_5 0 rfl rfl ?_
    refine j_geti (kf := 6) (kI := 6) C d_S_hasClosure_6 sh_0 rfl i_S rfl rfl rfl fl_S_37 ?_
    refine j_icmp_ge (tgt := 16) C d_S_hasClosure_9 rfl r1 (hσ _ _) (fun c => ?_) (fun c => ?_)
    · have h := h.1 c
      refine j_iconst C d_S_hasClosure_16 ?_
      exact j_zreturn C d_S_hasClosure_17 (by decide) hσ ⟨rfl, h⟩
    · have h := h.2 c
      refine j_iconst C d_S_hasClosure_12 ?_
      refine j_goto (tgt := 17) C d_S_hasClosure_13 rfl ?_
      exact j_zreturn C d_S_hasClosure_17 (by decide) hσ ⟨rfl, h⟩
set_option maxRecDepth 100000 in
set_option maxHeartbeats 4000000 in
theorem c_X_ofClosure (l : Launch) (D : va_G) (ad : Nat → Nat) (ca : Nat → ClassId) {σ : zM} {v1 : Int} {v2 : Int} {Q : Int → Prop} (hσ : zRM σ) (r1 : zR v1) (r2 : zR v2) (h : wp_X_ofClosure σ v1 v2 Q) : zCi l D ad ca y_X_ofClosure b_X_ofClosure 3 (some .int) (zrm 1 22) [.ref (ad 54), .int (zI v1), .int (zI v2)] σ (fun z u => σ = u ∧ Q z) := by
  refine zCi_of (by decide +kernel) (Nat.le_of_ble_eq_true rfl) ?_
  intro X G C hl hD had hca
  subst hl hD had hca
  have C : zC X G b_X_ofClosure "GateRoads" 3 (some .int) 1 22 := C
  show zJ X G (zQi X G (fun z u => σ = u ∧ Q z)) 3 0 [(0, .ref (gad G 54)), (1, .int (zI v1)), (2, .int (zI v2))] [] σ
  unfold wp_X_ofClosure at h
  refine j_aload_n C d_X_ofClosure_0 0 rfl rfl ?_
  refine j_getr (kf := 0) (m := 0) C d_X_ofClosure_1 sh_54 rfl i_X rfl rfl fl_X_12 ?_
  refine j_iload_n C d_X_ofClosure_4 1 rfl rfl ?_
  refine j_callV C d_X_ofClosure_5 ml_X_115 mi_S_hasClosure (c_S_hasClosure (xl X) (gD G) (gad G) (gca G) (v1 := v1) hσ r1 h) sh_0 rfl rfl rfl rfl rfl rfl rfl (fun z1 σ2 rz1 hσ2 h => ?_)
  obtain ⟨ez1, h⟩ := h; subst ez1
  refine j_if_ne (tgt := 13) C d_X_ofClosure_8 rfl rz1 (fun c => ?_) (fun c => ?_)
  · have h := h.1 c
    refine j_iload_n C d_X_ofClosure_13 2 rfl rfl ?_
    refine j_iconst C d_X_ofClosure_14 ?_
    refine j_iconst C d_X_ofClosure_15 ?_
    refine j_callS C d_X_ofClosure_16 ml_X_69 ms_X_within (c_X_within (xl X) (gD G) (gad G) (gca G) (v0 := v2) (v1 := 0) (v2 := 2) hσ r2 (zR_of (x := 0) rfl) (zR_of (x := 2) rfl) h) rfl rfl rfl rfl rfl (fun z3 σ4 rz3 hσ4 h => ?_)
    obtain ⟨ez3, h⟩ := h; subst ez3
    refine j_if_ne (tgt := 25) C d_X_ofClosure_19 rfl rz3 (fun c => ?_) (fun c => ?_)
    · have h := h.1 c
      refine j_aload_n C d_X_ofClosure_25 0 rfl rfl ?_
      refine j_getr (kf := 0) (m := 0) C d_X_ofClosure_26 sh_54 rfl i_X rfl rfl fl_X_12 ?_
      refine j_iload_n C d_X_ofClosure_29 1 rfl rfl ?_
      refine j_iload_n C d_X_ofClosure_30 2 rfl rfl ?_
      refine j_callV C d_X_ofClosure_31 ml_X_162 mi_S_ofClosures (c_S_ofClosures (xl X) (gD G) (gad G) (gca G) (v1 := v1) (v2 := v2) hσ r1 r2 h) sh_0 rfl rfl rfl rfl rfl rfl rfl (fun z5 σ6 rz5 hσ6 h => ?_)
      obtain ⟨ez5, h⟩ := h; subst ez5
      exact j_ireturn C d_X_ofClosure_34 rz5 hσ ⟨rfl, h⟩
    · have h := h.2 c
      refine j_bipush C d_X_ofClosure_22 rfl ?_
      exact j_ireturn C d_X_ofClosure_24 (zR_of (x := (-2)) rfl) hσ ⟨rfl, h⟩
  · have h := h.2 c
    refine j_iconst C d_X_ofClosure_11 ?_
    exact j_ireturn C d_X_ofClosure_12 (zR_of (x := (-1)) rfl) hσ ⟨rfl, h⟩
set_option maxRecDepth 100000 in
set_option maxHeartbeats 4000000 in
theorem c_S_hasTraveller (l : Launch) (D : va_G) (ad : Nat → Nat) (ca : Nat → ClassId) {σ : zM} {v1 : Int} {Q : Int → Prop} (hσ : zRM σ) (r1 : zR v1) (h : wp_S_hasTraveller σ v1 Q) : zCi l D ad ca y_S_hasTraveller b_S_hasTraveller 2 (some .boolean) (zrm 0 0) [.ref (ad 0), .int (zI v1)] σ (fun z u => σ = u ∧ Q z) := by
  refine zCi_of (by decide +kernel) (Nat.le_of_ble_eq_true rfl) ?_
  intro X G C hl hD had hca
  subst hl hD had hca
  have C : zC X G b_S_hasTraveller "GateRoads$State" 2 (some .boolean) 0 0 := C
  show zJ X G (zQi X G (fun z u => σ = u ∧ Q z)) 2 0 [(0, .ref (gad G 0)), (1, .int (zI v1))] [] σ
  unfold wp_S_hasTraveller at h
  refine j_iload_n C d_S_hasTraveller_0 1 rfl rfl ?_
  refine j_if_lt (tgt := 16) C d_S_hasTraveller_1 rfl r1 (fun c => ?_) (fun c => ?_)
  · have h := h.1 c
    refine j_iconst C d_S_hasTraveller_16 ?_
    exact j_zreturn C d_S_hasTraveller_17 (by decide) hσ ⟨rfl, h⟩
  · have h := h.2 c
    refine j_iload_n C d_S_hasTraveller_4 1 rfl rfl ?_
    refine j_aload_n C d_S_hasTraveller_5 0 rfl rfl ?_
    refine j_geti (kf := 7) (kI := 7) C d_S_hasTraveller_6 sh_0 rfl i_S rfl rfl rfl fl_S_40 ?_
    refine j_icmp_ge (tgt := 16) C d_S_hasTraveller_9 rfl r1 (hσ _ _) (fun c => ?_) (fun c => ?_)
    · have h := h.1 c
      refine j_iconst C d_S_hasTraveller_16 ?_
      exact j_zreturn C d_S_hasTraveller_17 (by decide) hσ ⟨rfl, h⟩
    · have h := h.2 c
      refine j_iconst C d_S_hasTraveller_12 ?_
      refine j_goto (tgt := 17) C d_S_hasTraveller_13 rfl ?_
      exact j_zreturn C d_S_hasTraveller_17 (by decide) hσ ⟨rfl, h⟩
set_option maxRecDepth 100000 in
set_option maxHeartbeats 4000000 in
theorem c_X_ofTraveller (l : Launch) (D : va_G) (ad : Nat → Nat) (ca : Nat → ClassId) {σ : zM} {v1 : Int} {v2 : Int} {Q : Int → Prop} (hσ : zRM σ) (r1 : zR v1) (r2 : zR v2) (h : wp_X_ofTraveller σ v1 v2 Q) : zCi l D ad ca y_X_ofTraveller b_X_ofTraveller 3 (some .int) (zrm 1 22) [.ref (ad 54), .int (zI v1), .int (zI v2)] σ (fun z u => σ = u ∧ Q z) := by
  refine zCi_of (by decide +kernel) (Nat.le_of_ble_eq_true rfl) ?_
  intro X G C hl hD had hca
  subst hl hD had hca
  have C : zC X G b_X_ofTraveller "GateRoads" 3 (some .int) 1 22 := C
  show zJ X G (zQi X G (fun z u => σ = u ∧ Q z)) 3 0 [(0, .ref (gad G 54)), (1, .int (zI v1)), (2, .int (zI v2))] [] σ
  unfold wp_X_ofTraveller at h
  refine j_aload_n C d_X_ofTraveller_0 0 rfl rfl ?_
  refine j_getr (kf := 0) (m := 0) C d_X_ofTraveller_1 sh_54 rfl i_X rfl rfl fl_X_12 ?_
  refine j_iload_n C d_X_ofTraveller_4 1 rfl rfl ?_
  refine j_callV C d_X_ofTraveller_5 ml_X_128 mi_S_hasTraveller (c_S_hasTraveller (xl X) (gD G) (gad G) (gca G) (v1 := v1) hσ r1 h) sh_0 rfl rfl rfl rfl rfl rfl rfl (fun z1 σ2 rz1 hσ2 h => ?_)
  obtain ⟨ez1, h⟩ := h; subst ez1
  refine j_if_ne (tgt := 13) C d_X_ofTraveller_8 rfl rz1 (fun c => ?_) (fun c => ?_)
  · have h := h.1 c
    refine j_iload_n C d_X_ofTraveller_13 2 rfl rfl ?_
    refine j_iconst C d_X_ofTraveller_14 ?_
    refine j_bipush C d_X_ofTraveller_15 rfl ?_
    refine j_callS C d_X_ofTraveller_17 ml_X_69 ms_X_within (c_X_within (xl X) (gD G) (gad G) (gca G) (v0 := v2) (v1 := 0) (v2 := 7) hσ r2 (zR_of (x := 0) rfl) (zR_of (x := 7) rfl) h) rfl rfl rfl rfl rfl (fun z3 σ4 rz3 hσ4 h => ?_)
    obtain ⟨ez3, h⟩ := h; subst ez3
    refine j_if_ne (tgt := 26) C d_X_ofTraveller_20 rfl rz3 (fun c => ?_) (fun c => ?_)
    · have h := h.1 c
      refine j_aload_n C d_X_ofTraveller_26 0 rfl rfl ?_
      refine j_getr (kf := 0) (m := 0) C d_X_ofTraveller_27 sh_54 rfl i_X rfl rfl fl_X_12 ?_
      refine j_iload_n C d_X_ofTraveller_30 1 rfl rfl ?_
      refine j_iload_n C d_X_ofTraveller_31 2 rfl rfl ?_
      refine j_callV C d_X_ofTraveller_32 ml_X_165 mi_S_ofTravellers (c_S_ofTravellers (xl X) (gD G) (gad G) (gca G) (v1 := v1) (v2 := v2) hσ r1 r2 h) sh_0 rfl rfl rfl rfl rfl rfl rfl (fun z5 σ6 rz5 hσ6 h => ?_)
      obtain ⟨ez5, h⟩ := h; subst ez5
      exact j_ireturn C d_X_ofTraveller_35 rz5 hσ ⟨rfl, h⟩
    · have h := h.2 c
      refine j_bipush C d_X_ofTraveller_23 rfl ?_
      exact j_ireturn C d_X_ofTraveller_25 (zR_of (x := (-2)) rfl) hσ ⟨rfl, h⟩
  · have h := h.2 c
    refine j_iconst C d_X_ofTraveller_11 ?_
    exact j_ireturn C d_X_ofTraveller_12 (zR_of (x := (-1)) rfl) hσ ⟨rfl, h⟩
set_option maxRecDepth 100000 in
set_option maxHeartbeats 4000000 in
theorem c_S_copyFrom (l : Launch) (D : va_G) (ad : Nat → Nat) (ca : Nat → ClassId) {σ : zM} {a : Nat} {b : Nat} {Q : zM → Prop} (hσ : zRM σ) (ha : a < 9) (hb : b < 9) (h : wp_S_copyFrom σ a b Q) : zCv l D ad ca y_S_copyFrom b_S_copyFrom 2 (zrm 1 26) [.ref (ad (6 * a)), .ref (ad (6 * b))] σ Q := by
  refine zCv_of (by decide +kernel) (Nat.le_of_ble_eq_true rfl) ?_
  intro X G C hl hD had hca
  subst hl hD had hca
  have C : zC X G b_S_copyFrom "GateRoads$State" 2 (none) 1 26 := C
  show zJ X G (zQv X G Q) 2 0 [(0, .ref (gad G (6 * a))), (1, .ref (gad G (6 * b)))] [] σ
  unfold wp_S_copyFrom at h
  refine j_aload_n C d_S_copyFrom_0 1 rfl rfl ?_
  refine j_getr (kf := 0) (m := 6 * b + 1) C d_S_copyFrom_1 (zSt b hb) rfl i_S rfl rfl fl_S_9 ?_
  refine j_iconst C d_S_copyFrom_4 ?_
  refine j_aload_n C d_S_copyFrom_5 0 rfl rfl ?_
  refine j_getr (kf := 0) (m := 6 * a + 1) C d_S_copyFrom_6 (zSt a ha) rfl i_S rfl rfl fl_S_9 ?_
  refine j_iconst C d_S_copyFrom_9 ?_
  refine j_aload_n C d_S_copyFrom_10 0 rfl rfl ?_
  refine j_getr (kf := 0) (m := 6 * a + 1) C d_S_copyFrom_11 (zSt a ha) rfl i_S rfl rfl fl_S_9 ?_
  refine j_alen C d_S_copyFrom_14 (zSt1 a ha) ?_
  obtain ⟨g1, h⟩ := h
  refine j_copy C d_S_copyFrom_15 ml_S_27 zn_copy zs_copy zi_Sys rfl rfl (zSt1 b hb) (zSt1 a ha) g1 ?_
  refine j_mem (fun σ2 eσ2 => ?_)
  have h := h σ2 eσ2
  have hσ2 : zRM σ2 := by rw [eσ2]; exact zCp_rg hσ _ _ _ _ _
  refine j_aload_n C d_S_copyFrom_18 1 rfl rfl ?_
  refine j_getr (kf := 1) (m := 6 * b + 2) C d_S_copyFrom_19 (zSt b hb) rfl i_S rfl rfl fl_S_15 ?_
  refine j_iconst C d_S_copyFrom_22 ?_
  refine j_aload_n C d_S_copyFrom_23 0 rfl rfl ?_
  refine j_getr (kf := 1) (m := 6 * a + 2) C d_S_copyFrom_24 (zSt a ha) rfl i_S rfl rfl fl_S_15 ?_
  refine j_iconst C d_S_copyFrom_27 ?_
  refine j_aload_n C d_S_copyFrom_28 0 rfl rfl ?_
  refine j_getr (kf := 1) (m := 6 * a + 2) C d_S_copyFrom_29 (zSt a ha) rfl i_S rfl rfl fl_S_15 ?_
  refine j_alen C d_S_copyFrom_32 (zSt2 a ha) ?_
  obtain ⟨g3, h⟩ := h
  refine j_copy C d_S_copyFrom_33 ml_S_27 zn_copy zs_copy zi_Sys rfl rfl (zSt2 b hb) (zSt2 a ha) g3 ?_
  refine j_mem (fun σ4 eσ4 => ?_)
  have h := h σ4 eσ4
  have hσ4 : zRM σ4 := by rw [eσ4]; exact zCp_rg hσ2 _ _ _ _ _
  refine j_aload_n C d_S_copyFrom_36 1 rfl rfl ?_
  refine j_getr (kf := 2) (m := 6 * b + 3) C d_S_copyFrom_37 (zSt b hb) rfl i_S rfl rfl fl_S_18 ?_
  refine j_iconst C d_S_copyFrom_40 ?_
  refine j_aload_n C d_S_copyFrom_41 0 rfl rfl ?_
  refine j_getr (kf := 2) (m := 6 * a + 3) C d_S_copyFrom_42 (zSt a ha) rfl i_S rfl rfl fl_S_18 ?_
  refine j_iconst C d_S_copyFrom_45 ?_
  refine j_aload_n C d_S_copyFrom_46 0 rfl rfl ?_
  refine j_getr (kf := 2) (m := 6 * a + 3) C d_S_copyFrom_47 (zSt a ha) rfl i_S rfl rfl fl_S_18 ?_
  refine j_alen C d_S_copyFrom_50 (zSt3 a ha) ?_
  obtain ⟨g5, h⟩ := h
  refine j_copy C d_S_copyFrom_51 ml_S_27 zn_copy zs_copy zi_Sys rfl rfl (zSt3 b hb) (zSt3 a ha) g5 ?_
  refine j_mem (fun σ6 eσ6 => ?_)
  have h := h σ6 eσ6
  have hσ6 : zRM σ6 := by rw [eσ6]; exact zCp_rg hσ4 _ _ _ _ _
  refine j_aload_n C d_S_copyFrom_54 1 rfl rfl ?_
  refine j_getr (kf := 3) (m := 6 * b + 4) C d_S_copyFrom_55 (zSt b hb) rfl i_S rfl rfl fl_S_21 ?_
  refine j_iconst C d_S_copyFrom_58 ?_
  refine j_aload_n C d_S_copyFrom_59 0 rfl rfl ?_
  refine j_getr (kf := 3) (m := 6 * a + 4) C d_S_copyFrom_60 (zSt a ha) rfl i_S rfl rfl fl_S_21 ?_
  refine j_iconst C d_S_copyFrom_63 ?_
  refine j_aload_n C d_S_copyFrom_64 0 rfl rfl ?_
  refine j_getr (kf := 3) (m := 6 * a + 4) C d_S_copyFrom_65 (zSt a ha) rfl i_S rfl rfl fl_S_21 ?_
  refine j_alen C d_S_copyFrom_68 (zSt4 a ha) ?_
  obtain ⟨g7, h⟩ := h
  refine j_copy C d_S_copyFrom_69 ml_S_27 zn_copy zs_copy zi_Sys rfl rfl (zSt4 b hb) (zSt4 a ha) g7 ?_
  refine j_mem (fun σ8 eσ8 => ?_)
  have h := h σ8 eσ8
  have hσ8 : zRM σ8 := by rw [eσ8]; exact zCp_rg hσ6 _ _ _ _ _
  refine j_aload_n C d_S_copyFrom_72 1 rfl rfl ?_
  refine j_getr (kf := 4) (m := 6 * b + 5) C d_S_copyFrom_73 (zSt b hb) rfl i_S rfl rfl fl_S_24 ?_
  refine j_iconst C d_S_copyFrom_76 ?_
  refine j_aload_n C d_S_copyFrom_77 0 rfl rfl ?_
  refine j_getr (kf := 4) (m := 6 * a + 5) C d_S_copyFrom_78 (zSt a ha) rfl i_S rfl rfl fl_S_24 ?_
  refine j_iconst C d_S_copyFrom_81 ?_
  refine j_aload_n C d_S_copyFrom_82 0 rfl rfl ?_
  refine j_getr (kf := 4) (m := 6 * a + 5) C d_S_copyFrom_83 (zSt a ha) rfl i_S rfl rfl fl_S_24 ?_
  refine j_alen C d_S_copyFrom_86 (zSt5 a ha) ?_
  obtain ⟨g9, h⟩ := h
  refine j_copy C d_S_copyFrom_87 ml_S_27 zn_copy zs_copy zi_Sys rfl rfl (zSt5 b hb) (zSt5 a ha) g9 ?_
  refine j_mem (fun σ10 eσ10 => ?_)
  have h := h σ10 eσ10
  have hσ10 : zRM σ10 := by rw [eσ10]; exact zCp_rg hσ8 _ _ _ _ _
  refine j_aload_n C d_S_copyFrom_90 0 rfl rfl ?_
  refine j_aload_n C d_S_copyFrom_91 1 rfl rfl ?_
  refine j_geti (kf := 5) (kI := 5) C d_S_copyFrom_92 (zSt b hb) rfl i_S rfl rfl rfl fl_S_33 ?_
  refine j_puti (kf := 5) (kI := 5) C t_S d_S_copyFrom_95 (zSt a ha) rfl i_S t_S_ok n_S rfl rfl rfl fl_S_33 rfl (Or.inl rfl) ?_
  refine j_mem (fun σ11 eσ11 => ?_)
  have h := h σ11 eσ11
  have hσ11 : zRM σ11 := by rw [eσ11]; exact zU_rg hσ10 _ _ (hσ10 _ _)
  refine j_aload_n C d_S_copyFrom_98 0 rfl rfl ?_
  refine j_aload_n C d_S_copyFrom_99 1 rfl rfl ?_
  refine j_geti (kf := 6) (kI := 6) C d_S_copyFrom_100 (zSt b hb) rfl i_S rfl rfl rfl fl_S_37 ?_
  refine j_puti (kf := 6) (kI := 6) C t_S d_S_copyFrom_103 (zSt a ha) rfl i_S t_S_ok n_S rfl rfl rfl fl_S_37 rfl (Or.inl rfl) ?_
  refine j_mem (fun σ12 eσ12 => ?_)
  have h := h σ12 eσ12
  have hσ12 : zRM σ12 := by rw [eσ12]; exact zU_rg hσ11 _ _ (hσ11 _ _)
  refine j_aload_n C d_S_copyFrom_106 0 rfl rfl ?_
  refine j_aload_n C d_S_copyFrom_107 1 rfl rfl ?_
  refine j_geti (kf := 7) (kI := 7) C d_S_copyFrom_108 (zSt b hb) rfl i_S rfl rfl rfl fl_S_40 ?_
  refine j_puti (kf := 7) (kI := 7) C t_S d_S_copyFrom_111 (zSt a ha) rfl i_S t_S_ok n_S rfl rfl rfl fl_S_40 rfl (Or.inl rfl) ?_
  refine j_mem (fun σ13 eσ13 => ?_)
  have h := h σ13 eσ13
  have hσ13 : zRM σ13 := by rw [eσ13]; exact zU_rg hσ12 _ _ (hσ12 _ _)
  exact j_vreturn C d_S_copyFrom_114 hσ13 h
set_option maxRecDepth 100000 in
set_option maxHeartbeats 4000000 in
theorem w_X_remember_b72 {X : zX} {G : zG} (C : zC X G b_X_remember "GateRoads" 3 (none) 2 47) {Q : zM → Prop} (σ : zM) (hσ : zRM σ) (h : wp_X_remember_b72 Q σ) : zJ X G (zQv X G Q) 3 72 [(0, .ref (gad G 54))] [] σ := by
  unfold wp_X_remember_b72 at h
  refine j_aload_n C d_X_remember_72 0 rfl rfl ?_
  refine j_getr (kf := 1) (m := 55) C d_X_remember_73 sh_54 rfl i_X rfl rfl fl_X_16 ?_
  refine j_aload_n C d_X_remember_76 0 rfl rfl ?_
  refine j_geti (kf := 2) (kI := 2) C d_X_remember_77 sh_54 rfl i_X rfl rfl rfl fl_X_174 ?_
  obtain ⟨g2, h⟩ := h
  obtain ⟨g3, h⟩ := h
  refine j_aaload C d_X_remember_80 sh_55 g2 ?_
  refine j_aload_n C d_X_remember_81 0 rfl rfl ?_
  refine j_getr (kf := 0) (m := 0) C d_X_remember_82 sh_54 rfl i_X rfl rfl fl_X_12 ?_
  refine j_callVv C d_X_remember_85 ml_X_279 mi_S_copyFrom (c_S_copyFrom (xl X) (gD G) (gad G) (gca G) (a := (σ 55 (σ 54 2)).toNat) (b := 0) hσ g3 (by decide) h) (zSt (σ 55 (σ 54 2)).toNat g3) rfl rfl rfl rfl rfl rfl rfl (fun σ5 hσ5 h => ?_)
  refine j_aload_n C d_X_remember_88 0 rfl rfl ?_
  refine j_dup C d_X_remember_89 rfl ?_
  refine j_geti (kf := 2) (kI := 2) C d_X_remember_90 sh_54 rfl i_X rfl rfl rfl fl_X_174 ?_
  refine j_iconst C d_X_remember_93 ?_
  refine j_iadd C d_X_remember_94 ?_
  obtain ⟨g6, h⟩ := h
  refine j_puti (kf := 2) (kI := 2) C t_X d_X_remember_95 sh_54 rfl i_X t_X_ok n_X rfl rfl rfl fl_X_174 rfl (Or.inl rfl) ?_
  refine j_mem (fun σ7 eσ7 => ?_)
  have h := h σ7 eσ7
  have hσ7 : zRM σ7 := by rw [eσ7]; exact zU_rg hσ5 _ _ g6
  exact j_vreturn C d_X_remember_98 hσ7 h
set_option maxRecDepth 100000 in
set_option maxHeartbeats 4000000 in
theorem w_X_remember_L34 {X : zX} {G : zG} (C : zC X G b_X_remember "GateRoads" 3 (none) 2 47) {w1 : Nat} (q1 : w1 < 9) {Q : zM → Prop} : ∀ (n : Nat) (σ : zM) (v2 : Int) (hσ : zRM σ) (r2 : zR v2), wp_X_remember_L34 w1 Q n σ v2 → zJ X G (zQv X G Q) 3 34 [(0, .ref (gad G 54)), (1, .ref (gad G (6 * w1))), (2, .int (zI v2))] [] σ := by
  intro n
  induction n with
  | zero => intro σ v2 hσ r2 h; exact False.elim h
  | succ n ih =>
    intro σ v2 hσ r2 h
    rw [wp_X_remember_L34] at h
    refine j_iload_n C d_X_remember_34 2 rfl rfl ?_
    refine j_bipush C d_X_remember_35 rfl ?_
    refine j_icmp_ge (tgt := 60) C d_X_remember_37 rfl r2 (zR_of (x := 6) rfl) (fun c => ?_) (fun c => ?_)
    · have h := h.1 c
      refine j_aload_n C d_X_remember_60 0 rfl rfl ?_
      refine j_getr (kf := 1) (m := 55) C d_X_remember_61 sh_54 rfl i_X rfl rfl fl_X_16 ?_
      refine j_iconst C d_X_remember_64 ?_
      refine j_aload_n C d_X_remember_65 1 rfl rfl ?_
      refine j_aastore (a := w1) C d_X_remember_66 sh_55 (zIx (i := 5) (n := 6) rfl) q1 ?_
      refine j_mem (fun σ9 eσ9 => ?_)
      have h := h σ9 eσ9
      have hσ9 : zRM σ9 := by rw [eσ9]; exact zU_rg hσ _ _ (zR_nat q1)
      refine j_aload_n C d_X_remember_67 0 rfl rfl ?_
      refine j_iconst C d_X_remember_68 ?_
      refine j_puti (kf := 2) (kI := 2) C t_X d_X_remember_69 sh_54 rfl i_X t_X_ok n_X rfl rfl rfl fl_X_174 rfl (Or.inl rfl) ?_
      refine j_mem (fun σ10 eσ10 => ?_)
      have h := h σ10 eσ10
      have hσ10 : zRM σ10 := by rw [eσ10]; exact zU_rg hσ9 _ _ (zR_of (x := 5) rfl)
      refine j_sub (L' := [(0, .ref (gad G 54))]) [0] rfl ?_
      refine w_X_remember_b72 C σ10 hσ10 h
    · have h := h.2 c
      refine j_aload_n C d_X_remember_40 0 rfl rfl ?_
      refine j_getr (kf := 1) (m := 55) C d_X_remember_41 sh_54 rfl i_X rfl rfl fl_X_16 ?_
      refine j_iload_n C d_X_remember_44 2 rfl rfl ?_
      refine j_iconst C d_X_remember_45 ?_
      refine j_isub C d_X_remember_46 ?_
      refine j_aload_n C d_X_remember_47 0 rfl rfl ?_
      refine j_getr (kf := 1) (m := 55) C d_X_remember_48 sh_54 rfl i_X rfl rfl fl_X_16 ?_
      refine j_iload_n C d_X_remember_51 2 rfl rfl ?_
      obtain ⟨g11, h⟩ := h
      obtain ⟨g12, h⟩ := h
      refine j_aaload C d_X_remember_52 sh_55 g11 ?_
      obtain ⟨g13, h⟩ := h
      refine j_aastore (a := (σ 55 v2).toNat) C d_X_remember_53 sh_55 g13 g12 ?_
      refine j_mem (fun σ14 eσ14 => ?_)
      have h := h σ14 eσ14
      have hσ14 : zRM σ14 := by rw [eσ14]; exact zU_rg hσ _ _ (zR_nat g12)
      obtain ⟨g15, h⟩ := h
      refine j_iinc (L' := [(2, .int (zI (v2 + 1))), (0, .ref (gad G 54)), (1, .ref (gad G (6 * w1)))]) C d_X_remember_54 2 rfl rfl rfl ?_
      refine j_goto (tgt := 34) C d_X_remember_57 rfl ?_
      refine j_sub (L' := [(0, .ref (gad G 54)), (1, .ref (gad G (6 * w1))), (2, .int (zI (v2 + 1)))]) [1, 2, 0] rfl ?_
      exact ih σ14 (v2 + 1) hσ14 g15 h
set_option maxRecDepth 100000 in
set_option maxHeartbeats 4000000 in
theorem c_X_remember (l : Launch) (D : va_G) (ad : Nat → Nat) (ca : Nat → ClassId) {σ : zM} {Q : zM → Prop} (hσ : zRM σ) (h : wp_X_remember σ Q) : zCv l D ad ca y_X_remember b_X_remember 3 (zrm 2 47) [.ref (ad 54)] σ Q := by
  refine zCv_of (by decide +kernel) (Nat.le_of_ble_eq_true rfl) ?_
  intro X G C hl hD had hca
  subst hl hD had hca
  have C : zC X G b_X_remember "GateRoads" 3 (none) 2 47 := C
  show zJ X G (zQv X G Q) 3 0 [(0, .ref (gad G 54))] [] σ
  unfold wp_X_remember at h
  refine j_aload_n C d_X_remember_0 0 rfl rfl ?_
  refine j_getr (kf := 8) (m := 62) C d_X_remember_1 sh_54 rfl i_X rfl rfl fl_X_37 ?_
  refine j_iconst C d_X_remember_4 ?_
  refine j_puti (kf := 1) (kI := 1) C t_G d_X_remember_5 sh_62 rfl i_G t_G_ok n_G rfl rfl rfl fl_X_282 rfl (Or.inr ⟨rfl, by decide⟩) ?_
  refine j_mem (fun σ1 eσ1 => ?_)
  have h := h σ1 eσ1
  have hσ1 : zRM σ1 := by rw [eσ1]; exact zU_rg hσ _ _ (zR_of (x := 0) rfl)
  refine j_aload_n C d_X_remember_8 0 rfl rfl ?_
  refine j_geti (kf := 7) (kI := 7) C d_X_remember_9 sh_54 rfl i_X rfl rfl rfl fl_X_262 ?_
  refine j_if_eq (tgt := 16) C d_X_remember_12 rfl (hσ1 _ _) (fun c => ?_) (fun c => ?_)
  · have h := h.1 c
    refine j_aload_n C d_X_remember_16 0 rfl rfl ?_
    refine j_geti (kf := 2) (kI := 2) C d_X_remember_17 sh_54 rfl i_X rfl rfl rfl fl_X_174 ?_
    refine j_bipush C d_X_remember_20 rfl ?_
    refine j_icmp_lt (tgt := 72) C d_X_remember_22 rfl (hσ1 _ _) (zR_of (x := 6) rfl) (fun c => ?_) (fun c => ?_)
    · have h := h.1 c
      refine w_X_remember_b72 C σ1 hσ1 h
    · have h := h.2 c
      refine j_aload_n C d_X_remember_25 0 rfl rfl ?_
      refine j_getr (kf := 1) (m := 55) C d_X_remember_26 sh_54 rfl i_X rfl rfl fl_X_16 ?_
      refine j_iconst C d_X_remember_29 ?_
      obtain ⟨g8, h⟩ := h
      refine j_aaload C d_X_remember_30 sh_55 (zIx (i := 0) (n := 6) rfl) ?_
      refine j_astore_n (L' := [(1, .ref (gad G (6 * (σ1 55 0).toNat))), (0, .ref (gad G 54))]) C d_X_remember_31 rfl rfl rfl ?_
      refine j_iconst C d_X_remember_32 ?_
      refine j_istore_n (L' := [(2, .int (zI 1)), (1, .ref (gad G (6 * (σ1 55 0).toNat))), (0, .ref (gad G 54))]) C d_X_remember_33 rfl rfl rfl ?_
      obtain ⟨n16, h⟩ := h
      refine j_sub (L' := [(0, .ref (gad G 54)), (1, .ref (gad G (6 * (σ1 55 0).toNat))), (2, .int (zI 1))]) [2, 1, 0] rfl ?_
      refine w_X_remember_L34 C g8 n16 σ1 1 hσ1 (zR_of (x := 1) rfl) h
  · have h := h.2 c
    exact j_vreturn C d_X_remember_15 hσ1 h
set_option maxRecDepth 100000 in
set_option maxHeartbeats 4000000 in
theorem c_X_room (l : Launch) (D : va_G) (ad : Nat → Nat) (ca : Nat → ClassId) {σ : zM} {v1 : Int} {v2 : Int} {v3 : Int} {v4 : Int} {Q : Int → zM → Prop} (hσ : zRM σ) (r1 : zR v1) (r2 : zR v2) (r3 : zR v3) (r4 : zR v4) (h : wp_X_room σ v1 v2 v3 v4 Q) : zCi l D ad ca y_X_room b_X_room 7 (some .int) (zrm 3 69) [.ref (ad 54), .int (zI v1), .int (zI v2), .int (zI v3), .int (zI v4)] σ Q := by
  refine zCi_of (by decide +kernel) (Nat.le_of_ble_eq_true rfl) ?_
  intro X G C hl hD had hca
  subst hl hD had hca
  have C : zC X G b_X_room "GateRoads" 7 (some .int) 3 69 := C
  show zJ X G (zQi X G Q) 7 0 [(0, .ref (gad G 54)), (1, .int (zI v1)), (2, .int (zI v2)), (3, .int (zI v3)), (4, .int (zI v4))] [] σ
  unfold wp_X_room at h
  refine j_iload_n C d_X_room_0 1 rfl rfl ?_
  refine j_callS C d_X_room_1 ml_X_65 ms_X_isPlace (c_X_isPlace (xl X) (gD G) (gad G) (gca G) (v0 := v1) hσ r1 h) rfl rfl rfl rfl rfl (fun z1 σ2 rz1 hσ2 h => ?_)
  obtain ⟨ez1, h⟩ := h; subst ez1
  refine j_if_ne (tgt := 9) C d_X_room_4 rfl rz1 (fun c => ?_) (fun c => ?_)
  · have h := h.1 c
    refine j_iload_n C d_X_room_9 2 rfl rfl ?_
    refine j_iconst C d_X_room_10 ?_
    refine j_sipush C d_X_room_11 rfl ?_
    refine j_callS C d_X_room_14 ml_X_69 ms_X_within (c_X_within (xl X) (gD G) (gad G) (gca G) (v0 := v2) (v1 := 0) (v2 := 1440) hσ r2 (zR_of (x := 0) rfl) (zR_of (x := 1440) rfl) h) rfl rfl rfl rfl rfl (fun z3 σ4 rz3 hσ4 h => ?_)
    obtain ⟨ez3, h⟩ := h; subst ez3
    refine j_if_eq (tgt := 43) C d_X_room_17 rfl rz3 (fun c => ?_) (fun c => ?_)
    · have h := h.1 c
      refine j_bipush C d_X_room_43 rfl ?_
      exact j_ireturn C d_X_room_45 (zR_of (x := (-2)) rfl) hσ h
    · have h := h.2 c
      refine j_iload_n C d_X_room_20 3 rfl rfl ?_
      refine j_iload_n C d_X_room_21 2 rfl rfl ?_
      refine j_sipush C d_X_room_22 rfl ?_
      refine j_callS C d_X_room_25 ml_X_69 ms_X_within (c_X_within (xl X) (gD G) (gad G) (gca G) (v0 := v3) (v1 := v2) (v2 := 1440) hσ r3 r2 (zR_of (x := 1440) rfl) h) rfl rfl rfl rfl rfl (fun z5 σ6 rz5 hσ6 h => ?_)
      obtain ⟨ez5, h⟩ := h; subst ez5
      refine j_if_eq (tgt := 43) C d_X_room_28 rfl rz5 (fun c => ?_) (fun c => ?_)
      · have h := h.1 c
        refine j_bipush C d_X_room_43 rfl ?_
        exact j_ireturn C d_X_room_45 (zR_of (x := (-2)) rfl) hσ h
      · have h := h.2 c
        refine j_iload C d_X_room_31 4 rfl ?_
        refine j_iconst C d_X_room_33 ?_
        refine j_sipush C d_X_room_34 rfl ?_
        refine j_callS C d_X_room_37 ml_X_69 ms_X_within (c_X_within (xl X) (gD G) (gad G) (gca G) (v0 := v4) (v1 := 0) (v2 := 1000) hσ r4 (zR_of (x := 0) rfl) (zR_of (x := 1000) rfl) h) rfl rfl rfl rfl rfl (fun z7 σ8 rz7 hσ8 h => ?_)
        obtain ⟨ez7, h⟩ := h; subst ez7
        refine j_if_ne (tgt := 46) C d_X_room_40 rfl rz7 (fun c => ?_) (fun c => ?_)
        · have h := h.1 c
          refine j_aload_n C d_X_room_46 0 rfl rfl ?_
          refine j_callVv C d_X_room_47 ml_X_73 mi_X_remember (c_X_remember (xl X) (gD G) (gad G) (gca G)  hσ h) sh_54 rfl rfl rfl rfl rfl rfl rfl (fun σ10 hσ10 h => ?_)
          refine j_iload_n C d_X_room_50 1 rfl rfl ?_
          refine j_iconst C d_X_room_51 ?_
          refine j_imul C d_X_room_52 ?_
          obtain ⟨g11, h⟩ := h
          refine j_istore (L' := [(5, .int (zI (v1 * 3))), (0, .ref (gad G 54)), (1, .int (zI v1)), (2, .int (zI v2)), (3, .int (zI v3)), (4, .int (zI v4))]) C d_X_room_53 rfl rfl ?_
          refine j_aload_n C d_X_room_55 1 rfl rfl ?_
          refine j_getr (kf := 0) (m := 0) C d_X_room_56 sh_54 rfl i_X rfl rfl fl_X_12 ?_
          refine j_getr (kf := 0) (m := 1) C d_X_room_59 sh_0 rfl i_S rfl rfl fl_X_76 ?_
          refine j_iload C d_X_room_62 0 rfl ?_
          refine j_iconst C d_X_room_64 ?_
          refine j_iadd C d_X_room_65 ?_
          obtain ⟨g12, h⟩ := h
          refine j_iaload C d_X_room_66 sh_1 g12 ?_
          refine j_istore (L' := [(6, .int (zI (σ10 1 ((v1 * 3) + 2)))), (5, .int (zI (v1 * 3))), (0, .ref (gad G 54)), (1, .int (zI v1)), (2, .int (zI v2)), (3, .int (zI v3)), (4, .int (zI v4))]) C d_X_room_67 rfl rfl ?_
          refine j_aload_n C d_X_room_69 2 rfl rfl ?_
          refine j_getr (kf := 0) (m := 0) C d_X_room_70 sh_54 rfl i_X rfl rfl fl_X_12 ?_
          refine j_getr (kf := 0) (m := 1) C d_X_room_73 sh_0 rfl i_S rfl rfl fl_X_76 ?_
          refine j_iload C d_X_room_76 1 rfl ?_
          refine j_iconst C d_X_room_78 ?_
          refine j_iadd C d_X_room_79 ?_
          refine j_iload_n C d_X_room_80 4 rfl rfl ?_
          obtain ⟨g13, h⟩ := h
          refine j_iastore C d_X_room_81 sh_1 g13 ?_
          refine j_mem (fun σ14 eσ14 => ?_)
          have h := h σ14 eσ14
          have hσ14 : zRM σ14 := by rw [eσ14]; exact zU_rg hσ10 _ _ r2
          refine j_aload_n C d_X_room_82 2 rfl rfl ?_
          refine j_getr (kf := 0) (m := 0) C d_X_room_83 sh_54 rfl i_X rfl rfl fl_X_12 ?_
          refine j_getr (kf := 0) (m := 1) C d_X_room_86 sh_0 rfl i_S rfl rfl fl_X_76 ?_
          refine j_iload C d_X_room_89 1 rfl ?_
          refine j_iconst C d_X_room_91 ?_
          refine j_iadd C d_X_room_92 ?_
          refine j_iload_n C d_X_room_93 5 rfl rfl ?_
          obtain ⟨g15, h⟩ := h
          refine j_iastore C d_X_room_94 sh_1 g15 ?_
          refine j_mem (fun σ16 eσ16 => ?_)
          have h := h σ16 eσ16
          have hσ16 : zRM σ16 := by rw [eσ16]; exact zU_rg hσ14 _ _ r3
          refine j_aload_n C d_X_room_95 2 rfl rfl ?_
          refine j_getr (kf := 0) (m := 0) C d_X_room_96 sh_54 rfl i_X rfl rfl fl_X_12 ?_
          refine j_getr (kf := 0) (m := 1) C d_X_room_99 sh_0 rfl i_S rfl rfl fl_X_76 ?_
          refine j_iload C d_X_room_102 1 rfl ?_
          refine j_iconst C d_X_room_104 ?_
          refine j_iadd C d_X_room_105 ?_
          refine j_iload C d_X_room_106 6 rfl ?_
          obtain ⟨g17, h⟩ := h
          refine j_iastore C d_X_room_108 sh_1 g17 ?_
          refine j_mem (fun σ18 eσ18 => ?_)
          have h := h σ18 eσ18
          have hσ18 : zRM σ18 := by rw [eσ18]; exact zU_rg hσ16 _ _ r4
          refine j_iload C d_X_room_109 0 rfl ?_
          exact j_ireturn C d_X_room_111 (hσ10 _ _) hσ18 h
        · have h := h.2 c
          refine j_bipush C d_X_room_43 rfl ?_
          exact j_ireturn C d_X_room_45 (zR_of (x := (-2)) rfl) hσ h
  · have h := h.2 c
    refine j_iconst C d_X_room_7 ?_
    exact j_ireturn C d_X_room_8 (zR_of (x := (-1)) rfl) hσ h
set_option maxRecDepth 100000 in
set_option maxHeartbeats 4000000 in
theorem c_S_dropSpans (l : Launch) (D : va_G) (ad : Nat → Nat) (ca : Nat → ClassId) {σ : zM} {v1 : Int} {v2 : Int} {Q : zM → Prop} (hσ : zRM σ) (r1 : zR v1) (r2 : zR v2) (h : wp_S_dropSpans σ v1 v2 Q) : zCv l D ad ca y_S_dropSpans b_S_dropSpans 4 (zrm 2 46) [.ref (ad 0), .int (zI v1), .int (zI v2)] σ Q := by
  refine zCv_of (by decide +kernel) (Nat.le_of_ble_eq_true rfl) ?_
  intro X G C hl hD had hca
  subst hl hD had hca
  have C : zC X G b_S_dropSpans "GateRoads$State" 4 (none) 2 46 := C
  show zJ X G (zQv X G Q) 4 0 [(0, .ref (gad G 0)), (1, .int (zI v1)), (2, .int (zI v2))] [] σ
  unfold wp_S_dropSpans at h
  refine j_iload_n C d_S_dropSpans_0 1 rfl rfl ?_
  refine j_bipush C d_S_dropSpans_1 rfl ?_
  refine j_imul C d_S_dropSpans_3 ?_
  obtain ⟨g1, h⟩ := h
  refine j_istore_n (L' := [(3, .int (zI (v1 * 11))), (0, .ref (gad G 0)), (1, .int (zI v1)), (2, .int (zI v2))]) C d_S_dropSpans_4 rfl rfl rfl ?_
  refine j_aload_n C d_S_dropSpans_5 1 rfl rfl ?_
  refine j_getr (kf := 1) (m := 2) C d_S_dropSpans_6 sh_0 rfl i_S rfl rfl fl_S_15 ?_
  refine j_iload_n C d_S_dropSpans_9 0 rfl rfl ?_
  refine j_iconst C d_S_dropSpans_10 ?_
  refine j_iadd C d_S_dropSpans_11 ?_
  refine j_iload_n C d_S_dropSpans_12 3 rfl rfl ?_
  obtain ⟨g2, h⟩ := h
  refine j_iastore C d_S_dropSpans_13 sh_2 g2 ?_
  refine j_mem (fun σ3 eσ3 => ?_)
  have h := h σ3 eσ3
  have hσ3 : zRM σ3 := by rw [eσ3]; exact zU_rg hσ _ _ r2
  refine j_aload_n C d_S_dropSpans_14 1 rfl rfl ?_
  refine j_getr (kf := 1) (m := 2) C d_S_dropSpans_15 sh_0 rfl i_S rfl rfl fl_S_15 ?_
  refine j_iload_n C d_S_dropSpans_18 0 rfl rfl ?_
  refine j_iconst C d_S_dropSpans_19 ?_
  refine j_iadd C d_S_dropSpans_20 ?_
  refine j_iconst C d_S_dropSpans_21 ?_
  obtain ⟨g4, h⟩ := h
  refine j_iastore C d_S_dropSpans_22 sh_2 g4 ?_
  refine j_mem (fun σ5 eσ5 => ?_)
  have h := h σ5 eσ5
  have hσ5 : zRM σ5 := by rw [eσ5]; exact zU_rg hσ3 _ _ (zR_of (x := 0) rfl)
  refine j_aload_n C d_S_dropSpans_23 1 rfl rfl ?_
  refine j_getr (kf := 1) (m := 2) C d_S_dropSpans_24 sh_0 rfl i_S rfl rfl fl_S_15 ?_
  refine j_iload_n C d_S_dropSpans_27 0 rfl rfl ?_
  refine j_iconst C d_S_dropSpans_28 ?_
  refine j_iadd C d_S_dropSpans_29 ?_
  refine j_iload_n C d_S_dropSpans_30 0 rfl rfl ?_
  refine j_bipush C d_S_dropSpans_31 rfl ?_
  refine j_iadd C d_S_dropSpans_33 ?_
  refine j_bipush C d_S_dropSpans_34 rfl ?_
  obtain ⟨g6, h⟩ := h
  obtain ⟨g7, h⟩ := h
  obtain ⟨g8, h⟩ := h
  refine j_callSv C d_S_dropSpans_36 ml_S_51 ms_Ar_fill_1 (c_Ar_fill_1 (xl X) (gD G) (gad G) (gca G) hσ5 sh_2 (zR_of (x := (-6)) rfl) g8) rfl rfl rfl rfl rfl (fun σ9 hσ9 eσ9 => ?_)
  have h := h σ9 eσ9
  exact j_vreturn C d_S_dropSpans_39 hσ9 h
set_option maxRecDepth 100000 in
set_option maxHeartbeats 4000000 in
theorem c_S_spanFrom (l : Launch) (D : va_G) (ad : Nat → Nat) (ca : Nat → ClassId) {σ : zM} {v1 : Int} {v2 : Int} {Q : Int → Prop} (hσ : zRM σ) (r1 : zR v1) (r2 : zR v2) (h : wp_S_spanFrom σ v1 v2 Q) : zCi l D ad ca y_S_spanFrom b_S_spanFrom 3 (some .int) (zrm 0 0) [.ref (ad 0), .int (zI v1), .int (zI v2)] σ (fun z u => σ = u ∧ Q z) := by
  refine zCi_of (by decide +kernel) (Nat.le_of_ble_eq_true rfl) ?_
  intro X G C hl hD had hca
  subst hl hD had hca
  have C : zC X G b_S_spanFrom "GateRoads$State" 3 (some .int) 0 0 := C
  show zJ X G (zQi X G (fun z u => σ = u ∧ Q z)) 3 0 [(0, .ref (gad G 0)), (1, .int (zI v1)), (2, .int (zI v2))] [] σ
  unfold wp_S_spanFrom at h
  refine j_aload_n C d_S_spanFrom_0 0 rfl rfl ?_
  refine j_getr (kf := 1) (m := 2) C d_S_spanFrom_1 sh_0 rfl i_S rfl rfl fl_S_15 ?_
  refine j_iload_n C d_S_spanFrom_4 1 rfl rfl ?_
  refine j_bipush C d_S_spanFrom_5 rfl ?_
  refine j_imul C d_S_spanFrom_7 ?_
  refine j_iconst C d_S_spanFrom_8 ?_
  refine j_iadd C d_S_spanFrom_9 ?_
  refine j_iconst C d_S_spanFrom_10 ?_
  refine j_iload_n C d_S_spanFrom_11 2 rfl rfl ?_
  refine j_imul C d_S_spanFrom_12 ?_
  refine j_iadd C d_S_spanFrom_13 ?_
  obtain ⟨g1, h⟩ := h
  refine j_iaload C d_S_spanFrom_14 sh_2 g1 ?_
  exact j_ireturn C d_S_spanFrom_15 (hσ _ _) hσ ⟨rfl, h⟩
set_option maxRecDepth 100000 in
set_option maxHeartbeats 4000000 in
theorem c_S_spanTo (l : Launch) (D : va_G) (ad : Nat → Nat) (ca : Nat → ClassId) {σ : zM} {v1 : Int} {v2 : Int} {Q : Int → Prop} (hσ : zRM σ) (r1 : zR v1) (r2 : zR v2) (h : wp_S_spanTo σ v1 v2 Q) : zCi l D ad ca y_S_spanTo b_S_spanTo 3 (some .int) (zrm 0 0) [.ref (ad 0), .int (zI v1), .int (zI v2)] σ (fun z u => σ = u ∧ Q z) := by
  refine zCi_of (by decide +kernel) (Nat.le_of_ble_eq_true rfl) ?_
  intro X G C hl hD had hca
  subst hl hD had hca
  have C : zC X G b_S_spanTo "GateRoads$State" 3 (some .int) 0 0 := C
  show zJ X G (zQi X G (fun z u => σ = u ∧ Q z)) 3 0 [(0, .ref (gad G 0)), (1, .int (zI v1)), (2, .int (zI v2))] [] σ
  unfold wp_S_spanTo at h
  refine j_aload_n C d_S_spanTo_0 0 rfl rfl ?_
  refine j_getr (kf := 1) (m := 2) C d_S_spanTo_1 sh_0 rfl i_S rfl rfl fl_S_15 ?_
  refine j_iload_n C d_S_spanTo_4 1 rfl rfl ?_
  refine j_bipush C d_S_spanTo_5 rfl ?_
  refine j_imul C d_S_spanTo_7 ?_
  refine j_iconst C d_S_spanTo_8 ?_
  refine j_iadd C d_S_spanTo_9 ?_
  refine j_iconst C d_S_spanTo_10 ?_
  refine j_iload_n C d_S_spanTo_11 2 rfl rfl ?_
  refine j_imul C d_S_spanTo_12 ?_
  refine j_iadd C d_S_spanTo_13 ?_
  refine j_iconst C d_S_spanTo_14 ?_
  refine j_iadd C d_S_spanTo_15 ?_
  obtain ⟨g1, h⟩ := h
  refine j_iaload C d_S_spanTo_16 sh_2 g1 ?_
  exact j_ireturn C d_S_spanTo_17 (hσ _ _) hσ ⟨rfl, h⟩
set_option maxRecDepth 100000 in
set_option maxHeartbeats 4000000 in
theorem w_S_addSpan_L27 {X : zX} {G : zG} (C : zC X G b_S_addSpan "GateRoads$State" 7 (none) 1 22) {v1 : Int} {v2 : Int} {v3 : Int} {v4 : Int} {v5 : Int} (r1 : zR v1) (r2 : zR v2) (r3 : zR v3) (r4 : zR v4) (r5 : zR v5) {Q : zM → Prop} {k95 : zM → Int → Prop} (hk95 : ∀ (σ : zM) (v6 : Int), zRM σ → zR v6 → k95 σ v6 → zJ X G (zQv X G Q) 7 95 [(0, .ref (gad G 0)), (1, .int (zI v1)), (2, .int (zI v2)), (3, .int (zI v3)), (4, .int (zI v4)), (5, .int (zI v5)), (6, .int (zI v6))] [] σ) : ∀ (n : Nat) (σ : zM) (v6 : Int) (hσ : zRM σ) (r6 : zR v6), wp_S_addSpan_L27 v1 v2 v3 v4 v5 k95 Q n σ v6 → zJ X G (zQv X G Q) 7 27 [(0, .ref (gad G 0)), (1, .int (zI v1)), (2, .int (zI v2)), (3, .int (zI v3)), (4, .int (zI v4)), (5, .int (zI v5)), (6, .int (zI v6))] [] σ := by
  intro n
  induction n with
  | zero => intro σ v6 hσ r6 h; exact False.elim h
  | succ n ih =>
    intro σ v6 hσ r6 h
    rw [wp_S_addSpan_L27] at h
    refine j_iload C d_S_addSpan_27 6 rfl ?_
    refine j_if_le (tgt := 95) C d_S_addSpan_29 rfl r6 (fun c => ?_) (fun c => ?_)
    · have h := h.1 c
      exact hk95 σ v6 hσ r6 h
    · have h := h.2 c
      refine j_aload_n C d_S_addSpan_32 0 rfl rfl ?_
      refine j_iload_n C d_S_addSpan_33 1 rfl rfl ?_
      refine j_iload C d_S_addSpan_34 6 rfl ?_
      refine j_iconst C d_S_addSpan_36 ?_
      refine j_isub C d_S_addSpan_37 ?_
      obtain ⟨g4, h⟩ := h
      refine j_callV C d_S_addSpan_38 ml_S_64 mi_S_spanFrom (c_S_spanFrom (xl X) (gD G) (gad G) (gca G) (v1 := v1) (v2 := v6 - 1) hσ r1 g4 h) sh_0 rfl rfl rfl rfl rfl rfl rfl (fun z5 σ6 rz5 hσ6 h => ?_)
      obtain ⟨ez5, h⟩ := h; subst ez5
      refine j_iload_n C d_S_addSpan_41 2 rfl rfl ?_
      refine j_icmp_le (tgt := 95) C d_S_addSpan_42 rfl rz5 r2 (fun c => ?_) (fun c => ?_)
      · have h := h.1 c
        exact hk95 σ v6 hσ r6 h
      · have h := h.2 c
        refine j_aload_n C d_S_addSpan_45 0 rfl rfl ?_
        refine j_getr (kf := 1) (m := 2) C d_S_addSpan_46 sh_0 rfl i_S rfl rfl fl_S_15 ?_
        refine j_iload C d_S_addSpan_49 5 rfl ?_
        refine j_iconst C d_S_addSpan_51 ?_
        refine j_iload C d_S_addSpan_52 6 rfl ?_
        refine j_imul C d_S_addSpan_54 ?_
        refine j_iadd C d_S_addSpan_55 ?_
        refine j_aload_n C d_S_addSpan_56 0 rfl rfl ?_
        refine j_iload_n C d_S_addSpan_57 1 rfl rfl ?_
        refine j_iload C d_S_addSpan_58 6 rfl ?_
        refine j_iconst C d_S_addSpan_60 ?_
        refine j_isub C d_S_addSpan_61 ?_
        obtain ⟨g7, h⟩ := h
        refine j_callV C d_S_addSpan_62 ml_S_64 mi_S_spanFrom (c_S_spanFrom (xl X) (gD G) (gad G) (gca G) (v1 := v1) (v2 := v6 - 1) hσ r1 g7 h) sh_0 rfl rfl rfl rfl rfl rfl rfl (fun z8 σ9 rz8 hσ9 h => ?_)
        obtain ⟨ez8, h⟩ := h; subst ez8
        obtain ⟨g10, h⟩ := h
        refine j_iastore C d_S_addSpan_65 sh_2 g10 ?_
        refine j_mem (fun σ11 eσ11 => ?_)
        have h := h σ11 eσ11
        have hσ11 : zRM σ11 := by rw [eσ11]; exact zU_rg hσ _ _ rz8
        refine j_aload_n C d_S_addSpan_66 0 rfl rfl ?_
        refine j_getr (kf := 1) (m := 2) C d_S_addSpan_67 sh_0 rfl i_S rfl rfl fl_S_15 ?_
        refine j_iload C d_S_addSpan_70 5 rfl ?_
        refine j_iconst C d_S_addSpan_72 ?_
        refine j_iload C d_S_addSpan_73 6 rfl ?_
        refine j_imul C d_S_addSpan_75 ?_
        refine j_iadd C d_S_addSpan_76 ?_
        refine j_iconst C d_S_addSpan_77 ?_
        refine j_iadd C d_S_addSpan_78 ?_
        refine j_aload_n C d_S_addSpan_79 0 rfl rfl ?_
        refine j_iload_n C d_S_addSpan_80 1 rfl rfl ?_
        refine j_iload C d_S_addSpan_81 6 rfl ?_
        refine j_iconst C d_S_addSpan_83 ?_
        refine j_isub C d_S_addSpan_84 ?_
        obtain ⟨g12, h⟩ := h
        refine j_callV C d_S_addSpan_85 ml_S_61 mi_S_spanTo (c_S_spanTo (xl X) (gD G) (gad G) (gca G) (v1 := v1) (v2 := v6 - 1) hσ11 r1 g12 h) sh_0 rfl rfl rfl rfl rfl rfl rfl (fun z13 σ14 rz13 hσ14 h => ?_)
        obtain ⟨ez13, h⟩ := h; subst ez13
        obtain ⟨g15, h⟩ := h
        refine j_iastore C d_S_addSpan_88 sh_2 g15 ?_
        refine j_mem (fun σ16 eσ16 => ?_)
        have h := h σ16 eσ16
        have hσ16 : zRM σ16 := by rw [eσ16]; exact zU_rg hσ11 _ _ rz13
        obtain ⟨g17, h⟩ := h
        refine j_iinc (L' := [(6, .int (zI (v6 + (-1)))), (0, .ref (gad G 0)), (1, .int (zI v1)), (2, .int (zI v2)), (3, .int (zI v3)), (4, .int (zI v4)), (5, .int (zI v5))]) C d_S_addSpan_89 6 rfl rfl rfl ?_
        refine j_goto (tgt := 27) C d_S_addSpan_92 rfl ?_
        refine j_sub (L' := [(0, .ref (gad G 0)), (1, .int (zI v1)), (2, .int (zI v2)), (3, .int (zI v3)), (4, .int (zI v4)), (5, .int (zI v5)), (6, .int (zI (v6 + (-1))))]) [1, 2, 3, 4, 5, 6, 0] rfl ?_
        exact ih σ16 (v6 + (-1)) hσ16 g17 h
set_option maxRecDepth 100000 in
set_option maxHeartbeats 4000000 in
theorem w_S_addSpan_b95 {X : zX} {G : zG} (C : zC X G b_S_addSpan "GateRoads$State" 7 (none) 1 22) {Q : zM → Prop} (σ : zM) (v1 : Int) (v2 : Int) (v3 : Int) (v4 : Int) (v5 : Int) (v6 : Int) (hσ : zRM σ) (r1 : zR v1) (r2 : zR v2) (r3 : zR v3) (r4 : zR v4) (r5 : zR v5) (r6 : zR v6) (h : wp_S_addSpan_b95 Q σ v1 v2 v3 v4 v5 v6) : zJ X G (zQv X G Q) 7 95 [(0, .ref (gad G 0)), (1, .int (zI v1)), (2, .int (zI v2)), (3, .int (zI v3)), (4, .int (zI v4)), (5, .int (zI v5)), (6, .int (zI v6))] [] σ := by
  unfold wp_S_addSpan_b95 at h
  refine j_aload_n C d_S_addSpan_95 0 rfl rfl ?_
  refine j_getr (kf := 1) (m := 2) C d_S_addSpan_96 sh_0 rfl i_S rfl rfl fl_S_15 ?_
  refine j_iload C d_S_addSpan_99 5 rfl ?_
  refine j_iconst C d_S_addSpan_101 ?_
  refine j_iload C d_S_addSpan_102 6 rfl ?_
  refine j_imul C d_S_addSpan_104 ?_
  refine j_iadd C d_S_addSpan_105 ?_
  refine j_iload_n C d_S_addSpan_106 2 rfl rfl ?_
  obtain ⟨g20, h⟩ := h
  refine j_iastore C d_S_addSpan_107 sh_2 g20 ?_
  refine j_mem (fun σ21 eσ21 => ?_)
  have h := h σ21 eσ21
  have hσ21 : zRM σ21 := by rw [eσ21]; exact zU_rg hσ _ _ r2
  refine j_aload_n C d_S_addSpan_108 0 rfl rfl ?_
  refine j_getr (kf := 1) (m := 2) C d_S_addSpan_109 sh_0 rfl i_S rfl rfl fl_S_15 ?_
  refine j_iload C d_S_addSpan_112 5 rfl ?_
  refine j_iconst C d_S_addSpan_114 ?_
  refine j_iload C d_S_addSpan_115 6 rfl ?_
  refine j_imul C d_S_addSpan_117 ?_
  refine j_iadd C d_S_addSpan_118 ?_
  refine j_iconst C d_S_addSpan_119 ?_
  refine j_iadd C d_S_addSpan_120 ?_
  refine j_iload_n C d_S_addSpan_121 3 rfl rfl ?_
  obtain ⟨g22, h⟩ := h
  refine j_iastore C d_S_addSpan_122 sh_2 g22 ?_
  refine j_mem (fun σ23 eσ23 => ?_)
  have h := h σ23 eσ23
  have hσ23 : zRM σ23 := by rw [eσ23]; exact zU_rg hσ21 _ _ r3
  refine j_aload_n C d_S_addSpan_123 0 rfl rfl ?_
  refine j_getr (kf := 1) (m := 2) C d_S_addSpan_124 sh_0 rfl i_S rfl rfl fl_S_15 ?_
  refine j_iload_n C d_S_addSpan_127 1 rfl rfl ?_
  refine j_bipush C d_S_addSpan_128 rfl ?_
  refine j_imul C d_S_addSpan_130 ?_
  refine j_iconst C d_S_addSpan_131 ?_
  refine j_iadd C d_S_addSpan_132 ?_
  refine j_iload C d_S_addSpan_133 4 rfl ?_
  refine j_iconst C d_S_addSpan_135 ?_
  refine j_iadd C d_S_addSpan_136 ?_
  obtain ⟨g24, h⟩ := h
  obtain ⟨g25, h⟩ := h
  refine j_iastore C d_S_addSpan_137 sh_2 g24 ?_
  refine j_mem (fun σ26 eσ26 => ?_)
  have h := h σ26 eσ26
  have hσ26 : zRM σ26 := by rw [eσ26]; exact zU_rg hσ23 _ _ g25
  exact j_vreturn C d_S_addSpan_138 hσ26 h
set_option maxRecDepth 100000 in
set_option maxHeartbeats 4000000 in
theorem c_S_addSpan (l : Launch) (D : va_G) (ad : Nat → Nat) (ca : Nat → ClassId) {σ : zM} {v1 : Int} {v2 : Int} {v3 : Int} {Q : zM → Prop} (hσ : zRM σ) (r1 : zR v1) (r2 : zR v2) (r3 : zR v3) (h : wp_S_addSpan σ v1 v2 v3 Q) : zCv l D ad ca y_S_addSpan b_S_addSpan 7 (zrm 1 22) [.ref (ad 0), .int (zI v1), .int (zI v2), .int (zI v3)] σ Q := by
  refine zCv_of (by decide +kernel) (Nat.le_of_ble_eq_true rfl) ?_
  intro X G C hl hD had hca
  subst hl hD had hca
  have C : zC X G b_S_addSpan "GateRoads$State" 7 (none) 1 22 := C
  show zJ X G (zQv X G Q) 7 0 [(0, .ref (gad G 0)), (1, .int (zI v1)), (2, .int (zI v2)), (3, .int (zI v3))] [] σ
  unfold wp_S_addSpan at h
  refine j_aload_n C d_S_addSpan_0 0 rfl rfl ?_
  refine j_iload_n C d_S_addSpan_1 1 rfl rfl ?_
  refine j_iconst C d_S_addSpan_2 ?_
  refine j_callV C d_S_addSpan_3 ml_S_57 mi_S_ofRoads (c_S_ofRoads (xl X) (gD G) (gad G) (gca G) (v1 := v1) (v2 := 4) hσ r1 (zR_of (x := 4) rfl) h) sh_0 rfl rfl rfl rfl rfl rfl rfl (fun z1 σ2 rz1 hσ2 h => ?_)
  obtain ⟨ez1, h⟩ := h; subst ez1
  refine j_istore (L' := [(4, .int (zI z1)), (0, .ref (gad G 0)), (1, .int (zI v1)), (2, .int (zI v2)), (3, .int (zI v3))]) C d_S_addSpan_6 rfl rfl ?_
  refine j_iload C d_S_addSpan_8 0 rfl ?_
  refine j_iconst C d_S_addSpan_10 ?_
  refine j_icmp_lt (tgt := 15) C d_S_addSpan_11 rfl rz1 (zR_of (x := 3) rfl) (fun c => ?_) (fun c => ?_)
  · have h := h.1 c
    refine j_iload_n C d_S_addSpan_15 2 rfl rfl ?_
    refine j_bipush C d_S_addSpan_16 rfl ?_
    refine j_imul C d_S_addSpan_18 ?_
    refine j_iconst C d_S_addSpan_19 ?_
    refine j_iadd C d_S_addSpan_20 ?_
    obtain ⟨g3, h⟩ := h
    refine j_istore (L' := [(5, .int (zI ((v1 * 11) + 5))), (4, .int (zI z1)), (0, .ref (gad G 0)), (1, .int (zI v1)), (2, .int (zI v2)), (3, .int (zI v3))]) C d_S_addSpan_21 rfl rfl ?_
    refine j_iload C d_S_addSpan_23 1 rfl ?_
    refine j_istore (L' := [(6, .int (zI z1)), (5, .int (zI ((v1 * 11) + 5))), (4, .int (zI z1)), (0, .ref (gad G 0)), (1, .int (zI v1)), (2, .int (zI v2)), (3, .int (zI v3))]) C d_S_addSpan_25 rfl rfl ?_
    obtain ⟨n27, h⟩ := h
    refine j_sub (L' := [(0, .ref (gad G 0)), (1, .int (zI v1)), (2, .int (zI v2)), (3, .int (zI v3)), (4, .int (zI z1)), (5, .int (zI ((v1 * 11) + 5))), (6, .int (zI z1))]) [3, 4, 5, 6, 2, 1, 0] rfl ?_
    refine w_S_addSpan_L27 C r1 r2 r3 rz1 g3 ?_ n27 σ z1 hσ rz1 h
    · intro σ18 u19 hσ18 ru19 h
      refine w_S_addSpan_b95 C σ18 v1 v2 v3 z1 ((v1 * 11) + 5) u19 hσ18 r1 r2 r3 rz1 g3 ru19 h
  · have h := h.2 c
    exact j_vreturn C d_S_addSpan_14 hσ h
set_option maxRecDepth 100000 in
set_option maxHeartbeats 4000000 in
theorem c_S_addRoad (l : Launch) (D : va_G) (ad : Nat → Nat) (ca : Nat → ClassId) {σ : zM} {v1 : Int} {v2 : Int} {v3 : Int} {Q : Int → zM → Prop} (hσ : zRM σ) (r1 : zR v1) (r2 : zR v2) (r3 : zR v3) (h : wp_S_addRoad σ v1 v2 v3 Q) : zCi l D ad ca y_S_addRoad b_S_addRoad 6 (some .int) (zrm 3 69) [.ref (ad 0), .int (zI v1), .int (zI v2), .int (zI v3)] σ Q := by
  refine zCi_of (by decide +kernel) (Nat.le_of_ble_eq_true rfl) ?_
  intro X G C hl hD had hca
  subst hl hD had hca
  have C : zC X G b_S_addRoad "GateRoads$State" 6 (some .int) 3 69 := C
  show zJ X G (zQi X G Q) 6 0 [(0, .ref (gad G 0)), (1, .int (zI v1)), (2, .int (zI v2)), (3, .int (zI v3))] [] σ
  unfold wp_S_addRoad at h
  refine j_aload_n C d_S_addRoad_0 0 rfl rfl ?_
  refine j_geti (kf := 5) (kI := 5) C d_S_addRoad_1 sh_0 rfl i_S rfl rfl rfl fl_S_33 ?_
  refine j_istore (L' := [(4, .int (zI (σ 0 5))), (0, .ref (gad G 0)), (1, .int (zI v1)), (2, .int (zI v2)), (3, .int (zI v3))]) C d_S_addRoad_4 rfl rfl ?_
  refine j_iload C d_S_addRoad_6 0 rfl ?_
  refine j_bipush C d_S_addRoad_8 rfl ?_
  refine j_imul C d_S_addRoad_10 ?_
  obtain ⟨g1, h⟩ := h
  refine j_istore (L' := [(5, .int (zI ((σ 0 5) * 11))), (4, .int (zI (σ 0 5))), (0, .ref (gad G 0)), (1, .int (zI v1)), (2, .int (zI v2)), (3, .int (zI v3))]) C d_S_addRoad_11 rfl rfl ?_
  refine j_aload_n C d_S_addRoad_13 2 rfl rfl ?_
  refine j_getr (kf := 1) (m := 2) C d_S_addRoad_14 sh_0 rfl i_S rfl rfl fl_S_15 ?_
  refine j_iload C d_S_addRoad_17 0 rfl ?_
  refine j_iconst C d_S_addRoad_19 ?_
  refine j_iadd C d_S_addRoad_20 ?_
  refine j_iload_n C d_S_addRoad_21 3 rfl rfl ?_
  obtain ⟨g2, h⟩ := h
  refine j_iastore C d_S_addRoad_22 sh_2 g2 ?_
  refine j_mem (fun σ3 eσ3 => ?_)
  have h := h σ3 eσ3
  have hσ3 : zRM σ3 := by rw [eσ3]; exact zU_rg hσ _ _ r1
  refine j_aload_n C d_S_addRoad_23 2 rfl rfl ?_
  refine j_getr (kf := 1) (m := 2) C d_S_addRoad_24 sh_0 rfl i_S rfl rfl fl_S_15 ?_
  refine j_iload C d_S_addRoad_27 0 rfl ?_
  refine j_iconst C d_S_addRoad_29 ?_
  refine j_iadd C d_S_addRoad_30 ?_
  refine j_iload_n C d_S_addRoad_31 4 rfl rfl ?_
  obtain ⟨g4, h⟩ := h
  refine j_iastore C d_S_addRoad_32 sh_2 g4 ?_
  refine j_mem (fun σ5 eσ5 => ?_)
  have h := h σ5 eσ5
  have hσ5 : zRM σ5 := by rw [eσ5]; exact zU_rg hσ3 _ _ r2
  refine j_aload_n C d_S_addRoad_33 2 rfl rfl ?_
  refine j_getr (kf := 1) (m := 2) C d_S_addRoad_34 sh_0 rfl i_S rfl rfl fl_S_15 ?_
  refine j_iload C d_S_addRoad_37 0 rfl ?_
  refine j_iconst C d_S_addRoad_39 ?_
  refine j_iadd C d_S_addRoad_40 ?_
  refine j_iload_n C d_S_addRoad_41 5 rfl rfl ?_
  obtain ⟨g6, h⟩ := h
  refine j_iastore C d_S_addRoad_42 sh_2 g6 ?_
  refine j_mem (fun σ7 eσ7 => ?_)
  have h := h σ7 eσ7
  have hσ7 : zRM σ7 := by rw [eσ7]; exact zU_rg hσ5 _ _ r3
  refine j_aload_n C d_S_addRoad_43 2 rfl rfl ?_
  refine j_getr (kf := 2) (m := 3) C d_S_addRoad_44 sh_0 rfl i_S rfl rfl fl_S_18 ?_
  refine j_iload C d_S_addRoad_47 1 rfl ?_
  refine j_iconst C d_S_addRoad_49 ?_
  obtain ⟨g8, h⟩ := h
  refine j_iastore C d_S_addRoad_50 sh_3 g8 ?_
  refine j_mem (fun σ9 eσ9 => ?_)
  have h := h σ9 eσ9
  have hσ9 : zRM σ9 := by rw [eσ9]; exact zU_rg hσ7 _ _ (zR_of (x := 0) rfl)
  refine j_aload_n C d_S_addRoad_51 2 rfl rfl ?_
  refine j_dup C d_S_addRoad_52 rfl ?_
  refine j_geti (kf := 5) (kI := 5) C d_S_addRoad_53 sh_0 rfl i_S rfl rfl rfl fl_S_33 ?_
  refine j_iconst C d_S_addRoad_56 ?_
  refine j_iadd C d_S_addRoad_57 ?_
  obtain ⟨g10, h⟩ := h
  refine j_puti (kf := 5) (kI := 5) C t_S d_S_addRoad_58 sh_0 rfl i_S t_S_ok n_S rfl rfl rfl fl_S_33 rfl (Or.inl rfl) ?_
  refine j_mem (fun σ11 eσ11 => ?_)
  have h := h σ11 eσ11
  have hσ11 : zRM σ11 := by rw [eσ11]; exact zU_rg hσ9 _ _ g10
  refine j_aload_n C d_S_addRoad_61 2 rfl rfl ?_
  refine j_iload C d_S_addRoad_62 1 rfl ?_
  refine j_iconst C d_S_addRoad_64 ?_
  refine j_callVv C d_S_addRoad_65 ml_S_43 mi_S_dropSpans (c_S_dropSpans (xl X) (gD G) (gad G) (gca G) (v1 := σ 0 5) (v2 := 0) hσ11 (hσ _ _) (zR_of (x := 0) rfl) h) sh_0 rfl rfl rfl rfl rfl rfl rfl (fun σ13 hσ13 h => ?_)
  refine j_aload_n C d_S_addRoad_68 2 rfl rfl ?_
  refine j_iload C d_S_addRoad_69 1 rfl ?_
  refine j_iconst C d_S_addRoad_71 ?_
  refine j_sipush C d_S_addRoad_72 rfl ?_
  refine j_callVv C d_S_addRoad_75 ml_S_47 mi_S_addSpan (c_S_addSpan (xl X) (gD G) (gad G) (gca G) (v1 := σ 0 5) (v2 := 0) (v3 := 1440) hσ13 (hσ _ _) (zR_of (x := 0) rfl) (zR_of (x := 1440) rfl) h) sh_0 rfl rfl rfl rfl rfl rfl rfl (fun σ15 hσ15 h => ?_)
  refine j_iload C d_S_addRoad_78 1 rfl ?_
  exact j_ireturn C d_S_addRoad_80 (hσ _ _) hσ15 h
set_option maxRecDepth 100000 in
set_option maxHeartbeats 4000000 in
theorem c_X_road (l : Launch) (D : va_G) (ad : Nat → Nat) (ca : Nat → ClassId) {σ : zM} {v1 : Int} {v2 : Int} {v3 : Int} {Q : Int → zM → Prop} (hσ : zRM σ) (r1 : zR v1) (r2 : zR v2) (r3 : zR v3) (h : wp_X_road σ v1 v2 v3 Q) : zCi l D ad ca y_X_road b_X_road 4 (some .int) (zrm 4 94) [.ref (ad 54), .int (zI v1), .int (zI v2), .int (zI v3)] σ Q := by
  refine zCi_of (by decide +kernel) (Nat.le_of_ble_eq_true rfl) ?_
  intro X G C hl hD had hca
  subst hl hD had hca
  have C : zC X G b_X_road "GateRoads" 4 (some .int) 4 94 := C
  show zJ X G (zQi X G Q) 4 0 [(0, .ref (gad G 54)), (1, .int (zI v1)), (2, .int (zI v2)), (3, .int (zI v3))] [] σ
  unfold wp_X_road at h
  refine j_iload_n C d_X_road_0 1 rfl rfl ?_
  refine j_callS C d_X_road_1 ml_X_65 ms_X_isPlace (c_X_isPlace (xl X) (gD G) (gad G) (gca G) (v0 := v1) hσ r1 h) rfl rfl rfl rfl rfl (fun z1 σ2 rz1 hσ2 h => ?_)
  obtain ⟨ez1, h⟩ := h; subst ez1
  refine j_if_eq (tgt := 19) C d_X_road_4 rfl rz1 (fun c => ?_) (fun c => ?_)
  · have h := h.1 c
    refine j_iconst C d_X_road_19 ?_
    exact j_ireturn C d_X_road_20 (zR_of (x := (-1)) rfl) hσ h
  · have h := h.2 c
    refine j_iload_n C d_X_road_7 2 rfl rfl ?_
    refine j_callS C d_X_road_8 ml_X_65 ms_X_isPlace (c_X_isPlace (xl X) (gD G) (gad G) (gca G) (v0 := v2) hσ r2 h) rfl rfl rfl rfl rfl (fun z3 σ4 rz3 hσ4 h => ?_)
    obtain ⟨ez3, h⟩ := h; subst ez3
    refine j_if_eq (tgt := 19) C d_X_road_11 rfl rz3 (fun c => ?_) (fun c => ?_)
    · have h := h.1 c
      refine j_iconst C d_X_road_19 ?_
      exact j_ireturn C d_X_road_20 (zR_of (x := (-1)) rfl) hσ h
    · have h := h.2 c
      refine j_iload_n C d_X_road_14 1 rfl rfl ?_
      refine j_iload_n C d_X_road_15 2 rfl rfl ?_
      refine j_icmp_ne (tgt := 21) C d_X_road_16 rfl r1 r2 (fun c => ?_) (fun c => ?_)
      · have h := h.1 c
        refine j_iload_n C d_X_road_21 3 rfl rfl ?_
        refine j_iconst C d_X_road_22 ?_
        refine j_sipush C d_X_road_23 rfl ?_
        refine j_callS C d_X_road_26 ml_X_69 ms_X_within (c_X_within (xl X) (gD G) (gad G) (gca G) (v0 := v3) (v1 := 1) (v2 := 600) hσ r3 (zR_of (x := 1) rfl) (zR_of (x := 600) rfl) h) rfl rfl rfl rfl rfl (fun z5 σ6 rz5 hσ6 h => ?_)
        obtain ⟨ez5, h⟩ := h; subst ez5
        refine j_if_ne (tgt := 35) C d_X_road_29 rfl rz5 (fun c => ?_) (fun c => ?_)
        · have h := h.1 c
          refine j_aload_n C d_X_road_35 0 rfl rfl ?_
          refine j_getr (kf := 0) (m := 0) C d_X_road_36 sh_54 rfl i_X rfl rfl fl_X_12 ?_
          refine j_geti (kf := 5) (kI := 5) C d_X_road_39 sh_0 rfl i_S rfl rfl rfl fl_X_80 ?_
          refine j_bipush C d_X_road_42 rfl ?_
          refine j_icmp_lt (tgt := 50) C d_X_road_44 rfl (hσ _ _) (zR_of (x := 24) rfl) (fun c => ?_) (fun c => ?_)
          · have h := h.1 c
            refine j_aload_n C d_X_road_50 0 rfl rfl ?_
            refine j_callVv C d_X_road_51 ml_X_73 mi_X_remember (c_X_remember (xl X) (gD G) (gad G) (gca G)  hσ h) sh_54 rfl rfl rfl rfl rfl rfl rfl (fun σ8 hσ8 h => ?_)
            refine j_aload_n C d_X_road_54 0 rfl rfl ?_
            refine j_getr (kf := 0) (m := 0) C d_X_road_55 sh_54 rfl i_X rfl rfl fl_X_12 ?_
            refine j_iload_n C d_X_road_58 1 rfl rfl ?_
            refine j_iload_n C d_X_road_59 2 rfl rfl ?_
            refine j_iload_n C d_X_road_60 3 rfl rfl ?_
            refine j_callV C d_X_road_61 ml_X_84 mi_S_addRoad (c_S_addRoad (xl X) (gD G) (gad G) (gca G) (v1 := v1) (v2 := v2) (v3 := v3) hσ8 r1 r2 r3 h) sh_0 rfl rfl rfl rfl rfl rfl rfl (fun z9 σ10 rz9 hσ10 h => ?_)
            exact j_ireturn C d_X_road_64 rz9 hσ10 h
          · have h := h.2 c
            refine j_bipush C d_X_road_47 rfl ?_
            exact j_ireturn C d_X_road_49 (zR_of (x := (-4)) rfl) hσ h
        · have h := h.2 c
          refine j_bipush C d_X_road_32 rfl ?_
          exact j_ireturn C d_X_road_34 (zR_of (x := (-2)) rfl) hσ h
      · have h := h.2 c
        refine j_iconst C d_X_road_19 ?_
        exact j_ireturn C d_X_road_20 (zR_of (x := (-1)) rfl) hσ h
set_option maxRecDepth 100000 in
set_option maxHeartbeats 4000000 in
theorem c_X_isSpan (l : Launch) (D : va_G) (ad : Nat → Nat) (ca : Nat → ClassId) {σ : zM} {v0 : Int} {v1 : Int} {v2 : Int} {Q : Int → Prop} (hσ : zRM σ) (r0 : zR v0) (r1 : zR v1) (r2 : zR v2) (h : wp_X_isSpan σ v0 v1 v2 Q) : zCi l D ad ca y_X_isSpan b_X_isSpan 3 (some .boolean) (zrm 1 22) [.int (zI v0), .int (zI v1), .int (zI v2)] σ (fun z u => σ = u ∧ Q z) := by
  refine zCi_of (by decide +kernel) (Nat.le_of_ble_eq_true rfl) ?_
  intro X G C hl hD had hca
  subst hl hD had hca
  have C : zC X G b_X_isSpan "GateRoads" 3 (some .boolean) 1 22 := C
  show zJ X G (zQi X G (fun z u => σ = u ∧ Q z)) 3 0 [(0, .int (zI v0)), (1, .int (zI v1)), (2, .int (zI v2))] [] σ
  unfold wp_X_isSpan at h
  refine j_iload_n C d_X_isSpan_0 0 rfl rfl ?_
  refine j_iconst C d_X_isSpan_1 ?_
  refine j_iload_n C d_X_isSpan_2 2 rfl rfl ?_
  refine j_iconst C d_X_isSpan_3 ?_
  refine j_isub C d_X_isSpan_4 ?_
  obtain ⟨g1, h⟩ := h
  refine j_callS C d_X_isSpan_5 ml_X_69 ms_X_within (c_X_within (xl X) (gD G) (gad G) (gca G) (v0 := v0) (v1 := 0) (v2 := v2 - 1) hσ r0 (zR_of (x := 0) rfl) g1 h) rfl rfl rfl rfl rfl (fun z2 σ3 rz2 hσ3 h => ?_)
  obtain ⟨ez2, h⟩ := h; subst ez2
  refine j_if_eq (tgt := 26) C d_X_isSpan_8 rfl rz2 (fun c => ?_) (fun c => ?_)
  · have h := h.1 c
    refine j_iconst C d_X_isSpan_26 ?_
    exact j_zreturn C d_X_isSpan_27 (by decide) hσ ⟨rfl, h⟩
  · have h := h.2 c
    refine j_iload_n C d_X_isSpan_11 1 rfl rfl ?_
    refine j_iload_n C d_X_isSpan_12 0 rfl rfl ?_
    refine j_iconst C d_X_isSpan_13 ?_
    refine j_iadd C d_X_isSpan_14 ?_
    refine j_iload_n C d_X_isSpan_15 2 rfl rfl ?_
    obtain ⟨g4, h⟩ := h
    refine j_callS C d_X_isSpan_16 ml_X_69 ms_X_within (c_X_within (xl X) (gD G) (gad G) (gca G) (v0 := v1) (v1 := v0 + 1) (v2 := v2) hσ r1 g4 r2 h) rfl rfl rfl rfl rfl (fun z5 σ6 rz5 hσ6 h => ?_)
    obtain ⟨ez5, h⟩ := h; subst ez5
    refine j_if_eq (tgt := 26) C d_X_isSpan_19 rfl rz5 (fun c => ?_) (fun c => ?_)
    · have h := h.1 c
      refine j_iconst C d_X_isSpan_26 ?_
      exact j_zreturn C d_X_isSpan_27 (by decide) hσ ⟨rfl, h⟩
    · have h := h.2 c
      refine j_iconst C d_X_isSpan_22 ?_
      refine j_goto (tgt := 27) C d_X_isSpan_23 rfl ?_
      exact j_zreturn C d_X_isSpan_27 (by decide) hσ ⟨rfl, h⟩
set_option maxRecDepth 100000 in
set_option maxHeartbeats 4000000 in
theorem c_X_open (l : Launch) (D : va_G) (ad : Nat → Nat) (ca : Nat → ClassId) {σ : zM} {v1 : Int} {v2 : Int} {v3 : Int} {v4 : Int} {Q : Int → zM → Prop} (hσ : zRM σ) (r1 : zR v1) (r2 : zR v2) (r3 : zR v3) (r4 : zR v4) (h : wp_X_open σ v1 v2 v3 v4 Q) : zCi l D ad ca y_X_open b_X_open 6 (some .int) (zrm 3 69) [.ref (ad 54), .int (zI v1), .int (zI v2), .int (zI v3), .int (zI v4)] σ Q := by
  refine zCi_of (by decide +kernel) (Nat.le_of_ble_eq_true rfl) ?_
  intro X G C hl hD had hca
  subst hl hD had hca
  have C : zC X G b_X_open "GateRoads" 6 (some .int) 3 69 := C
  show zJ X G (zQi X G Q) 6 0 [(0, .ref (gad G 54)), (1, .int (zI v1)), (2, .int (zI v2)), (3, .int (zI v3)), (4, .int (zI v4))] [] σ
  unfold wp_X_open at h
  refine j_aload_n C d_X_open_0 0 rfl rfl ?_
  refine j_getr (kf := 0) (m := 0) C d_X_open_1 sh_54 rfl i_X rfl rfl fl_X_12 ?_
  refine j_iload_n C d_X_open_4 1 rfl rfl ?_
  refine j_callV C d_X_open_5 ml_X_88 mi_S_hasRoad (c_S_hasRoad (xl X) (gD G) (gad G) (gca G) (v1 := v1) hσ r1 h) sh_0 rfl rfl rfl rfl rfl rfl rfl (fun z1 σ2 rz1 hσ2 h => ?_)
  obtain ⟨ez1, h⟩ := h; subst ez1
  refine j_if_ne (tgt := 13) C d_X_open_8 rfl rz1 (fun c => ?_) (fun c => ?_)
  · have h := h.1 c
    refine j_iload_n C d_X_open_13 2 rfl rfl ?_
    refine j_iload_n C d_X_open_14 3 rfl rfl ?_
    refine j_sipush C d_X_open_15 rfl ?_
    refine j_callS C d_X_open_18 ml_X_91 ms_X_isSpan (c_X_isSpan (xl X) (gD G) (gad G) (gca G) (v0 := v2) (v1 := v3) (v2 := 1440) hσ r2 r3 (zR_of (x := 1440) rfl) h) rfl rfl rfl rfl rfl (fun z3 σ4 rz3 hσ4 h => ?_)
    obtain ⟨ez3, h⟩ := h; subst ez3
    refine j_if_eq (tgt := 34) C d_X_open_21 rfl rz3 (fun c => ?_) (fun c => ?_)
    · have h := h.1 c
      refine j_bipush C d_X_open_34 rfl ?_
      exact j_ireturn C d_X_open_36 (zR_of (x := (-2)) rfl) hσ h
    · have h := h.2 c
      refine j_iload C d_X_open_24 4 rfl ?_
      refine j_iconst C d_X_open_26 ?_
      refine j_iconst C d_X_open_27 ?_
      refine j_callS C d_X_open_28 ml_X_69 ms_X_within (c_X_within (xl X) (gD G) (gad G) (gca G) (v0 := v4) (v1 := 0) (v2 := 1) hσ r4 (zR_of (x := 0) rfl) (zR_of (x := 1) rfl) h) rfl rfl rfl rfl rfl (fun z5 σ6 rz5 hσ6 h => ?_)
      obtain ⟨ez5, h⟩ := h; subst ez5
      refine j_if_ne (tgt := 37) C d_X_open_31 rfl rz5 (fun c => ?_) (fun c => ?_)
      · have h := h.1 c
        refine j_aload_n C d_X_open_37 0 rfl rfl ?_
        refine j_callVv C d_X_open_38 ml_X_73 mi_X_remember (c_X_remember (xl X) (gD G) (gad G) (gca G)  hσ h) sh_54 rfl rfl rfl rfl rfl rfl rfl (fun σ8 hσ8 h => ?_)
        refine j_aload_n C d_X_open_41 0 rfl rfl ?_
        refine j_getr (kf := 0) (m := 0) C d_X_open_42 sh_54 rfl i_X rfl rfl fl_X_12 ?_
        refine j_iload_n C d_X_open_45 1 rfl rfl ?_
        refine j_iconst C d_X_open_46 ?_
        refine j_callV C d_X_open_47 ml_X_94 mi_S_ofRoads (c_S_ofRoads (xl X) (gD G) (gad G) (gca G) (v1 := v1) (v2 := 4) hσ8 r1 (zR_of (x := 4) rfl) h) sh_0 rfl rfl rfl rfl rfl rfl rfl (fun z9 σ10 rz9 hσ10 h => ?_)
        obtain ⟨ez9, h⟩ := h; subst ez9
        refine j_istore (L' := [(5, .int (zI z9)), (0, .ref (gad G 54)), (1, .int (zI v1)), (2, .int (zI v2)), (3, .int (zI v3)), (4, .int (zI v4))]) C d_X_open_50 rfl rfl ?_
        refine j_aload_n C d_X_open_52 1 rfl rfl ?_
        refine j_getr (kf := 0) (m := 0) C d_X_open_53 sh_54 rfl i_X rfl rfl fl_X_12 ?_
        refine j_iload_n C d_X_open_56 2 rfl rfl ?_
        refine j_iload C d_X_open_57 5 rfl ?_
        refine j_callVv C d_X_open_59 ml_X_98 mi_S_dropSpans (c_S_dropSpans (xl X) (gD G) (gad G) (gca G) (v1 := v1) (v2 := v4) hσ8 r1 r4 h) sh_0 rfl rfl rfl rfl rfl rfl rfl (fun σ12 hσ12 h => ?_)
        refine j_aload_n C d_X_open_62 1 rfl rfl ?_
        refine j_getr (kf := 0) (m := 0) C d_X_open_63 sh_54 rfl i_X rfl rfl fl_X_12 ?_
        refine j_iload_n C d_X_open_66 2 rfl rfl ?_
        refine j_iload_n C d_X_open_67 3 rfl rfl ?_
        refine j_iload_n C d_X_open_68 4 rfl rfl ?_
        refine j_callVv C d_X_open_69 ml_X_102 mi_S_addSpan (c_S_addSpan (xl X) (gD G) (gad G) (gca G) (v1 := v1) (v2 := v2) (v3 := v3) hσ12 r1 r2 r3 h) sh_0 rfl rfl rfl rfl rfl rfl rfl (fun σ14 hσ14 h => ?_)
        refine j_iload C d_X_open_72 0 rfl ?_
        exact j_ireturn C d_X_open_74 rz9 hσ14 h
      · have h := h.2 c
        refine j_bipush C d_X_open_34 rfl ?_
        exact j_ireturn C d_X_open_36 (zR_of (x := (-2)) rfl) hσ h
  · have h := h.2 c
    refine j_iconst C d_X_open_11 ?_
    exact j_ireturn C d_X_open_12 (zR_of (x := (-1)) rfl) hσ h
set_option maxRecDepth 100000 in
set_option maxHeartbeats 4000000 in
theorem w_S_meetsSpan_b42 {X : zX} {G : zG} (C : zC X G b_S_meetsSpan "GateRoads$State" 6 (some .boolean) 1 22) {σ : zM} {v1 : Int} {v2 : Int} {v3 : Int} {v4 : Int} (hσ : zRM σ) (r1 : zR v1) (r2 : zR v2) (r3 : zR v3) (r4 : zR v4) {Q : Int → Prop} {k11 : Int → Prop} (hk11 : ∀ (v5 : Int), zR v5 → k11 v5 → zJ X G (zQi X G (fun z u => σ = u ∧ Q z)) 6 11 [(0, .ref (gad G 0)), (1, .int (zI v1)), (2, .int (zI v2)), (3, .int (zI v3)), (4, .int (zI v4)), (5, .int (zI v5))] [] σ) (v5 : Int) (r5 : zR v5) (h : wp_S_meetsSpan_b42 σ v1 v2 v3 v4 k11 Q v5) : zJ X G (zQi X G (fun z u => σ = u ∧ Q z)) 6 42 [(0, .ref (gad G 0)), (1, .int (zI v1)), (2, .int (zI v2)), (3, .int (zI v3)), (4, .int (zI v4)), (5, .int (zI v5))] [] σ := by
  unfold wp_S_meetsSpan_b42 at h
  obtain ⟨g5, h⟩ := h
  refine j_iinc (L' := [(5, .int (zI (v5 + 1))), (0, .ref (gad G 0)), (1, .int (zI v1)), (2, .int (zI v2)), (3, .int (zI v3)), (4, .int (zI v4))]) C d_S_meetsSpan_42 5 rfl rfl rfl ?_
  refine j_goto (tgt := 11) C d_S_meetsSpan_45 rfl ?_
  refine j_sub (L' := [(0, .ref (gad G 0)), (1, .int (zI v1)), (2, .int (zI v2)), (3, .int (zI v3)), (4, .int (zI v4)), (5, .int (zI (v5 + 1)))]) [1, 2, 3, 4, 5, 0] rfl ?_
  exact hk11 (v5 + 1) g5 h
set_option maxRecDepth 100000 in
set_option maxHeartbeats 4000000 in
theorem w_S_meetsSpan_L11 {X : zX} {G : zG} (C : zC X G b_S_meetsSpan "GateRoads$State" 6 (some .boolean) 1 22) {σ : zM} {v1 : Int} {v2 : Int} {v3 : Int} {v4 : Int} (hσ : zRM σ) (r1 : zR v1) (r2 : zR v2) (r3 : zR v3) (r4 : zR v4) {Q : Int → Prop} : ∀ (n : Nat) (v5 : Int) (r5 : zR v5), wp_S_meetsSpan_L11 σ v1 v2 v3 v4 Q n v5 → zJ X G (zQi X G (fun z u => σ = u ∧ Q z)) 6 11 [(0, .ref (gad G 0)), (1, .int (zI v1)), (2, .int (zI v2)), (3, .int (zI v3)), (4, .int (zI v4)), (5, .int (zI v5))] [] σ := by
  intro n
  induction n with
  | zero => intro v5 r5 h; exact False.elim h
  | succ n ih =>
    intro v5 r5 h
    rw [wp_S_meetsSpan_L11] at h
    refine j_iload C d_S_meetsSpan_11 5 rfl ?_
    refine j_iload C d_S_meetsSpan_13 4 rfl ?_
    refine j_icmp_ge (tgt := 48) C d_S_meetsSpan_15 rfl r5 r4 (fun c => ?_) (fun c => ?_)
    · have h := h.1 c
      refine j_iconst C d_S_meetsSpan_48 ?_
      exact j_zreturn C d_S_meetsSpan_49 (by decide) hσ ⟨rfl, h⟩
    · have h := h.2 c
      refine j_iload_n C d_S_meetsSpan_18 2 rfl rfl ?_
      refine j_aload_n C d_S_meetsSpan_19 0 rfl rfl ?_
      refine j_iload_n C d_S_meetsSpan_20 1 rfl rfl ?_
      refine j_iload C d_S_meetsSpan_21 5 rfl ?_
      refine j_callV C d_S_meetsSpan_23 ml_S_61 mi_S_spanTo (c_S_spanTo (xl X) (gD G) (gad G) (gca G) (v1 := v1) (v2 := v5) hσ r1 r5 h) sh_0 rfl rfl rfl rfl rfl rfl rfl (fun z3 σ4 rz3 hσ4 h => ?_)
      obtain ⟨ez3, h⟩ := h; subst ez3
      refine j_icmp_ge (tgt := 42) C d_S_meetsSpan_26 rfl r2 rz3 (fun c => ?_) (fun c => ?_)
      · have h := h.1 c
        refine w_S_meetsSpan_b42 C hσ r1 r2 r3 r4 ih v5 r5 h
      · have h := h.2 c
        refine j_aload_n C d_S_meetsSpan_29 0 rfl rfl ?_
        refine j_iload_n C d_S_meetsSpan_30 1 rfl rfl ?_
        refine j_iload C d_S_meetsSpan_31 5 rfl ?_
        refine j_callV C d_S_meetsSpan_33 ml_S_64 mi_S_spanFrom (c_S_spanFrom (xl X) (gD G) (gad G) (gca G) (v1 := v1) (v2 := v5) hσ r1 r5 h) sh_0 rfl rfl rfl rfl rfl rfl rfl (fun z6 σ7 rz6 hσ7 h => ?_)
        obtain ⟨ez6, h⟩ := h; subst ez6
        refine j_iload_n C d_S_meetsSpan_36 3 rfl rfl ?_
        refine j_icmp_ge (tgt := 42) C d_S_meetsSpan_37 rfl rz6 r3 (fun c => ?_) (fun c => ?_)
        · have h := h.1 c
          refine w_S_meetsSpan_b42 C hσ r1 r2 r3 r4 ih v5 r5 h
        · have h := h.2 c
          refine j_iconst C d_S_meetsSpan_40 ?_
          exact j_zreturn C d_S_meetsSpan_41 (by decide) hσ ⟨rfl, h⟩
set_option maxRecDepth 100000 in
set_option maxHeartbeats 4000000 in
theorem c_S_meetsSpan (l : Launch) (D : va_G) (ad : Nat → Nat) (ca : Nat → ClassId) {σ : zM} {v1 : Int} {v2 : Int} {v3 : Int} {Q : Int → Prop} (hσ : zRM σ) (r1 : zR v1) (r2 : zR v2) (r3 : zR v3) (h : wp_S_meetsSpan σ v1 v2 v3 Q) : zCi l D ad ca y_S_meetsSpan b_S_meetsSpan 6 (some .boolean) (zrm 1 22) [.ref (ad 0), .int (zI v1), .int (zI v2), .int (zI v3)] σ (fun z u => σ = u ∧ Q z) := by
  refine zCi_of (by decide +kernel) (Nat.le_of_ble_eq_true rfl) ?_
  intro X G C hl hD had hca
  subst hl hD had hca
  have C : zC X G b_S_meetsSpan "GateRoads$State" 6 (some .boolean) 1 22 := C
  show zJ X G (zQi X G (fun z u => σ = u ∧ Q z)) 6 0 [(0, .ref (gad G 0)), (1, .int (zI v1)), (2, .int (zI v2)), (3, .int (zI v3))] [] σ
  unfold wp_S_meetsSpan at h
  refine j_aload_n C d_S_meetsSpan_0 0 rfl rfl ?_
  refine j_iload_n C d_S_meetsSpan_1 1 rfl rfl ?_
  refine j_iconst C d_S_meetsSpan_2 ?_
  refine j_callV C d_S_meetsSpan_3 ml_S_57 mi_S_ofRoads (c_S_ofRoads (xl X) (gD G) (gad G) (gca G) (v1 := v1) (v2 := 4) hσ r1 (zR_of (x := 4) rfl) h) sh_0 rfl rfl rfl rfl rfl rfl rfl (fun z1 σ2 rz1 hσ2 h => ?_)
  obtain ⟨ez1, h⟩ := h; subst ez1
  refine j_istore (L' := [(4, .int (zI z1)), (0, .ref (gad G 0)), (1, .int (zI v1)), (2, .int (zI v2)), (3, .int (zI v3))]) C d_S_meetsSpan_6 rfl rfl ?_
  refine j_iconst C d_S_meetsSpan_8 ?_
  refine j_istore (L' := [(5, .int (zI 0)), (4, .int (zI z1)), (0, .ref (gad G 0)), (1, .int (zI v1)), (2, .int (zI v2)), (3, .int (zI v3))]) C d_S_meetsSpan_9 rfl rfl ?_
  obtain ⟨n8, h⟩ := h
  refine j_sub (L' := [(0, .ref (gad G 0)), (1, .int (zI v1)), (2, .int (zI v2)), (3, .int (zI v3)), (4, .int (zI z1)), (5, .int (zI 0))]) [2, 3, 4, 5, 1, 0] rfl ?_
  refine w_S_meetsSpan_L11 C hσ r1 r2 r3 rz1 n8 0 (zR_of (x := 0) rfl) h
set_option maxRecDepth 100000 in
set_option maxHeartbeats 4000000 in
theorem c_X_more (l : Launch) (D : va_G) (ad : Nat → Nat) (ca : Nat → ClassId) {σ : zM} {v1 : Int} {v2 : Int} {v3 : Int} {Q : Int → zM → Prop} (hσ : zRM σ) (r1 : zR v1) (r2 : zR v2) (r3 : zR v3) (h : wp_X_more σ v1 v2 v3 Q) : zCi l D ad ca y_X_more b_X_more 4 (some .int) (zrm 3 69) [.ref (ad 54), .int (zI v1), .int (zI v2), .int (zI v3)] σ Q := by
  refine zCi_of (by decide +kernel) (Nat.le_of_ble_eq_true rfl) ?_
  intro X G C hl hD had hca
  subst hl hD had hca
  have C : zC X G b_X_more "GateRoads" 4 (some .int) 3 69 := C
  show zJ X G (zQi X G Q) 4 0 [(0, .ref (gad G 54)), (1, .int (zI v1)), (2, .int (zI v2)), (3, .int (zI v3))] [] σ
  unfold wp_X_more at h
  refine j_aload_n C d_X_more_0 0 rfl rfl ?_
  refine j_getr (kf := 0) (m := 0) C d_X_more_1 sh_54 rfl i_X rfl rfl fl_X_12 ?_
  refine j_iload_n C d_X_more_4 1 rfl rfl ?_
  refine j_callV C d_X_more_5 ml_X_88 mi_S_hasRoad (c_S_hasRoad (xl X) (gD G) (gad G) (gca G) (v1 := v1) hσ r1 h) sh_0 rfl rfl rfl rfl rfl rfl rfl (fun z1 σ2 rz1 hσ2 h => ?_)
  obtain ⟨ez1, h⟩ := h; subst ez1
  refine j_if_ne (tgt := 13) C d_X_more_8 rfl rz1 (fun c => ?_) (fun c => ?_)
  · have h := h.1 c
    refine j_iload_n C d_X_more_13 2 rfl rfl ?_
    refine j_iload_n C d_X_more_14 3 rfl rfl ?_
    refine j_sipush C d_X_more_15 rfl ?_
    refine j_callS C d_X_more_18 ml_X_91 ms_X_isSpan (c_X_isSpan (xl X) (gD G) (gad G) (gca G) (v0 := v2) (v1 := v3) (v2 := 1440) hσ r2 r3 (zR_of (x := 1440) rfl) h) rfl rfl rfl rfl rfl (fun z3 σ4 rz3 hσ4 h => ?_)
    obtain ⟨ez3, h⟩ := h; subst ez3
    refine j_if_eq (tgt := 37) C d_X_more_21 rfl rz3 (fun c => ?_) (fun c => ?_)
    · have h := h.1 c
      refine j_bipush C d_X_more_37 rfl ?_
      exact j_ireturn C d_X_more_39 (zR_of (x := (-2)) rfl) hσ h
    · have h := h.2 c
      refine j_aload_n C d_X_more_24 0 rfl rfl ?_
      refine j_getr (kf := 0) (m := 0) C d_X_more_25 sh_54 rfl i_X rfl rfl fl_X_12 ?_
      refine j_iload_n C d_X_more_28 1 rfl rfl ?_
      refine j_iload_n C d_X_more_29 2 rfl rfl ?_
      refine j_iload_n C d_X_more_30 3 rfl rfl ?_
      refine j_callV C d_X_more_31 ml_X_106 mi_S_meetsSpan (c_S_meetsSpan (xl X) (gD G) (gad G) (gca G) (v1 := v1) (v2 := v2) (v3 := v3) hσ r1 r2 r3 h) sh_0 rfl rfl rfl rfl rfl rfl rfl (fun z5 σ6 rz5 hσ6 h => ?_)
      obtain ⟨ez5, h⟩ := h; subst ez5
      refine j_if_eq (tgt := 40) C d_X_more_34 rfl rz5 (fun c => ?_) (fun c => ?_)
      · have h := h.1 c
        refine j_aload_n C d_X_more_40 0 rfl rfl ?_
        refine j_getr (kf := 0) (m := 0) C d_X_more_41 sh_54 rfl i_X rfl rfl fl_X_12 ?_
        refine j_iload_n C d_X_more_44 1 rfl rfl ?_
        refine j_iconst C d_X_more_45 ?_
        refine j_callV C d_X_more_46 ml_X_94 mi_S_ofRoads (c_S_ofRoads (xl X) (gD G) (gad G) (gca G) (v1 := v1) (v2 := 4) hσ r1 (zR_of (x := 4) rfl) h) sh_0 rfl rfl rfl rfl rfl rfl rfl (fun z7 σ8 rz7 hσ8 h => ?_)
        obtain ⟨ez7, h⟩ := h; subst ez7
        refine j_iconst C d_X_more_49 ?_
        refine j_icmp_lt (tgt := 56) C d_X_more_50 rfl rz7 (zR_of (x := 3) rfl) (fun c => ?_) (fun c => ?_)
        · have h := h.1 c
          refine j_aload_n C d_X_more_56 0 rfl rfl ?_
          refine j_callVv C d_X_more_57 ml_X_73 mi_X_remember (c_X_remember (xl X) (gD G) (gad G) (gca G)  hσ h) sh_54 rfl rfl rfl rfl rfl rfl rfl (fun σ10 hσ10 h => ?_)
          refine j_aload_n C d_X_more_60 0 rfl rfl ?_
          refine j_getr (kf := 0) (m := 0) C d_X_more_61 sh_54 rfl i_X rfl rfl fl_X_12 ?_
          refine j_iload_n C d_X_more_64 1 rfl rfl ?_
          refine j_iload_n C d_X_more_65 2 rfl rfl ?_
          refine j_iload_n C d_X_more_66 3 rfl rfl ?_
          refine j_callVv C d_X_more_67 ml_X_102 mi_S_addSpan (c_S_addSpan (xl X) (gD G) (gad G) (gca G) (v1 := v1) (v2 := v2) (v3 := v3) hσ10 r1 r2 r3 h) sh_0 rfl rfl rfl rfl rfl rfl rfl (fun σ12 hσ12 h => ?_)
          refine j_aload_n C d_X_more_70 0 rfl rfl ?_
          refine j_getr (kf := 0) (m := 0) C d_X_more_71 sh_54 rfl i_X rfl rfl fl_X_12 ?_
          refine j_iload_n C d_X_more_74 1 rfl rfl ?_
          refine j_iconst C d_X_more_75 ?_
          refine j_callV C d_X_more_76 ml_X_94 mi_S_ofRoads (c_S_ofRoads (xl X) (gD G) (gad G) (gca G) (v1 := v1) (v2 := 4) hσ12 r1 (zR_of (x := 4) rfl) h) sh_0 rfl rfl rfl rfl rfl rfl rfl (fun z13 σ14 rz13 hσ14 h => ?_)
          obtain ⟨ez13, h⟩ := h; subst ez13
          exact j_ireturn C d_X_more_79 rz13 hσ12 h
        · have h := h.2 c
          refine j_bipush C d_X_more_53 rfl ?_
          exact j_ireturn C d_X_more_55 (zR_of (x := (-4)) rfl) hσ h
      · have h := h.2 c
        refine j_bipush C d_X_more_37 rfl ?_
        exact j_ireturn C d_X_more_39 (zR_of (x := (-2)) rfl) hσ h
  · have h := h.2 c
    refine j_iconst C d_X_more_11 ?_
    exact j_ireturn C d_X_more_12 (zR_of (x := (-1)) rfl) hσ h
set_option maxRecDepth 100000 in
set_option maxHeartbeats 4000000 in
theorem c_S_addClosure (l : Launch) (D : va_G) (ad : Nat → Nat) (ca : Nat → ClassId) {σ : zM} {v1 : Int} {v2 : Int} {v3 : Int} {Q : Int → zM → Prop} (hσ : zRM σ) (r1 : zR v1) (r2 : zR v2) (r3 : zR v3) (h : wp_S_addClosure σ v1 v2 v3 Q) : zCi l D ad ca y_S_addClosure b_S_addClosure 5 (some .int) (zrm 0 0) [.ref (ad 0), .int (zI v1), .int (zI v2), .int (zI v3)] σ Q := by
  refine zCi_of (by decide +kernel) (Nat.le_of_ble_eq_true rfl) ?_
  intro X G C hl hD had hca
  subst hl hD had hca
  have C : zC X G b_S_addClosure "GateRoads$State" 5 (some .int) 0 0 := C
  show zJ X G (zQi X G Q) 5 0 [(0, .ref (gad G 0)), (1, .int (zI v1)), (2, .int (zI v2)), (3, .int (zI v3))] [] σ
  unfold wp_S_addClosure at h
  refine j_aload_n C d_S_addClosure_0 0 rfl rfl ?_
  refine j_geti (kf := 6) (kI := 6) C d_S_addClosure_1 sh_0 rfl i_S rfl rfl rfl fl_S_37 ?_
  refine j_iconst C d_S_addClosure_4 ?_
  refine j_imul C d_S_addClosure_5 ?_
  obtain ⟨g1, h⟩ := h
  refine j_istore (L' := [(4, .int (zI ((σ 0 6) * 3))), (0, .ref (gad G 0)), (1, .int (zI v1)), (2, .int (zI v2)), (3, .int (zI v3))]) C d_S_addClosure_6 rfl rfl ?_
  refine j_aload_n C d_S_addClosure_8 1 rfl rfl ?_
  refine j_getr (kf := 3) (m := 4) C d_S_addClosure_9 sh_0 rfl i_S rfl rfl fl_S_21 ?_
  refine j_iload C d_S_addClosure_12 0 rfl ?_
  refine j_iconst C d_S_addClosure_14 ?_
  refine j_iadd C d_S_addClosure_15 ?_
  refine j_iload_n C d_S_addClosure_16 2 rfl rfl ?_
  obtain ⟨g2, h⟩ := h
  refine j_iastore C d_S_addClosure_17 sh_4 g2 ?_
  refine j_mem (fun σ3 eσ3 => ?_)
  have h := h σ3 eσ3
  have hσ3 : zRM σ3 := by rw [eσ3]; exact zU_rg hσ _ _ r1
  refine j_aload_n C d_S_addClosure_18 1 rfl rfl ?_
  refine j_getr (kf := 3) (m := 4) C d_S_addClosure_19 sh_0 rfl i_S rfl rfl fl_S_21 ?_
  refine j_iload C d_S_addClosure_22 0 rfl ?_
  refine j_iconst C d_S_addClosure_24 ?_
  refine j_iadd C d_S_addClosure_25 ?_
  refine j_iload_n C d_S_addClosure_26 3 rfl rfl ?_
  obtain ⟨g4, h⟩ := h
  refine j_iastore C d_S_addClosure_27 sh_4 g4 ?_
  refine j_mem (fun σ5 eσ5 => ?_)
  have h := h σ5 eσ5
  have hσ5 : zRM σ5 := by rw [eσ5]; exact zU_rg hσ3 _ _ r2
  refine j_aload_n C d_S_addClosure_28 1 rfl rfl ?_
  refine j_getr (kf := 3) (m := 4) C d_S_addClosure_29 sh_0 rfl i_S rfl rfl fl_S_21 ?_
  refine j_iload C d_S_addClosure_32 0 rfl ?_
  refine j_iconst C d_S_addClosure_34 ?_
  refine j_iadd C d_S_addClosure_35 ?_
  refine j_iload_n C d_S_addClosure_36 4 rfl rfl ?_
  obtain ⟨g6, h⟩ := h
  refine j_iastore C d_S_addClosure_37 sh_4 g6 ?_
  refine j_mem (fun σ7 eσ7 => ?_)
  have h := h σ7 eσ7
  have hσ7 : zRM σ7 := by rw [eσ7]; exact zU_rg hσ5 _ _ r3
  refine j_aload_n C d_S_addClosure_38 1 rfl rfl ?_
  refine j_dup C d_S_addClosure_39 rfl ?_
  refine j_geti (kf := 6) (kI := 6) C d_S_addClosure_40 sh_0 rfl i_S rfl rfl rfl fl_S_37 ?_
  refine j_iconst C d_S_addClosure_43 ?_
  refine j_iadd C d_S_addClosure_44 ?_
  obtain ⟨g8, h⟩ := h
  refine j_puti (kf := 6) (kI := 6) C t_S d_S_addClosure_45 sh_0 rfl i_S t_S_ok n_S rfl rfl rfl fl_S_37 rfl (Or.inl rfl) ?_
  refine j_mem (fun σ9 eσ9 => ?_)
  have h := h σ9 eσ9
  have hσ9 : zRM σ9 := by rw [eσ9]; exact zU_rg hσ7 _ _ g8
  refine j_aload_n C d_S_addClosure_48 1 rfl rfl ?_
  refine j_geti (kf := 6) (kI := 6) C d_S_addClosure_49 sh_0 rfl i_S rfl rfl rfl fl_S_37 ?_
  refine j_iconst C d_S_addClosure_52 ?_
  refine j_isub C d_S_addClosure_53 ?_
  obtain ⟨g10, h⟩ := h
  exact j_ireturn C d_S_addClosure_54 g10 hσ9 h
set_option maxRecDepth 100000 in
set_option maxHeartbeats 4000000 in
theorem c_X_close (l : Launch) (D : va_G) (ad : Nat → Nat) (ca : Nat → ClassId) {σ : zM} {v1 : Int} {v2 : Int} {v3 : Int} {Q : Int → zM → Prop} (hσ : zRM σ) (r1 : zR v1) (r2 : zR v2) (r3 : zR v3) (h : wp_X_close σ v1 v2 v3 Q) : zCi l D ad ca y_X_close b_X_close 4 (some .int) (zrm 3 69) [.ref (ad 54), .int (zI v1), .int (zI v2), .int (zI v3)] σ Q := by
  refine zCi_of (by decide +kernel) (Nat.le_of_ble_eq_true rfl) ?_
  intro X G C hl hD had hca
  subst hl hD had hca
  have C : zC X G b_X_close "GateRoads" 4 (some .int) 3 69 := C
  show zJ X G (zQi X G Q) 4 0 [(0, .ref (gad G 54)), (1, .int (zI v1)), (2, .int (zI v2)), (3, .int (zI v3))] [] σ
  unfold wp_X_close at h
  refine j_aload_n C d_X_close_0 0 rfl rfl ?_
  refine j_getr (kf := 0) (m := 0) C d_X_close_1 sh_54 rfl i_X rfl rfl fl_X_12 ?_
  refine j_iload_n C d_X_close_4 1 rfl rfl ?_
  refine j_callV C d_X_close_5 ml_X_88 mi_S_hasRoad (c_S_hasRoad (xl X) (gD G) (gad G) (gca G) (v1 := v1) hσ r1 h) sh_0 rfl rfl rfl rfl rfl rfl rfl (fun z1 σ2 rz1 hσ2 h => ?_)
  obtain ⟨ez1, h⟩ := h; subst ez1
  refine j_if_ne (tgt := 13) C d_X_close_8 rfl rz1 (fun c => ?_) (fun c => ?_)
  · have h := h.1 c
    refine j_iload_n C d_X_close_13 2 rfl rfl ?_
    refine j_iload_n C d_X_close_14 3 rfl rfl ?_
    refine j_sipush C d_X_close_15 rfl ?_
    refine j_callS C d_X_close_18 ml_X_91 ms_X_isSpan (c_X_isSpan (xl X) (gD G) (gad G) (gca G) (v0 := v2) (v1 := v3) (v2 := 2880) hσ r2 r3 (zR_of (x := 2880) rfl) h) rfl rfl rfl rfl rfl (fun z3 σ4 rz3 hσ4 h => ?_)
    obtain ⟨ez3, h⟩ := h; subst ez3
    refine j_if_ne (tgt := 27) C d_X_close_21 rfl rz3 (fun c => ?_) (fun c => ?_)
    · have h := h.1 c
      refine j_aload_n C d_X_close_27 0 rfl rfl ?_
      refine j_getr (kf := 0) (m := 0) C d_X_close_28 sh_54 rfl i_X rfl rfl fl_X_12 ?_
      refine j_geti (kf := 6) (kI := 6) C d_X_close_31 sh_0 rfl i_S rfl rfl rfl fl_X_109 ?_
      refine j_bipush C d_X_close_34 rfl ?_
      refine j_icmp_lt (tgt := 42) C d_X_close_36 rfl (hσ _ _) (zR_of (x := 20) rfl) (fun c => ?_) (fun c => ?_)
      · have h := h.1 c
        refine j_aload_n C d_X_close_42 0 rfl rfl ?_
        refine j_callVv C d_X_close_43 ml_X_73 mi_X_remember (c_X_remember (xl X) (gD G) (gad G) (gca G)  hσ h) sh_54 rfl rfl rfl rfl rfl rfl rfl (fun σ6 hσ6 h => ?_)
        refine j_aload_n C d_X_close_46 0 rfl rfl ?_
        refine j_getr (kf := 0) (m := 0) C d_X_close_47 sh_54 rfl i_X rfl rfl fl_X_12 ?_
        refine j_iload_n C d_X_close_50 1 rfl rfl ?_
        refine j_iload_n C d_X_close_51 2 rfl rfl ?_
        refine j_iload_n C d_X_close_52 3 rfl rfl ?_
        refine j_callV C d_X_close_53 ml_X_112 mi_S_addClosure (c_S_addClosure (xl X) (gD G) (gad G) (gca G) (v1 := v1) (v2 := v2) (v3 := v3) hσ6 r1 r2 r3 h) sh_0 rfl rfl rfl rfl rfl rfl rfl (fun z7 σ8 rz7 hσ8 h => ?_)
        exact j_ireturn C d_X_close_56 rz7 hσ8 h
      · have h := h.2 c
        refine j_bipush C d_X_close_39 rfl ?_
        exact j_ireturn C d_X_close_41 (zR_of (x := (-4)) rfl) hσ h
    · have h := h.2 c
      refine j_bipush C d_X_close_24 rfl ?_
      exact j_ireturn C d_X_close_26 (zR_of (x := (-2)) rfl) hσ h
  · have h := h.2 c
    refine j_iconst C d_X_close_11 ?_
    exact j_ireturn C d_X_close_12 (zR_of (x := (-1)) rfl) hσ h
set_option maxRecDepth 100000 in
set_option maxHeartbeats 4000000 in
theorem c_S_dropClosure (l : Launch) (D : va_G) (ad : Nat → Nat) (ca : Nat → ClassId) {σ : zM} {v1 : Int} {Q : zM → Prop} (hσ : zRM σ) (r1 : zR v1) (h : wp_S_dropClosure σ v1 Q) : zCv l D ad ca y_S_dropClosure b_S_dropClosure 3 (zrm 1 26) [.ref (ad 0), .int (zI v1)] σ Q := by
  refine zCv_of (by decide +kernel) (Nat.le_of_ble_eq_true rfl) ?_
  intro X G C hl hD had hca
  subst hl hD had hca
  have C : zC X G b_S_dropClosure "GateRoads$State" 3 (none) 1 26 := C
  show zJ X G (zQv X G Q) 3 0 [(0, .ref (gad G 0)), (1, .int (zI v1))] [] σ
  unfold wp_S_dropClosure at h
  refine j_iload_n C d_S_dropClosure_0 1 rfl rfl ?_
  refine j_iconst C d_S_dropClosure_1 ?_
  refine j_iadd C d_S_dropClosure_2 ?_
  refine j_iconst C d_S_dropClosure_3 ?_
  refine j_imul C d_S_dropClosure_4 ?_
  obtain ⟨g1, h⟩ := h
  refine j_istore_n (L' := [(2, .int (zI ((v1 + 1) * 3))), (0, .ref (gad G 0)), (1, .int (zI v1))]) C d_S_dropClosure_5 rfl rfl rfl ?_
  refine j_aload_n C d_S_dropClosure_6 1 rfl rfl ?_
  refine j_getr (kf := 3) (m := 4) C d_S_dropClosure_7 sh_0 rfl i_S rfl rfl fl_S_21 ?_
  refine j_iload_n C d_S_dropClosure_10 0 rfl rfl ?_
  refine j_aload_n C d_S_dropClosure_11 1 rfl rfl ?_
  refine j_getr (kf := 3) (m := 4) C d_S_dropClosure_12 sh_0 rfl i_S rfl rfl fl_S_21 ?_
  refine j_iload_n C d_S_dropClosure_15 0 rfl rfl ?_
  refine j_iconst C d_S_dropClosure_16 ?_
  refine j_isub C d_S_dropClosure_17 ?_
  refine j_aload_n C d_S_dropClosure_18 1 rfl rfl ?_
  refine j_geti (kf := 6) (kI := 6) C d_S_dropClosure_19 sh_0 rfl i_S rfl rfl rfl fl_S_37 ?_
  refine j_iconst C d_S_dropClosure_22 ?_
  refine j_imul C d_S_dropClosure_23 ?_
  refine j_iload_n C d_S_dropClosure_24 0 rfl rfl ?_
  refine j_isub C d_S_dropClosure_25 ?_
  obtain ⟨g2, h⟩ := h
  refine j_copy C d_S_dropClosure_26 ml_S_27 zn_copy zs_copy zi_Sys rfl rfl sh_4 sh_4 g2 ?_
  refine j_mem (fun σ3 eσ3 => ?_)
  have h := h σ3 eσ3
  have hσ3 : zRM σ3 := by rw [eσ3]; exact zCp_rg hσ _ _ _ _ _
  refine j_aload_n C d_S_dropClosure_29 1 rfl rfl ?_
  refine j_dup C d_S_dropClosure_30 rfl ?_
  refine j_geti (kf := 6) (kI := 6) C d_S_dropClosure_31 sh_0 rfl i_S rfl rfl rfl fl_S_37 ?_
  refine j_iconst C d_S_dropClosure_34 ?_
  refine j_isub C d_S_dropClosure_35 ?_
  obtain ⟨g4, h⟩ := h
  refine j_puti (kf := 6) (kI := 6) C t_S d_S_dropClosure_36 sh_0 rfl i_S t_S_ok n_S rfl rfl rfl fl_S_37 rfl (Or.inl rfl) ?_
  refine j_mem (fun σ5 eσ5 => ?_)
  have h := h σ5 eσ5
  have hσ5 : zRM σ5 := by rw [eσ5]; exact zU_rg hσ3 _ _ g4
  exact j_vreturn C d_S_dropClosure_39 hσ5 h
set_option maxRecDepth 100000 in
set_option maxHeartbeats 4000000 in
theorem c_X_lift (l : Launch) (D : va_G) (ad : Nat → Nat) (ca : Nat → ClassId) {σ : zM} {v1 : Int} {Q : Int → zM → Prop} (hσ : zRM σ) (r1 : zR v1) (h : wp_X_lift σ v1 Q) : zCi l D ad ca y_X_lift b_X_lift 2 (some .int) (zrm 3 69) [.ref (ad 54), .int (zI v1)] σ Q := by
  refine zCi_of (by decide +kernel) (Nat.le_of_ble_eq_true rfl) ?_
  intro X G C hl hD had hca
  subst hl hD had hca
  have C : zC X G b_X_lift "GateRoads" 2 (some .int) 3 69 := C
  show zJ X G (zQi X G Q) 2 0 [(0, .ref (gad G 54)), (1, .int (zI v1))] [] σ
  unfold wp_X_lift at h
  refine j_aload_n C d_X_lift_0 0 rfl rfl ?_
  refine j_getr (kf := 0) (m := 0) C d_X_lift_1 sh_54 rfl i_X rfl rfl fl_X_12 ?_
  refine j_iload_n C d_X_lift_4 1 rfl rfl ?_
  refine j_callV C d_X_lift_5 ml_X_115 mi_S_hasClosure (c_S_hasClosure (xl X) (gD G) (gad G) (gca G) (v1 := v1) hσ r1 h) sh_0 rfl rfl rfl rfl rfl rfl rfl (fun z1 σ2 rz1 hσ2 h => ?_)
  obtain ⟨ez1, h⟩ := h; subst ez1
  refine j_if_ne (tgt := 13) C d_X_lift_8 rfl rz1 (fun c => ?_) (fun c => ?_)
  · have h := h.1 c
    refine j_aload_n C d_X_lift_13 0 rfl rfl ?_
    refine j_callVv C d_X_lift_14 ml_X_73 mi_X_remember (c_X_remember (xl X) (gD G) (gad G) (gca G)  hσ h) sh_54 rfl rfl rfl rfl rfl rfl rfl (fun σ4 hσ4 h => ?_)
    refine j_aload_n C d_X_lift_17 0 rfl rfl ?_
    refine j_getr (kf := 0) (m := 0) C d_X_lift_18 sh_54 rfl i_X rfl rfl fl_X_12 ?_
    refine j_iload_n C d_X_lift_21 1 rfl rfl ?_
    refine j_callVv C d_X_lift_22 ml_X_118 mi_S_dropClosure (c_S_dropClosure (xl X) (gD G) (gad G) (gca G) (v1 := v1) hσ4 r1 h) sh_0 rfl rfl rfl rfl rfl rfl rfl (fun σ6 hσ6 h => ?_)
    refine j_aload_n C d_X_lift_25 0 rfl rfl ?_
    refine j_getr (kf := 0) (m := 0) C d_X_lift_26 sh_54 rfl i_X rfl rfl fl_X_12 ?_
    refine j_geti (kf := 6) (kI := 6) C d_X_lift_29 sh_0 rfl i_S rfl rfl rfl fl_X_109 ?_
    exact j_ireturn C d_X_lift_32 (hσ6 _ _) hσ6 h
  · have h := h.2 c
    refine j_iconst C d_X_lift_11 ?_
    exact j_ireturn C d_X_lift_12 (zR_of (x := (-1)) rfl) hσ h
set_option maxRecDepth 100000 in
set_option maxHeartbeats 4000000 in
theorem c_S_addTraveller (l : Launch) (D : va_G) (ad : Nat → Nat) (ca : Nat → ClassId) {σ : zM} {v1 : Int} {v2 : Int} {Q : Int → zM → Prop} (hσ : zRM σ) (r1 : zR v1) (r2 : zR v2) (h : wp_S_addTraveller σ v1 v2 Q) : zCi l D ad ca y_S_addTraveller b_S_addTraveller 4 (some .int) (zrm 2 46) [.ref (ad 0), .int (zI v1), .int (zI v2)] σ Q := by
  refine zCi_of (by decide +kernel) (Nat.le_of_ble_eq_true rfl) ?_
  intro X G C hl hD had hca
  subst hl hD had hca
  have C : zC X G b_S_addTraveller "GateRoads$State" 4 (some .int) 2 46 := C
  show zJ X G (zQi X G Q) 4 0 [(0, .ref (gad G 0)), (1, .int (zI v1)), (2, .int (zI v2))] [] σ
  unfold wp_S_addTraveller at h
  refine j_aload_n C d_S_addTraveller_0 0 rfl rfl ?_
  refine j_geti (kf := 7) (kI := 7) C d_S_addTraveller_1 sh_0 rfl i_S rfl rfl rfl fl_S_40 ?_
  refine j_bipush C d_S_addTraveller_4 rfl ?_
  refine j_imul C d_S_addTraveller_6 ?_
  obtain ⟨g1, h⟩ := h
  refine j_istore_n (L' := [(3, .int (zI ((σ 0 7) * 8))), (0, .ref (gad G 0)), (1, .int (zI v1)), (2, .int (zI v2))]) C d_S_addTraveller_7 rfl rfl rfl ?_
  refine j_aload_n C d_S_addTraveller_8 1 rfl rfl ?_
  refine j_getr (kf := 4) (m := 5) C d_S_addTraveller_9 sh_0 rfl i_S rfl rfl fl_S_24 ?_
  refine j_iload_n C d_S_addTraveller_12 0 rfl rfl ?_
  refine j_iload_n C d_S_addTraveller_13 0 rfl rfl ?_
  refine j_bipush C d_S_addTraveller_14 rfl ?_
  refine j_iadd C d_S_addTraveller_16 ?_
  refine j_iconst C d_S_addTraveller_17 ?_
  obtain ⟨g2, h⟩ := h
  obtain ⟨g3, h⟩ := h
  refine j_callSv C d_S_addTraveller_18 ml_S_51 ms_Ar_fill_1 (c_Ar_fill_1 (xl X) (gD G) (gad G) (gca G) hσ sh_5 (zR_of (x := 0) rfl) g3) rfl rfl rfl rfl rfl (fun σ4 hσ4 eσ4 => ?_)
  have h := h σ4 eσ4
  refine j_aload_n C d_S_addTraveller_21 1 rfl rfl ?_
  refine j_getr (kf := 4) (m := 5) C d_S_addTraveller_22 sh_0 rfl i_S rfl rfl fl_S_24 ?_
  refine j_iload_n C d_S_addTraveller_25 0 rfl rfl ?_
  refine j_iconst C d_S_addTraveller_26 ?_
  refine j_iadd C d_S_addTraveller_27 ?_
  refine j_iload_n C d_S_addTraveller_28 2 rfl rfl ?_
  obtain ⟨g5, h⟩ := h
  refine j_iastore C d_S_addTraveller_29 sh_5 g5 ?_
  refine j_mem (fun σ6 eσ6 => ?_)
  have h := h σ6 eσ6
  have hσ6 : zRM σ6 := by rw [eσ6]; exact zU_rg hσ4 _ _ r1
  refine j_aload_n C d_S_addTraveller_30 1 rfl rfl ?_
  refine j_getr (kf := 4) (m := 5) C d_S_addTraveller_31 sh_0 rfl i_S rfl rfl fl_S_24 ?_
  refine j_iload_n C d_S_addTraveller_34 0 rfl rfl ?_
  refine j_iconst C d_S_addTraveller_35 ?_
  refine j_iadd C d_S_addTraveller_36 ?_
  refine j_iload_n C d_S_addTraveller_37 3 rfl rfl ?_
  obtain ⟨g7, h⟩ := h
  refine j_iastore C d_S_addTraveller_38 sh_5 g7 ?_
  refine j_mem (fun σ8 eσ8 => ?_)
  have h := h σ8 eσ8
  have hσ8 : zRM σ8 := by rw [eσ8]; exact zU_rg hσ6 _ _ r2
  refine j_aload_n C d_S_addTraveller_39 1 rfl rfl ?_
  refine j_getr (kf := 4) (m := 5) C d_S_addTraveller_40 sh_0 rfl i_S rfl rfl fl_S_24 ?_
  refine j_iload_n C d_S_addTraveller_43 0 rfl rfl ?_
  refine j_iconst C d_S_addTraveller_44 ?_
  refine j_iadd C d_S_addTraveller_45 ?_
  refine j_iload_n C d_S_addTraveller_46 3 rfl rfl ?_
  obtain ⟨g9, h⟩ := h
  refine j_iastore C d_S_addTraveller_47 sh_5 g9 ?_
  refine j_mem (fun σ10 eσ10 => ?_)
  have h := h σ10 eσ10
  have hσ10 : zRM σ10 := by rw [eσ10]; exact zU_rg hσ8 _ _ r2
  refine j_aload_n C d_S_addTraveller_48 1 rfl rfl ?_
  refine j_getr (kf := 4) (m := 5) C d_S_addTraveller_49 sh_0 rfl i_S rfl rfl fl_S_24 ?_
  refine j_iload_n C d_S_addTraveller_52 0 rfl rfl ?_
  refine j_bipush C d_S_addTraveller_53 rfl ?_
  refine j_iadd C d_S_addTraveller_55 ?_
  refine j_iload_n C d_S_addTraveller_56 2 rfl rfl ?_
  obtain ⟨g11, h⟩ := h
  refine j_iastore C d_S_addTraveller_57 sh_5 g11 ?_
  refine j_mem (fun σ12 eσ12 => ?_)
  have h := h σ12 eσ12
  have hσ12 : zRM σ12 := by rw [eσ12]; exact zU_rg hσ10 _ _ r1
  refine j_aload_n C d_S_addTraveller_58 1 rfl rfl ?_
  refine j_getr (kf := 4) (m := 5) C d_S_addTraveller_59 sh_0 rfl i_S rfl rfl fl_S_24 ?_
  refine j_iload_n C d_S_addTraveller_62 0 rfl rfl ?_
  refine j_bipush C d_S_addTraveller_63 rfl ?_
  refine j_iadd C d_S_addTraveller_65 ?_
  refine j_iload_n C d_S_addTraveller_66 3 rfl rfl ?_
  obtain ⟨g13, h⟩ := h
  refine j_iastore C d_S_addTraveller_67 sh_5 g13 ?_
  refine j_mem (fun σ14 eσ14 => ?_)
  have h := h σ14 eσ14
  have hσ14 : zRM σ14 := by rw [eσ14]; exact zU_rg hσ12 _ _ r2
  refine j_aload_n C d_S_addTraveller_68 1 rfl rfl ?_
  refine j_dup C d_S_addTraveller_69 rfl ?_
  refine j_geti (kf := 7) (kI := 7) C d_S_addTraveller_70 sh_0 rfl i_S rfl rfl rfl fl_S_40 ?_
  refine j_iconst C d_S_addTraveller_73 ?_
  refine j_iadd C d_S_addTraveller_74 ?_
  obtain ⟨g15, h⟩ := h
  refine j_puti (kf := 7) (kI := 7) C t_S d_S_addTraveller_75 sh_0 rfl i_S t_S_ok n_S rfl rfl rfl fl_S_40 rfl (Or.inl rfl) ?_
  refine j_mem (fun σ16 eσ16 => ?_)
  have h := h σ16 eσ16
  have hσ16 : zRM σ16 := by rw [eσ16]; exact zU_rg hσ14 _ _ g15
  refine j_aload_n C d_S_addTraveller_78 1 rfl rfl ?_
  refine j_geti (kf := 7) (kI := 7) C d_S_addTraveller_79 sh_0 rfl i_S rfl rfl rfl fl_S_40 ?_
  refine j_iconst C d_S_addTraveller_82 ?_
  refine j_isub C d_S_addTraveller_83 ?_
  obtain ⟨g17, h⟩ := h
  exact j_ireturn C d_S_addTraveller_84 g17 hσ16 h
set_option maxRecDepth 100000 in
set_option maxHeartbeats 4000000 in
theorem c_X_traveller (l : Launch) (D : va_G) (ad : Nat → Nat) (ca : Nat → ClassId) {σ : zM} {v1 : Int} {v2 : Int} {Q : Int → zM → Prop} (hσ : zRM σ) (r1 : zR v1) (r2 : zR v2) (h : wp_X_traveller σ v1 v2 Q) : zCi l D ad ca y_X_traveller b_X_traveller 3 (some .int) (zrm 3 69) [.ref (ad 54), .int (zI v1), .int (zI v2)] σ Q := by
  refine zCi_of (by decide +kernel) (Nat.le_of_ble_eq_true rfl) ?_
  intro X G C hl hD had hca
  subst hl hD had hca
  have C : zC X G b_X_traveller "GateRoads" 3 (some .int) 3 69 := C
  show zJ X G (zQi X G Q) 3 0 [(0, .ref (gad G 54)), (1, .int (zI v1)), (2, .int (zI v2))] [] σ
  unfold wp_X_traveller at h
  refine j_iload_n C d_X_traveller_0 1 rfl rfl ?_
  refine j_callS C d_X_traveller_1 ml_X_65 ms_X_isPlace (c_X_isPlace (xl X) (gD G) (gad G) (gca G) (v0 := v1) hσ r1 h) rfl rfl rfl rfl rfl (fun z1 σ2 rz1 hσ2 h => ?_)
  obtain ⟨ez1, h⟩ := h; subst ez1
  refine j_if_ne (tgt := 9) C d_X_traveller_4 rfl rz1 (fun c => ?_) (fun c => ?_)
  · have h := h.1 c
    refine j_iload_n C d_X_traveller_9 2 rfl rfl ?_
    refine j_iconst C d_X_traveller_10 ?_
    refine j_sipush C d_X_traveller_11 rfl ?_
    refine j_callS C d_X_traveller_14 ml_X_69 ms_X_within (c_X_within (xl X) (gD G) (gad G) (gca G) (v0 := v2) (v1 := 0) (v2 := 2880) hσ r2 (zR_of (x := 0) rfl) (zR_of (x := 2880) rfl) h) rfl rfl rfl rfl rfl (fun z3 σ4 rz3 hσ4 h => ?_)
    obtain ⟨ez3, h⟩ := h; subst ez3
    refine j_if_ne (tgt := 23) C d_X_traveller_17 rfl rz3 (fun c => ?_) (fun c => ?_)
    · have h := h.1 c
      refine j_aload_n C d_X_traveller_23 0 rfl rfl ?_
      refine j_getr (kf := 0) (m := 0) C d_X_traveller_24 sh_54 rfl i_X rfl rfl fl_X_12 ?_
      refine j_geti (kf := 7) (kI := 7) C d_X_traveller_27 sh_0 rfl i_S rfl rfl rfl fl_X_122 ?_
      refine j_bipush C d_X_traveller_30 rfl ?_
      refine j_icmp_lt (tgt := 38) C d_X_traveller_32 rfl (hσ _ _) (zR_of (x := 10) rfl) (fun c => ?_) (fun c => ?_)
      · have h := h.1 c
        refine j_aload_n C d_X_traveller_38 0 rfl rfl ?_
        refine j_callVv C d_X_traveller_39 ml_X_73 mi_X_remember (c_X_remember (xl X) (gD G) (gad G) (gca G)  hσ h) sh_54 rfl rfl rfl rfl rfl rfl rfl (fun σ6 hσ6 h => ?_)
        refine j_aload_n C d_X_traveller_42 0 rfl rfl ?_
        refine j_getr (kf := 0) (m := 0) C d_X_traveller_43 sh_54 rfl i_X rfl rfl fl_X_12 ?_
        refine j_iload_n C d_X_traveller_46 1 rfl rfl ?_
        refine j_iload_n C d_X_traveller_47 2 rfl rfl ?_
        refine j_callV C d_X_traveller_48 ml_X_125 mi_S_addTraveller (c_S_addTraveller (xl X) (gD G) (gad G) (gca G) (v1 := v1) (v2 := v2) hσ6 r1 r2 h) sh_0 rfl rfl rfl rfl rfl rfl rfl (fun z7 σ8 rz7 hσ8 h => ?_)
        exact j_ireturn C d_X_traveller_51 rz7 hσ8 h
      · have h := h.2 c
        refine j_bipush C d_X_traveller_35 rfl ?_
        exact j_ireturn C d_X_traveller_37 (zR_of (x := (-4)) rfl) hσ h
    · have h := h.2 c
      refine j_bipush C d_X_traveller_20 rfl ?_
      exact j_ireturn C d_X_traveller_22 (zR_of (x := (-2)) rfl) hσ h
  · have h := h.2 c
    refine j_iconst C d_X_traveller_7 ?_
    exact j_ireturn C d_X_traveller_8 (zR_of (x := (-1)) rfl) hσ h
set_option maxRecDepth 100000 in
set_option maxHeartbeats 4000000 in
theorem w_S_spanEnd_b46 {X : zX} {G : zG} (C : zC X G b_S_spanEnd "GateRoads$State" 5 (some .int) 1 22) {σ : zM} {v1 : Int} {v2 : Int} {v3 : Int} (hσ : zRM σ) (r1 : zR v1) (r2 : zR v2) (r3 : zR v3) {Q : Int → Prop} {k10 : Int → Prop} (hk10 : ∀ (v4 : Int), zR v4 → k10 v4 → zJ X G (zQi X G (fun z u => σ = u ∧ Q z)) 5 10 [(0, .ref (gad G 0)), (1, .int (zI v1)), (2, .int (zI v2)), (3, .int (zI v3)), (4, .int (zI v4))] [] σ) (v4 : Int) (r4 : zR v4) (h : wp_S_spanEnd_b46 σ v1 v2 v3 k10 Q v4) : zJ X G (zQi X G (fun z u => σ = u ∧ Q z)) 5 46 [(0, .ref (gad G 0)), (1, .int (zI v1)), (2, .int (zI v2)), (3, .int (zI v3)), (4, .int (zI v4))] [] σ := by
  unfold wp_S_spanEnd_b46 at h
  obtain ⟨g5, h⟩ := h
  refine j_iinc (L' := [(4, .int (zI (v4 + 1))), (0, .ref (gad G 0)), (1, .int (zI v1)), (2, .int (zI v2)), (3, .int (zI v3))]) C d_S_spanEnd_46 4 rfl rfl rfl ?_
  refine j_goto (tgt := 10) C d_S_spanEnd_49 rfl ?_
  refine j_sub (L' := [(0, .ref (gad G 0)), (1, .int (zI v1)), (2, .int (zI v2)), (3, .int (zI v3)), (4, .int (zI (v4 + 1)))]) [1, 2, 3, 4, 0] rfl ?_
  exact hk10 (v4 + 1) g5 h
set_option maxRecDepth 100000 in
set_option maxHeartbeats 4000000 in
theorem w_S_spanEnd_L10 {X : zX} {G : zG} (C : zC X G b_S_spanEnd "GateRoads$State" 5 (some .int) 1 22) {σ : zM} {v1 : Int} {v2 : Int} {v3 : Int} (hσ : zRM σ) (r1 : zR v1) (r2 : zR v2) (r3 : zR v3) {Q : Int → Prop} : ∀ (n : Nat) (v4 : Int) (r4 : zR v4), wp_S_spanEnd_L10 σ v1 v2 v3 Q n v4 → zJ X G (zQi X G (fun z u => σ = u ∧ Q z)) 5 10 [(0, .ref (gad G 0)), (1, .int (zI v1)), (2, .int (zI v2)), (3, .int (zI v3)), (4, .int (zI v4))] [] σ := by
  intro n
  induction n with
  | zero => intro v4 r4 h; exact False.elim h
  | succ n ih =>
    intro v4 r4 h
    rw [wp_S_spanEnd_L10] at h
    refine j_iload C d_S_spanEnd_10 4 rfl ?_
    refine j_iload_n C d_S_spanEnd_12 3 rfl rfl ?_
    refine j_icmp_ge (tgt := 52) C d_S_spanEnd_13 rfl r4 r3 (fun c => ?_) (fun c => ?_)
    · have h := h.1 c
      refine j_bipush C d_S_spanEnd_52 rfl ?_
      exact j_ireturn C d_S_spanEnd_54 (zR_of (x := (-6)) rfl) hσ ⟨rfl, h⟩
    · have h := h.2 c
      refine j_iload_n C d_S_spanEnd_16 2 rfl rfl ?_
      refine j_aload_n C d_S_spanEnd_17 0 rfl rfl ?_
      refine j_iload_n C d_S_spanEnd_18 1 rfl rfl ?_
      refine j_iload C d_S_spanEnd_19 4 rfl ?_
      refine j_callV C d_S_spanEnd_21 ml_S_64 mi_S_spanFrom (c_S_spanFrom (xl X) (gD G) (gad G) (gca G) (v1 := v1) (v2 := v4) hσ r1 r4 h) sh_0 rfl rfl rfl rfl rfl rfl rfl (fun z3 σ4 rz3 hσ4 h => ?_)
      obtain ⟨ez3, h⟩ := h; subst ez3
      refine j_icmp_lt (tgt := 46) C d_S_spanEnd_24 rfl r2 rz3 (fun c => ?_) (fun c => ?_)
      · have h := h.1 c
        refine w_S_spanEnd_b46 C hσ r1 r2 r3 ih v4 r4 h
      · have h := h.2 c
        refine j_iload_n C d_S_spanEnd_27 2 rfl rfl ?_
        refine j_aload_n C d_S_spanEnd_28 0 rfl rfl ?_
        refine j_iload_n C d_S_spanEnd_29 1 rfl rfl ?_
        refine j_iload C d_S_spanEnd_30 4 rfl ?_
        refine j_callV C d_S_spanEnd_32 ml_S_61 mi_S_spanTo (c_S_spanTo (xl X) (gD G) (gad G) (gca G) (v1 := v1) (v2 := v4) hσ r1 r4 h) sh_0 rfl rfl rfl rfl rfl rfl rfl (fun z6 σ7 rz6 hσ7 h => ?_)
        obtain ⟨ez6, h⟩ := h; subst ez6
        refine j_icmp_ge (tgt := 46) C d_S_spanEnd_35 rfl r2 rz6 (fun c => ?_) (fun c => ?_)
        · have h := h.1 c
          refine w_S_spanEnd_b46 C hσ r1 r2 r3 ih v4 r4 h
        · have h := h.2 c
          refine j_aload_n C d_S_spanEnd_38 0 rfl rfl ?_
          refine j_iload_n C d_S_spanEnd_39 1 rfl rfl ?_
          refine j_iload C d_S_spanEnd_40 4 rfl ?_
          refine j_callV C d_S_spanEnd_42 ml_S_61 mi_S_spanTo (c_S_spanTo (xl X) (gD G) (gad G) (gca G) (v1 := v1) (v2 := v4) hσ r1 r4 h) sh_0 rfl rfl rfl rfl rfl rfl rfl (fun z8 σ9 rz8 hσ9 h => ?_)
          obtain ⟨ez8, h⟩ := h; subst ez8
          exact j_ireturn C d_S_spanEnd_45 rz8 hσ ⟨rfl, h⟩
set_option maxRecDepth 100000 in
set_option maxHeartbeats 4000000 in
theorem c_S_spanEnd (l : Launch) (D : va_G) (ad : Nat → Nat) (ca : Nat → ClassId) {σ : zM} {v1 : Int} {v2 : Int} {Q : Int → Prop} (hσ : zRM σ) (r1 : zR v1) (r2 : zR v2) (h : wp_S_spanEnd σ v1 v2 Q) : zCi l D ad ca y_S_spanEnd b_S_spanEnd 5 (some .int) (zrm 1 22) [.ref (ad 0), .int (zI v1), .int (zI v2)] σ (fun z u => σ = u ∧ Q z) := by
  refine zCi_of (by decide +kernel) (Nat.le_of_ble_eq_true rfl) ?_
  intro X G C hl hD had hca
  subst hl hD had hca
  have C : zC X G b_S_spanEnd "GateRoads$State" 5 (some .int) 1 22 := C
  show zJ X G (zQi X G (fun z u => σ = u ∧ Q z)) 5 0 [(0, .ref (gad G 0)), (1, .int (zI v1)), (2, .int (zI v2))] [] σ
  unfold wp_S_spanEnd at h
  refine j_aload_n C d_S_spanEnd_0 0 rfl rfl ?_
  refine j_iload_n C d_S_spanEnd_1 1 rfl rfl ?_
  refine j_iconst C d_S_spanEnd_2 ?_
  refine j_callV C d_S_spanEnd_3 ml_S_57 mi_S_ofRoads (c_S_ofRoads (xl X) (gD G) (gad G) (gca G) (v1 := v1) (v2 := 4) hσ r1 (zR_of (x := 4) rfl) h) sh_0 rfl rfl rfl rfl rfl rfl rfl (fun z1 σ2 rz1 hσ2 h => ?_)
  obtain ⟨ez1, h⟩ := h; subst ez1
  refine j_istore_n (L' := [(3, .int (zI z1)), (0, .ref (gad G 0)), (1, .int (zI v1)), (2, .int (zI v2))]) C d_S_spanEnd_6 rfl rfl rfl ?_
  refine j_iconst C d_S_spanEnd_7 ?_
  refine j_istore (L' := [(4, .int (zI 0)), (3, .int (zI z1)), (0, .ref (gad G 0)), (1, .int (zI v1)), (2, .int (zI v2))]) C d_S_spanEnd_8 rfl rfl ?_
  obtain ⟨n10, h⟩ := h
  refine j_sub (L' := [(0, .ref (gad G 0)), (1, .int (zI v1)), (2, .int (zI v2)), (3, .int (zI z1)), (4, .int (zI 0))]) [2, 3, 4, 1, 0] rfl ?_
  refine w_S_spanEnd_L10 C hσ r1 r2 rz1 n10 0 (zR_of (x := 0) rfl) h
set_option maxRecDepth 100000 in
set_option maxHeartbeats 4000000 in
theorem w_S_closedAt_b42 {X : zX} {G : zG} (C : zC X G b_S_closedAt "GateRoads$State" 4 (some .boolean) 1 22) {σ : zM} {v1 : Int} {v2 : Int} (hσ : zRM σ) (r1 : zR v1) (r2 : zR v2) {Q : Int → Prop} {k2 : Int → Prop} (hk2 : ∀ (v3 : Int), zR v3 → k2 v3 → zJ X G (zQi X G (fun z u => σ = u ∧ Q z)) 4 2 [(0, .ref (gad G 0)), (1, .int (zI v1)), (2, .int (zI v2)), (3, .int (zI v3))] [] σ) (v3 : Int) (r3 : zR v3) (h : wp_S_closedAt_b42 σ v1 v2 k2 Q v3) : zJ X G (zQi X G (fun z u => σ = u ∧ Q z)) 4 42 [(0, .ref (gad G 0)), (1, .int (zI v1)), (2, .int (zI v2)), (3, .int (zI v3))] [] σ := by
  unfold wp_S_closedAt_b42 at h
  obtain ⟨g3, h⟩ := h
  refine j_iinc (L' := [(3, .int (zI (v3 + 1))), (0, .ref (gad G 0)), (1, .int (zI v1)), (2, .int (zI v2))]) C d_S_closedAt_42 3 rfl rfl rfl ?_
  refine j_goto (tgt := 2) C d_S_closedAt_45 rfl ?_
  refine j_sub (L' := [(0, .ref (gad G 0)), (1, .int (zI v1)), (2, .int (zI v2)), (3, .int (zI (v3 + 1)))]) [1, 2, 3, 0] rfl ?_
  exact hk2 (v3 + 1) g3 h
set_option maxRecDepth 100000 in
set_option maxHeartbeats 4000000 in
theorem w_S_closedAt_L2 {X : zX} {G : zG} (C : zC X G b_S_closedAt "GateRoads$State" 4 (some .boolean) 1 22) {σ : zM} {v1 : Int} {v2 : Int} (hσ : zRM σ) (r1 : zR v1) (r2 : zR v2) {Q : Int → Prop} : ∀ (n : Nat) (v3 : Int) (r3 : zR v3), wp_S_closedAt_L2 σ v1 v2 Q n v3 → zJ X G (zQi X G (fun z u => σ = u ∧ Q z)) 4 2 [(0, .ref (gad G 0)), (1, .int (zI v1)), (2, .int (zI v2)), (3, .int (zI v3))] [] σ := by
  intro n
  induction n with
  | zero => intro v3 r3 h; exact False.elim h
  | succ n ih =>
    intro v3 r3 h
    rw [wp_S_closedAt_L2] at h
    refine j_iload_n C d_S_closedAt_2 3 rfl rfl ?_
    refine j_aload_n C d_S_closedAt_3 0 rfl rfl ?_
    refine j_geti (kf := 6) (kI := 6) C d_S_closedAt_4 sh_0 rfl i_S rfl rfl rfl fl_S_37 ?_
    refine j_icmp_ge (tgt := 48) C d_S_closedAt_7 rfl r3 (hσ _ _) (fun c => ?_) (fun c => ?_)
    · have h := h.1 c
      refine j_iconst C d_S_closedAt_48 ?_
      exact j_zreturn C d_S_closedAt_49 (by decide) hσ ⟨rfl, h⟩
    · have h := h.2 c
      refine j_aload_n C d_S_closedAt_10 0 rfl rfl ?_
      refine j_iload_n C d_S_closedAt_11 3 rfl rfl ?_
      refine j_iconst C d_S_closedAt_12 ?_
      refine j_callV C d_S_closedAt_13 ml_S_70 mi_S_ofClosures (c_S_ofClosures (xl X) (gD G) (gad G) (gca G) (v1 := v3) (v2 := 0) hσ r3 (zR_of (x := 0) rfl) h) sh_0 rfl rfl rfl rfl rfl rfl rfl (fun z1 σ2 rz1 hσ2 h => ?_)
      obtain ⟨ez1, h⟩ := h; subst ez1
      refine j_iload_n C d_S_closedAt_16 1 rfl rfl ?_
      refine j_icmp_ne (tgt := 42) C d_S_closedAt_17 rfl rz1 r1 (fun c => ?_) (fun c => ?_)
      · have h := h.1 c
        refine w_S_closedAt_b42 C hσ r1 r2 ih v3 r3 h
      · have h := h.2 c
        refine j_iload_n C d_S_closedAt_20 2 rfl rfl ?_
        refine j_aload_n C d_S_closedAt_21 0 rfl rfl ?_
        refine j_iload_n C d_S_closedAt_22 3 rfl rfl ?_
        refine j_iconst C d_S_closedAt_23 ?_
        refine j_callV C d_S_closedAt_24 ml_S_70 mi_S_ofClosures (c_S_ofClosures (xl X) (gD G) (gad G) (gca G) (v1 := v3) (v2 := 1) hσ r3 (zR_of (x := 1) rfl) h) sh_0 rfl rfl rfl rfl rfl rfl rfl (fun z4 σ5 rz4 hσ5 h => ?_)
        obtain ⟨ez4, h⟩ := h; subst ez4
        refine j_icmp_lt (tgt := 42) C d_S_closedAt_27 rfl r2 rz4 (fun c => ?_) (fun c => ?_)
        · have h := h.1 c
          refine w_S_closedAt_b42 C hσ r1 r2 ih v3 r3 h
        · have h := h.2 c
          refine j_iload_n C d_S_closedAt_30 2 rfl rfl ?_
          refine j_aload_n C d_S_closedAt_31 0 rfl rfl ?_
          refine j_iload_n C d_S_closedAt_32 3 rfl rfl ?_
          refine j_iconst C d_S_closedAt_33 ?_
          refine j_callV C d_S_closedAt_34 ml_S_70 mi_S_ofClosures (c_S_ofClosures (xl X) (gD G) (gad G) (gca G) (v1 := v3) (v2 := 2) hσ r3 (zR_of (x := 2) rfl) h) sh_0 rfl rfl rfl rfl rfl rfl rfl (fun z6 σ7 rz6 hσ7 h => ?_)
          obtain ⟨ez6, h⟩ := h; subst ez6
          refine j_icmp_ge (tgt := 42) C d_S_closedAt_37 rfl r2 rz6 (fun c => ?_) (fun c => ?_)
          · have h := h.1 c
            refine w_S_closedAt_b42 C hσ r1 r2 ih v3 r3 h
          · have h := h.2 c
            refine j_iconst C d_S_closedAt_40 ?_
            exact j_zreturn C d_S_closedAt_41 (by decide) hσ ⟨rfl, h⟩
set_option maxRecDepth 100000 in
set_option maxHeartbeats 4000000 in
theorem c_S_closedAt (l : Launch) (D : va_G) (ad : Nat → Nat) (ca : Nat → ClassId) {σ : zM} {v1 : Int} {v2 : Int} {Q : Int → Prop} (hσ : zRM σ) (r1 : zR v1) (r2 : zR v2) (h : wp_S_closedAt σ v1 v2 Q) : zCi l D ad ca y_S_closedAt b_S_closedAt 4 (some .boolean) (zrm 1 22) [.ref (ad 0), .int (zI v1), .int (zI v2)] σ (fun z u => σ = u ∧ Q z) := by
  refine zCi_of (by decide +kernel) (Nat.le_of_ble_eq_true rfl) ?_
  intro X G C hl hD had hca
  subst hl hD had hca
  have C : zC X G b_S_closedAt "GateRoads$State" 4 (some .boolean) 1 22 := C
  show zJ X G (zQi X G (fun z u => σ = u ∧ Q z)) 4 0 [(0, .ref (gad G 0)), (1, .int (zI v1)), (2, .int (zI v2))] [] σ
  unfold wp_S_closedAt at h
  refine j_iconst C d_S_closedAt_0 ?_
  refine j_istore_n (L' := [(3, .int (zI 0)), (0, .ref (gad G 0)), (1, .int (zI v1)), (2, .int (zI v2))]) C d_S_closedAt_1 rfl rfl rfl ?_
  obtain ⟨n8, h⟩ := h
  refine j_sub (L' := [(0, .ref (gad G 0)), (1, .int (zI v1)), (2, .int (zI v2)), (3, .int (zI 0))]) [1, 2, 3, 0] rfl ?_
  refine w_S_closedAt_L2 C hσ r1 r2 n8 0 (zR_of (x := 0) rfl) h
set_option maxRecDepth 100000 in
set_option maxHeartbeats 4000000 in
theorem w_S_whyNoEntry_b51 {X : zX} {G : zG} (C : zC X G b_S_whyNoEntry "GateRoads$State" 6 (some .int) 2 46) {σ : zM} (hσ : zRM σ) {Q : Int → Prop} (v1 : Int) (v2 : Int) (v5 : Int) (r1 : zR v1) (r2 : zR v2) (r5 : zR v5) (h : wp_S_whyNoEntry_b51 σ Q v1 v2 v5) : zJ X G (zQi X G (fun z u => σ = u ∧ Q z)) 6 51 [(0, .ref (gad G 0)), (1, .int (zI v1)), (2, .int (zI v2)), (5, .int (zI v5))] [] σ := by
  unfold wp_S_whyNoEntry_b51 at h
  refine j_aload_n C d_S_whyNoEntry_51 0 rfl rfl ?_
  refine j_iload_n C d_S_whyNoEntry_52 1 rfl rfl ?_
  refine j_iload_n C d_S_whyNoEntry_53 2 rfl rfl ?_
  refine j_callV C d_S_whyNoEntry_54 ml_S_93 mi_S_closedAt (c_S_closedAt (xl X) (gD G) (gad G) (gca G) (v1 := v1) (v2 := v2) hσ r1 r2 h) sh_0 rfl rfl rfl rfl rfl rfl rfl (fun z8 σ9 rz8 hσ9 h => ?_)
  obtain ⟨ez8, h⟩ := h; subst ez8
  refine j_if_eq (tgt := 62) C d_S_whyNoEntry_57 rfl rz8 (fun c => ?_) (fun c => ?_)
  · have h := h.1 c
    refine j_iload_n C d_S_whyNoEntry_62 2 rfl rfl ?_
    refine j_iload C d_S_whyNoEntry_63 3 rfl ?_
    refine j_iadd C d_S_whyNoEntry_65 ?_
    refine j_sipush C d_S_whyNoEntry_66 rfl ?_
    obtain ⟨g10, h⟩ := h
    refine j_icmp_le (tgt := 76) C d_S_whyNoEntry_69 rfl g10 (zR_of (x := 2880) rfl) (fun c => ?_) (fun c => ?_)
    · have h := h.1 c
      refine j_iconst C d_S_whyNoEntry_76 ?_
      exact j_ireturn C d_S_whyNoEntry_77 (zR_of (x := 0) rfl) hσ ⟨rfl, h⟩
    · have h := h.2 c
      refine j_iconst C d_S_whyNoEntry_72 ?_
      refine j_goto (tgt := 77) C d_S_whyNoEntry_73 rfl ?_
      exact j_ireturn C d_S_whyNoEntry_77 (zR_of (x := 5) rfl) hσ ⟨rfl, h⟩
  · have h := h.2 c
    refine j_iconst C d_S_whyNoEntry_60 ?_
    exact j_ireturn C d_S_whyNoEntry_61 (zR_of (x := 4) rfl) hσ ⟨rfl, h⟩
set_option maxRecDepth 100000 in
set_option maxHeartbeats 4000000 in
theorem c_S_whyNoEntry (l : Launch) (D : va_G) (ad : Nat → Nat) (ca : Nat → ClassId) {σ : zM} {v1 : Int} {v2 : Int} {Q : Int → Prop} (hσ : zRM σ) (r1 : zR v1) (r2 : zR v2) (h : wp_S_whyNoEntry σ v1 v2 Q) : zCi l D ad ca y_S_whyNoEntry b_S_whyNoEntry 6 (some .int) (zrm 2 46) [.ref (ad 0), .int (zI v1), .int (zI v2)] σ (fun z u => σ = u ∧ Q z) := by
  refine zCi_of (by decide +kernel) (Nat.le_of_ble_eq_true rfl) ?_
  intro X G C hl hD had hca
  subst hl hD had hca
  have C : zC X G b_S_whyNoEntry "GateRoads$State" 6 (some .int) 2 46 := C
  show zJ X G (zQi X G (fun z u => σ = u ∧ Q z)) 6 0 [(0, .ref (gad G 0)), (1, .int (zI v1)), (2, .int (zI v2))] [] σ
  unfold wp_S_whyNoEntry at h
  refine j_iload_n C d_S_whyNoEntry_0 2 rfl rfl ?_
  refine j_sipush C d_S_whyNoEntry_1 rfl ?_
  obtain ⟨g1, h⟩ := h
  refine j_irem C d_S_whyNoEntry_4 r2 g1 (zR_of (x := 1440) rfl) (by decide) ?_
  refine j_istore_n (L' := [(3, .int (zI (v2 % 1440))), (0, .ref (gad G 0)), (1, .int (zI v1)), (2, .int (zI v2))]) C d_S_whyNoEntry_5 rfl rfl rfl ?_
  refine j_aload_n C d_S_whyNoEntry_6 1 rfl rfl ?_
  refine j_iload_n C d_S_whyNoEntry_7 2 rfl rfl ?_
  refine j_iload_n C d_S_whyNoEntry_8 0 rfl rfl ?_
  refine j_callV C d_S_whyNoEntry_9 ml_S_90 mi_S_spanEnd (c_S_spanEnd (xl X) (gD G) (gad G) (gca G) (v1 := v1) (v2 := v2 % 1440) hσ r1 (zMod_rg r2 g1 (zR_of (x := 1440) rfl) (by decide)) h) sh_0 rfl rfl rfl rfl rfl rfl rfl (fun z2 σ3 rz2 hσ3 h => ?_)
  obtain ⟨ez2, h⟩ := h; subst ez2
  refine j_istore (L' := [(4, .int (zI z2)), (3, .int (zI (v2 % 1440))), (0, .ref (gad G 0)), (1, .int (zI v1)), (2, .int (zI v2))]) C d_S_whyNoEntry_12 rfl rfl ?_
  refine j_iload C d_S_whyNoEntry_14 0 rfl ?_
  refine j_bipush C d_S_whyNoEntry_16 rfl ?_
  refine j_icmp_ne (tgt := 23) C d_S_whyNoEntry_18 rfl rz2 (zR_of (x := (-6)) rfl) (fun c => ?_) (fun c => ?_)
  · have h := h.1 c
    refine j_aload_n C d_S_whyNoEntry_23 2 rfl rfl ?_
    refine j_iload_n C d_S_whyNoEntry_24 3 rfl rfl ?_
    refine j_iconst C d_S_whyNoEntry_25 ?_
    refine j_callV C d_S_whyNoEntry_26 ml_S_57 mi_S_ofRoads (c_S_ofRoads (xl X) (gD G) (gad G) (gca G) (v1 := v1) (v2 := 2) hσ r1 (zR_of (x := 2) rfl) h) sh_0 rfl rfl rfl rfl rfl rfl rfl (fun z4 σ5 rz4 hσ5 h => ?_)
    obtain ⟨ez4, h⟩ := h; subst ez4
    refine j_istore (L' := [(5, .int (zI z4)), (4, .int (zI z2)), (3, .int (zI (v2 % 1440))), (0, .ref (gad G 0)), (1, .int (zI v1)), (2, .int (zI v2))]) C d_S_whyNoEntry_29 rfl rfl ?_
    refine j_aload_n C d_S_whyNoEntry_31 3 rfl rfl ?_
    refine j_iload_n C d_S_whyNoEntry_32 4 rfl rfl ?_
    refine j_iconst C d_S_whyNoEntry_33 ?_
    refine j_callV C d_S_whyNoEntry_34 ml_S_57 mi_S_ofRoads (c_S_ofRoads (xl X) (gD G) (gad G) (gca G) (v1 := v1) (v2 := 3) hσ r1 (zR_of (x := 3) rfl) h) sh_0 rfl rfl rfl rfl rfl rfl rfl (fun z6 σ7 rz6 hσ7 h => ?_)
    obtain ⟨ez6, h⟩ := h; subst ez6
    refine j_if_eq (tgt := 51) C d_S_whyNoEntry_37 rfl rz6 (fun c => ?_) (fun c => ?_)
    · have h := h.1 c
      refine j_sub (L' := [(0, .ref (gad G 0)), (1, .int (zI v1)), (2, .int (zI v2)), (5, .int (zI z4))]) [3, 4, 5, 0] rfl ?_
      refine w_S_whyNoEntry_b51 C hσ v1 v2 z4 r1 r2 rz4 h
    · have h := h.2 c
      refine j_iload_n C d_S_whyNoEntry_40 2 rfl rfl ?_
      refine j_iload C d_S_whyNoEntry_41 0 rfl ?_
      refine j_iadd C d_S_whyNoEntry_43 ?_
      refine j_iload C d_S_whyNoEntry_44 1 rfl ?_
      obtain ⟨g11, h⟩ := h
      refine j_icmp_le (tgt := 51) C d_S_whyNoEntry_46 rfl g11 rz2 (fun c => ?_) (fun c => ?_)
      · have h := h.1 c
        refine j_sub (L' := [(0, .ref (gad G 0)), (1, .int (zI v1)), (2, .int (zI v2)), (5, .int (zI z4))]) [3, 4, 5, 0] rfl ?_
        refine w_S_whyNoEntry_b51 C hσ v1 v2 z4 r1 r2 rz4 h
      · have h := h.2 c
        refine j_iconst C d_S_whyNoEntry_49 ?_
        exact j_ireturn C d_S_whyNoEntry_50 (zR_of (x := 3) rfl) hσ ⟨rfl, h⟩
  · have h := h.2 c
    refine j_iconst C d_S_whyNoEntry_21 ?_
    exact j_ireturn C d_S_whyNoEntry_22 (zR_of (x := 2) rfl) hσ ⟨rfl, h⟩
set_option maxRecDepth 100000 in
set_option maxHeartbeats 4000000 in
theorem c_S_whyNoGoing (l : Launch) (D : va_G) (ad : Nat → Nat) (ca : Nat → ClassId) {σ : zM} {v1 : Int} {v2 : Int} {Q : Int → Prop} (hσ : zRM σ) (r1 : zR v1) (r2 : zR v2) (h : wp_S_whyNoGoing σ v1 v2 Q) : zCi l D ad ca y_S_whyNoGoing b_S_whyNoGoing 3 (some .int) (zrm 3 71) [.ref (ad 0), .int (zI v1), .int (zI v2)] σ (fun z u => σ = u ∧ Q z) := by
  refine zCi_of (by decide +kernel) (Nat.le_of_ble_eq_true rfl) ?_
  intro X G C hl hD had hca
  subst hl hD had hca
  have C : zC X G b_S_whyNoGoing "GateRoads$State" 3 (some .int) 3 71 := C
  show zJ X G (zQi X G (fun z u => σ = u ∧ Q z)) 3 0 [(0, .ref (gad G 0)), (1, .int (zI v1)), (2, .int (zI v2))] [] σ
  unfold wp_S_whyNoGoing at h
  refine j_aload_n C d_S_whyNoGoing_0 0 rfl rfl ?_
  refine j_iload_n C d_S_whyNoGoing_1 2 rfl rfl ?_
  refine j_iconst C d_S_whyNoGoing_2 ?_
  refine j_callV C d_S_whyNoGoing_3 ml_S_57 mi_S_ofRoads (c_S_ofRoads (xl X) (gD G) (gad G) (gca G) (v1 := v2) (v2 := 0) hσ r2 (zR_of (x := 0) rfl) h) sh_0 rfl rfl rfl rfl rfl rfl rfl (fun z1 σ2 rz1 hσ2 h => ?_)
  obtain ⟨ez1, h⟩ := h; subst ez1
  refine j_aload_n C d_S_whyNoGoing_6 0 rfl rfl ?_
  refine j_iload_n C d_S_whyNoGoing_7 1 rfl rfl ?_
  refine j_iconst C d_S_whyNoGoing_8 ?_
  refine j_callV C d_S_whyNoGoing_9 ml_S_67 mi_S_ofTravellers (c_S_ofTravellers (xl X) (gD G) (gad G) (gca G) (v1 := v1) (v2 := 0) hσ r1 (zR_of (x := 0) rfl) h) sh_0 rfl rfl rfl rfl rfl rfl rfl (fun z3 σ4 rz3 hσ4 h => ?_)
  obtain ⟨ez3, h⟩ := h; subst ez3
  refine j_icmp_eq (tgt := 17) C d_S_whyNoGoing_12 rfl rz1 rz3 (fun c => ?_) (fun c => ?_)
  · have h := h.1 c
    refine j_aload_n C d_S_whyNoGoing_17 0 rfl rfl ?_
    refine j_iload_n C d_S_whyNoGoing_18 2 rfl rfl ?_
    refine j_aload_n C d_S_whyNoGoing_19 0 rfl rfl ?_
    refine j_iload_n C d_S_whyNoGoing_20 1 rfl rfl ?_
    refine j_iconst C d_S_whyNoGoing_21 ?_
    refine j_callV C d_S_whyNoGoing_22 ml_S_67 mi_S_ofTravellers (c_S_ofTravellers (xl X) (gD G) (gad G) (gca G) (v1 := v1) (v2 := 1) hσ r1 (zR_of (x := 1) rfl) h) sh_0 rfl rfl rfl rfl rfl rfl rfl (fun z5 σ6 rz5 hσ6 h => ?_)
    obtain ⟨ez5, h⟩ := h; subst ez5
    refine j_callV C d_S_whyNoGoing_25 ml_S_87 mi_S_whyNoEntry (c_S_whyNoEntry (xl X) (gD G) (gad G) (gca G) (v1 := v2) (v2 := z5) hσ r2 rz5 h) sh_0 rfl rfl rfl rfl rfl rfl rfl (fun z7 σ8 rz7 hσ8 h => ?_)
    obtain ⟨ez7, h⟩ := h; subst ez7
    exact j_ireturn C d_S_whyNoGoing_28 rz7 hσ ⟨rfl, h⟩
  · have h := h.2 c
    refine j_iconst C d_S_whyNoGoing_15 ?_
    exact j_ireturn C d_S_whyNoGoing_16 (zR_of (x := 1) rfl) hσ ⟨rfl, h⟩
set_option maxRecDepth 100000 in
set_option maxHeartbeats 4000000 in
theorem c_X_refuse (l : Launch) (D : va_G) (ad : Nat → Nat) (ca : Nat → ClassId) {σ : zM} {v1 : Int} {Q : Int → zM → Prop} (hσ : zRM σ) (r1 : zR v1) (h : wp_X_refuse σ v1 Q) : zCi l D ad ca y_X_refuse b_X_refuse 2 (some .int) (zrm 0 0) [.ref (ad 54), .int (zI v1)] σ Q := by
  refine zCi_of (by decide +kernel) (Nat.le_of_ble_eq_true rfl) ?_
  intro X G C hl hD had hca
  subst hl hD had hca
  have C : zC X G b_X_refuse "GateRoads" 2 (some .int) 0 0 := C
  show zJ X G (zQi X G Q) 2 0 [(0, .ref (gad G 54)), (1, .int (zI v1))] [] σ
  unfold wp_X_refuse at h
  refine j_aload_n C d_X_refuse_0 0 rfl rfl ?_
  refine j_iload_n C d_X_refuse_1 1 rfl rfl ?_
  refine j_puti (kf := 5) (kI := 5) C t_X d_X_refuse_2 sh_54 rfl i_X t_X_ok n_X rfl rfl rfl fl_X_168 rfl (Or.inl rfl) ?_
  refine j_mem (fun σ1 eσ1 => ?_)
  have h := h σ1 eσ1
  have hσ1 : zRM σ1 := by rw [eσ1]; exact zU_rg hσ _ _ r1
  refine j_bipush C d_X_refuse_5 rfl ?_
  exact j_ireturn C d_X_refuse_7 (zR_of (x := (-5)) rfl) hσ1 h
set_option maxRecDepth 100000 in
set_option maxHeartbeats 4000000 in
theorem c_S_enter (l : Launch) (D : va_G) (ad : Nat → Nat) (ca : Nat → ClassId) {σ : zM} {v1 : Int} {v2 : Int} {Q : Int → zM → Prop} (hσ : zRM σ) (r1 : zR v1) (r2 : zR v2) (h : wp_S_enter σ v1 v2 Q) : zCi l D ad ca y_S_enter b_S_enter 6 (some .int) (zrm 1 22) [.ref (ad 0), .int (zI v1), .int (zI v2)] σ Q := by
  refine zCi_of (by decide +kernel) (Nat.le_of_ble_eq_true rfl) ?_
  intro X G C hl hD had hca
  subst hl hD had hca
  have C : zC X G b_S_enter "GateRoads$State" 6 (some .int) 1 22 := C
  show zJ X G (zQi X G Q) 6 0 [(0, .ref (gad G 0)), (1, .int (zI v1)), (2, .int (zI v2))] [] σ
  unfold wp_S_enter at h
  refine j_iload_n C d_S_enter_0 1 rfl rfl ?_
  refine j_bipush C d_S_enter_1 rfl ?_
  refine j_imul C d_S_enter_3 ?_
  obtain ⟨g1, h⟩ := h
  refine j_istore_n (L' := [(3, .int (zI (v1 * 8))), (0, .ref (gad G 0)), (1, .int (zI v1)), (2, .int (zI v2))]) C d_S_enter_4 rfl rfl rfl ?_
  refine j_aload_n C d_S_enter_5 1 rfl rfl ?_
  refine j_iload_n C d_S_enter_6 3 rfl rfl ?_
  refine j_iconst C d_S_enter_7 ?_
  refine j_callV C d_S_enter_8 ml_S_57 mi_S_ofRoads (c_S_ofRoads (xl X) (gD G) (gad G) (gca G) (v1 := v2) (v2 := 2) hσ r2 (zR_of (x := 2) rfl) h) sh_0 rfl rfl rfl rfl rfl rfl rfl (fun z2 σ3 rz2 hσ3 h => ?_)
  obtain ⟨ez2, h⟩ := h; subst ez2
  refine j_istore (L' := [(4, .int (zI z2)), (3, .int (zI (v1 * 8))), (0, .ref (gad G 0)), (1, .int (zI v1)), (2, .int (zI v2))]) C d_S_enter_11 rfl rfl ?_
  refine j_aload_n C d_S_enter_13 2 rfl rfl ?_
  refine j_getr (kf := 4) (m := 5) C d_S_enter_14 sh_0 rfl i_S rfl rfl fl_S_24 ?_
  refine j_iload_n C d_S_enter_17 1 rfl rfl ?_
  refine j_iconst C d_S_enter_18 ?_
  refine j_iadd C d_S_enter_19 ?_
  obtain ⟨g4, h⟩ := h
  refine j_iaload C d_S_enter_20 sh_5 g4 ?_
  refine j_iload C d_S_enter_21 0 rfl ?_
  refine j_iadd C d_S_enter_23 ?_
  obtain ⟨g5, h⟩ := h
  refine j_istore (L' := [(5, .int (zI ((σ 5 ((v1 * 8) + 1)) + z2))), (4, .int (zI z2)), (3, .int (zI (v1 * 8))), (0, .ref (gad G 0)), (1, .int (zI v1)), (2, .int (zI v2))]) C d_S_enter_24 rfl rfl ?_
  refine j_aload_n C d_S_enter_26 3 rfl rfl ?_
  refine j_getr (kf := 4) (m := 5) C d_S_enter_27 sh_0 rfl i_S rfl rfl fl_S_24 ?_
  refine j_iload_n C d_S_enter_30 2 rfl rfl ?_
  refine j_iconst C d_S_enter_31 ?_
  refine j_iadd C d_S_enter_32 ?_
  refine j_aload_n C d_S_enter_33 3 rfl rfl ?_
  refine j_iload_n C d_S_enter_34 5 rfl rfl ?_
  refine j_iconst C d_S_enter_35 ?_
  refine j_callV C d_S_enter_36 ml_S_57 mi_S_ofRoads (c_S_ofRoads (xl X) (gD G) (gad G) (gca G) (v1 := v2) (v2 := 1) hσ r2 (zR_of (x := 1) rfl) h) sh_0 rfl rfl rfl rfl rfl rfl rfl (fun z6 σ7 rz6 hσ7 h => ?_)
  obtain ⟨ez6, h⟩ := h; subst ez6
  obtain ⟨g8, h⟩ := h
  refine j_iastore C d_S_enter_39 sh_5 g8 ?_
  refine j_mem (fun σ9 eσ9 => ?_)
  have h := h σ9 eσ9
  have hσ9 : zRM σ9 := by rw [eσ9]; exact zU_rg hσ _ _ rz6
  refine j_aload_n C d_S_enter_40 3 rfl rfl ?_
  refine j_getr (kf := 4) (m := 5) C d_S_enter_41 sh_0 rfl i_S rfl rfl fl_S_24 ?_
  refine j_iload_n C d_S_enter_44 2 rfl rfl ?_
  refine j_iconst C d_S_enter_45 ?_
  refine j_iadd C d_S_enter_46 ?_
  refine j_iload C d_S_enter_47 0 rfl ?_
  obtain ⟨g10, h⟩ := h
  refine j_iastore C d_S_enter_49 sh_5 g10 ?_
  refine j_mem (fun σ11 eσ11 => ?_)
  have h := h σ11 eσ11
  have hσ11 : zRM σ11 := by rw [eσ11]; exact zU_rg hσ9 _ _ g5
  refine j_aload_n C d_S_enter_50 3 rfl rfl ?_
  refine j_getr (kf := 4) (m := 5) C d_S_enter_51 sh_0 rfl i_S rfl rfl fl_S_24 ?_
  refine j_iload_n C d_S_enter_54 2 rfl rfl ?_
  refine j_iconst C d_S_enter_55 ?_
  refine j_iadd C d_S_enter_56 ?_
  refine j_iload C d_S_enter_57 0 rfl ?_
  obtain ⟨g12, h⟩ := h
  refine j_iastore C d_S_enter_59 sh_5 g12 ?_
  refine j_mem (fun σ13 eσ13 => ?_)
  have h := h σ13 eσ13
  have hσ13 : zRM σ13 := by rw [eσ13]; exact zU_rg hσ11 _ _ g5
  refine j_aload_n C d_S_enter_60 3 rfl rfl ?_
  refine j_getr (kf := 4) (m := 5) C d_S_enter_61 sh_0 rfl i_S rfl rfl fl_S_24 ?_
  refine j_iload_n C d_S_enter_64 2 rfl rfl ?_
  refine j_iconst C d_S_enter_65 ?_
  refine j_iadd C d_S_enter_66 ?_
  refine j_dup2 C d_S_enter_67 rfl rfl ?_
  obtain ⟨g14, h⟩ := h
  refine j_iaload C d_S_enter_68 sh_5 g14 ?_
  refine j_iconst C d_S_enter_69 ?_
  refine j_iadd C d_S_enter_70 ?_
  obtain ⟨g15, h⟩ := h
  obtain ⟨g16, h⟩ := h
  refine j_iastore C d_S_enter_71 sh_5 g15 ?_
  refine j_mem (fun σ17 eσ17 => ?_)
  have h := h σ17 eσ17
  have hσ17 : zRM σ17 := by rw [eσ17]; exact zU_rg hσ13 _ _ g16
  refine j_aload_n C d_S_enter_72 3 rfl rfl ?_
  refine j_getr (kf := 4) (m := 5) C d_S_enter_73 sh_0 rfl i_S rfl rfl fl_S_24 ?_
  refine j_iload_n C d_S_enter_76 2 rfl rfl ?_
  refine j_iconst C d_S_enter_77 ?_
  refine j_iadd C d_S_enter_78 ?_
  refine j_dup2 C d_S_enter_79 rfl rfl ?_
  obtain ⟨g18, h⟩ := h
  refine j_iaload C d_S_enter_80 sh_5 g18 ?_
  refine j_iload C d_S_enter_81 1 rfl ?_
  refine j_iadd C d_S_enter_83 ?_
  obtain ⟨g19, h⟩ := h
  obtain ⟨g20, h⟩ := h
  refine j_iastore C d_S_enter_84 sh_5 g19 ?_
  refine j_mem (fun σ21 eσ21 => ?_)
  have h := h σ21 eσ21
  have hσ21 : zRM σ21 := by rw [eσ21]; exact zU_rg hσ17 _ _ g20
  refine j_aload_n C d_S_enter_85 3 rfl rfl ?_
  refine j_getr (kf := 2) (m := 3) C d_S_enter_86 sh_0 rfl i_S rfl rfl fl_S_18 ?_
  refine j_iload_n C d_S_enter_89 5 rfl rfl ?_
  refine j_dup2 C d_S_enter_90 rfl rfl ?_
  obtain ⟨g22, h⟩ := h
  refine j_iaload C d_S_enter_91 sh_3 g22 ?_
  refine j_iconst C d_S_enter_92 ?_
  refine j_iadd C d_S_enter_93 ?_
  obtain ⟨g23, h⟩ := h
  obtain ⟨g24, h⟩ := h
  refine j_iastore C d_S_enter_94 sh_3 g23 ?_
  refine j_mem (fun σ25 eσ25 => ?_)
  have h := h σ25 eσ25
  have hσ25 : zRM σ25 := by rw [eσ25]; exact zU_rg hσ21 _ _ g24
  refine j_iload C d_S_enter_95 0 rfl ?_
  exact j_ireturn C d_S_enter_97 g5 hσ25 h
end
section
set_option maxRecDepth 100000 in
set_option maxHeartbeats 4000000 in
theorem c_X_go (l : Launch) (D : va_G) (ad : Nat → Nat) (ca : Nat → ClassId) {σ : zM} {v1 : Int} {v2 : Int} {Q : Int → zM → Prop} (hσ : zRM σ) (r1 : zR v1) (r2 : zR v2) (h : wp_X_go σ v1 v2 Q) : zCi l D ad ca y_X_go b_X_go 4 (some .int) (zrm 4 93) [.ref (ad 54), .int (zI v1), .int (zI v2)] σ Q := by
  refine zCi_of (by decide +kernel) (Nat.le_of_ble_eq_true rfl) ?_
  intro X G C hl hD had hca
  subst hl hD had hca
  have C : zC X G b_X_go "GateRoads" 4 (some .int) 4 93 := C
  show zJ X G (zQi X G Q) 4 0 [(0, .ref (gad G 54)), (1, .int (zI v1)), (2, .int (zI v2))] [] σ
  unfold wp_X_go at h
  refine j_aload_n C d_X_go_0 0 rfl rfl ?_
  refine j_getr (kf := 0) (m := 0) C d_X_go_1 sh_54 rfl i_X rfl rfl fl_X_12 ?_
  refine j_iload_n C d_X_go_4 1 rfl rfl ?_
  refine j_callV C d_X_go_5 ml_X_128 mi_S_hasTraveller (c_S_hasTraveller (xl X) (gD G) (gad G) (gca G) (v1 := v1) hσ r1 h) sh_0 rfl rfl rfl rfl rfl rfl rfl (fun z1 σ2 rz1 hσ2 h => ?_)
  obtain ⟨ez1, h⟩ := h; subst ez1
  refine j_if_eq (tgt := 22) C d_X_go_8 rfl rz1 (fun c => ?_) (fun c => ?_)
  · have h := h.1 c
    refine j_iconst C d_X_go_22 ?_
    exact j_ireturn C d_X_go_23 (zR_of (x := (-1)) rfl) hσ h
  · have h := h.2 c
    refine j_aload_n C d_X_go_11 0 rfl rfl ?_
    refine j_getr (kf := 0) (m := 0) C d_X_go_12 sh_54 rfl i_X rfl rfl fl_X_12 ?_
    refine j_iload_n C d_X_go_15 2 rfl rfl ?_
    refine j_callV C d_X_go_16 ml_X_88 mi_S_hasRoad (c_S_hasRoad (xl X) (gD G) (gad G) (gca G) (v1 := v2) hσ r2 h) sh_0 rfl rfl rfl rfl rfl rfl rfl (fun z3 σ4 rz3 hσ4 h => ?_)
    obtain ⟨ez3, h⟩ := h; subst ez3
    refine j_if_ne (tgt := 24) C d_X_go_19 rfl rz3 (fun c => ?_) (fun c => ?_)
    · have h := h.1 c
      refine j_aload_n C d_X_go_24 0 rfl rfl ?_
      refine j_getr (kf := 0) (m := 0) C d_X_go_25 sh_54 rfl i_X rfl rfl fl_X_12 ?_
      refine j_iload_n C d_X_go_28 1 rfl rfl ?_
      refine j_iload_n C d_X_go_29 2 rfl rfl ?_
      refine j_callV C d_X_go_30 ml_X_131 mi_S_whyNoGoing (c_S_whyNoGoing (xl X) (gD G) (gad G) (gca G) (v1 := v1) (v2 := v2) hσ r1 r2 h) sh_0 rfl rfl rfl rfl rfl rfl rfl (fun z5 σ6 rz5 hσ6 h => ?_)
      obtain ⟨ez5, h⟩ := h; subst ez5
      refine j_istore_n (L' := [(3, .int (zI z5)), (0, .ref (gad G 54)), (1, .int (zI v1)), (2, .int (zI v2))]) C d_X_go_33 rfl rfl rfl ?_
      refine j_iload_n C d_X_go_34 0 rfl rfl ?_
      refine j_if_eq (tgt := 44) C d_X_go_35 rfl rz5 (fun c => ?_) (fun c => ?_)
      · have h := h.1 c
        refine j_aload_n C d_X_go_44 1 rfl rfl ?_
        refine j_callVv C d_X_go_45 ml_X_73 mi_X_remember (c_X_remember (xl X) (gD G) (gad G) (gca G)  hσ h) sh_54 rfl rfl rfl rfl rfl rfl rfl (fun σ8 hσ8 h => ?_)
        refine j_aload_n C d_X_go_48 1 rfl rfl ?_
        refine j_getr (kf := 0) (m := 0) C d_X_go_49 sh_54 rfl i_X rfl rfl fl_X_12 ?_
        refine j_iload_n C d_X_go_52 2 rfl rfl ?_
        refine j_iload_n C d_X_go_53 3 rfl rfl ?_
        refine j_callV C d_X_go_54 ml_X_138 mi_S_enter (c_S_enter (xl X) (gD G) (gad G) (gca G) (v1 := v1) (v2 := v2) hσ8 r1 r2 h) sh_0 rfl rfl rfl rfl rfl rfl rfl (fun z9 σ10 rz9 hσ10 h => ?_)
        exact j_ireturn C d_X_go_57 rz9 hσ10 h
      · have h := h.2 c
        refine j_aload_n C d_X_go_38 1 rfl rfl ?_
        refine j_iload_n C d_X_go_39 0 rfl rfl ?_
        refine j_callV C d_X_go_40 ml_X_134 mi_X_refuse (c_X_refuse (xl X) (gD G) (gad G) (gca G) (v1 := z5) hσ rz5 h) sh_54 rfl rfl rfl rfl rfl rfl rfl (fun z11 σ12 rz11 hσ12 h => ?_)
        exact j_ireturn C d_X_go_43 rz11 hσ12 h
    · have h := h.2 c
      refine j_iconst C d_X_go_22 ?_
      exact j_ireturn C d_X_go_23 (zR_of (x := (-1)) rfl) hσ h
set_option maxRecDepth 100000 in
set_option maxHeartbeats 4000000 in
theorem w_S_openUntil_b31 {X : zX} {G : zG} (C : zC X G b_S_openUntil "GateRoads$State" 6 (some .int) 1 22) {σ : zM} (hσ : zRM σ) {Q : Int → Prop} (v2 : Int) (v3 : Int) (v4 : Int) (r2 : zR v2) (r3 : zR v3) (r4 : zR v4) (h : wp_S_openUntil_b31 σ Q v2 v3 v4) : zJ X G (zQi X G (fun z u => σ = u ∧ Q z)) 6 31 [(2, .int (zI v2)), (3, .int (zI v3)), (4, .int (zI v4))] [] σ := by
  unfold wp_S_openUntil_b31 at h
  refine j_iload_n C d_S_openUntil_31 0 rfl rfl ?_
  refine j_sipush C d_S_openUntil_32 rfl ?_
  obtain ⟨g5, h⟩ := h
  refine j_irem C d_S_openUntil_35 r2 g5 (zR_of (x := 1440) rfl) (by decide) ?_
  refine j_istore (L' := [(5, .int (zI (v2 % 1440))), (2, .int (zI v2)), (3, .int (zI v3)), (4, .int (zI v4))]) C d_S_openUntil_36 rfl rfl ?_
  refine j_iload C d_S_openUntil_38 0 rfl ?_
  refine j_iload_n C d_S_openUntil_40 2 rfl rfl ?_
  refine j_icmp_lt (tgt := 61) C d_S_openUntil_41 rfl (zMod_rg r2 g5 (zR_of (x := 1440) rfl) (by decide)) r3 (fun c => ?_) (fun c => ?_)
  · have h := h.1 c
    refine j_iload_n C d_S_openUntil_61 1 rfl rfl ?_
    exact j_ireturn C d_S_openUntil_62 r2 hσ ⟨rfl, h⟩
  · have h := h.2 c
    refine j_iload C d_S_openUntil_44 0 rfl ?_
    refine j_iload C d_S_openUntil_46 3 rfl ?_
    refine j_icmp_ge (tgt := 61) C d_S_openUntil_48 rfl (zMod_rg r2 g5 (zR_of (x := 1440) rfl) (by decide)) r4 (fun c => ?_) (fun c => ?_)
    · have h := h.1 c
      refine j_iload_n C d_S_openUntil_61 1 rfl rfl ?_
      exact j_ireturn C d_S_openUntil_62 r2 hσ ⟨rfl, h⟩
    · have h := h.2 c
      refine j_iload_n C d_S_openUntil_51 1 rfl rfl ?_
      refine j_iload C d_S_openUntil_52 0 rfl ?_
      refine j_isub C d_S_openUntil_54 ?_
      refine j_iload C d_S_openUntil_55 3 rfl ?_
      refine j_iadd C d_S_openUntil_57 ?_
      refine j_goto (tgt := 62) C d_S_openUntil_58 rfl ?_
      obtain ⟨g6, h⟩ := h
      exact j_ireturn C d_S_openUntil_62 g6 hσ ⟨rfl, h⟩
set_option maxRecDepth 100000 in
set_option maxHeartbeats 4000000 in
theorem c_S_openUntil (l : Launch) (D : va_G) (ad : Nat → Nat) (ca : Nat → ClassId) {σ : zM} {v1 : Int} {v2 : Int} {Q : Int → Prop} (hσ : zRM σ) (r1 : zR v1) (r2 : zR v2) (h : wp_S_openUntil σ v1 v2 Q) : zCi l D ad ca y_S_openUntil b_S_openUntil 6 (some .int) (zrm 1 22) [.ref (ad 0), .int (zI v1), .int (zI v2)] σ (fun z u => σ = u ∧ Q z) := by
  refine zCi_of (by decide +kernel) (Nat.le_of_ble_eq_true rfl) ?_
  intro X G C hl hD had hca
  subst hl hD had hca
  have C : zC X G b_S_openUntil "GateRoads$State" 6 (some .int) 1 22 := C
  show zJ X G (zQi X G (fun z u => σ = u ∧ Q z)) 6 0 [(0, .ref (gad G 0)), (1, .int (zI v1)), (2, .int (zI v2))] [] σ
  unfold wp_S_openUntil at h
  refine j_aload_n C d_S_openUntil_0 0 rfl rfl ?_
  refine j_iload_n C d_S_openUntil_1 1 rfl rfl ?_
  refine j_iconst C d_S_openUntil_2 ?_
  refine j_callV C d_S_openUntil_3 ml_S_73 mi_S_ofRooms (c_S_ofRooms (xl X) (gD G) (gad G) (gca G) (v1 := v1) (v2 := 0) hσ r1 (zR_of (x := 0) rfl) h) sh_0 rfl rfl rfl rfl rfl rfl rfl (fun z1 σ2 rz1 hσ2 h => ?_)
  obtain ⟨ez1, h⟩ := h; subst ez1
  refine j_istore_n (L' := [(3, .int (zI z1)), (0, .ref (gad G 0)), (1, .int (zI v1)), (2, .int (zI v2))]) C d_S_openUntil_6 rfl rfl rfl ?_
  refine j_aload_n C d_S_openUntil_7 1 rfl rfl ?_
  refine j_iload_n C d_S_openUntil_8 2 rfl rfl ?_
  refine j_iconst C d_S_openUntil_9 ?_
  refine j_callV C d_S_openUntil_10 ml_S_73 mi_S_ofRooms (c_S_ofRooms (xl X) (gD G) (gad G) (gca G) (v1 := v1) (v2 := 1) hσ r1 (zR_of (x := 1) rfl) h) sh_0 rfl rfl rfl rfl rfl rfl rfl (fun z3 σ4 rz3 hσ4 h => ?_)
  obtain ⟨ez3, h⟩ := h; subst ez3
  refine j_istore (L' := [(4, .int (zI z3)), (3, .int (zI z1)), (0, .ref (gad G 0)), (1, .int (zI v1)), (2, .int (zI v2))]) C d_S_openUntil_13 rfl rfl ?_
  refine j_iload_n C d_S_openUntil_15 1 rfl rfl ?_
  refine j_if_ne (tgt := 31) C d_S_openUntil_16 rfl rz1 (fun c => ?_) (fun c => ?_)
  · have h := h.1 c
    refine j_sub (L' := [(2, .int (zI v2)), (3, .int (zI z1)), (4, .int (zI z3))]) [4, 1, 0] rfl ?_
    refine w_S_openUntil_b31 C hσ v2 z1 z3 r2 rz1 rz3 h
  · have h := h.2 c
    refine j_iload C d_S_openUntil_19 0 rfl ?_
    refine j_sipush C d_S_openUntil_21 rfl ?_
    refine j_icmp_ne (tgt := 31) C d_S_openUntil_24 rfl rz3 (zR_of (x := 1440) rfl) (fun c => ?_) (fun c => ?_)
    · have h := h.1 c
      refine j_sub (L' := [(2, .int (zI v2)), (3, .int (zI z1)), (4, .int (zI z3))]) [4, 1, 0] rfl ?_
      refine w_S_openUntil_b31 C hσ v2 z1 z3 r2 rz1 rz3 h
    · have h := h.2 c
      refine j_sipush C d_S_openUntil_27 rfl ?_
      exact j_ireturn C d_S_openUntil_30 (zR_of (x := 2880) rfl) hσ ⟨rfl, h⟩
set_option maxRecDepth 100000 in
set_option maxHeartbeats 4000000 in
theorem c_S_whyNoStaying (l : Launch) (D : va_G) (ad : Nat → Nat) (ca : Nat → ClassId) {σ : zM} {v1 : Int} {v2 : Int} {Q : Int → Prop} (hσ : zRM σ) (r1 : zR v1) (r2 : zR v2) (h : wp_S_whyNoStaying σ v1 v2 Q) : zCi l D ad ca y_S_whyNoStaying b_S_whyNoStaying 5 (some .int) (zrm 2 47) [.ref (ad 0), .int (zI v1), .int (zI v2)] σ (fun z u => σ = u ∧ Q z) := by
  refine zCi_of (by decide +kernel) (Nat.le_of_ble_eq_true rfl) ?_
  intro X G C hl hD had hca
  subst hl hD had hca
  have C : zC X G b_S_whyNoStaying "GateRoads$State" 5 (some .int) 2 47 := C
  show zJ X G (zQi X G (fun z u => σ = u ∧ Q z)) 5 0 [(0, .ref (gad G 0)), (1, .int (zI v1)), (2, .int (zI v2))] [] σ
  unfold wp_S_whyNoStaying at h
  refine j_aload_n C d_S_whyNoStaying_0 0 rfl rfl ?_
  refine j_iload_n C d_S_whyNoStaying_1 1 rfl rfl ?_
  refine j_iconst C d_S_whyNoStaying_2 ?_
  refine j_callV C d_S_whyNoStaying_3 ml_S_67 mi_S_ofTravellers (c_S_ofTravellers (xl X) (gD G) (gad G) (gca G) (v1 := v1) (v2 := 0) hσ r1 (zR_of (x := 0) rfl) h) sh_0 rfl rfl rfl rfl rfl rfl rfl (fun z1 σ2 rz1 hσ2 h => ?_)
  obtain ⟨ez1, h⟩ := h; subst ez1
  refine j_istore_n (L' := [(3, .int (zI z1)), (0, .ref (gad G 0)), (1, .int (zI v1)), (2, .int (zI v2))]) C d_S_whyNoStaying_6 rfl rfl rfl ?_
  refine j_aload_n C d_S_whyNoStaying_7 1 rfl rfl ?_
  refine j_iload_n C d_S_whyNoStaying_8 2 rfl rfl ?_
  refine j_iconst C d_S_whyNoStaying_9 ?_
  refine j_callV C d_S_whyNoStaying_10 ml_S_67 mi_S_ofTravellers (c_S_ofTravellers (xl X) (gD G) (gad G) (gca G) (v1 := v1) (v2 := 1) hσ r1 (zR_of (x := 1) rfl) h) sh_0 rfl rfl rfl rfl rfl rfl rfl (fun z3 σ4 rz3 hσ4 h => ?_)
  obtain ⟨ez3, h⟩ := h; subst ez3
  refine j_iload_n C d_S_whyNoStaying_13 3 rfl rfl ?_
  refine j_iadd C d_S_whyNoStaying_14 ?_
  obtain ⟨g5, h⟩ := h
  refine j_istore (L' := [(4, .int (zI (z3 + v2))), (3, .int (zI z1)), (0, .ref (gad G 0)), (1, .int (zI v1)), (2, .int (zI v2))]) C d_S_whyNoStaying_15 rfl rfl ?_
  refine j_iload C d_S_whyNoStaying_17 0 rfl ?_
  refine j_sipush C d_S_whyNoStaying_19 rfl ?_
  refine j_icmp_le (tgt := 27) C d_S_whyNoStaying_22 rfl g5 (zR_of (x := 2880) rfl) (fun c => ?_) (fun c => ?_)
  · have h := h.1 c
    refine j_iload C d_S_whyNoStaying_27 0 rfl ?_
    refine j_aload_n C d_S_whyNoStaying_29 2 rfl rfl ?_
    refine j_iload_n C d_S_whyNoStaying_30 1 rfl rfl ?_
    refine j_aload_n C d_S_whyNoStaying_31 2 rfl rfl ?_
    refine j_iload_n C d_S_whyNoStaying_32 3 rfl rfl ?_
    refine j_iconst C d_S_whyNoStaying_33 ?_
    refine j_callV C d_S_whyNoStaying_34 ml_S_67 mi_S_ofTravellers (c_S_ofTravellers (xl X) (gD G) (gad G) (gca G) (v1 := v1) (v2 := 1) hσ r1 (zR_of (x := 1) rfl) h) sh_0 rfl rfl rfl rfl rfl rfl rfl (fun z6 σ7 rz6 hσ7 h => ?_)
    obtain ⟨ez6, h⟩ := h; subst ez6
    refine j_callV C d_S_whyNoStaying_37 ml_S_76 mi_S_openUntil (c_S_openUntil (xl X) (gD G) (gad G) (gca G) (v1 := z1) (v2 := z6) hσ rz1 rz6 h) sh_0 rfl rfl rfl rfl rfl rfl rfl (fun z8 σ9 rz8 hσ9 h => ?_)
    obtain ⟨ez8, h⟩ := h; subst ez8
    refine j_icmp_le (tgt := 46) C d_S_whyNoStaying_40 rfl g5 rz8 (fun c => ?_) (fun c => ?_)
    · have h := h.1 c
      refine j_iload C d_S_whyNoStaying_46 0 rfl ?_
      refine j_aload_n C d_S_whyNoStaying_48 2 rfl rfl ?_
      refine j_iload_n C d_S_whyNoStaying_49 3 rfl rfl ?_
      refine j_iconst C d_S_whyNoStaying_50 ?_
      refine j_callV C d_S_whyNoStaying_51 ml_S_67 mi_S_ofTravellers (c_S_ofTravellers (xl X) (gD G) (gad G) (gca G) (v1 := v1) (v2 := 2) hσ r1 (zR_of (x := 2) rfl) h) sh_0 rfl rfl rfl rfl rfl rfl rfl (fun z10 σ11 rz10 hσ11 h => ?_)
      obtain ⟨ez10, h⟩ := h; subst ez10
      refine j_isub C d_S_whyNoStaying_54 ?_
      refine j_aload_n C d_S_whyNoStaying_55 2 rfl rfl ?_
      refine j_iload_n C d_S_whyNoStaying_56 1 rfl rfl ?_
      refine j_iconst C d_S_whyNoStaying_57 ?_
      refine j_callV C d_S_whyNoStaying_58 ml_S_73 mi_S_ofRooms (c_S_ofRooms (xl X) (gD G) (gad G) (gca G) (v1 := z1) (v2 := 2) hσ rz1 (zR_of (x := 2) rfl) h) sh_0 rfl rfl rfl rfl rfl rfl rfl (fun z12 σ13 rz12 hσ13 h => ?_)
      obtain ⟨ez12, h⟩ := h; subst ez12
      obtain ⟨g14, h⟩ := h
      refine j_icmp_le (tgt := 69) C d_S_whyNoStaying_61 rfl g14 rz12 (fun c => ?_) (fun c => ?_)
      · have h := h.1 c
        refine j_iconst C d_S_whyNoStaying_69 ?_
        exact j_ireturn C d_S_whyNoStaying_70 (zR_of (x := 0) rfl) hσ ⟨rfl, h⟩
      · have h := h.2 c
        refine j_bipush C d_S_whyNoStaying_64 rfl ?_
        refine j_goto (tgt := 70) C d_S_whyNoStaying_66 rfl ?_
        exact j_ireturn C d_S_whyNoStaying_70 (zR_of (x := 7) rfl) hσ ⟨rfl, h⟩
    · have h := h.2 c
      refine j_bipush C d_S_whyNoStaying_43 rfl ?_
      exact j_ireturn C d_S_whyNoStaying_45 (zR_of (x := 6) rfl) hσ ⟨rfl, h⟩
  · have h := h.2 c
    refine j_iconst C d_S_whyNoStaying_25 ?_
    exact j_ireturn C d_S_whyNoStaying_26 (zR_of (x := 5) rfl) hσ ⟨rfl, h⟩
set_option maxRecDepth 100000 in
set_option maxHeartbeats 4000000 in
theorem c_S_waitThere (l : Launch) (D : va_G) (ad : Nat → Nat) (ca : Nat → ClassId) {σ : zM} {v1 : Int} {v2 : Int} {Q : Int → zM → Prop} (hσ : zRM σ) (r1 : zR v1) (r2 : zR v2) (h : wp_S_waitThere σ v1 v2 Q) : zCi l D ad ca y_S_waitThere b_S_waitThere 4 (some .int) (zrm 0 0) [.ref (ad 0), .int (zI v1), .int (zI v2)] σ Q := by
  refine zCi_of (by decide +kernel) (Nat.le_of_ble_eq_true rfl) ?_
  intro X G C hl hD had hca
  subst hl hD had hca
  have C : zC X G b_S_waitThere "GateRoads$State" 4 (some .int) 0 0 := C
  show zJ X G (zQi X G Q) 4 0 [(0, .ref (gad G 0)), (1, .int (zI v1)), (2, .int (zI v2))] [] σ
  unfold wp_S_waitThere at h
  refine j_iload_n C d_S_waitThere_0 1 rfl rfl ?_
  refine j_bipush C d_S_waitThere_1 rfl ?_
  refine j_imul C d_S_waitThere_3 ?_
  obtain ⟨g1, h⟩ := h
  refine j_istore_n (L' := [(3, .int (zI (v1 * 8))), (0, .ref (gad G 0)), (1, .int (zI v1)), (2, .int (zI v2))]) C d_S_waitThere_4 rfl rfl rfl ?_
  refine j_aload_n C d_S_waitThere_5 1 rfl rfl ?_
  refine j_getr (kf := 4) (m := 5) C d_S_waitThere_6 sh_0 rfl i_S rfl rfl fl_S_24 ?_
  refine j_iload_n C d_S_waitThere_9 0 rfl rfl ?_
  refine j_iconst C d_S_waitThere_10 ?_
  refine j_iadd C d_S_waitThere_11 ?_
  refine j_dup2 C d_S_waitThere_12 rfl rfl ?_
  obtain ⟨g2, h⟩ := h
  refine j_iaload C d_S_waitThere_13 sh_5 g2 ?_
  refine j_iload_n C d_S_waitThere_14 3 rfl rfl ?_
  refine j_iadd C d_S_waitThere_15 ?_
  obtain ⟨g3, h⟩ := h
  obtain ⟨g4, h⟩ := h
  refine j_iastore C d_S_waitThere_16 sh_5 g3 ?_
  refine j_mem (fun σ5 eσ5 => ?_)
  have h := h σ5 eσ5
  have hσ5 : zRM σ5 := by rw [eσ5]; exact zU_rg hσ _ _ g4
  refine j_aload_n C d_S_waitThere_17 1 rfl rfl ?_
  refine j_getr (kf := 4) (m := 5) C d_S_waitThere_18 sh_0 rfl i_S rfl rfl fl_S_24 ?_
  refine j_iload_n C d_S_waitThere_21 0 rfl rfl ?_
  refine j_iconst C d_S_waitThere_22 ?_
  refine j_iadd C d_S_waitThere_23 ?_
  refine j_dup2 C d_S_waitThere_24 rfl rfl ?_
  obtain ⟨g6, h⟩ := h
  refine j_iaload C d_S_waitThere_25 sh_5 g6 ?_
  refine j_iload_n C d_S_waitThere_26 3 rfl rfl ?_
  refine j_iadd C d_S_waitThere_27 ?_
  obtain ⟨g7, h⟩ := h
  obtain ⟨g8, h⟩ := h
  refine j_iastore C d_S_waitThere_28 sh_5 g7 ?_
  refine j_mem (fun σ9 eσ9 => ?_)
  have h := h σ9 eσ9
  have hσ9 : zRM σ9 := by rw [eσ9]; exact zU_rg hσ5 _ _ g8
  refine j_aload_n C d_S_waitThere_29 1 rfl rfl ?_
  refine j_getr (kf := 4) (m := 5) C d_S_waitThere_30 sh_0 rfl i_S rfl rfl fl_S_24 ?_
  refine j_iload_n C d_S_waitThere_33 0 rfl rfl ?_
  refine j_iconst C d_S_waitThere_34 ?_
  refine j_iadd C d_S_waitThere_35 ?_
  obtain ⟨g10, h⟩ := h
  refine j_iaload C d_S_waitThere_36 sh_5 g10 ?_
  exact j_ireturn C d_S_waitThere_37 (hσ9 _ _) hσ9 h
set_option maxRecDepth 100000 in
set_option maxHeartbeats 4000000 in
theorem c_X_stay (l : Launch) (D : va_G) (ad : Nat → Nat) (ca : Nat → ClassId) {σ : zM} {v1 : Int} {v2 : Int} {Q : Int → zM → Prop} (hσ : zRM σ) (r1 : zR v1) (r2 : zR v2) (h : wp_X_stay σ v1 v2 Q) : zCi l D ad ca y_X_stay b_X_stay 4 (some .int) (zrm 3 71) [.ref (ad 54), .int (zI v1), .int (zI v2)] σ Q := by
  refine zCi_of (by decide +kernel) (Nat.le_of_ble_eq_true rfl) ?_
  intro X G C hl hD had hca
  subst hl hD had hca
  have C : zC X G b_X_stay "GateRoads" 4 (some .int) 3 71 := C
  show zJ X G (zQi X G Q) 4 0 [(0, .ref (gad G 54)), (1, .int (zI v1)), (2, .int (zI v2))] [] σ
  unfold wp_X_stay at h
  refine j_aload_n C d_X_stay_0 0 rfl rfl ?_
  refine j_getr (kf := 0) (m := 0) C d_X_stay_1 sh_54 rfl i_X rfl rfl fl_X_12 ?_
  refine j_iload_n C d_X_stay_4 1 rfl rfl ?_
  refine j_callV C d_X_stay_5 ml_X_128 mi_S_hasTraveller (c_S_hasTraveller (xl X) (gD G) (gad G) (gca G) (v1 := v1) hσ r1 h) sh_0 rfl rfl rfl rfl rfl rfl rfl (fun z1 σ2 rz1 hσ2 h => ?_)
  obtain ⟨ez1, h⟩ := h; subst ez1
  refine j_if_ne (tgt := 13) C d_X_stay_8 rfl rz1 (fun c => ?_) (fun c => ?_)
  · have h := h.1 c
    refine j_iload_n C d_X_stay_13 2 rfl rfl ?_
    refine j_iconst C d_X_stay_14 ?_
    refine j_sipush C d_X_stay_15 rfl ?_
    refine j_callS C d_X_stay_18 ml_X_69 ms_X_within (c_X_within (xl X) (gD G) (gad G) (gca G) (v0 := v2) (v1 := 1) (v2 := 1000) hσ r2 (zR_of (x := 1) rfl) (zR_of (x := 1000) rfl) h) rfl rfl rfl rfl rfl (fun z3 σ4 rz3 hσ4 h => ?_)
    obtain ⟨ez3, h⟩ := h; subst ez3
    refine j_if_ne (tgt := 27) C d_X_stay_21 rfl rz3 (fun c => ?_) (fun c => ?_)
    · have h := h.1 c
      refine j_aload_n C d_X_stay_27 0 rfl rfl ?_
      refine j_getr (kf := 0) (m := 0) C d_X_stay_28 sh_54 rfl i_X rfl rfl fl_X_12 ?_
      refine j_iload_n C d_X_stay_31 1 rfl rfl ?_
      refine j_iload_n C d_X_stay_32 2 rfl rfl ?_
      refine j_callV C d_X_stay_33 ml_X_141 mi_S_whyNoStaying (c_S_whyNoStaying (xl X) (gD G) (gad G) (gca G) (v1 := v1) (v2 := v2) hσ r1 r2 h) sh_0 rfl rfl rfl rfl rfl rfl rfl (fun z5 σ6 rz5 hσ6 h => ?_)
      obtain ⟨ez5, h⟩ := h; subst ez5
      refine j_istore_n (L' := [(3, .int (zI z5)), (0, .ref (gad G 54)), (1, .int (zI v1)), (2, .int (zI v2))]) C d_X_stay_36 rfl rfl rfl ?_
      refine j_iload_n C d_X_stay_37 0 rfl rfl ?_
      refine j_if_eq (tgt := 47) C d_X_stay_38 rfl rz5 (fun c => ?_) (fun c => ?_)
      · have h := h.1 c
        refine j_aload_n C d_X_stay_47 1 rfl rfl ?_
        refine j_callVv C d_X_stay_48 ml_X_73 mi_X_remember (c_X_remember (xl X) (gD G) (gad G) (gca G)  hσ h) sh_54 rfl rfl rfl rfl rfl rfl rfl (fun σ8 hσ8 h => ?_)
        refine j_aload_n C d_X_stay_51 1 rfl rfl ?_
        refine j_getr (kf := 0) (m := 0) C d_X_stay_52 sh_54 rfl i_X rfl rfl fl_X_12 ?_
        refine j_iload_n C d_X_stay_55 2 rfl rfl ?_
        refine j_iload_n C d_X_stay_56 3 rfl rfl ?_
        refine j_callV C d_X_stay_57 ml_X_144 mi_S_waitThere (c_S_waitThere (xl X) (gD G) (gad G) (gca G) (v1 := v1) (v2 := v2) hσ8 r1 r2 h) sh_0 rfl rfl rfl rfl rfl rfl rfl (fun z9 σ10 rz9 hσ10 h => ?_)
        exact j_ireturn C d_X_stay_60 rz9 hσ10 h
      · have h := h.2 c
        refine j_aload_n C d_X_stay_41 1 rfl rfl ?_
        refine j_iload_n C d_X_stay_42 0 rfl rfl ?_
        refine j_callV C d_X_stay_43 ml_X_134 mi_X_refuse (c_X_refuse (xl X) (gD G) (gad G) (gca G) (v1 := z5) hσ rz5 h) sh_54 rfl rfl rfl rfl rfl rfl rfl (fun z11 σ12 rz11 hσ12 h => ?_)
        exact j_ireturn C d_X_stay_46 rz11 hσ12 h
    · have h := h.2 c
      refine j_bipush C d_X_stay_24 rfl ?_
      exact j_ireturn C d_X_stay_26 (zR_of (x := (-2)) rfl) hσ h
  · have h := h.2 c
    refine j_iconst C d_X_stay_11 ?_
    exact j_ireturn C d_X_stay_12 (zR_of (x := (-1)) rfl) hσ h
set_option maxRecDepth 100000 in
set_option maxHeartbeats 4000000 in
theorem c_S_stayLeft (l : Launch) (D : va_G) (ad : Nat → Nat) (ca : Nat → ClassId) {σ : zM} {v1 : Int} {Q : Int → Prop} (hσ : zRM σ) (r1 : zR v1) (h : wp_S_stayLeft σ v1 Q) : zCi l D ad ca y_S_stayLeft b_S_stayLeft 6 (some .int) (zrm 2 47) [.ref (ad 0), .int (zI v1)] σ (fun z u => σ = u ∧ Q z) := by
  refine zCi_of (by decide +kernel) (Nat.le_of_ble_eq_true rfl) ?_
  intro X G C hl hD had hca
  subst hl hD had hca
  have C : zC X G b_S_stayLeft "GateRoads$State" 6 (some .int) 2 47 := C
  show zJ X G (zQi X G (fun z u => σ = u ∧ Q z)) 6 0 [(0, .ref (gad G 0)), (1, .int (zI v1))] [] σ
  unfold wp_S_stayLeft at h
  refine j_aload_n C d_S_stayLeft_0 0 rfl rfl ?_
  refine j_iload_n C d_S_stayLeft_1 1 rfl rfl ?_
  refine j_iconst C d_S_stayLeft_2 ?_
  refine j_callV C d_S_stayLeft_3 ml_S_67 mi_S_ofTravellers (c_S_ofTravellers (xl X) (gD G) (gad G) (gca G) (v1 := v1) (v2 := 0) hσ r1 (zR_of (x := 0) rfl) h) sh_0 rfl rfl rfl rfl rfl rfl rfl (fun z1 σ2 rz1 hσ2 h => ?_)
  obtain ⟨ez1, h⟩ := h; subst ez1
  refine j_istore_n (L' := [(2, .int (zI z1)), (0, .ref (gad G 0)), (1, .int (zI v1))]) C d_S_stayLeft_6 rfl rfl rfl ?_
  refine j_aload_n C d_S_stayLeft_7 1 rfl rfl ?_
  refine j_iload_n C d_S_stayLeft_8 2 rfl rfl ?_
  refine j_iconst C d_S_stayLeft_9 ?_
  refine j_callV C d_S_stayLeft_10 ml_S_67 mi_S_ofTravellers (c_S_ofTravellers (xl X) (gD G) (gad G) (gca G) (v1 := v1) (v2 := 1) hσ r1 (zR_of (x := 1) rfl) h) sh_0 rfl rfl rfl rfl rfl rfl rfl (fun z3 σ4 rz3 hσ4 h => ?_)
  obtain ⟨ez3, h⟩ := h; subst ez3
  refine j_istore_n (L' := [(3, .int (zI z3)), (2, .int (zI z1)), (0, .ref (gad G 0)), (1, .int (zI v1))]) C d_S_stayLeft_13 rfl rfl rfl ?_
  refine j_aload_n C d_S_stayLeft_14 2 rfl rfl ?_
  refine j_iload_n C d_S_stayLeft_15 3 rfl rfl ?_
  refine j_iconst C d_S_stayLeft_16 ?_
  refine j_callV C d_S_stayLeft_17 ml_S_67 mi_S_ofTravellers (c_S_ofTravellers (xl X) (gD G) (gad G) (gca G) (v1 := v1) (v2 := 2) hσ r1 (zR_of (x := 2) rfl) h) sh_0 rfl rfl rfl rfl rfl rfl rfl (fun z5 σ6 rz5 hσ6 h => ?_)
  obtain ⟨ez5, h⟩ := h; subst ez5
  refine j_aload_n C d_S_stayLeft_20 2 rfl rfl ?_
  refine j_iload_n C d_S_stayLeft_21 1 rfl rfl ?_
  refine j_iconst C d_S_stayLeft_22 ?_
  refine j_callV C d_S_stayLeft_23 ml_S_73 mi_S_ofRooms (c_S_ofRooms (xl X) (gD G) (gad G) (gca G) (v1 := z1) (v2 := 2) hσ rz1 (zR_of (x := 2) rfl) h) sh_0 rfl rfl rfl rfl rfl rfl rfl (fun z7 σ8 rz7 hσ8 h => ?_)
  obtain ⟨ez7, h⟩ := h; subst ez7
  refine j_iadd C d_S_stayLeft_26 ?_
  obtain ⟨g9, h⟩ := h
  refine j_istore (L' := [(4, .int (zI (z5 + z7))), (3, .int (zI z3)), (2, .int (zI z1)), (0, .ref (gad G 0)), (1, .int (zI v1))]) C d_S_stayLeft_27 rfl rfl ?_
  refine j_aload_n C d_S_stayLeft_29 3 rfl rfl ?_
  refine j_iload_n C d_S_stayLeft_30 2 rfl rfl ?_
  refine j_iload_n C d_S_stayLeft_31 1 rfl rfl ?_
  refine j_callV C d_S_stayLeft_32 ml_S_76 mi_S_openUntil (c_S_openUntil (xl X) (gD G) (gad G) (gca G) (v1 := z1) (v2 := z3) hσ rz1 rz3 h) sh_0 rfl rfl rfl rfl rfl rfl rfl (fun z10 σ11 rz10 hσ11 h => ?_)
  obtain ⟨ez10, h⟩ := h; subst ez10
  refine j_iload C d_S_stayLeft_35 0 rfl ?_
  refine j_min C d_S_stayLeft_37 ml_S_79 zs_min zi_Math zc_min rfl rfl rz10 g9 ?_
  refine j_sipush C d_S_stayLeft_40 rfl ?_
  refine j_min C d_S_stayLeft_43 ml_S_79 zs_min zi_Math zc_min rfl rfl (zMin_rg rz10 g9) (zR_of (x := 2880) rfl) ?_
  refine j_name (fun t12 et12 => ?_)
  have h := h t12 et12
  have rt12 : zR t12 := by rw [et12]; exact (zMin_rg (zMin_rg rz10 g9) (zR_of (x := 2880) rfl))
  refine j_istore (L' := [(5, .int (zI t12)), (4, .int (zI (z5 + z7))), (3, .int (zI z3)), (2, .int (zI z1)), (0, .ref (gad G 0)), (1, .int (zI v1))]) C d_S_stayLeft_46 rfl rfl ?_
  refine j_iload C d_S_stayLeft_48 0 rfl ?_
  refine j_iload_n C d_S_stayLeft_50 2 rfl rfl ?_
  refine j_isub C d_S_stayLeft_51 ?_
  refine j_iconst C d_S_stayLeft_52 ?_
  obtain ⟨g13, h⟩ := h
  refine j_max C d_S_stayLeft_53 ml_S_84 zs_max zi_Math zc_max rfl rfl g13 (zR_of (x := 0) rfl) ?_
  exact j_ireturn C d_S_stayLeft_56 (zMax_rg g13 (zR_of (x := 0) rfl)) hσ ⟨rfl, h⟩
set_option maxRecDepth 100000 in
set_option maxHeartbeats 4000000 in
theorem c_X_canStay (l : Launch) (D : va_G) (ad : Nat → Nat) (ca : Nat → ClassId) {σ : zM} {v1 : Int} {Q : Int → Prop} (hσ : zRM σ) (r1 : zR v1) (h : wp_X_canStay σ v1 Q) : zCi l D ad ca y_X_canStay b_X_canStay 2 (some .int) (zrm 3 72) [.ref (ad 54), .int (zI v1)] σ (fun z u => σ = u ∧ Q z) := by
  refine zCi_of (by decide +kernel) (Nat.le_of_ble_eq_true rfl) ?_
  intro X G C hl hD had hca
  subst hl hD had hca
  have C : zC X G b_X_canStay "GateRoads" 2 (some .int) 3 72 := C
  show zJ X G (zQi X G (fun z u => σ = u ∧ Q z)) 2 0 [(0, .ref (gad G 54)), (1, .int (zI v1))] [] σ
  unfold wp_X_canStay at h
  refine j_aload_n C d_X_canStay_0 0 rfl rfl ?_
  refine j_getr (kf := 0) (m := 0) C d_X_canStay_1 sh_54 rfl i_X rfl rfl fl_X_12 ?_
  refine j_iload_n C d_X_canStay_4 1 rfl rfl ?_
  refine j_callV C d_X_canStay_5 ml_X_128 mi_S_hasTraveller (c_S_hasTraveller (xl X) (gD G) (gad G) (gca G) (v1 := v1) hσ r1 h) sh_0 rfl rfl rfl rfl rfl rfl rfl (fun z1 σ2 rz1 hσ2 h => ?_)
  obtain ⟨ez1, h⟩ := h; subst ez1
  refine j_if_eq (tgt := 22) C d_X_canStay_8 rfl rz1 (fun c => ?_) (fun c => ?_)
  · have h := h.1 c
    refine j_iconst C d_X_canStay_22 ?_
    exact j_ireturn C d_X_canStay_23 (zR_of (x := (-1)) rfl) hσ ⟨rfl, h⟩
  · have h := h.2 c
    refine j_aload_n C d_X_canStay_11 0 rfl rfl ?_
    refine j_getr (kf := 0) (m := 0) C d_X_canStay_12 sh_54 rfl i_X rfl rfl fl_X_12 ?_
    refine j_iload_n C d_X_canStay_15 1 rfl rfl ?_
    refine j_callV C d_X_canStay_16 ml_X_237 mi_S_stayLeft (c_S_stayLeft (xl X) (gD G) (gad G) (gca G) (v1 := v1) hσ r1 h) sh_0 rfl rfl rfl rfl rfl rfl rfl (fun z3 σ4 rz3 hσ4 h => ?_)
    obtain ⟨ez3, h⟩ := h; subst ez3
    refine j_goto (tgt := 23) C d_X_canStay_19 rfl ?_
    exact j_ireturn C d_X_canStay_23 rz3 hσ ⟨rfl, h⟩
set_option maxRecDepth 100000 in
set_option maxHeartbeats 4000000 in
theorem w_G_letIn_L82 {X : zX} {G : zG} (C : zC X G b_G_letIn "GateRoads$Gates" 10 (none) 1 22) {v2 : Int} {v3 : Int} {v4 : Int} {v6 : Int} {v7 : Int} {v8 : Int} (r2 : zR v2) (r3 : zR v3) (r4 : zR v4) (r6 : zR v6) (r7 : zR v7) (r8 : zR v8) {Q : zM → Prop} {k108 : zM → Prop} (hk108 : ∀ (σ : zM), zRM σ → k108 σ → zJ X G (zQv X G Q) 10 108 [(0, .ref (gad G 62)), (1, .ref (gad G 0)), (2, .int (zI v2)), (3, .int (zI v3)), (4, .int (zI v4)), (6, .int (zI v6)), (7, .int (zI v7))] [] σ) : ∀ (n : Nat) (σ : zM) (v9 : Int) (hσ : zRM σ) (r9 : zR v9), wp_G_letIn_L82 v2 v3 v4 v6 v7 v8 k108 Q n σ v9 → zJ X G (zQv X G Q) 10 82 [(0, .ref (gad G 62)), (1, .ref (gad G 0)), (2, .int (zI v2)), (3, .int (zI v3)), (4, .int (zI v4)), (6, .int (zI v6)), (7, .int (zI v7)), (8, .int (zI v8)), (9, .int (zI v9))] [] σ := by
  intro n
  induction n with
  | zero => intro σ v9 hσ r9 h; exact False.elim h
  | succ n ih =>
    intro σ v9 hσ r9 h
    rw [wp_G_letIn_L82] at h
    refine j_iload C d_G_letIn_82 8 rfl ?_
    refine j_iload C d_G_letIn_84 7 rfl ?_
    refine j_icmp_gt (tgt := 108) C d_G_letIn_86 rfl r9 r8 (fun c => ?_) (fun c => ?_)
    · have h := h.1 c
      refine j_sub (L' := [(0, .ref (gad G 62)), (1, .ref (gad G 0)), (2, .int (zI v2)), (3, .int (zI v3)), (4, .int (zI v4)), (6, .int (zI v6)), (7, .int (zI v7))]) [0, 1, 2, 3, 4, 5, 6] rfl ?_
      exact hk108 σ hσ h
    · have h := h.2 c
      refine j_aload_n C d_G_letIn_89 0 rfl rfl ?_
      refine j_getr (kf := 0) (m := 63) C d_G_letIn_90 sh_62 rfl i_G rfl rfl fl_G_9 ?_
      refine j_iload C d_G_letIn_93 8 rfl ?_
      refine j_dup2 C d_G_letIn_95 rfl rfl ?_
      obtain ⟨g13, h⟩ := h
      refine j_iaload C d_G_letIn_96 sh_63 g13 ?_
      refine j_iconst C d_G_letIn_97 ?_
      refine j_iload_n C d_G_letIn_98 2 rfl rfl ?_
      refine j_ishl C d_G_letIn_99 ?_
      refine j_ior C d_G_letIn_100 ?_
      obtain ⟨g14, h⟩ := h
      refine j_iastore C d_G_letIn_101 sh_63 g14 ?_
      refine j_mem (fun σ15 eσ15 => ?_)
      have h := h σ15 eσ15
      have hσ15 : zRM σ15 := by rw [eσ15]; exact zU_rg hσ _ _ (zOr_rg _ _)
      obtain ⟨g16, h⟩ := h
      refine j_iinc (L' := [(9, .int (zI (v9 + 1))), (0, .ref (gad G 62)), (1, .ref (gad G 0)), (2, .int (zI v2)), (3, .int (zI v3)), (4, .int (zI v4)), (6, .int (zI v6)), (7, .int (zI v7)), (8, .int (zI v8))]) C d_G_letIn_102 8 rfl rfl rfl ?_
      refine j_goto (tgt := 82) C d_G_letIn_105 rfl ?_
      refine j_sub (L' := [(0, .ref (gad G 62)), (1, .ref (gad G 0)), (2, .int (zI v2)), (3, .int (zI v3)), (4, .int (zI v4)), (6, .int (zI v6)), (7, .int (zI v7)), (8, .int (zI v8)), (9, .int (zI (v9 + 1)))]) [1, 2, 3, 4, 5, 6, 7, 8, 0] rfl ?_
      exact ih σ15 (v9 + 1) hσ15 g16 h
set_option maxRecDepth 100000 in
set_option maxHeartbeats 4000000 in
theorem w_G_letIn_L47 {X : zX} {G : zG} (C : zC X G b_G_letIn "GateRoads$Gates" 10 (none) 1 22) {v2 : Int} {v3 : Int} {v4 : Int} {v6 : Int} (r2 : zR v2) (r3 : zR v3) (r4 : zR v4) (r6 : zR v6) {Q : zM → Prop} : ∀ (n : Nat) (σ : zM) (v7 : Int) (hσ : zRM σ) (r7 : zR v7), wp_G_letIn_L47 v2 v3 v4 v6 Q n σ v7 → zJ X G (zQv X G Q) 10 47 [(0, .ref (gad G 62)), (1, .ref (gad G 0)), (2, .int (zI v2)), (3, .int (zI v3)), (4, .int (zI v4)), (6, .int (zI v6)), (7, .int (zI v7))] [] σ := by
  intro n
  induction n with
  | zero => intro σ v7 hσ r7 h; exact False.elim h
  | succ n ih =>
    intro σ v7 hσ r7 h
    rw [wp_G_letIn_L47] at h
    refine j_iload C d_G_letIn_47 6 rfl ?_
    refine j_sipush C d_G_letIn_49 rfl ?_
    refine j_icmp_ge (tgt := 117) C d_G_letIn_52 rfl r7 (zR_of (x := 2880) rfl) (fun c => ?_) (fun c => ?_)
    · have h := h.1 c
      exact j_vreturn C d_G_letIn_117 hσ h
    · have h := h.2 c
      refine j_iload C d_G_letIn_55 6 rfl ?_
      refine j_iload C d_G_letIn_57 5 rfl ?_
      refine j_iadd C d_G_letIn_59 ?_
      refine j_sipush C d_G_letIn_60 rfl ?_
      refine j_iload C d_G_letIn_63 4 rfl ?_
      refine j_isub C d_G_letIn_65 ?_
      obtain ⟨g8, h⟩ := h
      obtain ⟨g9, h⟩ := h
      refine j_min C d_G_letIn_66 ml_G_49 zs_min zi_Math zc_min rfl rfl g8 g9 ?_
      refine j_istore (L' := [(8, .int (zI (min (v7 + v6) (2880 - v4)))), (0, .ref (gad G 62)), (1, .ref (gad G 0)), (2, .int (zI v2)), (3, .int (zI v3)), (4, .int (zI v4)), (6, .int (zI v6)), (7, .int (zI v7))]) C d_G_letIn_69 rfl rfl ?_
      refine j_iload C d_G_letIn_71 7 rfl ?_
      refine j_aload_n C d_G_letIn_73 2 rfl rfl ?_
      refine j_iload_n C d_G_letIn_74 3 rfl rfl ?_
      refine j_iload_n C d_G_letIn_75 4 rfl rfl ?_
      refine j_callV C d_G_letIn_76 ml_G_54 mi_S_spanFrom (c_S_spanFrom (xl X) (gD G) (gad G) (gca G) (v1 := v2) (v2 := v3) hσ r2 r3 h) sh_0 rfl rfl rfl rfl rfl rfl rfl (fun z10 σ11 rz10 hσ11 h => ?_)
      obtain ⟨ez10, h⟩ := h; subst ez10
      refine j_iadd C d_G_letIn_79 ?_
      obtain ⟨g12, h⟩ := h
      refine j_istore (L' := [(9, .int (zI (v7 + z10))), (8, .int (zI (min (v7 + v6) (2880 - v4)))), (0, .ref (gad G 62)), (1, .ref (gad G 0)), (2, .int (zI v2)), (3, .int (zI v3)), (4, .int (zI v4)), (6, .int (zI v6)), (7, .int (zI v7))]) C d_G_letIn_80 rfl rfl ?_
      obtain ⟨n19, h⟩ := h
      refine j_sub (L' := [(0, .ref (gad G 62)), (1, .ref (gad G 0)), (2, .int (zI v2)), (3, .int (zI v3)), (4, .int (zI v4)), (6, .int (zI v6)), (7, .int (zI v7)), (8, .int (zI (min (v7 + v6) (2880 - v4)))), (9, .int (zI (v7 + z10)))]) [2, 3, 4, 5, 6, 7, 8, 1, 0] rfl ?_
      refine w_G_letIn_L82 C r2 r3 r4 r6 r7 (zMin_rg g8 g9) ?_ n19 σ (v7 + z10) hσ g12 h
      · intro σ17 hσ17 h
        obtain ⟨g18, h⟩ := h
        refine j_iincW (L' := [(7, .int (zI (v7 + 1440))), (0, .ref (gad G 62)), (1, .ref (gad G 0)), (2, .int (zI v2)), (3, .int (zI v3)), (4, .int (zI v4)), (6, .int (zI v6))]) C d_G_letIn_108 6 rfl rfl rfl ?_
        refine j_goto (tgt := 47) C d_G_letIn_114 rfl ?_
        refine j_sub (L' := [(0, .ref (gad G 62)), (1, .ref (gad G 0)), (2, .int (zI v2)), (3, .int (zI v3)), (4, .int (zI v4)), (6, .int (zI v6)), (7, .int (zI (v7 + 1440)))]) [1, 2, 3, 4, 5, 6, 0] rfl ?_
        exact ih σ17 (v7 + 1440) hσ17 g18 h
set_option maxRecDepth 100000 in
set_option maxHeartbeats 4000000 in
theorem w_G_letIn_b41 {X : zX} {G : zG} (C : zC X G b_G_letIn "GateRoads$Gates" 10 (none) 1 22) {Q : zM → Prop} (σ : zM) (v2 : Int) (v3 : Int) (v4 : Int) (s0 : Int) (s1 : Int) (hσ : zRM σ) (r2 : zR v2) (r3 : zR v3) (r4 : zR v4) (rs0 : zR s0) (rs1 : zR s1) (h : wp_G_letIn_b41 Q σ v2 v3 v4 s0 s1) : zJ X G (zQv X G Q) 10 41 [(0, .ref (gad G 62)), (1, .ref (gad G 0)), (2, .int (zI v2)), (3, .int (zI v3)), (4, .int (zI v4))] [.int (zI s1), .int (zI s0)] σ := by
  unfold wp_G_letIn_b41 at h
  refine j_isub C d_G_letIn_41 ?_
  obtain ⟨g7, h⟩ := h
  refine j_istore (L' := [(6, .int (zI (s0 - s1))), (0, .ref (gad G 62)), (1, .ref (gad G 0)), (2, .int (zI v2)), (3, .int (zI v3)), (4, .int (zI v4))]) C d_G_letIn_42 rfl rfl ?_
  refine j_iconst C d_G_letIn_44 ?_
  refine j_istore (L' := [(7, .int (zI 0)), (6, .int (zI (s0 - s1))), (0, .ref (gad G 62)), (1, .ref (gad G 0)), (2, .int (zI v2)), (3, .int (zI v3)), (4, .int (zI v4))]) C d_G_letIn_45 rfl rfl ?_
  obtain ⟨n20, h⟩ := h
  refine j_sub (L' := [(0, .ref (gad G 62)), (1, .ref (gad G 0)), (2, .int (zI v2)), (3, .int (zI v3)), (4, .int (zI v4)), (6, .int (zI (s0 - s1))), (7, .int (zI 0))]) [2, 3, 4, 5, 6, 1, 0] rfl ?_
  refine w_G_letIn_L47 C r2 r3 r4 g7 n20 σ 0 hσ (zR_of (x := 0) rfl) h
set_option maxRecDepth 100000 in
set_option maxHeartbeats 4000000 in
theorem w_G_letIn_b22 {X : zX} {G : zG} (C : zC X G b_G_letIn "GateRoads$Gates" 10 (none) 1 22) {Q : zM → Prop} (σ : zM) (v2 : Int) (v3 : Int) (v4 : Int) (s0 : Int) (hσ : zRM σ) (r2 : zR v2) (r3 : zR v3) (r4 : zR v4) (rs0 : zR s0) (h : wp_G_letIn_b22 Q σ v2 v3 v4 s0) : zJ X G (zQv X G Q) 10 22 [(0, .ref (gad G 62)), (1, .ref (gad G 0)), (2, .int (zI v2)), (3, .int (zI v3)), (4, .int (zI v4))] [.int (zI s0)] σ := by
  unfold wp_G_letIn_b22 at h
  refine j_istore (L' := [(5, .int (zI s0)), (0, .ref (gad G 62)), (1, .ref (gad G 0)), (2, .int (zI v2)), (3, .int (zI v3)), (4, .int (zI v4))]) C d_G_letIn_22 rfl rfl ?_
  refine j_aload_n C d_G_letIn_24 2 rfl rfl ?_
  refine j_iload_n C d_G_letIn_25 3 rfl rfl ?_
  refine j_iload_n C d_G_letIn_26 4 rfl rfl ?_
  refine j_callV C d_G_letIn_27 ml_G_46 mi_S_spanTo (c_S_spanTo (xl X) (gD G) (gad G) (gca G) (v1 := v2) (v2 := v3) hσ r2 r3 h) sh_0 rfl rfl rfl rfl rfl rfl rfl (fun z5 σ6 rz5 hσ6 h => ?_)
  obtain ⟨ez5, h⟩ := h; subst ez5
  refine j_iload C d_G_letIn_30 0 rfl ?_
  refine j_if_eq (tgt := 40) C d_G_letIn_32 rfl rs0 (fun c => ?_) (fun c => ?_)
  · have h := h.1 c
    refine j_iconst C d_G_letIn_40 ?_
    refine j_sub (L' := [(0, .ref (gad G 62)), (1, .ref (gad G 0)), (2, .int (zI v2)), (3, .int (zI v3)), (4, .int (zI v4))]) [1, 2, 3, 4, 5] rfl ?_
    refine w_G_letIn_b41 C σ v2 v3 v4 z5 1 hσ r2 r3 r4 rz5 (zR_of (x := 1) rfl) h
  · have h := h.2 c
    refine j_iload C d_G_letIn_35 5 rfl ?_
    refine j_goto (tgt := 41) C d_G_letIn_37 rfl ?_
    refine j_sub (L' := [(0, .ref (gad G 62)), (1, .ref (gad G 0)), (2, .int (zI v2)), (3, .int (zI v3)), (4, .int (zI v4))]) [1, 2, 3, 4, 5] rfl ?_
    refine w_G_letIn_b41 C σ v2 v3 v4 z5 v4 hσ r2 r3 r4 rz5 r4 h
set_option maxRecDepth 100000 in
set_option maxHeartbeats 4000000 in
theorem c_G_letIn (l : Launch) (D : va_G) (ad : Nat → Nat) (ca : Nat → ClassId) {σ : zM} {v2 : Int} {v3 : Int} {Q : zM → Prop} (hσ : zRM σ) (r2 : zR v2) (r3 : zR v3) (h : wp_G_letIn σ v2 v3 Q) : zCv l D ad ca y_G_letIn b_G_letIn 10 (zrm 1 22) [.ref (ad 62), .ref (ad 0), .int (zI v2), .int (zI v3)] σ Q := by
  refine zCv_of (by decide +kernel) (Nat.le_of_ble_eq_true rfl) ?_
  intro X G C hl hD had hca
  subst hl hD had hca
  have C : zC X G b_G_letIn "GateRoads$Gates" 10 (none) 1 22 := C
  show zJ X G (zQv X G Q) 10 0 [(0, .ref (gad G 62)), (1, .ref (gad G 0)), (2, .int (zI v2)), (3, .int (zI v3))] [] σ
  unfold wp_G_letIn at h
  refine j_aload_n C d_G_letIn_0 1 rfl rfl ?_
  refine j_iload_n C d_G_letIn_1 2 rfl rfl ?_
  refine j_iconst C d_G_letIn_2 ?_
  refine j_callV C d_G_letIn_3 ml_G_31 mi_S_ofRoads (c_S_ofRoads (xl X) (gD G) (gad G) (gca G) (v1 := v2) (v2 := 2) hσ r2 (zR_of (x := 2) rfl) h) sh_0 rfl rfl rfl rfl rfl rfl rfl (fun z1 σ2 rz1 hσ2 h => ?_)
  obtain ⟨ez1, h⟩ := h; subst ez1
  refine j_istore (L' := [(4, .int (zI z1)), (0, .ref (gad G 62)), (1, .ref (gad G 0)), (2, .int (zI v2)), (3, .int (zI v3))]) C d_G_letIn_6 rfl rfl ?_
  refine j_aload_n C d_G_letIn_8 2 rfl rfl ?_
  refine j_iload_n C d_G_letIn_9 3 rfl rfl ?_
  refine j_iconst C d_G_letIn_10 ?_
  refine j_callV C d_G_letIn_11 ml_G_31 mi_S_ofRoads (c_S_ofRoads (xl X) (gD G) (gad G) (gca G) (v1 := v2) (v2 := 3) hσ r2 (zR_of (x := 3) rfl) h) sh_0 rfl rfl rfl rfl rfl rfl rfl (fun z3 σ4 rz3 hσ4 h => ?_)
  obtain ⟨ez3, h⟩ := h; subst ez3
  refine j_if_eq (tgt := 21) C d_G_letIn_14 rfl rz3 (fun c => ?_) (fun c => ?_)
  · have h := h.1 c
    refine j_iconst C d_G_letIn_21 ?_
    refine j_sub (L' := [(0, .ref (gad G 62)), (1, .ref (gad G 0)), (2, .int (zI v2)), (3, .int (zI v3)), (4, .int (zI z1))]) [1, 2, 3, 4, 0] rfl ?_
    refine w_G_letIn_b22 C σ v2 v3 z1 0 hσ r2 r3 rz1 (zR_of (x := 0) rfl) h
  · have h := h.2 c
    refine j_iconst C d_G_letIn_17 ?_
    refine j_goto (tgt := 22) C d_G_letIn_18 rfl ?_
    refine j_sub (L' := [(0, .ref (gad G 62)), (1, .ref (gad G 0)), (2, .int (zI v2)), (3, .int (zI v3)), (4, .int (zI z1))]) [1, 2, 3, 4, 0] rfl ?_
    refine w_G_letIn_b22 C σ v2 v3 z1 1 hσ r2 r3 rz1 (zR_of (x := 1) rfl) h
set_option maxRecDepth 100000 in
set_option maxHeartbeats 4000000 in
theorem w_G_shut_L27 {X : zX} {G : zG} (C : zC X G b_G_shut "GateRoads$Gates" 6 (none) 1 22) {v3 : Int} {v4 : Int} (r3 : zR v3) (r4 : zR v4) {Q : zM → Prop} : ∀ (n : Nat) (σ : zM) (v5 : Int) (hσ : zRM σ) (r5 : zR v5), wp_G_shut_L27 v3 v4 Q n σ v5 → zJ X G (zQv X G Q) 6 27 [(0, .ref (gad G 62)), (3, .int (zI v3)), (4, .int (zI v4)), (5, .int (zI v5))] [] σ := by
  intro n
  induction n with
  | zero => intro σ v5 hσ r5 h; exact False.elim h
  | succ n ih =>
    intro σ v5 hσ r5 h
    rw [wp_G_shut_L27] at h
    refine j_iload C d_G_shut_27 3 rfl ?_
    refine j_iload C d_G_shut_29 2 rfl ?_
    refine j_icmp_ge (tgt := 51) C d_G_shut_31 rfl r5 r4 (fun c => ?_) (fun c => ?_)
    · have h := h.1 c
      exact j_vreturn C d_G_shut_51 hσ h
    · have h := h.2 c
      refine j_aload_n C d_G_shut_34 0 rfl rfl ?_
      refine j_getr (kf := 0) (m := 63) C d_G_shut_35 sh_62 rfl i_G rfl rfl fl_G_9 ?_
      refine j_iload C d_G_shut_38 3 rfl ?_
      refine j_dup2 C d_G_shut_40 rfl rfl ?_
      obtain ⟨g7, h⟩ := h
      refine j_iaload C d_G_shut_41 sh_63 g7 ?_
      refine j_iload_n C d_G_shut_42 1 rfl rfl ?_
      refine j_iand C d_G_shut_43 ?_
      obtain ⟨g8, h⟩ := h
      refine j_iastore C d_G_shut_44 sh_63 g8 ?_
      refine j_mem (fun σ9 eσ9 => ?_)
      have h := h σ9 eσ9
      have hσ9 : zRM σ9 := by rw [eσ9]; exact zU_rg hσ _ _ (zAnd_rg _ _)
      obtain ⟨g10, h⟩ := h
      refine j_iinc (L' := [(5, .int (zI (v5 + 1))), (0, .ref (gad G 62)), (3, .int (zI v3)), (4, .int (zI v4))]) C d_G_shut_45 3 rfl rfl rfl ?_
      refine j_goto (tgt := 27) C d_G_shut_48 rfl ?_
      refine j_sub (L' := [(0, .ref (gad G 62)), (3, .int (zI v3)), (4, .int (zI v4)), (5, .int (zI (v5 + 1)))]) [1, 2, 3, 0] rfl ?_
      exact ih σ9 (v5 + 1) hσ9 g10 h
set_option maxRecDepth 100000 in
set_option maxHeartbeats 4000000 in
theorem c_G_shut (l : Launch) (D : va_G) (ad : Nat → Nat) (ca : Nat → ClassId) {σ : zM} {v2 : Int} {Q : zM → Prop} (hσ : zRM σ) (r2 : zR v2) (h : wp_G_shut σ v2 Q) : zCv l D ad ca y_G_shut b_G_shut 6 (zrm 1 22) [.ref (ad 62), .ref (ad 0), .int (zI v2)] σ Q := by
  refine zCv_of (by decide +kernel) (Nat.le_of_ble_eq_true rfl) ?_
  intro X G C hl hD had hca
  subst hl hD had hca
  have C : zC X G b_G_shut "GateRoads$Gates" 6 (none) 1 22 := C
  show zJ X G (zQv X G Q) 6 0 [(0, .ref (gad G 62)), (1, .ref (gad G 0)), (2, .int (zI v2))] [] σ
  unfold wp_G_shut at h
  refine j_iconst C d_G_shut_0 ?_
  refine j_aload_n C d_G_shut_1 1 rfl rfl ?_
  refine j_iload_n C d_G_shut_2 2 rfl rfl ?_
  refine j_iconst C d_G_shut_3 ?_
  refine j_callV C d_G_shut_4 ml_G_57 mi_S_ofClosures (c_S_ofClosures (xl X) (gD G) (gad G) (gca G) (v1 := v2) (v2 := 0) hσ r2 (zR_of (x := 0) rfl) h) sh_0 rfl rfl rfl rfl rfl rfl rfl (fun z1 σ2 rz1 hσ2 h => ?_)
  obtain ⟨ez1, h⟩ := h; subst ez1
  refine j_ishl C d_G_shut_7 ?_
  refine j_iconst C d_G_shut_8 ?_
  refine j_ixor C d_G_shut_9 ?_
  refine j_istore_n (L' := [(3, .int (zI (zXor (zShl 1 z1) (-1)))), (0, .ref (gad G 62)), (1, .ref (gad G 0)), (2, .int (zI v2))]) C d_G_shut_10 rfl rfl rfl ?_
  refine j_aload_n C d_G_shut_11 2 rfl rfl ?_
  refine j_iload_n C d_G_shut_12 3 rfl rfl ?_
  refine j_iconst C d_G_shut_13 ?_
  refine j_callV C d_G_shut_14 ml_G_57 mi_S_ofClosures (c_S_ofClosures (xl X) (gD G) (gad G) (gca G) (v1 := v2) (v2 := 2) hσ r2 (zR_of (x := 2) rfl) h) sh_0 rfl rfl rfl rfl rfl rfl rfl (fun z3 σ4 rz3 hσ4 h => ?_)
  obtain ⟨ez3, h⟩ := h; subst ez3
  refine j_istore (L' := [(4, .int (zI z3)), (3, .int (zI (zXor (zShl 1 z1) (-1)))), (0, .ref (gad G 62)), (1, .ref (gad G 0)), (2, .int (zI v2))]) C d_G_shut_17 rfl rfl ?_
  refine j_aload_n C d_G_shut_19 3 rfl rfl ?_
  refine j_iload_n C d_G_shut_20 4 rfl rfl ?_
  refine j_iconst C d_G_shut_21 ?_
  refine j_callV C d_G_shut_22 ml_G_57 mi_S_ofClosures (c_S_ofClosures (xl X) (gD G) (gad G) (gca G) (v1 := v2) (v2 := 1) hσ r2 (zR_of (x := 1) rfl) h) sh_0 rfl rfl rfl rfl rfl rfl rfl (fun z5 σ6 rz5 hσ6 h => ?_)
  obtain ⟨ez5, h⟩ := h; subst ez5
  refine j_istore (L' := [(5, .int (zI z5)), (4, .int (zI z3)), (3, .int (zI (zXor (zShl 1 z1) (-1)))), (0, .ref (gad G 62)), (1, .ref (gad G 0)), (2, .int (zI v2))]) C d_G_shut_25 rfl rfl ?_
  obtain ⟨n11, h⟩ := h
  refine j_sub (L' := [(0, .ref (gad G 62)), (3, .int (zI (zXor (zShl 1 z1) (-1)))), (4, .int (zI z3)), (5, .int (zI z5))]) [3, 2, 1, 0] rfl ?_
  refine w_G_shut_L27 C (zXor_rg _ _) rz3 n11 σ z5 hσ rz5 h
set_option maxRecDepth 100000 in
set_option maxHeartbeats 4000000 in
theorem w_G_prepare_L36 {X : zX} {G : zG} (C : zC X G b_G_prepare "GateRoads$Gates" 5 (none) 2 51) {v2 : Int} {v3 : Int} (r2 : zR v2) (r3 : zR v3) {Q : zM → Prop} {k56 : zM → Prop} (hk56 : ∀ (σ : zM), zRM σ → k56 σ → zJ X G (zQv X G Q) 5 56 [(0, .ref (gad G 62)), (1, .ref (gad G 0)), (2, .int (zI v2))] [] σ) : ∀ (n : Nat) (σ : zM) (v4 : Int) (hσ : zRM σ) (r4 : zR v4), wp_G_prepare_L36 v2 v3 k56 Q n σ v4 → zJ X G (zQv X G Q) 5 36 [(0, .ref (gad G 62)), (1, .ref (gad G 0)), (2, .int (zI v2)), (3, .int (zI v3)), (4, .int (zI v4))] [] σ := by
  intro n
  induction n with
  | zero => intro σ v4 hσ r4 h; exact False.elim h
  | succ n ih =>
    intro σ v4 hσ r4 h
    rw [wp_G_prepare_L36] at h
    refine j_iload C d_G_prepare_36 4 rfl ?_
    refine j_iload_n C d_G_prepare_38 3 rfl rfl ?_
    refine j_icmp_ge (tgt := 56) C d_G_prepare_39 rfl r4 r3 (fun c => ?_) (fun c => ?_)
    · have h := h.1 c
      refine j_sub (L' := [(0, .ref (gad G 62)), (1, .ref (gad G 0)), (2, .int (zI v2))]) [0, 1, 2] rfl ?_
      exact hk56 σ hσ h
    · have h := h.2 c
      refine j_aload_n C d_G_prepare_42 0 rfl rfl ?_
      refine j_aload_n C d_G_prepare_43 1 rfl rfl ?_
      refine j_iload_n C d_G_prepare_44 2 rfl rfl ?_
      refine j_iload C d_G_prepare_45 4 rfl ?_
      refine j_callVv C d_G_prepare_47 ml_G_35 mi_G_letIn (c_G_letIn (xl X) (gD G) (gad G) (gca G) (v2 := v2) (v3 := v4) hσ r2 r4 h) sh_62 rfl rfl rfl rfl rfl rfl rfl (fun σ5 hσ5 h => ?_)
      obtain ⟨g6, h⟩ := h
      refine j_iinc (L' := [(4, .int (zI (v4 + 1))), (0, .ref (gad G 62)), (1, .ref (gad G 0)), (2, .int (zI v2)), (3, .int (zI v3))]) C d_G_prepare_50 4 rfl rfl rfl ?_
      refine j_goto (tgt := 36) C d_G_prepare_53 rfl ?_
      refine j_sub (L' := [(0, .ref (gad G 62)), (1, .ref (gad G 0)), (2, .int (zI v2)), (3, .int (zI v3)), (4, .int (zI (v4 + 1)))]) [1, 2, 3, 4, 0] rfl ?_
      exact ih σ5 (v4 + 1) hσ5 g6 h
set_option maxRecDepth 100000 in
set_option maxHeartbeats 4000000 in
theorem w_G_prepare_L18 {X : zX} {G : zG} (C : zC X G b_G_prepare "GateRoads$Gates" 5 (none) 2 51) {Q : zM → Prop} {k62 : zM → Prop} (hk62 : ∀ (σ : zM), zRM σ → k62 σ → zJ X G (zQv X G Q) 5 62 [(0, .ref (gad G 62)), (1, .ref (gad G 0))] [] σ) : ∀ (n : Nat) (σ : zM) (v2 : Int) (hσ : zRM σ) (r2 : zR v2), wp_G_prepare_L18 k62 Q n σ v2 → zJ X G (zQv X G Q) 5 18 [(0, .ref (gad G 62)), (1, .ref (gad G 0)), (2, .int (zI v2))] [] σ := by
  intro n
  induction n with
  | zero => intro σ v2 hσ r2 h; exact False.elim h
  | succ n ih =>
    intro σ v2 hσ r2 h
    rw [wp_G_prepare_L18] at h
    refine j_iload_n C d_G_prepare_18 2 rfl rfl ?_
    refine j_aload_n C d_G_prepare_19 1 rfl rfl ?_
    refine j_geti (kf := 5) (kI := 5) C d_G_prepare_20 sh_0 rfl i_S rfl rfl rfl fl_G_25 ?_
    refine j_icmp_ge (tgt := 62) C d_G_prepare_23 rfl r2 (hσ _ _) (fun c => ?_) (fun c => ?_)
    · have h := h.1 c
      refine j_sub (L' := [(0, .ref (gad G 62)), (1, .ref (gad G 0))]) [0, 1] rfl ?_
      exact hk62 σ hσ h
    · have h := h.2 c
      refine j_aload_n C d_G_prepare_26 1 rfl rfl ?_
      refine j_iload_n C d_G_prepare_27 2 rfl rfl ?_
      refine j_iconst C d_G_prepare_28 ?_
      refine j_callV C d_G_prepare_29 ml_G_31 mi_S_ofRoads (c_S_ofRoads (xl X) (gD G) (gad G) (gca G) (v1 := v2) (v2 := 4) hσ r2 (zR_of (x := 4) rfl) h) sh_0 rfl rfl rfl rfl rfl rfl rfl (fun z2 σ3 rz2 hσ3 h => ?_)
      obtain ⟨ez2, h⟩ := h; subst ez2
      refine j_istore_n (L' := [(3, .int (zI z2)), (0, .ref (gad G 62)), (1, .ref (gad G 0)), (2, .int (zI v2))]) C d_G_prepare_32 rfl rfl rfl ?_
      refine j_iconst C d_G_prepare_33 ?_
      refine j_istore (L' := [(4, .int (zI 0)), (3, .int (zI z2)), (0, .ref (gad G 62)), (1, .ref (gad G 0)), (2, .int (zI v2))]) C d_G_prepare_34 rfl rfl ?_
      obtain ⟨n9, h⟩ := h
      refine j_sub (L' := [(0, .ref (gad G 62)), (1, .ref (gad G 0)), (2, .int (zI v2)), (3, .int (zI z2)), (4, .int (zI 0))]) [2, 3, 4, 1, 0] rfl ?_
      refine w_G_prepare_L36 C r2 rz2 ?_ n9 σ 0 hσ (zR_of (x := 0) rfl) h
      · intro σ7 hσ7 h
        obtain ⟨g8, h⟩ := h
        refine j_iinc (L' := [(2, .int (zI (v2 + 1))), (0, .ref (gad G 62)), (1, .ref (gad G 0))]) C d_G_prepare_56 2 rfl rfl rfl ?_
        refine j_goto (tgt := 18) C d_G_prepare_59 rfl ?_
        refine j_sub (L' := [(0, .ref (gad G 62)), (1, .ref (gad G 0)), (2, .int (zI (v2 + 1)))]) [1, 2, 0] rfl ?_
        exact ih σ7 (v2 + 1) hσ7 g8 h
set_option maxRecDepth 100000 in
set_option maxHeartbeats 4000000 in
theorem w_G_prepare_L64 {X : zX} {G : zG} (C : zC X G b_G_prepare "GateRoads$Gates" 5 (none) 2 51) {Q : zM → Prop} : ∀ (n : Nat) (σ : zM) (v2 : Int) (hσ : zRM σ) (r2 : zR v2), wp_G_prepare_L64 Q n σ v2 → zJ X G (zQv X G Q) 5 64 [(0, .ref (gad G 62)), (1, .ref (gad G 0)), (2, .int (zI v2))] [] σ := by
  intro n
  induction n with
  | zero => intro σ v2 hσ r2 h; exact False.elim h
  | succ n ih =>
    intro σ v2 hσ r2 h
    rw [wp_G_prepare_L64] at h
    refine j_iload_n C d_G_prepare_64 2 rfl rfl ?_
    refine j_aload_n C d_G_prepare_65 1 rfl rfl ?_
    refine j_geti (kf := 6) (kI := 6) C d_G_prepare_66 sh_0 rfl i_S rfl rfl rfl fl_G_39 ?_
    refine j_icmp_ge (tgt := 84) C d_G_prepare_69 rfl r2 (hσ _ _) (fun c => ?_) (fun c => ?_)
    · have h := h.1 c
      refine j_aload_n C d_G_prepare_84 0 rfl rfl ?_
      refine j_iconst C d_G_prepare_85 ?_
      refine j_puti (kf := 1) (kI := 1) C t_G d_G_prepare_86 sh_62 rfl i_G t_G_ok n_G rfl rfl rfl fl_G_15 rfl (Or.inr ⟨rfl, by decide⟩) ?_
      refine j_mem (fun σ11 eσ11 => ?_)
      have h := h σ11 eσ11
      have hσ11 : zRM σ11 := by rw [eσ11]; exact zU_rg hσ _ _ (zR_of (x := 1) rfl)
      exact j_vreturn C d_G_prepare_89 hσ11 h
    · have h := h.2 c
      refine j_aload_n C d_G_prepare_72 0 rfl rfl ?_
      refine j_aload_n C d_G_prepare_73 1 rfl rfl ?_
      refine j_iload_n C d_G_prepare_74 2 rfl rfl ?_
      refine j_callVv C d_G_prepare_75 ml_G_42 mi_G_shut (c_G_shut (xl X) (gD G) (gad G) (gca G) (v2 := v2) hσ r2 h) sh_62 rfl rfl rfl rfl rfl rfl rfl (fun σ13 hσ13 h => ?_)
      obtain ⟨g14, h⟩ := h
      refine j_iinc (L' := [(2, .int (zI (v2 + 1))), (0, .ref (gad G 62)), (1, .ref (gad G 0))]) C d_G_prepare_78 2 rfl rfl rfl ?_
      refine j_goto (tgt := 64) C d_G_prepare_81 rfl ?_
      refine j_sub (L' := [(0, .ref (gad G 62)), (1, .ref (gad G 0)), (2, .int (zI (v2 + 1)))]) [1, 2, 0] rfl ?_
      exact ih σ13 (v2 + 1) hσ13 g14 h
set_option maxRecDepth 100000 in
set_option maxHeartbeats 4000000 in
theorem c_G_prepare (l : Launch) (D : va_G) (ad : Nat → Nat) (ca : Nat → ClassId) {σ : zM} {Q : zM → Prop} (hσ : zRM σ) (h : wp_G_prepare σ Q) : zCv l D ad ca y_G_prepare b_G_prepare 5 (zrm 2 51) [.ref (ad 62), .ref (ad 0)] σ Q := by
  refine zCv_of (by decide +kernel) (Nat.le_of_ble_eq_true rfl) ?_
  intro X G C hl hD had hca
  subst hl hD had hca
  have C : zC X G b_G_prepare "GateRoads$Gates" 5 (none) 2 51 := C
  show zJ X G (zQv X G Q) 5 0 [(0, .ref (gad G 62)), (1, .ref (gad G 0))] [] σ
  unfold wp_G_prepare at h
  refine j_aload_n C d_G_prepare_0 0 rfl rfl ?_
  refine j_geti (kf := 1) (kI := 1) C d_G_prepare_1 sh_62 rfl i_G rfl rfl rfl fl_G_15 ?_
  refine j_if_eq (tgt := 8) C d_G_prepare_4 rfl (hσ _ _) (fun c => ?_) (fun c => ?_)
  · have h := h.1 c
    refine j_aload_n C d_G_prepare_8 0 rfl rfl ?_
    refine j_getr (kf := 0) (m := 63) C d_G_prepare_9 sh_62 rfl i_G rfl rfl fl_G_9 ?_
    refine j_iconst C d_G_prepare_12 ?_
    refine j_callSv C d_G_prepare_13 ml_G_19 ms_Ar_fill_0 (c_Ar_fill_0 (xl X) (gD G) (gad G) (gca G) hσ sh_63 (zR_of (x := 0) rfl)) rfl rfl rfl rfl rfl (fun σ1 hσ1 eσ1 => ?_)
    have h := h σ1 eσ1
    refine j_iconst C d_G_prepare_16 ?_
    refine j_istore_n (L' := [(2, .int (zI 0)), (0, .ref (gad G 62)), (1, .ref (gad G 0))]) C d_G_prepare_17 rfl rfl rfl ?_
    obtain ⟨n16, h⟩ := h
    refine j_sub (L' := [(0, .ref (gad G 62)), (1, .ref (gad G 0)), (2, .int (zI 0))]) [1, 2, 0] rfl ?_
    refine w_G_prepare_L18 C ?_ n16 σ1 0 hσ1 (zR_of (x := 0) rfl) h
    · intro σ10 hσ10 h
      refine j_iconst C d_G_prepare_62 ?_
      refine j_istore_n (L' := [(2, .int (zI 0)), (0, .ref (gad G 62)), (1, .ref (gad G 0))]) C d_G_prepare_63 rfl rfl rfl ?_
      obtain ⟨n15, h⟩ := h
      refine j_sub (L' := [(0, .ref (gad G 62)), (1, .ref (gad G 0)), (2, .int (zI 0))]) [1, 2, 0] rfl ?_
      refine w_G_prepare_L64 C n15 σ10 0 hσ10 (zR_of (x := 0) rfl) h
  · have h := h.2 c
    exact j_vreturn C d_G_prepare_7 hσ h
set_option maxRecDepth 100000 in
set_option maxHeartbeats 4000000 in
theorem c_O_start (l : Launch) (D : va_G) (ad : Nat → Nat) (ca : Nat → ClassId) {σ : zM} {o : Nat} {v1 : Int} {v2 : Int} {Q : zM → Prop} (hσ : zRM σ) (ho : zOn o) (r1 : zR v1) (r2 : zR v2) (h : wp_O_start σ o v1 v2 Q) : zCv l D ad ca y_O_start b_O_start 3 (zrm 1 23) [.ref (ad o), .int (zI v1), .int (zI v2)] σ Q := by
  refine zCv_of (by decide +kernel) (Nat.le_of_ble_eq_true rfl) ?_
  intro X G C hl hD had hca
  subst hl hD had hca
  have C : zC X G b_O_start "GateRoads$Onward" 3 (none) 1 23 := C
  show zJ X G (zQv X G Q) 3 0 [(0, .ref (gad G o)), (1, .int (zI v1)), (2, .int (zI v2))] [] σ
  unfold wp_O_start at h
  refine j_aload_n C d_O_start_0 0 rfl rfl ?_
  refine j_getr (kf := 0) (m := o + 1) C d_O_start_1 ho.1 rfl i_O rfl rfl fl_O_9 ?_
  refine j_iconst C d_O_start_4 ?_
  refine j_callSv C d_O_start_5 ml_O_18 ms_Ar_fill_0 (c_Ar_fill_0 (xl X) (gD G) (gad G) (gca G) hσ ho.2.1 (zR_of (x := 0) rfl)) rfl rfl rfl rfl rfl (fun σ1 hσ1 eσ1 => ?_)
  have h := h σ1 eσ1
  refine j_aload_n C d_O_start_8 0 rfl rfl ?_
  refine j_getr (kf := 1) (m := o + 2) C d_O_start_9 ho.1 rfl i_O rfl rfl fl_O_15 ?_
  refine j_bipush C d_O_start_12 rfl ?_
  refine j_callSv C d_O_start_14 ml_O_18 ms_Ar_fill_0 (c_Ar_fill_0 (xl X) (gD G) (gad G) (gca G) hσ1 ho.2.2 (zR_of (x := (-6)) rfl)) rfl rfl rfl rfl rfl (fun σ2 hσ2 eσ2 => ?_)
  have h := h σ2 eσ2
  refine j_aload_n C d_O_start_17 0 rfl rfl ?_
  refine j_getr (kf := 1) (m := o + 2) C d_O_start_18 ho.1 rfl i_O rfl rfl fl_O_15 ?_
  refine j_iload_n C d_O_start_21 1 rfl rfl ?_
  refine j_iload_n C d_O_start_22 2 rfl rfl ?_
  obtain ⟨g3, h⟩ := h
  refine j_iastore C d_O_start_23 ho.2.2 g3 ?_
  refine j_mem (fun σ4 eσ4 => ?_)
  have h := h σ4 eσ4
  have hσ4 : zRM σ4 := by rw [eσ4]; exact zU_rg hσ2 _ _ r2
  exact j_vreturn C d_O_start_24 hσ4 h
set_option maxRecDepth 100000 in
set_option maxHeartbeats 4000000 in
theorem c_O_comersAt (l : Launch) (D : va_G) (ad : Nat → Nat) (ca : Nat → ClassId) {σ : zM} {o : Nat} {v1 : Int} {Q : Int → Prop} (hσ : zRM σ) (ho : zOn o) (r1 : zR v1) (h : wp_O_comersAt σ o v1 Q) : zCi l D ad ca y_O_comersAt b_O_comersAt 2 (some .int) (zrm 0 0) [.ref (ad o), .int (zI v1)] σ (fun z u => σ = u ∧ Q z) := by
  refine zCi_of (by decide +kernel) (Nat.le_of_ble_eq_true rfl) ?_
  intro X G C hl hD had hca
  subst hl hD had hca
  have C : zC X G b_O_comersAt "GateRoads$Onward" 2 (some .int) 0 0 := C
  show zJ X G (zQi X G (fun z u => σ = u ∧ Q z)) 2 0 [(0, .ref (gad G o)), (1, .int (zI v1))] [] σ
  unfold wp_O_comersAt at h
  refine j_aload_n C d_O_comersAt_0 0 rfl rfl ?_
  refine j_getr (kf := 0) (m := o + 1) C d_O_comersAt_1 ho.1 rfl i_O rfl rfl fl_O_9 ?_
  refine j_iload_n C d_O_comersAt_4 1 rfl rfl ?_
  refine j_sipush C d_O_comersAt_5 rfl ?_
  refine j_iand C d_O_comersAt_8 ?_
  obtain ⟨g1, h⟩ := h
  refine j_iaload C d_O_comersAt_9 ho.2.1 g1 ?_
  exact j_ireturn C d_O_comersAt_10 (hσ _ _) hσ ⟨rfl, h⟩
set_option maxRecDepth 100000 in
set_option maxHeartbeats 4000000 in
theorem c_X_has (l : Launch) (D : va_G) (ad : Nat → Nat) (ca : Nat → ClassId) {σ : zM} {v0 : Int} {v1 : Int} {Q : Int → Prop} (hσ : zRM σ) (r0 : zR v0) (r1 : zR v1) (h : wp_X_has σ v0 v1 Q) : zCi l D ad ca y_X_has b_X_has 2 (some .boolean) (zrm 0 0) [.int (zI v0), .int (zI v1)] σ (fun z u => σ = u ∧ Q z) := by
  refine zCi_of (by decide +kernel) (Nat.le_of_ble_eq_true rfl) ?_
  intro X G C hl hD had hca
  subst hl hD had hca
  have C : zC X G b_X_has "GateRoads" 2 (some .boolean) 0 0 := C
  show zJ X G (zQi X G (fun z u => σ = u ∧ Q z)) 2 0 [(0, .int (zI v0)), (1, .int (zI v1))] [] σ
  unfold wp_X_has at h
  refine j_iload_n C d_X_has_0 0 rfl rfl ?_
  refine j_iload_n C d_X_has_1 1 rfl rfl ?_
  refine j_iushr C d_X_has_2 ?_
  refine j_iconst C d_X_has_3 ?_
  refine j_iand C d_X_has_4 ?_
  refine j_if_eq (tgt := 12) C d_X_has_5 rfl (zAnd_rg _ _) (fun c => ?_) (fun c => ?_)
  · have h := h.1 c
    refine j_iconst C d_X_has_12 ?_
    exact j_zreturn C d_X_has_13 (by decide) hσ ⟨rfl, h⟩
  · have h := h.2 c
    refine j_iconst C d_X_has_8 ?_
    refine j_goto (tgt := 13) C d_X_has_9 rfl ?_
    exact j_zreturn C d_X_has_13 (by decide) hσ ⟨rfl, h⟩
set_option maxRecDepth 100000 in
set_option maxHeartbeats 4000000 in
theorem c_G_at (l : Launch) (D : va_G) (ad : Nat → Nat) (ca : Nat → ClassId) {σ : zM} {v1 : Int} {Q : Int → Prop} (hσ : zRM σ) (r1 : zR v1) (h : wp_G_at σ v1 Q) : zCi l D ad ca y_G_at b_G_at 2 (some .int) (zrm 0 0) [.ref (ad 62), .int (zI v1)] σ (fun z u => σ = u ∧ Q z) := by
  refine zCi_of (by decide +kernel) (Nat.le_of_ble_eq_true rfl) ?_
  intro X G C hl hD had hca
  subst hl hD had hca
  have C : zC X G b_G_at "GateRoads$Gates" 2 (some .int) 0 0 := C
  show zJ X G (zQi X G (fun z u => σ = u ∧ Q z)) 2 0 [(0, .ref (gad G 62)), (1, .int (zI v1))] [] σ
  unfold wp_G_at at h
  refine j_iload_n C d_G_at_0 1 rfl rfl ?_
  refine j_if_lt (tgt := 20) C d_G_at_1 rfl r1 (fun c => ?_) (fun c => ?_)
  · have h := h.1 c
    refine j_iconst C d_G_at_20 ?_
    exact j_ireturn C d_G_at_21 (zR_of (x := 0) rfl) hσ ⟨rfl, h⟩
  · have h := h.2 c
    refine j_iload_n C d_G_at_4 1 rfl rfl ?_
    refine j_sipush C d_G_at_5 rfl ?_
    refine j_icmp_gt (tgt := 20) C d_G_at_8 rfl r1 (zR_of (x := 2880) rfl) (fun c => ?_) (fun c => ?_)
    · have h := h.1 c
      refine j_iconst C d_G_at_20 ?_
      exact j_ireturn C d_G_at_21 (zR_of (x := 0) rfl) hσ ⟨rfl, h⟩
    · have h := h.2 c
      refine j_aload_n C d_G_at_11 0 rfl rfl ?_
      refine j_getr (kf := 0) (m := 63) C d_G_at_12 sh_62 rfl i_G rfl rfl fl_G_9 ?_
      refine j_iload_n C d_G_at_15 1 rfl rfl ?_
      obtain ⟨g1, h⟩ := h
      refine j_iaload C d_G_at_16 sh_63 g1 ?_
      refine j_goto (tgt := 21) C d_G_at_17 rfl ?_
      exact j_ireturn C d_G_at_21 (hσ _ _) hσ ⟨rfl, h⟩
set_option maxRecDepth 100000 in
set_option maxHeartbeats 4000000 in
theorem c_S_waitEnd (l : Launch) (D : va_G) (ad : Nat → Nat) (ca : Nat → ClassId) {σ : zM} {v1 : Int} {v2 : Int} {Q : Int → Prop} (hσ : zRM σ) (r1 : zR v1) (r2 : zR v2) (h : wp_S_waitEnd σ v1 v2 Q) : zCi l D ad ca y_S_waitEnd b_S_waitEnd 4 (some .int) (zrm 2 47) [.ref (ad 0), .int (zI v1), .int (zI v2)] σ (fun z u => σ = u ∧ Q z) := by
  refine zCi_of (by decide +kernel) (Nat.le_of_ble_eq_true rfl) ?_
  intro X G C hl hD had hca
  subst hl hD had hca
  have C : zC X G b_S_waitEnd "GateRoads$State" 4 (some .int) 2 47 := C
  show zJ X G (zQi X G (fun z u => σ = u ∧ Q z)) 4 0 [(0, .ref (gad G 0)), (1, .int (zI v1)), (2, .int (zI v2))] [] σ
  unfold wp_S_waitEnd at h
  refine j_aload_n C d_S_waitEnd_0 0 rfl rfl ?_
  refine j_iload_n C d_S_waitEnd_1 1 rfl rfl ?_
  refine j_iload_n C d_S_waitEnd_2 2 rfl rfl ?_
  refine j_callV C d_S_waitEnd_3 ml_S_76 mi_S_openUntil (c_S_openUntil (xl X) (gD G) (gad G) (gca G) (v1 := v1) (v2 := v2) hσ r1 r2 h) sh_0 rfl rfl rfl rfl rfl rfl rfl (fun z1 σ2 rz1 hσ2 h => ?_)
  obtain ⟨ez1, h⟩ := h; subst ez1
  refine j_iload_n C d_S_waitEnd_6 2 rfl rfl ?_
  refine j_aload_n C d_S_waitEnd_7 0 rfl rfl ?_
  refine j_iload_n C d_S_waitEnd_8 1 rfl rfl ?_
  refine j_iconst C d_S_waitEnd_9 ?_
  refine j_callV C d_S_waitEnd_10 ml_S_73 mi_S_ofRooms (c_S_ofRooms (xl X) (gD G) (gad G) (gca G) (v1 := v1) (v2 := 2) hσ r1 (zR_of (x := 2) rfl) h) sh_0 rfl rfl rfl rfl rfl rfl rfl (fun z3 σ4 rz3 hσ4 h => ?_)
  obtain ⟨ez3, h⟩ := h; subst ez3
  refine j_iadd C d_S_waitEnd_13 ?_
  obtain ⟨g5, h⟩ := h
  refine j_min C d_S_waitEnd_14 ml_S_79 zs_min zi_Math zc_min rfl rfl rz1 g5 ?_
  refine j_istore_n (L' := [(3, .int (zI (min z1 (v2 + z3)))), (0, .ref (gad G 0)), (1, .int (zI v1)), (2, .int (zI v2))]) C d_S_waitEnd_17 rfl rfl rfl ?_
  refine j_iload_n C d_S_waitEnd_18 0 rfl rfl ?_
  refine j_sipush C d_S_waitEnd_19 rfl ?_
  refine j_min C d_S_waitEnd_22 ml_S_79 zs_min zi_Math zc_min rfl rfl (zMin_rg rz1 g5) (zR_of (x := 2880) rfl) ?_
  exact j_ireturn C d_S_waitEnd_25 (zMin_rg (zMin_rg rz1 g5) (zR_of (x := 2880) rfl)) hσ ⟨rfl, h⟩
set_option maxRecDepth 100000 in
set_option maxHeartbeats 4000000 in
theorem w_O_leave_b70 {X : zX} {G : zG} (C : zC X G b_O_leave "GateRoads$Onward" 7 (none) 1 22) {o : Nat} {v2 : Int} {v3 : Int} {v4 : Int} (ho : zOn o) (r2 : zR v2) (r3 : zR v3) (r4 : zR v4) {Q : zM → Prop} {k3 : zM → Int → Prop} (hk3 : ∀ (σ : zM) (v5 : Int), zRM σ → zR v5 → k3 σ v5 → zJ X G (zQv X G Q) 7 3 [(0, .ref (gad G o)), (1, .ref (gad G 0)), (2, .int (zI v2)), (3, .int (zI v3)), (4, .int (zI v4)), (5, .int (zI v5))] [] σ) (σ : zM) (v5 : Int) (hσ : zRM σ) (r5 : zR v5) (h : wp_O_leave_b70 o v2 v3 v4 k3 Q σ v5) : zJ X G (zQv X G Q) 7 70 [(0, .ref (gad G o)), (1, .ref (gad G 0)), (2, .int (zI v2)), (3, .int (zI v3)), (4, .int (zI v4)), (5, .int (zI v5))] [] σ := by
  unfold wp_O_leave_b70 at h
  obtain ⟨g3, h⟩ := h
  refine j_iinc (L' := [(5, .int (zI (v5 + 1))), (0, .ref (gad G o)), (1, .ref (gad G 0)), (2, .int (zI v2)), (3, .int (zI v3)), (4, .int (zI v4))]) C d_O_leave_70 5 rfl rfl rfl ?_
  refine j_goto (tgt := 3) C d_O_leave_73 rfl ?_
  refine j_sub (L' := [(0, .ref (gad G o)), (1, .ref (gad G 0)), (2, .int (zI v2)), (3, .int (zI v3)), (4, .int (zI v4)), (5, .int (zI (v5 + 1)))]) [1, 2, 3, 4, 5, 0] rfl ?_
  exact hk3 σ (v5 + 1) hσ g3 h
set_option maxRecDepth 100000 in
set_option maxHeartbeats 4000000 in
theorem w_O_leave_L3 {X : zX} {G : zG} (C : zC X G b_O_leave "GateRoads$Onward" 7 (none) 1 22) {o : Nat} {v2 : Int} {v3 : Int} {v4 : Int} (ho : zOn o) (r2 : zR v2) (r3 : zR v3) (r4 : zR v4) {Q : zM → Prop} : ∀ (n : Nat) (σ : zM) (v5 : Int) (hσ : zRM σ) (r5 : zR v5), wp_O_leave_L3 o v2 v3 v4 Q n σ v5 → zJ X G (zQv X G Q) 7 3 [(0, .ref (gad G o)), (1, .ref (gad G 0)), (2, .int (zI v2)), (3, .int (zI v3)), (4, .int (zI v4)), (5, .int (zI v5))] [] σ := by
  intro n
  induction n with
  | zero => intro σ v5 hσ r5 h; exact False.elim h
  | succ n ih =>
    intro σ v5 hσ r5 h
    rw [wp_O_leave_L3] at h
    refine j_iload C d_O_leave_3 5 rfl ?_
    refine j_aload_n C d_O_leave_5 1 rfl rfl ?_
    refine j_geti (kf := 5) (kI := 5) C d_O_leave_6 sh_0 rfl i_S rfl rfl rfl fl_O_43 ?_
    refine j_icmp_ge (tgt := 76) C d_O_leave_9 rfl r5 (hσ _ _) (fun c => ?_) (fun c => ?_)
    · have h := h.1 c
      exact j_vreturn C d_O_leave_76 hσ h
    · have h := h.2 c
      refine j_iload_n C d_O_leave_12 2 rfl rfl ?_
      refine j_iload C d_O_leave_13 5 rfl ?_
      refine j_callSN (host := "GateRoads") C d_O_leave_15 (by decide) ms_X_has (c_X_has (xl X) (gD G) (gad G) (gca G) (v0 := v2) (v1 := v5) hσ r2 r5 h) rfl rfl rfl rfl rfl (fun z1 σ2 rz1 hσ2 h => ?_)
      obtain ⟨ez1, h⟩ := h; subst ez1
      refine j_if_eq (tgt := 70) C d_O_leave_18 rfl rz1 (fun c => ?_) (fun c => ?_)
      · have h := h.1 c
        refine w_O_leave_b70 C ho r2 r3 r4 ih σ v5 hσ r5 h
      · have h := h.2 c
        refine j_iload_n C d_O_leave_21 3 rfl rfl ?_
        refine j_aload_n C d_O_leave_22 1 rfl rfl ?_
        refine j_iload C d_O_leave_23 5 rfl ?_
        refine j_iconst C d_O_leave_25 ?_
        refine j_callV C d_O_leave_26 ml_O_47 mi_S_ofRoads (c_S_ofRoads (xl X) (gD G) (gad G) (gca G) (v1 := v5) (v2 := 0) hσ r5 (zR_of (x := 0) rfl) h) sh_0 rfl rfl rfl rfl rfl rfl rfl (fun z4 σ5 rz4 hσ5 h => ?_)
        obtain ⟨ez4, h⟩ := h; subst ez4
        refine j_callSN (host := "GateRoads") C d_O_leave_29 (by decide) ms_X_has (c_X_has (xl X) (gD G) (gad G) (gca G) (v0 := v3) (v1 := z4) hσ r3 rz4 h) rfl rfl rfl rfl rfl (fun z6 σ7 rz6 hσ7 h => ?_)
        obtain ⟨ez6, h⟩ := h; subst ez6
        refine j_if_eq (tgt := 70) C d_O_leave_32 rfl rz6 (fun c => ?_) (fun c => ?_)
        · have h := h.1 c
          refine w_O_leave_b70 C ho r2 r3 r4 ih σ v5 hσ r5 h
        · have h := h.2 c
          refine j_iload C d_O_leave_35 4 rfl ?_
          refine j_aload_n C d_O_leave_37 1 rfl rfl ?_
          refine j_iload C d_O_leave_38 5 rfl ?_
          refine j_iconst C d_O_leave_40 ?_
          refine j_callV C d_O_leave_41 ml_O_47 mi_S_ofRoads (c_S_ofRoads (xl X) (gD G) (gad G) (gca G) (v1 := v5) (v2 := 2) hσ r5 (zR_of (x := 2) rfl) h) sh_0 rfl rfl rfl rfl rfl rfl rfl (fun z8 σ9 rz8 hσ9 h => ?_)
          obtain ⟨ez8, h⟩ := h; subst ez8
          refine j_iadd C d_O_leave_44 ?_
          obtain ⟨g10, h⟩ := h
          refine j_istore (L' := [(6, .int (zI (v4 + z8))), (0, .ref (gad G o)), (1, .ref (gad G 0)), (2, .int (zI v2)), (3, .int (zI v3)), (4, .int (zI v4)), (5, .int (zI v5))]) C d_O_leave_45 rfl rfl ?_
          refine j_aload_n C d_O_leave_47 1 rfl rfl ?_
          refine j_getr (kf := 0) (m := o + 1) C d_O_leave_48 ho.1 rfl i_O rfl rfl fl_O_9 ?_
          refine j_iload C d_O_leave_51 0 rfl ?_
          refine j_sipush C d_O_leave_53 rfl ?_
          refine j_iand C d_O_leave_56 ?_
          refine j_dup2 C d_O_leave_57 rfl rfl ?_
          obtain ⟨g11, h⟩ := h
          refine j_iaload C d_O_leave_58 ho.2.1 g11 ?_
          refine j_iconst C d_O_leave_59 ?_
          refine j_aload_n C d_O_leave_60 2 rfl rfl ?_
          refine j_iload C d_O_leave_61 6 rfl ?_
          refine j_iconst C d_O_leave_63 ?_
          refine j_callV C d_O_leave_64 ml_O_47 mi_S_ofRoads (c_S_ofRoads (xl X) (gD G) (gad G) (gca G) (v1 := v5) (v2 := 1) hσ r5 (zR_of (x := 1) rfl) h) sh_0 rfl rfl rfl rfl rfl rfl rfl (fun z12 σ13 rz12 hσ13 h => ?_)
          obtain ⟨ez12, h⟩ := h; subst ez12
          refine j_ishl C d_O_leave_67 ?_
          refine j_ior C d_O_leave_68 ?_
          obtain ⟨g14, h⟩ := h
          refine j_iastore C d_O_leave_69 ho.2.1 g14 ?_
          refine j_mem (fun σ15 eσ15 => ?_)
          have h := h σ15 eσ15
          have hσ15 : zRM σ15 := by rw [eσ15]; exact zU_rg hσ _ _ (zOr_rg _ _)
          refine j_sub (L' := [(0, .ref (gad G o)), (1, .ref (gad G 0)), (2, .int (zI v2)), (3, .int (zI v3)), (4, .int (zI v4)), (5, .int (zI v5))]) [1, 2, 3, 4, 5, 6] rfl ?_
          refine w_O_leave_b70 C ho r2 r3 r4 ih σ15 v5 hσ15 r5 h
set_option maxRecDepth 100000 in
set_option maxHeartbeats 4000000 in
theorem c_O_leave (l : Launch) (D : va_G) (ad : Nat → Nat) (ca : Nat → ClassId) {σ : zM} {o : Nat} {v2 : Int} {v3 : Int} {v4 : Int} {Q : zM → Prop} (hσ : zRM σ) (ho : zOn o) (r2 : zR v2) (r3 : zR v3) (r4 : zR v4) (h : wp_O_leave σ o v2 v3 v4 Q) : zCv l D ad ca y_O_leave b_O_leave 7 (zrm 1 22) [.ref (ad o), .ref (ad 0), .int (zI v2), .int (zI v3), .int (zI v4)] σ Q := by
  refine zCv_of (by decide +kernel) (Nat.le_of_ble_eq_true rfl) ?_
  intro X G C hl hD had hca
  subst hl hD had hca
  have C : zC X G b_O_leave "GateRoads$Onward" 7 (none) 1 22 := C
  show zJ X G (zQv X G Q) 7 0 [(0, .ref (gad G o)), (1, .ref (gad G 0)), (2, .int (zI v2)), (3, .int (zI v3)), (4, .int (zI v4))] [] σ
  unfold wp_O_leave at h
  refine j_iconst C d_O_leave_0 ?_
  refine j_istore (L' := [(5, .int (zI 0)), (0, .ref (gad G o)), (1, .ref (gad G 0)), (2, .int (zI v2)), (3, .int (zI v3)), (4, .int (zI v4))]) C d_O_leave_1 rfl rfl ?_
  obtain ⟨n16, h⟩ := h
  refine j_sub (L' := [(0, .ref (gad G o)), (1, .ref (gad G 0)), (2, .int (zI v2)), (3, .int (zI v3)), (4, .int (zI v4)), (5, .int (zI 0))]) [1, 2, 3, 4, 5, 0] rfl ?_
  refine w_O_leave_L3 C ho r2 r3 r4 n16 σ 0 hσ (zR_of (x := 0) rfl) h
set_option maxRecDepth 100000 in
set_option maxHeartbeats 4000000 in
theorem w_O_minute_b90 {X : zX} {G : zG} (C : zC X G b_O_minute "GateRoads$Onward" 7 (some .int) 3 70) {o : Nat} {v2 : Int} {v3 : Int} {v5 : Int} (ho : zOn o) (r2 : zR v2) (r3 : zR v3) (r5 : zR v5) {Q : Int → zM → Prop} {k29 : zM → Int → Int → Prop} (hk29 : ∀ (σ : zM) (v4 : Int) (v6 : Int), zRM σ → zR v4 → zR v6 → k29 σ v4 v6 → zJ X G (zQi X G Q) 7 29 [(0, .ref (gad G o)), (1, .ref (gad G 0)), (2, .int (zI v2)), (3, .int (zI v3)), (4, .int (zI v4)), (5, .int (zI v5)), (6, .int (zI v6))] [] σ) (σ : zM) (v4 : Int) (v6 : Int) (hσ : zRM σ) (r4 : zR v4) (r6 : zR v6) (h : wp_O_minute_b90 o v2 v3 v5 k29 Q σ v4 v6) : zJ X G (zQi X G Q) 7 90 [(0, .ref (gad G o)), (1, .ref (gad G 0)), (2, .int (zI v2)), (3, .int (zI v3)), (4, .int (zI v4)), (5, .int (zI v5)), (6, .int (zI v6))] [] σ := by
  unfold wp_O_minute_b90 at h
  obtain ⟨g9, h⟩ := h
  refine j_iinc (L' := [(6, .int (zI (v6 + 1))), (0, .ref (gad G o)), (1, .ref (gad G 0)), (2, .int (zI v2)), (3, .int (zI v3)), (4, .int (zI v4)), (5, .int (zI v5))]) C d_O_minute_90 6 rfl rfl rfl ?_
  refine j_goto (tgt := 29) C d_O_minute_93 rfl ?_
  refine j_sub (L' := [(0, .ref (gad G o)), (1, .ref (gad G 0)), (2, .int (zI v2)), (3, .int (zI v3)), (4, .int (zI v4)), (5, .int (zI v5)), (6, .int (zI (v6 + 1)))]) [1, 2, 3, 4, 5, 6, 0] rfl ?_
  exact hk29 σ v4 (v6 + 1) hσ r4 g9 h
set_option maxRecDepth 100000 in
set_option maxHeartbeats 4000000 in
theorem w_O_minute_b70 {X : zX} {G : zG} (C : zC X G b_O_minute "GateRoads$Onward" 7 (some .int) 3 70) {o : Nat} {v2 : Int} {v3 : Int} {v5 : Int} (ho : zOn o) (r2 : zR v2) (r3 : zR v3) (r5 : zR v5) {Q : Int → zM → Prop} {k29 : zM → Int → Int → Prop} (hk29 : ∀ (σ : zM) (v4 : Int) (v6 : Int), zRM σ → zR v4 → zR v6 → k29 σ v4 v6 → zJ X G (zQi X G Q) 7 29 [(0, .ref (gad G o)), (1, .ref (gad G 0)), (2, .int (zI v2)), (3, .int (zI v3)), (4, .int (zI v4)), (5, .int (zI v5)), (6, .int (zI v6))] [] σ) (σ : zM) (v4 : Int) (v6 : Int) (hσ : zRM σ) (r4 : zR v4) (r6 : zR v6) (h : wp_O_minute_b70 o v2 v3 v5 k29 Q σ v4 v6) : zJ X G (zQi X G Q) 7 70 [(0, .ref (gad G o)), (1, .ref (gad G 0)), (2, .int (zI v2)), (3, .int (zI v3)), (4, .int (zI v4)), (5, .int (zI v5)), (6, .int (zI v6))] [] σ := by
  unfold wp_O_minute_b70 at h
  refine j_aload_n C d_O_minute_70 0 rfl rfl ?_
  refine j_getr (kf := 1) (m := o + 2) C d_O_minute_71 ho.1 rfl i_O rfl rfl fl_O_15 ?_
  refine j_iload C d_O_minute_74 6 rfl ?_
  obtain ⟨g8, h⟩ := h
  refine j_iaload C d_O_minute_76 ho.2.2 g8 ?_
  refine j_iload_n C d_O_minute_77 3 rfl rfl ?_
  refine j_icmp_lt (tgt := 90) C d_O_minute_78 rfl (hσ _ _) r3 (fun c => ?_) (fun c => ?_)
  · have h := h.1 c
    refine w_O_minute_b90 C ho r2 r3 r5 hk29 σ v4 v6 hσ r4 r6 h
  · have h := h.2 c
    refine j_iload C d_O_minute_81 4 rfl ?_
    refine j_iconst C d_O_minute_83 ?_
    refine j_iload C d_O_minute_84 6 rfl ?_
    refine j_ishl C d_O_minute_86 ?_
    refine j_ior C d_O_minute_87 ?_
    refine j_istore (L' := [(4, .int (zI (zOr v4 (zShl 1 v6)))), (0, .ref (gad G o)), (1, .ref (gad G 0)), (2, .int (zI v2)), (3, .int (zI v3)), (5, .int (zI v5)), (6, .int (zI v6))]) C d_O_minute_88 rfl rfl ?_
    refine j_sub (L' := [(0, .ref (gad G o)), (1, .ref (gad G 0)), (2, .int (zI v2)), (3, .int (zI v3)), (4, .int (zI (zOr v4 (zShl 1 v6)))), (5, .int (zI v5)), (6, .int (zI v6))]) [1, 2, 3, 4, 0, 5, 6] rfl ?_
    refine w_O_minute_b90 C ho r2 r3 r5 hk29 σ (zOr v4 (zShl 1 v6)) v6 hσ (zOr_rg _ _) r6 h
set_option maxRecDepth 100000 in
set_option maxHeartbeats 4000000 in
theorem w_O_minute_L29 {X : zX} {G : zG} (C : zC X G b_O_minute "GateRoads$Onward" 7 (some .int) 3 70) {o : Nat} {v2 : Int} {v3 : Int} {v5 : Int} (ho : zOn o) (r2 : zR v2) (r3 : zR v3) (r5 : zR v5) {Q : Int → zM → Prop} : ∀ (n : Nat) (σ : zM) (v4 : Int) (v6 : Int) (hσ : zRM σ) (r4 : zR v4) (r6 : zR v6), wp_O_minute_L29 o v2 v3 v5 Q n σ v4 v6 → zJ X G (zQi X G Q) 7 29 [(0, .ref (gad G o)), (1, .ref (gad G 0)), (2, .int (zI v2)), (3, .int (zI v3)), (4, .int (zI v4)), (5, .int (zI v5)), (6, .int (zI v6))] [] σ := by
  intro n
  induction n with
  | zero => intro σ v4 v6 hσ r4 r6 h; exact False.elim h
  | succ n ih =>
    intro σ v4 v6 hσ r4 r6 h
    rw [wp_O_minute_L29] at h
    refine j_iload C d_O_minute_29 6 rfl ?_
    refine j_bipush C d_O_minute_31 rfl ?_
    refine j_icmp_ge (tgt := 96) C d_O_minute_33 rfl r6 (zR_of (x := 8) rfl) (fun c => ?_) (fun c => ?_)
    · have h := h.1 c
      refine j_iload C d_O_minute_96 4 rfl ?_
      refine j_if_eq (tgt := 114) C d_O_minute_98 rfl r4 (fun c => ?_) (fun c => ?_)
      · have h := h.1 c
        refine j_iload C d_O_minute_114 4 rfl ?_
        exact j_ireturn C d_O_minute_116 r4 hσ h
      · have h := h.2 c
        refine j_iload_n C d_O_minute_101 2 rfl rfl ?_
        refine j_if_eq (tgt := 114) C d_O_minute_102 rfl r2 (fun c => ?_) (fun c => ?_)
        · have h := h.1 c
          refine j_iload C d_O_minute_114 4 rfl ?_
          exact j_ireturn C d_O_minute_116 r4 hσ h
        · have h := h.2 c
          refine j_aload_n C d_O_minute_105 0 rfl rfl ?_
          refine j_aload_n C d_O_minute_106 1 rfl rfl ?_
          refine j_iload_n C d_O_minute_107 2 rfl rfl ?_
          refine j_iload C d_O_minute_108 4 rfl ?_
          refine j_iload_n C d_O_minute_110 3 rfl rfl ?_
          refine j_callVv C d_O_minute_111 ml_O_39 mi_O_leave (c_O_leave (xl X) (gD G) (gad G) (gca G) (o := o) (v2 := v2) (v3 := v4) (v4 := v3) hσ ho r2 r4 r3 h) ho.1 rfl rfl rfl rfl rfl rfl rfl (fun σ5 hσ5 h => ?_)
          refine j_iload C d_O_minute_114 4 rfl ?_
          exact j_ireturn C d_O_minute_116 r4 hσ5 h
    · have h := h.2 c
      refine j_iload C d_O_minute_36 5 rfl ?_
      refine j_iload C d_O_minute_38 6 rfl ?_
      refine j_callSN (host := "GateRoads") C d_O_minute_40 (by decide) ms_X_has (c_X_has (xl X) (gD G) (gad G) (gca G) (v0 := v5) (v1 := v6) hσ r5 r6 h) rfl rfl rfl rfl rfl (fun z6 σ7 rz6 hσ7 h => ?_)
      obtain ⟨ez6, h⟩ := h; subst ez6
      refine j_if_eq (tgt := 70) C d_O_minute_43 rfl rz6 (fun c => ?_) (fun c => ?_)
      · have h := h.1 c
        refine w_O_minute_b70 C ho r2 r3 r5 ih σ v4 v6 hσ r4 r6 h
      · have h := h.2 c
        refine j_aload_n C d_O_minute_46 0 rfl rfl ?_
        refine j_getr (kf := 1) (m := o + 2) C d_O_minute_47 ho.1 rfl i_O rfl rfl fl_O_15 ?_
        refine j_iload C d_O_minute_50 6 rfl ?_
        refine j_aload_n C d_O_minute_52 0 rfl rfl ?_
        refine j_getr (kf := 1) (m := o + 2) C d_O_minute_53 ho.1 rfl i_O rfl rfl fl_O_15 ?_
        refine j_iload C d_O_minute_56 6 rfl ?_
        obtain ⟨g10, h⟩ := h
        refine j_iaload C d_O_minute_58 ho.2.2 g10 ?_
        refine j_aload_n C d_O_minute_59 1 rfl rfl ?_
        refine j_iload C d_O_minute_60 6 rfl ?_
        refine j_iload_n C d_O_minute_62 3 rfl rfl ?_
        refine j_callV C d_O_minute_63 ml_O_28 mi_S_waitEnd (c_S_waitEnd (xl X) (gD G) (gad G) (gca G) (v1 := v6) (v2 := v3) hσ r6 r3 h) sh_0 rfl rfl rfl rfl rfl rfl rfl (fun z11 σ12 rz11 hσ12 h => ?_)
        obtain ⟨ez11, h⟩ := h; subst ez11
        refine j_max C d_O_minute_66 ml_O_34 zs_max zi_Math zc_max rfl rfl (hσ _ _) rz11 ?_
        obtain ⟨g13, h⟩ := h
        refine j_iastore C d_O_minute_69 ho.2.2 g13 ?_
        refine j_mem (fun σ14 eσ14 => ?_)
        have h := h σ14 eσ14
        have hσ14 : zRM σ14 := by rw [eσ14]; exact zU_rg hσ _ _ (zMax_rg (hσ _ _) rz11)
        refine w_O_minute_b70 C ho r2 r3 r5 ih σ14 v4 v6 hσ14 r4 r6 h
set_option maxRecDepth 100000 in
set_option maxHeartbeats 4000000 in
theorem c_O_minute (l : Launch) (D : va_G) (ad : Nat → Nat) (ca : Nat → ClassId) {σ : zM} {o : Nat} {v2 : Int} {v3 : Int} {Q : Int → zM → Prop} (hσ : zRM σ) (ho : zOn o) (r2 : zR v2) (r3 : zR v3) (h : wp_O_minute σ o v2 v3 Q) : zCi l D ad ca y_O_minute b_O_minute 7 (some .int) (zrm 3 70) [.ref (ad o), .ref (ad 0), .int (zI v2), .int (zI v3)] σ Q := by
  refine zCi_of (by decide +kernel) (Nat.le_of_ble_eq_true rfl) ?_
  intro X G C hl hD had hca
  subst hl hD had hca
  have C : zC X G b_O_minute "GateRoads$Onward" 7 (some .int) 3 70 := C
  show zJ X G (zQi X G Q) 7 0 [(0, .ref (gad G o)), (1, .ref (gad G 0)), (2, .int (zI v2)), (3, .int (zI v3))] [] σ
  unfold wp_O_minute at h
  refine j_iconst C d_O_minute_0 ?_
  refine j_istore (L' := [(4, .int (zI 0)), (0, .ref (gad G o)), (1, .ref (gad G 0)), (2, .int (zI v2)), (3, .int (zI v3))]) C d_O_minute_1 rfl rfl ?_
  refine j_aload_n C d_O_minute_3 1 rfl rfl ?_
  refine j_getr (kf := 0) (m := o + 1) C d_O_minute_4 ho.1 rfl i_O rfl rfl fl_O_9 ?_
  refine j_iload_n C d_O_minute_7 4 rfl rfl ?_
  refine j_sipush C d_O_minute_8 rfl ?_
  refine j_iand C d_O_minute_11 ?_
  obtain ⟨g1, h⟩ := h
  refine j_iaload C d_O_minute_12 ho.2.1 g1 ?_
  refine j_istore (L' := [(5, .int (zI (σ (o + 1) (zAnd v3 1023)))), (4, .int (zI 0)), (0, .ref (gad G o)), (1, .ref (gad G 0)), (2, .int (zI v2)), (3, .int (zI v3))]) C d_O_minute_13 rfl rfl ?_
  refine j_aload_n C d_O_minute_15 2 rfl rfl ?_
  refine j_getr (kf := 0) (m := o + 1) C d_O_minute_16 ho.1 rfl i_O rfl rfl fl_O_9 ?_
  refine j_iload_n C d_O_minute_19 5 rfl rfl ?_
  refine j_sipush C d_O_minute_20 rfl ?_
  refine j_iand C d_O_minute_23 ?_
  refine j_iconst C d_O_minute_24 ?_
  obtain ⟨g2, h⟩ := h
  refine j_iastore C d_O_minute_25 ho.2.1 g2 ?_
  refine j_mem (fun σ3 eσ3 => ?_)
  have h := h σ3 eσ3
  have hσ3 : zRM σ3 := by rw [eσ3]; exact zU_rg hσ _ _ (zR_of (x := 0) rfl)
  refine j_iconst C d_O_minute_26 ?_
  refine j_istore (L' := [(6, .int (zI 0)), (5, .int (zI (σ (o + 1) (zAnd v3 1023)))), (4, .int (zI 0)), (0, .ref (gad G o)), (1, .ref (gad G 0)), (2, .int (zI v2)), (3, .int (zI v3))]) C d_O_minute_27 rfl rfl ?_
  obtain ⟨n15, h⟩ := h
  refine j_sub (L' := [(0, .ref (gad G o)), (1, .ref (gad G 0)), (2, .int (zI v2)), (3, .int (zI v3)), (4, .int (zI 0)), (5, .int (zI (σ (o + 1) (zAnd v3 1023)))), (6, .int (zI 0))]) [3, 4, 5, 6, 2, 1, 0] rfl ?_
  refine w_O_minute_L29 C ho r2 r3 (hσ _ _) n15 σ3 0 0 hσ3 (zR_of (x := 0) rfl) (zR_of (x := 0) rfl) h
set_option maxRecDepth 100000 in
set_option maxHeartbeats 4000000 in
theorem w_X_firstComing_L23 {X : zX} {G : zG} (C : zC X G b_X_firstComing "GateRoads" 8 (some .int) 4 96) {v4 : Int} {v5 : Int} {v6 : Int} (r4 : zR v4) (r5 : zR v5) (r6 : zR v6) {Q : Int → zM → Prop} : ∀ (n : Nat) (σ : zM) (v7 : Int) (hσ : zRM σ) (r7 : zR v7), wp_X_firstComing_L23 v4 v5 v6 Q n σ v7 → zJ X G (zQi X G Q) 8 23 [(0, .ref (gad G 54)), (4, .int (zI v4)), (5, .int (zI v5)), (6, .int (zI v6)), (7, .int (zI v7))] [] σ := by
  intro n
  induction n with
  | zero => intro σ v7 hσ r7 h; exact False.elim h
  | succ n ih =>
    intro σ v7 hσ r7 h
    rw [wp_X_firstComing_L23] at h
    refine j_iload C d_X_firstComing_23 4 rfl ?_
    refine j_iload C d_X_firstComing_25 2 rfl ?_
    refine j_icmp_gt (tgt := 84) C d_X_firstComing_27 rfl r7 r5 (fun c => ?_) (fun c => ?_)
    · have h := h.1 c
      refine j_bipush C d_X_firstComing_84 rfl ?_
      exact j_ireturn C d_X_firstComing_86 (zR_of (x := (-6)) rfl) hσ h
    · have h := h.2 c
      refine j_aload_n C d_X_firstComing_30 0 rfl rfl ?_
      refine j_getr (kf := 9) (m := 64) C d_X_firstComing_31 sh_54 rfl i_X rfl rfl fl_X_44 ?_
      refine j_iload C d_X_firstComing_34 4 rfl ?_
      refine j_callV C d_X_firstComing_36 ml_X_221 mi_O_comersAt (c_O_comersAt (xl X) (gD G) (gad G) (gca G) (o := 64) (v1 := v7) hσ zOn64 r7 h) sh_64 rfl rfl rfl rfl rfl rfl rfl (fun z5 σ6 rz5 hσ6 h => ?_)
      obtain ⟨ez5, h⟩ := h; subst ez5
      refine j_iload C d_X_firstComing_39 1 rfl ?_
      refine j_callS C d_X_firstComing_41 ml_X_230 ms_X_has (c_X_has (xl X) (gD G) (gad G) (gca G) (v0 := z5) (v1 := v4) hσ rz5 r4 h) rfl rfl rfl rfl rfl (fun z7 σ8 rz7 hσ8 h => ?_)
      obtain ⟨ez7, h⟩ := h; subst ez7
      refine j_if_eq (tgt := 50) C d_X_firstComing_44 rfl rz7 (fun c => ?_) (fun c => ?_)
      · have h := h.1 c
        refine j_aload_n C d_X_firstComing_50 0 rfl rfl ?_
        refine j_getr (kf := 9) (m := 64) C d_X_firstComing_51 sh_54 rfl i_X rfl rfl fl_X_44 ?_
        refine j_aload_n C d_X_firstComing_54 0 rfl rfl ?_
        refine j_getr (kf := 0) (m := 0) C d_X_firstComing_55 sh_54 rfl i_X rfl rfl fl_X_12 ?_
        refine j_aload_n C d_X_firstComing_58 0 rfl rfl ?_
        refine j_getr (kf := 8) (m := 62) C d_X_firstComing_59 sh_54 rfl i_X rfl rfl fl_X_37 ?_
        refine j_iload C d_X_firstComing_62 4 rfl ?_
        refine j_callV C d_X_firstComing_64 ml_X_190 mi_G_at (c_G_at (xl X) (gD G) (gad G) (gca G) (v1 := v7) hσ r7 h) sh_62 rfl rfl rfl rfl rfl rfl rfl (fun z9 σ10 rz9 hσ10 h => ?_)
        obtain ⟨ez9, h⟩ := h; subst ez9
        refine j_iload C d_X_firstComing_67 3 rfl ?_
        refine j_iconst C d_X_firstComing_69 ?_
        refine j_ixor C d_X_firstComing_70 ?_
        refine j_iand C d_X_firstComing_71 ?_
        refine j_iload C d_X_firstComing_72 4 rfl ?_
        refine j_callV C d_X_firstComing_74 ml_X_224 mi_O_minute (c_O_minute (xl X) (gD G) (gad G) (gca G) (o := 64) (v2 := zAnd z9 (zXor v6 (-1))) (v3 := v7) hσ zOn64 (zAnd_rg _ _) r7 h) sh_64 rfl rfl rfl rfl rfl rfl rfl (fun z11 σ12 rz11 hσ12 h => ?_)
        refine j_pop C d_X_firstComing_77 rfl ?_
        obtain ⟨g13, h⟩ := h
        refine j_iinc (L' := [(7, .int (zI (v7 + 1))), (0, .ref (gad G 54)), (4, .int (zI v4)), (5, .int (zI v5)), (6, .int (zI v6))]) C d_X_firstComing_78 4 rfl rfl rfl ?_
        refine j_goto (tgt := 23) C d_X_firstComing_81 rfl ?_
        refine j_sub (L' := [(0, .ref (gad G 54)), (4, .int (zI v4)), (5, .int (zI v5)), (6, .int (zI v6)), (7, .int (zI (v7 + 1)))]) [1, 2, 3, 4, 0] rfl ?_
        exact ih σ12 (v7 + 1) hσ12 g13 h
      · have h := h.2 c
        refine j_iload C d_X_firstComing_47 4 rfl ?_
        exact j_ireturn C d_X_firstComing_49 r7 hσ h
set_option maxRecDepth 100000 in
set_option maxHeartbeats 4000000 in
theorem c_X_firstComing (l : Launch) (D : va_G) (ad : Nat → Nat) (ca : Nat → ClassId) {σ : zM} {v1 : Int} {v2 : Int} {v3 : Int} {v4 : Int} {v5 : Int} {v6 : Int} {Q : Int → zM → Prop} (hσ : zRM σ) (r1 : zR v1) (r2 : zR v2) (r3 : zR v3) (r4 : zR v4) (r5 : zR v5) (r6 : zR v6) (h : wp_X_firstComing σ v1 v2 v3 v4 v5 v6 Q) : zCi l D ad ca y_X_firstComing b_X_firstComing 8 (some .int) (zrm 4 96) [.ref (ad 54), .int (zI v1), .int (zI v2), .int (zI v3), .int (zI v4), .int (zI v5), .int (zI v6)] σ Q := by
  refine zCi_of (by decide +kernel) (Nat.le_of_ble_eq_true rfl) ?_
  intro X G C hl hD had hca
  subst hl hD had hca
  have C : zC X G b_X_firstComing "GateRoads" 8 (some .int) 4 96 := C
  show zJ X G (zQi X G Q) 8 0 [(0, .ref (gad G 54)), (1, .int (zI v1)), (2, .int (zI v2)), (3, .int (zI v3)), (4, .int (zI v4)), (5, .int (zI v5)), (6, .int (zI v6))] [] σ
  unfold wp_X_firstComing at h
  refine j_aload_n C d_X_firstComing_0 0 rfl rfl ?_
  refine j_getr (kf := 8) (m := 62) C d_X_firstComing_1 sh_54 rfl i_X rfl rfl fl_X_37 ?_
  refine j_aload_n C d_X_firstComing_4 0 rfl rfl ?_
  refine j_getr (kf := 0) (m := 0) C d_X_firstComing_5 sh_54 rfl i_X rfl rfl fl_X_12 ?_
  refine j_callVv C d_X_firstComing_8 ml_X_183 mi_G_prepare (c_G_prepare (xl X) (gD G) (gad G) (gca G)  hσ h) sh_62 rfl rfl rfl rfl rfl rfl rfl (fun σ2 hσ2 h => ?_)
  refine j_aload_n C d_X_firstComing_11 0 rfl rfl ?_
  refine j_getr (kf := 9) (m := 64) C d_X_firstComing_12 sh_54 rfl i_X rfl rfl fl_X_44 ?_
  refine j_iload_n C d_X_firstComing_15 1 rfl rfl ?_
  refine j_iload_n C d_X_firstComing_16 3 rfl rfl ?_
  refine j_callVv C d_X_firstComing_17 ml_X_220 mi_O_start (c_O_start (xl X) (gD G) (gad G) (gca G) (o := 64) (v1 := v1) (v2 := v3) hσ2 zOn64 r1 r3 h) sh_64 rfl rfl rfl rfl rfl rfl rfl (fun σ4 hσ4 h => ?_)
  refine j_iload_n C d_X_firstComing_20 2 rfl rfl ?_
  refine j_istore (L' := [(7, .int (zI v2)), (0, .ref (gad G 54)), (1, .int (zI v1)), (2, .int (zI v2)), (3, .int (zI v3)), (4, .int (zI v4)), (5, .int (zI v5)), (6, .int (zI v6))]) C d_X_firstComing_21 rfl rfl ?_
  obtain ⟨n14, h⟩ := h
  refine j_sub (L' := [(0, .ref (gad G 54)), (4, .int (zI v4)), (5, .int (zI v5)), (6, .int (zI v6)), (7, .int (zI v2))]) [1, 5, 6, 7, 0] rfl ?_
  refine w_X_firstComing_L23 C r4 r5 r6 n14 σ4 v2 hσ4 r2 h
set_option maxRecDepth 100000 in
set_option maxHeartbeats 4000000 in
theorem c_X_arrives (l : Launch) (D : va_G) (ad : Nat → Nat) (ca : Nat → ClassId) {σ : zM} {v1 : Int} {v2 : Int} {Q : Int → zM → Prop} (hσ : zRM σ) (r1 : zR v1) (r2 : zR v2) (h : wp_X_arrives σ v1 v2 Q) : zCi l D ad ca y_X_arrives b_X_arrives 5 (some .int) (zrm 5 123) [.ref (ad 54), .int (zI v1), .int (zI v2)] σ Q := by
  refine zCi_of (by decide +kernel) (Nat.le_of_ble_eq_true rfl) ?_
  intro X G C hl hD had hca
  subst hl hD had hca
  have C : zC X G b_X_arrives "GateRoads" 5 (some .int) 5 123 := C
  show zJ X G (zQi X G Q) 5 0 [(0, .ref (gad G 54)), (1, .int (zI v1)), (2, .int (zI v2))] [] σ
  unfold wp_X_arrives at h
  refine j_aload_n C d_X_arrives_0 0 rfl rfl ?_
  refine j_getr (kf := 0) (m := 0) C d_X_arrives_1 sh_54 rfl i_X rfl rfl fl_X_12 ?_
  refine j_iload_n C d_X_arrives_4 1 rfl rfl ?_
  refine j_callV C d_X_arrives_5 ml_X_128 mi_S_hasTraveller (c_S_hasTraveller (xl X) (gD G) (gad G) (gca G) (v1 := v1) hσ r1 h) sh_0 rfl rfl rfl rfl rfl rfl rfl (fun z1 σ2 rz1 hσ2 h => ?_)
  obtain ⟨ez1, h⟩ := h; subst ez1
  refine j_if_eq (tgt := 18) C d_X_arrives_8 rfl rz1 (fun c => ?_) (fun c => ?_)
  · have h := h.1 c
    refine j_iconst C d_X_arrives_18 ?_
    exact j_ireturn C d_X_arrives_19 (zR_of (x := (-1)) rfl) hσ h
  · have h := h.2 c
    refine j_iload_n C d_X_arrives_11 2 rfl rfl ?_
    refine j_callS C d_X_arrives_12 ml_X_65 ms_X_isPlace (c_X_isPlace (xl X) (gD G) (gad G) (gca G) (v0 := v2) hσ r2 h) rfl rfl rfl rfl rfl (fun z3 σ4 rz3 hσ4 h => ?_)
    obtain ⟨ez3, h⟩ := h; subst ez3
    refine j_if_ne (tgt := 20) C d_X_arrives_15 rfl rz3 (fun c => ?_) (fun c => ?_)
    · have h := h.1 c
      refine j_aload_n C d_X_arrives_20 0 rfl rfl ?_
      refine j_getr (kf := 0) (m := 0) C d_X_arrives_21 sh_54 rfl i_X rfl rfl fl_X_12 ?_
      refine j_iload_n C d_X_arrives_24 1 rfl rfl ?_
      refine j_iconst C d_X_arrives_25 ?_
      refine j_callV C d_X_arrives_26 ml_X_165 mi_S_ofTravellers (c_S_ofTravellers (xl X) (gD G) (gad G) (gca G) (v1 := v1) (v2 := 0) hσ r1 (zR_of (x := 0) rfl) h) sh_0 rfl rfl rfl rfl rfl rfl rfl (fun z5 σ6 rz5 hσ6 h => ?_)
      obtain ⟨ez5, h⟩ := h; subst ez5
      refine j_istore_n (L' := [(3, .int (zI z5)), (0, .ref (gad G 54)), (1, .int (zI v1)), (2, .int (zI v2))]) C d_X_arrives_29 rfl rfl rfl ?_
      refine j_aload_n C d_X_arrives_30 1 rfl rfl ?_
      refine j_getr (kf := 0) (m := 0) C d_X_arrives_31 sh_54 rfl i_X rfl rfl fl_X_12 ?_
      refine j_iload_n C d_X_arrives_34 2 rfl rfl ?_
      refine j_iconst C d_X_arrives_35 ?_
      refine j_callV C d_X_arrives_36 ml_X_165 mi_S_ofTravellers (c_S_ofTravellers (xl X) (gD G) (gad G) (gca G) (v1 := v1) (v2 := 1) hσ r1 (zR_of (x := 1) rfl) h) sh_0 rfl rfl rfl rfl rfl rfl rfl (fun z7 σ8 rz7 hσ8 h => ?_)
      obtain ⟨ez7, h⟩ := h; subst ez7
      refine j_istore (L' := [(4, .int (zI z7)), (3, .int (zI z5)), (0, .ref (gad G 54)), (1, .int (zI v1)), (2, .int (zI v2))]) C d_X_arrives_39 rfl rfl ?_
      refine j_iload_n C d_X_arrives_41 1 rfl rfl ?_
      refine j_iload_n C d_X_arrives_42 4 rfl rfl ?_
      refine j_icmp_ne (tgt := 49) C d_X_arrives_43 rfl rz5 r2 (fun c => ?_) (fun c => ?_)
      · have h := h.1 c
        refine j_aload_n C d_X_arrives_49 2 rfl rfl ?_
        refine j_iload_n C d_X_arrives_50 1 rfl rfl ?_
        refine j_iload C d_X_arrives_51 0 rfl ?_
        refine j_iload C d_X_arrives_53 0 rfl ?_
        refine j_aload_n C d_X_arrives_55 2 rfl rfl ?_
        refine j_getr (kf := 0) (m := 0) C d_X_arrives_56 sh_54 rfl i_X rfl rfl fl_X_12 ?_
        refine j_iload_n C d_X_arrives_59 3 rfl rfl ?_
        refine j_callV C d_X_arrives_60 ml_X_237 mi_S_stayLeft (c_S_stayLeft (xl X) (gD G) (gad G) (gca G) (v1 := v1) hσ r1 h) sh_0 rfl rfl rfl rfl rfl rfl rfl (fun z9 σ10 rz9 hσ10 h => ?_)
        obtain ⟨ez9, h⟩ := h; subst ez9
        refine j_iadd C d_X_arrives_63 ?_
        refine j_iload_n C d_X_arrives_64 4 rfl rfl ?_
        refine j_sipush C d_X_arrives_65 rfl ?_
        refine j_iconst C d_X_arrives_68 ?_
        obtain ⟨g11, h⟩ := h
        refine j_callV C d_X_arrives_69 ml_X_233 mi_X_firstComing (c_X_firstComing (xl X) (gD G) (gad G) (gca G) (v1 := z5) (v2 := z7) (v3 := z7 + z9) (v4 := v2) (v5 := 2880) (v6 := 0) hσ rz5 rz7 g11 r2 (zR_of (x := 2880) rfl) (zR_of (x := 0) rfl) h) sh_54 rfl rfl rfl rfl rfl rfl rfl (fun z12 σ13 rz12 hσ13 h => ?_)
        exact j_ireturn C d_X_arrives_72 rz12 hσ13 h
      · have h := h.2 c
        refine j_iload C d_X_arrives_46 0 rfl ?_
        exact j_ireturn C d_X_arrives_48 rz7 hσ h
    · have h := h.2 c
      refine j_iconst C d_X_arrives_18 ?_
      exact j_ireturn C d_X_arrives_19 (zR_of (x := (-1)) rfl) hσ h
set_option maxRecDepth 100000 in
set_option maxHeartbeats 4000000 in
theorem c_X_whyShut (l : Launch) (D : va_G) (ad : Nat → Nat) (ca : Nat → ClassId) {σ : zM} {v1 : Int} {v2 : Int} {Q : Int → Prop} (hσ : zRM σ) (r1 : zR v1) (r2 : zR v2) (h : wp_X_whyShut σ v1 v2 Q) : zCi l D ad ca y_X_whyShut b_X_whyShut 3 (some .int) (zrm 3 71) [.ref (ad 54), .int (zI v1), .int (zI v2)] σ (fun z u => σ = u ∧ Q z) := by
  refine zCi_of (by decide +kernel) (Nat.le_of_ble_eq_true rfl) ?_
  intro X G C hl hD had hca
  subst hl hD had hca
  have C : zC X G b_X_whyShut "GateRoads" 3 (some .int) 3 71 := C
  show zJ X G (zQi X G (fun z u => σ = u ∧ Q z)) 3 0 [(0, .ref (gad G 54)), (1, .int (zI v1)), (2, .int (zI v2))] [] σ
  unfold wp_X_whyShut at h
  refine j_aload_n C d_X_whyShut_0 0 rfl rfl ?_
  refine j_getr (kf := 0) (m := 0) C d_X_whyShut_1 sh_54 rfl i_X rfl rfl fl_X_12 ?_
  refine j_iload_n C d_X_whyShut_4 1 rfl rfl ?_
  refine j_callV C d_X_whyShut_5 ml_X_88 mi_S_hasRoad (c_S_hasRoad (xl X) (gD G) (gad G) (gca G) (v1 := v1) hσ r1 h) sh_0 rfl rfl rfl rfl rfl rfl rfl (fun z1 σ2 rz1 hσ2 h => ?_)
  obtain ⟨ez1, h⟩ := h; subst ez1
  refine j_if_ne (tgt := 13) C d_X_whyShut_8 rfl rz1 (fun c => ?_) (fun c => ?_)
  · have h := h.1 c
    refine j_iload_n C d_X_whyShut_13 2 rfl rfl ?_
    refine j_iconst C d_X_whyShut_14 ?_
    refine j_sipush C d_X_whyShut_15 rfl ?_
    refine j_callS C d_X_whyShut_18 ml_X_69 ms_X_within (c_X_within (xl X) (gD G) (gad G) (gca G) (v0 := v2) (v1 := 0) (v2 := 2880) hσ r2 (zR_of (x := 0) rfl) (zR_of (x := 2880) rfl) h) rfl rfl rfl rfl rfl (fun z3 σ4 rz3 hσ4 h => ?_)
    obtain ⟨ez3, h⟩ := h; subst ez3
    refine j_if_ne (tgt := 27) C d_X_whyShut_21 rfl rz3 (fun c => ?_) (fun c => ?_)
    · have h := h.1 c
      refine j_aload_n C d_X_whyShut_27 0 rfl rfl ?_
      refine j_getr (kf := 0) (m := 0) C d_X_whyShut_28 sh_54 rfl i_X rfl rfl fl_X_12 ?_
      refine j_iload_n C d_X_whyShut_31 1 rfl rfl ?_
      refine j_iload_n C d_X_whyShut_32 2 rfl rfl ?_
      refine j_callV C d_X_whyShut_33 ml_X_177 mi_S_whyNoEntry (c_S_whyNoEntry (xl X) (gD G) (gad G) (gca G) (v1 := v1) (v2 := v2) hσ r1 r2 h) sh_0 rfl rfl rfl rfl rfl rfl rfl (fun z5 σ6 rz5 hσ6 h => ?_)
      obtain ⟨ez5, h⟩ := h; subst ez5
      exact j_ireturn C d_X_whyShut_36 rz5 hσ ⟨rfl, h⟩
    · have h := h.2 c
      refine j_bipush C d_X_whyShut_24 rfl ?_
      exact j_ireturn C d_X_whyShut_26 (zR_of (x := (-2)) rfl) hσ ⟨rfl, h⟩
  · have h := h.2 c
    refine j_iconst C d_X_whyShut_11 ?_
    exact j_ireturn C d_X_whyShut_12 (zR_of (x := (-1)) rfl) hσ ⟨rfl, h⟩
set_option maxRecDepth 100000 in
set_option maxHeartbeats 4000000 in
theorem c_X_undo (l : Launch) (D : va_G) (ad : Nat → Nat) (ca : Nat → ClassId) {σ : zM} {Q : Int → zM → Prop} (hσ : zRM σ) (h : wp_X_undo σ Q) : zCi l D ad ca y_X_undo b_X_undo 1 (some .int) (zrm 2 47) [.ref (ad 54)] σ Q := by
  refine zCi_of (by decide +kernel) (Nat.le_of_ble_eq_true rfl) ?_
  intro X G C hl hD had hca
  subst hl hD had hca
  have C : zC X G b_X_undo "GateRoads" 1 (some .int) 2 47 := C
  show zJ X G (zQi X G Q) 1 0 [(0, .ref (gad G 54))] [] σ
  unfold wp_X_undo at h
  refine j_aload_n C d_X_undo_0 0 rfl rfl ?_
  refine j_geti (kf := 2) (kI := 2) C d_X_undo_1 sh_54 rfl i_X rfl rfl rfl fl_X_174 ?_
  refine j_if_gt (tgt := 10) C d_X_undo_4 rfl (hσ _ _) (fun c => ?_) (fun c => ?_)
  · have h := h.1 c
    refine j_aload_n C d_X_undo_10 0 rfl rfl ?_
    refine j_dup C d_X_undo_11 rfl ?_
    refine j_geti (kf := 2) (kI := 2) C d_X_undo_12 sh_54 rfl i_X rfl rfl rfl fl_X_174 ?_
    refine j_iconst C d_X_undo_15 ?_
    refine j_isub C d_X_undo_16 ?_
    obtain ⟨g1, h⟩ := h
    refine j_puti (kf := 2) (kI := 2) C t_X d_X_undo_17 sh_54 rfl i_X t_X_ok n_X rfl rfl rfl fl_X_174 rfl (Or.inl rfl) ?_
    refine j_mem (fun σ2 eσ2 => ?_)
    have h := h σ2 eσ2
    have hσ2 : zRM σ2 := by rw [eσ2]; exact zU_rg hσ _ _ g1
    refine j_aload_n C d_X_undo_20 0 rfl rfl ?_
    refine j_getr (kf := 0) (m := 0) C d_X_undo_21 sh_54 rfl i_X rfl rfl fl_X_12 ?_
    refine j_aload_n C d_X_undo_24 0 rfl rfl ?_
    refine j_getr (kf := 1) (m := 55) C d_X_undo_25 sh_54 rfl i_X rfl rfl fl_X_16 ?_
    refine j_aload_n C d_X_undo_28 0 rfl rfl ?_
    refine j_geti (kf := 2) (kI := 2) C d_X_undo_29 sh_54 rfl i_X rfl rfl rfl fl_X_174 ?_
    obtain ⟨g3, h⟩ := h
    obtain ⟨g4, h⟩ := h
    refine j_aaload C d_X_undo_32 sh_55 g3 ?_
    refine j_callVv C d_X_undo_33 ml_X_279 mi_S_copyFrom (c_S_copyFrom (xl X) (gD G) (gad G) (gca G) (a := 0) (b := (σ2 55 (σ2 54 2)).toNat) hσ2 (by decide) g4 h) sh_0 rfl rfl rfl rfl rfl rfl rfl (fun σ6 hσ6 h => ?_)
    refine j_aload_n C d_X_undo_36 0 rfl rfl ?_
    refine j_getr (kf := 8) (m := 62) C d_X_undo_37 sh_54 rfl i_X rfl rfl fl_X_37 ?_
    refine j_iconst C d_X_undo_40 ?_
    refine j_puti (kf := 1) (kI := 1) C t_G d_X_undo_41 sh_62 rfl i_G t_G_ok n_G rfl rfl rfl fl_X_282 rfl (Or.inr ⟨rfl, by decide⟩) ?_
    refine j_mem (fun σ7 eσ7 => ?_)
    have h := h σ7 eσ7
    have hσ7 : zRM σ7 := by rw [eσ7]; exact zU_rg hσ6 _ _ (zR_of (x := 0) rfl)
    refine j_aload_n C d_X_undo_44 0 rfl rfl ?_
    refine j_geti (kf := 2) (kI := 2) C d_X_undo_45 sh_54 rfl i_X rfl rfl rfl fl_X_174 ?_
    exact j_ireturn C d_X_undo_48 (hσ7 _ _) hσ7 h
  · have h := h.2 c
    refine j_bipush C d_X_undo_7 rfl ?_
    exact j_ireturn C d_X_undo_9 (zR_of (x := (-6)) rfl) hσ h
set_option maxRecDepth 100000 in
set_option maxHeartbeats 4000000 in
theorem c_X_save (l : Launch) (D : va_G) (ad : Nat → Nat) (ca : Nat → ClassId) {σ : zM} {v1 : Int} {Q : Int → zM → Prop} (hσ : zRM σ) (r1 : zR v1) (h : wp_X_save σ v1 Q) : zCi l D ad ca y_X_save b_X_save 2 (some .int) (zrm 2 47) [.ref (ad 54), .int (zI v1)] σ Q := by
  refine zCi_of (by decide +kernel) (Nat.le_of_ble_eq_true rfl) ?_
  intro X G C hl hD had hca
  subst hl hD had hca
  have C : zC X G b_X_save "GateRoads" 2 (some .int) 2 47 := C
  show zJ X G (zQi X G Q) 2 0 [(0, .ref (gad G 54)), (1, .int (zI v1))] [] σ
  unfold wp_X_save at h
  refine j_iload_n C d_X_save_0 1 rfl rfl ?_
  refine j_iconst C d_X_save_1 ?_
  refine j_iconst C d_X_save_2 ?_
  refine j_callS C d_X_save_3 ml_X_69 ms_X_within (c_X_within (xl X) (gD G) (gad G) (gca G) (v0 := v1) (v1 := 0) (v2 := 1) hσ r1 (zR_of (x := 0) rfl) (zR_of (x := 1) rfl) h) rfl rfl rfl rfl rfl (fun z1 σ2 rz1 hσ2 h => ?_)
  obtain ⟨ez1, h⟩ := h; subst ez1
  refine j_if_ne (tgt := 11) C d_X_save_6 rfl rz1 (fun c => ?_) (fun c => ?_)
  · have h := h.1 c
    refine j_aload_n C d_X_save_11 0 rfl rfl ?_
    refine j_getr (kf := 3) (m := 56) C d_X_save_12 sh_54 rfl i_X rfl rfl fl_X_20 ?_
    refine j_iload_n C d_X_save_15 1 rfl rfl ?_
    obtain ⟨g3, h⟩ := h
    obtain ⟨g4, h⟩ := h
    refine j_aaload C d_X_save_16 sh_56 g3 ?_
    refine j_aload_n C d_X_save_17 0 rfl rfl ?_
    refine j_getr (kf := 0) (m := 0) C d_X_save_18 sh_54 rfl i_X rfl rfl fl_X_12 ?_
    refine j_callVv C d_X_save_21 ml_X_279 mi_S_copyFrom (c_S_copyFrom (xl X) (gD G) (gad G) (gca G) (a := (σ 56 v1).toNat) (b := 0) hσ g4 (by decide) h) (zSt (σ 56 v1).toNat g4) rfl rfl rfl rfl rfl rfl rfl (fun σ6 hσ6 h => ?_)
    refine j_aload_n C d_X_save_24 0 rfl rfl ?_
    refine j_getr (kf := 4) (m := 57) C d_X_save_25 sh_54 rfl i_X rfl rfl fl_X_23 ?_
    refine j_iload_n C d_X_save_28 1 rfl rfl ?_
    refine j_iconst C d_X_save_29 ?_
    obtain ⟨g7, h⟩ := h
    refine j_bastore C d_X_save_30 sh_57 g7 (by decide) ?_
    refine j_mem (fun σ8 eσ8 => ?_)
    have h := h σ8 eσ8
    have hσ8 : zRM σ8 := by rw [eσ8]; exact zU_rg hσ6 _ _ (zR_of (x := 1) rfl)
    refine j_aload_n C d_X_save_31 0 rfl rfl ?_
    refine j_getr (kf := 0) (m := 0) C d_X_save_32 sh_54 rfl i_X rfl rfl fl_X_12 ?_
    refine j_geti (kf := 5) (kI := 5) C d_X_save_35 sh_0 rfl i_S rfl rfl rfl fl_X_80 ?_
    exact j_ireturn C d_X_save_38 (hσ8 _ _) hσ8 h
  · have h := h.2 c
    refine j_iconst C d_X_save_9 ?_
    exact j_ireturn C d_X_save_10 (zR_of (x := (-1)) rfl) hσ h
set_option maxRecDepth 100000 in
set_option maxHeartbeats 4000000 in
theorem c_X_restore (l : Launch) (D : va_G) (ad : Nat → Nat) (ca : Nat → ClassId) {σ : zM} {v1 : Int} {Q : Int → zM → Prop} (hσ : zRM σ) (r1 : zR v1) (h : wp_X_restore σ v1 Q) : zCi l D ad ca y_X_restore b_X_restore 2 (some .int) (zrm 3 69) [.ref (ad 54), .int (zI v1)] σ Q := by
  refine zCi_of (by decide +kernel) (Nat.le_of_ble_eq_true rfl) ?_
  intro X G C hl hD had hca
  subst hl hD had hca
  have C : zC X G b_X_restore "GateRoads" 2 (some .int) 3 69 := C
  show zJ X G (zQi X G Q) 2 0 [(0, .ref (gad G 54)), (1, .int (zI v1))] [] σ
  unfold wp_X_restore at h
  refine j_iload_n C d_X_restore_0 1 rfl rfl ?_
  refine j_iconst C d_X_restore_1 ?_
  refine j_iconst C d_X_restore_2 ?_
  refine j_callS C d_X_restore_3 ml_X_69 ms_X_within (c_X_within (xl X) (gD G) (gad G) (gca G) (v0 := v1) (v1 := 0) (v2 := 1) hσ r1 (zR_of (x := 0) rfl) (zR_of (x := 1) rfl) h) rfl rfl rfl rfl rfl (fun z1 σ2 rz1 hσ2 h => ?_)
  obtain ⟨ez1, h⟩ := h; subst ez1
  refine j_if_eq (tgt := 18) C d_X_restore_6 rfl rz1 (fun c => ?_) (fun c => ?_)
  · have h := h.1 c
    refine j_iconst C d_X_restore_18 ?_
    exact j_ireturn C d_X_restore_19 (zR_of (x := (-1)) rfl) hσ h
  · have h := h.2 c
    refine j_aload_n C d_X_restore_9 0 rfl rfl ?_
    refine j_getr (kf := 4) (m := 57) C d_X_restore_10 sh_54 rfl i_X rfl rfl fl_X_23 ?_
    refine j_iload_n C d_X_restore_13 1 rfl rfl ?_
    obtain ⟨g3, h⟩ := h
    refine j_baload C d_X_restore_14 sh_57 g3 ?_
    refine j_if_ne (tgt := 20) C d_X_restore_15 rfl (hσ _ _) (fun c => ?_) (fun c => ?_)
    · have h := h.1 c
      refine j_aload_n C d_X_restore_20 0 rfl rfl ?_
      refine j_callVv C d_X_restore_21 ml_X_73 mi_X_remember (c_X_remember (xl X) (gD G) (gad G) (gca G)  hσ h) sh_54 rfl rfl rfl rfl rfl rfl rfl (fun σ5 hσ5 h => ?_)
      refine j_aload_n C d_X_restore_24 0 rfl rfl ?_
      refine j_getr (kf := 0) (m := 0) C d_X_restore_25 sh_54 rfl i_X rfl rfl fl_X_12 ?_
      refine j_aload_n C d_X_restore_28 0 rfl rfl ?_
      refine j_getr (kf := 3) (m := 56) C d_X_restore_29 sh_54 rfl i_X rfl rfl fl_X_20 ?_
      refine j_iload_n C d_X_restore_32 1 rfl rfl ?_
      obtain ⟨g6, h⟩ := h
      obtain ⟨g7, h⟩ := h
      refine j_aaload C d_X_restore_33 sh_56 g6 ?_
      refine j_callVv C d_X_restore_34 ml_X_279 mi_S_copyFrom (c_S_copyFrom (xl X) (gD G) (gad G) (gca G) (a := 0) (b := (σ5 56 v1).toNat) hσ5 (by decide) g7 h) sh_0 rfl rfl rfl rfl rfl rfl rfl (fun σ9 hσ9 h => ?_)
      refine j_aload_n C d_X_restore_37 0 rfl rfl ?_
      refine j_getr (kf := 0) (m := 0) C d_X_restore_38 sh_54 rfl i_X rfl rfl fl_X_12 ?_
      refine j_geti (kf := 5) (kI := 5) C d_X_restore_41 sh_0 rfl i_S rfl rfl rfl fl_X_80 ?_
      exact j_ireturn C d_X_restore_44 (hσ9 _ _) hσ9 h
    · have h := h.2 c
      refine j_iconst C d_X_restore_18 ?_
      exact j_ireturn C d_X_restore_19 (zR_of (x := (-1)) rfl) hσ h
end
section
abbrev b_L_law : ByteArray := code
theorem d_L_cell_0 : zd b_L_cell 0 1 (.iload_n 1) 1 := ⟨by decide +kernel, rfl⟩
theorem d_L_cell_1 : zd b_L_cell 1 2 (.aload_n 0) 1 := ⟨by decide +kernel, rfl⟩
theorem d_L_cell_2 : zd b_L_cell 2 3 (.arraylength) 1 := ⟨by decide +kernel, rfl⟩
theorem d_L_cell_3 : zd b_L_cell 3 6 (.if_icmp .ge 9) 3 := ⟨by decide +kernel, rfl⟩
theorem d_L_cell_6 : zd b_L_cell 6 7 (.aload_n 0) 1 := ⟨by decide +kernel, rfl⟩
theorem d_L_cell_7 : zd b_L_cell 7 8 (.iload_n 1) 1 := ⟨by decide +kernel, rfl⟩
theorem d_L_cell_8 : zd b_L_cell 8 9 (.iaload) 1 := ⟨by decide +kernel, rfl⟩
theorem d_L_cell_9 : zd b_L_cell 9 12 (.goto 9) 3 := ⟨by decide +kernel, rfl⟩
theorem d_L_cell_12 : zd b_L_cell 12 14 (.ldc 7) 2 := ⟨by decide +kernel, rfl⟩
theorem d_L_cell_14 : zd b_L_cell 14 15 (.iload_n 1) 1 := ⟨by decide +kernel, rfl⟩
theorem d_L_cell_15 : zd b_L_cell 15 16 (.iconst 3) 1 := ⟨by decide +kernel, rfl⟩
theorem d_L_cell_16 : zd b_L_cell 16 17 (.iadd) 1 := ⟨by decide +kernel, rfl⟩
theorem d_L_cell_17 : zd b_L_cell 17 18 (.imul) 1 := ⟨by decide +kernel, rfl⟩
theorem d_L_cell_18 : zd b_L_cell 18 19 (.ireturn) 1 := ⟨by decide +kernel, rfl⟩
theorem d_L_up_0 : zd b_L_up 0 1 (.iload_n 0) 1 := ⟨by decide +kernel, rfl⟩
theorem d_L_up_1 : zd b_L_up 1 3 (.ldc 8) 2 := ⟨by decide +kernel, rfl⟩
theorem d_L_up_3 : zd b_L_up 3 4 (.iand) 1 := ⟨by decide +kernel, rfl⟩
theorem d_L_up_4 : zd b_L_up 4 5 (.iload_n 1) 1 := ⟨by decide +kernel, rfl⟩
theorem d_L_up_5 : zd b_L_up 5 6 (.irem) 1 := ⟨by decide +kernel, rfl⟩
theorem d_L_up_6 : zd b_L_up 6 7 (.ireturn) 1 := ⟨by decide +kernel, rfl⟩
theorem d_L_view_0 : zd b_L_view 0 3 (.ldc2_w 9) 3 := ⟨by decide +kernel, rfl⟩
theorem d_L_view_3 : zd b_L_view 3 4 (.lstore_n 1) 1 := ⟨by decide +kernel, rfl⟩
theorem d_L_view_4 : zd b_L_view 4 5 (.iconst 0) 1 := ⟨by decide +kernel, rfl⟩
theorem d_L_view_5 : zd b_L_view 5 6 (.istore_n 3) 1 := ⟨by decide +kernel, rfl⟩
theorem d_L_view_6 : zd b_L_view 6 7 (.iload_n 3) 1 := ⟨by decide +kernel, rfl⟩
theorem d_L_view_7 : zd b_L_view 7 8 (.iconst 3) 1 := ⟨by decide +kernel, rfl⟩
theorem d_L_view_8 : zd b_L_view 8 11 (.if_icmp .ge 22) 3 := ⟨by decide +kernel, rfl⟩
theorem d_L_view_11 : zd b_L_view 11 14 (.ldc2_w 11) 3 := ⟨by decide +kernel, rfl⟩
theorem d_L_view_14 : zd b_L_view 14 15 (.lload_n 1) 1 := ⟨by decide +kernel, rfl⟩
theorem d_L_view_15 : zd b_L_view 15 16 (.lmul) 1 := ⟨by decide +kernel, rfl⟩
theorem d_L_view_16 : zd b_L_view 16 17 (.aload_n 0) 1 := ⟨by decide +kernel, rfl⟩
theorem d_L_view_17 : zd b_L_view 17 18 (.iload_n 3) 1 := ⟨by decide +kernel, rfl⟩
theorem d_L_view_18 : zd b_L_view 18 21 (.invokevirtual 13) 3 := ⟨by decide +kernel, rfl⟩
theorem d_L_view_21 : zd b_L_view 21 22 (.i2l) 1 := ⟨by decide +kernel, rfl⟩
theorem d_L_view_22 : zd b_L_view 22 23 (.ladd) 1 := ⟨by decide +kernel, rfl⟩
theorem d_L_view_23 : zd b_L_view 23 24 (.lstore_n 1) 1 := ⟨by decide +kernel, rfl⟩
theorem d_L_view_24 : zd b_L_view 24 27 (.iinc 3 1) 3 := ⟨by decide +kernel, rfl⟩
theorem d_L_view_27 : zd b_L_view 27 30 (.goto (-21)) 3 := ⟨by decide +kernel, rfl⟩
theorem d_L_view_30 : zd b_L_view 30 31 (.iconst 0) 1 := ⟨by decide +kernel, rfl⟩
theorem d_L_view_31 : zd b_L_view 31 32 (.istore_n 3) 1 := ⟨by decide +kernel, rfl⟩
theorem d_L_view_32 : zd b_L_view 32 33 (.iload_n 3) 1 := ⟨by decide +kernel, rfl⟩
theorem d_L_view_33 : zd b_L_view 33 35 (.bipush 8) 2 := ⟨by decide +kernel, rfl⟩
theorem d_L_view_35 : zd b_L_view 35 38 (.if_icmp .ge 40) 3 := ⟨by decide +kernel, rfl⟩
theorem d_L_view_38 : zd b_L_view 38 39 (.iconst 0) 1 := ⟨by decide +kernel, rfl⟩
theorem d_L_view_39 : zd b_L_view 39 41 (.istore 4) 2 := ⟨by decide +kernel, rfl⟩
theorem d_L_view_41 : zd b_L_view 41 43 (.iload 4) 2 := ⟨by decide +kernel, rfl⟩
theorem d_L_view_43 : zd b_L_view 43 45 (.bipush 6) 2 := ⟨by decide +kernel, rfl⟩
theorem d_L_view_45 : zd b_L_view 45 48 (.if_icmp .ge 24) 3 := ⟨by decide +kernel, rfl⟩
theorem d_L_view_48 : zd b_L_view 48 51 (.ldc2_w 11) 3 := ⟨by decide +kernel, rfl⟩
theorem d_L_view_51 : zd b_L_view 51 52 (.lload_n 1) 1 := ⟨by decide +kernel, rfl⟩
theorem d_L_view_52 : zd b_L_view 52 53 (.lmul) 1 := ⟨by decide +kernel, rfl⟩
theorem d_L_view_53 : zd b_L_view 53 54 (.aload_n 0) 1 := ⟨by decide +kernel, rfl⟩
theorem d_L_view_54 : zd b_L_view 54 55 (.iload_n 3) 1 := ⟨by decide +kernel, rfl⟩
theorem d_L_view_55 : zd b_L_view 55 57 (.iload 4) 2 := ⟨by decide +kernel, rfl⟩
theorem d_L_view_57 : zd b_L_view 57 60 (.invokevirtual 19) 3 := ⟨by decide +kernel, rfl⟩
theorem d_L_view_60 : zd b_L_view 60 61 (.i2l) 1 := ⟨by decide +kernel, rfl⟩
theorem d_L_view_61 : zd b_L_view 61 62 (.ladd) 1 := ⟨by decide +kernel, rfl⟩
theorem d_L_view_62 : zd b_L_view 62 63 (.lstore_n 1) 1 := ⟨by decide +kernel, rfl⟩
theorem d_L_view_63 : zd b_L_view 63 66 (.iinc 4 1) 3 := ⟨by decide +kernel, rfl⟩
theorem d_L_view_66 : zd b_L_view 66 69 (.goto (-25)) 3 := ⟨by decide +kernel, rfl⟩
theorem d_L_view_69 : zd b_L_view 69 72 (.iinc 3 1) 3 := ⟨by decide +kernel, rfl⟩
theorem d_L_view_72 : zd b_L_view 72 75 (.goto (-40)) 3 := ⟨by decide +kernel, rfl⟩
theorem d_L_view_75 : zd b_L_view 75 76 (.iconst 0) 1 := ⟨by decide +kernel, rfl⟩
theorem d_L_view_76 : zd b_L_view 76 77 (.istore_n 3) 1 := ⟨by decide +kernel, rfl⟩
theorem d_L_view_77 : zd b_L_view 77 78 (.iload_n 3) 1 := ⟨by decide +kernel, rfl⟩
theorem d_L_view_78 : zd b_L_view 78 79 (.aload_n 0) 1 := ⟨by decide +kernel, rfl⟩
theorem d_L_view_79 : zd b_L_view 79 80 (.iconst 0) 1 := ⟨by decide +kernel, rfl⟩
theorem d_L_view_80 : zd b_L_view 80 83 (.invokevirtual 13) 3 := ⟨by decide +kernel, rfl⟩
theorem d_L_view_83 : zd b_L_view 83 86 (.if_icmp .ge 40) 3 := ⟨by decide +kernel, rfl⟩
theorem d_L_view_86 : zd b_L_view 86 87 (.iconst 0) 1 := ⟨by decide +kernel, rfl⟩
theorem d_L_view_87 : zd b_L_view 87 89 (.istore 4) 2 := ⟨by decide +kernel, rfl⟩
theorem d_L_view_89 : zd b_L_view 89 91 (.iload 4) 2 := ⟨by decide +kernel, rfl⟩
theorem d_L_view_91 : zd b_L_view 91 93 (.bipush 13) 2 := ⟨by decide +kernel, rfl⟩
theorem d_L_view_93 : zd b_L_view 93 96 (.if_icmp .ge 24) 3 := ⟨by decide +kernel, rfl⟩
theorem d_L_view_96 : zd b_L_view 96 99 (.ldc2_w 11) 3 := ⟨by decide +kernel, rfl⟩
theorem d_L_view_99 : zd b_L_view 99 100 (.lload_n 1) 1 := ⟨by decide +kernel, rfl⟩
theorem d_L_view_100 : zd b_L_view 100 101 (.lmul) 1 := ⟨by decide +kernel, rfl⟩
theorem d_L_view_101 : zd b_L_view 101 102 (.aload_n 0) 1 := ⟨by decide +kernel, rfl⟩
theorem d_L_view_102 : zd b_L_view 102 103 (.iload_n 3) 1 := ⟨by decide +kernel, rfl⟩
theorem d_L_view_103 : zd b_L_view 103 105 (.iload 4) 2 := ⟨by decide +kernel, rfl⟩
theorem d_L_view_105 : zd b_L_view 105 108 (.invokevirtual 23) 3 := ⟨by decide +kernel, rfl⟩
theorem d_L_view_108 : zd b_L_view 108 109 (.i2l) 1 := ⟨by decide +kernel, rfl⟩
theorem d_L_view_109 : zd b_L_view 109 110 (.ladd) 1 := ⟨by decide +kernel, rfl⟩
theorem d_L_view_110 : zd b_L_view 110 111 (.lstore_n 1) 1 := ⟨by decide +kernel, rfl⟩
theorem d_L_view_111 : zd b_L_view 111 114 (.iinc 4 1) 3 := ⟨by decide +kernel, rfl⟩
theorem d_L_view_114 : zd b_L_view 114 117 (.goto (-25)) 3 := ⟨by decide +kernel, rfl⟩
theorem d_L_view_117 : zd b_L_view 117 120 (.iinc 3 1) 3 := ⟨by decide +kernel, rfl⟩
theorem d_L_view_120 : zd b_L_view 120 123 (.goto (-43)) 3 := ⟨by decide +kernel, rfl⟩
theorem d_L_view_123 : zd b_L_view 123 124 (.iconst 0) 1 := ⟨by decide +kernel, rfl⟩
theorem d_L_view_124 : zd b_L_view 124 125 (.istore_n 3) 1 := ⟨by decide +kernel, rfl⟩
theorem d_L_view_125 : zd b_L_view 125 126 (.iload_n 3) 1 := ⟨by decide +kernel, rfl⟩
theorem d_L_view_126 : zd b_L_view 126 127 (.aload_n 0) 1 := ⟨by decide +kernel, rfl⟩
theorem d_L_view_127 : zd b_L_view 127 128 (.iconst 1) 1 := ⟨by decide +kernel, rfl⟩
theorem d_L_view_128 : zd b_L_view 128 131 (.invokevirtual 13) 3 := ⟨by decide +kernel, rfl⟩
theorem d_L_view_131 : zd b_L_view 131 134 (.if_icmp .ge 39) 3 := ⟨by decide +kernel, rfl⟩
theorem d_L_view_134 : zd b_L_view 134 135 (.iconst 0) 1 := ⟨by decide +kernel, rfl⟩
theorem d_L_view_135 : zd b_L_view 135 137 (.istore 4) 2 := ⟨by decide +kernel, rfl⟩
theorem d_L_view_137 : zd b_L_view 137 139 (.iload 4) 2 := ⟨by decide +kernel, rfl⟩
theorem d_L_view_139 : zd b_L_view 139 140 (.iconst 3) 1 := ⟨by decide +kernel, rfl⟩
theorem d_L_view_140 : zd b_L_view 140 143 (.if_icmp .ge 24) 3 := ⟨by decide +kernel, rfl⟩
theorem d_L_view_143 : zd b_L_view 143 146 (.ldc2_w 11) 3 := ⟨by decide +kernel, rfl⟩
theorem d_L_view_146 : zd b_L_view 146 147 (.lload_n 1) 1 := ⟨by decide +kernel, rfl⟩
theorem d_L_view_147 : zd b_L_view 147 148 (.lmul) 1 := ⟨by decide +kernel, rfl⟩
theorem d_L_view_148 : zd b_L_view 148 149 (.aload_n 0) 1 := ⟨by decide +kernel, rfl⟩
theorem d_L_view_149 : zd b_L_view 149 150 (.iload_n 3) 1 := ⟨by decide +kernel, rfl⟩
theorem d_L_view_150 : zd b_L_view 150 152 (.iload 4) 2 := ⟨by decide +kernel, rfl⟩
theorem d_L_view_152 : zd b_L_view 152 155 (.invokevirtual 26) 3 := ⟨by decide +kernel, rfl⟩
theorem d_L_view_155 : zd b_L_view 155 156 (.i2l) 1 := ⟨by decide +kernel, rfl⟩
theorem d_L_view_156 : zd b_L_view 156 157 (.ladd) 1 := ⟨by decide +kernel, rfl⟩
theorem d_L_view_157 : zd b_L_view 157 158 (.lstore_n 1) 1 := ⟨by decide +kernel, rfl⟩
theorem d_L_view_158 : zd b_L_view 158 161 (.iinc 4 1) 3 := ⟨by decide +kernel, rfl⟩
theorem d_L_view_161 : zd b_L_view 161 164 (.goto (-24)) 3 := ⟨by decide +kernel, rfl⟩
theorem d_L_view_164 : zd b_L_view 164 167 (.iinc 3 1) 3 := ⟨by decide +kernel, rfl⟩
theorem d_L_view_167 : zd b_L_view 167 170 (.goto (-42)) 3 := ⟨by decide +kernel, rfl⟩
theorem d_L_view_170 : zd b_L_view 170 171 (.iconst 0) 1 := ⟨by decide +kernel, rfl⟩
theorem d_L_view_171 : zd b_L_view 171 172 (.istore_n 3) 1 := ⟨by decide +kernel, rfl⟩
theorem d_L_view_172 : zd b_L_view 172 173 (.iload_n 3) 1 := ⟨by decide +kernel, rfl⟩
theorem d_L_view_173 : zd b_L_view 173 174 (.aload_n 0) 1 := ⟨by decide +kernel, rfl⟩
theorem d_L_view_174 : zd b_L_view 174 175 (.iconst 2) 1 := ⟨by decide +kernel, rfl⟩
theorem d_L_view_175 : zd b_L_view 175 178 (.invokevirtual 13) 3 := ⟨by decide +kernel, rfl⟩
theorem d_L_view_178 : zd b_L_view 178 181 (.if_icmp .ge 40) 3 := ⟨by decide +kernel, rfl⟩
theorem d_L_view_181 : zd b_L_view 181 182 (.iconst 0) 1 := ⟨by decide +kernel, rfl⟩
theorem d_L_view_182 : zd b_L_view 182 184 (.istore 4) 2 := ⟨by decide +kernel, rfl⟩
theorem d_L_view_184 : zd b_L_view 184 186 (.iload 4) 2 := ⟨by decide +kernel, rfl⟩
theorem d_L_view_186 : zd b_L_view 186 188 (.bipush 8) 2 := ⟨by decide +kernel, rfl⟩
theorem d_L_view_188 : zd b_L_view 188 191 (.if_icmp .ge 24) 3 := ⟨by decide +kernel, rfl⟩
theorem d_L_view_191 : zd b_L_view 191 194 (.ldc2_w 11) 3 := ⟨by decide +kernel, rfl⟩
theorem d_L_view_194 : zd b_L_view 194 195 (.lload_n 1) 1 := ⟨by decide +kernel, rfl⟩
theorem d_L_view_195 : zd b_L_view 195 196 (.lmul) 1 := ⟨by decide +kernel, rfl⟩
theorem d_L_view_196 : zd b_L_view 196 197 (.aload_n 0) 1 := ⟨by decide +kernel, rfl⟩
theorem d_L_view_197 : zd b_L_view 197 198 (.iload_n 3) 1 := ⟨by decide +kernel, rfl⟩
theorem d_L_view_198 : zd b_L_view 198 200 (.iload 4) 2 := ⟨by decide +kernel, rfl⟩
theorem d_L_view_200 : zd b_L_view 200 203 (.invokevirtual 29) 3 := ⟨by decide +kernel, rfl⟩
theorem d_L_view_203 : zd b_L_view 203 204 (.i2l) 1 := ⟨by decide +kernel, rfl⟩
theorem d_L_view_204 : zd b_L_view 204 205 (.ladd) 1 := ⟨by decide +kernel, rfl⟩
theorem d_L_view_205 : zd b_L_view 205 206 (.lstore_n 1) 1 := ⟨by decide +kernel, rfl⟩
theorem d_L_view_206 : zd b_L_view 206 209 (.iinc 4 1) 3 := ⟨by decide +kernel, rfl⟩
theorem d_L_view_209 : zd b_L_view 209 212 (.goto (-25)) 3 := ⟨by decide +kernel, rfl⟩
theorem d_L_view_212 : zd b_L_view 212 215 (.iinc 3 1) 3 := ⟨by decide +kernel, rfl⟩
theorem d_L_view_215 : zd b_L_view 215 218 (.goto (-43)) 3 := ⟨by decide +kernel, rfl⟩
theorem d_L_view_218 : zd b_L_view 218 219 (.lload_n 1) 1 := ⟨by decide +kernel, rfl⟩
theorem d_L_view_219 : zd b_L_view 219 220 (.lreturn) 1 := ⟨by decide +kernel, rfl⟩
theorem d_L_any_0 : zd b_L_any 0 1 (.iload_n 2) 1 := ⟨by decide +kernel, rfl⟩
theorem d_L_any_1 : zd b_L_any 1 3 (.bipush 7) 2 := ⟨by decide +kernel, rfl⟩
theorem d_L_any_3 : zd b_L_any 3 4 (.iand) 1 := ⟨by decide +kernel, rfl⟩
theorem d_L_any_4 : zd b_L_any 4 48 (.tableswitch 99 0 6 #[44, 53, 61, 70, 78, 86, 92]) 44 := ⟨by decide +kernel, rfl⟩
theorem d_L_any_48 : zd b_L_any 48 49 (.aload_n 0) 1 := ⟨by decide +kernel, rfl⟩
theorem d_L_any_49 : zd b_L_any 49 50 (.iload_n 1) 1 := ⟨by decide +kernel, rfl⟩
theorem d_L_any_50 : zd b_L_any 50 51 (.iload_n 2) 1 := ⟨by decide +kernel, rfl⟩
theorem d_L_any_51 : zd b_L_any 51 52 (.iload_n 1) 1 := ⟨by decide +kernel, rfl⟩
theorem d_L_any_52 : zd b_L_any 52 53 (.iload_n 2) 1 := ⟨by decide +kernel, rfl⟩
theorem d_L_any_53 : zd b_L_any 53 56 (.invokevirtual 32) 3 := ⟨by decide +kernel, rfl⟩
theorem d_L_any_56 : zd b_L_any 56 57 (.ireturn) 1 := ⟨by decide +kernel, rfl⟩
theorem d_L_any_57 : zd b_L_any 57 58 (.aload_n 0) 1 := ⟨by decide +kernel, rfl⟩
theorem d_L_any_58 : zd b_L_any 58 59 (.iload_n 1) 1 := ⟨by decide +kernel, rfl⟩
theorem d_L_any_59 : zd b_L_any 59 60 (.iload_n 2) 1 := ⟨by decide +kernel, rfl⟩
theorem d_L_any_60 : zd b_L_any 60 61 (.iload_n 1) 1 := ⟨by decide +kernel, rfl⟩
theorem d_L_any_61 : zd b_L_any 61 64 (.invokevirtual 36) 3 := ⟨by decide +kernel, rfl⟩
theorem d_L_any_64 : zd b_L_any 64 65 (.ireturn) 1 := ⟨by decide +kernel, rfl⟩
theorem d_L_any_65 : zd b_L_any 65 66 (.aload_n 0) 1 := ⟨by decide +kernel, rfl⟩
theorem d_L_any_66 : zd b_L_any 66 67 (.iload_n 1) 1 := ⟨by decide +kernel, rfl⟩
theorem d_L_any_67 : zd b_L_any 67 68 (.iload_n 2) 1 := ⟨by decide +kernel, rfl⟩
theorem d_L_any_68 : zd b_L_any 68 69 (.iload_n 1) 1 := ⟨by decide +kernel, rfl⟩
theorem d_L_any_69 : zd b_L_any 69 70 (.iload_n 2) 1 := ⟨by decide +kernel, rfl⟩
theorem d_L_any_70 : zd b_L_any 70 73 (.invokevirtual 40) 3 := ⟨by decide +kernel, rfl⟩
theorem d_L_any_73 : zd b_L_any 73 74 (.ireturn) 1 := ⟨by decide +kernel, rfl⟩
theorem d_L_any_74 : zd b_L_any 74 75 (.aload_n 0) 1 := ⟨by decide +kernel, rfl⟩
theorem d_L_any_75 : zd b_L_any 75 76 (.iload_n 1) 1 := ⟨by decide +kernel, rfl⟩
theorem d_L_any_76 : zd b_L_any 76 77 (.iload_n 2) 1 := ⟨by decide +kernel, rfl⟩
theorem d_L_any_77 : zd b_L_any 77 78 (.iload_n 1) 1 := ⟨by decide +kernel, rfl⟩
theorem d_L_any_78 : zd b_L_any 78 81 (.invokevirtual 43) 3 := ⟨by decide +kernel, rfl⟩
theorem d_L_any_81 : zd b_L_any 81 82 (.ireturn) 1 := ⟨by decide +kernel, rfl⟩
theorem d_L_any_82 : zd b_L_any 82 83 (.aload_n 0) 1 := ⟨by decide +kernel, rfl⟩
theorem d_L_any_83 : zd b_L_any 83 84 (.iload_n 1) 1 := ⟨by decide +kernel, rfl⟩
theorem d_L_any_84 : zd b_L_any 84 85 (.iload_n 2) 1 := ⟨by decide +kernel, rfl⟩
theorem d_L_any_85 : zd b_L_any 85 86 (.iload_n 1) 1 := ⟨by decide +kernel, rfl⟩
theorem d_L_any_86 : zd b_L_any 86 89 (.invokevirtual 46) 3 := ⟨by decide +kernel, rfl⟩
theorem d_L_any_89 : zd b_L_any 89 90 (.ireturn) 1 := ⟨by decide +kernel, rfl⟩
theorem d_L_any_90 : zd b_L_any 90 91 (.aload_n 0) 1 := ⟨by decide +kernel, rfl⟩
theorem d_L_any_91 : zd b_L_any 91 92 (.iload_n 1) 1 := ⟨by decide +kernel, rfl⟩
theorem d_L_any_92 : zd b_L_any 92 95 (.invokevirtual 49) 3 := ⟨by decide +kernel, rfl⟩
theorem d_L_any_95 : zd b_L_any 95 96 (.ireturn) 1 := ⟨by decide +kernel, rfl⟩
theorem d_L_any_96 : zd b_L_any 96 97 (.aload_n 0) 1 := ⟨by decide +kernel, rfl⟩
theorem d_L_any_97 : zd b_L_any 97 98 (.iload_n 1) 1 := ⟨by decide +kernel, rfl⟩
theorem d_L_any_98 : zd b_L_any 98 99 (.iload_n 2) 1 := ⟨by decide +kernel, rfl⟩
theorem d_L_any_99 : zd b_L_any 99 102 (.invokevirtual 52) 3 := ⟨by decide +kernel, rfl⟩
theorem d_L_any_102 : zd b_L_any 102 103 (.ireturn) 1 := ⟨by decide +kernel, rfl⟩
theorem d_L_any_103 : zd b_L_any 103 104 (.aload_n 0) 1 := ⟨by decide +kernel, rfl⟩
theorem d_L_any_104 : zd b_L_any 104 105 (.iload_n 1) 1 := ⟨by decide +kernel, rfl⟩
theorem d_L_any_105 : zd b_L_any 105 106 (.iload_n 2) 1 := ⟨by decide +kernel, rfl⟩
theorem d_L_any_106 : zd b_L_any 106 109 (.invokevirtual 55) 3 := ⟨by decide +kernel, rfl⟩
theorem d_L_any_109 : zd b_L_any 109 110 (.ireturn) 1 := ⟨by decide +kernel, rfl⟩
theorem d_L_turn_0 : zd b_L_turn 0 1 (.iload_n 2) 1 := ⟨by decide +kernel, rfl⟩
theorem d_L_turn_1 : zd b_L_turn 1 3 (.bipush 8) 2 := ⟨by decide +kernel, rfl⟩
theorem d_L_turn_3 : zd b_L_turn 3 4 (.ishr) 1 := ⟨by decide +kernel, rfl⟩
theorem d_L_turn_4 : zd b_L_turn 4 7 (.sipush 1400) 3 := ⟨by decide +kernel, rfl⟩
theorem d_L_turn_7 : zd b_L_turn 7 10 (.invokestatic 58) 3 := ⟨by decide +kernel, rfl⟩
theorem d_L_turn_10 : zd b_L_turn 10 12 (.istore 4) 2 := ⟨by decide +kernel, rfl⟩
theorem d_L_turn_12 : zd b_L_turn 12 14 (.iload 4) 2 := ⟨by decide +kernel, rfl⟩
theorem d_L_turn_14 : zd b_L_turn 14 15 (.iconst 1) 1 := ⟨by decide +kernel, rfl⟩
theorem d_L_turn_15 : zd b_L_turn 15 16 (.iadd) 1 := ⟨by decide +kernel, rfl⟩
theorem d_L_turn_16 : zd b_L_turn 16 17 (.iload_n 3) 1 := ⟨by decide +kernel, rfl⟩
theorem d_L_turn_17 : zd b_L_turn 17 20 (.sipush 1440) 3 := ⟨by decide +kernel, rfl⟩
theorem d_L_turn_20 : zd b_L_turn 20 22 (.iload 4) 2 := ⟨by decide +kernel, rfl⟩
theorem d_L_turn_22 : zd b_L_turn 22 23 (.isub) 1 := ⟨by decide +kernel, rfl⟩
theorem d_L_turn_23 : zd b_L_turn 23 26 (.invokestatic 58) 3 := ⟨by decide +kernel, rfl⟩
theorem d_L_turn_26 : zd b_L_turn 26 27 (.iadd) 1 := ⟨by decide +kernel, rfl⟩
theorem d_L_turn_27 : zd b_L_turn 27 29 (.istore 5) 2 := ⟨by decide +kernel, rfl⟩
theorem d_L_turn_29 : zd b_L_turn 29 30 (.iload_n 1) 1 := ⟨by decide +kernel, rfl⟩
theorem d_L_turn_30 : zd b_L_turn 30 100 (.tableswitch 285 0 13 #[70, 108, 108, 134, 152, 167, 186, 196, 213, 213, 213, 229, 229, 260]) 70 := ⟨by decide +kernel, rfl⟩
theorem d_L_turn_100 : zd b_L_turn 100 101 (.aload_n 0) 1 := ⟨by decide +kernel, rfl⟩
theorem d_L_turn_101 : zd b_L_turn 101 102 (.iload_n 2) 1 := ⟨by decide +kernel, rfl⟩
theorem d_L_turn_102 : zd b_L_turn 102 104 (.bipush 9) 2 := ⟨by decide +kernel, rfl⟩
theorem d_L_turn_104 : zd b_L_turn 104 107 (.invokestatic 58) 3 := ⟨by decide +kernel, rfl⟩
theorem d_L_turn_107 : zd b_L_turn 107 109 (.iload 4) 2 := ⟨by decide +kernel, rfl⟩
theorem d_L_turn_109 : zd b_L_turn 109 111 (.iload 5) 2 := ⟨by decide +kernel, rfl⟩
theorem d_L_turn_111 : zd b_L_turn 111 112 (.iload_n 3) 1 := ⟨by decide +kernel, rfl⟩
theorem d_L_turn_112 : zd b_L_turn 112 114 (.bipush 12) 2 := ⟨by decide +kernel, rfl⟩
theorem d_L_turn_114 : zd b_L_turn 114 115 (.ishr) 1 := ⟨by decide +kernel, rfl⟩
theorem d_L_turn_115 : zd b_L_turn 115 116 (.iconst 4) 1 := ⟨by decide +kernel, rfl⟩
theorem d_L_turn_116 : zd b_L_turn 116 119 (.invokestatic 58) 3 := ⟨by decide +kernel, rfl⟩
theorem d_L_turn_119 : zd b_L_turn 119 122 (.ifCond .ne 12) 3 := ⟨by decide +kernel, rfl⟩
theorem d_L_turn_122 : zd b_L_turn 122 123 (.iload_n 3) 1 := ⟨by decide +kernel, rfl⟩
theorem d_L_turn_123 : zd b_L_turn 123 125 (.bipush 30) 2 := ⟨by decide +kernel, rfl⟩
theorem d_L_turn_125 : zd b_L_turn 125 128 (.invokestatic 58) 3 := ⟨by decide +kernel, rfl⟩
theorem d_L_turn_128 : zd b_L_turn 128 131 (.goto 6) 3 := ⟨by decide +kernel, rfl⟩
theorem d_L_turn_131 : zd b_L_turn 131 134 (.sipush 1000) 3 := ⟨by decide +kernel, rfl⟩
theorem d_L_turn_134 : zd b_L_turn 134 137 (.invokevirtual 32) 3 := ⟨by decide +kernel, rfl⟩
theorem d_L_turn_137 : zd b_L_turn 137 138 (.ireturn) 1 := ⟨by decide +kernel, rfl⟩
theorem d_L_turn_138 : zd b_L_turn 138 139 (.aload_n 0) 1 := ⟨by decide +kernel, rfl⟩
theorem d_L_turn_139 : zd b_L_turn 139 140 (.iload_n 2) 1 := ⟨by decide +kernel, rfl⟩
theorem d_L_turn_140 : zd b_L_turn 140 141 (.iconst 5) 1 := ⟨by decide +kernel, rfl⟩
theorem d_L_turn_141 : zd b_L_turn 141 144 (.invokestatic 58) 3 := ⟨by decide +kernel, rfl⟩
theorem d_L_turn_144 : zd b_L_turn 144 145 (.iload_n 2) 1 := ⟨by decide +kernel, rfl⟩
theorem d_L_turn_145 : zd b_L_turn 145 146 (.iconst 4) 1 := ⟨by decide +kernel, rfl⟩
theorem d_L_turn_146 : zd b_L_turn 146 147 (.ishr) 1 := ⟨by decide +kernel, rfl⟩
theorem d_L_turn_147 : zd b_L_turn 147 148 (.iconst 5) 1 := ⟨by decide +kernel, rfl⟩
theorem d_L_turn_148 : zd b_L_turn 148 151 (.invokestatic 58) 3 := ⟨by decide +kernel, rfl⟩
theorem d_L_turn_151 : zd b_L_turn 151 152 (.iconst 1) 1 := ⟨by decide +kernel, rfl⟩
theorem d_L_turn_152 : zd b_L_turn 152 153 (.iload_n 3) 1 := ⟨by decide +kernel, rfl⟩
theorem d_L_turn_153 : zd b_L_turn 153 156 (.sipush 400) 3 := ⟨by decide +kernel, rfl⟩
theorem d_L_turn_156 : zd b_L_turn 156 159 (.invokestatic 58) 3 := ⟨by decide +kernel, rfl⟩
theorem d_L_turn_159 : zd b_L_turn 159 160 (.iadd) 1 := ⟨by decide +kernel, rfl⟩
theorem d_L_turn_160 : zd b_L_turn 160 163 (.invokevirtual 36) 3 := ⟨by decide +kernel, rfl⟩
theorem d_L_turn_163 : zd b_L_turn 163 164 (.ireturn) 1 := ⟨by decide +kernel, rfl⟩
theorem d_L_turn_164 : zd b_L_turn 164 165 (.aload_n 0) 1 := ⟨by decide +kernel, rfl⟩
theorem d_L_turn_165 : zd b_L_turn 165 166 (.iload_n 2) 1 := ⟨by decide +kernel, rfl⟩
theorem d_L_turn_166 : zd b_L_turn 166 168 (.bipush 6) 2 := ⟨by decide +kernel, rfl⟩
theorem d_L_turn_168 : zd b_L_turn 168 171 (.invokestatic 58) 3 := ⟨by decide +kernel, rfl⟩
theorem d_L_turn_171 : zd b_L_turn 171 173 (.iload 4) 2 := ⟨by decide +kernel, rfl⟩
theorem d_L_turn_173 : zd b_L_turn 173 175 (.iload 5) 2 := ⟨by decide +kernel, rfl⟩
theorem d_L_turn_175 : zd b_L_turn 175 176 (.iload_n 3) 1 := ⟨by decide +kernel, rfl⟩
theorem d_L_turn_176 : zd b_L_turn 176 177 (.iconst 1) 1 := ⟨by decide +kernel, rfl⟩
theorem d_L_turn_177 : zd b_L_turn 177 178 (.iand) 1 := ⟨by decide +kernel, rfl⟩
theorem d_L_turn_178 : zd b_L_turn 178 181 (.invokevirtual 40) 3 := ⟨by decide +kernel, rfl⟩
theorem d_L_turn_181 : zd b_L_turn 181 182 (.ireturn) 1 := ⟨by decide +kernel, rfl⟩
theorem d_L_turn_182 : zd b_L_turn 182 183 (.aload_n 0) 1 := ⟨by decide +kernel, rfl⟩
theorem d_L_turn_183 : zd b_L_turn 183 184 (.iload_n 2) 1 := ⟨by decide +kernel, rfl⟩
theorem d_L_turn_184 : zd b_L_turn 184 186 (.bipush 6) 2 := ⟨by decide +kernel, rfl⟩
theorem d_L_turn_186 : zd b_L_turn 186 189 (.invokestatic 58) 3 := ⟨by decide +kernel, rfl⟩
theorem d_L_turn_189 : zd b_L_turn 189 191 (.iload 4) 2 := ⟨by decide +kernel, rfl⟩
theorem d_L_turn_191 : zd b_L_turn 191 193 (.iload 5) 2 := ⟨by decide +kernel, rfl⟩
theorem d_L_turn_193 : zd b_L_turn 193 196 (.invokevirtual 43) 3 := ⟨by decide +kernel, rfl⟩
theorem d_L_turn_196 : zd b_L_turn 196 197 (.ireturn) 1 := ⟨by decide +kernel, rfl⟩
theorem d_L_turn_197 : zd b_L_turn 197 198 (.aload_n 0) 1 := ⟨by decide +kernel, rfl⟩
theorem d_L_turn_198 : zd b_L_turn 198 199 (.iload_n 2) 1 := ⟨by decide +kernel, rfl⟩
theorem d_L_turn_199 : zd b_L_turn 199 201 (.bipush 6) 2 := ⟨by decide +kernel, rfl⟩
theorem d_L_turn_201 : zd b_L_turn 201 204 (.invokestatic 58) 3 := ⟨by decide +kernel, rfl⟩
theorem d_L_turn_204 : zd b_L_turn 204 205 (.iconst 2) 1 := ⟨by decide +kernel, rfl⟩
theorem d_L_turn_205 : zd b_L_turn 205 207 (.iload 4) 2 := ⟨by decide +kernel, rfl⟩
theorem d_L_turn_207 : zd b_L_turn 207 208 (.imul) 1 := ⟨by decide +kernel, rfl⟩
theorem d_L_turn_208 : zd b_L_turn 208 209 (.iconst 2) 1 := ⟨by decide +kernel, rfl⟩
theorem d_L_turn_209 : zd b_L_turn 209 211 (.iload 5) 2 := ⟨by decide +kernel, rfl⟩
theorem d_L_turn_211 : zd b_L_turn 211 212 (.imul) 1 := ⟨by decide +kernel, rfl⟩
theorem d_L_turn_212 : zd b_L_turn 212 215 (.invokevirtual 46) 3 := ⟨by decide +kernel, rfl⟩
theorem d_L_turn_215 : zd b_L_turn 215 216 (.ireturn) 1 := ⟨by decide +kernel, rfl⟩
theorem d_L_turn_216 : zd b_L_turn 216 217 (.aload_n 0) 1 := ⟨by decide +kernel, rfl⟩
theorem d_L_turn_217 : zd b_L_turn 217 218 (.iload_n 2) 1 := ⟨by decide +kernel, rfl⟩
theorem d_L_turn_218 : zd b_L_turn 218 219 (.iconst 4) 1 := ⟨by decide +kernel, rfl⟩
theorem d_L_turn_219 : zd b_L_turn 219 222 (.invokestatic 58) 3 := ⟨by decide +kernel, rfl⟩
theorem d_L_turn_222 : zd b_L_turn 222 225 (.invokevirtual 49) 3 := ⟨by decide +kernel, rfl⟩
theorem d_L_turn_225 : zd b_L_turn 225 226 (.ireturn) 1 := ⟨by decide +kernel, rfl⟩
theorem d_L_turn_226 : zd b_L_turn 226 227 (.aload_n 0) 1 := ⟨by decide +kernel, rfl⟩
theorem d_L_turn_227 : zd b_L_turn 227 228 (.iload_n 2) 1 := ⟨by decide +kernel, rfl⟩
theorem d_L_turn_228 : zd b_L_turn 228 229 (.iconst 5) 1 := ⟨by decide +kernel, rfl⟩
theorem d_L_turn_229 : zd b_L_turn 229 232 (.invokestatic 58) 3 := ⟨by decide +kernel, rfl⟩
theorem d_L_turn_232 : zd b_L_turn 232 233 (.iload_n 3) 1 := ⟨by decide +kernel, rfl⟩
theorem d_L_turn_233 : zd b_L_turn 233 236 (.sipush 2000) 3 := ⟨by decide +kernel, rfl⟩
theorem d_L_turn_236 : zd b_L_turn 236 239 (.invokestatic 58) 3 := ⟨by decide +kernel, rfl⟩
theorem d_L_turn_239 : zd b_L_turn 239 242 (.invokevirtual 52) 3 := ⟨by decide +kernel, rfl⟩
theorem d_L_turn_242 : zd b_L_turn 242 243 (.ireturn) 1 := ⟨by decide +kernel, rfl⟩
theorem d_L_turn_243 : zd b_L_turn 243 244 (.aload_n 0) 1 := ⟨by decide +kernel, rfl⟩
theorem d_L_turn_244 : zd b_L_turn 244 245 (.iload_n 2) 1 := ⟨by decide +kernel, rfl⟩
theorem d_L_turn_245 : zd b_L_turn 245 246 (.iconst 4) 1 := ⟨by decide +kernel, rfl⟩
theorem d_L_turn_246 : zd b_L_turn 246 249 (.invokestatic 58) 3 := ⟨by decide +kernel, rfl⟩
theorem d_L_turn_249 : zd b_L_turn 249 250 (.iload_n 3) 1 := ⟨by decide +kernel, rfl⟩
theorem d_L_turn_250 : zd b_L_turn 250 252 (.bipush 6) 2 := ⟨by decide +kernel, rfl⟩
theorem d_L_turn_252 : zd b_L_turn 252 255 (.invokestatic 58) 3 := ⟨by decide +kernel, rfl⟩
theorem d_L_turn_255 : zd b_L_turn 255 258 (.invokevirtual 63) 3 := ⟨by decide +kernel, rfl⟩
theorem d_L_turn_258 : zd b_L_turn 258 259 (.ireturn) 1 := ⟨by decide +kernel, rfl⟩
theorem d_L_turn_259 : zd b_L_turn 259 260 (.aload_n 0) 1 := ⟨by decide +kernel, rfl⟩
theorem d_L_turn_260 : zd b_L_turn 260 261 (.iload_n 2) 1 := ⟨by decide +kernel, rfl⟩
theorem d_L_turn_261 : zd b_L_turn 261 262 (.iconst 4) 1 := ⟨by decide +kernel, rfl⟩
theorem d_L_turn_262 : zd b_L_turn 262 265 (.invokestatic 58) 3 := ⟨by decide +kernel, rfl⟩
theorem d_L_turn_265 : zd b_L_turn 265 266 (.iconst 1) 1 := ⟨by decide +kernel, rfl⟩
theorem d_L_turn_266 : zd b_L_turn 266 267 (.iload_n 3) 1 := ⟨by decide +kernel, rfl⟩
theorem d_L_turn_267 : zd b_L_turn 267 268 (.iload_n 3) 1 := ⟨by decide +kernel, rfl⟩
theorem d_L_turn_268 : zd b_L_turn 268 270 (.bipush 64) 2 := ⟨by decide +kernel, rfl⟩
theorem d_L_turn_270 : zd b_L_turn 270 271 (.iand) 1 := ⟨by decide +kernel, rfl⟩
theorem d_L_turn_271 : zd b_L_turn 271 274 (.ifCond .ne 8) 3 := ⟨by decide +kernel, rfl⟩
theorem d_L_turn_274 : zd b_L_turn 274 276 (.bipush 90) 2 := ⟨by decide +kernel, rfl⟩
theorem d_L_turn_276 : zd b_L_turn 276 279 (.goto 6) 3 := ⟨by decide +kernel, rfl⟩
theorem d_L_turn_279 : zd b_L_turn 279 282 (.sipush 1000) 3 := ⟨by decide +kernel, rfl⟩
theorem d_L_turn_282 : zd b_L_turn 282 285 (.invokestatic 58) 3 := ⟨by decide +kernel, rfl⟩
theorem d_L_turn_285 : zd b_L_turn 285 286 (.iadd) 1 := ⟨by decide +kernel, rfl⟩
theorem d_L_turn_286 : zd b_L_turn 286 289 (.invokevirtual 55) 3 := ⟨by decide +kernel, rfl⟩
theorem d_L_turn_289 : zd b_L_turn 289 290 (.ireturn) 1 := ⟨by decide +kernel, rfl⟩
theorem d_L_turn_290 : zd b_L_turn 290 291 (.aload_n 0) 1 := ⟨by decide +kernel, rfl⟩
theorem d_L_turn_291 : zd b_L_turn 291 292 (.iload_n 2) 1 := ⟨by decide +kernel, rfl⟩
theorem d_L_turn_292 : zd b_L_turn 292 293 (.iconst 4) 1 := ⟨by decide +kernel, rfl⟩
theorem d_L_turn_293 : zd b_L_turn 293 296 (.invokestatic 58) 3 := ⟨by decide +kernel, rfl⟩
theorem d_L_turn_296 : zd b_L_turn 296 297 (.iload_n 3) 1 := ⟨by decide +kernel, rfl⟩
theorem d_L_turn_297 : zd b_L_turn 297 298 (.iconst 2) 1 := ⟨by decide +kernel, rfl⟩
theorem d_L_turn_298 : zd b_L_turn 298 301 (.invokestatic 58) 3 := ⟨by decide +kernel, rfl⟩
theorem d_L_turn_301 : zd b_L_turn 301 302 (.aload_n 0) 1 := ⟨by decide +kernel, rfl⟩
theorem d_L_turn_302 : zd b_L_turn 302 303 (.iload_n 2) 1 := ⟨by decide +kernel, rfl⟩
theorem d_L_turn_303 : zd b_L_turn 303 304 (.iconst 4) 1 := ⟨by decide +kernel, rfl⟩
theorem d_L_turn_304 : zd b_L_turn 304 307 (.invokestatic 58) 3 := ⟨by decide +kernel, rfl⟩
theorem d_L_turn_307 : zd b_L_turn 307 310 (.invokevirtual 66) 3 := ⟨by decide +kernel, rfl⟩
theorem d_L_turn_310 : zd b_L_turn 310 311 (.iadd) 1 := ⟨by decide +kernel, rfl⟩
theorem d_L_turn_311 : zd b_L_turn 311 314 (.invokevirtual 55) 3 := ⟨by decide +kernel, rfl⟩
theorem d_L_turn_314 : zd b_L_turn 314 315 (.ireturn) 1 := ⟨by decide +kernel, rfl⟩
theorem d_L_turn_315 : zd b_L_turn 315 316 (.aload_n 0) 1 := ⟨by decide +kernel, rfl⟩
theorem d_L_turn_316 : zd b_L_turn 316 317 (.iload_n 2) 1 := ⟨by decide +kernel, rfl⟩
theorem d_L_turn_317 : zd b_L_turn 317 318 (.iload_n 3) 1 := ⟨by decide +kernel, rfl⟩
theorem d_L_turn_318 : zd b_L_turn 318 321 (.invokestatic 69) 3 := ⟨by decide +kernel, rfl⟩
theorem d_L_turn_321 : zd b_L_turn 321 322 (.ireturn) 1 := ⟨by decide +kernel, rfl⟩
theorem d_L_areRight_0 : zd b_L_areRight 0 1 (.iconst 0) 1 := ⟨by decide +kernel, rfl⟩
theorem d_L_areRight_1 : zd b_L_areRight 1 2 (.istore_n 1) 1 := ⟨by decide +kernel, rfl⟩
theorem d_L_areRight_2 : zd b_L_areRight 2 3 (.iconst 1) 1 := ⟨by decide +kernel, rfl⟩
theorem d_L_areRight_3 : zd b_L_areRight 3 4 (.istore_n 2) 1 := ⟨by decide +kernel, rfl⟩
theorem d_L_areRight_4 : zd b_L_areRight 4 5 (.iconst 0) 1 := ⟨by decide +kernel, rfl⟩
theorem d_L_areRight_5 : zd b_L_areRight 5 6 (.istore_n 3) 1 := ⟨by decide +kernel, rfl⟩
theorem d_L_areRight_6 : zd b_L_areRight 6 7 (.iload_n 3) 1 := ⟨by decide +kernel, rfl⟩
theorem d_L_areRight_7 : zd b_L_areRight 7 8 (.aload_n 0) 1 := ⟨by decide +kernel, rfl⟩
theorem d_L_areRight_8 : zd b_L_areRight 8 9 (.iconst 2) 1 := ⟨by decide +kernel, rfl⟩
theorem d_L_areRight_9 : zd b_L_areRight 9 12 (.invokevirtual 13) 3 := ⟨by decide +kernel, rfl⟩
theorem d_L_areRight_12 : zd b_L_areRight 12 15 (.if_icmp .ge 126) 3 := ⟨by decide +kernel, rfl⟩
theorem d_L_areRight_15 : zd b_L_areRight 15 16 (.iload_n 2) 1 := ⟨by decide +kernel, rfl⟩
theorem d_L_areRight_16 : zd b_L_areRight 16 19 (.ifCond .eq 122) 3 := ⟨by decide +kernel, rfl⟩
theorem d_L_areRight_19 : zd b_L_areRight 19 20 (.aload_n 0) 1 := ⟨by decide +kernel, rfl⟩
theorem d_L_areRight_20 : zd b_L_areRight 20 21 (.iload_n 3) 1 := ⟨by decide +kernel, rfl⟩
theorem d_L_areRight_21 : zd b_L_areRight 21 22 (.iconst 1) 1 := ⟨by decide +kernel, rfl⟩
theorem d_L_areRight_22 : zd b_L_areRight 22 25 (.invokevirtual 29) 3 := ⟨by decide +kernel, rfl⟩
theorem d_L_areRight_25 : zd b_L_areRight 25 27 (.istore 4) 2 := ⟨by decide +kernel, rfl⟩
theorem d_L_areRight_27 : zd b_L_areRight 27 28 (.aload_n 0) 1 := ⟨by decide +kernel, rfl⟩
theorem d_L_areRight_28 : zd b_L_areRight 28 29 (.iload_n 3) 1 := ⟨by decide +kernel, rfl⟩
theorem d_L_areRight_29 : zd b_L_areRight 29 30 (.iconst 0) 1 := ⟨by decide +kernel, rfl⟩
theorem d_L_areRight_30 : zd b_L_areRight 30 33 (.invokevirtual 29) 3 := ⟨by decide +kernel, rfl⟩
theorem d_L_areRight_33 : zd b_L_areRight 33 35 (.istore 5) 2 := ⟨by decide +kernel, rfl⟩
theorem d_L_areRight_35 : zd b_L_areRight 35 37 (.iload 4) 2 := ⟨by decide +kernel, rfl⟩
theorem d_L_areRight_37 : zd b_L_areRight 37 38 (.aload_n 0) 1 := ⟨by decide +kernel, rfl⟩
theorem d_L_areRight_38 : zd b_L_areRight 38 39 (.iload_n 3) 1 := ⟨by decide +kernel, rfl⟩
theorem d_L_areRight_39 : zd b_L_areRight 39 41 (.bipush 7) 2 := ⟨by decide +kernel, rfl⟩
theorem d_L_areRight_41 : zd b_L_areRight 41 44 (.invokevirtual 29) 3 := ⟨by decide +kernel, rfl⟩
theorem d_L_areRight_44 : zd b_L_areRight 44 45 (.aload_n 0) 1 := ⟨by decide +kernel, rfl⟩
theorem d_L_areRight_45 : zd b_L_areRight 45 46 (.iload_n 3) 1 := ⟨by decide +kernel, rfl⟩
theorem d_L_areRight_46 : zd b_L_areRight 46 47 (.iconst 4) 1 := ⟨by decide +kernel, rfl⟩
theorem d_L_areRight_47 : zd b_L_areRight 47 50 (.invokevirtual 29) 3 := ⟨by decide +kernel, rfl⟩
theorem d_L_areRight_50 : zd b_L_areRight 50 51 (.iadd) 1 := ⟨by decide +kernel, rfl⟩
theorem d_L_areRight_51 : zd b_L_areRight 51 52 (.aload_n 0) 1 := ⟨by decide +kernel, rfl⟩
theorem d_L_areRight_52 : zd b_L_areRight 52 53 (.iload_n 3) 1 := ⟨by decide +kernel, rfl⟩
theorem d_L_areRight_53 : zd b_L_areRight 53 54 (.iconst 5) 1 := ⟨by decide +kernel, rfl⟩
theorem d_L_areRight_54 : zd b_L_areRight 54 57 (.invokevirtual 29) 3 := ⟨by decide +kernel, rfl⟩
theorem d_L_areRight_57 : zd b_L_areRight 57 58 (.iadd) 1 := ⟨by decide +kernel, rfl⟩
theorem d_L_areRight_58 : zd b_L_areRight 58 61 (.if_icmp .ne 26) 3 := ⟨by decide +kernel, rfl⟩
theorem d_L_areRight_61 : zd b_L_areRight 61 62 (.aload_n 0) 1 := ⟨by decide +kernel, rfl⟩
theorem d_L_areRight_62 : zd b_L_areRight 62 63 (.iload_n 3) 1 := ⟨by decide +kernel, rfl⟩
theorem d_L_areRight_63 : zd b_L_areRight 63 64 (.iconst 2) 1 := ⟨by decide +kernel, rfl⟩
theorem d_L_areRight_64 : zd b_L_areRight 64 67 (.invokevirtual 29) 3 := ⟨by decide +kernel, rfl⟩
theorem d_L_areRight_67 : zd b_L_areRight 67 69 (.iload 4) 2 := ⟨by decide +kernel, rfl⟩
theorem d_L_areRight_69 : zd b_L_areRight 69 72 (.if_icmp .gt 15) 3 := ⟨by decide +kernel, rfl⟩
theorem d_L_areRight_72 : zd b_L_areRight 72 74 (.iload 4) 2 := ⟨by decide +kernel, rfl⟩
theorem d_L_areRight_74 : zd b_L_areRight 74 77 (.sipush 2880) 3 := ⟨by decide +kernel, rfl⟩
theorem d_L_areRight_77 : zd b_L_areRight 77 80 (.if_icmp .gt 7) 3 := ⟨by decide +kernel, rfl⟩
theorem d_L_areRight_80 : zd b_L_areRight 80 81 (.iconst 1) 1 := ⟨by decide +kernel, rfl⟩
theorem d_L_areRight_81 : zd b_L_areRight 81 84 (.goto 4) 3 := ⟨by decide +kernel, rfl⟩
theorem d_L_areRight_84 : zd b_L_areRight 84 85 (.iconst 0) 1 := ⟨by decide +kernel, rfl⟩
theorem d_L_areRight_85 : zd b_L_areRight 85 86 (.istore_n 2) 1 := ⟨by decide +kernel, rfl⟩
theorem d_L_areRight_86 : zd b_L_areRight 86 87 (.iload_n 2) 1 := ⟨by decide +kernel, rfl⟩
theorem d_L_areRight_87 : zd b_L_areRight 87 90 (.ifCond .eq 34) 3 := ⟨by decide +kernel, rfl⟩
theorem d_L_areRight_90 : zd b_L_areRight 90 91 (.aload_n 0) 1 := ⟨by decide +kernel, rfl⟩
theorem d_L_areRight_91 : zd b_L_areRight 91 93 (.iload 5) 2 := ⟨by decide +kernel, rfl⟩
theorem d_L_areRight_93 : zd b_L_areRight 93 94 (.iconst 5) 1 := ⟨by decide +kernel, rfl⟩
theorem d_L_areRight_94 : zd b_L_areRight 94 97 (.invokevirtual 19) 3 := ⟨by decide +kernel, rfl⟩
theorem d_L_areRight_97 : zd b_L_areRight 97 98 (.iload_n 3) 1 := ⟨by decide +kernel, rfl⟩
theorem d_L_areRight_98 : zd b_L_areRight 98 99 (.ishr) 1 := ⟨by decide +kernel, rfl⟩
theorem d_L_areRight_99 : zd b_L_areRight 99 100 (.iconst 1) 1 := ⟨by decide +kernel, rfl⟩
theorem d_L_areRight_100 : zd b_L_areRight 100 101 (.iand) 1 := ⟨by decide +kernel, rfl⟩
theorem d_L_areRight_101 : zd b_L_areRight 101 102 (.iconst 1) 1 := ⟨by decide +kernel, rfl⟩
theorem d_L_areRight_102 : zd b_L_areRight 102 105 (.if_icmp .ne 19) 3 := ⟨by decide +kernel, rfl⟩
theorem d_L_areRight_105 : zd b_L_areRight 105 106 (.aload_n 0) 1 := ⟨by decide +kernel, rfl⟩
theorem d_L_areRight_106 : zd b_L_areRight 106 107 (.iload_n 3) 1 := ⟨by decide +kernel, rfl⟩
theorem d_L_areRight_107 : zd b_L_areRight 107 109 (.iload 5) 2 := ⟨by decide +kernel, rfl⟩
theorem d_L_areRight_109 : zd b_L_areRight 109 112 (.invokevirtual 73) 3 := ⟨by decide +kernel, rfl⟩
theorem d_L_areRight_112 : zd b_L_areRight 112 114 (.iload 4) 2 := ⟨by decide +kernel, rfl⟩
theorem d_L_areRight_114 : zd b_L_areRight 114 117 (.if_icmp .ne 7) 3 := ⟨by decide +kernel, rfl⟩
theorem d_L_areRight_117 : zd b_L_areRight 117 118 (.iconst 1) 1 := ⟨by decide +kernel, rfl⟩
theorem d_L_areRight_118 : zd b_L_areRight 118 121 (.goto 4) 3 := ⟨by decide +kernel, rfl⟩
theorem d_L_areRight_121 : zd b_L_areRight 121 122 (.iconst 0) 1 := ⟨by decide +kernel, rfl⟩
theorem d_L_areRight_122 : zd b_L_areRight 122 123 (.istore_n 2) 1 := ⟨by decide +kernel, rfl⟩
theorem d_L_areRight_123 : zd b_L_areRight 123 124 (.iload_n 1) 1 := ⟨by decide +kernel, rfl⟩
theorem d_L_areRight_124 : zd b_L_areRight 124 125 (.aload_n 0) 1 := ⟨by decide +kernel, rfl⟩
theorem d_L_areRight_125 : zd b_L_areRight 125 126 (.iload_n 3) 1 := ⟨by decide +kernel, rfl⟩
theorem d_L_areRight_126 : zd b_L_areRight 126 127 (.iconst 3) 1 := ⟨by decide +kernel, rfl⟩
theorem d_L_areRight_127 : zd b_L_areRight 127 130 (.invokevirtual 29) 3 := ⟨by decide +kernel, rfl⟩
theorem d_L_areRight_130 : zd b_L_areRight 130 131 (.iadd) 1 := ⟨by decide +kernel, rfl⟩
theorem d_L_areRight_131 : zd b_L_areRight 131 132 (.istore_n 1) 1 := ⟨by decide +kernel, rfl⟩
theorem d_L_areRight_132 : zd b_L_areRight 132 135 (.iinc 3 1) 3 := ⟨by decide +kernel, rfl⟩
theorem d_L_areRight_135 : zd b_L_areRight 135 138 (.goto (-129)) 3 := ⟨by decide +kernel, rfl⟩
theorem d_L_areRight_138 : zd b_L_areRight 138 139 (.iconst 0) 1 := ⟨by decide +kernel, rfl⟩
theorem d_L_areRight_139 : zd b_L_areRight 139 140 (.istore_n 3) 1 := ⟨by decide +kernel, rfl⟩
theorem d_L_areRight_140 : zd b_L_areRight 140 141 (.iload_n 3) 1 := ⟨by decide +kernel, rfl⟩
theorem d_L_areRight_141 : zd b_L_areRight 141 142 (.aload_n 0) 1 := ⟨by decide +kernel, rfl⟩
theorem d_L_areRight_142 : zd b_L_areRight 142 143 (.iconst 0) 1 := ⟨by decide +kernel, rfl⟩
theorem d_L_areRight_143 : zd b_L_areRight 143 146 (.invokevirtual 13) 3 := ⟨by decide +kernel, rfl⟩
theorem d_L_areRight_146 : zd b_L_areRight 146 149 (.if_icmp .ge 19) 3 := ⟨by decide +kernel, rfl⟩
theorem d_L_areRight_149 : zd b_L_areRight 149 150 (.iload_n 1) 1 := ⟨by decide +kernel, rfl⟩
theorem d_L_areRight_150 : zd b_L_areRight 150 151 (.aload_n 0) 1 := ⟨by decide +kernel, rfl⟩
theorem d_L_areRight_151 : zd b_L_areRight 151 152 (.iload_n 3) 1 := ⟨by decide +kernel, rfl⟩
theorem d_L_areRight_152 : zd b_L_areRight 152 154 (.bipush 12) 2 := ⟨by decide +kernel, rfl⟩
theorem d_L_areRight_154 : zd b_L_areRight 154 157 (.invokevirtual 23) 3 := ⟨by decide +kernel, rfl⟩
theorem d_L_areRight_157 : zd b_L_areRight 157 158 (.isub) 1 := ⟨by decide +kernel, rfl⟩
theorem d_L_areRight_158 : zd b_L_areRight 158 159 (.istore_n 1) 1 := ⟨by decide +kernel, rfl⟩
theorem d_L_areRight_159 : zd b_L_areRight 159 162 (.iinc 3 1) 3 := ⟨by decide +kernel, rfl⟩
theorem d_L_areRight_162 : zd b_L_areRight 162 165 (.goto (-22)) 3 := ⟨by decide +kernel, rfl⟩
theorem d_L_areRight_165 : zd b_L_areRight 165 166 (.iload_n 2) 1 := ⟨by decide +kernel, rfl⟩
theorem d_L_areRight_166 : zd b_L_areRight 166 169 (.ifCond .eq 11) 3 := ⟨by decide +kernel, rfl⟩
theorem d_L_areRight_169 : zd b_L_areRight 169 170 (.iload_n 1) 1 := ⟨by decide +kernel, rfl⟩
theorem d_L_areRight_170 : zd b_L_areRight 170 173 (.ifCond .ne 7) 3 := ⟨by decide +kernel, rfl⟩
theorem d_L_areRight_173 : zd b_L_areRight 173 174 (.iconst 1) 1 := ⟨by decide +kernel, rfl⟩
theorem d_L_areRight_174 : zd b_L_areRight 174 177 (.goto 4) 3 := ⟨by decide +kernel, rfl⟩
theorem d_L_areRight_177 : zd b_L_areRight 177 178 (.iconst 0) 1 := ⟨by decide +kernel, rfl⟩
theorem d_L_areRight_178 : zd b_L_areRight 178 179 (.ireturn) 1 := ⟨by decide +kernel, rfl⟩
theorem d_L_isDue_0 : zd b_L_isDue 0 1 (.iload_n 1) 1 := ⟨by decide +kernel, rfl⟩
theorem d_L_isDue_1 : zd b_L_isDue 1 2 (.aload_n 0) 1 := ⟨by decide +kernel, rfl⟩
theorem d_L_isDue_2 : zd b_L_isDue 2 3 (.iconst 2) 1 := ⟨by decide +kernel, rfl⟩
theorem d_L_isDue_3 : zd b_L_isDue 3 6 (.invokevirtual 13) 3 := ⟨by decide +kernel, rfl⟩
theorem d_L_isDue_6 : zd b_L_isDue 6 9 (.if_icmp .ge 7) 3 := ⟨by decide +kernel, rfl⟩
theorem d_L_isDue_9 : zd b_L_isDue 9 10 (.iconst 1) 1 := ⟨by decide +kernel, rfl⟩
theorem d_L_isDue_10 : zd b_L_isDue 10 13 (.goto 4) 3 := ⟨by decide +kernel, rfl⟩
theorem d_L_isDue_13 : zd b_L_isDue 13 14 (.iconst 0) 1 := ⟨by decide +kernel, rfl⟩
theorem d_L_isDue_14 : zd b_L_isDue 14 16 (.istore 4) 2 := ⟨by decide +kernel, rfl⟩
theorem d_L_isDue_16 : zd b_L_isDue 16 17 (.aload_n 0) 1 := ⟨by decide +kernel, rfl⟩
theorem d_L_isDue_17 : zd b_L_isDue 17 18 (.iload_n 1) 1 := ⟨by decide +kernel, rfl⟩
theorem d_L_isDue_18 : zd b_L_isDue 18 19 (.iconst 1) 1 := ⟨by decide +kernel, rfl⟩
theorem d_L_isDue_19 : zd b_L_isDue 19 22 (.invokevirtual 29) 3 := ⟨by decide +kernel, rfl⟩
theorem d_L_isDue_22 : zd b_L_isDue 22 24 (.istore 5) 2 := ⟨by decide +kernel, rfl⟩
theorem d_L_isDue_24 : zd b_L_isDue 24 25 (.iload_n 3) 1 := ⟨by decide +kernel, rfl⟩
theorem d_L_isDue_25 : zd b_L_isDue 25 28 (.ifCond .ne 105) 3 := ⟨by decide +kernel, rfl⟩
theorem d_L_isDue_28 : zd b_L_isDue 28 30 (.iload 4) 2 := ⟨by decide +kernel, rfl⟩
theorem d_L_isDue_30 : zd b_L_isDue 30 33 (.ifCond .eq 41) 3 := ⟨by decide +kernel, rfl⟩
theorem d_L_isDue_33 : zd b_L_isDue 33 34 (.iload_n 2) 1 := ⟨by decide +kernel, rfl⟩
theorem d_L_isDue_34 : zd b_L_isDue 34 35 (.aload_n 0) 1 := ⟨by decide +kernel, rfl⟩
theorem d_L_isDue_35 : zd b_L_isDue 35 36 (.iconst 0) 1 := ⟨by decide +kernel, rfl⟩
theorem d_L_isDue_36 : zd b_L_isDue 36 39 (.invokevirtual 13) 3 := ⟨by decide +kernel, rfl⟩
theorem d_L_isDue_39 : zd b_L_isDue 39 42 (.if_icmp .ge 32) 3 := ⟨by decide +kernel, rfl⟩
theorem d_L_isDue_42 : zd b_L_isDue 42 43 (.aload_n 0) 1 := ⟨by decide +kernel, rfl⟩
theorem d_L_isDue_43 : zd b_L_isDue 43 44 (.iload_n 2) 1 := ⟨by decide +kernel, rfl⟩
theorem d_L_isDue_44 : zd b_L_isDue 44 45 (.iconst 0) 1 := ⟨by decide +kernel, rfl⟩
theorem d_L_isDue_45 : zd b_L_isDue 45 48 (.invokevirtual 23) 3 := ⟨by decide +kernel, rfl⟩
theorem d_L_isDue_48 : zd b_L_isDue 48 49 (.aload_n 0) 1 := ⟨by decide +kernel, rfl⟩
theorem d_L_isDue_49 : zd b_L_isDue 49 50 (.iload_n 1) 1 := ⟨by decide +kernel, rfl⟩
theorem d_L_isDue_50 : zd b_L_isDue 50 51 (.iconst 0) 1 := ⟨by decide +kernel, rfl⟩
theorem d_L_isDue_51 : zd b_L_isDue 51 54 (.invokevirtual 29) 3 := ⟨by decide +kernel, rfl⟩
theorem d_L_isDue_54 : zd b_L_isDue 54 57 (.if_icmp .ne 17) 3 := ⟨by decide +kernel, rfl⟩
theorem d_L_isDue_57 : zd b_L_isDue 57 58 (.aload_n 0) 1 := ⟨by decide +kernel, rfl⟩
theorem d_L_isDue_58 : zd b_L_isDue 58 59 (.iload_n 2) 1 := ⟨by decide +kernel, rfl⟩
theorem d_L_isDue_59 : zd b_L_isDue 59 61 (.iload 5) 2 := ⟨by decide +kernel, rfl⟩
theorem d_L_isDue_61 : zd b_L_isDue 61 64 (.invokevirtual 76) 3 := ⟨by decide +kernel, rfl⟩
theorem d_L_isDue_64 : zd b_L_isDue 64 67 (.ifCond .ne 7) 3 := ⟨by decide +kernel, rfl⟩
theorem d_L_isDue_67 : zd b_L_isDue 67 68 (.iconst 1) 1 := ⟨by decide +kernel, rfl⟩
theorem d_L_isDue_68 : zd b_L_isDue 68 71 (.goto 4) 3 := ⟨by decide +kernel, rfl⟩
theorem d_L_isDue_71 : zd b_L_isDue 71 72 (.iconst 0) 1 := ⟨by decide +kernel, rfl⟩
theorem d_L_isDue_72 : zd b_L_isDue 72 74 (.istore 6) 2 := ⟨by decide +kernel, rfl⟩
theorem d_L_isDue_74 : zd b_L_isDue 74 76 (.iload 6) 2 := ⟨by decide +kernel, rfl⟩
theorem d_L_isDue_76 : zd b_L_isDue 76 79 (.ifCond .eq 15) 3 := ⟨by decide +kernel, rfl⟩
theorem d_L_isDue_79 : zd b_L_isDue 79 81 (.iload 5) 2 := ⟨by decide +kernel, rfl⟩
theorem d_L_isDue_81 : zd b_L_isDue 81 82 (.aload_n 0) 1 := ⟨by decide +kernel, rfl⟩
theorem d_L_isDue_82 : zd b_L_isDue 82 83 (.iload_n 2) 1 := ⟨by decide +kernel, rfl⟩
theorem d_L_isDue_83 : zd b_L_isDue 83 84 (.iconst 2) 1 := ⟨by decide +kernel, rfl⟩
theorem d_L_isDue_84 : zd b_L_isDue 84 87 (.invokevirtual 23) 3 := ⟨by decide +kernel, rfl⟩
theorem d_L_isDue_87 : zd b_L_isDue 87 88 (.iadd) 1 := ⟨by decide +kernel, rfl⟩
theorem d_L_isDue_88 : zd b_L_isDue 88 91 (.goto 23) 3 := ⟨by decide +kernel, rfl⟩
theorem d_L_isDue_91 : zd b_L_isDue 91 93 (.iload 4) 2 := ⟨by decide +kernel, rfl⟩
theorem d_L_isDue_93 : zd b_L_isDue 93 96 (.ifCond .eq 17) 3 := ⟨by decide +kernel, rfl⟩
theorem d_L_isDue_96 : zd b_L_isDue 96 97 (.iload_n 2) 1 := ⟨by decide +kernel, rfl⟩
theorem d_L_isDue_97 : zd b_L_isDue 97 98 (.aload_n 0) 1 := ⟨by decide +kernel, rfl⟩
theorem d_L_isDue_98 : zd b_L_isDue 98 99 (.iconst 0) 1 := ⟨by decide +kernel, rfl⟩
theorem d_L_isDue_99 : zd b_L_isDue 99 102 (.invokevirtual 13) 3 := ⟨by decide +kernel, rfl⟩
theorem d_L_isDue_102 : zd b_L_isDue 102 105 (.if_icmp .ge 8) 3 := ⟨by decide +kernel, rfl⟩
theorem d_L_isDue_105 : zd b_L_isDue 105 107 (.bipush (-5)) 2 := ⟨by decide +kernel, rfl⟩
theorem d_L_isDue_107 : zd b_L_isDue 107 110 (.goto 4) 3 := ⟨by decide +kernel, rfl⟩
theorem d_L_isDue_110 : zd b_L_isDue 110 111 (.iconst (-1)) 1 := ⟨by decide +kernel, rfl⟩
theorem d_L_isDue_111 : zd b_L_isDue 111 113 (.istore 7) 2 := ⟨by decide +kernel, rfl⟩
theorem d_L_isDue_113 : zd b_L_isDue 113 114 (.aload_n 0) 1 := ⟨by decide +kernel, rfl⟩
theorem d_L_isDue_114 : zd b_L_isDue 114 115 (.iload_n 1) 1 := ⟨by decide +kernel, rfl⟩
theorem d_L_isDue_115 : zd b_L_isDue 115 116 (.iload_n 2) 1 := ⟨by decide +kernel, rfl⟩
theorem d_L_isDue_116 : zd b_L_isDue 116 119 (.invokevirtual 63) 3 := ⟨by decide +kernel, rfl⟩
theorem d_L_isDue_119 : zd b_L_isDue 119 121 (.iload 7) 2 := ⟨by decide +kernel, rfl⟩
theorem d_L_isDue_121 : zd b_L_isDue 121 124 (.if_icmp .ne 7) 3 := ⟨by decide +kernel, rfl⟩
theorem d_L_isDue_124 : zd b_L_isDue 124 125 (.iconst 1) 1 := ⟨by decide +kernel, rfl⟩
theorem d_L_isDue_125 : zd b_L_isDue 125 128 (.goto 4) 3 := ⟨by decide +kernel, rfl⟩
theorem d_L_isDue_128 : zd b_L_isDue 128 129 (.iconst 0) 1 := ⟨by decide +kernel, rfl⟩
theorem d_L_isDue_129 : zd b_L_isDue 129 130 (.ireturn) 1 := ⟨by decide +kernel, rfl⟩
theorem d_L_isDue_130 : zd b_L_isDue 130 132 (.iload 4) 2 := ⟨by decide +kernel, rfl⟩
theorem d_L_isDue_132 : zd b_L_isDue 132 135 (.ifCond .eq 16) 3 := ⟨by decide +kernel, rfl⟩
theorem d_L_isDue_135 : zd b_L_isDue 135 136 (.iload_n 3) 1 := ⟨by decide +kernel, rfl⟩
theorem d_L_isDue_136 : zd b_L_isDue 136 137 (.aload_n 0) 1 := ⟨by decide +kernel, rfl⟩
theorem d_L_isDue_137 : zd b_L_isDue 137 138 (.iload_n 1) 1 := ⟨by decide +kernel, rfl⟩
theorem d_L_isDue_138 : zd b_L_isDue 138 141 (.invokevirtual 66) 3 := ⟨by decide +kernel, rfl⟩
theorem d_L_isDue_141 : zd b_L_isDue 141 144 (.if_icmp .gt 7) 3 := ⟨by decide +kernel, rfl⟩
theorem d_L_isDue_144 : zd b_L_isDue 144 145 (.iconst 1) 1 := ⟨by decide +kernel, rfl⟩
theorem d_L_isDue_145 : zd b_L_isDue 145 148 (.goto 4) 3 := ⟨by decide +kernel, rfl⟩
theorem d_L_isDue_148 : zd b_L_isDue 148 149 (.iconst 0) 1 := ⟨by decide +kernel, rfl⟩
theorem d_L_isDue_149 : zd b_L_isDue 149 151 (.istore 6) 2 := ⟨by decide +kernel, rfl⟩
theorem d_L_isDue_151 : zd b_L_isDue 151 153 (.iload 6) 2 := ⟨by decide +kernel, rfl⟩
theorem d_L_isDue_153 : zd b_L_isDue 153 156 (.ifCond .eq 10) 3 := ⟨by decide +kernel, rfl⟩
theorem d_L_isDue_156 : zd b_L_isDue 156 158 (.iload 5) 2 := ⟨by decide +kernel, rfl⟩
theorem d_L_isDue_158 : zd b_L_isDue 158 159 (.iload_n 3) 1 := ⟨by decide +kernel, rfl⟩
theorem d_L_isDue_159 : zd b_L_isDue 159 160 (.iadd) 1 := ⟨by decide +kernel, rfl⟩
theorem d_L_isDue_160 : zd b_L_isDue 160 163 (.goto 14) 3 := ⟨by decide +kernel, rfl⟩
theorem d_L_isDue_163 : zd b_L_isDue 163 165 (.iload 4) 2 := ⟨by decide +kernel, rfl⟩
theorem d_L_isDue_165 : zd b_L_isDue 165 168 (.ifCond .eq 8) 3 := ⟨by decide +kernel, rfl⟩
theorem d_L_isDue_168 : zd b_L_isDue 168 170 (.bipush (-5)) 2 := ⟨by decide +kernel, rfl⟩
theorem d_L_isDue_170 : zd b_L_isDue 170 173 (.goto 4) 3 := ⟨by decide +kernel, rfl⟩
theorem d_L_isDue_173 : zd b_L_isDue 173 174 (.iconst (-1)) 1 := ⟨by decide +kernel, rfl⟩
theorem d_L_isDue_174 : zd b_L_isDue 174 176 (.istore 7) 2 := ⟨by decide +kernel, rfl⟩
theorem d_L_isDue_176 : zd b_L_isDue 176 177 (.aload_n 0) 1 := ⟨by decide +kernel, rfl⟩
theorem d_L_isDue_177 : zd b_L_isDue 177 178 (.iload_n 1) 1 := ⟨by decide +kernel, rfl⟩
theorem d_L_isDue_178 : zd b_L_isDue 178 179 (.iload_n 3) 1 := ⟨by decide +kernel, rfl⟩
theorem d_L_isDue_179 : zd b_L_isDue 179 182 (.invokevirtual 55) 3 := ⟨by decide +kernel, rfl⟩
theorem d_L_isDue_182 : zd b_L_isDue 182 184 (.iload 7) 2 := ⟨by decide +kernel, rfl⟩
theorem d_L_isDue_184 : zd b_L_isDue 184 187 (.if_icmp .ne 7) 3 := ⟨by decide +kernel, rfl⟩
theorem d_L_isDue_187 : zd b_L_isDue 187 188 (.iconst 1) 1 := ⟨by decide +kernel, rfl⟩
theorem d_L_isDue_188 : zd b_L_isDue 188 191 (.goto 4) 3 := ⟨by decide +kernel, rfl⟩
theorem d_L_isDue_191 : zd b_L_isDue 191 192 (.iconst 0) 1 := ⟨by decide +kernel, rfl⟩
theorem d_L_isDue_192 : zd b_L_isDue 192 193 (.ireturn) 1 := ⟨by decide +kernel, rfl⟩
theorem d_L_isUndone_0 : zd b_L_isUndone 0 1 (.aload_n 0) 1 := ⟨by decide +kernel, rfl⟩
theorem d_L_isUndone_1 : zd b_L_isUndone 1 2 (.iconst 5) 1 := ⟨by decide +kernel, rfl⟩
theorem d_L_isUndone_2 : zd b_L_isUndone 2 5 (.invokevirtual 13) 3 := ⟨by decide +kernel, rfl⟩
theorem d_L_isUndone_5 : zd b_L_isUndone 5 7 (.istore 7) 2 := ⟨by decide +kernel, rfl⟩
theorem d_L_isUndone_7 : zd b_L_isUndone 7 8 (.aload_n 0) 1 := ⟨by decide +kernel, rfl⟩
theorem d_L_isUndone_8 : zd b_L_isUndone 8 11 (.invokevirtual 79) 3 := ⟨by decide +kernel, rfl⟩
theorem d_L_isUndone_11 : zd b_L_isUndone 11 13 (.iload 7) 2 := ⟨by decide +kernel, rfl⟩
theorem d_L_isUndone_13 : zd b_L_isUndone 13 14 (.iconst 1) 1 := ⟨by decide +kernel, rfl⟩
theorem d_L_isUndone_14 : zd b_L_isUndone 14 15 (.isub) 1 := ⟨by decide +kernel, rfl⟩
theorem d_L_isUndone_15 : zd b_L_isUndone 15 18 (.if_icmp .ne 51) 3 := ⟨by decide +kernel, rfl⟩
theorem d_L_isUndone_18 : zd b_L_isUndone 18 19 (.aload_n 0) 1 := ⟨by decide +kernel, rfl⟩
theorem d_L_isUndone_19 : zd b_L_isUndone 19 20 (.iconst 5) 1 := ⟨by decide +kernel, rfl⟩
theorem d_L_isUndone_20 : zd b_L_isUndone 20 23 (.invokevirtual 13) 3 := ⟨by decide +kernel, rfl⟩
theorem d_L_isUndone_23 : zd b_L_isUndone 23 25 (.iload 7) 2 := ⟨by decide +kernel, rfl⟩
theorem d_L_isUndone_25 : zd b_L_isUndone 25 26 (.iconst 1) 1 := ⟨by decide +kernel, rfl⟩
theorem d_L_isUndone_26 : zd b_L_isUndone 26 27 (.isub) 1 := ⟨by decide +kernel, rfl⟩
theorem d_L_isUndone_27 : zd b_L_isUndone 27 30 (.if_icmp .ne 39) 3 := ⟨by decide +kernel, rfl⟩
theorem d_L_isUndone_30 : zd b_L_isUndone 30 31 (.aload_n 0) 1 := ⟨by decide +kernel, rfl⟩
theorem d_L_isUndone_31 : zd b_L_isUndone 31 34 (.invokestatic 83) 3 := ⟨by decide +kernel, rfl⟩
theorem d_L_isUndone_34 : zd b_L_isUndone 34 36 (.lload 5) 2 := ⟨by decide +kernel, rfl⟩
theorem d_L_isUndone_36 : zd b_L_isUndone 36 37 (.lcmp) 1 := ⟨by decide +kernel, rfl⟩
theorem d_L_isUndone_37 : zd b_L_isUndone 37 40 (.ifCond .ne 29) 3 := ⟨by decide +kernel, rfl⟩
theorem d_L_isUndone_40 : zd b_L_isUndone 40 41 (.aload_n 0) 1 := ⟨by decide +kernel, rfl⟩
theorem d_L_isUndone_41 : zd b_L_isUndone 41 42 (.iload_n 1) 1 := ⟨by decide +kernel, rfl⟩
theorem d_L_isUndone_42 : zd b_L_isUndone 42 43 (.iload_n 2) 1 := ⟨by decide +kernel, rfl⟩
theorem d_L_isUndone_43 : zd b_L_isUndone 43 44 (.iload_n 3) 1 := ⟨by decide +kernel, rfl⟩
theorem d_L_isUndone_44 : zd b_L_isUndone 44 47 (.invokestatic 87) 3 := ⟨by decide +kernel, rfl⟩
theorem d_L_isUndone_47 : zd b_L_isUndone 47 49 (.iload 4) 2 := ⟨by decide +kernel, rfl⟩
theorem d_L_isUndone_49 : zd b_L_isUndone 49 52 (.if_icmp .ne 17) 3 := ⟨by decide +kernel, rfl⟩
theorem d_L_isUndone_52 : zd b_L_isUndone 52 53 (.aload_n 0) 1 := ⟨by decide +kernel, rfl⟩
theorem d_L_isUndone_53 : zd b_L_isUndone 53 54 (.iconst 5) 1 := ⟨by decide +kernel, rfl⟩
theorem d_L_isUndone_54 : zd b_L_isUndone 54 57 (.invokevirtual 13) 3 := ⟨by decide +kernel, rfl⟩
theorem d_L_isUndone_57 : zd b_L_isUndone 57 59 (.iload 7) 2 := ⟨by decide +kernel, rfl⟩
theorem d_L_isUndone_59 : zd b_L_isUndone 59 62 (.if_icmp .ne 7) 3 := ⟨by decide +kernel, rfl⟩
theorem d_L_isUndone_62 : zd b_L_isUndone 62 63 (.iconst 1) 1 := ⟨by decide +kernel, rfl⟩
theorem d_L_isUndone_63 : zd b_L_isUndone 63 66 (.goto 4) 3 := ⟨by decide +kernel, rfl⟩
theorem d_L_isUndone_66 : zd b_L_isUndone 66 67 (.iconst 0) 1 := ⟨by decide +kernel, rfl⟩
theorem d_L_isUndone_67 : zd b_L_isUndone 67 68 (.ireturn) 1 := ⟨by decide +kernel, rfl⟩
theorem d_L_isSaved_0 : zd b_L_isSaved 0 1 (.iload_n 1) 1 := ⟨by decide +kernel, rfl⟩
theorem d_L_isSaved_1 : zd b_L_isSaved 1 2 (.iconst 1) 1 := ⟨by decide +kernel, rfl⟩
theorem d_L_isSaved_2 : zd b_L_isSaved 2 3 (.iand) 1 := ⟨by decide +kernel, rfl⟩
theorem d_L_isSaved_3 : zd b_L_isSaved 3 4 (.istore_n 3) 1 := ⟨by decide +kernel, rfl⟩
theorem d_L_isSaved_4 : zd b_L_isSaved 4 5 (.aload_n 0) 1 := ⟨by decide +kernel, rfl⟩
theorem d_L_isSaved_5 : zd b_L_isSaved 5 8 (.invokestatic 83) 3 := ⟨by decide +kernel, rfl⟩
theorem d_L_isSaved_8 : zd b_L_isSaved 8 10 (.lstore 4) 2 := ⟨by decide +kernel, rfl⟩
theorem d_L_isSaved_10 : zd b_L_isSaved 10 11 (.aload_n 0) 1 := ⟨by decide +kernel, rfl⟩
theorem d_L_isSaved_11 : zd b_L_isSaved 11 12 (.iconst 5) 1 := ⟨by decide +kernel, rfl⟩
theorem d_L_isSaved_12 : zd b_L_isSaved 12 15 (.invokevirtual 13) 3 := ⟨by decide +kernel, rfl⟩
theorem d_L_isSaved_15 : zd b_L_isSaved 15 17 (.istore 6) 2 := ⟨by decide +kernel, rfl⟩
theorem d_L_isSaved_17 : zd b_L_isSaved 17 18 (.aload_n 0) 1 := ⟨by decide +kernel, rfl⟩
theorem d_L_isSaved_18 : zd b_L_isSaved 18 19 (.iload_n 3) 1 := ⟨by decide +kernel, rfl⟩
theorem d_L_isSaved_19 : zd b_L_isSaved 19 22 (.invokevirtual 91) 3 := ⟨by decide +kernel, rfl⟩
theorem d_L_isSaved_22 : zd b_L_isSaved 22 23 (.aload_n 0) 1 := ⟨by decide +kernel, rfl⟩
theorem d_L_isSaved_23 : zd b_L_isSaved 23 24 (.iconst 0) 1 := ⟨by decide +kernel, rfl⟩
theorem d_L_isSaved_24 : zd b_L_isSaved 24 27 (.invokevirtual 13) 3 := ⟨by decide +kernel, rfl⟩
theorem d_L_isSaved_27 : zd b_L_isSaved 27 30 (.if_icmp .ne 13) 3 := ⟨by decide +kernel, rfl⟩
theorem d_L_isSaved_30 : zd b_L_isSaved 30 31 (.aload_n 0) 1 := ⟨by decide +kernel, rfl⟩
theorem d_L_isSaved_31 : zd b_L_isSaved 31 32 (.iconst 5) 1 := ⟨by decide +kernel, rfl⟩
theorem d_L_isSaved_32 : zd b_L_isSaved 32 35 (.invokevirtual 13) 3 := ⟨by decide +kernel, rfl⟩
theorem d_L_isSaved_35 : zd b_L_isSaved 35 37 (.iload 6) 2 := ⟨by decide +kernel, rfl⟩
theorem d_L_isSaved_37 : zd b_L_isSaved 37 40 (.if_icmp .eq 5) 3 := ⟨by decide +kernel, rfl⟩
theorem d_L_isSaved_40 : zd b_L_isSaved 40 41 (.iconst 0) 1 := ⟨by decide +kernel, rfl⟩
theorem d_L_isSaved_41 : zd b_L_isSaved 41 42 (.ireturn) 1 := ⟨by decide +kernel, rfl⟩
theorem d_L_isSaved_42 : zd b_L_isSaved 42 43 (.aload_n 0) 1 := ⟨by decide +kernel, rfl⟩
theorem d_L_isSaved_43 : zd b_L_isSaved 43 44 (.iload_n 2) 1 := ⟨by decide +kernel, rfl⟩
theorem d_L_isSaved_44 : zd b_L_isSaved 44 46 (.bipush 14) 2 := ⟨by decide +kernel, rfl⟩
theorem d_L_isSaved_46 : zd b_L_isSaved 46 49 (.invokestatic 58) 3 := ⟨by decide +kernel, rfl⟩
theorem d_L_isSaved_49 : zd b_L_isSaved 49 50 (.iload_n 2) 1 := ⟨by decide +kernel, rfl⟩
theorem d_L_isSaved_50 : zd b_L_isSaved 50 51 (.iload_n 1) 1 := ⟨by decide +kernel, rfl⟩
theorem d_L_isSaved_51 : zd b_L_isSaved 51 54 (.invokestatic 87) 3 := ⟨by decide +kernel, rfl⟩
theorem d_L_isSaved_54 : zd b_L_isSaved 54 55 (.pop) 1 := ⟨by decide +kernel, rfl⟩
theorem d_L_isSaved_55 : zd b_L_isSaved 55 56 (.aload_n 0) 1 := ⟨by decide +kernel, rfl⟩
theorem d_L_isSaved_56 : zd b_L_isSaved 56 57 (.iload_n 3) 1 := ⟨by decide +kernel, rfl⟩
theorem d_L_isSaved_57 : zd b_L_isSaved 57 60 (.invokevirtual 94) 3 := ⟨by decide +kernel, rfl⟩
theorem d_L_isSaved_60 : zd b_L_isSaved 60 61 (.aload_n 0) 1 := ⟨by decide +kernel, rfl⟩
theorem d_L_isSaved_61 : zd b_L_isSaved 61 62 (.iconst 0) 1 := ⟨by decide +kernel, rfl⟩
theorem d_L_isSaved_62 : zd b_L_isSaved 62 65 (.invokevirtual 13) 3 := ⟨by decide +kernel, rfl⟩
theorem d_L_isSaved_65 : zd b_L_isSaved 65 68 (.if_icmp .ne 17) 3 := ⟨by decide +kernel, rfl⟩
theorem d_L_isSaved_68 : zd b_L_isSaved 68 69 (.aload_n 0) 1 := ⟨by decide +kernel, rfl⟩
theorem d_L_isSaved_69 : zd b_L_isSaved 69 72 (.invokestatic 83) 3 := ⟨by decide +kernel, rfl⟩
theorem d_L_isSaved_72 : zd b_L_isSaved 72 74 (.lload 4) 2 := ⟨by decide +kernel, rfl⟩
theorem d_L_isSaved_74 : zd b_L_isSaved 74 75 (.lcmp) 1 := ⟨by decide +kernel, rfl⟩
theorem d_L_isSaved_75 : zd b_L_isSaved 75 78 (.ifCond .ne 7) 3 := ⟨by decide +kernel, rfl⟩
theorem d_L_isSaved_78 : zd b_L_isSaved 78 79 (.iconst 1) 1 := ⟨by decide +kernel, rfl⟩
theorem d_L_isSaved_79 : zd b_L_isSaved 79 82 (.goto 4) 3 := ⟨by decide +kernel, rfl⟩
theorem d_L_isSaved_82 : zd b_L_isSaved 82 83 (.iconst 0) 1 := ⟨by decide +kernel, rfl⟩
theorem d_L_isSaved_83 : zd b_L_isSaved 83 84 (.ireturn) 1 := ⟨by decide +kernel, rfl⟩
theorem d_L_law_0 : zd b_L_law 0 3 (.new 14) 3 := ⟨by decide +kernel, rfl⟩
theorem d_L_law_3 : zd b_L_law 3 4 (.dup) 1 := ⟨by decide +kernel, rfl⟩
theorem d_L_law_4 : zd b_L_law 4 7 (.invokespecial 97) 3 := ⟨by decide +kernel, rfl⟩
theorem d_L_law_7 : zd b_L_law 7 8 (.astore_n 1) 1 := ⟨by decide +kernel, rfl⟩
theorem d_L_law_8 : zd b_L_law 8 9 (.aload_n 0) 1 := ⟨by decide +kernel, rfl⟩
theorem d_L_law_9 : zd b_L_law 9 10 (.arraylength) 1 := ⟨by decide +kernel, rfl⟩
theorem d_L_law_10 : zd b_L_law 10 11 (.iconst 3) 1 := ⟨by decide +kernel, rfl⟩
theorem d_L_law_11 : zd b_L_law 11 12 (.idiv) 1 := ⟨by decide +kernel, rfl⟩
theorem d_L_law_12 : zd b_L_law 12 14 (.bipush 36) 2 := ⟨by decide +kernel, rfl⟩
theorem d_L_law_14 : zd b_L_law 14 17 (.if_icmp .ge 10) 3 := ⟨by decide +kernel, rfl⟩
theorem d_L_law_17 : zd b_L_law 17 18 (.aload_n 0) 1 := ⟨by decide +kernel, rfl⟩
theorem d_L_law_18 : zd b_L_law 18 19 (.arraylength) 1 := ⟨by decide +kernel, rfl⟩
theorem d_L_law_19 : zd b_L_law 19 20 (.iconst 3) 1 := ⟨by decide +kernel, rfl⟩
theorem d_L_law_20 : zd b_L_law 20 21 (.idiv) 1 := ⟨by decide +kernel, rfl⟩
theorem d_L_law_21 : zd b_L_law 21 24 (.goto 5) 3 := ⟨by decide +kernel, rfl⟩
theorem d_L_law_24 : zd b_L_law 24 26 (.bipush 36) 2 := ⟨by decide +kernel, rfl⟩
theorem d_L_law_26 : zd b_L_law 26 27 (.istore_n 2) 1 := ⟨by decide +kernel, rfl⟩
theorem d_L_law_27 : zd b_L_law 27 28 (.iconst 0) 1 := ⟨by decide +kernel, rfl⟩
theorem d_L_law_28 : zd b_L_law 28 29 (.istore_n 3) 1 := ⟨by decide +kernel, rfl⟩
theorem d_L_law_29 : zd b_L_law 29 30 (.iload_n 3) 1 := ⟨by decide +kernel, rfl⟩
theorem d_L_law_30 : zd b_L_law 30 31 (.iload_n 2) 1 := ⟨by decide +kernel, rfl⟩
theorem d_L_law_31 : zd b_L_law 31 34 (.if_icmp .ge 336) 3 := ⟨by decide +kernel, rfl⟩
theorem d_L_law_34 : zd b_L_law 34 35 (.aload_n 0) 1 := ⟨by decide +kernel, rfl⟩
theorem d_L_law_35 : zd b_L_law 35 36 (.iconst 3) 1 := ⟨by decide +kernel, rfl⟩
theorem d_L_law_36 : zd b_L_law 36 37 (.iload_n 3) 1 := ⟨by decide +kernel, rfl⟩
theorem d_L_law_37 : zd b_L_law 37 38 (.imul) 1 := ⟨by decide +kernel, rfl⟩
theorem d_L_law_38 : zd b_L_law 38 41 (.invokestatic 98) 3 := ⟨by decide +kernel, rfl⟩
theorem d_L_law_41 : zd b_L_law 41 43 (.istore 4) 2 := ⟨by decide +kernel, rfl⟩
theorem d_L_law_43 : zd b_L_law 43 45 (.iload 4) 2 := ⟨by decide +kernel, rfl⟩
theorem d_L_law_45 : zd b_L_law 45 47 (.bipush 15) 2 := ⟨by decide +kernel, rfl⟩
theorem d_L_law_47 : zd b_L_law 47 48 (.iand) 1 := ⟨by decide +kernel, rfl⟩
theorem d_L_law_48 : zd b_L_law 48 50 (.istore 5) 2 := ⟨by decide +kernel, rfl⟩
theorem d_L_law_50 : zd b_L_law 50 51 (.aload_n 0) 1 := ⟨by decide +kernel, rfl⟩
theorem d_L_law_51 : zd b_L_law 51 52 (.iconst 3) 1 := ⟨by decide +kernel, rfl⟩
theorem d_L_law_52 : zd b_L_law 52 53 (.iload_n 3) 1 := ⟨by decide +kernel, rfl⟩
theorem d_L_law_53 : zd b_L_law 53 54 (.imul) 1 := ⟨by decide +kernel, rfl⟩
theorem d_L_law_54 : zd b_L_law 54 55 (.iconst 1) 1 := ⟨by decide +kernel, rfl⟩
theorem d_L_law_55 : zd b_L_law 55 56 (.iadd) 1 := ⟨by decide +kernel, rfl⟩
theorem d_L_law_56 : zd b_L_law 56 59 (.invokestatic 98) 3 := ⟨by decide +kernel, rfl⟩
theorem d_L_law_59 : zd b_L_law 59 61 (.istore 6) 2 := ⟨by decide +kernel, rfl⟩
theorem d_L_law_61 : zd b_L_law 61 62 (.aload_n 0) 1 := ⟨by decide +kernel, rfl⟩
theorem d_L_law_62 : zd b_L_law 62 63 (.iconst 3) 1 := ⟨by decide +kernel, rfl⟩
theorem d_L_law_63 : zd b_L_law 63 64 (.iload_n 3) 1 := ⟨by decide +kernel, rfl⟩
theorem d_L_law_64 : zd b_L_law 64 65 (.imul) 1 := ⟨by decide +kernel, rfl⟩
theorem d_L_law_65 : zd b_L_law 65 66 (.iconst 2) 1 := ⟨by decide +kernel, rfl⟩
theorem d_L_law_66 : zd b_L_law 66 67 (.iadd) 1 := ⟨by decide +kernel, rfl⟩
theorem d_L_law_67 : zd b_L_law 67 70 (.invokestatic 98) 3 := ⟨by decide +kernel, rfl⟩
theorem d_L_law_70 : zd b_L_law 70 72 (.istore 7) 2 := ⟨by decide +kernel, rfl⟩
theorem d_L_law_72 : zd b_L_law 72 73 (.aload_n 1) 1 := ⟨by decide +kernel, rfl⟩
theorem d_L_law_73 : zd b_L_law 73 76 (.invokestatic 83) 3 := ⟨by decide +kernel, rfl⟩
theorem d_L_law_76 : zd b_L_law 76 78 (.lstore 8) 2 := ⟨by decide +kernel, rfl⟩
theorem d_L_law_78 : zd b_L_law 78 79 (.aload_n 1) 1 := ⟨by decide +kernel, rfl⟩
theorem d_L_law_79 : zd b_L_law 79 80 (.iconst 5) 1 := ⟨by decide +kernel, rfl⟩
theorem d_L_law_80 : zd b_L_law 80 83 (.invokevirtual 13) 3 := ⟨by decide +kernel, rfl⟩
theorem d_L_law_83 : zd b_L_law 83 85 (.istore 10) 2 := ⟨by decide +kernel, rfl⟩
theorem d_L_law_85 : zd b_L_law 85 86 (.aload_n 1) 1 := ⟨by decide +kernel, rfl⟩
theorem d_L_law_86 : zd b_L_law 86 87 (.iconst 3) 1 := ⟨by decide +kernel, rfl⟩
theorem d_L_law_87 : zd b_L_law 87 90 (.invokevirtual 13) 3 := ⟨by decide +kernel, rfl⟩
theorem d_L_law_90 : zd b_L_law 90 92 (.istore 11) 2 := ⟨by decide +kernel, rfl⟩
theorem d_L_law_92 : zd b_L_law 92 93 (.aload_n 1) 1 := ⟨by decide +kernel, rfl⟩
theorem d_L_law_93 : zd b_L_law 93 95 (.iload 5) 2 := ⟨by decide +kernel, rfl⟩
theorem d_L_law_95 : zd b_L_law 95 97 (.iload 6) 2 := ⟨by decide +kernel, rfl⟩
theorem d_L_law_97 : zd b_L_law 97 99 (.iload 7) 2 := ⟨by decide +kernel, rfl⟩
theorem d_L_law_99 : zd b_L_law 99 102 (.invokestatic 87) 3 := ⟨by decide +kernel, rfl⟩
theorem d_L_law_102 : zd b_L_law 102 104 (.istore 12) 2 := ⟨by decide +kernel, rfl⟩
theorem d_L_law_104 : zd b_L_law 104 106 (.iload 12) 2 := ⟨by decide +kernel, rfl⟩
theorem d_L_law_106 : zd b_L_law 106 109 (.ifCond .ge 91) 3 := ⟨by decide +kernel, rfl⟩
theorem d_L_law_109 : zd b_L_law 109 111 (.iload 12) 2 := ⟨by decide +kernel, rfl⟩
theorem d_L_law_111 : zd b_L_law 111 113 (.bipush (-5)) 2 := ⟨by decide +kernel, rfl⟩
theorem d_L_law_113 : zd b_L_law 113 116 (.if_icmp .ne 7) 3 := ⟨by decide +kernel, rfl⟩
theorem d_L_law_116 : zd b_L_law 116 117 (.iconst 1) 1 := ⟨by decide +kernel, rfl⟩
theorem d_L_law_117 : zd b_L_law 117 120 (.goto 4) 3 := ⟨by decide +kernel, rfl⟩
theorem d_L_law_120 : zd b_L_law 120 121 (.iconst 0) 1 := ⟨by decide +kernel, rfl⟩
theorem d_L_law_121 : zd b_L_law 121 123 (.istore 13) 2 := ⟨by decide +kernel, rfl⟩
theorem d_L_law_123 : zd b_L_law 123 124 (.aload_n 1) 1 := ⟨by decide +kernel, rfl⟩
theorem d_L_law_124 : zd b_L_law 124 127 (.invokestatic 83) 3 := ⟨by decide +kernel, rfl⟩
theorem d_L_law_127 : zd b_L_law 127 129 (.lload 8) 2 := ⟨by decide +kernel, rfl⟩
theorem d_L_law_129 : zd b_L_law 129 130 (.lcmp) 1 := ⟨by decide +kernel, rfl⟩
theorem d_L_law_130 : zd b_L_law 130 133 (.ifCond .ne 17) 3 := ⟨by decide +kernel, rfl⟩
theorem d_L_law_133 : zd b_L_law 133 134 (.aload_n 1) 1 := ⟨by decide +kernel, rfl⟩
theorem d_L_law_134 : zd b_L_law 134 135 (.iconst 5) 1 := ⟨by decide +kernel, rfl⟩
theorem d_L_law_135 : zd b_L_law 135 138 (.invokevirtual 13) 3 := ⟨by decide +kernel, rfl⟩
theorem d_L_law_138 : zd b_L_law 138 140 (.iload 10) 2 := ⟨by decide +kernel, rfl⟩
theorem d_L_law_140 : zd b_L_law 140 143 (.if_icmp .ne 7) 3 := ⟨by decide +kernel, rfl⟩
theorem d_L_law_143 : zd b_L_law 143 144 (.iconst 1) 1 := ⟨by decide +kernel, rfl⟩
theorem d_L_law_144 : zd b_L_law 144 147 (.goto 4) 3 := ⟨by decide +kernel, rfl⟩
theorem d_L_law_147 : zd b_L_law 147 148 (.iconst 0) 1 := ⟨by decide +kernel, rfl⟩
theorem d_L_law_148 : zd b_L_law 148 150 (.istore 14) 2 := ⟨by decide +kernel, rfl⟩
theorem d_L_law_150 : zd b_L_law 150 152 (.iload 14) 2 := ⟨by decide +kernel, rfl⟩
theorem d_L_law_152 : zd b_L_law 152 155 (.ifCond .eq 40) 3 := ⟨by decide +kernel, rfl⟩
theorem d_L_law_155 : zd b_L_law 155 157 (.iload 13) 2 := ⟨by decide +kernel, rfl⟩
theorem d_L_law_157 : zd b_L_law 157 160 (.ifCond .eq 25) 3 := ⟨by decide +kernel, rfl⟩
theorem d_L_law_160 : zd b_L_law 160 161 (.aload_n 1) 1 := ⟨by decide +kernel, rfl⟩
theorem d_L_law_161 : zd b_L_law 161 162 (.iconst 3) 1 := ⟨by decide +kernel, rfl⟩
theorem d_L_law_162 : zd b_L_law 162 165 (.invokevirtual 13) 3 := ⟨by decide +kernel, rfl⟩
theorem d_L_law_165 : zd b_L_law 165 166 (.iconst 1) 1 := ⟨by decide +kernel, rfl⟩
theorem d_L_law_166 : zd b_L_law 166 169 (.if_icmp .lt 26) 3 := ⟨by decide +kernel, rfl⟩
theorem d_L_law_169 : zd b_L_law 169 170 (.aload_n 1) 1 := ⟨by decide +kernel, rfl⟩
theorem d_L_law_170 : zd b_L_law 170 171 (.iconst 3) 1 := ⟨by decide +kernel, rfl⟩
theorem d_L_law_171 : zd b_L_law 171 174 (.invokevirtual 13) 3 := ⟨by decide +kernel, rfl⟩
theorem d_L_law_174 : zd b_L_law 174 176 (.bipush 7) 2 := ⟨by decide +kernel, rfl⟩
theorem d_L_law_176 : zd b_L_law 176 179 (.if_icmp .le 18) 3 := ⟨by decide +kernel, rfl⟩
theorem d_L_law_179 : zd b_L_law 179 182 (.goto 13) 3 := ⟨by decide +kernel, rfl⟩
theorem d_L_law_182 : zd b_L_law 182 183 (.aload_n 1) 1 := ⟨by decide +kernel, rfl⟩
theorem d_L_law_183 : zd b_L_law 183 184 (.iconst 3) 1 := ⟨by decide +kernel, rfl⟩
theorem d_L_law_184 : zd b_L_law 184 187 (.invokevirtual 13) 3 := ⟨by decide +kernel, rfl⟩
theorem d_L_law_187 : zd b_L_law 187 189 (.iload 11) 2 := ⟨by decide +kernel, rfl⟩
theorem d_L_law_189 : zd b_L_law 189 192 (.if_icmp .eq 5) 3 := ⟨by decide +kernel, rfl⟩
theorem d_L_law_192 : zd b_L_law 192 193 (.iconst 0) 1 := ⟨by decide +kernel, rfl⟩
theorem d_L_law_193 : zd b_L_law 193 194 (.ireturn) 1 := ⟨by decide +kernel, rfl⟩
theorem d_L_law_194 : zd b_L_law 194 197 (.goto 64) 3 := ⟨by decide +kernel, rfl⟩
theorem d_L_law_197 : zd b_L_law 197 198 (.aload_n 1) 1 := ⟨by decide +kernel, rfl⟩
theorem d_L_law_198 : zd b_L_law 198 199 (.iconst 5) 1 := ⟨by decide +kernel, rfl⟩
theorem d_L_law_199 : zd b_L_law 199 202 (.invokevirtual 13) 3 := ⟨by decide +kernel, rfl⟩
theorem d_L_law_202 : zd b_L_law 202 204 (.iload 10) 2 := ⟨by decide +kernel, rfl⟩
theorem d_L_law_204 : zd b_L_law 204 206 (.bipush 6) 2 := ⟨by decide +kernel, rfl⟩
theorem d_L_law_206 : zd b_L_law 206 209 (.if_icmp .ge 10) 3 := ⟨by decide +kernel, rfl⟩
theorem d_L_law_209 : zd b_L_law 209 211 (.iload 10) 2 := ⟨by decide +kernel, rfl⟩
theorem d_L_law_211 : zd b_L_law 211 212 (.iconst 1) 1 := ⟨by decide +kernel, rfl⟩
theorem d_L_law_212 : zd b_L_law 212 213 (.iadd) 1 := ⟨by decide +kernel, rfl⟩
theorem d_L_law_213 : zd b_L_law 213 216 (.goto 5) 3 := ⟨by decide +kernel, rfl⟩
theorem d_L_law_216 : zd b_L_law 216 218 (.bipush 6) 2 := ⟨by decide +kernel, rfl⟩
theorem d_L_law_218 : zd b_L_law 218 221 (.if_icmp .ne 38) 3 := ⟨by decide +kernel, rfl⟩
theorem d_L_law_221 : zd b_L_law 221 222 (.aload_n 1) 1 := ⟨by decide +kernel, rfl⟩
theorem d_L_law_222 : zd b_L_law 222 223 (.iconst 3) 1 := ⟨by decide +kernel, rfl⟩
theorem d_L_law_223 : zd b_L_law 223 226 (.invokevirtual 13) 3 := ⟨by decide +kernel, rfl⟩
theorem d_L_law_226 : zd b_L_law 226 228 (.iload 11) 2 := ⟨by decide +kernel, rfl⟩
theorem d_L_law_228 : zd b_L_law 228 231 (.if_icmp .ne 28) 3 := ⟨by decide +kernel, rfl⟩
theorem d_L_law_231 : zd b_L_law 231 233 (.iload 4) 2 := ⟨by decide +kernel, rfl⟩
theorem d_L_law_233 : zd b_L_law 233 235 (.bipush 16) 2 := ⟨by decide +kernel, rfl⟩
theorem d_L_law_235 : zd b_L_law 235 236 (.iand) 1 := ⟨by decide +kernel, rfl⟩
theorem d_L_law_236 : zd b_L_law 236 239 (.ifCond .ne 22) 3 := ⟨by decide +kernel, rfl⟩
theorem d_L_law_239 : zd b_L_law 239 240 (.aload_n 1) 1 := ⟨by decide +kernel, rfl⟩
theorem d_L_law_240 : zd b_L_law 240 242 (.iload 5) 2 := ⟨by decide +kernel, rfl⟩
theorem d_L_law_242 : zd b_L_law 242 244 (.iload 6) 2 := ⟨by decide +kernel, rfl⟩
theorem d_L_law_244 : zd b_L_law 244 246 (.iload 7) 2 := ⟨by decide +kernel, rfl⟩
theorem d_L_law_246 : zd b_L_law 246 248 (.iload 12) 2 := ⟨by decide +kernel, rfl⟩
theorem d_L_law_248 : zd b_L_law 248 250 (.lload 8) 2 := ⟨by decide +kernel, rfl⟩
theorem d_L_law_250 : zd b_L_law 250 253 (.invokestatic 102) 3 := ⟨by decide +kernel, rfl⟩
theorem d_L_law_253 : zd b_L_law 253 256 (.ifCond .ne 5) 3 := ⟨by decide +kernel, rfl⟩
theorem d_L_law_256 : zd b_L_law 256 257 (.iconst 0) 1 := ⟨by decide +kernel, rfl⟩
theorem d_L_law_257 : zd b_L_law 257 258 (.ireturn) 1 := ⟨by decide +kernel, rfl⟩
theorem d_L_law_258 : zd b_L_law 258 260 (.iload 4) 2 := ⟨by decide +kernel, rfl⟩
theorem d_L_law_260 : zd b_L_law 260 262 (.bipush 96) 2 := ⟨by decide +kernel, rfl⟩
theorem d_L_law_262 : zd b_L_law 262 263 (.iand) 1 := ⟨by decide +kernel, rfl⟩
theorem d_L_law_263 : zd b_L_law 263 266 (.ifCond .ne 14) 3 := ⟨by decide +kernel, rfl⟩
theorem d_L_law_266 : zd b_L_law 266 267 (.aload_n 1) 1 := ⟨by decide +kernel, rfl⟩
theorem d_L_law_267 : zd b_L_law 267 269 (.iload 6) 2 := ⟨by decide +kernel, rfl⟩
theorem d_L_law_269 : zd b_L_law 269 271 (.iload 7) 2 := ⟨by decide +kernel, rfl⟩
theorem d_L_law_271 : zd b_L_law 271 274 (.invokestatic 106) 3 := ⟨by decide +kernel, rfl⟩
theorem d_L_law_274 : zd b_L_law 274 277 (.ifCond .eq 38) 3 := ⟨by decide +kernel, rfl⟩
theorem d_L_law_277 : zd b_L_law 277 279 (.iload 4) 2 := ⟨by decide +kernel, rfl⟩
theorem d_L_law_279 : zd b_L_law 279 281 (.bipush 96) 2 := ⟨by decide +kernel, rfl⟩
theorem d_L_law_281 : zd b_L_law 281 282 (.iand) 1 := ⟨by decide +kernel, rfl⟩
theorem d_L_law_282 : zd b_L_law 282 284 (.bipush 32) 2 := ⟨by decide +kernel, rfl⟩
theorem d_L_law_284 : zd b_L_law 284 287 (.if_icmp .ne 30) 3 := ⟨by decide +kernel, rfl⟩
theorem d_L_law_287 : zd b_L_law 287 288 (.aload_n 1) 1 := ⟨by decide +kernel, rfl⟩
theorem d_L_law_288 : zd b_L_law 288 290 (.iload 6) 2 := ⟨by decide +kernel, rfl⟩
theorem d_L_law_290 : zd b_L_law 290 291 (.iconst 4) 1 := ⟨by decide +kernel, rfl⟩
theorem d_L_law_291 : zd b_L_law 291 292 (.ishr) 1 := ⟨by decide +kernel, rfl⟩
theorem d_L_law_292 : zd b_L_law 292 293 (.iconst 4) 1 := ⟨by decide +kernel, rfl⟩
theorem d_L_law_293 : zd b_L_law 293 296 (.invokestatic 58) 3 := ⟨by decide +kernel, rfl⟩
theorem d_L_law_296 : zd b_L_law 296 298 (.iload 7) 2 := ⟨by decide +kernel, rfl⟩
theorem d_L_law_298 : zd b_L_law 298 299 (.iconst 4) 1 := ⟨by decide +kernel, rfl⟩
theorem d_L_law_299 : zd b_L_law 299 300 (.ishr) 1 := ⟨by decide +kernel, rfl⟩
theorem d_L_law_300 : zd b_L_law 300 302 (.bipush 6) 2 := ⟨by decide +kernel, rfl⟩
theorem d_L_law_302 : zd b_L_law 302 305 (.invokestatic 58) 3 := ⟨by decide +kernel, rfl⟩
theorem d_L_law_305 : zd b_L_law 305 306 (.iconst 0) 1 := ⟨by decide +kernel, rfl⟩
theorem d_L_law_306 : zd b_L_law 306 309 (.invokestatic 110) 3 := ⟨by decide +kernel, rfl⟩
theorem d_L_law_309 : zd b_L_law 309 312 (.ifCond .ne 5) 3 := ⟨by decide +kernel, rfl⟩
theorem d_L_law_312 : zd b_L_law 312 313 (.iconst 0) 1 := ⟨by decide +kernel, rfl⟩
theorem d_L_law_313 : zd b_L_law 313 314 (.ireturn) 1 := ⟨by decide +kernel, rfl⟩
theorem d_L_law_314 : zd b_L_law 314 316 (.iload 4) 2 := ⟨by decide +kernel, rfl⟩
theorem d_L_law_316 : zd b_L_law 316 318 (.bipush 96) 2 := ⟨by decide +kernel, rfl⟩
theorem d_L_law_318 : zd b_L_law 318 319 (.iand) 1 := ⟨by decide +kernel, rfl⟩
theorem d_L_law_319 : zd b_L_law 319 321 (.bipush 64) 2 := ⟨by decide +kernel, rfl⟩
theorem d_L_law_321 : zd b_L_law 321 324 (.if_icmp .ne 31) 3 := ⟨by decide +kernel, rfl⟩
theorem d_L_law_324 : zd b_L_law 324 325 (.aload_n 1) 1 := ⟨by decide +kernel, rfl⟩
theorem d_L_law_325 : zd b_L_law 325 327 (.iload 6) 2 := ⟨by decide +kernel, rfl⟩
theorem d_L_law_327 : zd b_L_law 327 328 (.iconst 4) 1 := ⟨by decide +kernel, rfl⟩
theorem d_L_law_328 : zd b_L_law 328 329 (.ishr) 1 := ⟨by decide +kernel, rfl⟩
theorem d_L_law_329 : zd b_L_law 329 330 (.iconst 4) 1 := ⟨by decide +kernel, rfl⟩
theorem d_L_law_330 : zd b_L_law 330 333 (.invokestatic 58) 3 := ⟨by decide +kernel, rfl⟩
theorem d_L_law_333 : zd b_L_law 333 334 (.iconst 0) 1 := ⟨by decide +kernel, rfl⟩
theorem d_L_law_334 : zd b_L_law 334 335 (.iconst 1) 1 := ⟨by decide +kernel, rfl⟩
theorem d_L_law_335 : zd b_L_law 335 337 (.iload 7) 2 := ⟨by decide +kernel, rfl⟩
theorem d_L_law_337 : zd b_L_law 337 338 (.iconst 4) 1 := ⟨by decide +kernel, rfl⟩
theorem d_L_law_338 : zd b_L_law 338 339 (.ishr) 1 := ⟨by decide +kernel, rfl⟩
theorem d_L_law_339 : zd b_L_law 339 342 (.sipush 200) 3 := ⟨by decide +kernel, rfl⟩
theorem d_L_law_342 : zd b_L_law 342 345 (.invokestatic 58) 3 := ⟨by decide +kernel, rfl⟩
theorem d_L_law_345 : zd b_L_law 345 346 (.iadd) 1 := ⟨by decide +kernel, rfl⟩
theorem d_L_law_346 : zd b_L_law 346 349 (.invokestatic 110) 3 := ⟨by decide +kernel, rfl⟩
theorem d_L_law_349 : zd b_L_law 349 352 (.ifCond .eq 10) 3 := ⟨by decide +kernel, rfl⟩
theorem d_L_law_352 : zd b_L_law 352 353 (.aload_n 1) 1 := ⟨by decide +kernel, rfl⟩
theorem d_L_law_353 : zd b_L_law 353 356 (.invokestatic 114) 3 := ⟨by decide +kernel, rfl⟩
theorem d_L_law_356 : zd b_L_law 356 359 (.ifCond .ne 5) 3 := ⟨by decide +kernel, rfl⟩
theorem d_L_law_359 : zd b_L_law 359 360 (.iconst 0) 1 := ⟨by decide +kernel, rfl⟩
theorem d_L_law_360 : zd b_L_law 360 361 (.ireturn) 1 := ⟨by decide +kernel, rfl⟩
theorem d_L_law_361 : zd b_L_law 361 364 (.iinc 3 1) 3 := ⟨by decide +kernel, rfl⟩
theorem d_L_law_364 : zd b_L_law 364 367 (.goto (-335)) 3 := ⟨by decide +kernel, rfl⟩
theorem d_L_law_367 : zd b_L_law 367 368 (.iconst 1) 1 := ⟨by decide +kernel, rfl⟩
theorem d_L_law_368 : zd b_L_law 368 369 (.ireturn) 1 := ⟨by decide +kernel, rfl⟩
end
section
/-! the law's loop: a walk over its weakest precondition -/
def R_law : String := "GateRoadsLaw"
def lw_Q (_ : Array Value) (s : State) (o : Outcome) (t : State) : Prop := o = .returned (some (.int 1)) ∧ Framed s o t [] 600000 7302250
def lw_Z (below : List Frame) (a : Array Value) (s : State) : State → Prop := fun t => ∃ o, t.status = .running ∧ Ended t below o ∧ lw_Q a s o t
/-- the law's own end, with 1 on the stack, nothing written that was there before, its room as the claim has it -/
theorem lw_ret {p : Program} {l : Launch} {e : Env} {s : State} {m : MethodId} {below : List Frame} {meth : Method} {c : Code} {b : Nat} (hx : p.tables.exec = Jvm.exec) (hb : c.code = code) (hr : meth.sig.returnType = ret) (hlocks : meth.locks = false) {pc : Nat} {H : Heap} {ls : Array Slot} (hdg : decode code pc = .ok (.ireturn, 1)) : W p l e room_1 s m #[Value.ref b] below meth c H [] 600000 7302250 (lw_Z below #[Value.ref b] s) (F0 m pc ls [.int 1]) := by
  intro T hT X
  obtain ⟨fs, hret, hrun, hended, hW, hframe⟩ := X.leave (v := some (.int 1)) (hlocks := hlocks) (fun h => by rw [hr] at h; cases h)
  have hmeth' : T.vm.method? m = some meth := X.method'
  refine ⟨T.setFrames fs, ?_, .returned (some (.int 1)), hrun, hended, rfl, ⟨_, rfl⟩, hW, hframe⟩
  jvm_step X.here [X.here.top, hx, hb, hdg, hmeth', hr, ret, narrow_b1]
  (try refine ⟨rfl, ?_⟩); (try refine ⟨rfl, ?_⟩)
  first | (intro acts; rw [hret _ acts rfl rfl rfl]) | rw [hret _ _ rfl rfl rfl]
  exact Steps.refl _
def zSx (xs : Nat → Int32) (i : Int) : Int := (xs i.toNat).toInt
theorem zSx_rg (xs : Nat → Int32) (i : Int) : zR (zSx xs i) := zI_rg _
def zSc (X : zX) (G : zG) (b N : Nat) (scr : Nat → Int32) : Prop := va_X b N scr (xs X) (gH G) ∧ b < (gH G).size ∧ ¬ gA G b ∧ N ≤ 260
/-- the law's own frame: its room is the claim's, what it may change is what is new -/
def zLw (X : zX) (G : zG) (b : Nat) : Prop := xR X = room_1 ∧ xa X = #[Value.ref b] ∧ gc G ≤ 600000 ∧ gs G ≤ 7302250 ∧ ∀ q, gA G q → (xs X).heap.size ≤ q
def zLaw (X : zX) (G : zG) (b N : Nat) (scr : Nat → Int32) : Prop := zSc X G b N scr ∧ zLw X G b ∧ zR (N : Int)
section JL
variable {X : zX} {G : zG} {Q : State → Prop} {nL pc pc' : Nat} {L L' : List (Nat × Value)} {st stk : List Value} {σ : zM} {cc : ByteArray} {own : String} {rt : Option FieldType} {rF rL : Nat} {b N : Nat} {scr : Nat → Int32}
theorem j_sld (C : zC X G cc own nL rt rF rL) (hB : zSc X G b N scr) {i : Int} (d : zd cc pc pc' .iaload 1) (h : 0 ≤ i ∧ i < (N : Int)) (k : zJ X G Q nL pc' L (.int (zI (zSx scr i)) :: st) σ) : zJ X G Q nL pc L (.int (zI i) :: .ref b :: st) σ := by
  obtain ⟨d, rfl⟩ := d
  obtain ⟨hX, hbl, hbA, hN⟩ := hB
  obtain ⟨h1, h2, h3⟩ := zI_ix h (by omega)
  intro H locs ls hL hP hD hS
  rw [C.2.2.2.2.2.2.2.2.2.2.1] at hX hbl hS
  have hX' : va_X b N scr (xs X) (xs X).heap := hX
  refine va_sld C.1 C.2.1 hX' hbl hbA hS h1 d ?_
  rw [h2]
  have := k H locs ls hL hP hD (by rw [C.2.2.2.2.2.2.2.2.2.2.1]; exact hS)
  rwa [show zI (zSx scr i) = scr i.toNat from zI_of _] at this
theorem j_slen (C : zC X G cc own nL rt rF rL) (hB : zSc X G b N scr) (d : zd cc pc pc' .arraylength 1) (k : zJ X G Q nL pc' L (.int (zI (N : Int)) :: st) σ) : zJ X G Q nL pc L (.ref b :: st) σ := by
  obtain ⟨d, rfl⟩ := d
  obtain ⟨hX, hbl, hbA, hN⟩ := hB
  intro H locs ls hL hP hD hS
  refine va_slen C.1 C.2.1 hX hbl hbA hS d ?_
  have := k H locs ls hL hP hD hS
  rwa [show zI (N : Int) = Int32.ofNat N from Int32.ofInt_eq_ofNat] at this
theorem j_lawret (C : zC X G code own nL ret rF rL) (hZ : zLw X G b) {z : Int} (d : zd code pc pc' .ireturn 1) (h : z = 1) : zJ X G (lw_Z (xb X) #[Value.ref b] (xs X)) nL pc L [.int (zI z)] σ := by
  obtain ⟨d, rfl⟩ := d
  subst h
  obtain ⟨e1, e2, h1, h2, hA⟩ := hZ
  obtain ⟨hx, hb, -, -, -, hlk, hr, -, -, -, hH, -⟩ := C
  intro H locs ls hL hP hD hS
  rw [e1, e2]
  refine va_forget (fun q hq => hA _ (hS.2.2 q hq)) ?_
  refine W.widen (k := 600000) (n := 7302250) h1 h2 ?_
  exact lw_ret hx hb hr hlk d
end JL
/-! longs: sums, products, answers -/
section JLL
variable {X : zX} {G : zG} {Q : State → Prop} {nL pc pc' : Nat} {L L' : List (Nat × Value)} {st stk : List Value} {σ : zM} {cc : ByteArray} {own : String} {ret : Option FieldType} {rF rL : Nat}
variable {y : MethodName} {bytes : ByteArray} {maxL idx na f lo n ci : Nat} {rt : Option FieldType} {As : List Value}
theorem j_ladd (C : zC X G cc own nL ret rF rL) {x y : Int64} (d : zd cc pc pc' .ladd 1) (k : zJ X G Q nL pc' L (.long (x + y) :: st) σ) : zJ X G Q nL pc L (.long y :: .long x :: st) σ := by
  obtain ⟨d, rfl⟩ := d
  exact fun H locs ls hL hP hD hS => lv_ladd C.1 C.2.1 d (k H locs ls hL hP hD hS)
theorem j_lmul (C : zC X G cc own nL ret rF rL) {x y : Int64} (d : zd cc pc pc' .lmul 1) (k : zJ X G Q nL pc' L (.long (x * y) :: st) σ) : zJ X G Q nL pc L (.long y :: .long x :: st) σ := by
  obtain ⟨d, rfl⟩ := d
  exact fun H locs ls hL hP hD hS => lv_lmul C.1 C.2.1 d (k H locs ls hL hP hD hS)
def zQl (X : zX) (G : zG) (Post : Int64 → zM → Prop) : State → Prop := MQ (xb X) (va_Ql (fun (r : Int64) (u : zM) => zRM u ∧ Post r u) (fun u t => va_P (gD G) zCl (zWs (gad G) (gca G) u) t.heap) (gA G)) (xa X) (xs X) (gc G) (gs G) (gA G)
theorem j_lreturn (C : zC X G cc own nL (some .long) rF rL) {z : Int64} {Post : Int64 → zM → Prop} (d : zd cc pc pc' .lreturn 1) (hσ : zRM σ) (h : Post z σ) : zJ X G (zQl X G Post) nL pc L [.long z] σ := by
  obtain ⟨d, rfl⟩ := d
  obtain ⟨hx, hb, -, -, -, hlk, hr, -, -, -, hH, -⟩ := C
  intro H locs ls hL hP hD hS
  refine W.lret hx hb hr (fun t ht hW => ⟨⟨z, σ, rfl, ⟨hσ, h⟩, by show va_P _ _ _ t.heap; rw [ht]; exact hP⟩, ?_⟩) hS.2.2 d hlk
  rw [hH] at hS
  exact hS.F ht
/-- the contract of a method that answers a long -/
def zCl_ (l : Launch) (D : va_G) (ad : Nat → Nat) (ca : Nat → ClassId) (y : MethodName) (bytes : ByteArray) (maxL : Nat) (ret : Option FieldType) (rm : Room) (avs : List Value) (σ : zM) (Post : Int64 → zM → Prop) : Prop :=
  Met l y (.code y bytes maxL ret :: zTb) rm (va_Pc avs (zIn D ad ca σ)) (va_Ql (fun (r : Int64) (u : zM) => zRM u ∧ Post r u) (fun u t => va_P D zCl (zWs ad ca u) t.heap) (zAw ad)) 0 0 (zAw ad)
theorem zCl_of {l : Launch} {D : va_G} {ad : Nat → Nat} {ca : Nat → ClassId} {y : MethodName} {bytes : ByteArray} {maxL f n : Nat} {ret : Option FieldType} {avs : List Value} {σ : zM} {Post : Int64 → zM → Prop} (hy : plainFor y = true) (hl : (lg_sl avs).length ≤ maxL)
    (body : ∀ (X : zX) (G : zG), zC X G bytes y.cls maxL ret f n → xl X = l → gD G = D → gad G = ad → gca G = ca → zJ X G (zQl X G Post) maxL 0 (lv_args 0 avs) [] σ) : zCl_ l D ad ca y bytes maxL ret (zrm f n) avs σ Post := by
  refine va_MetF (cc := bytes) (maxL := maxL) (ret := ret) hy rfl ?_
  intro p e s m args below meth c s₁ B hml hv
  obtain ⟨rfl, hP, hK, hD⟩ := hv
  have hts := atoms_spec (ws := Cond.code y bytes maxL ret :: zTb) B.pre
  have hown : s.vm.findClass y.cls = some m.cls := findClass_of_methodNamed B.named
  have hl' := lv_entry avs (n := maxL) hl
  rw [lg_entry_eq]
  have C : zC (p, l, e, zrm f n, s, m, avs.toArray, below, meth, c) (D, ad, ca, zAw ad, s.heap, 0, 0) bytes y.cls maxL ret f n :=
    ⟨B.exec, B.bytes, hml, hown, fun w hw => hts w (List.mem_cons_of_mem _ hw), B.notSynchronized, B.returns, hK, Nat.zero_le _, Nat.zero_le _, rfl, Nat.le_refl _, Nat.le_refl _⟩
  exact body _ _ C rfl rfl rfl rfl s.heap [] _ hl' hP hD va_S.rf
theorem j_callSl {Post : Int64 → zM → Prop} (C : zC X G cc own nL ret rF rL) (d : zd cc pc pc' (.invokestatic idx) 3) (hl : Cond.methodLink own idx y ∈ zTb) (hy : zMS y bytes maxL rt na) (hM : zCl_ (xl X) (gD G) (gad G) (gca G) y bytes maxL rt (zrm f lo) As σ Post) (hna : As.length = na) (hst : stk = As.reverse ++ st) (hcat : Nat.ble (st.map fun v => v.category).sum 8 = true) (hf : Nat.ble (f + 1) rF = true) (ho : Nat.ble (8 + (maxL + 11) + lo) rL = true) (k : ∀ z σ', zRM σ' → Post z σ' → zJ X G Q nL pc' L (.long z :: st) σ') : zJ X G Q nL pc L stk σ := by
  obtain ⟨d, rfl⟩ := d
  obtain ⟨hst', hini, hcode, hd⟩ := hy
  have hts := C.2.2.2.2.1
  intro H locs ls hL hP hD hS
  refine va_calll (va_runS (As := As) (rest := st) ⟨C.1, C.2.1, C.2.2.1, C.2.2.2.1, hts⟩ hM ⟨zCB C hl hini hcode hd hf ho, hts _ hst'⟩ ⟨zIn_blind, zPre C hP hD⟩ rfl hna hL.1 hst (lv_room (Nat.le_of_ble_eq_true hcat)) d ⟨C.2.2.2.2.2.2.2.2.1, C.2.2.2.2.2.2.2.2.2.1⟩) hS (fun q _ h => zAw_in hD q h) (zAw_in hD) (fun r u t H1 locs1 ht hvm hpost hB hz hk hS1 => ?_)
  obtain ⟨hu, hp⟩ := hpost
  rw [ht] at hB
  exact k r u hu hp H1 locs1 ls hL hB (zD_to hD) hS1
/-! the script's cell: a method that reads the law's own array -/
def zInX (D : va_G) (ad : Nat → Nat) (ca : Nat → ClassId) (σ : zM) (b N : Nat) (scr : Nat → Int32) (U : State) : Prop := zIn D ad ca σ U ∧ va_X b N scr U U.heap ∧ b < U.heap.size ∧ ¬ zAw ad b
def zCc (l : Launch) (D : va_G) (ad : Nat → Nat) (ca : Nat → ClassId) (y : MethodName) (bytes : ByteArray) (maxL : Nat) (ret : Option FieldType) (rm : Room) (avs : List Value) (σ : zM) (b N : Nat) (scr : Nat → Int32) (Post : Int → zM → Prop) : Prop :=
  Met l y (.code y bytes maxL ret :: zTb) rm (va_Pc avs (zInX D ad ca σ b N scr)) (va_Qi (fun (r : Int32) (u : zM) => ∃ z, r = zI z ∧ zR z ∧ zRM u ∧ Post z u) (fun u t => va_P D zCl (zWs ad ca u) t.heap) (zAw ad)) 0 0 (zAw ad)
theorem zInX_blind {D : va_G} {ad : Nat → Nat} {ca : Nat → ClassId} {avs : List Value} {b N : Nat} {scr : Nat → Int32} : FrameBlind (va_Pc avs (zInX D ad ca σ b N scr)) := fun U g mk a q => ⟨q.1, ⟨q.2.1.1, zK_calling q.2.1.2.1, q.2.1.2.2⟩, va_X.moved (Vm.Alike.refl _) q.2.2.1, q.2.2.2⟩
theorem zPreX (C : zC X G cc own nL ret rF rL) {b N : Nat} {scr : Nat → Int32} (hB : zSc X G b N scr) {H : Heap} {locs : List Loc} {avs : List Value} (hP : va_P (gD G) zCl (zWs (gad G) (gca G) σ) H) (hD : va_D (gA G) (zWs (gad G) (gca G) σ)) (hS : va_S (gA G) (gH G) H locs) : ∀ U : State, U.heap = H → (xs X).WarmedH U.vm → va_Pc avs (zInX (gD G) (gad G) (gca G) σ b N scr) avs.toArray U := by
  intro U hU hW
  obtain ⟨hX, hbl, hbA, hN⟩ := hB
  refine ⟨rfl, ⟨by rw [hU]; exact hP, zK_moved hW C.2.2.2.2.2.2.2.1, zD_aw hD⟩, ?_, ?_, fun h => hbA (zAw_in hD _ h)⟩
  · refine va_X.moved hW.alike (va_X.kept hX ?_)
    rw [hU]; exact hS.2.1 b hbl hbA
  · rw [hU]; exact Nat.lt_of_lt_of_le hbl hS.1
theorem c_L_cell (l : Launch) (D : va_G) (ad : Nat → Nat) (ca : Nat → ClassId) {σ : zM} {b N : Nat} {scr : Nat → Int32} {i : Int} (hN : N ≤ 260) (hσ : zRM σ) (h : 0 ≤ i ∧ i < (N : Int)) : zCc l D ad ca y_L_cell b_L_cell 2 (some .int) (zrm 0 0) [.ref b, .int (zI i)] σ b N scr (fun z u => z = zSx scr i ∧ u = σ) := by
  refine va_MetF (cc := b_L_cell) (maxL := 2) (ret := some .int) (by decide +kernel) rfl ?_
  intro p e s m args below meth c s₁ B hml hv
  obtain ⟨rfl, ⟨hP, hK, hD⟩, hX, hbl, hbA⟩ := hv
  have hts := atoms_spec (ws := Cond.code y_L_cell b_L_cell 2 (some .int) :: zTb) B.pre
  have hown : s.vm.findClass y_L_cell.cls = some m.cls := findClass_of_methodNamed B.named
  have hl' := lv_entry [.ref b, .int (zI i)] (n := 2) (Nat.le_of_ble_eq_true rfl)
  rw [lg_entry_eq]
  let X : zX := (p, l, e, zrm 0 0, s, m, ([.ref b, .int (zI i)] : List Value).toArray, below, meth, c)
  let G : zG := (D, ad, ca, zAw ad, s.heap, 0, 0)
  have C : zC X G b_L_cell "GateRoadsLaw" 2 (some .int) 0 0 :=
    ⟨B.exec, B.bytes, hml, hown, fun w hw => hts w (List.mem_cons_of_mem _ hw), B.notSynchronized, B.returns, hK, Nat.zero_le _, Nat.zero_le _, rfl, Nat.le_refl _, Nat.le_refl _⟩
  have hB : zSc X G b N scr := ⟨hX, hbl, hbA, hN⟩
  have hr1 : zR i := ⟨by omega, by omega⟩
  have hr2 : zR (N : Int) := ⟨by omega, by omega⟩
  have main : zJ X G (zQi X G (fun z u => z = zSx scr i ∧ u = σ)) 2 0 [(0, .ref b), (1, .int (zI i))] [] σ := by
    refine j_iload_n C d_L_cell_0 1 rfl rfl ?_
    refine j_aload_n C d_L_cell_1 0 rfl rfl ?_
    refine j_slen C hB d_L_cell_2 ?_
    refine j_icmp_ge (tgt := 12) C d_L_cell_3 rfl hr1 hr2 (fun c => absurd c (by omega)) (fun c => ?_)
    refine j_aload_n C d_L_cell_6 0 rfl rfl ?_
    refine j_iload_n C d_L_cell_7 1 rfl rfl ?_
    refine j_sld C hB d_L_cell_8 h ?_
    refine j_goto (tgt := 18) C d_L_cell_9 rfl ?_
    exact j_ireturn C d_L_cell_18 (zSx_rg _ _) hσ ⟨rfl, rfl⟩
  exact main s.heap [] _ hl' hP hD va_S.rf
theorem j_cell (C : zC X G cc own nL ret rF rL) {b N : Nat} {scr : Nat → Int32} (hB : zSc X G b N scr) (hσ : zRM σ) (d : zd cc pc pc' (.invokestatic idx) 3) (hl : Cond.methodLink own idx y_L_cell ∈ zTb) {i : Int} (h : 0 ≤ i ∧ i < (N : Int)) (hcat : Nat.ble (st.map fun v => v.category).sum 8 = true) (hf : Nat.ble (0 + 1) rF = true) (ho : Nat.ble (8 + (2 + 11) + 0) rL = true) (k : zJ X G Q nL pc' L (.int (zI (zSx scr i)) :: st) σ) : zJ X G Q nL pc L (.int (zI i) :: .ref b :: st) σ := by
  obtain ⟨d, rfl⟩ := d
  obtain ⟨hst', hini, hcode, hd⟩ := ms_L_cell
  have hts := C.2.2.2.2.1
  have hM := c_L_cell (xl X) (gD G) (gad G) (gca G) (b := b) (scr := scr) hB.2.2.2 hσ h
  intro H locs ls hL hP hD hS
  refine va_calli (va_runS (As := [.ref b, .int (zI i)]) (rest := st) ⟨C.1, C.2.1, C.2.2.1, C.2.2.2.1, hts⟩ hM ⟨zCB C hl hini hcode hd hf ho, hts _ hst'⟩ ⟨zInX_blind, zPreX C hB hP hD hS⟩ rfl rfl hL.1 rfl (lv_room (Nat.le_of_ble_eq_true hcat)) d ⟨C.2.2.2.2.2.2.2.2.1, C.2.2.2.2.2.2.2.2.2.1⟩) hS (fun q _ h => zAw_in hD q h) (zAw_in hD) (fun r u t H1 locs1 ht hvm hpost hB hz hk hS1 => ?_)
  obtain ⟨z, rfl, hz, hu, rfl, rfl⟩ := hpost
  rw [ht] at hB
  exact k H1 locs1 ls hL hB (zD_to hD) hS1
end JLL
end
section
def wp_L_up (σ : zM) (v0 : Int) (v1 : Int) (Q : Int → Prop) : Prop := (0 ≤ (zAnd v0 2147483647)) ∧ (0 < v1) ∧ Q ((zAnd v0 2147483647) % v1)
def wp_L_view_L6 (σ : zM) (k30 : Int64 → Prop) (Q : Int64 → Prop) : Nat → Int64 → Int → Prop
  | 0, _, _ => False
  | n + 1, v1, v3 => ((3 ≤ v3 → k30 v1) ∧ (¬ 3 ≤ v3 → wp_X_count σ v3 (fun z1 => zR (v3 + 1) ∧ wp_L_view_L6 σ k30 Q n (((31 : Int64) * v1) + (zI2l z1)) (v3 + 1))))
def wp_L_view_L41 (σ : zM) (v3 : Int) (k69 : Int64 → Prop) (Q : Int64 → Prop) : Nat → Int64 → Int → Prop
  | 0, _, _ => False
  | n + 1, v1, v4 => ((6 ≤ v4 → k69 v1) ∧ (¬ 6 ≤ v4 → wp_X_ofPlace σ v3 v4 (fun z5 => zR (v4 + 1) ∧ wp_L_view_L41 σ v3 k69 Q n (((31 : Int64) * v1) + (zI2l z5)) (v4 + 1))))
def wp_L_view_L32 (σ : zM) (k75 : Int64 → Prop) (Q : Int64 → Prop) : Nat → Int64 → Int → Prop
  | 0, _, _ => False
  | n + 1, v1, v3 => ((8 ≤ v3 → k75 v1) ∧ (¬ 8 ≤ v3 → ∃ n10, wp_L_view_L41 σ v3 (fun u8 => zR (v3 + 1) ∧ wp_L_view_L32 σ k75 Q n u8 (v3 + 1)) Q n10 v1 0))
def wp_L_view_L89 (σ : zM) (v3 : Int) (k117 : Int64 → Prop) (Q : Int64 → Prop) : Nat → Int64 → Int → Prop
  | 0, _, _ => False
  | n + 1, v1, v4 => ((13 ≤ v4 → k117 v1) ∧ (¬ 13 ≤ v4 → wp_X_ofRoad σ v3 v4 (fun z14 => zR (v4 + 1) ∧ wp_L_view_L89 σ v3 k117 Q n (((31 : Int64) * v1) + (zI2l z14)) (v4 + 1))))
def wp_L_view_L77 (σ : zM) (k123 : Int64 → Prop) (Q : Int64 → Prop) : Nat → Int64 → Int → Prop
  | 0, _, _ => False
  | n + 1, v1, v3 => wp_X_count σ 0 (fun z12 => ((z12 ≤ v3 → k123 v1) ∧ (¬ z12 ≤ v3 → ∃ n19, wp_L_view_L89 σ v3 (fun u17 => zR (v3 + 1) ∧ wp_L_view_L77 σ k123 Q n u17 (v3 + 1)) Q n19 v1 0)))
def wp_L_view_L137 (σ : zM) (v3 : Int) (k164 : Int64 → Prop) (Q : Int64 → Prop) : Nat → Int64 → Int → Prop
  | 0, _, _ => False
  | n + 1, v1, v4 => ((3 ≤ v4 → k164 v1) ∧ (¬ 3 ≤ v4 → wp_X_ofClosure σ v3 v4 (fun z23 => zR (v4 + 1) ∧ wp_L_view_L137 σ v3 k164 Q n (((31 : Int64) * v1) + (zI2l z23)) (v4 + 1))))
def wp_L_view_L125 (σ : zM) (k170 : Int64 → Prop) (Q : Int64 → Prop) : Nat → Int64 → Int → Prop
  | 0, _, _ => False
  | n + 1, v1, v3 => wp_X_count σ 1 (fun z21 => ((z21 ≤ v3 → k170 v1) ∧ (¬ z21 ≤ v3 → ∃ n28, wp_L_view_L137 σ v3 (fun u26 => zR (v3 + 1) ∧ wp_L_view_L125 σ k170 Q n u26 (v3 + 1)) Q n28 v1 0)))
def wp_L_view_L184 (σ : zM) (v3 : Int) (k212 : Int64 → Prop) (Q : Int64 → Prop) : Nat → Int64 → Int → Prop
  | 0, _, _ => False
  | n + 1, v1, v4 => ((8 ≤ v4 → k212 v1) ∧ (¬ 8 ≤ v4 → wp_X_ofTraveller σ v3 v4 (fun z32 => zR (v4 + 1) ∧ wp_L_view_L184 σ v3 k212 Q n (((31 : Int64) * v1) + (zI2l z32)) (v4 + 1))))
def wp_L_view_L172 (σ : zM) (Q : Int64 → Prop) : Nat → Int64 → Int → Prop
  | 0, _, _ => False
  | n + 1, v1, v3 => wp_X_count σ 2 (fun z30 => ((z30 ≤ v3 → Q v1) ∧ (¬ z30 ≤ v3 → ∃ n37, wp_L_view_L184 σ v3 (fun u35 => zR (v3 + 1) ∧ wp_L_view_L172 σ Q n u35 (v3 + 1)) Q n37 v1 0)))
def wp_L_view (σ : zM) (Q : Int64 → Prop) : Prop := ∃ n42, wp_L_view_L6 σ (fun u4 => ∃ n41, wp_L_view_L32 σ (fun u11 => ∃ n40, wp_L_view_L77 σ (fun u20 => ∃ n39, wp_L_view_L125 σ (fun u29 => ∃ n38, wp_L_view_L172 σ Q n38 u29 0) Q n39 u20 0) Q n40 u11 0) Q n41 u4 0) Q n42 (7 : Int64) 0
def wp_L_any (σ : zM) (v1 : Int) (v2 : Int) (Q : Int → zM → Prop) : Prop := (((zAnd v2 7) = 0 → wp_X_room σ v1 v2 v1 v2 (fun z1 σ2 => Q z1 σ2)) ∧ ((zAnd v2 7) = 1 → wp_X_road σ v1 v2 v1 (fun z3 σ4 => Q z3 σ4)) ∧ ((zAnd v2 7) = 2 → wp_X_open σ v1 v2 v1 v2 (fun z5 σ6 => Q z5 σ6)) ∧ ((zAnd v2 7) = 3 → wp_X_more σ v1 v2 v1 (fun z7 σ8 => Q z7 σ8)) ∧ ((zAnd v2 7) = 4 → wp_X_close σ v1 v2 v1 (fun z9 σ10 => Q z9 σ10)) ∧ ((zAnd v2 7) = 5 → wp_X_lift σ v1 (fun z11 σ12 => Q z11 σ12)) ∧ ((zAnd v2 7) = 6 → wp_X_traveller σ v1 v2 (fun z13 σ14 => Q z13 σ14)) ∧ ((zAnd v2 7) < 0 ∨ 6 < (zAnd v2 7) → wp_X_stay σ v1 v2 (fun z15 σ16 => Q z15 σ16)))
def wp_L_turn_b282 (Q : Int → zM → Prop) (σ : zM) (s1 : Int) (s2 : Int) (s3 : Int) (s4 : Int) : Prop := wp_L_up σ s3 s4 (fun z79 => zR (s2 + z79) ∧ wp_X_stay σ s1 (s2 + z79) (fun z82 σ83 => Q z82 σ83))
def wp_L_turn (σ : zM) (v1 : Int) (v2 : Int) (v3 : Int) (Q : Int → zM → Prop) : Prop := wp_L_up σ (zShr v2 8) 1400 (fun z1 => zR (1440 - z1) ∧ wp_L_up σ v3 (1440 - z1) (fun z4 => zR ((z1 + 1) + z4) ∧ ((v1 = 0 → wp_L_up σ v2 9 (fun z7 => wp_L_up σ (zShr v3 12) 4 (fun z9 => ((¬ z9 = 0 → wp_X_room σ z7 z1 ((z1 + 1) + z4) 1000 (fun z11 σ12 => Q z11 σ12)) ∧ (z9 = 0 → wp_L_up σ v3 30 (fun z13 => wp_X_room σ z7 z1 ((z1 + 1) + z4) z13 (fun z15 σ16 => Q z15 σ16))))))) ∧ (v1 = 1 → wp_L_up σ v2 5 (fun z17 => wp_L_up σ (zShr v2 4) 5 (fun z19 => wp_L_up σ v3 400 (fun z21 => zR (1 + z21) ∧ wp_X_road σ z17 z19 (1 + z21) (fun z24 σ25 => Q z24 σ25))))) ∧ (v1 = 2 → wp_L_up σ v2 5 (fun z26 => wp_L_up σ (zShr v2 4) 5 (fun z28 => wp_L_up σ v3 400 (fun z30 => zR (1 + z30) ∧ wp_X_road σ z26 z28 (1 + z30) (fun z33 σ34 => Q z33 σ34))))) ∧ (v1 = 3 → wp_L_up σ v2 6 (fun z35 => wp_X_open σ z35 z1 ((z1 + 1) + z4) (zAnd v3 1) (fun z37 σ38 => Q z37 σ38))) ∧ (v1 = 4 → wp_L_up σ v2 6 (fun z39 => wp_X_more σ z39 z1 ((z1 + 1) + z4) (fun z41 σ42 => Q z41 σ42))) ∧ (v1 = 5 → wp_L_up σ v2 6 (fun z43 => zR (2 * z1) ∧ zR (2 * ((z1 + 1) + z4)) ∧ wp_X_close σ z43 (2 * z1) (2 * ((z1 + 1) + z4)) (fun z47 σ48 => Q z47 σ48))) ∧ (v1 = 6 → wp_L_up σ v2 4 (fun z49 => wp_X_lift σ z49 (fun z51 σ52 => Q z51 σ52))) ∧ (v1 = 7 → wp_L_up σ v2 5 (fun z53 => wp_L_up σ v3 2000 (fun z55 => wp_X_traveller σ z53 z55 (fun z57 σ58 => Q z57 σ58)))) ∧ (v1 = 8 → wp_L_up σ v2 4 (fun z59 => wp_L_up σ v3 6 (fun z61 => wp_X_go σ z59 z61 (fun z63 σ64 => Q z63 σ64)))) ∧ (v1 = 9 → wp_L_up σ v2 4 (fun z65 => wp_L_up σ v3 6 (fun z67 => wp_X_go σ z65 z67 (fun z69 σ70 => Q z69 σ70)))) ∧ (v1 = 10 → wp_L_up σ v2 4 (fun z71 => wp_L_up σ v3 6 (fun z73 => wp_X_go σ z71 z73 (fun z75 σ76 => Q z75 σ76)))) ∧ (v1 = 11 → wp_L_up σ v2 4 (fun z77 => ((¬ (zAnd v3 64) = 0 → wp_L_turn_b282 Q σ z77 1 v3 1000) ∧ ((zAnd v3 64) = 0 → wp_L_turn_b282 Q σ z77 1 v3 90)))) ∧ (v1 = 12 → wp_L_up σ v2 4 (fun z84 => ((¬ (zAnd v3 64) = 0 → wp_L_turn_b282 Q σ z84 1 v3 1000) ∧ ((zAnd v3 64) = 0 → wp_L_turn_b282 Q σ z84 1 v3 90)))) ∧ (v1 = 13 → wp_L_up σ v2 4 (fun z86 => wp_L_up σ v3 2 (fun z88 => wp_L_up σ v2 4 (fun z90 => wp_X_canStay σ z90 (fun z92 => zR (z88 + z92) ∧ wp_X_stay σ z86 (z88 + z92) (fun z95 σ96 => Q z95 σ96)))))) ∧ (v1 < 0 ∨ 13 < v1 → wp_L_any σ v2 v3 (fun z97 σ98 => Q z97 σ98)))))
def wp_L_areRight_b122 (k6 : zM → Int → Int → Int → Prop) (Q : Int → zM → Prop) (σ : zM) (v1 : Int) (v3 : Int) (s0 : Int) : Prop := wp_X_ofTraveller σ v3 3 (fun z14 => zR (v1 + z14) ∧ zR (v3 + 1) ∧ k6 σ (v1 + z14) s0 (v3 + 1))
def wp_L_areRight_b121 (k6 : zM → Int → Int → Int → Prop) (Q : Int → zM → Prop) (σ : zM) (v1 : Int) (v3 : Int) : Prop := wp_L_areRight_b122 k6 Q σ v1 v3 0
def wp_L_areRight_b85 (k6 : zM → Int → Int → Int → Prop) (Q : Int → zM → Prop) (σ : zM) (v1 : Int) (v3 : Int) (v4 : Int) (v5 : Int) (s0 : Int) : Prop := ((s0 = 0 → wp_L_areRight_b121 k6 Q σ v1 v3) ∧ (¬ s0 = 0 → wp_X_ofPlace σ v5 5 (fun z18 => ((¬ (zAnd (zShr z18 v3) 1) = 1 → wp_L_areRight_b121 k6 Q σ v1 v3) ∧ ((zAnd (zShr z18 v3) 1) = 1 → wp_X_arrives σ v3 v5 (fun z20 σ21 => ((¬ z20 = v4 → wp_L_areRight_b121 k6 Q σ21 v1 v3) ∧ (z20 = v4 → wp_L_areRight_b122 k6 Q σ21 v1 v3 1))))))))
def wp_L_areRight_b84 (k6 : zM → Int → Int → Int → Prop) (Q : Int → zM → Prop) (σ : zM) (v1 : Int) (v3 : Int) (v4 : Int) (v5 : Int) : Prop := wp_L_areRight_b85 k6 Q σ v1 v3 v4 v5 0
def wp_L_areRight_L6 (k138 : zM → Int → Int → Prop) (Q : Int → zM → Prop) : Nat → zM → Int → Int → Int → Prop
  | 0, _, _, _, _ => False
  | n + 1, σ, v1, v2, v3 => wp_X_count σ 2 (fun z1 => ((z1 ≤ v3 → k138 σ v1 v2) ∧ (¬ z1 ≤ v3 → ((v2 = 0 → k138 σ v1 v2) ∧ (¬ v2 = 0 → wp_X_ofTraveller σ v3 1 (fun z3 => wp_X_ofTraveller σ v3 0 (fun z5 => wp_X_ofTraveller σ v3 7 (fun z7 => wp_X_ofTraveller σ v3 4 (fun z9 => wp_X_ofTraveller σ v3 5 (fun z11 => zR ((z7 + z9) + z11) ∧ ((¬ z3 = ((z7 + z9) + z11) → wp_L_areRight_b84 (wp_L_areRight_L6 k138 Q n) Q σ v1 v3 z3 z5) ∧ (z3 = ((z7 + z9) + z11) → wp_X_ofTraveller σ v3 2 (fun z22 => ((z3 < z22 → wp_L_areRight_b84 (wp_L_areRight_L6 k138 Q n) Q σ v1 v3 z3 z5) ∧ (¬ z3 < z22 → ((2880 < z3 → wp_L_areRight_b84 (wp_L_areRight_L6 k138 Q n) Q σ v1 v3 z3 z5) ∧ (¬ 2880 < z3 → wp_L_areRight_b85 (wp_L_areRight_L6 k138 Q n) Q σ v1 v3 z3 z5 1)))))))))))))))))
def wp_L_areRight_L140 (σ : zM) (v2 : Int) (k165 : Int → Prop) (Q : Int → zM → Prop) : Nat → Int → Int → Prop
  | 0, _, _ => False
  | n + 1, v1, v3 => wp_X_count σ 0 (fun z27 => ((z27 ≤ v3 → k165 v1) ∧ (¬ z27 ≤ v3 → wp_X_ofRoad σ v3 12 (fun z29 => zR (v1 - z29) ∧ zR (v3 + 1) ∧ wp_L_areRight_L140 σ v2 k165 Q n (v1 - z29) (v3 + 1)))))
def wp_L_areRight_b138 (Q : Int → zM → Prop) (σ : zM) (v1 : Int) (v2 : Int) : Prop := ∃ n34, wp_L_areRight_L140 σ v2 (fun u33 => ((v2 = 0 → Q 0 σ) ∧ (¬ v2 = 0 → ((¬ u33 = 0 → Q 0 σ) ∧ (u33 = 0 → Q 1 σ))))) Q n34 v1 0
def wp_L_areRight (σ : zM) (Q : Int → zM → Prop) : Prop := ∃ n35, wp_L_areRight_L6 (fun σ24 u25 u26 => wp_L_areRight_b138 Q σ24 u25 u26) Q n35 σ 0 1 0
def wp_L_isDue_b174 (Q : Int → zM → Prop) (σ : zM) (v1 : Int) (v3 : Int) (s0 : Int) : Prop := wp_X_stay σ v1 v3 (fun z5 σ6 => ((¬ z5 = s0 → Q 0 σ6) ∧ (z5 = s0 → Q 1 σ6)))
def wp_L_isDue_b149 (Q : Int → zM → Prop) (σ : zM) (v1 : Int) (v3 : Int) (v4 : Int) (v5 : Int) (s0 : Int) : Prop := ((s0 = 0 → ((v4 = 0 → wp_L_isDue_b174 Q σ v1 v3 (-1)) ∧ (¬ v4 = 0 → wp_L_isDue_b174 Q σ v1 v3 (-5)))) ∧ (¬ s0 = 0 → zR (v5 + v3) ∧ wp_L_isDue_b174 Q σ v1 v3 (v5 + v3)))
def wp_L_isDue_b148 (Q : Int → zM → Prop) (σ : zM) (v1 : Int) (v3 : Int) (v4 : Int) (v5 : Int) : Prop := wp_L_isDue_b149 Q σ v1 v3 v4 v5 0
def wp_L_isDue_b111 (Q : Int → zM → Prop) (σ : zM) (v1 : Int) (v2 : Int) (s0 : Int) : Prop := wp_X_go σ v1 v2 (fun z10 σ11 => ((¬ z10 = s0 → Q 0 σ11) ∧ (z10 = s0 → Q 1 σ11)))
def wp_L_isDue_b110 (Q : Int → zM → Prop) (σ : zM) (v1 : Int) (v2 : Int) : Prop := wp_L_isDue_b111 Q σ v1 v2 (-1)
def wp_L_isDue_b72 (Q : Int → zM → Prop) (σ : zM) (v1 : Int) (v2 : Int) (v4 : Int) (v5 : Int) (s0 : Int) : Prop := ((s0 = 0 → ((v4 = 0 → wp_L_isDue_b110 Q σ v1 v2) ∧ (¬ v4 = 0 → wp_X_count σ 0 (fun z12 => ((z12 ≤ v2 → wp_L_isDue_b110 Q σ v1 v2) ∧ (¬ z12 ≤ v2 → wp_L_isDue_b111 Q σ v1 v2 (-5))))))) ∧ (¬ s0 = 0 → wp_X_ofRoad σ v2 2 (fun z14 => zR (v5 + z14) ∧ wp_L_isDue_b111 Q σ v1 v2 (v5 + z14))))
def wp_L_isDue_b71 (Q : Int → zM → Prop) (σ : zM) (v1 : Int) (v2 : Int) (v4 : Int) (v5 : Int) : Prop := wp_L_isDue_b72 Q σ v1 v2 v4 v5 0
def wp_L_isDue_b14 (Q : Int → zM → Prop) (σ : zM) (v1 : Int) (v2 : Int) (v3 : Int) (s0 : Int) : Prop := wp_X_ofTraveller σ v1 1 (fun z3 => ((¬ v3 = 0 → ((s0 = 0 → wp_L_isDue_b148 Q σ v1 v3 s0 z3) ∧ (¬ s0 = 0 → wp_X_canStay σ v1 (fun z8 => ((z8 < v3 → wp_L_isDue_b148 Q σ v1 v3 s0 z3) ∧ (¬ z8 < v3 → wp_L_isDue_b149 Q σ v1 v3 s0 z3 1)))))) ∧ (v3 = 0 → ((s0 = 0 → wp_L_isDue_b71 Q σ v1 v2 s0 z3) ∧ (¬ s0 = 0 → wp_X_count σ 0 (fun z17 => ((z17 ≤ v2 → wp_L_isDue_b71 Q σ v1 v2 s0 z3) ∧ (¬ z17 ≤ v2 → wp_X_ofRoad σ v2 0 (fun z19 => wp_X_ofTraveller σ v1 0 (fun z21 => ((¬ z19 = z21 → wp_L_isDue_b71 Q σ v1 v2 s0 z3) ∧ (z19 = z21 → wp_X_whyShut σ v2 z3 (fun z23 => ((¬ z23 = 0 → wp_L_isDue_b71 Q σ v1 v2 s0 z3) ∧ (z23 = 0 → wp_L_isDue_b72 Q σ v1 v2 s0 z3 1)))))))))))))))
def wp_L_isDue (σ : zM) (v1 : Int) (v2 : Int) (v3 : Int) (Q : Int → zM → Prop) : Prop := wp_X_count σ 2 (fun z1 => ((z1 ≤ v1 → wp_L_isDue_b14 Q σ v1 v2 v3 0) ∧ (¬ z1 ≤ v1 → wp_L_isDue_b14 Q σ v1 v2 v3 1)))
def wp_L_isUndone (σ : zM) (v1 : Int) (v2 : Int) (v3 : Int) (v4 : Int) (v5 : Int64) (Q : Int → zM → Prop) : Prop := wp_X_count σ 5 (fun z1 => wp_X_undo σ (fun z3 σ4 => zR (z1 - 1) ∧ ((¬ z3 = (z1 - 1) → Q 0 σ4) ∧ (z3 = (z1 - 1) → wp_X_count σ4 5 (fun z6 => zR (z1 - 1) ∧ ((¬ z6 = (z1 - 1) → Q 0 σ4) ∧ (z6 = (z1 - 1) → wp_L_view σ4 (fun z9 => ((¬ (zLcmp z9 v5) = 0 → Q 0 σ4) ∧ ((zLcmp z9 v5) = 0 → wp_L_turn σ4 v1 v2 v3 (fun z11 σ12 => ((¬ z11 = v4 → Q 0 σ12) ∧ (z11 = v4 → wp_X_count σ12 5 (fun z13 => ((¬ z13 = z1 → Q 0 σ12) ∧ (z13 = z1 → Q 1 σ12))))))))))))))))
def wp_L_isSaved (σ : zM) (v1 : Int) (v2 : Int) (Q : Int → zM → Prop) : Prop := wp_L_view σ (fun z1 => wp_X_count σ 5 (fun z3 => wp_X_save σ (zAnd v1 1) (fun z5 σ6 => wp_X_count σ6 0 (fun z7 => ((¬ z5 = z7 → Q 0 σ6) ∧ (z5 = z7 → wp_X_count σ6 5 (fun z9 => ((z9 = z3 → wp_L_up σ6 v2 14 (fun z11 => wp_L_turn σ6 z11 v2 v1 (fun z13 σ14 => wp_X_restore σ14 (zAnd v1 1) (fun z15 σ16 => wp_X_count σ16 0 (fun z17 => ((¬ z15 = z17 → Q 0 σ16) ∧ (z15 = z17 → wp_L_view σ16 (fun z19 => ((¬ (zLcmp z19 z1) = 0 → Q 0 σ16) ∧ ((zLcmp z19 z1) = 0 → Q 1 σ16)))))))))) ∧ (¬ z9 = z3 → Q 0 σ6)))))))))
def wp_L_law_b352 (scr : Nat → Int32) (N : Nat) (v2 : Int) (k29 : zM → Int → Prop) (Q : Int → zM → Prop) (σ : zM) (v3 : Int) : Prop := wp_L_areRight σ (fun z20 σ21 => ((¬ z20 = 0 → zR (v3 + 1) ∧ k29 σ21 (v3 + 1)) ∧ (z20 = 0 → (0 : Int) = 1)))
def wp_L_law_b314 (scr : Nat → Int32) (N : Nat) (v2 : Int) (k29 : zM → Int → Prop) (Q : Int → zM → Prop) (σ : zM) (v3 : Int) (v4 : Int) (v6 : Int) (v7 : Int) : Prop := ((¬ (zAnd v4 96) = 64 → wp_L_law_b352 scr N v2 k29 Q σ v3) ∧ ((zAnd v4 96) = 64 → wp_L_up σ (zShr v6 4) 4 (fun z23 => wp_L_up σ (zShr v7 4) 200 (fun z25 => zR (1 + z25) ∧ wp_L_isDue σ z23 0 (1 + z25) (fun z28 σ29 => ((z28 = 0 → (0 : Int) = 1) ∧ (¬ z28 = 0 → wp_L_law_b352 scr N v2 k29 Q σ29 v3)))))))
def wp_L_law_b277 (scr : Nat → Int32) (N : Nat) (v2 : Int) (k29 : zM → Int → Prop) (Q : Int → zM → Prop) (σ : zM) (v3 : Int) (v4 : Int) (v6 : Int) (v7 : Int) : Prop := ((¬ (zAnd v4 96) = 32 → wp_L_law_b314 scr N v2 k29 Q σ v3 v4 v6 v7) ∧ ((zAnd v4 96) = 32 → wp_L_up σ (zShr v6 4) 4 (fun z30 => wp_L_up σ (zShr v7 4) 6 (fun z32 => wp_L_isDue σ z30 z32 0 (fun z34 σ35 => ((¬ z34 = 0 → wp_L_law_b314 scr N v2 k29 Q σ35 v3 v4 v6 v7) ∧ (z34 = 0 → (0 : Int) = 1)))))))
def wp_L_law_b258 (scr : Nat → Int32) (N : Nat) (v2 : Int) (k29 : zM → Int → Prop) (Q : Int → zM → Prop) (σ : zM) (v3 : Int) (v4 : Int) (v6 : Int) (v7 : Int) : Prop := ((¬ (zAnd v4 96) = 0 → wp_L_law_b277 scr N v2 k29 Q σ v3 v4 v6 v7) ∧ ((zAnd v4 96) = 0 → wp_L_isSaved σ v6 v7 (fun z36 σ37 => ((z36 = 0 → (0 : Int) = 1) ∧ (¬ z36 = 0 → wp_L_law_b277 scr N v2 k29 Q σ37 v3 v4 v6 v7)))))
def wp_L_law_b218 (scr : Nat → Int32) (N : Nat) (v2 : Int) (k29 : zM → Int → Prop) (Q : Int → zM → Prop) (σ : zM) (v3 : Int) (v4 : Int) (v5 : Int) (v6 : Int) (v7 : Int) (v8 : Int64) (v11 : Int) (v12 : Int) (s0 : Int) (s1 : Int) : Prop := ((¬ s0 = s1 → (0 : Int) = 1) ∧ (s0 = s1 → wp_X_count σ 3 (fun z18 => ((¬ z18 = v11 → (0 : Int) = 1) ∧ (z18 = v11 → ((¬ (zAnd v4 16) = 0 → wp_L_law_b258 scr N v2 k29 Q σ v3 v4 v6 v7) ∧ ((zAnd v4 16) = 0 → wp_L_isUndone σ v5 v6 v7 v12 v8 (fun z38 σ39 => ((¬ z38 = 0 → wp_L_law_b258 scr N v2 k29 Q σ39 v3 v4 v6 v7) ∧ (z38 = 0 → (0 : Int) = 1))))))))))
def wp_L_law_b194 (scr : Nat → Int32) (N : Nat) (v2 : Int) (k29 : zM → Int → Prop) (Q : Int → zM → Prop) (σ : zM) (v3 : Int) (v4 : Int) (v6 : Int) (v7 : Int) : Prop := wp_L_law_b258 scr N v2 k29 Q σ v3 v4 v6 v7
def wp_L_law_b148 (scr : Nat → Int32) (N : Nat) (v2 : Int) (k29 : zM → Int → Prop) (Q : Int → zM → Prop) (σ : zM) (v3 : Int) (v4 : Int) (v6 : Int) (v7 : Int) (v11 : Int) (v13 : Int) (s0 : Int) : Prop := ((s0 = 0 → (0 : Int) = 1) ∧ (¬ s0 = 0 → ((v13 = 0 → wp_X_count σ 3 (fun z43 => ((z43 = v11 → wp_L_law_b194 scr N v2 k29 Q σ v3 v4 v6 v7) ∧ (¬ z43 = v11 → (0 : Int) = 1)))) ∧ (¬ v13 = 0 → wp_X_count σ 3 (fun z45 => ((z45 < 1 → (0 : Int) = 1) ∧ (¬ z45 < 1 → wp_X_count σ 3 (fun z47 => ((z47 ≤ 7 → wp_L_law_b194 scr N v2 k29 Q σ v3 v4 v6 v7) ∧ (¬ z47 ≤ 7 → (0 : Int) = 1))))))))))
def wp_L_law_b147 (scr : Nat → Int32) (N : Nat) (v2 : Int) (k29 : zM → Int → Prop) (Q : Int → zM → Prop) (σ : zM) (v3 : Int) (v4 : Int) (v6 : Int) (v7 : Int) (v11 : Int) (v13 : Int) : Prop := wp_L_law_b148 scr N v2 k29 Q σ v3 v4 v6 v7 v11 v13 0
def wp_L_law_b121 (scr : Nat → Int32) (N : Nat) (v2 : Int) (k29 : zM → Int → Prop) (Q : Int → zM → Prop) (σ : zM) (v3 : Int) (v4 : Int) (v6 : Int) (v7 : Int) (v8 : Int64) (v10 : Int) (v11 : Int) (s0 : Int) : Prop := wp_L_view σ (fun z41 => ((¬ (zLcmp z41 v8) = 0 → wp_L_law_b147 scr N v2 k29 Q σ v3 v4 v6 v7 v11 s0) ∧ ((zLcmp z41 v8) = 0 → wp_X_count σ 5 (fun z49 => ((¬ z49 = v10 → wp_L_law_b147 scr N v2 k29 Q σ v3 v4 v6 v7 v11 s0) ∧ (z49 = v10 → wp_L_law_b148 scr N v2 k29 Q σ v3 v4 v6 v7 v11 s0 1))))))
def wp_L_law_L29 (scr : Nat → Int32) (N : Nat) (v2 : Int) (Q : Int → zM → Prop) : Nat → zM → Int → Prop
  | 0, _, _ => False
  | n + 1, σ, v3 => ((v2 ≤ v3 → (1 : Int) = 1) ∧ (¬ v2 ≤ v3 → zR (3 * v3) ∧ (0 ≤ (3 * v3) ∧ (3 * v3) < (N : Int)) ∧ zR ((3 * v3) + 1) ∧ (0 ≤ ((3 * v3) + 1) ∧ ((3 * v3) + 1) < (N : Int)) ∧ zR ((3 * v3) + 2) ∧ (0 ≤ ((3 * v3) + 2) ∧ ((3 * v3) + 2) < (N : Int)) ∧ wp_L_view σ (fun z8 => wp_X_count σ 5 (fun z10 => wp_X_count σ 3 (fun z12 => wp_L_turn σ (zAnd (zSx scr (3 * v3)) 15) (zSx scr ((3 * v3) + 1)) (zSx scr ((3 * v3) + 2)) (fun z14 σ15 => ((0 ≤ z14 → wp_X_count σ15 5 (fun z16 => ((6 ≤ z10 → wp_L_law_b218 scr N v2 (wp_L_law_L29 scr N v2 Q n) Q σ15 v3 (zSx scr (3 * v3)) (zAnd (zSx scr (3 * v3)) 15) (zSx scr ((3 * v3) + 1)) (zSx scr ((3 * v3) + 2)) z8 z12 z14 z16 6) ∧ (¬ 6 ≤ z10 → zR (z10 + 1) ∧ wp_L_law_b218 scr N v2 (wp_L_law_L29 scr N v2 Q n) Q σ15 v3 (zSx scr (3 * v3)) (zAnd (zSx scr (3 * v3)) 15) (zSx scr ((3 * v3) + 1)) (zSx scr ((3 * v3) + 2)) z8 z12 z14 z16 (z10 + 1))))) ∧ (¬ 0 ≤ z14 → ((¬ z14 = (-5) → wp_L_law_b121 scr N v2 (wp_L_law_L29 scr N v2 Q n) Q σ15 v3 (zSx scr (3 * v3)) (zSx scr ((3 * v3) + 1)) (zSx scr ((3 * v3) + 2)) z8 z10 z12 0) ∧ (z14 = (-5) → wp_L_law_b121 scr N v2 (wp_L_law_L29 scr N v2 Q n) Q σ15 v3 (zSx scr (3 * v3)) (zSx scr ((3 * v3) + 1)) (zSx scr ((3 * v3) + 2)) z8 z10 z12 1))))))))))
def wp_L_law_b26 (scr : Nat → Int32) (N : Nat) (Q : Int → zM → Prop) (σ : zM) (s0 : Int) : Prop := ∃ n51, wp_L_law_L29 scr N s0 Q n51 σ 0
def wp_L_law_b8 (scr : Nat → Int32) (N : Nat) (Q : Int → zM → Prop) (σ : zM) : Prop := (0 ≤ (N : Int)) ∧ ((36 ≤ ((N : Int) / 3) → wp_L_law_b26 scr N Q σ 36) ∧ (¬ 36 ≤ ((N : Int) / 3) → (0 ≤ (N : Int)) ∧ wp_L_law_b26 scr N Q σ ((N : Int) / 3)))
end
section
set_option maxRecDepth 100000 in
set_option maxHeartbeats 4000000 in
theorem c_L_up (l : Launch) (D : va_G) (ad : Nat → Nat) (ca : Nat → ClassId) {σ : zM} {v0 : Int} {v1 : Int} {Q : Int → Prop} (hσ : zRM σ) (r0 : zR v0) (r1 : zR v1) (h : wp_L_up σ v0 v1 Q) : zCi l D ad ca y_L_up b_L_up 2 (some .int) (zrm 0 0) [.int (zI v0), .int (zI v1)] σ (fun z u => σ = u ∧ Q z) := by
  refine zCi_of (by decide +kernel) (Nat.le_of_ble_eq_true rfl) ?_
  intro X G C hl hD had hca
  subst hl hD had hca
  have C : zC X G b_L_up "GateRoadsLaw" 2 (some .int) 0 0 := C
  show zJ X G (zQi X G (fun z u => σ = u ∧ Q z)) 2 0 [(0, .int (zI v0)), (1, .int (zI v1))] [] σ
  unfold wp_L_up at h
  refine j_iload_n C d_L_up_0 0 rfl rfl ?_
  refine j_ldc (n := 2147483647) C ck_L_8 rfl d_L_up_1 ?_
  refine j_iand C d_L_up_3 ?_
  refine j_iload_n C d_L_up_4 1 rfl rfl ?_
  obtain ⟨g1, h⟩ := h
  obtain ⟨g2, h⟩ := h
  refine j_irem C d_L_up_5 (zAnd_rg _ _) g1 r1 g2 ?_
  exact j_ireturn C d_L_up_6 (zMod_rg (zAnd_rg _ _) g1 r1 g2) hσ ⟨rfl, h⟩
set_option maxRecDepth 100000 in
set_option maxHeartbeats 4000000 in
theorem w_L_view_L6 {X : zX} {G : zG} (C : zC X G b_L_view "GateRoadsLaw" 5 (some .long) 3 68) {σ : zM} (hσ : zRM σ) {Q : Int64 → Prop} {k30 : Int64 → Prop} (hk30 : ∀ (v1 : Int64), k30 v1 → zJ X G (zQl X G (fun z u => σ = u ∧ Q z)) 5 30 [(0, .ref (gad G 54)), (1, .long v1)] [] σ) : ∀ (n : Nat) (v1 : Int64) (v3 : Int) (r3 : zR v3), wp_L_view_L6 σ k30 Q n v1 v3 → zJ X G (zQl X G (fun z u => σ = u ∧ Q z)) 5 6 [(0, .ref (gad G 54)), (1, .long v1), (3, .int (zI v3))] [] σ := by
  intro n
  induction n with
  | zero => intro v1 v3 r3 h; exact False.elim h
  | succ n ih =>
    intro v1 v3 r3 h
    rw [wp_L_view_L6] at h
    refine j_iload_n C d_L_view_6 2 rfl rfl ?_
    refine j_iconst C d_L_view_7 ?_
    refine j_icmp_ge (tgt := 30) C d_L_view_8 rfl r3 (zR_of (x := 3) rfl) (fun c => ?_) (fun c => ?_)
    · have h := h.1 c
      refine j_sub (L' := [(0, .ref (gad G 54)), (1, .long v1)]) [0, 1] rfl ?_
      exact hk30 v1 h
    · have h := h.2 c
      refine j_ldc2 C cl_L_11 d_L_view_11 ?_
      refine j_lload_n C d_L_view_14 1 rfl rfl ?_
      refine j_lmul C d_L_view_15 ?_
      refine j_aload_n C d_L_view_16 0 rfl rfl ?_
      refine j_iload_n C d_L_view_17 2 rfl rfl ?_
      refine j_callV C d_L_view_18 ml_L_13 mi_X_count (c_X_count (xl X) (gD G) (gad G) (gca G) (v1 := v3) hσ r3 h) sh_54 rfl rfl rfl rfl rfl rfl rfl (fun z1 σ2 rz1 hσ2 h => ?_)
      obtain ⟨ez1, h⟩ := h; subst ez1
      refine j_i2l C d_L_view_21 ?_
      refine j_ladd C d_L_view_22 ?_
      refine j_lstore_n (L' := [(1, .long (((31 : Int64) * v1) + (zI2l z1))), (0, .ref (gad G 54)), (3, .int (zI v3))]) C d_L_view_23 rfl rfl rfl ?_
      obtain ⟨g3, h⟩ := h
      refine j_iinc (L' := [(3, .int (zI (v3 + 1))), (1, .long (((31 : Int64) * v1) + (zI2l z1))), (0, .ref (gad G 54))]) C d_L_view_24 2 rfl rfl rfl ?_
      refine j_goto (tgt := 6) C d_L_view_27 rfl ?_
      refine j_sub (L' := [(0, .ref (gad G 54)), (1, .long (((31 : Int64) * v1) + (zI2l z1))), (3, .int (zI (v3 + 1)))]) [2, 1, 0] rfl ?_
      exact ih (((31 : Int64) * v1) + (zI2l z1)) (v3 + 1) g3 h
set_option maxRecDepth 100000 in
set_option maxHeartbeats 4000000 in
theorem w_L_view_L41 {X : zX} {G : zG} (C : zC X G b_L_view "GateRoadsLaw" 5 (some .long) 3 68) {σ : zM} {v3 : Int} (hσ : zRM σ) (r3 : zR v3) {Q : Int64 → Prop} {k69 : Int64 → Prop} (hk69 : ∀ (v1 : Int64), k69 v1 → zJ X G (zQl X G (fun z u => σ = u ∧ Q z)) 5 69 [(0, .ref (gad G 54)), (1, .long v1), (3, .int (zI v3))] [] σ) : ∀ (n : Nat) (v1 : Int64) (v4 : Int) (r4 : zR v4), wp_L_view_L41 σ v3 k69 Q n v1 v4 → zJ X G (zQl X G (fun z u => σ = u ∧ Q z)) 5 41 [(0, .ref (gad G 54)), (1, .long v1), (3, .int (zI v3)), (4, .int (zI v4))] [] σ := by
  intro n
  induction n with
  | zero => intro v1 v4 r4 h; exact False.elim h
  | succ n ih =>
    intro v1 v4 r4 h
    rw [wp_L_view_L41] at h
    refine j_iload C d_L_view_41 3 rfl ?_
    refine j_bipush C d_L_view_43 rfl ?_
    refine j_icmp_ge (tgt := 69) C d_L_view_45 rfl r4 (zR_of (x := 6) rfl) (fun c => ?_) (fun c => ?_)
    · have h := h.1 c
      refine j_sub (L' := [(0, .ref (gad G 54)), (1, .long v1), (3, .int (zI v3))]) [0, 1, 2] rfl ?_
      exact hk69 v1 h
    · have h := h.2 c
      refine j_ldc2 C cl_L_11 d_L_view_48 ?_
      refine j_lload_n C d_L_view_51 1 rfl rfl ?_
      refine j_lmul C d_L_view_52 ?_
      refine j_aload_n C d_L_view_53 0 rfl rfl ?_
      refine j_iload_n C d_L_view_54 2 rfl rfl ?_
      refine j_iload C d_L_view_55 3 rfl ?_
      refine j_callV C d_L_view_57 ml_L_19 mi_X_ofPlace (c_X_ofPlace (xl X) (gD G) (gad G) (gca G) (v1 := v3) (v2 := v4) hσ r3 r4 h) sh_54 rfl rfl rfl rfl rfl rfl rfl (fun z5 σ6 rz5 hσ6 h => ?_)
      obtain ⟨ez5, h⟩ := h; subst ez5
      refine j_i2l C d_L_view_60 ?_
      refine j_ladd C d_L_view_61 ?_
      refine j_lstore_n (L' := [(1, .long (((31 : Int64) * v1) + (zI2l z5))), (0, .ref (gad G 54)), (3, .int (zI v3)), (4, .int (zI v4))]) C d_L_view_62 rfl rfl rfl ?_
      obtain ⟨g7, h⟩ := h
      refine j_iinc (L' := [(4, .int (zI (v4 + 1))), (1, .long (((31 : Int64) * v1) + (zI2l z5))), (0, .ref (gad G 54)), (3, .int (zI v3))]) C d_L_view_63 3 rfl rfl rfl ?_
      refine j_goto (tgt := 41) C d_L_view_66 rfl ?_
      refine j_sub (L' := [(0, .ref (gad G 54)), (1, .long (((31 : Int64) * v1) + (zI2l z5))), (3, .int (zI v3)), (4, .int (zI (v4 + 1)))]) [2, 1, 3, 0] rfl ?_
      exact ih (((31 : Int64) * v1) + (zI2l z5)) (v4 + 1) g7 h
set_option maxRecDepth 100000 in
set_option maxHeartbeats 4000000 in
theorem w_L_view_L32 {X : zX} {G : zG} (C : zC X G b_L_view "GateRoadsLaw" 5 (some .long) 3 68) {σ : zM} (hσ : zRM σ) {Q : Int64 → Prop} {k75 : Int64 → Prop} (hk75 : ∀ (v1 : Int64), k75 v1 → zJ X G (zQl X G (fun z u => σ = u ∧ Q z)) 5 75 [(0, .ref (gad G 54)), (1, .long v1)] [] σ) : ∀ (n : Nat) (v1 : Int64) (v3 : Int) (r3 : zR v3), wp_L_view_L32 σ k75 Q n v1 v3 → zJ X G (zQl X G (fun z u => σ = u ∧ Q z)) 5 32 [(0, .ref (gad G 54)), (1, .long v1), (3, .int (zI v3))] [] σ := by
  intro n
  induction n with
  | zero => intro v1 v3 r3 h; exact False.elim h
  | succ n ih =>
    intro v1 v3 r3 h
    rw [wp_L_view_L32] at h
    refine j_iload_n C d_L_view_32 2 rfl rfl ?_
    refine j_bipush C d_L_view_33 rfl ?_
    refine j_icmp_ge (tgt := 75) C d_L_view_35 rfl r3 (zR_of (x := 8) rfl) (fun c => ?_) (fun c => ?_)
    · have h := h.1 c
      refine j_sub (L' := [(0, .ref (gad G 54)), (1, .long v1)]) [0, 1] rfl ?_
      exact hk75 v1 h
    · have h := h.2 c
      refine j_iconst C d_L_view_38 ?_
      refine j_istore (L' := [(4, .int (zI 0)), (0, .ref (gad G 54)), (1, .long v1), (3, .int (zI v3))]) C d_L_view_39 rfl rfl ?_
      obtain ⟨n10, h⟩ := h
      refine j_sub (L' := [(0, .ref (gad G 54)), (1, .long v1), (3, .int (zI v3)), (4, .int (zI 0))]) [1, 2, 3, 0] rfl ?_
      refine w_L_view_L41 C hσ r3 ?_ n10 v1 0 (zR_of (x := 0) rfl) h
      · intro u8 h
        obtain ⟨g9, h⟩ := h
        refine j_iinc (L' := [(3, .int (zI (v3 + 1))), (0, .ref (gad G 54)), (1, .long u8)]) C d_L_view_69 2 rfl rfl rfl ?_
        refine j_goto (tgt := 32) C d_L_view_72 rfl ?_
        refine j_sub (L' := [(0, .ref (gad G 54)), (1, .long u8), (3, .int (zI (v3 + 1)))]) [1, 2, 0] rfl ?_
        exact ih u8 (v3 + 1) g9 h
set_option maxRecDepth 100000 in
set_option maxHeartbeats 4000000 in
theorem w_L_view_L89 {X : zX} {G : zG} (C : zC X G b_L_view "GateRoadsLaw" 5 (some .long) 3 68) {σ : zM} {v3 : Int} (hσ : zRM σ) (r3 : zR v3) {Q : Int64 → Prop} {k117 : Int64 → Prop} (hk117 : ∀ (v1 : Int64), k117 v1 → zJ X G (zQl X G (fun z u => σ = u ∧ Q z)) 5 117 [(0, .ref (gad G 54)), (1, .long v1), (3, .int (zI v3))] [] σ) : ∀ (n : Nat) (v1 : Int64) (v4 : Int) (r4 : zR v4), wp_L_view_L89 σ v3 k117 Q n v1 v4 → zJ X G (zQl X G (fun z u => σ = u ∧ Q z)) 5 89 [(0, .ref (gad G 54)), (1, .long v1), (3, .int (zI v3)), (4, .int (zI v4))] [] σ := by
  intro n
  induction n with
  | zero => intro v1 v4 r4 h; exact False.elim h
  | succ n ih =>
    intro v1 v4 r4 h
    rw [wp_L_view_L89] at h
    refine j_iload C d_L_view_89 3 rfl ?_
    refine j_bipush C d_L_view_91 rfl ?_
    refine j_icmp_ge (tgt := 117) C d_L_view_93 rfl r4 (zR_of (x := 13) rfl) (fun c => ?_) (fun c => ?_)
    · have h := h.1 c
      refine j_sub (L' := [(0, .ref (gad G 54)), (1, .long v1), (3, .int (zI v3))]) [0, 1, 2] rfl ?_
      exact hk117 v1 h
    · have h := h.2 c
      refine j_ldc2 C cl_L_11 d_L_view_96 ?_
      refine j_lload_n C d_L_view_99 1 rfl rfl ?_
      refine j_lmul C d_L_view_100 ?_
      refine j_aload_n C d_L_view_101 0 rfl rfl ?_
      refine j_iload_n C d_L_view_102 2 rfl rfl ?_
      refine j_iload C d_L_view_103 3 rfl ?_
      refine j_callV C d_L_view_105 ml_L_23 mi_X_ofRoad (c_X_ofRoad (xl X) (gD G) (gad G) (gca G) (v1 := v3) (v2 := v4) hσ r3 r4 h) sh_54 rfl rfl rfl rfl rfl rfl rfl (fun z14 σ15 rz14 hσ15 h => ?_)
      obtain ⟨ez14, h⟩ := h; subst ez14
      refine j_i2l C d_L_view_108 ?_
      refine j_ladd C d_L_view_109 ?_
      refine j_lstore_n (L' := [(1, .long (((31 : Int64) * v1) + (zI2l z14))), (0, .ref (gad G 54)), (3, .int (zI v3)), (4, .int (zI v4))]) C d_L_view_110 rfl rfl rfl ?_
      obtain ⟨g16, h⟩ := h
      refine j_iinc (L' := [(4, .int (zI (v4 + 1))), (1, .long (((31 : Int64) * v1) + (zI2l z14))), (0, .ref (gad G 54)), (3, .int (zI v3))]) C d_L_view_111 3 rfl rfl rfl ?_
      refine j_goto (tgt := 89) C d_L_view_114 rfl ?_
      refine j_sub (L' := [(0, .ref (gad G 54)), (1, .long (((31 : Int64) * v1) + (zI2l z14))), (3, .int (zI v3)), (4, .int (zI (v4 + 1)))]) [2, 1, 3, 0] rfl ?_
      exact ih (((31 : Int64) * v1) + (zI2l z14)) (v4 + 1) g16 h
set_option maxRecDepth 100000 in
set_option maxHeartbeats 4000000 in
theorem w_L_view_L77 {X : zX} {G : zG} (C : zC X G b_L_view "GateRoadsLaw" 5 (some .long) 3 68) {σ : zM} (hσ : zRM σ) {Q : Int64 → Prop} {k123 : Int64 → Prop} (hk123 : ∀ (v1 : Int64), k123 v1 → zJ X G (zQl X G (fun z u => σ = u ∧ Q z)) 5 123 [(0, .ref (gad G 54)), (1, .long v1)] [] σ) : ∀ (n : Nat) (v1 : Int64) (v3 : Int) (r3 : zR v3), wp_L_view_L77 σ k123 Q n v1 v3 → zJ X G (zQl X G (fun z u => σ = u ∧ Q z)) 5 77 [(0, .ref (gad G 54)), (1, .long v1), (3, .int (zI v3))] [] σ := by
  intro n
  induction n with
  | zero => intro v1 v3 r3 h; exact False.elim h
  | succ n ih =>
    intro v1 v3 r3 h
    rw [wp_L_view_L77] at h
    refine j_iload_n C d_L_view_77 2 rfl rfl ?_
    refine j_aload_n C d_L_view_78 0 rfl rfl ?_
    refine j_iconst C d_L_view_79 ?_
    refine j_callV C d_L_view_80 ml_L_13 mi_X_count (c_X_count (xl X) (gD G) (gad G) (gca G) (v1 := 0) hσ (zR_of (x := 0) rfl) h) sh_54 rfl rfl rfl rfl rfl rfl rfl (fun z12 σ13 rz12 hσ13 h => ?_)
    obtain ⟨ez12, h⟩ := h; subst ez12
    refine j_icmp_ge (tgt := 123) C d_L_view_83 rfl r3 rz12 (fun c => ?_) (fun c => ?_)
    · have h := h.1 c
      refine j_sub (L' := [(0, .ref (gad G 54)), (1, .long v1)]) [0, 1] rfl ?_
      exact hk123 v1 h
    · have h := h.2 c
      refine j_iconst C d_L_view_86 ?_
      refine j_istore (L' := [(4, .int (zI 0)), (0, .ref (gad G 54)), (1, .long v1), (3, .int (zI v3))]) C d_L_view_87 rfl rfl ?_
      obtain ⟨n19, h⟩ := h
      refine j_sub (L' := [(0, .ref (gad G 54)), (1, .long v1), (3, .int (zI v3)), (4, .int (zI 0))]) [1, 2, 3, 0] rfl ?_
      refine w_L_view_L89 C hσ r3 ?_ n19 v1 0 (zR_of (x := 0) rfl) h
      · intro u17 h
        obtain ⟨g18, h⟩ := h
        refine j_iinc (L' := [(3, .int (zI (v3 + 1))), (0, .ref (gad G 54)), (1, .long u17)]) C d_L_view_117 2 rfl rfl rfl ?_
        refine j_goto (tgt := 77) C d_L_view_120 rfl ?_
        refine j_sub (L' := [(0, .ref (gad G 54)), (1, .long u17), (3, .int (zI (v3 + 1)))]) [1, 2, 0] rfl ?_
        exact ih u17 (v3 + 1) g18 h
set_option maxRecDepth 100000 in
set_option maxHeartbeats 4000000 in
theorem w_L_view_L137 {X : zX} {G : zG} (C : zC X G b_L_view "GateRoadsLaw" 5 (some .long) 3 68) {σ : zM} {v3 : Int} (hσ : zRM σ) (r3 : zR v3) {Q : Int64 → Prop} {k164 : Int64 → Prop} (hk164 : ∀ (v1 : Int64), k164 v1 → zJ X G (zQl X G (fun z u => σ = u ∧ Q z)) 5 164 [(0, .ref (gad G 54)), (1, .long v1), (3, .int (zI v3))] [] σ) : ∀ (n : Nat) (v1 : Int64) (v4 : Int) (r4 : zR v4), wp_L_view_L137 σ v3 k164 Q n v1 v4 → zJ X G (zQl X G (fun z u => σ = u ∧ Q z)) 5 137 [(0, .ref (gad G 54)), (1, .long v1), (3, .int (zI v3)), (4, .int (zI v4))] [] σ := by
  intro n
  induction n with
  | zero => intro v1 v4 r4 h; exact False.elim h
  | succ n ih =>
    intro v1 v4 r4 h
    rw [wp_L_view_L137] at h
    refine j_iload C d_L_view_137 3 rfl ?_
    refine j_iconst C d_L_view_139 ?_
    refine j_icmp_ge (tgt := 164) C d_L_view_140 rfl r4 (zR_of (x := 3) rfl) (fun c => ?_) (fun c => ?_)
    · have h := h.1 c
      refine j_sub (L' := [(0, .ref (gad G 54)), (1, .long v1), (3, .int (zI v3))]) [0, 1, 2] rfl ?_
      exact hk164 v1 h
    · have h := h.2 c
      refine j_ldc2 C cl_L_11 d_L_view_143 ?_
      refine j_lload_n C d_L_view_146 1 rfl rfl ?_
      refine j_lmul C d_L_view_147 ?_
      refine j_aload_n C d_L_view_148 0 rfl rfl ?_
      refine j_iload_n C d_L_view_149 2 rfl rfl ?_
      refine j_iload C d_L_view_150 3 rfl ?_
      refine j_callV C d_L_view_152 ml_L_26 mi_X_ofClosure (c_X_ofClosure (xl X) (gD G) (gad G) (gca G) (v1 := v3) (v2 := v4) hσ r3 r4 h) sh_54 rfl rfl rfl rfl rfl rfl rfl (fun z23 σ24 rz23 hσ24 h => ?_)
      obtain ⟨ez23, h⟩ := h; subst ez23
      refine j_i2l C d_L_view_155 ?_
      refine j_ladd C d_L_view_156 ?_
      refine j_lstore_n (L' := [(1, .long (((31 : Int64) * v1) + (zI2l z23))), (0, .ref (gad G 54)), (3, .int (zI v3)), (4, .int (zI v4))]) C d_L_view_157 rfl rfl rfl ?_
      obtain ⟨g25, h⟩ := h
      refine j_iinc (L' := [(4, .int (zI (v4 + 1))), (1, .long (((31 : Int64) * v1) + (zI2l z23))), (0, .ref (gad G 54)), (3, .int (zI v3))]) C d_L_view_158 3 rfl rfl rfl ?_
      refine j_goto (tgt := 137) C d_L_view_161 rfl ?_
      refine j_sub (L' := [(0, .ref (gad G 54)), (1, .long (((31 : Int64) * v1) + (zI2l z23))), (3, .int (zI v3)), (4, .int (zI (v4 + 1)))]) [2, 1, 3, 0] rfl ?_
      exact ih (((31 : Int64) * v1) + (zI2l z23)) (v4 + 1) g25 h
set_option maxRecDepth 100000 in
set_option maxHeartbeats 4000000 in
theorem w_L_view_L125 {X : zX} {G : zG} (C : zC X G b_L_view "GateRoadsLaw" 5 (some .long) 3 68) {σ : zM} (hσ : zRM σ) {Q : Int64 → Prop} {k170 : Int64 → Prop} (hk170 : ∀ (v1 : Int64), k170 v1 → zJ X G (zQl X G (fun z u => σ = u ∧ Q z)) 5 170 [(0, .ref (gad G 54)), (1, .long v1)] [] σ) : ∀ (n : Nat) (v1 : Int64) (v3 : Int) (r3 : zR v3), wp_L_view_L125 σ k170 Q n v1 v3 → zJ X G (zQl X G (fun z u => σ = u ∧ Q z)) 5 125 [(0, .ref (gad G 54)), (1, .long v1), (3, .int (zI v3))] [] σ := by
  intro n
  induction n with
  | zero => intro v1 v3 r3 h; exact False.elim h
  | succ n ih =>
    intro v1 v3 r3 h
    rw [wp_L_view_L125] at h
    refine j_iload_n C d_L_view_125 2 rfl rfl ?_
    refine j_aload_n C d_L_view_126 0 rfl rfl ?_
    refine j_iconst C d_L_view_127 ?_
    refine j_callV C d_L_view_128 ml_L_13 mi_X_count (c_X_count (xl X) (gD G) (gad G) (gca G) (v1 := 1) hσ (zR_of (x := 1) rfl) h) sh_54 rfl rfl rfl rfl rfl rfl rfl (fun z21 σ22 rz21 hσ22 h => ?_)
    obtain ⟨ez21, h⟩ := h; subst ez21
    refine j_icmp_ge (tgt := 170) C d_L_view_131 rfl r3 rz21 (fun c => ?_) (fun c => ?_)
    · have h := h.1 c
      refine j_sub (L' := [(0, .ref (gad G 54)), (1, .long v1)]) [0, 1] rfl ?_
      exact hk170 v1 h
    · have h := h.2 c
      refine j_iconst C d_L_view_134 ?_
      refine j_istore (L' := [(4, .int (zI 0)), (0, .ref (gad G 54)), (1, .long v1), (3, .int (zI v3))]) C d_L_view_135 rfl rfl ?_
      obtain ⟨n28, h⟩ := h
      refine j_sub (L' := [(0, .ref (gad G 54)), (1, .long v1), (3, .int (zI v3)), (4, .int (zI 0))]) [1, 2, 3, 0] rfl ?_
      refine w_L_view_L137 C hσ r3 ?_ n28 v1 0 (zR_of (x := 0) rfl) h
      · intro u26 h
        obtain ⟨g27, h⟩ := h
        refine j_iinc (L' := [(3, .int (zI (v3 + 1))), (0, .ref (gad G 54)), (1, .long u26)]) C d_L_view_164 2 rfl rfl rfl ?_
        refine j_goto (tgt := 125) C d_L_view_167 rfl ?_
        refine j_sub (L' := [(0, .ref (gad G 54)), (1, .long u26), (3, .int (zI (v3 + 1)))]) [1, 2, 0] rfl ?_
        exact ih u26 (v3 + 1) g27 h
set_option maxRecDepth 100000 in
set_option maxHeartbeats 4000000 in
theorem w_L_view_L184 {X : zX} {G : zG} (C : zC X G b_L_view "GateRoadsLaw" 5 (some .long) 3 68) {σ : zM} {v3 : Int} (hσ : zRM σ) (r3 : zR v3) {Q : Int64 → Prop} {k212 : Int64 → Prop} (hk212 : ∀ (v1 : Int64), k212 v1 → zJ X G (zQl X G (fun z u => σ = u ∧ Q z)) 5 212 [(0, .ref (gad G 54)), (1, .long v1), (3, .int (zI v3))] [] σ) : ∀ (n : Nat) (v1 : Int64) (v4 : Int) (r4 : zR v4), wp_L_view_L184 σ v3 k212 Q n v1 v4 → zJ X G (zQl X G (fun z u => σ = u ∧ Q z)) 5 184 [(0, .ref (gad G 54)), (1, .long v1), (3, .int (zI v3)), (4, .int (zI v4))] [] σ := by
  intro n
  induction n with
  | zero => intro v1 v4 r4 h; exact False.elim h
  | succ n ih =>
    intro v1 v4 r4 h
    rw [wp_L_view_L184] at h
    refine j_iload C d_L_view_184 3 rfl ?_
    refine j_bipush C d_L_view_186 rfl ?_
    refine j_icmp_ge (tgt := 212) C d_L_view_188 rfl r4 (zR_of (x := 8) rfl) (fun c => ?_) (fun c => ?_)
    · have h := h.1 c
      refine j_sub (L' := [(0, .ref (gad G 54)), (1, .long v1), (3, .int (zI v3))]) [0, 1, 2] rfl ?_
      exact hk212 v1 h
    · have h := h.2 c
      refine j_ldc2 C cl_L_11 d_L_view_191 ?_
      refine j_lload_n C d_L_view_194 1 rfl rfl ?_
      refine j_lmul C d_L_view_195 ?_
      refine j_aload_n C d_L_view_196 0 rfl rfl ?_
      refine j_iload_n C d_L_view_197 2 rfl rfl ?_
      refine j_iload C d_L_view_198 3 rfl ?_
      refine j_callV C d_L_view_200 ml_L_29 mi_X_ofTraveller (c_X_ofTraveller (xl X) (gD G) (gad G) (gca G) (v1 := v3) (v2 := v4) hσ r3 r4 h) sh_54 rfl rfl rfl rfl rfl rfl rfl (fun z32 σ33 rz32 hσ33 h => ?_)
      obtain ⟨ez32, h⟩ := h; subst ez32
      refine j_i2l C d_L_view_203 ?_
      refine j_ladd C d_L_view_204 ?_
      refine j_lstore_n (L' := [(1, .long (((31 : Int64) * v1) + (zI2l z32))), (0, .ref (gad G 54)), (3, .int (zI v3)), (4, .int (zI v4))]) C d_L_view_205 rfl rfl rfl ?_
      obtain ⟨g34, h⟩ := h
      refine j_iinc (L' := [(4, .int (zI (v4 + 1))), (1, .long (((31 : Int64) * v1) + (zI2l z32))), (0, .ref (gad G 54)), (3, .int (zI v3))]) C d_L_view_206 3 rfl rfl rfl ?_
      refine j_goto (tgt := 184) C d_L_view_209 rfl ?_
      refine j_sub (L' := [(0, .ref (gad G 54)), (1, .long (((31 : Int64) * v1) + (zI2l z32))), (3, .int (zI v3)), (4, .int (zI (v4 + 1)))]) [2, 1, 3, 0] rfl ?_
      exact ih (((31 : Int64) * v1) + (zI2l z32)) (v4 + 1) g34 h
set_option maxRecDepth 100000 in
set_option maxHeartbeats 4000000 in
theorem w_L_view_L172 {X : zX} {G : zG} (C : zC X G b_L_view "GateRoadsLaw" 5 (some .long) 3 68) {σ : zM} (hσ : zRM σ) {Q : Int64 → Prop} : ∀ (n : Nat) (v1 : Int64) (v3 : Int) (r3 : zR v3), wp_L_view_L172 σ Q n v1 v3 → zJ X G (zQl X G (fun z u => σ = u ∧ Q z)) 5 172 [(0, .ref (gad G 54)), (1, .long v1), (3, .int (zI v3))] [] σ := by
  intro n
  induction n with
  | zero => intro v1 v3 r3 h; exact False.elim h
  | succ n ih =>
    intro v1 v3 r3 h
    rw [wp_L_view_L172] at h
    refine j_iload_n C d_L_view_172 2 rfl rfl ?_
    refine j_aload_n C d_L_view_173 0 rfl rfl ?_
    refine j_iconst C d_L_view_174 ?_
    refine j_callV C d_L_view_175 ml_L_13 mi_X_count (c_X_count (xl X) (gD G) (gad G) (gca G) (v1 := 2) hσ (zR_of (x := 2) rfl) h) sh_54 rfl rfl rfl rfl rfl rfl rfl (fun z30 σ31 rz30 hσ31 h => ?_)
    obtain ⟨ez30, h⟩ := h; subst ez30
    refine j_icmp_ge (tgt := 218) C d_L_view_178 rfl r3 rz30 (fun c => ?_) (fun c => ?_)
    · have h := h.1 c
      refine j_lload_n C d_L_view_218 1 rfl rfl ?_
      exact j_lreturn C d_L_view_219 hσ ⟨rfl, h⟩
    · have h := h.2 c
      refine j_iconst C d_L_view_181 ?_
      refine j_istore (L' := [(4, .int (zI 0)), (0, .ref (gad G 54)), (1, .long v1), (3, .int (zI v3))]) C d_L_view_182 rfl rfl ?_
      obtain ⟨n37, h⟩ := h
      refine j_sub (L' := [(0, .ref (gad G 54)), (1, .long v1), (3, .int (zI v3)), (4, .int (zI 0))]) [1, 2, 3, 0] rfl ?_
      refine w_L_view_L184 C hσ r3 ?_ n37 v1 0 (zR_of (x := 0) rfl) h
      · intro u35 h
        obtain ⟨g36, h⟩ := h
        refine j_iinc (L' := [(3, .int (zI (v3 + 1))), (0, .ref (gad G 54)), (1, .long u35)]) C d_L_view_212 2 rfl rfl rfl ?_
        refine j_goto (tgt := 172) C d_L_view_215 rfl ?_
        refine j_sub (L' := [(0, .ref (gad G 54)), (1, .long u35), (3, .int (zI (v3 + 1)))]) [1, 2, 0] rfl ?_
        exact ih u35 (v3 + 1) g36 h
set_option maxRecDepth 100000 in
set_option maxHeartbeats 4000000 in
theorem c_L_view (l : Launch) (D : va_G) (ad : Nat → Nat) (ca : Nat → ClassId) {σ : zM} {Q : Int64 → Prop} (hσ : zRM σ) (h : wp_L_view σ Q) : zCl_ l D ad ca y_L_view b_L_view 5 (some .long) (zrm 3 68) [.ref (ad 54)] σ (fun z u => σ = u ∧ Q z) := by
  refine zCl_of (by decide +kernel) (Nat.le_of_ble_eq_true rfl) ?_
  intro X G C hl hD had hca
  subst hl hD had hca
  have C : zC X G b_L_view "GateRoadsLaw" 5 (some .long) 3 68 := C
  show zJ X G (zQl X G (fun z u => σ = u ∧ Q z)) 5 0 [(0, .ref (gad G 54))] [] σ
  unfold wp_L_view at h
  refine j_ldc2 C cl_L_9 d_L_view_0 ?_
  refine j_lstore_n (L' := [(1, .long (7 : Int64)), (0, .ref (gad G 54))]) C d_L_view_3 rfl rfl rfl ?_
  refine j_iconst C d_L_view_4 ?_
  refine j_istore_n (L' := [(3, .int (zI 0)), (1, .long (7 : Int64)), (0, .ref (gad G 54))]) C d_L_view_5 rfl rfl rfl ?_
  obtain ⟨n42, h⟩ := h
  refine j_sub (L' := [(0, .ref (gad G 54)), (1, .long (7 : Int64)), (3, .int (zI 0))]) [2, 1, 0] rfl ?_
  refine w_L_view_L6 C hσ ?_ n42 (7 : Int64) 0 (zR_of (x := 0) rfl) h
  · intro u4 h
    refine j_iconst C d_L_view_30 ?_
    refine j_istore_n (L' := [(3, .int (zI 0)), (0, .ref (gad G 54)), (1, .long u4)]) C d_L_view_31 rfl rfl rfl ?_
    obtain ⟨n41, h⟩ := h
    refine j_sub (L' := [(0, .ref (gad G 54)), (1, .long u4), (3, .int (zI 0))]) [1, 2, 0] rfl ?_
    refine w_L_view_L32 C hσ ?_ n41 u4 0 (zR_of (x := 0) rfl) h
    · intro u11 h
      refine j_iconst C d_L_view_75 ?_
      refine j_istore_n (L' := [(3, .int (zI 0)), (0, .ref (gad G 54)), (1, .long u11)]) C d_L_view_76 rfl rfl rfl ?_
      obtain ⟨n40, h⟩ := h
      refine j_sub (L' := [(0, .ref (gad G 54)), (1, .long u11), (3, .int (zI 0))]) [1, 2, 0] rfl ?_
      refine w_L_view_L77 C hσ ?_ n40 u11 0 (zR_of (x := 0) rfl) h
      · intro u20 h
        refine j_iconst C d_L_view_123 ?_
        refine j_istore_n (L' := [(3, .int (zI 0)), (0, .ref (gad G 54)), (1, .long u20)]) C d_L_view_124 rfl rfl rfl ?_
        obtain ⟨n39, h⟩ := h
        refine j_sub (L' := [(0, .ref (gad G 54)), (1, .long u20), (3, .int (zI 0))]) [1, 2, 0] rfl ?_
        refine w_L_view_L125 C hσ ?_ n39 u20 0 (zR_of (x := 0) rfl) h
        · intro u29 h
          refine j_iconst C d_L_view_170 ?_
          refine j_istore_n (L' := [(3, .int (zI 0)), (0, .ref (gad G 54)), (1, .long u29)]) C d_L_view_171 rfl rfl rfl ?_
          obtain ⟨n38, h⟩ := h
          refine j_sub (L' := [(0, .ref (gad G 54)), (1, .long u29), (3, .int (zI 0))]) [1, 2, 0] rfl ?_
          refine w_L_view_L172 C hσ n38 u29 0 (zR_of (x := 0) rfl) h
set_option maxRecDepth 100000 in
set_option maxHeartbeats 4000000 in
theorem c_L_any (l : Launch) (D : va_G) (ad : Nat → Nat) (ca : Nat → ClassId) {σ : zM} {v1 : Int} {v2 : Int} {Q : Int → zM → Prop} (hσ : zRM σ) (r1 : zR v1) (r2 : zR v2) (h : wp_L_any σ v1 v2 Q) : zCi l D ad ca y_L_any b_L_any 3 (some .int) (zrm 5 117) [.ref (ad 54), .int (zI v1), .int (zI v2)] σ Q := by
  refine zCi_of (by decide +kernel) (Nat.le_of_ble_eq_true rfl) ?_
  intro X G C hl hD had hca
  subst hl hD had hca
  have C : zC X G b_L_any "GateRoadsLaw" 3 (some .int) 5 117 := C
  show zJ X G (zQi X G Q) 3 0 [(0, .ref (gad G 54)), (1, .int (zI v1)), (2, .int (zI v2))] [] σ
  unfold wp_L_any at h
  refine j_iload_n C d_L_any_0 2 rfl rfl ?_
  refine j_bipush C d_L_any_1 rfl ?_
  refine j_iand C d_L_any_3 ?_
  have hc : (zAnd v2 7) = 0 ∨ (zAnd v2 7) = 1 ∨ (zAnd v2 7) = 2 ∨ (zAnd v2 7) = 3 ∨ (zAnd v2 7) = 4 ∨ (zAnd v2 7) = 5 ∨ (zAnd v2 7) = 6 ∨ ((zAnd v2 7) < 0 ∨ 6 < (zAnd v2 7)) := by omega
  rcases hc with c | c | c | c | c | c | c | c
  · have h := h.1 c
    refine j_tableIn (tgt := 48) C d_L_any_4 (zAnd_rg _ _) 0 c rfl rfl rfl ?_
    refine j_aload_n C d_L_any_48 0 rfl rfl ?_
    refine j_iload_n C d_L_any_49 1 rfl rfl ?_
    refine j_iload_n C d_L_any_50 2 rfl rfl ?_
    refine j_iload_n C d_L_any_51 1 rfl rfl ?_
    refine j_iload_n C d_L_any_52 2 rfl rfl ?_
    refine j_callV C d_L_any_53 ml_L_32 mi_X_room (c_X_room (xl X) (gD G) (gad G) (gca G) (v1 := v1) (v2 := v2) (v3 := v1) (v4 := v2) hσ r1 r2 r1 r2 h) sh_54 rfl rfl rfl rfl rfl rfl rfl (fun z1 σ2 rz1 hσ2 h => ?_)
    exact j_ireturn C d_L_any_56 rz1 hσ2 h
  · have h := h.2.1 c
    refine j_tableIn (tgt := 57) C d_L_any_4 (zAnd_rg _ _) 1 c rfl rfl rfl ?_
    refine j_aload_n C d_L_any_57 0 rfl rfl ?_
    refine j_iload_n C d_L_any_58 1 rfl rfl ?_
    refine j_iload_n C d_L_any_59 2 rfl rfl ?_
    refine j_iload_n C d_L_any_60 1 rfl rfl ?_
    refine j_callV C d_L_any_61 ml_L_36 mi_X_road (c_X_road (xl X) (gD G) (gad G) (gca G) (v1 := v1) (v2 := v2) (v3 := v1) hσ r1 r2 r1 h) sh_54 rfl rfl rfl rfl rfl rfl rfl (fun z3 σ4 rz3 hσ4 h => ?_)
    exact j_ireturn C d_L_any_64 rz3 hσ4 h
  · have h := h.2.2.1 c
    refine j_tableIn (tgt := 65) C d_L_any_4 (zAnd_rg _ _) 2 c rfl rfl rfl ?_
    refine j_aload_n C d_L_any_65 0 rfl rfl ?_
    refine j_iload_n C d_L_any_66 1 rfl rfl ?_
    refine j_iload_n C d_L_any_67 2 rfl rfl ?_
    refine j_iload_n C d_L_any_68 1 rfl rfl ?_
    refine j_iload_n C d_L_any_69 2 rfl rfl ?_
    refine j_callV C d_L_any_70 ml_L_40 mi_X_open (c_X_open (xl X) (gD G) (gad G) (gca G) (v1 := v1) (v2 := v2) (v3 := v1) (v4 := v2) hσ r1 r2 r1 r2 h) sh_54 rfl rfl rfl rfl rfl rfl rfl (fun z5 σ6 rz5 hσ6 h => ?_)
    exact j_ireturn C d_L_any_73 rz5 hσ6 h
  · have h := h.2.2.2.1 c
    refine j_tableIn (tgt := 74) C d_L_any_4 (zAnd_rg _ _) 3 c rfl rfl rfl ?_
    refine j_aload_n C d_L_any_74 0 rfl rfl ?_
    refine j_iload_n C d_L_any_75 1 rfl rfl ?_
    refine j_iload_n C d_L_any_76 2 rfl rfl ?_
    refine j_iload_n C d_L_any_77 1 rfl rfl ?_
    refine j_callV C d_L_any_78 ml_L_43 mi_X_more (c_X_more (xl X) (gD G) (gad G) (gca G) (v1 := v1) (v2 := v2) (v3 := v1) hσ r1 r2 r1 h) sh_54 rfl rfl rfl rfl rfl rfl rfl (fun z7 σ8 rz7 hσ8 h => ?_)
    exact j_ireturn C d_L_any_81 rz7 hσ8 h
  · have h := h.2.2.2.2.1 c
    refine j_tableIn (tgt := 82) C d_L_any_4 (zAnd_rg _ _) 4 c rfl rfl rfl ?_
    refine j_aload_n C d_L_any_82 0 rfl rfl ?_
    refine j_iload_n C d_L_any_83 1 rfl rfl ?_
    refine j_iload_n C d_L_any_84 2 rfl rfl ?_
    refine j_iload_n C d_L_any_85 1 rfl rfl ?_
    refine j_callV C d_L_any_86 ml_L_46 mi_X_close (c_X_close (xl X) (gD G) (gad G) (gca G) (v1 := v1) (v2 := v2) (v3 := v1) hσ r1 r2 r1 h) sh_54 rfl rfl rfl rfl rfl rfl rfl (fun z9 σ10 rz9 hσ10 h => ?_)
    exact j_ireturn C d_L_any_89 rz9 hσ10 h
  · have h := h.2.2.2.2.2.1 c
    refine j_tableIn (tgt := 90) C d_L_any_4 (zAnd_rg _ _) 5 c rfl rfl rfl ?_
    refine j_aload_n C d_L_any_90 0 rfl rfl ?_
    refine j_iload_n C d_L_any_91 1 rfl rfl ?_
    refine j_callV C d_L_any_92 ml_L_49 mi_X_lift (c_X_lift (xl X) (gD G) (gad G) (gca G) (v1 := v1) hσ r1 h) sh_54 rfl rfl rfl rfl rfl rfl rfl (fun z11 σ12 rz11 hσ12 h => ?_)
    exact j_ireturn C d_L_any_95 rz11 hσ12 h
  · have h := h.2.2.2.2.2.2.1 c
    refine j_tableIn (tgt := 96) C d_L_any_4 (zAnd_rg _ _) 6 c rfl rfl rfl ?_
    refine j_aload_n C d_L_any_96 0 rfl rfl ?_
    refine j_iload_n C d_L_any_97 1 rfl rfl ?_
    refine j_iload_n C d_L_any_98 2 rfl rfl ?_
    refine j_callV C d_L_any_99 ml_L_52 mi_X_traveller (c_X_traveller (xl X) (gD G) (gad G) (gca G) (v1 := v1) (v2 := v2) hσ r1 r2 h) sh_54 rfl rfl rfl rfl rfl rfl rfl (fun z13 σ14 rz13 hσ14 h => ?_)
    exact j_ireturn C d_L_any_102 rz13 hσ14 h
  · have h := h.2.2.2.2.2.2.2 c
    refine j_tableOut (tgt := 103) C d_L_any_4 (zAnd_rg _ _) c rfl ?_
    refine j_aload_n C d_L_any_103 0 rfl rfl ?_
    refine j_iload_n C d_L_any_104 1 rfl rfl ?_
    refine j_iload_n C d_L_any_105 2 rfl rfl ?_
    refine j_callV C d_L_any_106 ml_L_55 mi_X_stay (c_X_stay (xl X) (gD G) (gad G) (gca G) (v1 := v1) (v2 := v2) hσ r1 r2 h) sh_54 rfl rfl rfl rfl rfl rfl rfl (fun z15 σ16 rz15 hσ16 h => ?_)
    exact j_ireturn C d_L_any_109 rz15 hσ16 h
set_option maxRecDepth 100000 in
set_option maxHeartbeats 4000000 in
theorem w_L_turn_b282 {X : zX} {G : zG} (C : zC X G b_L_turn "GateRoadsLaw" 6 (some .int) 6 139) {Q : Int → zM → Prop} (σ : zM) (s1 : Int) (s2 : Int) (s3 : Int) (s4 : Int) (hσ : zRM σ) (rs1 : zR s1) (rs2 : zR s2) (rs3 : zR s3) (rs4 : zR s4) (h : wp_L_turn_b282 Q σ s1 s2 s3 s4) : zJ X G (zQi X G Q) 6 282 [] [.int (zI s4), .int (zI s3), .int (zI s2), .int (zI s1), .ref (gad G 54)] σ := by
  unfold wp_L_turn_b282 at h
  refine j_callS C d_L_turn_282 ml_L_58 ms_L_up (c_L_up (xl X) (gD G) (gad G) (gca G) (v0 := s3) (v1 := s4) hσ rs3 rs4 h) rfl rfl rfl rfl rfl (fun z79 σ80 rz79 hσ80 h => ?_)
  obtain ⟨ez79, h⟩ := h; subst ez79
  refine j_iadd C d_L_turn_285 ?_
  obtain ⟨g81, h⟩ := h
  refine j_callV C d_L_turn_286 ml_L_55 mi_X_stay (c_X_stay (xl X) (gD G) (gad G) (gca G) (v1 := s1) (v2 := s2 + z79) hσ rs1 g81 h) sh_54 rfl rfl rfl rfl rfl rfl rfl (fun z82 σ83 rz82 hσ83 h => ?_)
  exact j_ireturn C d_L_turn_289 rz82 hσ83 h
set_option maxRecDepth 100000 in
set_option maxHeartbeats 4000000 in
theorem c_L_turn (l : Launch) (D : va_G) (ad : Nat → Nat) (ca : Nat → ClassId) {σ : zM} {v1 : Int} {v2 : Int} {v3 : Int} {Q : Int → zM → Prop} (hσ : zRM σ) (r1 : zR v1) (r2 : zR v2) (r3 : zR v3) (h : wp_L_turn σ v1 v2 v3 Q) : zCi l D ad ca y_L_turn b_L_turn 6 (some .int) (zrm 6 139) [.ref (ad 54), .int (zI v1), .int (zI v2), .int (zI v3)] σ Q := by
  refine zCi_of (by decide +kernel) (Nat.le_of_ble_eq_true rfl) ?_
  intro X G C hl hD had hca
  subst hl hD had hca
  have C : zC X G b_L_turn "GateRoadsLaw" 6 (some .int) 6 139 := C
  show zJ X G (zQi X G Q) 6 0 [(0, .ref (gad G 54)), (1, .int (zI v1)), (2, .int (zI v2)), (3, .int (zI v3))] [] σ
  unfold wp_L_turn at h
  refine j_iload_n C d_L_turn_0 2 rfl rfl ?_
  refine j_bipush C d_L_turn_1 rfl ?_
  refine j_ishr C d_L_turn_3 ?_
  refine j_sipush C d_L_turn_4 rfl ?_
  refine j_callS C d_L_turn_7 ml_L_58 ms_L_up (c_L_up (xl X) (gD G) (gad G) (gca G) (v0 := zShr v2 8) (v1 := 1400) hσ (zShr_rg _ _) (zR_of (x := 1400) rfl) h) rfl rfl rfl rfl rfl (fun z1 σ2 rz1 hσ2 h => ?_)
  obtain ⟨ez1, h⟩ := h; subst ez1
  refine j_istore (L' := [(4, .int (zI z1)), (0, .ref (gad G 54)), (1, .int (zI v1)), (2, .int (zI v2)), (3, .int (zI v3))]) C d_L_turn_10 rfl rfl ?_
  refine j_iload C d_L_turn_12 0 rfl ?_
  refine j_iconst C d_L_turn_14 ?_
  refine j_iadd C d_L_turn_15 ?_
  refine j_iload_n C d_L_turn_16 4 rfl rfl ?_
  refine j_sipush C d_L_turn_17 rfl ?_
  refine j_iload C d_L_turn_20 0 rfl ?_
  refine j_isub C d_L_turn_22 ?_
  obtain ⟨g3, h⟩ := h
  refine j_callS C d_L_turn_23 ml_L_58 ms_L_up (c_L_up (xl X) (gD G) (gad G) (gca G) (v0 := v3) (v1 := 1440 - z1) hσ r3 g3 h) rfl rfl rfl rfl rfl (fun z4 σ5 rz4 hσ5 h => ?_)
  obtain ⟨ez4, h⟩ := h; subst ez4
  refine j_iadd C d_L_turn_26 ?_
  obtain ⟨g6, h⟩ := h
  refine j_istore (L' := [(5, .int (zI ((z1 + 1) + z4))), (4, .int (zI z1)), (0, .ref (gad G 54)), (1, .int (zI v1)), (2, .int (zI v2)), (3, .int (zI v3))]) C d_L_turn_27 rfl rfl ?_
  refine j_iload_n C d_L_turn_29 3 rfl rfl ?_
  have hc : v1 = 0 ∨ v1 = 1 ∨ v1 = 2 ∨ v1 = 3 ∨ v1 = 4 ∨ v1 = 5 ∨ v1 = 6 ∨ v1 = 7 ∨ v1 = 8 ∨ v1 = 9 ∨ v1 = 10 ∨ v1 = 11 ∨ v1 = 12 ∨ v1 = 13 ∨ (v1 < 0 ∨ 13 < v1) := by omega
  rcases hc with c | c | c | c | c | c | c | c | c | c | c | c | c | c | c
  · have h := h.1 c
    refine j_tableIn (tgt := 100) C d_L_turn_30 r1 0 c rfl rfl rfl ?_
    refine j_aload_n C d_L_turn_100 2 rfl rfl ?_
    refine j_iload_n C d_L_turn_101 4 rfl rfl ?_
    refine j_bipush C d_L_turn_102 rfl ?_
    refine j_callS C d_L_turn_104 ml_L_58 ms_L_up (c_L_up (xl X) (gD G) (gad G) (gca G) (v0 := v2) (v1 := 9) hσ r2 (zR_of (x := 9) rfl) h) rfl rfl rfl rfl rfl (fun z7 σ8 rz7 hσ8 h => ?_)
    obtain ⟨ez7, h⟩ := h; subst ez7
    refine j_iload C d_L_turn_107 1 rfl ?_
    refine j_iload C d_L_turn_109 0 rfl ?_
    refine j_iload_n C d_L_turn_111 5 rfl rfl ?_
    refine j_bipush C d_L_turn_112 rfl ?_
    refine j_ishr C d_L_turn_114 ?_
    refine j_iconst C d_L_turn_115 ?_
    refine j_callS C d_L_turn_116 ml_L_58 ms_L_up (c_L_up (xl X) (gD G) (gad G) (gca G) (v0 := zShr v3 12) (v1 := 4) hσ (zShr_rg _ _) (zR_of (x := 4) rfl) h) rfl rfl rfl rfl rfl (fun z9 σ10 rz9 hσ10 h => ?_)
    obtain ⟨ez9, h⟩ := h; subst ez9
    refine j_if_ne (tgt := 131) C d_L_turn_119 rfl rz9 (fun c => ?_) (fun c => ?_)
    · have h := h.1 c
      refine j_sipush C d_L_turn_131 rfl ?_
      refine j_callV C d_L_turn_134 ml_L_32 mi_X_room (c_X_room (xl X) (gD G) (gad G) (gca G) (v1 := z7) (v2 := z1) (v3 := (z1 + 1) + z4) (v4 := 1000) hσ rz7 rz1 g6 (zR_of (x := 1000) rfl) h) sh_54 rfl rfl rfl rfl rfl rfl rfl (fun z11 σ12 rz11 hσ12 h => ?_)
      exact j_ireturn C d_L_turn_137 rz11 hσ12 h
    · have h := h.2 c
      refine j_iload_n C d_L_turn_122 5 rfl rfl ?_
      refine j_bipush C d_L_turn_123 rfl ?_
      refine j_callS C d_L_turn_125 ml_L_58 ms_L_up (c_L_up (xl X) (gD G) (gad G) (gca G) (v0 := v3) (v1 := 30) hσ r3 (zR_of (x := 30) rfl) h) rfl rfl rfl rfl rfl (fun z13 σ14 rz13 hσ14 h => ?_)
      obtain ⟨ez13, h⟩ := h; subst ez13
      refine j_goto (tgt := 134) C d_L_turn_128 rfl ?_
      refine j_callV C d_L_turn_134 ml_L_32 mi_X_room (c_X_room (xl X) (gD G) (gad G) (gca G) (v1 := z7) (v2 := z1) (v3 := (z1 + 1) + z4) (v4 := z13) hσ rz7 rz1 g6 rz13 h) sh_54 rfl rfl rfl rfl rfl rfl rfl (fun z15 σ16 rz15 hσ16 h => ?_)
      exact j_ireturn C d_L_turn_137 rz15 hσ16 h
  · have h := h.2.1 c
    refine j_tableIn (tgt := 138) C d_L_turn_30 r1 1 c rfl rfl rfl ?_
    refine j_aload_n C d_L_turn_138 2 rfl rfl ?_
    refine j_iload_n C d_L_turn_139 4 rfl rfl ?_
    refine j_iconst C d_L_turn_140 ?_
    refine j_callS C d_L_turn_141 ml_L_58 ms_L_up (c_L_up (xl X) (gD G) (gad G) (gca G) (v0 := v2) (v1 := 5) hσ r2 (zR_of (x := 5) rfl) h) rfl rfl rfl rfl rfl (fun z17 σ18 rz17 hσ18 h => ?_)
    obtain ⟨ez17, h⟩ := h; subst ez17
    refine j_iload_n C d_L_turn_144 4 rfl rfl ?_
    refine j_iconst C d_L_turn_145 ?_
    refine j_ishr C d_L_turn_146 ?_
    refine j_iconst C d_L_turn_147 ?_
    refine j_callS C d_L_turn_148 ml_L_58 ms_L_up (c_L_up (xl X) (gD G) (gad G) (gca G) (v0 := zShr v2 4) (v1 := 5) hσ (zShr_rg _ _) (zR_of (x := 5) rfl) h) rfl rfl rfl rfl rfl (fun z19 σ20 rz19 hσ20 h => ?_)
    obtain ⟨ez19, h⟩ := h; subst ez19
    refine j_iconst C d_L_turn_151 ?_
    refine j_iload_n C d_L_turn_152 5 rfl rfl ?_
    refine j_sipush C d_L_turn_153 rfl ?_
    refine j_callS C d_L_turn_156 ml_L_58 ms_L_up (c_L_up (xl X) (gD G) (gad G) (gca G) (v0 := v3) (v1 := 400) hσ r3 (zR_of (x := 400) rfl) h) rfl rfl rfl rfl rfl (fun z21 σ22 rz21 hσ22 h => ?_)
    obtain ⟨ez21, h⟩ := h; subst ez21
    refine j_iadd C d_L_turn_159 ?_
    obtain ⟨g23, h⟩ := h
    refine j_callV C d_L_turn_160 ml_L_36 mi_X_road (c_X_road (xl X) (gD G) (gad G) (gca G) (v1 := z17) (v2 := z19) (v3 := 1 + z21) hσ rz17 rz19 g23 h) sh_54 rfl rfl rfl rfl rfl rfl rfl (fun z24 σ25 rz24 hσ25 h => ?_)
    exact j_ireturn C d_L_turn_163 rz24 hσ25 h
  · have h := h.2.2.1 c
    refine j_tableIn (tgt := 138) C d_L_turn_30 r1 2 c rfl rfl rfl ?_
    refine j_aload_n C d_L_turn_138 2 rfl rfl ?_
    refine j_iload_n C d_L_turn_139 4 rfl rfl ?_
    refine j_iconst C d_L_turn_140 ?_
    refine j_callS C d_L_turn_141 ml_L_58 ms_L_up (c_L_up (xl X) (gD G) (gad G) (gca G) (v0 := v2) (v1 := 5) hσ r2 (zR_of (x := 5) rfl) h) rfl rfl rfl rfl rfl (fun z26 σ27 rz26 hσ27 h => ?_)
    obtain ⟨ez26, h⟩ := h; subst ez26
    refine j_iload_n C d_L_turn_144 4 rfl rfl ?_
    refine j_iconst C d_L_turn_145 ?_
    refine j_ishr C d_L_turn_146 ?_
    refine j_iconst C d_L_turn_147 ?_
    refine j_callS C d_L_turn_148 ml_L_58 ms_L_up (c_L_up (xl X) (gD G) (gad G) (gca G) (v0 := zShr v2 4) (v1 := 5) hσ (zShr_rg _ _) (zR_of (x := 5) rfl) h) rfl rfl rfl rfl rfl (fun z28 σ29 rz28 hσ29 h => ?_)
    obtain ⟨ez28, h⟩ := h; subst ez28
    refine j_iconst C d_L_turn_151 ?_
    refine j_iload_n C d_L_turn_152 5 rfl rfl ?_
    refine j_sipush C d_L_turn_153 rfl ?_
    refine j_callS C d_L_turn_156 ml_L_58 ms_L_up (c_L_up (xl X) (gD G) (gad G) (gca G) (v0 := v3) (v1 := 400) hσ r3 (zR_of (x := 400) rfl) h) rfl rfl rfl rfl rfl (fun z30 σ31 rz30 hσ31 h => ?_)
    obtain ⟨ez30, h⟩ := h; subst ez30
    refine j_iadd C d_L_turn_159 ?_
    obtain ⟨g32, h⟩ := h
    refine j_callV C d_L_turn_160 ml_L_36 mi_X_road (c_X_road (xl X) (gD G) (gad G) (gca G) (v1 := z26) (v2 := z28) (v3 := 1 + z30) hσ rz26 rz28 g32 h) sh_54 rfl rfl rfl rfl rfl rfl rfl (fun z33 σ34 rz33 hσ34 h => ?_)
    exact j_ireturn C d_L_turn_163 rz33 hσ34 h
  · have h := h.2.2.2.1 c
    refine j_tableIn (tgt := 164) C d_L_turn_30 r1 3 c rfl rfl rfl ?_
    refine j_aload_n C d_L_turn_164 2 rfl rfl ?_
    refine j_iload_n C d_L_turn_165 4 rfl rfl ?_
    refine j_bipush C d_L_turn_166 rfl ?_
    refine j_callS C d_L_turn_168 ml_L_58 ms_L_up (c_L_up (xl X) (gD G) (gad G) (gca G) (v0 := v2) (v1 := 6) hσ r2 (zR_of (x := 6) rfl) h) rfl rfl rfl rfl rfl (fun z35 σ36 rz35 hσ36 h => ?_)
    obtain ⟨ez35, h⟩ := h; subst ez35
    refine j_iload C d_L_turn_171 1 rfl ?_
    refine j_iload C d_L_turn_173 0 rfl ?_
    refine j_iload_n C d_L_turn_175 5 rfl rfl ?_
    refine j_iconst C d_L_turn_176 ?_
    refine j_iand C d_L_turn_177 ?_
    refine j_callV C d_L_turn_178 ml_L_40 mi_X_open (c_X_open (xl X) (gD G) (gad G) (gca G) (v1 := z35) (v2 := z1) (v3 := (z1 + 1) + z4) (v4 := zAnd v3 1) hσ rz35 rz1 g6 (zAnd_rg _ _) h) sh_54 rfl rfl rfl rfl rfl rfl rfl (fun z37 σ38 rz37 hσ38 h => ?_)
    exact j_ireturn C d_L_turn_181 rz37 hσ38 h
  · have h := h.2.2.2.2.1 c
    refine j_tableIn (tgt := 182) C d_L_turn_30 r1 4 c rfl rfl rfl ?_
    refine j_aload_n C d_L_turn_182 2 rfl rfl ?_
    refine j_iload_n C d_L_turn_183 4 rfl rfl ?_
    refine j_bipush C d_L_turn_184 rfl ?_
    refine j_callS C d_L_turn_186 ml_L_58 ms_L_up (c_L_up (xl X) (gD G) (gad G) (gca G) (v0 := v2) (v1 := 6) hσ r2 (zR_of (x := 6) rfl) h) rfl rfl rfl rfl rfl (fun z39 σ40 rz39 hσ40 h => ?_)
    obtain ⟨ez39, h⟩ := h; subst ez39
    refine j_iload C d_L_turn_189 1 rfl ?_
    refine j_iload C d_L_turn_191 0 rfl ?_
    refine j_callV C d_L_turn_193 ml_L_43 mi_X_more (c_X_more (xl X) (gD G) (gad G) (gca G) (v1 := z39) (v2 := z1) (v3 := (z1 + 1) + z4) hσ rz39 rz1 g6 h) sh_54 rfl rfl rfl rfl rfl rfl rfl (fun z41 σ42 rz41 hσ42 h => ?_)
    exact j_ireturn C d_L_turn_196 rz41 hσ42 h
  · have h := h.2.2.2.2.2.1 c
    refine j_tableIn (tgt := 197) C d_L_turn_30 r1 5 c rfl rfl rfl ?_
    refine j_aload_n C d_L_turn_197 2 rfl rfl ?_
    refine j_iload_n C d_L_turn_198 4 rfl rfl ?_
    refine j_bipush C d_L_turn_199 rfl ?_
    refine j_callS C d_L_turn_201 ml_L_58 ms_L_up (c_L_up (xl X) (gD G) (gad G) (gca G) (v0 := v2) (v1 := 6) hσ r2 (zR_of (x := 6) rfl) h) rfl rfl rfl rfl rfl (fun z43 σ44 rz43 hσ44 h => ?_)
    obtain ⟨ez43, h⟩ := h; subst ez43
    refine j_iconst C d_L_turn_204 ?_
    refine j_iload C d_L_turn_205 1 rfl ?_
    refine j_imul C d_L_turn_207 ?_
    refine j_iconst C d_L_turn_208 ?_
    refine j_iload C d_L_turn_209 0 rfl ?_
    refine j_imul C d_L_turn_211 ?_
    obtain ⟨g45, h⟩ := h
    obtain ⟨g46, h⟩ := h
    refine j_callV C d_L_turn_212 ml_L_46 mi_X_close (c_X_close (xl X) (gD G) (gad G) (gca G) (v1 := z43) (v2 := 2 * z1) (v3 := 2 * ((z1 + 1) + z4)) hσ rz43 g45 g46 h) sh_54 rfl rfl rfl rfl rfl rfl rfl (fun z47 σ48 rz47 hσ48 h => ?_)
    exact j_ireturn C d_L_turn_215 rz47 hσ48 h
  · have h := h.2.2.2.2.2.2.1 c
    refine j_tableIn (tgt := 216) C d_L_turn_30 r1 6 c rfl rfl rfl ?_
    refine j_aload_n C d_L_turn_216 2 rfl rfl ?_
    refine j_iload_n C d_L_turn_217 4 rfl rfl ?_
    refine j_iconst C d_L_turn_218 ?_
    refine j_callS C d_L_turn_219 ml_L_58 ms_L_up (c_L_up (xl X) (gD G) (gad G) (gca G) (v0 := v2) (v1 := 4) hσ r2 (zR_of (x := 4) rfl) h) rfl rfl rfl rfl rfl (fun z49 σ50 rz49 hσ50 h => ?_)
    obtain ⟨ez49, h⟩ := h; subst ez49
    refine j_callV C d_L_turn_222 ml_L_49 mi_X_lift (c_X_lift (xl X) (gD G) (gad G) (gca G) (v1 := z49) hσ rz49 h) sh_54 rfl rfl rfl rfl rfl rfl rfl (fun z51 σ52 rz51 hσ52 h => ?_)
    exact j_ireturn C d_L_turn_225 rz51 hσ52 h
  · have h := h.2.2.2.2.2.2.2.1 c
    refine j_tableIn (tgt := 226) C d_L_turn_30 r1 7 c rfl rfl rfl ?_
    refine j_aload_n C d_L_turn_226 2 rfl rfl ?_
    refine j_iload_n C d_L_turn_227 4 rfl rfl ?_
    refine j_iconst C d_L_turn_228 ?_
    refine j_callS C d_L_turn_229 ml_L_58 ms_L_up (c_L_up (xl X) (gD G) (gad G) (gca G) (v0 := v2) (v1 := 5) hσ r2 (zR_of (x := 5) rfl) h) rfl rfl rfl rfl rfl (fun z53 σ54 rz53 hσ54 h => ?_)
    obtain ⟨ez53, h⟩ := h; subst ez53
    refine j_iload_n C d_L_turn_232 5 rfl rfl ?_
    refine j_sipush C d_L_turn_233 rfl ?_
    refine j_callS C d_L_turn_236 ml_L_58 ms_L_up (c_L_up (xl X) (gD G) (gad G) (gca G) (v0 := v3) (v1 := 2000) hσ r3 (zR_of (x := 2000) rfl) h) rfl rfl rfl rfl rfl (fun z55 σ56 rz55 hσ56 h => ?_)
    obtain ⟨ez55, h⟩ := h; subst ez55
    refine j_callV C d_L_turn_239 ml_L_52 mi_X_traveller (c_X_traveller (xl X) (gD G) (gad G) (gca G) (v1 := z53) (v2 := z55) hσ rz53 rz55 h) sh_54 rfl rfl rfl rfl rfl rfl rfl (fun z57 σ58 rz57 hσ58 h => ?_)
    exact j_ireturn C d_L_turn_242 rz57 hσ58 h
  · have h := h.2.2.2.2.2.2.2.2.1 c
    refine j_tableIn (tgt := 243) C d_L_turn_30 r1 8 c rfl rfl rfl ?_
    refine j_aload_n C d_L_turn_243 2 rfl rfl ?_
    refine j_iload_n C d_L_turn_244 4 rfl rfl ?_
    refine j_iconst C d_L_turn_245 ?_
    refine j_callS C d_L_turn_246 ml_L_58 ms_L_up (c_L_up (xl X) (gD G) (gad G) (gca G) (v0 := v2) (v1 := 4) hσ r2 (zR_of (x := 4) rfl) h) rfl rfl rfl rfl rfl (fun z59 σ60 rz59 hσ60 h => ?_)
    obtain ⟨ez59, h⟩ := h; subst ez59
    refine j_iload_n C d_L_turn_249 5 rfl rfl ?_
    refine j_bipush C d_L_turn_250 rfl ?_
    refine j_callS C d_L_turn_252 ml_L_58 ms_L_up (c_L_up (xl X) (gD G) (gad G) (gca G) (v0 := v3) (v1 := 6) hσ r3 (zR_of (x := 6) rfl) h) rfl rfl rfl rfl rfl (fun z61 σ62 rz61 hσ62 h => ?_)
    obtain ⟨ez61, h⟩ := h; subst ez61
    refine j_callV C d_L_turn_255 ml_L_63 mi_X_go (c_X_go (xl X) (gD G) (gad G) (gca G) (v1 := z59) (v2 := z61) hσ rz59 rz61 h) sh_54 rfl rfl rfl rfl rfl rfl rfl (fun z63 σ64 rz63 hσ64 h => ?_)
    exact j_ireturn C d_L_turn_258 rz63 hσ64 h
  · have h := h.2.2.2.2.2.2.2.2.2.1 c
    refine j_tableIn (tgt := 243) C d_L_turn_30 r1 9 c rfl rfl rfl ?_
    refine j_aload_n C d_L_turn_243 2 rfl rfl ?_
    refine j_iload_n C d_L_turn_244 4 rfl rfl ?_
    refine j_iconst C d_L_turn_245 ?_
    refine j_callS C d_L_turn_246 ml_L_58 ms_L_up (c_L_up (xl X) (gD G) (gad G) (gca G) (v0 := v2) (v1 := 4) hσ r2 (zR_of (x := 4) rfl) h) rfl rfl rfl rfl rfl (fun z65 σ66 rz65 hσ66 h => ?_)
    obtain ⟨ez65, h⟩ := h; subst ez65
    refine j_iload_n C d_L_turn_249 5 rfl rfl ?_
    refine j_bipush C d_L_turn_250 rfl ?_
    refine j_callS C d_L_turn_252 ml_L_58 ms_L_up (c_L_up (xl X) (gD G) (gad G) (gca G) (v0 := v3) (v1 := 6) hσ r3 (zR_of (x := 6) rfl) h) rfl rfl rfl rfl rfl (fun z67 σ68 rz67 hσ68 h => ?_)
    obtain ⟨ez67, h⟩ := h; subst ez67
    refine j_callV C d_L_turn_255 ml_L_63 mi_X_go (c_X_go (xl X) (gD G) (gad G) (gca G) (v1 := z65) (v2 := z67) hσ rz65 rz67 h) sh_54 rfl rfl rfl rfl rfl rfl rfl (fun z69 σ70 rz69 hσ70 h => ?_)
    exact j_ireturn C d_L_turn_258 rz69 hσ70 h
  · have h := h.2.2.2.2.2.2.2.2.2.2.1 c
    refine j_tableIn (tgt := 243) C d_L_turn_30 r1 10 c rfl rfl rfl ?_
    refine j_aload_n C d_L_turn_243 2 rfl rfl ?_
    refine j_iload_n C d_L_turn_244 4 rfl rfl ?_
    refine j_iconst C d_L_turn_245 ?_
    refine j_callS C d_L_turn_246 ml_L_58 ms_L_up (c_L_up (xl X) (gD G) (gad G) (gca G) (v0 := v2) (v1 := 4) hσ r2 (zR_of (x := 4) rfl) h) rfl rfl rfl rfl rfl (fun z71 σ72 rz71 hσ72 h => ?_)
    obtain ⟨ez71, h⟩ := h; subst ez71
    refine j_iload_n C d_L_turn_249 5 rfl rfl ?_
    refine j_bipush C d_L_turn_250 rfl ?_
    refine j_callS C d_L_turn_252 ml_L_58 ms_L_up (c_L_up (xl X) (gD G) (gad G) (gca G) (v0 := v3) (v1 := 6) hσ r3 (zR_of (x := 6) rfl) h) rfl rfl rfl rfl rfl (fun z73 σ74 rz73 hσ74 h => ?_)
    obtain ⟨ez73, h⟩ := h; subst ez73
    refine j_callV C d_L_turn_255 ml_L_63 mi_X_go (c_X_go (xl X) (gD G) (gad G) (gca G) (v1 := z71) (v2 := z73) hσ rz71 rz73 h) sh_54 rfl rfl rfl rfl rfl rfl rfl (fun z75 σ76 rz75 hσ76 h => ?_)
    exact j_ireturn C d_L_turn_258 rz75 hσ76 h
  · have h := h.2.2.2.2.2.2.2.2.2.2.2.1 c
    refine j_tableIn (tgt := 259) C d_L_turn_30 r1 11 c rfl rfl rfl ?_
    refine j_aload_n C d_L_turn_259 2 rfl rfl ?_
    refine j_iload_n C d_L_turn_260 4 rfl rfl ?_
    refine j_iconst C d_L_turn_261 ?_
    refine j_callS C d_L_turn_262 ml_L_58 ms_L_up (c_L_up (xl X) (gD G) (gad G) (gca G) (v0 := v2) (v1 := 4) hσ r2 (zR_of (x := 4) rfl) h) rfl rfl rfl rfl rfl (fun z77 σ78 rz77 hσ78 h => ?_)
    obtain ⟨ez77, h⟩ := h; subst ez77
    refine j_iconst C d_L_turn_265 ?_
    refine j_iload_n C d_L_turn_266 5 rfl rfl ?_
    refine j_iload_n C d_L_turn_267 5 rfl rfl ?_
    refine j_bipush C d_L_turn_268 rfl ?_
    refine j_iand C d_L_turn_270 ?_
    refine j_if_ne (tgt := 279) C d_L_turn_271 rfl (zAnd_rg _ _) (fun c => ?_) (fun c => ?_)
    · have h := h.1 c
      refine j_sipush C d_L_turn_279 rfl ?_
      refine j_sub (L' := []) [] rfl ?_
      refine w_L_turn_b282 C σ z77 1 v3 1000 hσ rz77 (zR_of (x := 1) rfl) r3 (zR_of (x := 1000) rfl) h
    · have h := h.2 c
      refine j_bipush C d_L_turn_274 rfl ?_
      refine j_goto (tgt := 282) C d_L_turn_276 rfl ?_
      refine j_sub (L' := []) [] rfl ?_
      refine w_L_turn_b282 C σ z77 1 v3 90 hσ rz77 (zR_of (x := 1) rfl) r3 (zR_of (x := 90) rfl) h
  · have h := h.2.2.2.2.2.2.2.2.2.2.2.2.1 c
    refine j_tableIn (tgt := 259) C d_L_turn_30 r1 12 c rfl rfl rfl ?_
    refine j_aload_n C d_L_turn_259 2 rfl rfl ?_
    refine j_iload_n C d_L_turn_260 4 rfl rfl ?_
    refine j_iconst C d_L_turn_261 ?_
    refine j_callS C d_L_turn_262 ml_L_58 ms_L_up (c_L_up (xl X) (gD G) (gad G) (gca G) (v0 := v2) (v1 := 4) hσ r2 (zR_of (x := 4) rfl) h) rfl rfl rfl rfl rfl (fun z84 σ85 rz84 hσ85 h => ?_)
    obtain ⟨ez84, h⟩ := h; subst ez84
    refine j_iconst C d_L_turn_265 ?_
    refine j_iload_n C d_L_turn_266 5 rfl rfl ?_
    refine j_iload_n C d_L_turn_267 5 rfl rfl ?_
    refine j_bipush C d_L_turn_268 rfl ?_
    refine j_iand C d_L_turn_270 ?_
    refine j_if_ne (tgt := 279) C d_L_turn_271 rfl (zAnd_rg _ _) (fun c => ?_) (fun c => ?_)
    · have h := h.1 c
      refine j_sipush C d_L_turn_279 rfl ?_
      refine j_sub (L' := []) [] rfl ?_
      refine w_L_turn_b282 C σ z84 1 v3 1000 hσ rz84 (zR_of (x := 1) rfl) r3 (zR_of (x := 1000) rfl) h
    · have h := h.2 c
      refine j_bipush C d_L_turn_274 rfl ?_
      refine j_goto (tgt := 282) C d_L_turn_276 rfl ?_
      refine j_sub (L' := []) [] rfl ?_
      refine w_L_turn_b282 C σ z84 1 v3 90 hσ rz84 (zR_of (x := 1) rfl) r3 (zR_of (x := 90) rfl) h
  · have h := h.2.2.2.2.2.2.2.2.2.2.2.2.2.1 c
    refine j_tableIn (tgt := 290) C d_L_turn_30 r1 13 c rfl rfl rfl ?_
    refine j_aload_n C d_L_turn_290 2 rfl rfl ?_
    refine j_iload_n C d_L_turn_291 4 rfl rfl ?_
    refine j_iconst C d_L_turn_292 ?_
    refine j_callS C d_L_turn_293 ml_L_58 ms_L_up (c_L_up (xl X) (gD G) (gad G) (gca G) (v0 := v2) (v1 := 4) hσ r2 (zR_of (x := 4) rfl) h) rfl rfl rfl rfl rfl (fun z86 σ87 rz86 hσ87 h => ?_)
    obtain ⟨ez86, h⟩ := h; subst ez86
    refine j_iload_n C d_L_turn_296 5 rfl rfl ?_
    refine j_iconst C d_L_turn_297 ?_
    refine j_callS C d_L_turn_298 ml_L_58 ms_L_up (c_L_up (xl X) (gD G) (gad G) (gca G) (v0 := v3) (v1 := 2) hσ r3 (zR_of (x := 2) rfl) h) rfl rfl rfl rfl rfl (fun z88 σ89 rz88 hσ89 h => ?_)
    obtain ⟨ez88, h⟩ := h; subst ez88
    refine j_aload_n C d_L_turn_301 2 rfl rfl ?_
    refine j_iload_n C d_L_turn_302 4 rfl rfl ?_
    refine j_iconst C d_L_turn_303 ?_
    refine j_callS C d_L_turn_304 ml_L_58 ms_L_up (c_L_up (xl X) (gD G) (gad G) (gca G) (v0 := v2) (v1 := 4) hσ r2 (zR_of (x := 4) rfl) h) rfl rfl rfl rfl rfl (fun z90 σ91 rz90 hσ91 h => ?_)
    obtain ⟨ez90, h⟩ := h; subst ez90
    refine j_callV C d_L_turn_307 ml_L_66 mi_X_canStay (c_X_canStay (xl X) (gD G) (gad G) (gca G) (v1 := z90) hσ rz90 h) sh_54 rfl rfl rfl rfl rfl rfl rfl (fun z92 σ93 rz92 hσ93 h => ?_)
    obtain ⟨ez92, h⟩ := h; subst ez92
    refine j_iadd C d_L_turn_310 ?_
    obtain ⟨g94, h⟩ := h
    refine j_callV C d_L_turn_311 ml_L_55 mi_X_stay (c_X_stay (xl X) (gD G) (gad G) (gca G) (v1 := z86) (v2 := z88 + z92) hσ rz86 g94 h) sh_54 rfl rfl rfl rfl rfl rfl rfl (fun z95 σ96 rz95 hσ96 h => ?_)
    exact j_ireturn C d_L_turn_314 rz95 hσ96 h
  · have h := h.2.2.2.2.2.2.2.2.2.2.2.2.2.2 c
    refine j_tableOut (tgt := 315) C d_L_turn_30 r1 c rfl ?_
    refine j_aload_n C d_L_turn_315 2 rfl rfl ?_
    refine j_iload_n C d_L_turn_316 4 rfl rfl ?_
    refine j_iload_n C d_L_turn_317 5 rfl rfl ?_
    refine j_callS C d_L_turn_318 ml_L_69 ms_L_any (c_L_any (xl X) (gD G) (gad G) (gca G) (v1 := v2) (v2 := v3) hσ r2 r3 h) rfl rfl rfl rfl rfl (fun z97 σ98 rz97 hσ98 h => ?_)
    exact j_ireturn C d_L_turn_321 rz97 hσ98 h
set_option maxRecDepth 100000 in
set_option maxHeartbeats 4000000 in
theorem w_L_areRight_b122 {X : zX} {G : zG} (C : zC X G b_L_areRight "GateRoadsLaw" 6 (some .boolean) 6 147) {Q : Int → zM → Prop} {k6 : zM → Int → Int → Int → Prop} (hk6 : ∀ (σ : zM) (v1 : Int) (v2 : Int) (v3 : Int), zRM σ → zR v1 → zR v2 → zR v3 → k6 σ v1 v2 v3 → zJ X G (zQi X G Q) 6 6 [(0, .ref (gad G 54)), (1, .int (zI v1)), (2, .int (zI v2)), (3, .int (zI v3))] [] σ) (σ : zM) (v1 : Int) (v3 : Int) (s0 : Int) (hσ : zRM σ) (r1 : zR v1) (r3 : zR v3) (rs0 : zR s0) (h : wp_L_areRight_b122 k6 Q σ v1 v3 s0) : zJ X G (zQi X G Q) 6 122 [(0, .ref (gad G 54)), (1, .int (zI v1)), (3, .int (zI v3))] [.int (zI s0)] σ := by
  unfold wp_L_areRight_b122 at h
  refine j_istore_n (L' := [(2, .int (zI s0)), (0, .ref (gad G 54)), (1, .int (zI v1)), (3, .int (zI v3))]) C d_L_areRight_122 rfl rfl rfl ?_
  refine j_iload_n C d_L_areRight_123 2 rfl rfl ?_
  refine j_aload_n C d_L_areRight_124 1 rfl rfl ?_
  refine j_iload_n C d_L_areRight_125 3 rfl rfl ?_
  refine j_iconst C d_L_areRight_126 ?_
  refine j_callV C d_L_areRight_127 ml_L_29 mi_X_ofTraveller (c_X_ofTraveller (xl X) (gD G) (gad G) (gca G) (v1 := v3) (v2 := 3) hσ r3 (zR_of (x := 3) rfl) h) sh_54 rfl rfl rfl rfl rfl rfl rfl (fun z14 σ15 rz14 hσ15 h => ?_)
  obtain ⟨ez14, h⟩ := h; subst ez14
  refine j_iadd C d_L_areRight_130 ?_
  obtain ⟨g16, h⟩ := h
  refine j_istore_n (L' := [(1, .int (zI (v1 + z14))), (2, .int (zI s0)), (0, .ref (gad G 54)), (3, .int (zI v3))]) C d_L_areRight_131 rfl rfl rfl ?_
  obtain ⟨g17, h⟩ := h
  refine j_iinc (L' := [(3, .int (zI (v3 + 1))), (1, .int (zI (v1 + z14))), (2, .int (zI s0)), (0, .ref (gad G 54))]) C d_L_areRight_132 3 rfl rfl rfl ?_
  refine j_goto (tgt := 6) C d_L_areRight_135 rfl ?_
  refine j_sub (L' := [(0, .ref (gad G 54)), (1, .int (zI (v1 + z14))), (2, .int (zI s0)), (3, .int (zI (v3 + 1)))]) [3, 1, 2, 0] rfl ?_
  exact hk6 σ (v1 + z14) s0 (v3 + 1) hσ g16 rs0 g17 h
set_option maxRecDepth 100000 in
set_option maxHeartbeats 4000000 in
theorem w_L_areRight_b121 {X : zX} {G : zG} (C : zC X G b_L_areRight "GateRoadsLaw" 6 (some .boolean) 6 147) {Q : Int → zM → Prop} {k6 : zM → Int → Int → Int → Prop} (hk6 : ∀ (σ : zM) (v1 : Int) (v2 : Int) (v3 : Int), zRM σ → zR v1 → zR v2 → zR v3 → k6 σ v1 v2 v3 → zJ X G (zQi X G Q) 6 6 [(0, .ref (gad G 54)), (1, .int (zI v1)), (2, .int (zI v2)), (3, .int (zI v3))] [] σ) (σ : zM) (v1 : Int) (v3 : Int) (hσ : zRM σ) (r1 : zR v1) (r3 : zR v3) (h : wp_L_areRight_b121 k6 Q σ v1 v3) : zJ X G (zQi X G Q) 6 121 [(0, .ref (gad G 54)), (1, .int (zI v1)), (3, .int (zI v3))] [] σ := by
  unfold wp_L_areRight_b121 at h
  refine j_iconst C d_L_areRight_121 ?_
  refine w_L_areRight_b122 C hk6 σ v1 v3 0 hσ r1 r3 (zR_of (x := 0) rfl) h
set_option maxRecDepth 100000 in
set_option maxHeartbeats 4000000 in
theorem w_L_areRight_b85 {X : zX} {G : zG} (C : zC X G b_L_areRight "GateRoadsLaw" 6 (some .boolean) 6 147) {Q : Int → zM → Prop} {k6 : zM → Int → Int → Int → Prop} (hk6 : ∀ (σ : zM) (v1 : Int) (v2 : Int) (v3 : Int), zRM σ → zR v1 → zR v2 → zR v3 → k6 σ v1 v2 v3 → zJ X G (zQi X G Q) 6 6 [(0, .ref (gad G 54)), (1, .int (zI v1)), (2, .int (zI v2)), (3, .int (zI v3))] [] σ) (σ : zM) (v1 : Int) (v3 : Int) (v4 : Int) (v5 : Int) (s0 : Int) (hσ : zRM σ) (r1 : zR v1) (r3 : zR v3) (r4 : zR v4) (r5 : zR v5) (rs0 : zR s0) (h : wp_L_areRight_b85 k6 Q σ v1 v3 v4 v5 s0) : zJ X G (zQi X G Q) 6 85 [(0, .ref (gad G 54)), (1, .int (zI v1)), (3, .int (zI v3)), (4, .int (zI v4)), (5, .int (zI v5))] [.int (zI s0)] σ := by
  unfold wp_L_areRight_b85 at h
  refine j_istore_n (L' := [(2, .int (zI s0)), (0, .ref (gad G 54)), (1, .int (zI v1)), (3, .int (zI v3)), (4, .int (zI v4)), (5, .int (zI v5))]) C d_L_areRight_85 rfl rfl rfl ?_
  refine j_iload_n C d_L_areRight_86 0 rfl rfl ?_
  refine j_if_eq (tgt := 121) C d_L_areRight_87 rfl rs0 (fun c => ?_) (fun c => ?_)
  · have h := h.1 c
    refine j_sub (L' := [(0, .ref (gad G 54)), (1, .int (zI v1)), (3, .int (zI v3))]) [1, 2, 3] rfl ?_
    refine w_L_areRight_b121 C hk6 σ v1 v3 hσ r1 r3 h
  · have h := h.2 c
    refine j_aload_n C d_L_areRight_90 1 rfl rfl ?_
    refine j_iload C d_L_areRight_91 5 rfl ?_
    refine j_iconst C d_L_areRight_93 ?_
    refine j_callV C d_L_areRight_94 ml_L_19 mi_X_ofPlace (c_X_ofPlace (xl X) (gD G) (gad G) (gca G) (v1 := v5) (v2 := 5) hσ r5 (zR_of (x := 5) rfl) h) sh_54 rfl rfl rfl rfl rfl rfl rfl (fun z18 σ19 rz18 hσ19 h => ?_)
    obtain ⟨ez18, h⟩ := h; subst ez18
    refine j_iload_n C d_L_areRight_97 3 rfl rfl ?_
    refine j_ishr C d_L_areRight_98 ?_
    refine j_iconst C d_L_areRight_99 ?_
    refine j_iand C d_L_areRight_100 ?_
    refine j_iconst C d_L_areRight_101 ?_
    refine j_icmp_ne (tgt := 121) C d_L_areRight_102 rfl (zAnd_rg _ _) (zR_of (x := 1) rfl) (fun c => ?_) (fun c => ?_)
    · have h := h.1 c
      refine j_sub (L' := [(0, .ref (gad G 54)), (1, .int (zI v1)), (3, .int (zI v3))]) [1, 2, 3] rfl ?_
      refine w_L_areRight_b121 C hk6 σ v1 v3 hσ r1 r3 h
    · have h := h.2 c
      refine j_aload_n C d_L_areRight_105 1 rfl rfl ?_
      refine j_iload_n C d_L_areRight_106 3 rfl rfl ?_
      refine j_iload C d_L_areRight_107 5 rfl ?_
      refine j_callV C d_L_areRight_109 ml_L_73 mi_X_arrives (c_X_arrives (xl X) (gD G) (gad G) (gca G) (v1 := v3) (v2 := v5) hσ r3 r5 h) sh_54 rfl rfl rfl rfl rfl rfl rfl (fun z20 σ21 rz20 hσ21 h => ?_)
      refine j_iload C d_L_areRight_112 4 rfl ?_
      refine j_icmp_ne (tgt := 121) C d_L_areRight_114 rfl rz20 r4 (fun c => ?_) (fun c => ?_)
      · have h := h.1 c
        refine j_sub (L' := [(0, .ref (gad G 54)), (1, .int (zI v1)), (3, .int (zI v3))]) [1, 2, 3] rfl ?_
        refine w_L_areRight_b121 C hk6 σ21 v1 v3 hσ21 r1 r3 h
      · have h := h.2 c
        refine j_iconst C d_L_areRight_117 ?_
        refine j_goto (tgt := 122) C d_L_areRight_118 rfl ?_
        refine j_sub (L' := [(0, .ref (gad G 54)), (1, .int (zI v1)), (3, .int (zI v3))]) [1, 2, 3] rfl ?_
        refine w_L_areRight_b122 C hk6 σ21 v1 v3 1 hσ21 r1 r3 (zR_of (x := 1) rfl) h
set_option maxRecDepth 100000 in
set_option maxHeartbeats 4000000 in
theorem w_L_areRight_b84 {X : zX} {G : zG} (C : zC X G b_L_areRight "GateRoadsLaw" 6 (some .boolean) 6 147) {Q : Int → zM → Prop} {k6 : zM → Int → Int → Int → Prop} (hk6 : ∀ (σ : zM) (v1 : Int) (v2 : Int) (v3 : Int), zRM σ → zR v1 → zR v2 → zR v3 → k6 σ v1 v2 v3 → zJ X G (zQi X G Q) 6 6 [(0, .ref (gad G 54)), (1, .int (zI v1)), (2, .int (zI v2)), (3, .int (zI v3))] [] σ) (σ : zM) (v1 : Int) (v3 : Int) (v4 : Int) (v5 : Int) (hσ : zRM σ) (r1 : zR v1) (r3 : zR v3) (r4 : zR v4) (r5 : zR v5) (h : wp_L_areRight_b84 k6 Q σ v1 v3 v4 v5) : zJ X G (zQi X G Q) 6 84 [(0, .ref (gad G 54)), (1, .int (zI v1)), (3, .int (zI v3)), (4, .int (zI v4)), (5, .int (zI v5))] [] σ := by
  unfold wp_L_areRight_b84 at h
  refine j_iconst C d_L_areRight_84 ?_
  refine w_L_areRight_b85 C hk6 σ v1 v3 v4 v5 0 hσ r1 r3 r4 r5 (zR_of (x := 0) rfl) h
set_option maxRecDepth 100000 in
set_option maxHeartbeats 4000000 in
theorem w_L_areRight_L6 {X : zX} {G : zG} (C : zC X G b_L_areRight "GateRoadsLaw" 6 (some .boolean) 6 147) {Q : Int → zM → Prop} {k138 : zM → Int → Int → Prop} (hk138 : ∀ (σ : zM) (v1 : Int) (v2 : Int), zRM σ → zR v1 → zR v2 → k138 σ v1 v2 → zJ X G (zQi X G Q) 6 138 [(0, .ref (gad G 54)), (1, .int (zI v1)), (2, .int (zI v2))] [] σ) : ∀ (n : Nat) (σ : zM) (v1 : Int) (v2 : Int) (v3 : Int) (hσ : zRM σ) (r1 : zR v1) (r2 : zR v2) (r3 : zR v3), wp_L_areRight_L6 k138 Q n σ v1 v2 v3 → zJ X G (zQi X G Q) 6 6 [(0, .ref (gad G 54)), (1, .int (zI v1)), (2, .int (zI v2)), (3, .int (zI v3))] [] σ := by
  intro n
  induction n with
  | zero => intro σ v1 v2 v3 hσ r1 r2 r3 h; exact False.elim h
  | succ n ih =>
    intro σ v1 v2 v3 hσ r1 r2 r3 h
    rw [wp_L_areRight_L6] at h
    refine j_iload_n C d_L_areRight_6 3 rfl rfl ?_
    refine j_aload_n C d_L_areRight_7 0 rfl rfl ?_
    refine j_iconst C d_L_areRight_8 ?_
    refine j_callV C d_L_areRight_9 ml_L_13 mi_X_count (c_X_count (xl X) (gD G) (gad G) (gca G) (v1 := 2) hσ (zR_of (x := 2) rfl) h) sh_54 rfl rfl rfl rfl rfl rfl rfl (fun z1 σ2 rz1 hσ2 h => ?_)
    obtain ⟨ez1, h⟩ := h; subst ez1
    refine j_icmp_ge (tgt := 138) C d_L_areRight_12 rfl r3 rz1 (fun c => ?_) (fun c => ?_)
    · have h := h.1 c
      refine j_sub (L' := [(0, .ref (gad G 54)), (1, .int (zI v1)), (2, .int (zI v2))]) [0, 1, 2] rfl ?_
      exact hk138 σ v1 v2 hσ r1 r2 h
    · have h := h.2 c
      refine j_iload_n C d_L_areRight_15 2 rfl rfl ?_
      refine j_if_eq (tgt := 138) C d_L_areRight_16 rfl r2 (fun c => ?_) (fun c => ?_)
      · have h := h.1 c
        refine j_sub (L' := [(0, .ref (gad G 54)), (1, .int (zI v1)), (2, .int (zI v2))]) [0, 1, 2] rfl ?_
        exact hk138 σ v1 v2 hσ r1 r2 h
      · have h := h.2 c
        refine j_aload_n C d_L_areRight_19 0 rfl rfl ?_
        refine j_iload_n C d_L_areRight_20 3 rfl rfl ?_
        refine j_iconst C d_L_areRight_21 ?_
        refine j_callV C d_L_areRight_22 ml_L_29 mi_X_ofTraveller (c_X_ofTraveller (xl X) (gD G) (gad G) (gca G) (v1 := v3) (v2 := 1) hσ r3 (zR_of (x := 1) rfl) h) sh_54 rfl rfl rfl rfl rfl rfl rfl (fun z3 σ4 rz3 hσ4 h => ?_)
        obtain ⟨ez3, h⟩ := h; subst ez3
        refine j_istore (L' := [(4, .int (zI z3)), (0, .ref (gad G 54)), (1, .int (zI v1)), (2, .int (zI v2)), (3, .int (zI v3))]) C d_L_areRight_25 rfl rfl ?_
        refine j_aload_n C d_L_areRight_27 1 rfl rfl ?_
        refine j_iload_n C d_L_areRight_28 4 rfl rfl ?_
        refine j_iconst C d_L_areRight_29 ?_
        refine j_callV C d_L_areRight_30 ml_L_29 mi_X_ofTraveller (c_X_ofTraveller (xl X) (gD G) (gad G) (gca G) (v1 := v3) (v2 := 0) hσ r3 (zR_of (x := 0) rfl) h) sh_54 rfl rfl rfl rfl rfl rfl rfl (fun z5 σ6 rz5 hσ6 h => ?_)
        obtain ⟨ez5, h⟩ := h; subst ez5
        refine j_istore (L' := [(5, .int (zI z5)), (4, .int (zI z3)), (0, .ref (gad G 54)), (1, .int (zI v1)), (2, .int (zI v2)), (3, .int (zI v3))]) C d_L_areRight_33 rfl rfl ?_
        refine j_iload C d_L_areRight_35 1 rfl ?_
        refine j_aload_n C d_L_areRight_37 2 rfl rfl ?_
        refine j_iload_n C d_L_areRight_38 5 rfl rfl ?_
        refine j_bipush C d_L_areRight_39 rfl ?_
        refine j_callV C d_L_areRight_41 ml_L_29 mi_X_ofTraveller (c_X_ofTraveller (xl X) (gD G) (gad G) (gca G) (v1 := v3) (v2 := 7) hσ r3 (zR_of (x := 7) rfl) h) sh_54 rfl rfl rfl rfl rfl rfl rfl (fun z7 σ8 rz7 hσ8 h => ?_)
        obtain ⟨ez7, h⟩ := h; subst ez7
        refine j_aload_n C d_L_areRight_44 2 rfl rfl ?_
        refine j_iload_n C d_L_areRight_45 5 rfl rfl ?_
        refine j_iconst C d_L_areRight_46 ?_
        refine j_callV C d_L_areRight_47 ml_L_29 mi_X_ofTraveller (c_X_ofTraveller (xl X) (gD G) (gad G) (gca G) (v1 := v3) (v2 := 4) hσ r3 (zR_of (x := 4) rfl) h) sh_54 rfl rfl rfl rfl rfl rfl rfl (fun z9 σ10 rz9 hσ10 h => ?_)
        obtain ⟨ez9, h⟩ := h; subst ez9
        refine j_iadd C d_L_areRight_50 ?_
        refine j_aload_n C d_L_areRight_51 2 rfl rfl ?_
        refine j_iload_n C d_L_areRight_52 5 rfl rfl ?_
        refine j_iconst C d_L_areRight_53 ?_
        refine j_callV C d_L_areRight_54 ml_L_29 mi_X_ofTraveller (c_X_ofTraveller (xl X) (gD G) (gad G) (gca G) (v1 := v3) (v2 := 5) hσ r3 (zR_of (x := 5) rfl) h) sh_54 rfl rfl rfl rfl rfl rfl rfl (fun z11 σ12 rz11 hσ12 h => ?_)
        obtain ⟨ez11, h⟩ := h; subst ez11
        refine j_iadd C d_L_areRight_57 ?_
        obtain ⟨g13, h⟩ := h
        refine j_icmp_ne (tgt := 84) C d_L_areRight_58 rfl rz3 g13 (fun c => ?_) (fun c => ?_)
        · have h := h.1 c
          refine j_sub (L' := [(0, .ref (gad G 54)), (1, .int (zI v1)), (3, .int (zI v3)), (4, .int (zI z3)), (5, .int (zI z5))]) [2, 3, 5, 1, 0] rfl ?_
          refine w_L_areRight_b84 C ih σ v1 v3 z3 z5 hσ r1 r3 rz3 rz5 h
        · have h := h.2 c
          refine j_aload_n C d_L_areRight_61 2 rfl rfl ?_
          refine j_iload_n C d_L_areRight_62 5 rfl rfl ?_
          refine j_iconst C d_L_areRight_63 ?_
          refine j_callV C d_L_areRight_64 ml_L_29 mi_X_ofTraveller (c_X_ofTraveller (xl X) (gD G) (gad G) (gca G) (v1 := v3) (v2 := 2) hσ r3 (zR_of (x := 2) rfl) h) sh_54 rfl rfl rfl rfl rfl rfl rfl (fun z22 σ23 rz22 hσ23 h => ?_)
          obtain ⟨ez22, h⟩ := h; subst ez22
          refine j_iload C d_L_areRight_67 1 rfl ?_
          refine j_icmp_gt (tgt := 84) C d_L_areRight_69 rfl rz22 rz3 (fun c => ?_) (fun c => ?_)
          · have h := h.1 c
            refine j_sub (L' := [(0, .ref (gad G 54)), (1, .int (zI v1)), (3, .int (zI v3)), (4, .int (zI z3)), (5, .int (zI z5))]) [2, 3, 5, 1, 0] rfl ?_
            refine w_L_areRight_b84 C ih σ v1 v3 z3 z5 hσ r1 r3 rz3 rz5 h
          · have h := h.2 c
            refine j_iload C d_L_areRight_72 1 rfl ?_
            refine j_sipush C d_L_areRight_74 rfl ?_
            refine j_icmp_gt (tgt := 84) C d_L_areRight_77 rfl rz3 (zR_of (x := 2880) rfl) (fun c => ?_) (fun c => ?_)
            · have h := h.1 c
              refine j_sub (L' := [(0, .ref (gad G 54)), (1, .int (zI v1)), (3, .int (zI v3)), (4, .int (zI z3)), (5, .int (zI z5))]) [2, 3, 5, 1, 0] rfl ?_
              refine w_L_areRight_b84 C ih σ v1 v3 z3 z5 hσ r1 r3 rz3 rz5 h
            · have h := h.2 c
              refine j_iconst C d_L_areRight_80 ?_
              refine j_goto (tgt := 85) C d_L_areRight_81 rfl ?_
              refine j_sub (L' := [(0, .ref (gad G 54)), (1, .int (zI v1)), (3, .int (zI v3)), (4, .int (zI z3)), (5, .int (zI z5))]) [2, 3, 5, 1, 0] rfl ?_
              refine w_L_areRight_b85 C ih σ v1 v3 z3 z5 1 hσ r1 r3 rz3 rz5 (zR_of (x := 1) rfl) h
set_option maxRecDepth 100000 in
set_option maxHeartbeats 4000000 in
theorem w_L_areRight_L140 {X : zX} {G : zG} (C : zC X G b_L_areRight "GateRoadsLaw" 6 (some .boolean) 6 147) {σ : zM} {v2 : Int} (hσ : zRM σ) (r2 : zR v2) {Q : Int → zM → Prop} {k165 : Int → Prop} (hk165 : ∀ (v1 : Int), zR v1 → k165 v1 → zJ X G (zQi X G Q) 6 165 [(1, .int (zI v1)), (2, .int (zI v2))] [] σ) : ∀ (n : Nat) (v1 : Int) (v3 : Int) (r1 : zR v1) (r3 : zR v3), wp_L_areRight_L140 σ v2 k165 Q n v1 v3 → zJ X G (zQi X G Q) 6 140 [(0, .ref (gad G 54)), (1, .int (zI v1)), (2, .int (zI v2)), (3, .int (zI v3))] [] σ := by
  intro n
  induction n with
  | zero => intro v1 v3 r1 r3 h; exact False.elim h
  | succ n ih =>
    intro v1 v3 r1 r3 h
    rw [wp_L_areRight_L140] at h
    refine j_iload_n C d_L_areRight_140 3 rfl rfl ?_
    refine j_aload_n C d_L_areRight_141 0 rfl rfl ?_
    refine j_iconst C d_L_areRight_142 ?_
    refine j_callV C d_L_areRight_143 ml_L_13 mi_X_count (c_X_count (xl X) (gD G) (gad G) (gca G) (v1 := 0) hσ (zR_of (x := 0) rfl) h) sh_54 rfl rfl rfl rfl rfl rfl rfl (fun z27 σ28 rz27 hσ28 h => ?_)
    obtain ⟨ez27, h⟩ := h; subst ez27
    refine j_icmp_ge (tgt := 165) C d_L_areRight_146 rfl r3 rz27 (fun c => ?_) (fun c => ?_)
    · have h := h.1 c
      refine j_sub (L' := [(1, .int (zI v1)), (2, .int (zI v2))]) [1, 2] rfl ?_
      exact hk165 v1 r1 h
    · have h := h.2 c
      refine j_iload_n C d_L_areRight_149 1 rfl rfl ?_
      refine j_aload_n C d_L_areRight_150 0 rfl rfl ?_
      refine j_iload_n C d_L_areRight_151 3 rfl rfl ?_
      refine j_bipush C d_L_areRight_152 rfl ?_
      refine j_callV C d_L_areRight_154 ml_L_23 mi_X_ofRoad (c_X_ofRoad (xl X) (gD G) (gad G) (gca G) (v1 := v3) (v2 := 12) hσ r3 (zR_of (x := 12) rfl) h) sh_54 rfl rfl rfl rfl rfl rfl rfl (fun z29 σ30 rz29 hσ30 h => ?_)
      obtain ⟨ez29, h⟩ := h; subst ez29
      refine j_isub C d_L_areRight_157 ?_
      obtain ⟨g31, h⟩ := h
      refine j_istore_n (L' := [(1, .int (zI (v1 - z29))), (0, .ref (gad G 54)), (2, .int (zI v2)), (3, .int (zI v3))]) C d_L_areRight_158 rfl rfl rfl ?_
      obtain ⟨g32, h⟩ := h
      refine j_iinc (L' := [(3, .int (zI (v3 + 1))), (1, .int (zI (v1 - z29))), (0, .ref (gad G 54)), (2, .int (zI v2))]) C d_L_areRight_159 3 rfl rfl rfl ?_
      refine j_goto (tgt := 140) C d_L_areRight_162 rfl ?_
      refine j_sub (L' := [(0, .ref (gad G 54)), (1, .int (zI (v1 - z29))), (2, .int (zI v2)), (3, .int (zI (v3 + 1)))]) [2, 1, 3, 0] rfl ?_
      exact ih (v1 - z29) (v3 + 1) g31 g32 h
set_option maxRecDepth 100000 in
set_option maxHeartbeats 4000000 in
theorem w_L_areRight_b138 {X : zX} {G : zG} (C : zC X G b_L_areRight "GateRoadsLaw" 6 (some .boolean) 6 147) {Q : Int → zM → Prop} (σ : zM) (v1 : Int) (v2 : Int) (hσ : zRM σ) (r1 : zR v1) (r2 : zR v2) (h : wp_L_areRight_b138 Q σ v1 v2) : zJ X G (zQi X G Q) 6 138 [(0, .ref (gad G 54)), (1, .int (zI v1)), (2, .int (zI v2))] [] σ := by
  unfold wp_L_areRight_b138 at h
  refine j_iconst C d_L_areRight_138 ?_
  refine j_istore_n (L' := [(3, .int (zI 0)), (0, .ref (gad G 54)), (1, .int (zI v1)), (2, .int (zI v2))]) C d_L_areRight_139 rfl rfl rfl ?_
  obtain ⟨n34, h⟩ := h
  refine j_sub (L' := [(0, .ref (gad G 54)), (1, .int (zI v1)), (2, .int (zI v2)), (3, .int (zI 0))]) [1, 2, 3, 0] rfl ?_
  refine w_L_areRight_L140 C hσ r2 ?_ n34 v1 0 r1 (zR_of (x := 0) rfl) h
  · intro u33 ru33 h
    refine j_iload_n C d_L_areRight_165 1 rfl rfl ?_
    refine j_if_eq (tgt := 177) C d_L_areRight_166 rfl r2 (fun c => ?_) (fun c => ?_)
    · have h := h.1 c
      refine j_iconst C d_L_areRight_177 ?_
      exact j_zreturn C d_L_areRight_178 (by decide) hσ h
    · have h := h.2 c
      refine j_iload_n C d_L_areRight_169 0 rfl rfl ?_
      refine j_if_ne (tgt := 177) C d_L_areRight_170 rfl ru33 (fun c => ?_) (fun c => ?_)
      · have h := h.1 c
        refine j_iconst C d_L_areRight_177 ?_
        exact j_zreturn C d_L_areRight_178 (by decide) hσ h
      · have h := h.2 c
        refine j_iconst C d_L_areRight_173 ?_
        refine j_goto (tgt := 178) C d_L_areRight_174 rfl ?_
        exact j_zreturn C d_L_areRight_178 (by decide) hσ h
set_option maxRecDepth 100000 in
set_option maxHeartbeats 4000000 in
theorem c_L_areRight (l : Launch) (D : va_G) (ad : Nat → Nat) (ca : Nat → ClassId) {σ : zM} {Q : Int → zM → Prop} (hσ : zRM σ) (h : wp_L_areRight σ Q) : zCi l D ad ca y_L_areRight b_L_areRight 6 (some .boolean) (zrm 6 147) [.ref (ad 54)] σ Q := by
  refine zCi_of (by decide +kernel) (Nat.le_of_ble_eq_true rfl) ?_
  intro X G C hl hD had hca
  subst hl hD had hca
  have C : zC X G b_L_areRight "GateRoadsLaw" 6 (some .boolean) 6 147 := C
  show zJ X G (zQi X G Q) 6 0 [(0, .ref (gad G 54))] [] σ
  unfold wp_L_areRight at h
  refine j_iconst C d_L_areRight_0 ?_
  refine j_istore_n (L' := [(1, .int (zI 0)), (0, .ref (gad G 54))]) C d_L_areRight_1 rfl rfl rfl ?_
  refine j_iconst C d_L_areRight_2 ?_
  refine j_istore_n (L' := [(2, .int (zI 1)), (1, .int (zI 0)), (0, .ref (gad G 54))]) C d_L_areRight_3 rfl rfl rfl ?_
  refine j_iconst C d_L_areRight_4 ?_
  refine j_istore_n (L' := [(3, .int (zI 0)), (2, .int (zI 1)), (1, .int (zI 0)), (0, .ref (gad G 54))]) C d_L_areRight_5 rfl rfl rfl ?_
  obtain ⟨n35, h⟩ := h
  refine j_sub (L' := [(0, .ref (gad G 54)), (1, .int (zI 0)), (2, .int (zI 1)), (3, .int (zI 0))]) [3, 2, 1, 0] rfl ?_
  refine w_L_areRight_L6 C ?_ n35 σ 0 1 0 hσ (zR_of (x := 0) rfl) (zR_of (x := 1) rfl) (zR_of (x := 0) rfl) h
  · intro σ24 u25 u26 hσ24 ru25 ru26 h
    refine w_L_areRight_b138 C σ24 u25 u26 hσ24 ru25 ru26 h
set_option maxRecDepth 100000 in
set_option maxHeartbeats 4000000 in
theorem w_L_isDue_b174 {X : zX} {G : zG} (C : zC X G b_L_isDue "GateRoadsLaw" 8 (some .boolean) 5 116) {Q : Int → zM → Prop} (σ : zM) (v1 : Int) (v3 : Int) (s0 : Int) (hσ : zRM σ) (r1 : zR v1) (r3 : zR v3) (rs0 : zR s0) (h : wp_L_isDue_b174 Q σ v1 v3 s0) : zJ X G (zQi X G Q) 8 174 [(0, .ref (gad G 54)), (1, .int (zI v1)), (3, .int (zI v3))] [.int (zI s0)] σ := by
  unfold wp_L_isDue_b174 at h
  refine j_istore (L' := [(7, .int (zI s0)), (0, .ref (gad G 54)), (1, .int (zI v1)), (3, .int (zI v3))]) C d_L_isDue_174 rfl rfl ?_
  refine j_aload_n C d_L_isDue_176 1 rfl rfl ?_
  refine j_iload_n C d_L_isDue_177 2 rfl rfl ?_
  refine j_iload_n C d_L_isDue_178 3 rfl rfl ?_
  refine j_callV C d_L_isDue_179 ml_L_55 mi_X_stay (c_X_stay (xl X) (gD G) (gad G) (gca G) (v1 := v1) (v2 := v3) hσ r1 r3 h) sh_54 rfl rfl rfl rfl rfl rfl rfl (fun z5 σ6 rz5 hσ6 h => ?_)
  refine j_iload C d_L_isDue_182 0 rfl ?_
  refine j_icmp_ne (tgt := 191) C d_L_isDue_184 rfl rz5 rs0 (fun c => ?_) (fun c => ?_)
  · have h := h.1 c
    refine j_iconst C d_L_isDue_191 ?_
    exact j_zreturn C d_L_isDue_192 (by decide) hσ6 h
  · have h := h.2 c
    refine j_iconst C d_L_isDue_187 ?_
    refine j_goto (tgt := 192) C d_L_isDue_188 rfl ?_
    exact j_zreturn C d_L_isDue_192 (by decide) hσ6 h
set_option maxRecDepth 100000 in
set_option maxHeartbeats 4000000 in
theorem w_L_isDue_b149 {X : zX} {G : zG} (C : zC X G b_L_isDue "GateRoadsLaw" 8 (some .boolean) 5 116) {Q : Int → zM → Prop} (σ : zM) (v1 : Int) (v3 : Int) (v4 : Int) (v5 : Int) (s0 : Int) (hσ : zRM σ) (r1 : zR v1) (r3 : zR v3) (r4 : zR v4) (r5 : zR v5) (rs0 : zR s0) (h : wp_L_isDue_b149 Q σ v1 v3 v4 v5 s0) : zJ X G (zQi X G Q) 8 149 [(0, .ref (gad G 54)), (1, .int (zI v1)), (3, .int (zI v3)), (4, .int (zI v4)), (5, .int (zI v5))] [.int (zI s0)] σ := by
  unfold wp_L_isDue_b149 at h
  refine j_istore (L' := [(6, .int (zI s0)), (0, .ref (gad G 54)), (1, .int (zI v1)), (3, .int (zI v3)), (4, .int (zI v4)), (5, .int (zI v5))]) C d_L_isDue_149 rfl rfl ?_
  refine j_iload C d_L_isDue_151 0 rfl ?_
  refine j_if_eq (tgt := 163) C d_L_isDue_153 rfl rs0 (fun c => ?_) (fun c => ?_)
  · have h := h.1 c
    refine j_iload C d_L_isDue_163 4 rfl ?_
    refine j_if_eq (tgt := 173) C d_L_isDue_165 rfl r4 (fun c => ?_) (fun c => ?_)
    · have h := h.1 c
      refine j_iconst C d_L_isDue_173 ?_
      refine j_sub (L' := [(0, .ref (gad G 54)), (1, .int (zI v1)), (3, .int (zI v3))]) [1, 2, 3] rfl ?_
      refine w_L_isDue_b174 C σ v1 v3 (-1) hσ r1 r3 (zR_of (x := (-1)) rfl) h
    · have h := h.2 c
      refine j_bipush C d_L_isDue_168 rfl ?_
      refine j_goto (tgt := 174) C d_L_isDue_170 rfl ?_
      refine j_sub (L' := [(0, .ref (gad G 54)), (1, .int (zI v1)), (3, .int (zI v3))]) [1, 2, 3] rfl ?_
      refine w_L_isDue_b174 C σ v1 v3 (-5) hσ r1 r3 (zR_of (x := (-5)) rfl) h
  · have h := h.2 c
    refine j_iload C d_L_isDue_156 5 rfl ?_
    refine j_iload_n C d_L_isDue_158 3 rfl rfl ?_
    refine j_iadd C d_L_isDue_159 ?_
    refine j_goto (tgt := 174) C d_L_isDue_160 rfl ?_
    obtain ⟨g7, h⟩ := h
    refine j_sub (L' := [(0, .ref (gad G 54)), (1, .int (zI v1)), (3, .int (zI v3))]) [1, 2, 3] rfl ?_
    refine w_L_isDue_b174 C σ v1 v3 (v5 + v3) hσ r1 r3 g7 h
set_option maxRecDepth 100000 in
set_option maxHeartbeats 4000000 in
theorem w_L_isDue_b148 {X : zX} {G : zG} (C : zC X G b_L_isDue "GateRoadsLaw" 8 (some .boolean) 5 116) {Q : Int → zM → Prop} (σ : zM) (v1 : Int) (v3 : Int) (v4 : Int) (v5 : Int) (hσ : zRM σ) (r1 : zR v1) (r3 : zR v3) (r4 : zR v4) (r5 : zR v5) (h : wp_L_isDue_b148 Q σ v1 v3 v4 v5) : zJ X G (zQi X G Q) 8 148 [(0, .ref (gad G 54)), (1, .int (zI v1)), (3, .int (zI v3)), (4, .int (zI v4)), (5, .int (zI v5))] [] σ := by
  unfold wp_L_isDue_b148 at h
  refine j_iconst C d_L_isDue_148 ?_
  refine w_L_isDue_b149 C σ v1 v3 v4 v5 0 hσ r1 r3 r4 r5 (zR_of (x := 0) rfl) h
set_option maxRecDepth 100000 in
set_option maxHeartbeats 4000000 in
theorem w_L_isDue_b111 {X : zX} {G : zG} (C : zC X G b_L_isDue "GateRoadsLaw" 8 (some .boolean) 5 116) {Q : Int → zM → Prop} (σ : zM) (v1 : Int) (v2 : Int) (s0 : Int) (hσ : zRM σ) (r1 : zR v1) (r2 : zR v2) (rs0 : zR s0) (h : wp_L_isDue_b111 Q σ v1 v2 s0) : zJ X G (zQi X G Q) 8 111 [(0, .ref (gad G 54)), (1, .int (zI v1)), (2, .int (zI v2))] [.int (zI s0)] σ := by
  unfold wp_L_isDue_b111 at h
  refine j_istore (L' := [(7, .int (zI s0)), (0, .ref (gad G 54)), (1, .int (zI v1)), (2, .int (zI v2))]) C d_L_isDue_111 rfl rfl ?_
  refine j_aload_n C d_L_isDue_113 1 rfl rfl ?_
  refine j_iload_n C d_L_isDue_114 2 rfl rfl ?_
  refine j_iload_n C d_L_isDue_115 3 rfl rfl ?_
  refine j_callV C d_L_isDue_116 ml_L_63 mi_X_go (c_X_go (xl X) (gD G) (gad G) (gca G) (v1 := v1) (v2 := v2) hσ r1 r2 h) sh_54 rfl rfl rfl rfl rfl rfl rfl (fun z10 σ11 rz10 hσ11 h => ?_)
  refine j_iload C d_L_isDue_119 0 rfl ?_
  refine j_icmp_ne (tgt := 128) C d_L_isDue_121 rfl rz10 rs0 (fun c => ?_) (fun c => ?_)
  · have h := h.1 c
    refine j_iconst C d_L_isDue_128 ?_
    exact j_zreturn C d_L_isDue_129 (by decide) hσ11 h
  · have h := h.2 c
    refine j_iconst C d_L_isDue_124 ?_
    refine j_goto (tgt := 129) C d_L_isDue_125 rfl ?_
    exact j_zreturn C d_L_isDue_129 (by decide) hσ11 h
set_option maxRecDepth 100000 in
set_option maxHeartbeats 4000000 in
theorem w_L_isDue_b110 {X : zX} {G : zG} (C : zC X G b_L_isDue "GateRoadsLaw" 8 (some .boolean) 5 116) {Q : Int → zM → Prop} (σ : zM) (v1 : Int) (v2 : Int) (hσ : zRM σ) (r1 : zR v1) (r2 : zR v2) (h : wp_L_isDue_b110 Q σ v1 v2) : zJ X G (zQi X G Q) 8 110 [(0, .ref (gad G 54)), (1, .int (zI v1)), (2, .int (zI v2))] [] σ := by
  unfold wp_L_isDue_b110 at h
  refine j_iconst C d_L_isDue_110 ?_
  refine w_L_isDue_b111 C σ v1 v2 (-1) hσ r1 r2 (zR_of (x := (-1)) rfl) h
set_option maxRecDepth 100000 in
set_option maxHeartbeats 4000000 in
theorem w_L_isDue_b72 {X : zX} {G : zG} (C : zC X G b_L_isDue "GateRoadsLaw" 8 (some .boolean) 5 116) {Q : Int → zM → Prop} (σ : zM) (v1 : Int) (v2 : Int) (v4 : Int) (v5 : Int) (s0 : Int) (hσ : zRM σ) (r1 : zR v1) (r2 : zR v2) (r4 : zR v4) (r5 : zR v5) (rs0 : zR s0) (h : wp_L_isDue_b72 Q σ v1 v2 v4 v5 s0) : zJ X G (zQi X G Q) 8 72 [(0, .ref (gad G 54)), (1, .int (zI v1)), (2, .int (zI v2)), (4, .int (zI v4)), (5, .int (zI v5))] [.int (zI s0)] σ := by
  unfold wp_L_isDue_b72 at h
  refine j_istore (L' := [(6, .int (zI s0)), (0, .ref (gad G 54)), (1, .int (zI v1)), (2, .int (zI v2)), (4, .int (zI v4)), (5, .int (zI v5))]) C d_L_isDue_72 rfl rfl ?_
  refine j_iload C d_L_isDue_74 0 rfl ?_
  refine j_if_eq (tgt := 91) C d_L_isDue_76 rfl rs0 (fun c => ?_) (fun c => ?_)
  · have h := h.1 c
    refine j_iload C d_L_isDue_91 4 rfl ?_
    refine j_if_eq (tgt := 110) C d_L_isDue_93 rfl r4 (fun c => ?_) (fun c => ?_)
    · have h := h.1 c
      refine j_sub (L' := [(0, .ref (gad G 54)), (1, .int (zI v1)), (2, .int (zI v2))]) [1, 2, 3] rfl ?_
      refine w_L_isDue_b110 C σ v1 v2 hσ r1 r2 h
    · have h := h.2 c
      refine j_iload_n C d_L_isDue_96 3 rfl rfl ?_
      refine j_aload_n C d_L_isDue_97 1 rfl rfl ?_
      refine j_iconst C d_L_isDue_98 ?_
      refine j_callV C d_L_isDue_99 ml_L_13 mi_X_count (c_X_count (xl X) (gD G) (gad G) (gca G) (v1 := 0) hσ (zR_of (x := 0) rfl) h) sh_54 rfl rfl rfl rfl rfl rfl rfl (fun z12 σ13 rz12 hσ13 h => ?_)
      obtain ⟨ez12, h⟩ := h; subst ez12
      refine j_icmp_ge (tgt := 110) C d_L_isDue_102 rfl r2 rz12 (fun c => ?_) (fun c => ?_)
      · have h := h.1 c
        refine j_sub (L' := [(0, .ref (gad G 54)), (1, .int (zI v1)), (2, .int (zI v2))]) [1, 2, 3] rfl ?_
        refine w_L_isDue_b110 C σ v1 v2 hσ r1 r2 h
      · have h := h.2 c
        refine j_bipush C d_L_isDue_105 rfl ?_
        refine j_goto (tgt := 111) C d_L_isDue_107 rfl ?_
        refine j_sub (L' := [(0, .ref (gad G 54)), (1, .int (zI v1)), (2, .int (zI v2))]) [1, 2, 3] rfl ?_
        refine w_L_isDue_b111 C σ v1 v2 (-5) hσ r1 r2 (zR_of (x := (-5)) rfl) h
  · have h := h.2 c
    refine j_iload C d_L_isDue_79 5 rfl ?_
    refine j_aload_n C d_L_isDue_81 1 rfl rfl ?_
    refine j_iload_n C d_L_isDue_82 3 rfl rfl ?_
    refine j_iconst C d_L_isDue_83 ?_
    refine j_callV C d_L_isDue_84 ml_L_23 mi_X_ofRoad (c_X_ofRoad (xl X) (gD G) (gad G) (gca G) (v1 := v2) (v2 := 2) hσ r2 (zR_of (x := 2) rfl) h) sh_54 rfl rfl rfl rfl rfl rfl rfl (fun z14 σ15 rz14 hσ15 h => ?_)
    obtain ⟨ez14, h⟩ := h; subst ez14
    refine j_iadd C d_L_isDue_87 ?_
    refine j_goto (tgt := 111) C d_L_isDue_88 rfl ?_
    obtain ⟨g16, h⟩ := h
    refine j_sub (L' := [(0, .ref (gad G 54)), (1, .int (zI v1)), (2, .int (zI v2))]) [1, 2, 3] rfl ?_
    refine w_L_isDue_b111 C σ v1 v2 (v5 + z14) hσ r1 r2 g16 h
set_option maxRecDepth 100000 in
set_option maxHeartbeats 4000000 in
theorem w_L_isDue_b71 {X : zX} {G : zG} (C : zC X G b_L_isDue "GateRoadsLaw" 8 (some .boolean) 5 116) {Q : Int → zM → Prop} (σ : zM) (v1 : Int) (v2 : Int) (v4 : Int) (v5 : Int) (hσ : zRM σ) (r1 : zR v1) (r2 : zR v2) (r4 : zR v4) (r5 : zR v5) (h : wp_L_isDue_b71 Q σ v1 v2 v4 v5) : zJ X G (zQi X G Q) 8 71 [(0, .ref (gad G 54)), (1, .int (zI v1)), (2, .int (zI v2)), (4, .int (zI v4)), (5, .int (zI v5))] [] σ := by
  unfold wp_L_isDue_b71 at h
  refine j_iconst C d_L_isDue_71 ?_
  refine w_L_isDue_b72 C σ v1 v2 v4 v5 0 hσ r1 r2 r4 r5 (zR_of (x := 0) rfl) h
set_option maxRecDepth 100000 in
set_option maxHeartbeats 4000000 in
theorem w_L_isDue_b14 {X : zX} {G : zG} (C : zC X G b_L_isDue "GateRoadsLaw" 8 (some .boolean) 5 116) {Q : Int → zM → Prop} (σ : zM) (v1 : Int) (v2 : Int) (v3 : Int) (s0 : Int) (hσ : zRM σ) (r1 : zR v1) (r2 : zR v2) (r3 : zR v3) (rs0 : zR s0) (h : wp_L_isDue_b14 Q σ v1 v2 v3 s0) : zJ X G (zQi X G Q) 8 14 [(0, .ref (gad G 54)), (1, .int (zI v1)), (2, .int (zI v2)), (3, .int (zI v3))] [.int (zI s0)] σ := by
  unfold wp_L_isDue_b14 at h
  refine j_istore (L' := [(4, .int (zI s0)), (0, .ref (gad G 54)), (1, .int (zI v1)), (2, .int (zI v2)), (3, .int (zI v3))]) C d_L_isDue_14 rfl rfl ?_
  refine j_aload_n C d_L_isDue_16 1 rfl rfl ?_
  refine j_iload_n C d_L_isDue_17 2 rfl rfl ?_
  refine j_iconst C d_L_isDue_18 ?_
  refine j_callV C d_L_isDue_19 ml_L_29 mi_X_ofTraveller (c_X_ofTraveller (xl X) (gD G) (gad G) (gca G) (v1 := v1) (v2 := 1) hσ r1 (zR_of (x := 1) rfl) h) sh_54 rfl rfl rfl rfl rfl rfl rfl (fun z3 σ4 rz3 hσ4 h => ?_)
  obtain ⟨ez3, h⟩ := h; subst ez3
  refine j_istore (L' := [(5, .int (zI z3)), (4, .int (zI s0)), (0, .ref (gad G 54)), (1, .int (zI v1)), (2, .int (zI v2)), (3, .int (zI v3))]) C d_L_isDue_22 rfl rfl ?_
  refine j_iload_n C d_L_isDue_24 5 rfl rfl ?_
  refine j_if_ne (tgt := 130) C d_L_isDue_25 rfl r3 (fun c => ?_) (fun c => ?_)
  · have h := h.1 c
    refine j_iload C d_L_isDue_130 1 rfl ?_
    refine j_if_eq (tgt := 148) C d_L_isDue_132 rfl rs0 (fun c => ?_) (fun c => ?_)
    · have h := h.1 c
      refine j_sub (L' := [(0, .ref (gad G 54)), (1, .int (zI v1)), (3, .int (zI v3)), (4, .int (zI s0)), (5, .int (zI z3))]) [2, 3, 5, 1, 0] rfl ?_
      refine w_L_isDue_b148 C σ v1 v3 s0 z3 hσ r1 r3 rs0 rz3 h
    · have h := h.2 c
      refine j_iload_n C d_L_isDue_135 5 rfl rfl ?_
      refine j_aload_n C d_L_isDue_136 2 rfl rfl ?_
      refine j_iload_n C d_L_isDue_137 3 rfl rfl ?_
      refine j_callV C d_L_isDue_138 ml_L_66 mi_X_canStay (c_X_canStay (xl X) (gD G) (gad G) (gca G) (v1 := v1) hσ r1 h) sh_54 rfl rfl rfl rfl rfl rfl rfl (fun z8 σ9 rz8 hσ9 h => ?_)
      obtain ⟨ez8, h⟩ := h; subst ez8
      refine j_icmp_gt (tgt := 148) C d_L_isDue_141 rfl r3 rz8 (fun c => ?_) (fun c => ?_)
      · have h := h.1 c
        refine j_sub (L' := [(0, .ref (gad G 54)), (1, .int (zI v1)), (3, .int (zI v3)), (4, .int (zI s0)), (5, .int (zI z3))]) [2, 3, 5, 1, 0] rfl ?_
        refine w_L_isDue_b148 C σ v1 v3 s0 z3 hσ r1 r3 rs0 rz3 h
      · have h := h.2 c
        refine j_iconst C d_L_isDue_144 ?_
        refine j_goto (tgt := 149) C d_L_isDue_145 rfl ?_
        refine j_sub (L' := [(0, .ref (gad G 54)), (1, .int (zI v1)), (3, .int (zI v3)), (4, .int (zI s0)), (5, .int (zI z3))]) [2, 3, 5, 1, 0] rfl ?_
        refine w_L_isDue_b149 C σ v1 v3 s0 z3 1 hσ r1 r3 rs0 rz3 (zR_of (x := 1) rfl) h
  · have h := h.2 c
    refine j_iload C d_L_isDue_28 1 rfl ?_
    refine j_if_eq (tgt := 71) C d_L_isDue_30 rfl rs0 (fun c => ?_) (fun c => ?_)
    · have h := h.1 c
      refine j_sub (L' := [(0, .ref (gad G 54)), (1, .int (zI v1)), (2, .int (zI v2)), (4, .int (zI s0)), (5, .int (zI z3))]) [2, 3, 4, 1, 0] rfl ?_
      refine w_L_isDue_b71 C σ v1 v2 s0 z3 hσ r1 r2 rs0 rz3 h
    · have h := h.2 c
      refine j_iload_n C d_L_isDue_33 4 rfl rfl ?_
      refine j_aload_n C d_L_isDue_34 2 rfl rfl ?_
      refine j_iconst C d_L_isDue_35 ?_
      refine j_callV C d_L_isDue_36 ml_L_13 mi_X_count (c_X_count (xl X) (gD G) (gad G) (gca G) (v1 := 0) hσ (zR_of (x := 0) rfl) h) sh_54 rfl rfl rfl rfl rfl rfl rfl (fun z17 σ18 rz17 hσ18 h => ?_)
      obtain ⟨ez17, h⟩ := h; subst ez17
      refine j_icmp_ge (tgt := 71) C d_L_isDue_39 rfl r2 rz17 (fun c => ?_) (fun c => ?_)
      · have h := h.1 c
        refine j_sub (L' := [(0, .ref (gad G 54)), (1, .int (zI v1)), (2, .int (zI v2)), (4, .int (zI s0)), (5, .int (zI z3))]) [2, 3, 4, 1, 0] rfl ?_
        refine w_L_isDue_b71 C σ v1 v2 s0 z3 hσ r1 r2 rs0 rz3 h
      · have h := h.2 c
        refine j_aload_n C d_L_isDue_42 2 rfl rfl ?_
        refine j_iload_n C d_L_isDue_43 4 rfl rfl ?_
        refine j_iconst C d_L_isDue_44 ?_
        refine j_callV C d_L_isDue_45 ml_L_23 mi_X_ofRoad (c_X_ofRoad (xl X) (gD G) (gad G) (gca G) (v1 := v2) (v2 := 0) hσ r2 (zR_of (x := 0) rfl) h) sh_54 rfl rfl rfl rfl rfl rfl rfl (fun z19 σ20 rz19 hσ20 h => ?_)
        obtain ⟨ez19, h⟩ := h; subst ez19
        refine j_aload_n C d_L_isDue_48 2 rfl rfl ?_
        refine j_iload_n C d_L_isDue_49 3 rfl rfl ?_
        refine j_iconst C d_L_isDue_50 ?_
        refine j_callV C d_L_isDue_51 ml_L_29 mi_X_ofTraveller (c_X_ofTraveller (xl X) (gD G) (gad G) (gca G) (v1 := v1) (v2 := 0) hσ r1 (zR_of (x := 0) rfl) h) sh_54 rfl rfl rfl rfl rfl rfl rfl (fun z21 σ22 rz21 hσ22 h => ?_)
        obtain ⟨ez21, h⟩ := h; subst ez21
        refine j_icmp_ne (tgt := 71) C d_L_isDue_54 rfl rz19 rz21 (fun c => ?_) (fun c => ?_)
        · have h := h.1 c
          refine j_sub (L' := [(0, .ref (gad G 54)), (1, .int (zI v1)), (2, .int (zI v2)), (4, .int (zI s0)), (5, .int (zI z3))]) [2, 3, 4, 1, 0] rfl ?_
          refine w_L_isDue_b71 C σ v1 v2 s0 z3 hσ r1 r2 rs0 rz3 h
        · have h := h.2 c
          refine j_aload_n C d_L_isDue_57 2 rfl rfl ?_
          refine j_iload_n C d_L_isDue_58 4 rfl rfl ?_
          refine j_iload C d_L_isDue_59 0 rfl ?_
          refine j_callV C d_L_isDue_61 ml_L_76 mi_X_whyShut (c_X_whyShut (xl X) (gD G) (gad G) (gca G) (v1 := v2) (v2 := z3) hσ r2 rz3 h) sh_54 rfl rfl rfl rfl rfl rfl rfl (fun z23 σ24 rz23 hσ24 h => ?_)
          obtain ⟨ez23, h⟩ := h; subst ez23
          refine j_if_ne (tgt := 71) C d_L_isDue_64 rfl rz23 (fun c => ?_) (fun c => ?_)
          · have h := h.1 c
            refine j_sub (L' := [(0, .ref (gad G 54)), (1, .int (zI v1)), (2, .int (zI v2)), (4, .int (zI s0)), (5, .int (zI z3))]) [2, 3, 4, 1, 0] rfl ?_
            refine w_L_isDue_b71 C σ v1 v2 s0 z3 hσ r1 r2 rs0 rz3 h
          · have h := h.2 c
            refine j_iconst C d_L_isDue_67 ?_
            refine j_goto (tgt := 72) C d_L_isDue_68 rfl ?_
            refine j_sub (L' := [(0, .ref (gad G 54)), (1, .int (zI v1)), (2, .int (zI v2)), (4, .int (zI s0)), (5, .int (zI z3))]) [2, 3, 4, 1, 0] rfl ?_
            refine w_L_isDue_b72 C σ v1 v2 s0 z3 1 hσ r1 r2 rs0 rz3 (zR_of (x := 1) rfl) h
set_option maxRecDepth 100000 in
set_option maxHeartbeats 4000000 in
theorem c_L_isDue (l : Launch) (D : va_G) (ad : Nat → Nat) (ca : Nat → ClassId) {σ : zM} {v1 : Int} {v2 : Int} {v3 : Int} {Q : Int → zM → Prop} (hσ : zRM σ) (r1 : zR v1) (r2 : zR v2) (r3 : zR v3) (h : wp_L_isDue σ v1 v2 v3 Q) : zCi l D ad ca y_L_isDue b_L_isDue 8 (some .boolean) (zrm 5 116) [.ref (ad 54), .int (zI v1), .int (zI v2), .int (zI v3)] σ Q := by
  refine zCi_of (by decide +kernel) (Nat.le_of_ble_eq_true rfl) ?_
  intro X G C hl hD had hca
  subst hl hD had hca
  have C : zC X G b_L_isDue "GateRoadsLaw" 8 (some .boolean) 5 116 := C
  show zJ X G (zQi X G Q) 8 0 [(0, .ref (gad G 54)), (1, .int (zI v1)), (2, .int (zI v2)), (3, .int (zI v3))] [] σ
  unfold wp_L_isDue at h
  refine j_iload_n C d_L_isDue_0 1 rfl rfl ?_
  refine j_aload_n C d_L_isDue_1 0 rfl rfl ?_
  refine j_iconst C d_L_isDue_2 ?_
  refine j_callV C d_L_isDue_3 ml_L_13 mi_X_count (c_X_count (xl X) (gD G) (gad G) (gca G) (v1 := 2) hσ (zR_of (x := 2) rfl) h) sh_54 rfl rfl rfl rfl rfl rfl rfl (fun z1 σ2 rz1 hσ2 h => ?_)
  obtain ⟨ez1, h⟩ := h; subst ez1
  refine j_icmp_ge (tgt := 13) C d_L_isDue_6 rfl r1 rz1 (fun c => ?_) (fun c => ?_)
  · have h := h.1 c
    refine j_iconst C d_L_isDue_13 ?_
    refine w_L_isDue_b14 C σ v1 v2 v3 0 hσ r1 r2 r3 (zR_of (x := 0) rfl) h
  · have h := h.2 c
    refine j_iconst C d_L_isDue_9 ?_
    refine j_goto (tgt := 14) C d_L_isDue_10 rfl ?_
    refine w_L_isDue_b14 C σ v1 v2 v3 1 hσ r1 r2 r3 (zR_of (x := 1) rfl) h
set_option maxRecDepth 100000 in
set_option maxHeartbeats 4000000 in
theorem c_L_isUndone (l : Launch) (D : va_G) (ad : Nat → Nat) (ca : Nat → ClassId) {σ : zM} {v1 : Int} {v2 : Int} {v3 : Int} {v4 : Int} {v5 : Int64} {Q : Int → zM → Prop} (hσ : zRM σ) (r1 : zR v1) (r2 : zR v2) (r3 : zR v3) (r4 : zR v4) (h : wp_L_isUndone σ v1 v2 v3 v4 v5 Q) : zCi l D ad ca y_L_isUndone b_L_isUndone 8 (some .boolean) (zrm 7 164) [.ref (ad 54), .int (zI v1), .int (zI v2), .int (zI v3), .int (zI v4), .long v5] σ Q := by
  refine zCi_of (by decide +kernel) (Nat.le_of_ble_eq_true rfl) ?_
  intro X G C hl hD had hca
  subst hl hD had hca
  have C : zC X G b_L_isUndone "GateRoadsLaw" 8 (some .boolean) 7 164 := C
  show zJ X G (zQi X G Q) 8 0 [(0, .ref (gad G 54)), (1, .int (zI v1)), (2, .int (zI v2)), (3, .int (zI v3)), (4, .int (zI v4)), (5, .long v5)] [] σ
  unfold wp_L_isUndone at h
  refine j_aload_n C d_L_isUndone_0 0 rfl rfl ?_
  refine j_iconst C d_L_isUndone_1 ?_
  refine j_callV C d_L_isUndone_2 ml_L_13 mi_X_count (c_X_count (xl X) (gD G) (gad G) (gca G) (v1 := 5) hσ (zR_of (x := 5) rfl) h) sh_54 rfl rfl rfl rfl rfl rfl rfl (fun z1 σ2 rz1 hσ2 h => ?_)
  obtain ⟨ez1, h⟩ := h; subst ez1
  refine j_istore (L' := [(7, .int (zI z1)), (0, .ref (gad G 54)), (1, .int (zI v1)), (2, .int (zI v2)), (3, .int (zI v3)), (4, .int (zI v4)), (5, .long v5)]) C d_L_isUndone_5 rfl rfl ?_
  refine j_aload_n C d_L_isUndone_7 1 rfl rfl ?_
  refine j_callV C d_L_isUndone_8 ml_L_79 mi_X_undo (c_X_undo (xl X) (gD G) (gad G) (gca G)  hσ h) sh_54 rfl rfl rfl rfl rfl rfl rfl (fun z3 σ4 rz3 hσ4 h => ?_)
  refine j_iload C d_L_isUndone_11 0 rfl ?_
  refine j_iconst C d_L_isUndone_13 ?_
  refine j_isub C d_L_isUndone_14 ?_
  obtain ⟨g5, h⟩ := h
  refine j_icmp_ne (tgt := 66) C d_L_isUndone_15 rfl rz3 g5 (fun c => ?_) (fun c => ?_)
  · have h := h.1 c
    refine j_iconst C d_L_isUndone_66 ?_
    exact j_zreturn C d_L_isUndone_67 (by decide) hσ4 h
  · have h := h.2 c
    refine j_aload_n C d_L_isUndone_18 1 rfl rfl ?_
    refine j_iconst C d_L_isUndone_19 ?_
    refine j_callV C d_L_isUndone_20 ml_L_13 mi_X_count (c_X_count (xl X) (gD G) (gad G) (gca G) (v1 := 5) hσ4 (zR_of (x := 5) rfl) h) sh_54 rfl rfl rfl rfl rfl rfl rfl (fun z6 σ7 rz6 hσ7 h => ?_)
    obtain ⟨ez6, h⟩ := h; subst ez6
    refine j_iload C d_L_isUndone_23 0 rfl ?_
    refine j_iconst C d_L_isUndone_25 ?_
    refine j_isub C d_L_isUndone_26 ?_
    obtain ⟨g8, h⟩ := h
    refine j_icmp_ne (tgt := 66) C d_L_isUndone_27 rfl rz6 g8 (fun c => ?_) (fun c => ?_)
    · have h := h.1 c
      refine j_iconst C d_L_isUndone_66 ?_
      exact j_zreturn C d_L_isUndone_67 (by decide) hσ4 h
    · have h := h.2 c
      refine j_aload_n C d_L_isUndone_30 1 rfl rfl ?_
      refine j_callSl C d_L_isUndone_31 ml_L_83 ms_L_view (c_L_view (xl X) (gD G) (gad G) (gca G)  hσ4 h) rfl rfl rfl rfl rfl (fun z9 σ10 hσ10 h => ?_)
      obtain ⟨ez9, h⟩ := h; subst ez9
      refine j_lload C d_L_isUndone_34 6 rfl ?_
      refine j_lcmp C d_L_isUndone_36 ?_
      refine j_if_ne (tgt := 66) C d_L_isUndone_37 rfl (zLcmp_rg _ _) (fun c => ?_) (fun c => ?_)
      · have h := h.1 c
        refine j_iconst C d_L_isUndone_66 ?_
        exact j_zreturn C d_L_isUndone_67 (by decide) hσ4 h
      · have h := h.2 c
        refine j_aload_n C d_L_isUndone_40 1 rfl rfl ?_
        refine j_iload_n C d_L_isUndone_41 2 rfl rfl ?_
        refine j_iload_n C d_L_isUndone_42 3 rfl rfl ?_
        refine j_iload_n C d_L_isUndone_43 4 rfl rfl ?_
        refine j_callS C d_L_isUndone_44 ml_L_87 ms_L_turn (c_L_turn (xl X) (gD G) (gad G) (gca G) (v1 := v1) (v2 := v2) (v3 := v3) hσ4 r1 r2 r3 h) rfl rfl rfl rfl rfl (fun z11 σ12 rz11 hσ12 h => ?_)
        refine j_iload C d_L_isUndone_47 5 rfl ?_
        refine j_icmp_ne (tgt := 66) C d_L_isUndone_49 rfl rz11 r4 (fun c => ?_) (fun c => ?_)
        · have h := h.1 c
          refine j_iconst C d_L_isUndone_66 ?_
          exact j_zreturn C d_L_isUndone_67 (by decide) hσ12 h
        · have h := h.2 c
          refine j_aload_n C d_L_isUndone_52 1 rfl rfl ?_
          refine j_iconst C d_L_isUndone_53 ?_
          refine j_callV C d_L_isUndone_54 ml_L_13 mi_X_count (c_X_count (xl X) (gD G) (gad G) (gca G) (v1 := 5) hσ12 (zR_of (x := 5) rfl) h) sh_54 rfl rfl rfl rfl rfl rfl rfl (fun z13 σ14 rz13 hσ14 h => ?_)
          obtain ⟨ez13, h⟩ := h; subst ez13
          refine j_iload C d_L_isUndone_57 0 rfl ?_
          refine j_icmp_ne (tgt := 66) C d_L_isUndone_59 rfl rz13 rz1 (fun c => ?_) (fun c => ?_)
          · have h := h.1 c
            refine j_iconst C d_L_isUndone_66 ?_
            exact j_zreturn C d_L_isUndone_67 (by decide) hσ12 h
          · have h := h.2 c
            refine j_iconst C d_L_isUndone_62 ?_
            refine j_goto (tgt := 67) C d_L_isUndone_63 rfl ?_
            exact j_zreturn C d_L_isUndone_67 (by decide) hσ12 h
set_option maxRecDepth 100000 in
set_option maxHeartbeats 4000000 in
theorem c_L_isSaved (l : Launch) (D : va_G) (ad : Nat → Nat) (ca : Nat → ClassId) {σ : zM} {v1 : Int} {v2 : Int} {Q : Int → zM → Prop} (hσ : zRM σ) (r1 : zR v1) (r2 : zR v2) (h : wp_L_isSaved σ v1 v2 Q) : zCi l D ad ca y_L_isSaved b_L_isSaved 7 (some .boolean) (zrm 7 164) [.ref (ad 54), .int (zI v1), .int (zI v2)] σ Q := by
  refine zCi_of (by decide +kernel) (Nat.le_of_ble_eq_true rfl) ?_
  intro X G C hl hD had hca
  subst hl hD had hca
  have C : zC X G b_L_isSaved "GateRoadsLaw" 7 (some .boolean) 7 164 := C
  show zJ X G (zQi X G Q) 7 0 [(0, .ref (gad G 54)), (1, .int (zI v1)), (2, .int (zI v2))] [] σ
  unfold wp_L_isSaved at h
  refine j_iload_n C d_L_isSaved_0 1 rfl rfl ?_
  refine j_iconst C d_L_isSaved_1 ?_
  refine j_iand C d_L_isSaved_2 ?_
  refine j_istore_n (L' := [(3, .int (zI (zAnd v1 1))), (0, .ref (gad G 54)), (1, .int (zI v1)), (2, .int (zI v2))]) C d_L_isSaved_3 rfl rfl rfl ?_
  refine j_aload_n C d_L_isSaved_4 1 rfl rfl ?_
  refine j_callSl C d_L_isSaved_5 ml_L_83 ms_L_view (c_L_view (xl X) (gD G) (gad G) (gca G)  hσ h) rfl rfl rfl rfl rfl (fun z1 σ2 hσ2 h => ?_)
  obtain ⟨ez1, h⟩ := h; subst ez1
  refine j_lstore (L' := [(4, .long z1), (3, .int (zI (zAnd v1 1))), (0, .ref (gad G 54)), (1, .int (zI v1)), (2, .int (zI v2))]) C d_L_isSaved_8 rfl rfl ?_
  refine j_aload_n C d_L_isSaved_10 2 rfl rfl ?_
  refine j_iconst C d_L_isSaved_11 ?_
  refine j_callV C d_L_isSaved_12 ml_L_13 mi_X_count (c_X_count (xl X) (gD G) (gad G) (gca G) (v1 := 5) hσ (zR_of (x := 5) rfl) h) sh_54 rfl rfl rfl rfl rfl rfl rfl (fun z3 σ4 rz3 hσ4 h => ?_)
  obtain ⟨ez3, h⟩ := h; subst ez3
  refine j_istore (L' := [(6, .int (zI z3)), (4, .long z1), (3, .int (zI (zAnd v1 1))), (0, .ref (gad G 54)), (1, .int (zI v1)), (2, .int (zI v2))]) C d_L_isSaved_15 rfl rfl ?_
  refine j_aload_n C d_L_isSaved_17 3 rfl rfl ?_
  refine j_iload_n C d_L_isSaved_18 2 rfl rfl ?_
  refine j_callV C d_L_isSaved_19 ml_L_91 mi_X_save (c_X_save (xl X) (gD G) (gad G) (gca G) (v1 := zAnd v1 1) hσ (zAnd_rg _ _) h) sh_54 rfl rfl rfl rfl rfl rfl rfl (fun z5 σ6 rz5 hσ6 h => ?_)
  refine j_aload_n C d_L_isSaved_22 3 rfl rfl ?_
  refine j_iconst C d_L_isSaved_23 ?_
  refine j_callV C d_L_isSaved_24 ml_L_13 mi_X_count (c_X_count (xl X) (gD G) (gad G) (gca G) (v1 := 0) hσ6 (zR_of (x := 0) rfl) h) sh_54 rfl rfl rfl rfl rfl rfl rfl (fun z7 σ8 rz7 hσ8 h => ?_)
  obtain ⟨ez7, h⟩ := h; subst ez7
  refine j_icmp_ne (tgt := 40) C d_L_isSaved_27 rfl rz5 rz7 (fun c => ?_) (fun c => ?_)
  · have h := h.1 c
    refine j_iconst C d_L_isSaved_40 ?_
    exact j_zreturn C d_L_isSaved_41 (by decide) hσ6 h
  · have h := h.2 c
    refine j_aload_n C d_L_isSaved_30 3 rfl rfl ?_
    refine j_iconst C d_L_isSaved_31 ?_
    refine j_callV C d_L_isSaved_32 ml_L_13 mi_X_count (c_X_count (xl X) (gD G) (gad G) (gca G) (v1 := 5) hσ6 (zR_of (x := 5) rfl) h) sh_54 rfl rfl rfl rfl rfl rfl rfl (fun z9 σ10 rz9 hσ10 h => ?_)
    obtain ⟨ez9, h⟩ := h; subst ez9
    refine j_iload C d_L_isSaved_35 0 rfl ?_
    refine j_icmp_eq (tgt := 42) C d_L_isSaved_37 rfl rz9 rz3 (fun c => ?_) (fun c => ?_)
    · have h := h.1 c
      refine j_aload_n C d_L_isSaved_42 3 rfl rfl ?_
      refine j_iload_n C d_L_isSaved_43 5 rfl rfl ?_
      refine j_bipush C d_L_isSaved_44 rfl ?_
      refine j_callS C d_L_isSaved_46 ml_L_58 ms_L_up (c_L_up (xl X) (gD G) (gad G) (gca G) (v0 := v2) (v1 := 14) hσ6 r2 (zR_of (x := 14) rfl) h) rfl rfl rfl rfl rfl (fun z11 σ12 rz11 hσ12 h => ?_)
      obtain ⟨ez11, h⟩ := h; subst ez11
      refine j_iload_n C d_L_isSaved_49 5 rfl rfl ?_
      refine j_iload_n C d_L_isSaved_50 4 rfl rfl ?_
      refine j_callS C d_L_isSaved_51 ml_L_87 ms_L_turn (c_L_turn (xl X) (gD G) (gad G) (gca G) (v1 := z11) (v2 := v2) (v3 := v1) hσ6 rz11 r2 r1 h) rfl rfl rfl rfl rfl (fun z13 σ14 rz13 hσ14 h => ?_)
      refine j_pop C d_L_isSaved_54 rfl ?_
      refine j_aload_n C d_L_isSaved_55 3 rfl rfl ?_
      refine j_iload_n C d_L_isSaved_56 2 rfl rfl ?_
      refine j_callV C d_L_isSaved_57 ml_L_94 mi_X_restore (c_X_restore (xl X) (gD G) (gad G) (gca G) (v1 := zAnd v1 1) hσ14 (zAnd_rg _ _) h) sh_54 rfl rfl rfl rfl rfl rfl rfl (fun z15 σ16 rz15 hσ16 h => ?_)
      refine j_aload_n C d_L_isSaved_60 3 rfl rfl ?_
      refine j_iconst C d_L_isSaved_61 ?_
      refine j_callV C d_L_isSaved_62 ml_L_13 mi_X_count (c_X_count (xl X) (gD G) (gad G) (gca G) (v1 := 0) hσ16 (zR_of (x := 0) rfl) h) sh_54 rfl rfl rfl rfl rfl rfl rfl (fun z17 σ18 rz17 hσ18 h => ?_)
      obtain ⟨ez17, h⟩ := h; subst ez17
      refine j_icmp_ne (tgt := 82) C d_L_isSaved_65 rfl rz15 rz17 (fun c => ?_) (fun c => ?_)
      · have h := h.1 c
        refine j_iconst C d_L_isSaved_82 ?_
        exact j_zreturn C d_L_isSaved_83 (by decide) hσ16 h
      · have h := h.2 c
        refine j_aload_n C d_L_isSaved_68 3 rfl rfl ?_
        refine j_callSl C d_L_isSaved_69 ml_L_83 ms_L_view (c_L_view (xl X) (gD G) (gad G) (gca G)  hσ16 h) rfl rfl rfl rfl rfl (fun z19 σ20 hσ20 h => ?_)
        obtain ⟨ez19, h⟩ := h; subst ez19
        refine j_lload C d_L_isSaved_72 1 rfl ?_
        refine j_lcmp C d_L_isSaved_74 ?_
        refine j_if_ne (tgt := 82) C d_L_isSaved_75 rfl (zLcmp_rg _ _) (fun c => ?_) (fun c => ?_)
        · have h := h.1 c
          refine j_iconst C d_L_isSaved_82 ?_
          exact j_zreturn C d_L_isSaved_83 (by decide) hσ16 h
        · have h := h.2 c
          refine j_iconst C d_L_isSaved_78 ?_
          refine j_goto (tgt := 83) C d_L_isSaved_79 rfl ?_
          exact j_zreturn C d_L_isSaved_83 (by decide) hσ16 h
    · have h := h.2 c
      refine j_iconst C d_L_isSaved_40 ?_
      exact j_zreturn C d_L_isSaved_41 (by decide) hσ6 h
end
section
set_option maxRecDepth 100000 in
set_option maxHeartbeats 4000000 in
theorem w_L_law_b352 {X : zX} {G : zG} {b : Nat} (C : zC X G b_L_law "GateRoadsLaw" 15 (some .boolean) 10 382) {scr : Nat → Int32} {N : Nat} {v2 : Int} (hN : zLaw X G b N scr) (r2 : zR v2) {Q : Int → zM → Prop} {k29 : zM → Int → Prop} (hk29 : ∀ (σ : zM) (v3 : Int), zRM σ → zR v3 → k29 σ v3 → zJ X G (lw_Z (xb X) #[Value.ref b] (xs X)) 15 29 [(0, .ref b), (1, .ref (gad G 54)), (2, .int (zI v2)), (3, .int (zI v3))] [] σ) (σ : zM) (v3 : Int) (hσ : zRM σ) (r3 : zR v3) (h : wp_L_law_b352 scr N v2 k29 Q σ v3) : zJ X G (lw_Z (xb X) #[Value.ref b] (xs X)) 15 352 [(0, .ref b), (1, .ref (gad G 54)), (2, .int (zI v2)), (3, .int (zI v3))] [] σ := by
  unfold wp_L_law_b352 at h
  refine j_aload_n C d_L_law_352 1 rfl rfl ?_
  refine j_callS C d_L_law_353 ml_L_114 ms_L_areRight (c_L_areRight (xl X) (gD G) (gad G) (gca G)  hσ h) rfl rfl rfl rfl rfl (fun z20 σ21 rz20 hσ21 h => ?_)
  refine j_if_ne (tgt := 361) C d_L_law_356 rfl rz20 (fun c => ?_) (fun c => ?_)
  · have h := h.1 c
    obtain ⟨g22, h⟩ := h
    refine j_iinc (L' := [(3, .int (zI (v3 + 1))), (0, .ref b), (1, .ref (gad G 54)), (2, .int (zI v2))]) C d_L_law_361 3 rfl rfl rfl ?_
    refine j_goto (tgt := 29) C d_L_law_364 rfl ?_
    refine j_sub (L' := [(0, .ref b), (1, .ref (gad G 54)), (2, .int (zI v2)), (3, .int (zI (v3 + 1)))]) [1, 2, 3, 0] rfl ?_
    exact hk29 σ21 (v3 + 1) hσ21 g22 h
  · have h := h.2 c
    refine j_iconst C d_L_law_359 ?_
    exact j_lawret C hN.2.1 d_L_law_360 h
set_option maxRecDepth 100000 in
set_option maxHeartbeats 4000000 in
theorem w_L_law_b314 {X : zX} {G : zG} {b : Nat} (C : zC X G b_L_law "GateRoadsLaw" 15 (some .boolean) 10 382) {scr : Nat → Int32} {N : Nat} {v2 : Int} (hN : zLaw X G b N scr) (r2 : zR v2) {Q : Int → zM → Prop} {k29 : zM → Int → Prop} (hk29 : ∀ (σ : zM) (v3 : Int), zRM σ → zR v3 → k29 σ v3 → zJ X G (lw_Z (xb X) #[Value.ref b] (xs X)) 15 29 [(0, .ref b), (1, .ref (gad G 54)), (2, .int (zI v2)), (3, .int (zI v3))] [] σ) (σ : zM) (v3 : Int) (v4 : Int) (v6 : Int) (v7 : Int) (hσ : zRM σ) (r3 : zR v3) (r4 : zR v4) (r6 : zR v6) (r7 : zR v7) (h : wp_L_law_b314 scr N v2 k29 Q σ v3 v4 v6 v7) : zJ X G (lw_Z (xb X) #[Value.ref b] (xs X)) 15 314 [(0, .ref b), (1, .ref (gad G 54)), (2, .int (zI v2)), (3, .int (zI v3)), (4, .int (zI v4)), (6, .int (zI v6)), (7, .int (zI v7))] [] σ := by
  unfold wp_L_law_b314 at h
  refine j_iload C d_L_law_314 4 rfl ?_
  refine j_bipush C d_L_law_316 rfl ?_
  refine j_iand C d_L_law_318 ?_
  refine j_bipush C d_L_law_319 rfl ?_
  refine j_icmp_ne (tgt := 352) C d_L_law_321 rfl (zAnd_rg _ _) (zR_of (x := 64) rfl) (fun c => ?_) (fun c => ?_)
  · have h := h.1 c
    refine j_sub (L' := [(0, .ref b), (1, .ref (gad G 54)), (2, .int (zI v2)), (3, .int (zI v3))]) [0, 1, 2, 3] rfl ?_
    refine w_L_law_b352 C hN r2 hk29 σ v3 hσ r3 h
  · have h := h.2 c
    refine j_aload_n C d_L_law_324 1 rfl rfl ?_
    refine j_iload C d_L_law_325 5 rfl ?_
    refine j_iconst C d_L_law_327 ?_
    refine j_ishr C d_L_law_328 ?_
    refine j_iconst C d_L_law_329 ?_
    refine j_callS C d_L_law_330 ml_L_58 ms_L_up (c_L_up (xl X) (gD G) (gad G) (gca G) (v0 := zShr v6 4) (v1 := 4) hσ (zShr_rg _ _) (zR_of (x := 4) rfl) h) rfl rfl rfl rfl rfl (fun z23 σ24 rz23 hσ24 h => ?_)
    obtain ⟨ez23, h⟩ := h; subst ez23
    refine j_iconst C d_L_law_333 ?_
    refine j_iconst C d_L_law_334 ?_
    refine j_iload C d_L_law_335 6 rfl ?_
    refine j_iconst C d_L_law_337 ?_
    refine j_ishr C d_L_law_338 ?_
    refine j_sipush C d_L_law_339 rfl ?_
    refine j_callS C d_L_law_342 ml_L_58 ms_L_up (c_L_up (xl X) (gD G) (gad G) (gca G) (v0 := zShr v7 4) (v1 := 200) hσ (zShr_rg _ _) (zR_of (x := 200) rfl) h) rfl rfl rfl rfl rfl (fun z25 σ26 rz25 hσ26 h => ?_)
    obtain ⟨ez25, h⟩ := h; subst ez25
    refine j_iadd C d_L_law_345 ?_
    obtain ⟨g27, h⟩ := h
    refine j_callS C d_L_law_346 ml_L_110 ms_L_isDue (c_L_isDue (xl X) (gD G) (gad G) (gca G) (v1 := z23) (v2 := 0) (v3 := 1 + z25) hσ rz23 (zR_of (x := 0) rfl) g27 h) rfl rfl rfl rfl rfl (fun z28 σ29 rz28 hσ29 h => ?_)
    refine j_if_eq (tgt := 359) C d_L_law_349 rfl rz28 (fun c => ?_) (fun c => ?_)
    · have h := h.1 c
      refine j_iconst C d_L_law_359 ?_
      exact j_lawret C hN.2.1 d_L_law_360 h
    · have h := h.2 c
      refine j_sub (L' := [(0, .ref b), (1, .ref (gad G 54)), (2, .int (zI v2)), (3, .int (zI v3))]) [0, 1, 2, 3] rfl ?_
      refine w_L_law_b352 C hN r2 hk29 σ29 v3 hσ29 r3 h
set_option maxRecDepth 100000 in
set_option maxHeartbeats 4000000 in
theorem w_L_law_b277 {X : zX} {G : zG} {b : Nat} (C : zC X G b_L_law "GateRoadsLaw" 15 (some .boolean) 10 382) {scr : Nat → Int32} {N : Nat} {v2 : Int} (hN : zLaw X G b N scr) (r2 : zR v2) {Q : Int → zM → Prop} {k29 : zM → Int → Prop} (hk29 : ∀ (σ : zM) (v3 : Int), zRM σ → zR v3 → k29 σ v3 → zJ X G (lw_Z (xb X) #[Value.ref b] (xs X)) 15 29 [(0, .ref b), (1, .ref (gad G 54)), (2, .int (zI v2)), (3, .int (zI v3))] [] σ) (σ : zM) (v3 : Int) (v4 : Int) (v6 : Int) (v7 : Int) (hσ : zRM σ) (r3 : zR v3) (r4 : zR v4) (r6 : zR v6) (r7 : zR v7) (h : wp_L_law_b277 scr N v2 k29 Q σ v3 v4 v6 v7) : zJ X G (lw_Z (xb X) #[Value.ref b] (xs X)) 15 277 [(0, .ref b), (1, .ref (gad G 54)), (2, .int (zI v2)), (3, .int (zI v3)), (4, .int (zI v4)), (6, .int (zI v6)), (7, .int (zI v7))] [] σ := by
  unfold wp_L_law_b277 at h
  refine j_iload C d_L_law_277 4 rfl ?_
  refine j_bipush C d_L_law_279 rfl ?_
  refine j_iand C d_L_law_281 ?_
  refine j_bipush C d_L_law_282 rfl ?_
  refine j_icmp_ne (tgt := 314) C d_L_law_284 rfl (zAnd_rg _ _) (zR_of (x := 32) rfl) (fun c => ?_) (fun c => ?_)
  · have h := h.1 c
    refine w_L_law_b314 C hN r2 hk29 σ v3 v4 v6 v7 hσ r3 r4 r6 r7 h
  · have h := h.2 c
    refine j_aload_n C d_L_law_287 1 rfl rfl ?_
    refine j_iload C d_L_law_288 5 rfl ?_
    refine j_iconst C d_L_law_290 ?_
    refine j_ishr C d_L_law_291 ?_
    refine j_iconst C d_L_law_292 ?_
    refine j_callS C d_L_law_293 ml_L_58 ms_L_up (c_L_up (xl X) (gD G) (gad G) (gca G) (v0 := zShr v6 4) (v1 := 4) hσ (zShr_rg _ _) (zR_of (x := 4) rfl) h) rfl rfl rfl rfl rfl (fun z30 σ31 rz30 hσ31 h => ?_)
    obtain ⟨ez30, h⟩ := h; subst ez30
    refine j_iload C d_L_law_296 6 rfl ?_
    refine j_iconst C d_L_law_298 ?_
    refine j_ishr C d_L_law_299 ?_
    refine j_bipush C d_L_law_300 rfl ?_
    refine j_callS C d_L_law_302 ml_L_58 ms_L_up (c_L_up (xl X) (gD G) (gad G) (gca G) (v0 := zShr v7 4) (v1 := 6) hσ (zShr_rg _ _) (zR_of (x := 6) rfl) h) rfl rfl rfl rfl rfl (fun z32 σ33 rz32 hσ33 h => ?_)
    obtain ⟨ez32, h⟩ := h; subst ez32
    refine j_iconst C d_L_law_305 ?_
    refine j_callS C d_L_law_306 ml_L_110 ms_L_isDue (c_L_isDue (xl X) (gD G) (gad G) (gca G) (v1 := z30) (v2 := z32) (v3 := 0) hσ rz30 rz32 (zR_of (x := 0) rfl) h) rfl rfl rfl rfl rfl (fun z34 σ35 rz34 hσ35 h => ?_)
    refine j_if_ne (tgt := 314) C d_L_law_309 rfl rz34 (fun c => ?_) (fun c => ?_)
    · have h := h.1 c
      refine w_L_law_b314 C hN r2 hk29 σ35 v3 v4 v6 v7 hσ35 r3 r4 r6 r7 h
    · have h := h.2 c
      refine j_iconst C d_L_law_312 ?_
      exact j_lawret C hN.2.1 d_L_law_313 h
set_option maxRecDepth 100000 in
set_option maxHeartbeats 4000000 in
theorem w_L_law_b258 {X : zX} {G : zG} {b : Nat} (C : zC X G b_L_law "GateRoadsLaw" 15 (some .boolean) 10 382) {scr : Nat → Int32} {N : Nat} {v2 : Int} (hN : zLaw X G b N scr) (r2 : zR v2) {Q : Int → zM → Prop} {k29 : zM → Int → Prop} (hk29 : ∀ (σ : zM) (v3 : Int), zRM σ → zR v3 → k29 σ v3 → zJ X G (lw_Z (xb X) #[Value.ref b] (xs X)) 15 29 [(0, .ref b), (1, .ref (gad G 54)), (2, .int (zI v2)), (3, .int (zI v3))] [] σ) (σ : zM) (v3 : Int) (v4 : Int) (v6 : Int) (v7 : Int) (hσ : zRM σ) (r3 : zR v3) (r4 : zR v4) (r6 : zR v6) (r7 : zR v7) (h : wp_L_law_b258 scr N v2 k29 Q σ v3 v4 v6 v7) : zJ X G (lw_Z (xb X) #[Value.ref b] (xs X)) 15 258 [(0, .ref b), (1, .ref (gad G 54)), (2, .int (zI v2)), (3, .int (zI v3)), (4, .int (zI v4)), (6, .int (zI v6)), (7, .int (zI v7))] [] σ := by
  unfold wp_L_law_b258 at h
  refine j_iload C d_L_law_258 4 rfl ?_
  refine j_bipush C d_L_law_260 rfl ?_
  refine j_iand C d_L_law_262 ?_
  refine j_if_ne (tgt := 277) C d_L_law_263 rfl (zAnd_rg _ _) (fun c => ?_) (fun c => ?_)
  · have h := h.1 c
    refine w_L_law_b277 C hN r2 hk29 σ v3 v4 v6 v7 hσ r3 r4 r6 r7 h
  · have h := h.2 c
    refine j_aload_n C d_L_law_266 1 rfl rfl ?_
    refine j_iload C d_L_law_267 5 rfl ?_
    refine j_iload C d_L_law_269 6 rfl ?_
    refine j_callS C d_L_law_271 ml_L_106 ms_L_isSaved (c_L_isSaved (xl X) (gD G) (gad G) (gca G) (v1 := v6) (v2 := v7) hσ r6 r7 h) rfl rfl rfl rfl rfl (fun z36 σ37 rz36 hσ37 h => ?_)
    refine j_if_eq (tgt := 312) C d_L_law_274 rfl rz36 (fun c => ?_) (fun c => ?_)
    · have h := h.1 c
      refine j_iconst C d_L_law_312 ?_
      exact j_lawret C hN.2.1 d_L_law_313 h
    · have h := h.2 c
      refine w_L_law_b277 C hN r2 hk29 σ37 v3 v4 v6 v7 hσ37 r3 r4 r6 r7 h
set_option maxRecDepth 100000 in
set_option maxHeartbeats 4000000 in
theorem w_L_law_b218 {X : zX} {G : zG} {b : Nat} (C : zC X G b_L_law "GateRoadsLaw" 15 (some .boolean) 10 382) {scr : Nat → Int32} {N : Nat} {v2 : Int} (hN : zLaw X G b N scr) (r2 : zR v2) {Q : Int → zM → Prop} {k29 : zM → Int → Prop} (hk29 : ∀ (σ : zM) (v3 : Int), zRM σ → zR v3 → k29 σ v3 → zJ X G (lw_Z (xb X) #[Value.ref b] (xs X)) 15 29 [(0, .ref b), (1, .ref (gad G 54)), (2, .int (zI v2)), (3, .int (zI v3))] [] σ) (σ : zM) (v3 : Int) (v4 : Int) (v5 : Int) (v6 : Int) (v7 : Int) (v8 : Int64) (v11 : Int) (v12 : Int) (s0 : Int) (s1 : Int) (hσ : zRM σ) (r3 : zR v3) (r4 : zR v4) (r5 : zR v5) (r6 : zR v6) (r7 : zR v7) (r11 : zR v11) (r12 : zR v12) (rs0 : zR s0) (rs1 : zR s1) (h : wp_L_law_b218 scr N v2 k29 Q σ v3 v4 v5 v6 v7 v8 v11 v12 s0 s1) : zJ X G (lw_Z (xb X) #[Value.ref b] (xs X)) 15 218 [(0, .ref b), (1, .ref (gad G 54)), (2, .int (zI v2)), (3, .int (zI v3)), (4, .int (zI v4)), (5, .int (zI v5)), (6, .int (zI v6)), (7, .int (zI v7)), (8, .long v8), (11, .int (zI v11)), (12, .int (zI v12))] [.int (zI s1), .int (zI s0)] σ := by
  unfold wp_L_law_b218 at h
  refine j_icmp_ne (tgt := 256) C d_L_law_218 rfl rs0 rs1 (fun c => ?_) (fun c => ?_)
  · have h := h.1 c
    refine j_iconst C d_L_law_256 ?_
    exact j_lawret C hN.2.1 d_L_law_257 h
  · have h := h.2 c
    refine j_aload_n C d_L_law_221 1 rfl rfl ?_
    refine j_iconst C d_L_law_222 ?_
    refine j_callV C d_L_law_223 ml_L_13 mi_X_count (c_X_count (xl X) (gD G) (gad G) (gca G) (v1 := 3) hσ (zR_of (x := 3) rfl) h) sh_54 rfl rfl rfl rfl rfl rfl rfl (fun z18 σ19 rz18 hσ19 h => ?_)
    obtain ⟨ez18, h⟩ := h; subst ez18
    refine j_iload C d_L_law_226 9 rfl ?_
    refine j_icmp_ne (tgt := 256) C d_L_law_228 rfl rz18 r11 (fun c => ?_) (fun c => ?_)
    · have h := h.1 c
      refine j_iconst C d_L_law_256 ?_
      exact j_lawret C hN.2.1 d_L_law_257 h
    · have h := h.2 c
      refine j_iload C d_L_law_231 4 rfl ?_
      refine j_bipush C d_L_law_233 rfl ?_
      refine j_iand C d_L_law_235 ?_
      refine j_if_ne (tgt := 258) C d_L_law_236 rfl (zAnd_rg _ _) (fun c => ?_) (fun c => ?_)
      · have h := h.1 c
        refine j_sub (L' := [(0, .ref b), (1, .ref (gad G 54)), (2, .int (zI v2)), (3, .int (zI v3)), (4, .int (zI v4)), (6, .int (zI v6)), (7, .int (zI v7))]) [0, 1, 2, 3, 4, 6, 7] rfl ?_
        refine w_L_law_b258 C hN r2 hk29 σ v3 v4 v6 v7 hσ r3 r4 r6 r7 h
      · have h := h.2 c
        refine j_aload_n C d_L_law_239 1 rfl rfl ?_
        refine j_iload C d_L_law_240 5 rfl ?_
        refine j_iload C d_L_law_242 6 rfl ?_
        refine j_iload C d_L_law_244 7 rfl ?_
        refine j_iload C d_L_law_246 10 rfl ?_
        refine j_lload C d_L_law_248 8 rfl ?_
        refine j_callS C d_L_law_250 ml_L_102 ms_L_isUndone (c_L_isUndone (xl X) (gD G) (gad G) (gca G) (v1 := v5) (v2 := v6) (v3 := v7) (v4 := v12) (v5 := v8) hσ r5 r6 r7 r12 h) rfl rfl rfl rfl rfl (fun z38 σ39 rz38 hσ39 h => ?_)
        refine j_if_ne (tgt := 258) C d_L_law_253 rfl rz38 (fun c => ?_) (fun c => ?_)
        · have h := h.1 c
          refine j_sub (L' := [(0, .ref b), (1, .ref (gad G 54)), (2, .int (zI v2)), (3, .int (zI v3)), (4, .int (zI v4)), (6, .int (zI v6)), (7, .int (zI v7))]) [0, 1, 2, 3, 4, 6, 7] rfl ?_
          refine w_L_law_b258 C hN r2 hk29 σ39 v3 v4 v6 v7 hσ39 r3 r4 r6 r7 h
        · have h := h.2 c
          refine j_iconst C d_L_law_256 ?_
          exact j_lawret C hN.2.1 d_L_law_257 h
set_option maxRecDepth 100000 in
set_option maxHeartbeats 4000000 in
theorem w_L_law_b194 {X : zX} {G : zG} {b : Nat} (C : zC X G b_L_law "GateRoadsLaw" 15 (some .boolean) 10 382) {scr : Nat → Int32} {N : Nat} {v2 : Int} (hN : zLaw X G b N scr) (r2 : zR v2) {Q : Int → zM → Prop} {k29 : zM → Int → Prop} (hk29 : ∀ (σ : zM) (v3 : Int), zRM σ → zR v3 → k29 σ v3 → zJ X G (lw_Z (xb X) #[Value.ref b] (xs X)) 15 29 [(0, .ref b), (1, .ref (gad G 54)), (2, .int (zI v2)), (3, .int (zI v3))] [] σ) (σ : zM) (v3 : Int) (v4 : Int) (v6 : Int) (v7 : Int) (hσ : zRM σ) (r3 : zR v3) (r4 : zR v4) (r6 : zR v6) (r7 : zR v7) (h : wp_L_law_b194 scr N v2 k29 Q σ v3 v4 v6 v7) : zJ X G (lw_Z (xb X) #[Value.ref b] (xs X)) 15 194 [(0, .ref b), (1, .ref (gad G 54)), (2, .int (zI v2)), (3, .int (zI v3)), (4, .int (zI v4)), (6, .int (zI v6)), (7, .int (zI v7))] [] σ := by
  unfold wp_L_law_b194 at h
  refine j_goto (tgt := 258) C d_L_law_194 rfl ?_
  refine w_L_law_b258 C hN r2 hk29 σ v3 v4 v6 v7 hσ r3 r4 r6 r7 h
set_option maxRecDepth 100000 in
set_option maxHeartbeats 4000000 in
theorem w_L_law_b148 {X : zX} {G : zG} {b : Nat} (C : zC X G b_L_law "GateRoadsLaw" 15 (some .boolean) 10 382) {scr : Nat → Int32} {N : Nat} {v2 : Int} (hN : zLaw X G b N scr) (r2 : zR v2) {Q : Int → zM → Prop} {k29 : zM → Int → Prop} (hk29 : ∀ (σ : zM) (v3 : Int), zRM σ → zR v3 → k29 σ v3 → zJ X G (lw_Z (xb X) #[Value.ref b] (xs X)) 15 29 [(0, .ref b), (1, .ref (gad G 54)), (2, .int (zI v2)), (3, .int (zI v3))] [] σ) (σ : zM) (v3 : Int) (v4 : Int) (v6 : Int) (v7 : Int) (v11 : Int) (v13 : Int) (s0 : Int) (hσ : zRM σ) (r3 : zR v3) (r4 : zR v4) (r6 : zR v6) (r7 : zR v7) (r11 : zR v11) (r13 : zR v13) (rs0 : zR s0) (h : wp_L_law_b148 scr N v2 k29 Q σ v3 v4 v6 v7 v11 v13 s0) : zJ X G (lw_Z (xb X) #[Value.ref b] (xs X)) 15 148 [(0, .ref b), (1, .ref (gad G 54)), (2, .int (zI v2)), (3, .int (zI v3)), (4, .int (zI v4)), (6, .int (zI v6)), (7, .int (zI v7)), (11, .int (zI v11)), (13, .int (zI v13))] [.int (zI s0)] σ := by
  unfold wp_L_law_b148 at h
  refine j_istore (L' := [(14, .int (zI s0)), (0, .ref b), (1, .ref (gad G 54)), (2, .int (zI v2)), (3, .int (zI v3)), (4, .int (zI v4)), (6, .int (zI v6)), (7, .int (zI v7)), (11, .int (zI v11)), (13, .int (zI v13))]) C d_L_law_148 rfl rfl ?_
  refine j_iload C d_L_law_150 0 rfl ?_
  refine j_if_eq (tgt := 192) C d_L_law_152 rfl rs0 (fun c => ?_) (fun c => ?_)
  · have h := h.1 c
    refine j_iconst C d_L_law_192 ?_
    exact j_lawret C hN.2.1 d_L_law_193 h
  · have h := h.2 c
    refine j_iload C d_L_law_155 9 rfl ?_
    refine j_if_eq (tgt := 182) C d_L_law_157 rfl r13 (fun c => ?_) (fun c => ?_)
    · have h := h.1 c
      refine j_aload_n C d_L_law_182 2 rfl rfl ?_
      refine j_iconst C d_L_law_183 ?_
      refine j_callV C d_L_law_184 ml_L_13 mi_X_count (c_X_count (xl X) (gD G) (gad G) (gca G) (v1 := 3) hσ (zR_of (x := 3) rfl) h) sh_54 rfl rfl rfl rfl rfl rfl rfl (fun z43 σ44 rz43 hσ44 h => ?_)
      obtain ⟨ez43, h⟩ := h; subst ez43
      refine j_iload C d_L_law_187 8 rfl ?_
      refine j_icmp_eq (tgt := 194) C d_L_law_189 rfl rz43 r11 (fun c => ?_) (fun c => ?_)
      · have h := h.1 c
        refine j_sub (L' := [(0, .ref b), (1, .ref (gad G 54)), (2, .int (zI v2)), (3, .int (zI v3)), (4, .int (zI v4)), (6, .int (zI v6)), (7, .int (zI v7))]) [1, 2, 3, 4, 5, 6, 7] rfl ?_
        refine w_L_law_b194 C hN r2 hk29 σ v3 v4 v6 v7 hσ r3 r4 r6 r7 h
      · have h := h.2 c
        refine j_iconst C d_L_law_192 ?_
        exact j_lawret C hN.2.1 d_L_law_193 h
    · have h := h.2 c
      refine j_aload_n C d_L_law_160 2 rfl rfl ?_
      refine j_iconst C d_L_law_161 ?_
      refine j_callV C d_L_law_162 ml_L_13 mi_X_count (c_X_count (xl X) (gD G) (gad G) (gca G) (v1 := 3) hσ (zR_of (x := 3) rfl) h) sh_54 rfl rfl rfl rfl rfl rfl rfl (fun z45 σ46 rz45 hσ46 h => ?_)
      obtain ⟨ez45, h⟩ := h; subst ez45
      refine j_iconst C d_L_law_165 ?_
      refine j_icmp_lt (tgt := 192) C d_L_law_166 rfl rz45 (zR_of (x := 1) rfl) (fun c => ?_) (fun c => ?_)
      · have h := h.1 c
        refine j_iconst C d_L_law_192 ?_
        exact j_lawret C hN.2.1 d_L_law_193 h
      · have h := h.2 c
        refine j_aload_n C d_L_law_169 2 rfl rfl ?_
        refine j_iconst C d_L_law_170 ?_
        refine j_callV C d_L_law_171 ml_L_13 mi_X_count (c_X_count (xl X) (gD G) (gad G) (gca G) (v1 := 3) hσ (zR_of (x := 3) rfl) h) sh_54 rfl rfl rfl rfl rfl rfl rfl (fun z47 σ48 rz47 hσ48 h => ?_)
        obtain ⟨ez47, h⟩ := h; subst ez47
        refine j_bipush C d_L_law_174 rfl ?_
        refine j_icmp_le (tgt := 194) C d_L_law_176 rfl rz47 (zR_of (x := 7) rfl) (fun c => ?_) (fun c => ?_)
        · have h := h.1 c
          refine j_sub (L' := [(0, .ref b), (1, .ref (gad G 54)), (2, .int (zI v2)), (3, .int (zI v3)), (4, .int (zI v4)), (6, .int (zI v6)), (7, .int (zI v7))]) [1, 2, 3, 4, 5, 6, 7] rfl ?_
          refine w_L_law_b194 C hN r2 hk29 σ v3 v4 v6 v7 hσ r3 r4 r6 r7 h
        · have h := h.2 c
          refine j_goto (tgt := 192) C d_L_law_179 rfl ?_
          refine j_iconst C d_L_law_192 ?_
          exact j_lawret C hN.2.1 d_L_law_193 h
set_option maxRecDepth 100000 in
set_option maxHeartbeats 4000000 in
theorem w_L_law_b147 {X : zX} {G : zG} {b : Nat} (C : zC X G b_L_law "GateRoadsLaw" 15 (some .boolean) 10 382) {scr : Nat → Int32} {N : Nat} {v2 : Int} (hN : zLaw X G b N scr) (r2 : zR v2) {Q : Int → zM → Prop} {k29 : zM → Int → Prop} (hk29 : ∀ (σ : zM) (v3 : Int), zRM σ → zR v3 → k29 σ v3 → zJ X G (lw_Z (xb X) #[Value.ref b] (xs X)) 15 29 [(0, .ref b), (1, .ref (gad G 54)), (2, .int (zI v2)), (3, .int (zI v3))] [] σ) (σ : zM) (v3 : Int) (v4 : Int) (v6 : Int) (v7 : Int) (v11 : Int) (v13 : Int) (hσ : zRM σ) (r3 : zR v3) (r4 : zR v4) (r6 : zR v6) (r7 : zR v7) (r11 : zR v11) (r13 : zR v13) (h : wp_L_law_b147 scr N v2 k29 Q σ v3 v4 v6 v7 v11 v13) : zJ X G (lw_Z (xb X) #[Value.ref b] (xs X)) 15 147 [(0, .ref b), (1, .ref (gad G 54)), (2, .int (zI v2)), (3, .int (zI v3)), (4, .int (zI v4)), (6, .int (zI v6)), (7, .int (zI v7)), (11, .int (zI v11)), (13, .int (zI v13))] [] σ := by
  unfold wp_L_law_b147 at h
  refine j_iconst C d_L_law_147 ?_
  refine w_L_law_b148 C hN r2 hk29 σ v3 v4 v6 v7 v11 v13 0 hσ r3 r4 r6 r7 r11 r13 (zR_of (x := 0) rfl) h
set_option maxRecDepth 100000 in
set_option maxHeartbeats 4000000 in
theorem w_L_law_b121 {X : zX} {G : zG} {b : Nat} (C : zC X G b_L_law "GateRoadsLaw" 15 (some .boolean) 10 382) {scr : Nat → Int32} {N : Nat} {v2 : Int} (hN : zLaw X G b N scr) (r2 : zR v2) {Q : Int → zM → Prop} {k29 : zM → Int → Prop} (hk29 : ∀ (σ : zM) (v3 : Int), zRM σ → zR v3 → k29 σ v3 → zJ X G (lw_Z (xb X) #[Value.ref b] (xs X)) 15 29 [(0, .ref b), (1, .ref (gad G 54)), (2, .int (zI v2)), (3, .int (zI v3))] [] σ) (σ : zM) (v3 : Int) (v4 : Int) (v6 : Int) (v7 : Int) (v8 : Int64) (v10 : Int) (v11 : Int) (s0 : Int) (hσ : zRM σ) (r3 : zR v3) (r4 : zR v4) (r6 : zR v6) (r7 : zR v7) (r10 : zR v10) (r11 : zR v11) (rs0 : zR s0) (h : wp_L_law_b121 scr N v2 k29 Q σ v3 v4 v6 v7 v8 v10 v11 s0) : zJ X G (lw_Z (xb X) #[Value.ref b] (xs X)) 15 121 [(0, .ref b), (1, .ref (gad G 54)), (2, .int (zI v2)), (3, .int (zI v3)), (4, .int (zI v4)), (6, .int (zI v6)), (7, .int (zI v7)), (8, .long v8), (10, .int (zI v10)), (11, .int (zI v11))] [.int (zI s0)] σ := by
  unfold wp_L_law_b121 at h
  refine j_istore (L' := [(13, .int (zI s0)), (0, .ref b), (1, .ref (gad G 54)), (2, .int (zI v2)), (3, .int (zI v3)), (4, .int (zI v4)), (6, .int (zI v6)), (7, .int (zI v7)), (8, .long v8), (10, .int (zI v10)), (11, .int (zI v11))]) C d_L_law_121 rfl rfl ?_
  refine j_aload_n C d_L_law_123 2 rfl rfl ?_
  refine j_callSl C d_L_law_124 ml_L_83 ms_L_view (c_L_view (xl X) (gD G) (gad G) (gca G)  hσ h) rfl rfl rfl rfl rfl (fun z41 σ42 hσ42 h => ?_)
  obtain ⟨ez41, h⟩ := h; subst ez41
  refine j_lload C d_L_law_127 8 rfl ?_
  refine j_lcmp C d_L_law_129 ?_
  refine j_if_ne (tgt := 147) C d_L_law_130 rfl (zLcmp_rg _ _) (fun c => ?_) (fun c => ?_)
  · have h := h.1 c
    refine j_sub (L' := [(0, .ref b), (1, .ref (gad G 54)), (2, .int (zI v2)), (3, .int (zI v3)), (4, .int (zI v4)), (6, .int (zI v6)), (7, .int (zI v7)), (11, .int (zI v11)), (13, .int (zI s0))]) [1, 2, 3, 4, 5, 6, 7, 10, 0] rfl ?_
    refine w_L_law_b147 C hN r2 hk29 σ v3 v4 v6 v7 v11 s0 hσ r3 r4 r6 r7 r11 rs0 h
  · have h := h.2 c
    refine j_aload_n C d_L_law_133 2 rfl rfl ?_
    refine j_iconst C d_L_law_134 ?_
    refine j_callV C d_L_law_135 ml_L_13 mi_X_count (c_X_count (xl X) (gD G) (gad G) (gca G) (v1 := 5) hσ (zR_of (x := 5) rfl) h) sh_54 rfl rfl rfl rfl rfl rfl rfl (fun z49 σ50 rz49 hσ50 h => ?_)
    obtain ⟨ez49, h⟩ := h; subst ez49
    refine j_iload C d_L_law_138 9 rfl ?_
    refine j_icmp_ne (tgt := 147) C d_L_law_140 rfl rz49 r10 (fun c => ?_) (fun c => ?_)
    · have h := h.1 c
      refine j_sub (L' := [(0, .ref b), (1, .ref (gad G 54)), (2, .int (zI v2)), (3, .int (zI v3)), (4, .int (zI v4)), (6, .int (zI v6)), (7, .int (zI v7)), (11, .int (zI v11)), (13, .int (zI s0))]) [1, 2, 3, 4, 5, 6, 7, 10, 0] rfl ?_
      refine w_L_law_b147 C hN r2 hk29 σ v3 v4 v6 v7 v11 s0 hσ r3 r4 r6 r7 r11 rs0 h
    · have h := h.2 c
      refine j_iconst C d_L_law_143 ?_
      refine j_goto (tgt := 148) C d_L_law_144 rfl ?_
      refine j_sub (L' := [(0, .ref b), (1, .ref (gad G 54)), (2, .int (zI v2)), (3, .int (zI v3)), (4, .int (zI v4)), (6, .int (zI v6)), (7, .int (zI v7)), (11, .int (zI v11)), (13, .int (zI s0))]) [1, 2, 3, 4, 5, 6, 7, 10, 0] rfl ?_
      refine w_L_law_b148 C hN r2 hk29 σ v3 v4 v6 v7 v11 s0 1 hσ r3 r4 r6 r7 r11 rs0 (zR_of (x := 1) rfl) h
set_option maxRecDepth 100000 in
set_option maxHeartbeats 4000000 in
theorem w_L_law_L29 {X : zX} {G : zG} {b : Nat} (C : zC X G b_L_law "GateRoadsLaw" 15 (some .boolean) 10 382) {scr : Nat → Int32} {N : Nat} {v2 : Int} (hN : zLaw X G b N scr) (r2 : zR v2) {Q : Int → zM → Prop} : ∀ (n : Nat) (σ : zM) (v3 : Int) (hσ : zRM σ) (r3 : zR v3), wp_L_law_L29 scr N v2 Q n σ v3 → zJ X G (lw_Z (xb X) #[Value.ref b] (xs X)) 15 29 [(0, .ref b), (1, .ref (gad G 54)), (2, .int (zI v2)), (3, .int (zI v3))] [] σ := by
  intro n
  induction n with
  | zero => intro σ v3 hσ r3 h; exact False.elim h
  | succ n ih =>
    intro σ v3 hσ r3 h
    rw [wp_L_law_L29] at h
    refine j_iload_n C d_L_law_29 3 rfl rfl ?_
    refine j_iload_n C d_L_law_30 2 rfl rfl ?_
    refine j_icmp_ge (tgt := 367) C d_L_law_31 rfl r3 r2 (fun c => ?_) (fun c => ?_)
    · have h := h.1 c
      refine j_iconst C d_L_law_367 ?_
      exact j_lawret C hN.2.1 d_L_law_368 h
    · have h := h.2 c
      refine j_aload_n C d_L_law_34 0 rfl rfl ?_
      refine j_iconst C d_L_law_35 ?_
      refine j_iload_n C d_L_law_36 3 rfl rfl ?_
      refine j_imul C d_L_law_37 ?_
      obtain ⟨g2, h⟩ := h
      obtain ⟨g3, h⟩ := h
      refine j_cell C hN.1 hσ d_L_law_38 ml_L_98 g3 rfl rfl rfl ?_
      refine j_istore (L' := [(4, .int (zI (zSx scr (3 * v3)))), (0, .ref b), (1, .ref (gad G 54)), (2, .int (zI v2)), (3, .int (zI v3))]) C d_L_law_41 rfl rfl ?_
      refine j_iload C d_L_law_43 0 rfl ?_
      refine j_bipush C d_L_law_45 rfl ?_
      refine j_iand C d_L_law_47 ?_
      refine j_istore (L' := [(5, .int (zI (zAnd (zSx scr (3 * v3)) 15))), (4, .int (zI (zSx scr (3 * v3)))), (0, .ref b), (1, .ref (gad G 54)), (2, .int (zI v2)), (3, .int (zI v3))]) C d_L_law_48 rfl rfl ?_
      refine j_aload_n C d_L_law_50 2 rfl rfl ?_
      refine j_iconst C d_L_law_51 ?_
      refine j_iload_n C d_L_law_52 5 rfl rfl ?_
      refine j_imul C d_L_law_53 ?_
      refine j_iconst C d_L_law_54 ?_
      refine j_iadd C d_L_law_55 ?_
      obtain ⟨g4, h⟩ := h
      obtain ⟨g5, h⟩ := h
      refine j_cell C hN.1 hσ d_L_law_56 ml_L_98 g5 rfl rfl rfl ?_
      refine j_istore (L' := [(6, .int (zI (zSx scr ((3 * v3) + 1)))), (5, .int (zI (zAnd (zSx scr (3 * v3)) 15))), (4, .int (zI (zSx scr (3 * v3)))), (0, .ref b), (1, .ref (gad G 54)), (2, .int (zI v2)), (3, .int (zI v3))]) C d_L_law_59 rfl rfl ?_
      refine j_aload_n C d_L_law_61 3 rfl rfl ?_
      refine j_iconst C d_L_law_62 ?_
      refine j_iload_n C d_L_law_63 6 rfl rfl ?_
      refine j_imul C d_L_law_64 ?_
      refine j_iconst C d_L_law_65 ?_
      refine j_iadd C d_L_law_66 ?_
      obtain ⟨g6, h⟩ := h
      obtain ⟨g7, h⟩ := h
      refine j_cell C hN.1 hσ d_L_law_67 ml_L_98 g7 rfl rfl rfl ?_
      refine j_istore (L' := [(7, .int (zI (zSx scr ((3 * v3) + 2)))), (6, .int (zI (zSx scr ((3 * v3) + 1)))), (5, .int (zI (zAnd (zSx scr (3 * v3)) 15))), (4, .int (zI (zSx scr (3 * v3)))), (0, .ref b), (1, .ref (gad G 54)), (2, .int (zI v2)), (3, .int (zI v3))]) C d_L_law_70 rfl rfl ?_
      refine j_aload_n C d_L_law_72 5 rfl rfl ?_
      refine j_callSl C d_L_law_73 ml_L_83 ms_L_view (c_L_view (xl X) (gD G) (gad G) (gca G)  hσ h) rfl rfl rfl rfl rfl (fun z8 σ9 hσ9 h => ?_)
      obtain ⟨ez8, h⟩ := h; subst ez8
      refine j_lstore (L' := [(8, .long z8), (7, .int (zI (zSx scr ((3 * v3) + 2)))), (6, .int (zI (zSx scr ((3 * v3) + 1)))), (5, .int (zI (zAnd (zSx scr (3 * v3)) 15))), (4, .int (zI (zSx scr (3 * v3)))), (0, .ref b), (1, .ref (gad G 54)), (2, .int (zI v2)), (3, .int (zI v3))]) C d_L_law_76 rfl rfl ?_
      refine j_aload_n C d_L_law_78 6 rfl rfl ?_
      refine j_iconst C d_L_law_79 ?_
      refine j_callV C d_L_law_80 ml_L_13 mi_X_count (c_X_count (xl X) (gD G) (gad G) (gca G) (v1 := 5) hσ (zR_of (x := 5) rfl) h) sh_54 rfl rfl rfl rfl rfl rfl rfl (fun z10 σ11 rz10 hσ11 h => ?_)
      obtain ⟨ez10, h⟩ := h; subst ez10
      refine j_istore (L' := [(10, .int (zI z10)), (8, .long z8), (7, .int (zI (zSx scr ((3 * v3) + 2)))), (6, .int (zI (zSx scr ((3 * v3) + 1)))), (5, .int (zI (zAnd (zSx scr (3 * v3)) 15))), (4, .int (zI (zSx scr (3 * v3)))), (0, .ref b), (1, .ref (gad G 54)), (2, .int (zI v2)), (3, .int (zI v3))]) C d_L_law_83 rfl rfl ?_
      refine j_aload_n C d_L_law_85 7 rfl rfl ?_
      refine j_iconst C d_L_law_86 ?_
      refine j_callV C d_L_law_87 ml_L_13 mi_X_count (c_X_count (xl X) (gD G) (gad G) (gca G) (v1 := 3) hσ (zR_of (x := 3) rfl) h) sh_54 rfl rfl rfl rfl rfl rfl rfl (fun z12 σ13 rz12 hσ13 h => ?_)
      obtain ⟨ez12, h⟩ := h; subst ez12
      refine j_istore (L' := [(11, .int (zI z12)), (10, .int (zI z10)), (8, .long z8), (7, .int (zI (zSx scr ((3 * v3) + 2)))), (6, .int (zI (zSx scr ((3 * v3) + 1)))), (5, .int (zI (zAnd (zSx scr (3 * v3)) 15))), (4, .int (zI (zSx scr (3 * v3)))), (0, .ref b), (1, .ref (gad G 54)), (2, .int (zI v2)), (3, .int (zI v3))]) C d_L_law_90 rfl rfl ?_
      refine j_aload_n C d_L_law_92 8 rfl rfl ?_
      refine j_iload C d_L_law_93 5 rfl ?_
      refine j_iload C d_L_law_95 4 rfl ?_
      refine j_iload C d_L_law_97 3 rfl ?_
      refine j_callS C d_L_law_99 ml_L_87 ms_L_turn (c_L_turn (xl X) (gD G) (gad G) (gca G) (v1 := zAnd (zSx scr (3 * v3)) 15) (v2 := zSx scr ((3 * v3) + 1)) (v3 := zSx scr ((3 * v3) + 2)) hσ (zAnd_rg _ _) (zSx_rg _ _) (zSx_rg _ _) h) rfl rfl rfl rfl rfl (fun z14 σ15 rz14 hσ15 h => ?_)
      refine j_istore (L' := [(12, .int (zI z14)), (11, .int (zI z12)), (10, .int (zI z10)), (8, .long z8), (7, .int (zI (zSx scr ((3 * v3) + 2)))), (6, .int (zI (zSx scr ((3 * v3) + 1)))), (5, .int (zI (zAnd (zSx scr (3 * v3)) 15))), (4, .int (zI (zSx scr (3 * v3)))), (0, .ref b), (1, .ref (gad G 54)), (2, .int (zI v2)), (3, .int (zI v3))]) C d_L_law_102 rfl rfl ?_
      refine j_iload C d_L_law_104 0 rfl ?_
      refine j_if_ge (tgt := 197) C d_L_law_106 rfl rz14 (fun c => ?_) (fun c => ?_)
      · have h := h.1 c
        refine j_aload_n C d_L_law_197 9 rfl rfl ?_
        refine j_iconst C d_L_law_198 ?_
        refine j_callV C d_L_law_199 ml_L_13 mi_X_count (c_X_count (xl X) (gD G) (gad G) (gca G) (v1 := 5) hσ15 (zR_of (x := 5) rfl) h) sh_54 rfl rfl rfl rfl rfl rfl rfl (fun z16 σ17 rz16 hσ17 h => ?_)
        obtain ⟨ez16, h⟩ := h; subst ez16
        refine j_iload C d_L_law_202 2 rfl ?_
        refine j_bipush C d_L_law_204 rfl ?_
        refine j_icmp_ge (tgt := 216) C d_L_law_206 rfl rz10 (zR_of (x := 6) rfl) (fun c => ?_) (fun c => ?_)
        · have h := h.1 c
          refine j_bipush C d_L_law_216 rfl ?_
          refine j_sub (L' := [(0, .ref b), (1, .ref (gad G 54)), (2, .int (zI v2)), (3, .int (zI v3)), (4, .int (zI (zSx scr (3 * v3)))), (5, .int (zI (zAnd (zSx scr (3 * v3)) 15))), (6, .int (zI (zSx scr ((3 * v3) + 1)))), (7, .int (zI (zSx scr ((3 * v3) + 2)))), (8, .long z8), (11, .int (zI z12)), (12, .int (zI z14))]) [8, 9, 10, 11, 7, 6, 5, 4, 3, 1, 0] rfl ?_
          refine w_L_law_b218 C hN r2 ih σ15 v3 (zSx scr (3 * v3)) (zAnd (zSx scr (3 * v3)) 15) (zSx scr ((3 * v3) + 1)) (zSx scr ((3 * v3) + 2)) z8 z12 z14 z16 6 hσ15 r3 (zSx_rg _ _) (zAnd_rg _ _) (zSx_rg _ _) (zSx_rg _ _) rz12 rz14 rz16 (zR_of (x := 6) rfl) h
        · have h := h.2 c
          refine j_iload C d_L_law_209 2 rfl ?_
          refine j_iconst C d_L_law_211 ?_
          refine j_iadd C d_L_law_212 ?_
          refine j_goto (tgt := 218) C d_L_law_213 rfl ?_
          obtain ⟨g40, h⟩ := h
          refine j_sub (L' := [(0, .ref b), (1, .ref (gad G 54)), (2, .int (zI v2)), (3, .int (zI v3)), (4, .int (zI (zSx scr (3 * v3)))), (5, .int (zI (zAnd (zSx scr (3 * v3)) 15))), (6, .int (zI (zSx scr ((3 * v3) + 1)))), (7, .int (zI (zSx scr ((3 * v3) + 2)))), (8, .long z8), (11, .int (zI z12)), (12, .int (zI z14))]) [8, 9, 10, 11, 7, 6, 5, 4, 3, 1, 0] rfl ?_
          refine w_L_law_b218 C hN r2 ih σ15 v3 (zSx scr (3 * v3)) (zAnd (zSx scr (3 * v3)) 15) (zSx scr ((3 * v3) + 1)) (zSx scr ((3 * v3) + 2)) z8 z12 z14 z16 (z10 + 1) hσ15 r3 (zSx_rg _ _) (zAnd_rg _ _) (zSx_rg _ _) (zSx_rg _ _) rz12 rz14 rz16 g40 h
      · have h := h.2 c
        refine j_iload C d_L_law_109 0 rfl ?_
        refine j_bipush C d_L_law_111 rfl ?_
        refine j_icmp_ne (tgt := 120) C d_L_law_113 rfl rz14 (zR_of (x := (-5)) rfl) (fun c => ?_) (fun c => ?_)
        · have h := h.1 c
          refine j_iconst C d_L_law_120 ?_
          refine j_sub (L' := [(0, .ref b), (1, .ref (gad G 54)), (2, .int (zI v2)), (3, .int (zI v3)), (4, .int (zI (zSx scr (3 * v3)))), (6, .int (zI (zSx scr ((3 * v3) + 1)))), (7, .int (zI (zSx scr ((3 * v3) + 2)))), (8, .long z8), (10, .int (zI z10)), (11, .int (zI z12))]) [8, 9, 10, 11, 7, 5, 4, 3, 2, 1] rfl ?_
          refine w_L_law_b121 C hN r2 ih σ15 v3 (zSx scr (3 * v3)) (zSx scr ((3 * v3) + 1)) (zSx scr ((3 * v3) + 2)) z8 z10 z12 0 hσ15 r3 (zSx_rg _ _) (zSx_rg _ _) (zSx_rg _ _) rz10 rz12 (zR_of (x := 0) rfl) h
        · have h := h.2 c
          refine j_iconst C d_L_law_116 ?_
          refine j_goto (tgt := 121) C d_L_law_117 rfl ?_
          refine j_sub (L' := [(0, .ref b), (1, .ref (gad G 54)), (2, .int (zI v2)), (3, .int (zI v3)), (4, .int (zI (zSx scr (3 * v3)))), (6, .int (zI (zSx scr ((3 * v3) + 1)))), (7, .int (zI (zSx scr ((3 * v3) + 2)))), (8, .long z8), (10, .int (zI z10)), (11, .int (zI z12))]) [8, 9, 10, 11, 7, 5, 4, 3, 2, 1] rfl ?_
          refine w_L_law_b121 C hN r2 ih σ15 v3 (zSx scr (3 * v3)) (zSx scr ((3 * v3) + 1)) (zSx scr ((3 * v3) + 2)) z8 z10 z12 1 hσ15 r3 (zSx_rg _ _) (zSx_rg _ _) (zSx_rg _ _) rz10 rz12 (zR_of (x := 1) rfl) h
set_option maxRecDepth 100000 in
set_option maxHeartbeats 4000000 in
theorem w_L_law_b26 {X : zX} {G : zG} {b : Nat} (C : zC X G b_L_law "GateRoadsLaw" 15 (some .boolean) 10 382) {scr : Nat → Int32} {N : Nat} (hN : zLaw X G b N scr) {Q : Int → zM → Prop} (σ : zM) (s0 : Int) (hσ : zRM σ) (rs0 : zR s0) (h : wp_L_law_b26 scr N Q σ s0) : zJ X G (lw_Z (xb X) #[Value.ref b] (xs X)) 15 26 [(0, .ref b), (1, .ref (gad G 54))] [.int (zI s0)] σ := by
  unfold wp_L_law_b26 at h
  refine j_istore_n (L' := [(2, .int (zI s0)), (0, .ref b), (1, .ref (gad G 54))]) C d_L_law_26 rfl rfl rfl ?_
  refine j_iconst C d_L_law_27 ?_
  refine j_istore_n (L' := [(3, .int (zI 0)), (2, .int (zI s0)), (0, .ref b), (1, .ref (gad G 54))]) C d_L_law_28 rfl rfl rfl ?_
  obtain ⟨n51, h⟩ := h
  refine j_sub (L' := [(0, .ref b), (1, .ref (gad G 54)), (2, .int (zI s0)), (3, .int (zI 0))]) [2, 3, 1, 0] rfl ?_
  refine w_L_law_L29 C hN rs0 n51 σ 0 hσ (zR_of (x := 0) rfl) h
set_option maxRecDepth 100000 in
set_option maxHeartbeats 4000000 in
theorem w_L_law_b8 {X : zX} {G : zG} {b : Nat} (C : zC X G b_L_law "GateRoadsLaw" 15 (some .boolean) 10 382) {scr : Nat → Int32} {N : Nat} (hN : zLaw X G b N scr) {Q : Int → zM → Prop} (σ : zM) (hσ : zRM σ) (h : wp_L_law_b8 scr N Q σ) : zJ X G (lw_Z (xb X) #[Value.ref b] (xs X)) 15 8 [(0, .ref b), (1, .ref (gad G 54))] [] σ := by
  unfold wp_L_law_b8 at h
  refine j_aload_n C d_L_law_8 0 rfl rfl ?_
  refine j_slen C hN.1 d_L_law_9 ?_
  refine j_iconst C d_L_law_10 ?_
  obtain ⟨g1, h⟩ := h
  refine j_idiv C d_L_law_11 hN.2.2 g1 (zR_of (x := 3) rfl) (by decide) ?_
  refine j_bipush C d_L_law_12 rfl ?_
  refine j_icmp_ge (tgt := 24) C d_L_law_14 rfl (zDiv_rg hN.2.2 g1 (zR_of (x := 3) rfl) (by decide)) (zR_of (x := 36) rfl) (fun c => ?_) (fun c => ?_)
  · have h := h.1 c
    refine j_bipush C d_L_law_24 rfl ?_
    refine w_L_law_b26 C hN σ 36 hσ (zR_of (x := 36) rfl) h
  · have h := h.2 c
    refine j_aload_n C d_L_law_17 0 rfl rfl ?_
    refine j_slen C hN.1 d_L_law_18 ?_
    refine j_iconst C d_L_law_19 ?_
    obtain ⟨g52, h⟩ := h
    refine j_idiv C d_L_law_20 hN.2.2 g52 (zR_of (x := 3) rfl) (by decide) ?_
    refine j_goto (tgt := 26) C d_L_law_21 rfl ?_
    refine w_L_law_b26 C hN σ ((N : Int) / 3) hσ (zDiv_rg hN.2.2 g52 (zR_of (x := 3) rfl) (by decide)) h
end
section
/-! constructors: the abstract machine over a list of cells -/
def zJw (X : zX) (G : zG) (Q : State → Prop) (nL pc : Nat) (L : List (Nat × Value)) (st : List Value) (ws : va_W) (nc ns : Nat) : Prop :=
  ∀ (H : Heap) (locs : List Loc) (ls : Array Slot), lv_has ls nL L → va_P (gD G) zCl ws H → va_D (gA G) ws → va_S (gA G) (gH G) H locs → W (xp X) (xl X) (xe X) (xR X) (xs X) (xm X) (xa X) (xb X) (xt X) (xc X) H locs nc ns Q (F0 (xm X) pc ls st)
section K1
variable {X : zX} {G : zG} {Q : State → Prop} {nL pc pc' : Nat} {L L' : List (Nat × Value)} {st stk : List Value} {ws : va_W} {nc ns : Nat} {cc : ByteArray} {own : String} {ret : Option FieldType} {rF rL : Nat}
theorem q_sub (ks : List Nat) (hl : lv_pick L ks = L') (k : zJw X G Q nL pc L' st ws nc ns) : zJw X G Q nL pc L st ws nc ns := fun H locs ls hL hP hD hS => k H locs ls (lv_sub hL ks hl) hP hD hS
theorem q_iconst (C : zC X G cc own nL ret rF rL) {n : Int} (d : zd cc pc pc' (.iconst n) 1) (k : zJw X G Q nL pc' L (.int (zI n) :: st) ws nc ns) : zJw X G Q nL pc L st ws nc ns := by
  obtain ⟨d, rfl⟩ := d
  exact fun H locs ls hL hP hD hS => lv_iconst C.1 C.2.1 d rfl (k H locs ls hL hP hD hS)
theorem q_bipush (C : zC X G cc own nL ret rF rL) {n : Int} (d : zd cc pc pc' (.bipush n) 2) (hn : (decide (-128 ≤ n) && decide (n < 128)) = true) (k : zJw X G Q nL pc' L (.int (zI n) :: st) ws nc ns) : zJw X G Q nL pc L st ws nc ns := by
  obtain ⟨d, rfl⟩ := d
  exact fun H locs ls hL hP hD hS => lv_bipush C.1 C.2.1 d (zI_8 hn) (k H locs ls hL hP hD hS)
theorem q_sipush (C : zC X G cc own nL ret rF rL) {n : Int} (d : zd cc pc pc' (.sipush n) 3) (hn : (decide (-32768 ≤ n) && decide (n < 32768)) = true) (k : zJw X G Q nL pc' L (.int (zI n) :: st) ws nc ns) : zJw X G Q nL pc L st ws nc ns := by
  obtain ⟨d, rfl⟩ := d
  exact fun H locs ls hL hP hD hS => lv_sipush C.1 C.2.1 d (zI_16 hn) (k H locs ls hL hP hD hS)
theorem q_iload_n (C : zC X G cc own nL ret rF rL) {k : Fin 4} {i : Nat} {x : Int} (d : zd cc pc pc' (.iload_n k) 1) (a : Nat) (ha : L[a]? = some (i, .int (zI x))) (hi : (k : Nat) = i) (kk : zJw X G Q nL pc' L (.int (zI x) :: st) ws nc ns) : zJw X G Q nL pc L st ws nc ns := by
  obtain ⟨d, rfl⟩ := d
  exact fun H locs ls hL hP hD hS => lv_iload_n C.1 C.2.1 d hi (lv_at hL a ha) (kk H locs ls hL hP hD hS)
theorem q_aload_n (C : zC X G cc own nL ret rF rL) {k : Fin 4} {i x : Nat} (d : zd cc pc pc' (.aload_n k) 1) (a : Nat) (ha : L[a]? = some (i, .ref x)) (hi : (k : Nat) = i) (kk : zJw X G Q nL pc' L (.ref x :: st) ws nc ns) : zJw X G Q nL pc L st ws nc ns := by
  obtain ⟨d, rfl⟩ := d
  exact fun H locs ls hL hP hD hS => lv_aload_n C.1 C.2.1 d hi (lv_at hL a ha) (kk H locs ls hL hP hD hS)
theorem q_istore_n (C : zC X G cc own nL ret rF rL) {k : Fin 4} {i : Nat} {x : Int} (d : zd cc pc pc' (.istore_n k) 1) (hi : (k : Nat) = i) (hn : Nat.ble (i + 1) nL = true) (hl : (i, Value.int (zI x)) :: L.filter (fun q => !(q.1 == i) && !(q.1 + 1 == i && q.2.category == 2)) = L') (kk : zJw X G Q nL pc' L' st ws nc ns) : zJw X G Q nL pc L (.int (zI x) :: st) ws nc ns := by
  obtain ⟨d, rfl⟩ := d
  exact fun H locs ls hL hP hD hS => lv_istore_n C.1 C.2.1 d hi hL (Nat.le_of_ble_eq_true hn) hl (fun ls' hL' => kk H locs ls' hL' hP hD hS)
theorem q_astore_n (C : zC X G cc own nL ret rF rL) {k : Fin 4} {i x : Nat} (d : zd cc pc pc' (.astore_n k) 1) (hi : (k : Nat) = i) (hn : Nat.ble (i + 1) nL = true) (hl : (i, Value.ref x) :: L.filter (fun q => !(q.1 == i) && !(q.1 + 1 == i && q.2.category == 2)) = L') (kk : zJw X G Q nL pc' L' st ws nc ns) : zJw X G Q nL pc L (.ref x :: st) ws nc ns := by
  obtain ⟨d, rfl⟩ := d
  exact fun H locs ls hL hP hD hS => lv_astore_n C.1 C.2.1 d hi hL (Nat.le_of_ble_eq_true hn) hl (fun ls' hL' => kk H locs ls' hL' hP hD hS)
theorem q_iinc (C : zC X G cc own nL ret rF rL) {i : Nat} {n x : Int} (d : zd cc pc pc' (.iinc i n) 3) (a : Nat) (ha : L[a]? = some (i, .int (zI x))) (hn : Nat.ble (i + 1) nL = true) (hl : (i, Value.int (zI (x + n))) :: L.filter (fun q => !(q.1 == i) && !(q.1 + 1 == i && q.2.category == 2)) = L') (kk : zJw X G Q nL pc' L' st ws nc ns) : zJw X G Q nL pc L st ws nc ns := by
  obtain ⟨d, rfl⟩ := d
  exact fun H locs ls hL hP hD hS => lv_iinc C.1 C.2.1 d hL ha (by show zI x + Int32.ofInt n = zI (x + n); exact (Int32.ofInt_add x n).symm) (Nat.le_of_ble_eq_true hn) hl (fun ls' hL' => kk H locs ls' hL' hP hD hS)
theorem q_iadd (C : zC X G cc own nL ret rF rL) {x y : Int} (d : zd cc pc pc' .iadd 1) (k : zJw X G Q nL pc' L (.int (zI (x + y)) :: st) ws nc ns) : zJw X G Q nL pc L (.int (zI y) :: .int (zI x) :: st) ws nc ns := by
  obtain ⟨d, rfl⟩ := d
  exact fun H locs ls hL hP hD hS => lv_iadd C.1 C.2.1 d (by have := k H locs ls hL hP hD hS; rwa [show zI (x + y) = zI x + zI y from Int32.ofInt_add x y] at this)
theorem q_imul (C : zC X G cc own nL ret rF rL) {x y : Int} (d : zd cc pc pc' .imul 1) (k : zJw X G Q nL pc' L (.int (zI (x * y)) :: st) ws nc ns) : zJw X G Q nL pc L (.int (zI y) :: .int (zI x) :: st) ws nc ns := by
  obtain ⟨d, rfl⟩ := d
  exact fun H locs ls hL hP hD hS => lv_imul C.1 C.2.1 d (by have := k H locs ls hL hP hD hS; rwa [show zI (x * y) = zI x * zI y from Int32.ofInt_mul x y] at this)
theorem q_dup (C : zC X G cc own nL ret rF rL) {v : Value} (d : zd cc pc pc' .dup 1) (hv : v.category = 1) (k : zJw X G Q nL pc' L (v :: v :: st) ws nc ns) : zJw X G Q nL pc L (v :: st) ws nc ns := by
  obtain ⟨d, rfl⟩ := d
  exact fun H locs ls hL hP hD hS => lv_dup C.1 C.2.1 d hv (k H locs ls hL hP hD hS)
theorem q_goto (C : zC X G cc own nL ret rF rL) {off : Int} {tgt : Nat} (d : zd cc pc pc' (.goto off) 3) (ht : (pc : Int) + off = (tgt : Int)) (k : zJw X G Q nL tgt L st ws nc ns) : zJw X G Q nL pc L st ws nc ns := by
  obtain ⟨d, rfl⟩ := d
  exact fun H locs ls hL hP hD hS => lv_goto C.1 C.2.1 d ht (k H locs ls hL hP hD hS)
theorem q_icmp_ge (C : zC X G cc own nL ret rF rL) {x y : Int} {off : Int} {tgt : Nat} (d : zd cc pc pc' (.if_icmp .ge off) 3) (ht : (pc : Int) + off = (tgt : Int)) (hx : zR x) (hy : zR y) (kt : y ≤ x → zJw X G Q nL tgt L st ws nc ns) (kf : ¬ y ≤ x → zJw X G Q nL pc' L st ws nc ns) : zJw X G Q nL pc L (.int (zI y) :: .int (zI x) :: st) ws nc ns := by
  obtain ⟨d, rfl⟩ := d
  exact fun H locs ls hL hP hD hS => lv_icmp_ge C.1 C.2.1 d ht (fun h => kt ((zI_le hy hx).mp h) H locs ls hL hP hD hS) (fun h => kf (fun e => h ((zI_le hy hx).mpr e)) H locs ls hL hP hD hS)
end K1
def zNc : List (String × Nat × MethodName × String) := [("GateRoads", 29, ⟨"GateRoads$Pad", "<init>", "()V"⟩, "GateRoads"), ("GateRoads", 36, ⟨"GateRoads$Gates", "<init>", "()V"⟩, "GateRoads"), ("GateRoads", 43, ⟨"GateRoads$Onward", "<init>", "()V"⟩, "GateRoads"), ("GateRoads", 53, ⟨"GateRoads$Backward", "<init>", "()V"⟩, "GateRoads"), ("GateRoads", 60, ⟨"GateRoads$Fewest", "<init>", "()V"⟩, "GateRoads")]
/-- what a constructor may ask of the tables besides -/
def zKc (D : va_G) (ca : Nat → ClassId) (U : State) : Prop := zK D ca U ∧ va_AO "GateRoads$State" U ∧ ∀ q ∈ zNc, va_Nw (.methodLinkNest q.1 q.2.1 q.2.2.1 q.2.2.2) U
theorem zKc_moved {D : va_G} {ca : Nat → ClassId} {u U : State} (hW : u.WarmedH U.vm) (h : zKc D ca u) : zKc D ca U := ⟨zK_moved hW h.1, va_AO.moved hW.alike h.2.1, fun q hq => (h.2.2 q hq).warmM hW⟩
theorem zKc_calling {D : va_G} {ca : Nat → ClassId} {U : State} {g : JFrame} {mk : MethodId} {a : Array Value} (h : zKc D ca U) : zKc D ca (U.calling g mk a) := ⟨zK_calling h.1, va_AO.moved (u := U) (U := U.calling g mk a) (Vm.Alike.refl U.vm) h.2.1, fun q hq => (h.2.2 q hq).same rfl rfl⟩
/-- what a constructor's frame knows besides: its name, what is new is its own, the tables -/
def zCk (X : zX) (G : zG) : Prop := (xt X).name = "<init>" ∧ (∀ q, (gH G).size ≤ q → gA G q) ∧ zKc (gD G) (gca G) (xs X)
/-- the contract of a constructor: one object, blank; behind it the cells w1, of addresses that it chose -/
def zCn {S : Type} (l : Launch) (D : va_G) (ca : Nat → ClassId) (y : MethodName) (bytes : ByteArray) (maxL : Nat) (rm : Room) (h0 : Nat) (x0 : va_E) (sz : Nat) (w1 : S → va_W) : Prop :=
  Met l y (.code y bytes maxL none :: zTb) rm (va_Pc [.ref h0] (fun U => U.heap.size = sz ∧ va_P D zCl [(h0, x0)] U.heap ∧ zKc D ca U ∧ va_D (fun _ => True) [(h0, x0)])) (va_Qv (fun _ : S => True) (fun u t => va_P D zCl (w1 u) t.heap ∧ va_D (va_A [(h0, x0)] sz) (w1 u)) (va_A [(h0, x0)] sz)) rm.cells rm.slots (va_A [(h0, x0)] sz)
def zQn {S : Type} (X : zX) (G : zG) (rm : Room) (w1 : S → va_W) : State → Prop := MQ (xb X) (va_Qv (fun _ : S => True) (fun u t => va_P (gD G) zCl (w1 u) t.heap ∧ va_D (gA G) (w1 u)) (gA G)) (xa X) (xs X) rm.cells rm.slots (gA G)
theorem zCn_of {l : Launch} {D : va_G} {ca : Nat → ClassId} {y : MethodName} {bytes : ByteArray} {maxL h0 sz : Nat} {rm : Room} {x0 : va_E} {S : Type} {w1 : S → va_W} (hy : plainFor y = true) (hn : y.name = "<init>") (hl : 1 ≤ maxL)
    (body : ∀ (X : zX) (G : zG), zC X G bytes y.cls maxL none rm.frames rm.locals → zCk X G → xR X = rm → xl X = l → gD G = D → gca G = ca → zJw X G (zQn X G rm w1) maxL 0 [(0, .ref h0)] [] [(h0, x0)] 0 0) : zCn l D ca y bytes maxL rm h0 x0 sz w1 := by
  refine va_MetF (cc := bytes) (maxL := maxL) (ret := none) hy rfl ?_
  intro p e s m args below meth c s₁ B hml hv
  obtain ⟨rfl, hsz, hP, hK, hD0⟩ := hv
  have hts := atoms_spec (ws := Cond.code y bytes maxL none :: zTb) B.pre
  have hown : s.vm.findClass y.cls = some m.cls := findClass_of_methodNamed B.named
  have hin : meth.name = "<init>" := by rw [(name_of_methodNamed B.named B.method).1]; exact hn
  subst hsz
  have hD := hD0.self (sz := s.heap.size)
  have hl' := lv_entry [.ref h0] (n := maxL) hl
  rw [lg_entry_eq]
  have C : zC (p, l, e, rm, s, m, [Value.ref h0].toArray, below, meth, c) (D, (fun n => n), ca, va_A [(h0, x0)] s.heap.size, s.heap, 0, 0) bytes y.cls maxL none rm.frames rm.locals :=
    ⟨B.exec, B.bytes, hml, hown, fun w hw => hts w (List.mem_cons_of_mem _ hw), B.notSynchronized, B.returns, hK.1, Nat.zero_le _, Nat.zero_le _, rfl, Nat.le_refl _, Nat.le_refl _⟩
  exact body _ _ C ⟨hin, fun q h => Or.inr h, hK⟩ rfl rfl rfl rfl s.heap [] _ hl' hP hD va_S.rf
section K2
variable {X : zX} {G : zG} {Q : State → Prop} {nL pc pc' : Nat} {L L' : List (Nat × Value)} {st stk : List Value} {ws : va_W} {nc ns : Nat} {cc : ByteArray} {own : String} {ret : Option FieldType} {rF rL : Nat} {rr : Room}
theorem zWs_nd : ∀ n : Nat, va_nd (List.range n) = true
  | n => by
    have key : ∀ l : List Nat, l.Nodup → va_nd l = true := by
      intro l
      induction l with
      | nil => intro _; rfl
      | cons a l ih =>
        intro h
        rw [List.nodup_cons] at h
        simp only [va_nd, Bool.and_eq_true, decide_eq_true_eq]
        exact ⟨h.1, ih h.2⟩
    exact key _ List.nodup_range
theorem zWs_rng (ws w2 : va_W) : (List.range ws.length).map (fun i => (ws ++ w2)[i]?) = ws.map some := by
  apply List.ext_getElem?
  intro i
  rw [List.getElem?_map, List.getElem?_map]
  by_cases h : i < ws.length
  · rw [List.getElem?_range h, Option.map_some, List.getElem?_append_left h, List.getElem?_eq_getElem h]; rfl
  · rw [List.getElem?_eq_none (by simp; omega), List.getElem?_eq_none (by omega)]; rfl
theorem q_eq {ws' : va_W} (e : ws = ws') (k : zJw X G Q nL pc L st ws' nc ns) : zJw X G Q nL pc L st ws nc ns := by rw [e]; exact k
theorem zD_iff {A : Nat → Prop} {ws : va_W} : va_D A ws ↔ (ws.map Prod.fst).Nodup ∧ ∀ q ∈ ws, A q.1 := by
  constructor
  · intro h
    refine ⟨?_, fun q hq => ?_⟩
    · show List.Pairwise _ _
      rw [List.pairwise_iff_getElem]
      intro i j hi hj hij e
      rw [List.length_map] at hi hj
      rw [List.getElem_map, List.getElem_map] at e
      have := h.1 i j _ _ (List.getElem?_eq_getElem hi) (List.getElem?_eq_getElem hj) e
      omega
    · obtain ⟨k, hk⟩ := List.getElem?_of_mem hq
      exact h.2 k q hk
  · intro ⟨h1, h2⟩
    refine ⟨fun i j p q hi hj e => ?_, fun k q hk => h2 q (List.mem_of_getElem? hk)⟩
    have h1 : List.Pairwise (fun a b => a ≠ b) (ws.map Prod.fst) := h1
    rw [List.pairwise_iff_getElem] at h1
    obtain ⟨hli, ei⟩ := List.getElem?_eq_some_iff.mp hi
    obtain ⟨hlj, ej⟩ := List.getElem?_eq_some_iff.mp hj
    rcases Nat.lt_trichotomy i j with h | h | h
    · exact absurd (by rw [List.getElem_map, List.getElem_map, ei, ej]; exact e) (h1 i j (by rw [List.length_map]; exact hli) (by rw [List.length_map]; exact hlj) h)
    · exact h
    · exact absurd (by rw [List.getElem_map, List.getElem_map, ei, ej]; exact e.symm) (h1 j i (by rw [List.length_map]; exact hlj) (by rw [List.length_map]; exact hli) h)
theorem q_perm {ws' : va_W} (p : ws.Perm ws') (k : zJw X G Q nL pc L st ws' nc ns) : zJw X G Q nL pc L st ws nc ns := by
  intro H locs ls hL hP hD hS
  refine k H locs ls hL ?_ ?_ hS
  · intro i q hi
    obtain ⟨j, hj⟩ := List.getElem?_of_mem (p.mem_iff.mpr (List.mem_of_getElem? hi))
    exact hP j q hj
  · rw [zD_iff] at hD ⊢
    exact ⟨(p.map Prod.fst).nodup_iff.mp hD.1, fun q hq => hD.2 q (p.mem_iff.mpr hq)⟩
theorem zPmR (A R C : va_W) : ((A ++ R) ++ C).Perm (A ++ (C ++ R)) := by
  rw [List.append_assoc]
  exact List.Perm.append_left A List.perm_append_comm
theorem zPmA (A R C : va_W) : ((A ++ R) ++ C).Perm ((A ++ C) ++ R) := by
  rw [List.append_assoc, List.append_assoc]
  exact List.Perm.append_left A List.perm_append_comm
theorem q_objInit (C : zC X G cc own nL ret rF rL) {idx : Nat} (hl : Cond.methodLink own idx Lib.objectInit ∈ zTb) (hi : Cond.instanceMethod Lib.objectInit ∈ zTb) (hc : Cond.code Lib.objectInit ⟨#[0xb1]⟩ 1 none ∈ zTb) (d : zd cc pc pc' (.invokespecial idx) 3) (hf : Nat.ble 1 rF = true) (ho : Nat.ble 12 rL = true) {a : Nat} (k : zJw X G Q nL pc' L [] ws nc ns) : zJw X G Q nL pc L [.ref a] ws nc ns := by
  obtain ⟨d, rfl⟩ := d
  have hts := C.2.2.2.2.1
  intro H locs ls hL hP hD hS
  refine W.objInit C.1 C.2.1 C.2.2.2.1 (hts _ hl) (hts _ hi) (hts _ hc) rfl (by rw [C.2.2.1]; exact hL.1) rfl d (Nat.le_trans (Nat.le_of_ble_eq_true hf) C.2.2.2.2.2.2.2.2.2.2.2.1) (Nat.le_trans (Nat.le_of_ble_eq_true ho) C.2.2.2.2.2.2.2.2.2.2.2.2) ?_
  exact k H locs ls hL hP hD hS
theorem zRA_uniq {U : State} {c1 c2 : ClassId} {ty : FieldType} (h1 : va_RA U c1 ty) (h2 : va_RA U c2 ty) : c1 = c2 := by
  cases ty with
  | object C =>
    obtain ⟨_, _, _, _, _, h1⟩ := h1
    obtain ⟨_, _, _, _, _, h2⟩ := h2
    exact Option.some.inj (h1.symm.trans h2)
  | _ => exact Option.some.inj ((show _ = some c1 from h1).symm.trans (show _ = some c2 from h2))
theorem q_newa (C : zC X G cc own nL ret rF rL) (Kk : zCk X G) {atype : ArrayType} {ty : FieldType} {t N : Nat} {n : Int} (hw : Cond.arrayClass (newarray.typeOf atype) ∈ zTb) (hty : newarray.typeOf atype = ty) (ht : (zTy (gca G))[t]? = some (gca G t, ty)) (hdef : defaultValue ty = .int 0) (d : zd cc pc pc' (.newarray atype) 2) (hn : n = (N : Int)) (hN : Nat.ble N 30000 = true) (hR : xR X = rr) (hc : Nat.ble (nc + 1) rr.cells = true) (hs : Nat.ble (ns + N) rr.slots = true) (k : ∀ q : Nat, zJw X G Q nL pc' L (.ref q :: st) (ws ++ [(q, .inl (gca G t, (N, .inl (fun _ => 0))))]) (nc + 1) (ns + N)) : zJw X G Q nL pc L (.int (zI n) :: st) ws nc ns := by
  obtain ⟨d, rfl⟩ := d
  subst hn
  have hts := C.2.2.2.2.1
  have hN' := Nat.le_of_ble_eq_true hN
  have hr : zR (N : Int) := ⟨by omega, by omega⟩
  have hb4 : componentBytes ty ≤ 8 := by cases ty <;> simp [componentBytes] <;> omega
  intro H locs ls hL hP hD hS
  refine va_newa C.1 C.2.1 (hts _ hw) hty C.2.2.2.2.2.2.2.1.1 hP hD hS Kk.2.1 (N' := N) (a0 := (N, .inl (fun _ => 0))) (fun cA => by rw [hdef]; rfl) (zI_nn hr (by omega)) (by rw [zI_clamp (by omega) (by omega)]; omega) (Nat.le_trans (Nat.mul_le_mul hN' hb4) (by omega)) (by rw [hR]; exact Nat.le_of_ble_eq_true hc) (by rw [hR]; exact Nat.le_of_ble_eq_true hs) d (fun q cA H1 hK1 hP1 hD1 hS1 => ?_)
  have hcA : cA = gca G t := by
    have h4 := (hK1.2 4 (cA, ty) rfl).2
    have h0 := (C.2.2.2.2.2.2.2.1.1.2 t (gca G t, ty) ht).2
    exact zRA_uniq h4 h0
  subst hcA
  exact k q H1 locs ls hL hP1 hD1 hS1
theorem q_newq (C : zC X G cc own nL ret rF rL) (Kk : zCk X G) {N idx : Nat} {n : Int} (hl : Cond.classLink own idx "GateRoads$State" ∈ zTb) (d : zd cc pc pc' (.anewarray idx) 3) (hn : n = (N : Int)) (hN : Nat.ble N 30000 = true) (hR : xR X = rr) (hc : Nat.ble (nc + 1) rr.cells = true) (hs : Nat.ble (ns + N) rr.slots = true) (k : ∀ q : Nat, zJw X G Q nL pc' L (.ref q :: st) (ws ++ [(q, .inl (gca G 3, (N, .inr (.inr (.inr (.inr (fun _ => none)))))))]) (nc + 1) (ns + N)) : zJw X G Q nL pc L (.int (zI n) :: st) ws nc ns := by
  obtain ⟨d, rfl⟩ := d
  subst hn
  have hts := C.2.2.2.2.1
  have hN' := Nat.le_of_ble_eq_true hN
  have hr : zR (N : Int) := ⟨by omega, by omega⟩
  intro H locs ls hL hP hD hS
  refine va_newq C.1 C.2.1 C.2.2.2.1 (hts _ hl) Kk.2.2.2.1 C.2.2.2.2.2.2.2.1.1 hP hD hS Kk.2.1 (N' := N) (zI_nn hr (by omega)) (by rw [zI_clamp (by omega) (by omega)]; omega) (by omega) (by rw [hR]; exact Nat.le_of_ble_eq_true hc) (by rw [hR]; exact Nat.le_of_ble_eq_true hs) d (fun q cA H1 hK1 hP1 hD1 hS1 => ?_)
  have hcA : cA = gca G 3 := by
    have h4 := (hK1.2 4 (cA, .object "GateRoads$State") rfl).2
    have h0 := (C.2.2.2.2.2.2.2.1.1.2 3 (gca G 3, .object R_S) rfl).2
    exact zRA_uniq h4 h0
  subst hcA
  exact k q H1 locs ls hL hP1 hD1 hS1
theorem q_new (C : zC X G cc own nL ret rF rL) (Kk : ∀ q, (gH G).size ≤ q → gA G q) {idx ci N : Nat} {c : String} {T : u_T} (t : Nat → FieldType) {fs : List Value} (hty : ∀ k, k < N → parseFieldDescriptor (T k).2.2.1 = some (t k)) (hin : ∀ w ∈ u_ws c T N, w ∈ zTb) (hl : Cond.classLink own idx c ∈ zTb) (hi : Cond.instantiable c N ∈ zTb) (hini : Cond.initialized c ∈ zTb) (hc : zCl[ci]? = some (c, T, N)) (hfs : ∀ j, j < N → defaultValue (t j) = vp_V fs j) (d : zd cc pc pc' (.new idx) 3) (hR : xR X = rr) (hcc : Nat.ble (nc + 1) rr.cells = true) (hs : Nat.ble (ns + N) rr.slots = true) (k : ∀ q : Nat, zJw X G Q nL pc' L (.ref q :: st) (ws ++ [(q, .inr (ci, fs))]) (nc + 1) (ns + N)) : zJw X G Q nL pc L st ws nc ns := by
  obtain ⟨d, rfl⟩ := d
  have hts := C.2.2.2.2.1
  intro H locs ls hL hP hD hS
  exact va_new C.1 C.2.1 hts hin t hty C.2.2.2.1 (hts _ hl) (hts _ hi) (hts _ hini) C.2.2.2.2.2.2.2.1.1 hP hD hS Kk hc hfs (by rw [hR]; exact Nat.le_of_ble_eq_true hcc) (by rw [hR]; exact Nat.le_of_ble_eq_true hs) d (fun q H1 hP1 hD1 hS1 => k q H1 locs ls hL hP1 hD1 hS1)
theorem q_putF (C : zC X G cc own nL ret rF rL) (Kk : zCk X G) {h q0 ci kf idx N v : Nat} {fs : List Value} {T : u_T} {c : String} (t : Nat → FieldType) (d : zd cc pc pc' (.putfield idx) 3) (he : ws[q0]? = some (h, .inr (ci, fs))) (hc : zCl[ci]? = some (c, T, N)) (hin : ∀ w ∈ u_ws c T N, w ∈ zTb) (hty : ∀ k, k < N → parseFieldDescriptor (T k).2.2.1 = some (t k)) (hnm : ∀ a, a < N → ∀ b, b < N → a ≠ b → (T a).2.1 ≠ (T b).2.1) (hk : Nat.ble (kf + 1) N = true) (hl : Cond.fieldLink own idx (T kf).1 (T kf).2.1 (T kf).2.2.1 ∈ zTb) (hfin : (T kf).2.2.2 = true) (hdecl : (T kf).1 = own) (hn : narrow (t kf) (.ref v) = .ref v) (hfit : fits (t kf) (.ref v) = true) (hlen : Nat.ble (kf + 1) fs.length = true) {ws' : va_W} (hw : ws.set q0 (h, .inr (ci, fs.set kf (.ref v))) = ws') (k : zJw X G Q nL pc' L st ws' nc ns) : zJw X G Q nL pc L (.ref v :: .ref h :: st) ws nc ns := by
  obtain ⟨d, rfl⟩ := d
  subst hw
  have hts := C.2.2.2.2.1
  have hkN := Nat.le_of_ble_eq_true hk
  intro H locs ls hL hP hD hS
  exact va_putF C.1 C.2.1 hts hin t hty hnm C.2.2.2.1 C.2.2.2.2.2.2.2.1.1 hP hD hS q0 he hc kf hkN (hts _ hl) (fun _ h => h) hfin Kk.1 hdecl (hty kf hkN) hn hfit (Nat.le_of_ble_eq_true hlen) d (fun H1 locs1 hP1 hD1 hS1 => k H1 locs1 ls hL hP1 hD1 hS1)
theorem q_getr (C : zC X G cc own nL ret rF rL) {h q0 ci kf idx N v : Nat} {fs : List Value} {T : u_T} {c : String} (d : zd cc pc pc' (.getfield idx) 3) (he : ws[q0]? = some (h, .inr (ci, fs))) (hc : zCl[ci]? = some (c, T, N)) (hin : ∀ w ∈ u_ws c T N, w ∈ zTb) (hk : Nat.ble (kf + 1) N = true) (hl : Cond.fieldLink own idx (T kf).1 (T kf).2.1 (T kf).2.2.1 ∈ zTb) (hv : fs[kf]? = some (.ref v)) (k : zJw X G Q nL pc' L (.ref v :: st) ws nc ns) : zJw X G Q nL pc L (.ref h :: st) ws nc ns := by
  obtain ⟨d, rfl⟩ := d
  have hts := C.2.2.2.2.1
  intro H locs ls hL hP hD hS
  exact va_get C.1 C.2.1 hts hin C.2.2.2.1 C.2.2.2.2.2.2.2.1.1 hP q0 he hc kf (Nat.le_of_ble_eq_true hk) (hts _ hl) (fun _ h => h) hv d (k H locs ls hL hP hD hS)
theorem q_iastore (C : zC X G cc own nL ret rF rL) {a q0 len : Nat} {f : Nat → Int32} {i v : Int} (d : zd cc pc pc' .iastore 1) (ha : ws[q0]? = some (a, .inl (gca G 0, (len, .inl f)))) (h : 0 ≤ i ∧ i < (len : Int)) (hlen : Nat.ble len 100000 = true) {ws' : va_W} (hw : ws.set q0 (a, .inl (gca G 0, (len, .inl (upd f i.toNat (zI v))))) = ws') (k : zJw X G Q nL pc' L st ws' nc ns) : zJw X G Q nL pc L (.int (zI v) :: .int (zI i) :: .ref a :: st) ws nc ns := by
  obtain ⟨d, rfl⟩ := d
  subst hw
  obtain ⟨h1, h2, h3⟩ := zI_ix h (Nat.le_of_ble_eq_true hlen)
  intro H locs ls hL hP hD hS
  refine va_iast C.1 C.2.1 C.2.2.2.2.2.2.2.1.1 hP hD hS q0 0 ha rfl h1 d (fun H1 locs1 hP1 hD1 hS1 => ?_)
  rw [h2] at hP1 hD1
  exact k H1 locs1 ls hL hP1 hD1 hS1
theorem q_aastore (C : zC X G cc own nL ret rF rL) {a v q0 qk len : Nat} {vs : List Value} {f : Nat → Option Nat} {i : Int} (d : zd cc pc pc' .aastore 1) (ha : ws[q0]? = some (a, .inl (gca G 3, (len, .inr (.inr (.inr (.inr f))))))) (hv : ws[qk]? = some (v, .inr (0, vs))) (h : 0 ≤ i ∧ i < (len : Int)) (hlen : Nat.ble len 100000 = true) {ws' : va_W} (hw : ws.set q0 (a, .inl (gca G 3, (len, .inr (.inr (.inr (.inr (va_up f i.toNat (some v)))))))) = ws') (k : zJw X G Q nL pc' L st ws' nc ns) : zJw X G Q nL pc L (.ref v :: .int (zI i) :: .ref a :: st) ws nc ns := by
  obtain ⟨d, rfl⟩ := d
  subst hw
  obtain ⟨h1, h2, h3⟩ := zI_ix h (Nat.le_of_ble_eq_true hlen)
  intro H locs ls hL hP hD hS
  refine va_astq C.1 C.2.1 C.2.2.2.2.2.2.2.1.1 hP hD hS q0 3 qk 0 (r := (R_S, F_S, 8)) ha rfl hv rfl h1 d (fun H1 locs1 hP1 hD1 hS1 => ?_)
  rw [h2] at hP1 hD1
  exact k H1 locs1 ls hL hP1 hD1 hS1
theorem q_vreturn (C : zC X G cc own nL none rF rL) {rm : Room} {S : Type} {w1 : S → va_W} (u : S) (d : zd cc pc pc' .return_ 1) (hw : w1 u = ws) (hc : rm.cells = nc) (hs : rm.slots = ns) : zJw X G (zQn X G rm w1) nL pc L [] ws nc ns := by
  obtain ⟨d, rfl⟩ := d
  subst hw; subst hc; subst hs
  obtain ⟨hx, hb, -, -, -, hlk, hr, -, -, -, hH, -⟩ := C
  intro H locs ls hL hP hD hS
  refine W.vret hx hb hr (fun t ht hW => ⟨⟨u, rfl, trivial, by rw [ht]; exact hP, hD⟩, ?_⟩) hS.2.2 d hlk
  rw [hH] at hS
  exact hS.F ht
/-- what stands behind a list's last place -/
theorem zWs_last {ws : va_W} {x : Nat × va_E} : (ws ++ [x])[ws.length]? = some x := by simp
theorem q_callI (C : zC X G cc own nL ret rF rL) (Kk : ∀ q, (gH G).size ≤ q → gA G q) (Kc : zKc (gD G) (gca G) (xs X)) {y : MethodName} {bytes : ByteArray} {maxL idx h0 : Nat} {rm : Room} {x0 : va_E} {S : Type} {w1 : S → va_W} (d : zd cc pc pc' (.invokespecial idx) 3) (hM : ∀ sz, zCn (xl X) (gD G) (gca G) y bytes maxL rm h0 x0 sz w1) (hl : Cond.methodLink own idx y ∈ zTb) (hi : Cond.instanceMethod y ∈ zTb) (hini : Cond.initialized y.cls ∈ zTb) (hcode : Cond.code y bytes maxL none ∈ zTb) (hd : y.cls ≠ "java/lang/invoke/MethodHandle" ∧ y.cls ≠ "java/lang/invoke/VarHandle" ∧ (parseMethodDescriptor y.desc).map (fun d => d.parameters.length) = some 0) (hyn : y.name = "<init>") (hcat : Nat.ble (st.map fun v => v.category).sum 8 = true) (hR : xR X = rr) (hf : Nat.ble (rm.frames + 1) rr.frames = true) (ho : Nat.ble (8 + (maxL + 11) + rm.locals) rr.locals = true) (hcc : Nat.ble (nc + rm.cells) rr.cells = true) (hss : Nat.ble (ns + rm.slots) rr.slots = true) (k : ∀ u, zJw X G Q nL pc' L st (ws ++ w1 u) (nc + rm.cells) (ns + rm.slots)) : zJw X G Q nL pc L (.ref h0 :: st) (ws ++ [(h0, x0)]) nc ns := by
  obtain ⟨d, rfl⟩ := d
  have hts := C.2.2.2.2.1
  intro H locs ls hL hP hD hS
  have hlast : (ws ++ [(h0, x0)])[ws.length]? = some (h0, x0) := zWs_last
  have hPc : va_P (gD G) zCl [(h0, x0)] H := hP.sub [ws.length] (by simp)
  have hDc : va_D (gA G) [(h0, x0)] := hD.sub [ws.length] rfl (by simp)
  have hFc := va_free (wc := [(h0, x0)]) hD hS Kk [ws.length] (by simp)
  refine va_callv (va_runI (As := []) (rest := st) (b := h0) ⟨C.1, C.2.1, C.2.2.1, C.2.2.2.1, hts⟩ (hM H.size) ⟨callB_of (rm := rm) 0 hts (zGoodIn hcode) rfl rfl rfl (hts _ hini) (hts _ hl) hd ⟨by rw [hR]; exact Nat.le_of_ble_eq_true hf, by rw [hR]; exact Nat.le_of_ble_eq_true ho⟩, hyn, hts _ hi⟩ ⟨fun a U g mk q => ⟨q.1, q.2.1, q.2.2.1, zKc_calling q.2.2.2.1, q.2.2.2.2⟩, fun U hU hW => ⟨rfl, by rw [hU], by rw [hU]; exact hPc, zKc_moved hW Kc, hDc.weaken (fun _ _ _ _ => trivial)⟩⟩ rfl rfl hL.1 rfl (lv_room (Nat.le_of_ble_eq_true hcat)) d ⟨by rw [hR]; exact Nat.le_of_ble_eq_true hcc, by rw [hR]; exact Nat.le_of_ble_eq_true hss⟩) hS (fun q _ h => hFc q h) hFc (fun u t H1 locs1 ht hvm hw hB hz1 hk1 hS1 => ?_)
  obtain ⟨hP1, hD1⟩ := hB
  rw [ht] at hP1
  obtain ⟨hP', hD'⟩ := va_join (wr := ws) (wc := [(h0, x0)]) (w1 := w1 u) hP hD [ws.length] (List.range ws.length) (by simp) (zWs_rng ws _) (zWs_nd ws.length) (fun i hi => by simp at hi ⊢; omega) hk1 hFc hP1 hD1
  exact k u H1 locs1 ls hL hP' hD' hS1
theorem q_callIN {host : String} (C : zC X G cc own nL ret rF rL) (Kk : ∀ q, (gH G).size ≤ q → gA G q) (Kc : zKc (gD G) (gca G) (xs X)) {y : MethodName} {bytes : ByteArray} {maxL idx h0 : Nat} {rm : Room} {x0 : va_E} {S : Type} {w1 : S → va_W} (d : zd cc pc pc' (.invokespecial idx) 3) (hM : ∀ sz, zCn (xl X) (gD G) (gca G) y bytes maxL rm h0 x0 sz w1) (hl : (own, idx, y, host) ∈ zNc) (hi : Cond.instanceMethod y ∈ zTb) (hini : Cond.initialized y.cls ∈ zTb) (hcode : Cond.code y bytes maxL none ∈ zTb) (hd : y.cls ≠ "java/lang/invoke/MethodHandle" ∧ y.cls ≠ "java/lang/invoke/VarHandle" ∧ (parseMethodDescriptor y.desc).map (fun d => d.parameters.length) = some 0) (hyn : y.name = "<init>") (hcat : Nat.ble (st.map fun v => v.category).sum 8 = true) (hR : xR X = rr) (hf : Nat.ble (rm.frames + 1) rr.frames = true) (ho : Nat.ble (8 + (maxL + 11) + rm.locals) rr.locals = true) (hcc : Nat.ble (nc + rm.cells) rr.cells = true) (hss : Nat.ble (ns + rm.slots) rr.slots = true) (k : ∀ u, zJw X G Q nL pc' L st (ws ++ w1 u) (nc + rm.cells) (ns + rm.slots)) : zJw X G Q nL pc L (.ref h0 :: st) (ws ++ [(h0, x0)]) nc ns := by
  obtain ⟨d, rfl⟩ := d
  have hts := C.2.2.2.2.1
  intro H locs ls hL hP hD hS
  have hlast : (ws ++ [(h0, x0)])[ws.length]? = some (h0, x0) := zWs_last
  have hPc : va_P (gD G) zCl [(h0, x0)] H := hP.sub [ws.length] (by simp)
  have hDc : va_D (gA G) [(h0, x0)] := hD.sub [ws.length] rfl (by simp)
  have hFc := va_free (wc := [(h0, x0)]) hD hS Kk [ws.length] (by simp)
  refine va_callv (va_runIN (host := host) (As := []) (rest := st) (b := h0) ⟨C.1, C.2.1, C.2.2.1, C.2.2.2.1, hts⟩ (hM H.size) ⟨va_cnB (rm := rm) 0 hts (zGoodIn hcode) rfl rfl rfl (Kc.2.2 _ hl) (hts _ hini) hd ⟨by rw [hR]; exact Nat.le_of_ble_eq_true hf, by rw [hR]; exact Nat.le_of_ble_eq_true ho⟩, hyn, hts _ hi⟩ ⟨fun a U g mk q => ⟨q.1, q.2.1, q.2.2.1, zKc_calling q.2.2.2.1, q.2.2.2.2⟩, fun U hU hW => ⟨rfl, by rw [hU], by rw [hU]; exact hPc, zKc_moved hW Kc, hDc.weaken (fun _ _ _ _ => trivial)⟩⟩ rfl rfl hL.1 rfl (lv_room (Nat.le_of_ble_eq_true hcat)) d ⟨by rw [hR]; exact Nat.le_of_ble_eq_true hcc, by rw [hR]; exact Nat.le_of_ble_eq_true hss⟩) hS (fun q _ h => hFc q h) hFc (fun u t H1 locs1 ht hvm hw hB hz1 hk1 hS1 => ?_)
  obtain ⟨hP1, hD1⟩ := hB
  rw [ht] at hP1
  obtain ⟨hP', hD'⟩ := va_join (wr := ws) (wc := [(h0, x0)]) (w1 := w1 u) hP hD [ws.length] (List.range ws.length) (by simp) (zWs_rng ws _) (zWs_nd ws.length) (fun i hi => by simp at hi ⊢; omega) hk1 hFc hP1 hD1
  exact k u H1 locs1 ls hL hP' hD' hS1
end K2
end
section
set_option maxRecDepth 100000 in
theorem zo_i : Cond.instanceMethod Lib.objectInit ∈ zTb := tw_1 17 rfl rfl
set_option maxRecDepth 100000 in
theorem zo_c : Cond.code Lib.objectInit ⟨#[0xb1]⟩ 1 none ∈ zTb := tw_1 18 rfl rfl
set_option maxRecDepth 100000 in
theorem za_int : Cond.arrayClass (newarray.typeOf .int) ∈ zTb := tw_1 58 rfl rfl
set_option maxRecDepth 100000 in
theorem za_boolean : Cond.arrayClass (newarray.typeOf .boolean) ∈ zTb := tw_1 89 rfl rfl
set_option maxRecDepth 100000 in
theorem za_char : Cond.arrayClass (newarray.typeOf .char) ∈ zTb := tw_1 90 rfl rfl
set_option maxRecDepth 100000 in
theorem zl_S : Cond.methodLink "GateRoads$State" 3 Lib.objectInit ∈ zTb := tw_1 24 rfl rfl
set_option maxRecDepth 100000 in
theorem zm_S : Cond.instanceMethod y_S_init ∈ zTb := tw_1 22 rfl rfl
set_option maxRecDepth 100000 in
theorem zk_S : Cond.code y_S_init b_S_init 2 none ∈ zTb := tw_1 23 rfl rfl
set_option maxRecDepth 100000 in
theorem zy_S : Cond.initialized (y_S_init).cls ∈ zTb := tw_1 2 rfl rfl
set_option maxRecDepth 100000 in
theorem zt_S : Cond.instantiable R_S 8 ∈ zTb := tw_1 20 rfl rfl
theorem zd_S : (y_S_init).cls ≠ "java/lang/invoke/MethodHandle" ∧ (y_S_init).cls ≠ "java/lang/invoke/VarHandle" ∧ (parseMethodDescriptor (y_S_init).desc).map (fun d => d.parameters.length) = some 0 := ⟨by decide, by decide, by decide +kernel⟩
abbrev zb_S : List Value := [.null, .null, .null, .null, .null, .int (zI 0), .int (zI 0), .int (zI 0)]
theorem zf_S : ∀ j, j < 8 → defaultValue (t_S j) = vp_V zb_S j := by
  intro j hj
  rcases (show j = 0 ∨ j = 1 ∨ j = 2 ∨ j = 3 ∨ j = 4 ∨ j = 5 ∨ j = 6 ∨ j = 7 by omega) with rfl | rfl | rfl | rfl | rfl | rfl | rfl | rfl
  · rfl
  · rfl
  · rfl
  · rfl
  · rfl
  · rfl
  · rfl
  · rfl
set_option maxRecDepth 100000 in
theorem zl_X : Cond.methodLink "GateRoads" 3 Lib.objectInit ∈ zTb := tw_1 16 rfl rfl
set_option maxRecDepth 100000 in
theorem zm_X : Cond.instanceMethod y_X_init ∈ zTb := tw_1 14 rfl rfl
set_option maxRecDepth 100000 in
theorem zk_X : Cond.code y_X_init b_X_init 2 none ∈ zTb := tw_1 15 rfl rfl
set_option maxRecDepth 100000 in
theorem zy_X : Cond.initialized (y_X_init).cls ∈ zTb := tw_1 1 rfl rfl
set_option maxRecDepth 100000 in
theorem zt_X : Cond.instantiable R_X 13 ∈ zTb := tw_1 12 rfl rfl
theorem zd_X : (y_X_init).cls ≠ "java/lang/invoke/MethodHandle" ∧ (y_X_init).cls ≠ "java/lang/invoke/VarHandle" ∧ (parseMethodDescriptor (y_X_init).desc).map (fun d => d.parameters.length) = some 0 := ⟨by decide, by decide, by decide +kernel⟩
abbrev zb_X : List Value := [.null, .null, .int (zI 0), .null, .null, .int (zI 0), .null, .int (zI 0), .null, .null, .null, .null, .null]
theorem zf_X : ∀ j, j < 13 → defaultValue (t_X j) = vp_V zb_X j := by
  intro j hj
  rcases (show j = 0 ∨ j = 1 ∨ j = 2 ∨ j = 3 ∨ j = 4 ∨ j = 5 ∨ j = 6 ∨ j = 7 ∨ j = 8 ∨ j = 9 ∨ j = 10 ∨ j = 11 ∨ j = 12 by omega) with rfl | rfl | rfl | rfl | rfl | rfl | rfl | rfl | rfl | rfl | rfl | rfl | rfl
  · rfl
  · rfl
  · rfl
  · rfl
  · rfl
  · rfl
  · rfl
  · rfl
  · rfl
  · rfl
  · rfl
  · rfl
  · rfl
set_option maxRecDepth 100000 in
theorem zl_P : Cond.methodLink "GateRoads$Pad" 3 Lib.objectInit ∈ zTb := tw_1 65 rfl rfl
set_option maxRecDepth 100000 in
theorem zm_P : Cond.instanceMethod y_P_init ∈ zTb := tw_1 63 rfl rfl
set_option maxRecDepth 100000 in
theorem zk_P : Cond.code y_P_init b_P_init 1 none ∈ zTb := tw_1 64 rfl rfl
set_option maxRecDepth 100000 in
theorem zy_P : Cond.initialized (y_P_init).cls ∈ zTb := tw_1 3 rfl rfl
set_option maxRecDepth 100000 in
theorem zt_P : Cond.instantiable R_P 9 ∈ zTb := tw_1 61 rfl rfl
theorem zd_P : (y_P_init).cls ≠ "java/lang/invoke/MethodHandle" ∧ (y_P_init).cls ≠ "java/lang/invoke/VarHandle" ∧ (parseMethodDescriptor (y_P_init).desc).map (fun d => d.parameters.length) = some 0 := ⟨by decide, by decide, by decide +kernel⟩
abbrev zb_P : List Value := [.null, .int (zI 0), .int (zI 0), .int (zI 0), .int (zI 0), .null, .null, .int (zI 0), .int (zI 0)]
theorem zf_P : ∀ j, j < 9 → defaultValue (t_P j) = vp_V zb_P j := by
  intro j hj
  rcases (show j = 0 ∨ j = 1 ∨ j = 2 ∨ j = 3 ∨ j = 4 ∨ j = 5 ∨ j = 6 ∨ j = 7 ∨ j = 8 by omega) with rfl | rfl | rfl | rfl | rfl | rfl | rfl | rfl | rfl
  · rfl
  · rfl
  · rfl
  · rfl
  · rfl
  · rfl
  · rfl
  · rfl
  · rfl
set_option maxRecDepth 100000 in
theorem zl_G : Cond.methodLink "GateRoads$Gates" 3 Lib.objectInit ∈ zTb := tw_1 96 rfl rfl
set_option maxRecDepth 100000 in
theorem zm_G : Cond.instanceMethod y_G_init ∈ zTb := tw_1 94 rfl rfl
set_option maxRecDepth 100000 in
theorem zk_G : Cond.code y_G_init b_G_init 1 none ∈ zTb := tw_1 95 rfl rfl
set_option maxRecDepth 100000 in
theorem zy_G : Cond.initialized (y_G_init).cls ∈ zTb := tw_1 4 rfl rfl
set_option maxRecDepth 100000 in
theorem zt_G : Cond.instantiable R_G 2 ∈ zTb := tw_1 92 rfl rfl
theorem zd_G : (y_G_init).cls ≠ "java/lang/invoke/MethodHandle" ∧ (y_G_init).cls ≠ "java/lang/invoke/VarHandle" ∧ (parseMethodDescriptor (y_G_init).desc).map (fun d => d.parameters.length) = some 0 := ⟨by decide, by decide, by decide +kernel⟩
abbrev zb_G : List Value := [.null, .int (zI 0)]
theorem zf_G : ∀ j, j < 2 → defaultValue (t_G j) = vp_V zb_G j := by
  intro j hj
  rcases (show j = 0 ∨ j = 1 by omega) with rfl | rfl
  · rfl
  · rfl
set_option maxRecDepth 100000 in
theorem zl_O : Cond.methodLink "GateRoads$Onward" 3 Lib.objectInit ∈ zTb := tw_1 110 rfl rfl
set_option maxRecDepth 100000 in
theorem zm_O : Cond.instanceMethod y_O_init ∈ zTb := tw_1 108 rfl rfl
set_option maxRecDepth 100000 in
theorem zk_O : Cond.code y_O_init b_O_init 1 none ∈ zTb := tw_1 109 rfl rfl
set_option maxRecDepth 100000 in
theorem zy_O : Cond.initialized (y_O_init).cls ∈ zTb := tw_1 5 rfl rfl
set_option maxRecDepth 100000 in
theorem zt_O : Cond.instantiable R_O 2 ∈ zTb := tw_1 106 rfl rfl
theorem zd_O : (y_O_init).cls ≠ "java/lang/invoke/MethodHandle" ∧ (y_O_init).cls ≠ "java/lang/invoke/VarHandle" ∧ (parseMethodDescriptor (y_O_init).desc).map (fun d => d.parameters.length) = some 0 := ⟨by decide, by decide, by decide +kernel⟩
abbrev zb_O : List Value := [.null, .null]
theorem zf_O : ∀ j, j < 2 → defaultValue (t_O j) = vp_V zb_O j := by
  intro j hj
  rcases (show j = 0 ∨ j = 1 by omega) with rfl | rfl
  · rfl
  · rfl
set_option maxRecDepth 100000 in
theorem zl_B : Cond.methodLink "GateRoads$Backward" 3 Lib.objectInit ∈ zTb := tw_1 123 rfl rfl
set_option maxRecDepth 100000 in
theorem zm_B : Cond.instanceMethod y_B_init ∈ zTb := tw_1 121 rfl rfl
set_option maxRecDepth 100000 in
theorem zk_B : Cond.code y_B_init b_B_init 1 none ∈ zTb := tw_1 122 rfl rfl
set_option maxRecDepth 100000 in
theorem zy_B : Cond.initialized (y_B_init).cls ∈ zTb := tw_1 6 rfl rfl
set_option maxRecDepth 100000 in
theorem zt_B : Cond.instantiable R_B 4 ∈ zTb := tw_1 119 rfl rfl
theorem zd_B : (y_B_init).cls ≠ "java/lang/invoke/MethodHandle" ∧ (y_B_init).cls ≠ "java/lang/invoke/VarHandle" ∧ (parseMethodDescriptor (y_B_init).desc).map (fun d => d.parameters.length) = some 0 := ⟨by decide, by decide, by decide +kernel⟩
abbrev zb_B : List Value := [.null, .null, .int (zI 0), .int (zI 0)]
theorem zf_B : ∀ j, j < 4 → defaultValue (t_B j) = vp_V zb_B j := by
  intro j hj
  rcases (show j = 0 ∨ j = 1 ∨ j = 2 ∨ j = 3 by omega) with rfl | rfl | rfl | rfl
  · rfl
  · rfl
  · rfl
  · rfl
set_option maxRecDepth 100000 in
theorem zl_F : Cond.methodLink "GateRoads$Fewest" 3 Lib.objectInit ∈ zTb := tw_1 140 rfl rfl
set_option maxRecDepth 100000 in
theorem zm_F : Cond.instanceMethod y_F_init ∈ zTb := tw_1 138 rfl rfl
set_option maxRecDepth 100000 in
theorem zk_F : Cond.code y_F_init b_F_init 1 none ∈ zTb := tw_1 139 rfl rfl
set_option maxRecDepth 100000 in
theorem zy_F : Cond.initialized (y_F_init).cls ∈ zTb := tw_1 7 rfl rfl
set_option maxRecDepth 100000 in
theorem zt_F : Cond.instantiable R_F 5 ∈ zTb := tw_1 136 rfl rfl
theorem zd_F : (y_F_init).cls ≠ "java/lang/invoke/MethodHandle" ∧ (y_F_init).cls ≠ "java/lang/invoke/VarHandle" ∧ (parseMethodDescriptor (y_F_init).desc).map (fun d => d.parameters.length) = some 0 := ⟨by decide, by decide, by decide +kernel⟩
abbrev zb_F : List Value := [.null, .null, .null, .null, .null]
theorem zf_F : ∀ j, j < 5 → defaultValue (t_F j) = vp_V zb_F j := by
  intro j hj
  rcases (show j = 0 ∨ j = 1 ∨ j = 2 ∨ j = 3 ∨ j = 4 by omega) with rfl | rfl | rfl | rfl | rfl
  · rfl
  · rfl
  · rfl
  · rfl
  · rfl
set_option maxRecDepth 100000 in
theorem zc_L_14 : Cond.classLink "GateRoadsLaw" 14 "GateRoads" ∈ zTb := tw_1 11 rfl rfl
set_option maxRecDepth 100000 in
theorem zc_X_9 : Cond.classLink "GateRoads" 9 "GateRoads$State" ∈ zTb := tw_1 19 rfl rfl
set_option maxRecDepth 100000 in
theorem zc_X_27 : Cond.classLink "GateRoads" 27 "GateRoads$Pad" ∈ zTb := tw_1 60 rfl rfl
set_option maxRecDepth 100000 in
theorem zc_X_34 : Cond.classLink "GateRoads" 34 "GateRoads$Gates" ∈ zTb := tw_1 91 rfl rfl
set_option maxRecDepth 100000 in
theorem zc_X_41 : Cond.classLink "GateRoads" 41 "GateRoads$Onward" ∈ zTb := tw_1 105 rfl rfl
set_option maxRecDepth 100000 in
theorem zc_X_51 : Cond.classLink "GateRoads" 51 "GateRoads$Backward" ∈ zTb := tw_1 118 rfl rfl
set_option maxRecDepth 100000 in
theorem zc_X_58 : Cond.classLink "GateRoads" 58 "GateRoads$Fewest" ∈ zTb := tw_1 135 rfl rfl
def zRmF (o : Nat) (k : Nat) : Nat → Int32 := fun j => if o ≤ j ∧ j < o + 3 * k then (if (j - o) % 3 = 1 then zI 1440 else if (j - o) % 3 = 2 then zI 1000 else 0) else 0
theorem zRmF_0 (o : Nat) : zRmF o 0 = fun _ => 0 := by
  funext j
  unfold zRmF
  rw [if_neg (by omega)]
theorem zRmF_s (o k : Nat) : upd (upd (zRmF o k) (o + 3 * k + 1) (zI 1440)) (o + 3 * k + 2) (zI 1000) = zRmF o (k + 1) := by
  funext j
  unfold upd zRmF
  by_cases h2 : j = o + 3 * k + 2
  · rw [if_pos h2, if_pos ⟨by omega, by omega⟩, if_neg (by omega), if_pos (by omega)]
  · rw [if_neg h2]
    by_cases h1 : j = o + 3 * k + 1
    · rw [if_pos h1, if_pos ⟨by omega, by omega⟩, if_pos (by omega)]
    · rw [if_neg h1]
      by_cases h0 : j = o + 3 * k
      · rw [if_neg (by omega), if_pos ⟨by omega, by omega⟩, if_neg (by omega), if_neg (by omega)]
      · by_cases hj : o ≤ j ∧ j < o + 3 * k
        · have hj2 : o ≤ j ∧ j < o + 3 * (k + 1) := ⟨by omega, by omega⟩
          simp only [if_pos hj, if_pos hj2]
        · have hj2 : ¬ (o ≤ j ∧ j < o + 3 * (k + 1)) := by omega
          simp only [if_neg hj, if_neg hj2]
def zr_S : Room := { frames := 1, cells := 5, slots := 452, locals := 20 }
def w_S (ca : Nat → ClassId) (h0 : Nat) (u : Nat → Nat) : va_W := [(h0, .inr (0, [.ref (u 0), .ref (u 1), .ref (u 2), .ref (u 3), .ref (u 4), .int (zI 0), .int (zI 0), .int (zI 0)])), (u 0, .inl (ca 0, (24, .inl (zRmF 0 8)))), (u 1, .inl (ca 0, (264, .inl (fun _ => 0)))), (u 2, .inl (ca 0, (24, .inl (fun _ => 0)))), (u 3, .inl (ca 0, (60, .inl (fun _ => 0)))), (u 4, .inl (ca 0, (80, .inl (fun _ => 0))))]
set_option maxRecDepth 100000 in
set_option maxHeartbeats 4000000 in
theorem w_S_init_L {X : zX} {G : zG} (C : zC X G b_S_init "GateRoads$State" 2 none 1 20) (Kk : zCk X G) {h0 q0 q1 q2 q3 q4 : Nat} {Q : State → Prop} (hQ : zJw X G Q 2 85 [(0, .ref h0)] [] ([(h0, .inr (0, [.ref q0, .ref q1, .ref q2, .ref q3, .ref q4, .int (zI 0), .int (zI 0), .int (zI 0)])), (q0, .inl (gca G 0, (24, .inl (zRmF 0 8)))), (q1, .inl (gca G 0, (264, .inl (fun _ => 0)))), (q2, .inl (gca G 0, (24, .inl (fun _ => 0)))), (q3, .inl (gca G 0, (60, .inl (fun _ => 0)))), (q4, .inl (gca G 0, (80, .inl (fun _ => 0))))]) 5 452) : ∀ (n k : Nat), n + k = 8 → zJw X G Q 2 47 [(0, .ref h0), (1, .int (zI (k : Int)))] [] ([(h0, .inr (0, [.ref q0, .ref q1, .ref q2, .ref q3, .ref q4, .int (zI 0), .int (zI 0), .int (zI 0)])), (q0, .inl (gca G 0, (24, .inl (zRmF 0 k)))), (q1, .inl (gca G 0, (264, .inl (fun _ => 0)))), (q2, .inl (gca G 0, (24, .inl (fun _ => 0)))), (q3, .inl (gca G 0, (60, .inl (fun _ => 0)))), (q4, .inl (gca G 0, (80, .inl (fun _ => 0))))]) 5 452 := by
  intro n
  induction n with
  | zero =>
    intro k hk
    have hk8 : k = 8 := by omega
    subst hk8
    refine q_iload_n (x := ((8 : Nat) : Int)) C d_S_init_47 1 rfl rfl ?_
    refine q_bipush C d_S_init_48 rfl ?_
    refine q_icmp_ge (tgt := 85) C d_S_init_50 rfl (zR_of (x := ((8 : Nat) : Int)) rfl) (zR_of (x := 8) rfl) (fun c => ?_) (fun c => absurd (by decide) c)
    exact q_sub (L' := [(0, .ref h0)]) [0] rfl hQ
  | succ n ih =>
    intro k hk
    have rk : zR (k : Int) := ⟨by omega, by omega⟩
    refine q_iload_n C d_S_init_47 1 rfl rfl ?_
    refine q_bipush C d_S_init_48 rfl ?_
    refine q_icmp_ge (tgt := 85) C d_S_init_50 rfl rk (zR_of (x := 8) rfl) (fun c => absurd c (by omega)) (fun c => ?_)
    refine q_aload_n C d_S_init_53 0 rfl rfl ?_
    refine q_getr (q0 := 0) (kf := 0) C d_S_init_54 rfl rfl i_S rfl fl_S_9 rfl ?_
    refine q_iload_n C d_S_init_57 1 rfl rfl ?_
    refine q_iconst C d_S_init_58 ?_
    refine q_imul C d_S_init_59 ?_
    refine q_iconst C d_S_init_60 ?_
    refine q_iadd C d_S_init_61 ?_
    refine q_sipush C d_S_init_62 rfl ?_
    refine q_iastore (q0 := 1) (ws' := [(h0, .inr (0, [.ref q0, .ref q1, .ref q2, .ref q3, .ref q4, .int (zI 0), .int (zI 0), .int (zI 0)])), (q0, .inl (gca G 0, (24, .inl (upd (zRmF 0 k) (0 + 3 * k + 1) (zI 1440))))), (q1, .inl (gca G 0, (264, .inl (fun _ => 0)))), (q2, .inl (gca G 0, (24, .inl (fun _ => 0)))), (q3, .inl (gca G 0, (60, .inl (fun _ => 0)))), (q4, .inl (gca G 0, (80, .inl (fun _ => 0))))]) C d_S_init_65 rfl ⟨by omega, by omega⟩ rfl (by rw [show ((((k : Int) * 3) + 1)).toNat = 0 + 3 * k + 1 by omega]; rfl) ?_
    refine q_aload_n C d_S_init_66 0 rfl rfl ?_
    refine q_getr (q0 := 0) (kf := 0) C d_S_init_67 rfl rfl i_S rfl fl_S_9 rfl ?_
    refine q_iload_n C d_S_init_70 1 rfl rfl ?_
    refine q_iconst C d_S_init_71 ?_
    refine q_imul C d_S_init_72 ?_
    refine q_iconst C d_S_init_73 ?_
    refine q_iadd C d_S_init_74 ?_
    refine q_sipush C d_S_init_75 rfl ?_
    refine q_iastore (q0 := 1) (ws' := [(h0, .inr (0, [.ref q0, .ref q1, .ref q2, .ref q3, .ref q4, .int (zI 0), .int (zI 0), .int (zI 0)])), (q0, .inl (gca G 0, (24, .inl (upd (upd (zRmF 0 k) (0 + 3 * k + 1) (zI 1440)) (0 + 3 * k + 2) (zI 1000))))), (q1, .inl (gca G 0, (264, .inl (fun _ => 0)))), (q2, .inl (gca G 0, (24, .inl (fun _ => 0)))), (q3, .inl (gca G 0, (60, .inl (fun _ => 0)))), (q4, .inl (gca G 0, (80, .inl (fun _ => 0))))]) C d_S_init_78 rfl ⟨by omega, by omega⟩ rfl (by rw [show ((((k : Int) * 3) + 2)).toNat = 0 + 3 * k + 2 by omega]; rfl) ?_
    rw [zRmF_s]
    refine q_iinc (L' := [(1, .int (zI ((k + 1 : Nat) : Int))), (0, .ref h0)]) C d_S_init_79 1 rfl rfl rfl ?_
    refine q_goto (tgt := 47) C d_S_init_82 rfl ?_
    refine q_sub (L' := [(0, .ref h0), (1, .int (zI ((k + 1 : Nat) : Int)))]) [1, 0] rfl ?_
    exact ih (k + 1) (by omega)
set_option maxRecDepth 100000 in
set_option maxHeartbeats 4000000 in
theorem c_S_init (l : Launch) (D : va_G) (ca : Nat → ClassId) (h0 sz : Nat) : zCn l D ca y_S_init b_S_init 2 zr_S h0 (.inr (0, zb_S)) sz (w_S ca h0) := by
  refine zCn_of (by decide +kernel) rfl (by decide) ?_
  intro X G C Kk hR hl hD hca
  subst hl hD hca
  have C : zC X G b_S_init "GateRoads$State" 2 none 1 20 := C
  refine q_aload_n C d_S_init_0 0 rfl rfl ?_
  refine q_objInit C zl_S zo_i zo_c d_S_init_1 rfl rfl ?_
  refine q_aload_n C d_S_init_4 0 rfl rfl ?_
  refine q_bipush C d_S_init_5 rfl ?_
  refine q_newa (ty := .int) (t := 0) (N := 24) C Kk za_int rfl rfl rfl d_S_init_7 rfl rfl hR rfl rfl (fun q0 => ?_)
  refine q_eq (ws' := [(h0, .inr (0, [.null, .null, .null, .null, .null, .int (zI 0), .int (zI 0), .int (zI 0)])), (q0, .inl (gca G 0, (24, .inl (fun _ => 0))))]) rfl ?_
  refine q_putF (q0 := 0) (kf := 0) (ws' := [(h0, .inr (0, [.ref q0, .null, .null, .null, .null, .int (zI 0), .int (zI 0), .int (zI 0)])), (q0, .inl (gca G 0, (24, .inl (fun _ => 0))))]) C Kk t_S d_S_init_9 rfl rfl i_S t_S_ok n_S rfl fl_S_9 rfl rfl rfl rfl rfl rfl ?_
  refine q_aload_n C d_S_init_12 0 rfl rfl ?_
  refine q_sipush C d_S_init_13 rfl ?_
  refine q_newa (ty := .int) (t := 0) (N := 264) C Kk za_int rfl rfl rfl d_S_init_16 rfl rfl hR rfl rfl (fun q1 => ?_)
  refine q_eq (ws' := [(h0, .inr (0, [.ref q0, .null, .null, .null, .null, .int (zI 0), .int (zI 0), .int (zI 0)])), (q0, .inl (gca G 0, (24, .inl (fun _ => 0)))), (q1, .inl (gca G 0, (264, .inl (fun _ => 0))))]) rfl ?_
  refine q_putF (q0 := 0) (kf := 1) (ws' := [(h0, .inr (0, [.ref q0, .ref q1, .null, .null, .null, .int (zI 0), .int (zI 0), .int (zI 0)])), (q0, .inl (gca G 0, (24, .inl (fun _ => 0)))), (q1, .inl (gca G 0, (264, .inl (fun _ => 0))))]) C Kk t_S d_S_init_18 rfl rfl i_S t_S_ok n_S rfl fl_S_15 rfl rfl rfl rfl rfl rfl ?_
  refine q_aload_n C d_S_init_21 0 rfl rfl ?_
  refine q_bipush C d_S_init_22 rfl ?_
  refine q_newa (ty := .int) (t := 0) (N := 24) C Kk za_int rfl rfl rfl d_S_init_24 rfl rfl hR rfl rfl (fun q2 => ?_)
  refine q_eq (ws' := [(h0, .inr (0, [.ref q0, .ref q1, .null, .null, .null, .int (zI 0), .int (zI 0), .int (zI 0)])), (q0, .inl (gca G 0, (24, .inl (fun _ => 0)))), (q1, .inl (gca G 0, (264, .inl (fun _ => 0)))), (q2, .inl (gca G 0, (24, .inl (fun _ => 0))))]) rfl ?_
  refine q_putF (q0 := 0) (kf := 2) (ws' := [(h0, .inr (0, [.ref q0, .ref q1, .ref q2, .null, .null, .int (zI 0), .int (zI 0), .int (zI 0)])), (q0, .inl (gca G 0, (24, .inl (fun _ => 0)))), (q1, .inl (gca G 0, (264, .inl (fun _ => 0)))), (q2, .inl (gca G 0, (24, .inl (fun _ => 0))))]) C Kk t_S d_S_init_26 rfl rfl i_S t_S_ok n_S rfl fl_S_18 rfl rfl rfl rfl rfl rfl ?_
  refine q_aload_n C d_S_init_29 0 rfl rfl ?_
  refine q_bipush C d_S_init_30 rfl ?_
  refine q_newa (ty := .int) (t := 0) (N := 60) C Kk za_int rfl rfl rfl d_S_init_32 rfl rfl hR rfl rfl (fun q3 => ?_)
  refine q_eq (ws' := [(h0, .inr (0, [.ref q0, .ref q1, .ref q2, .null, .null, .int (zI 0), .int (zI 0), .int (zI 0)])), (q0, .inl (gca G 0, (24, .inl (fun _ => 0)))), (q1, .inl (gca G 0, (264, .inl (fun _ => 0)))), (q2, .inl (gca G 0, (24, .inl (fun _ => 0)))), (q3, .inl (gca G 0, (60, .inl (fun _ => 0))))]) rfl ?_
  refine q_putF (q0 := 0) (kf := 3) (ws' := [(h0, .inr (0, [.ref q0, .ref q1, .ref q2, .ref q3, .null, .int (zI 0), .int (zI 0), .int (zI 0)])), (q0, .inl (gca G 0, (24, .inl (fun _ => 0)))), (q1, .inl (gca G 0, (264, .inl (fun _ => 0)))), (q2, .inl (gca G 0, (24, .inl (fun _ => 0)))), (q3, .inl (gca G 0, (60, .inl (fun _ => 0))))]) C Kk t_S d_S_init_34 rfl rfl i_S t_S_ok n_S rfl fl_S_21 rfl rfl rfl rfl rfl rfl ?_
  refine q_aload_n C d_S_init_37 0 rfl rfl ?_
  refine q_bipush C d_S_init_38 rfl ?_
  refine q_newa (ty := .int) (t := 0) (N := 80) C Kk za_int rfl rfl rfl d_S_init_40 rfl rfl hR rfl rfl (fun q4 => ?_)
  refine q_eq (ws' := [(h0, .inr (0, [.ref q0, .ref q1, .ref q2, .ref q3, .null, .int (zI 0), .int (zI 0), .int (zI 0)])), (q0, .inl (gca G 0, (24, .inl (fun _ => 0)))), (q1, .inl (gca G 0, (264, .inl (fun _ => 0)))), (q2, .inl (gca G 0, (24, .inl (fun _ => 0)))), (q3, .inl (gca G 0, (60, .inl (fun _ => 0)))), (q4, .inl (gca G 0, (80, .inl (fun _ => 0))))]) rfl ?_
  refine q_putF (q0 := 0) (kf := 4) (ws' := [(h0, .inr (0, [.ref q0, .ref q1, .ref q2, .ref q3, .ref q4, .int (zI 0), .int (zI 0), .int (zI 0)])), (q0, .inl (gca G 0, (24, .inl (fun _ => 0)))), (q1, .inl (gca G 0, (264, .inl (fun _ => 0)))), (q2, .inl (gca G 0, (24, .inl (fun _ => 0)))), (q3, .inl (gca G 0, (60, .inl (fun _ => 0)))), (q4, .inl (gca G 0, (80, .inl (fun _ => 0))))]) C Kk t_S d_S_init_42 rfl rfl i_S t_S_ok n_S rfl fl_S_24 rfl rfl rfl rfl rfl rfl ?_
  refine q_iconst C d_S_init_45 ?_
  refine q_istore_n (L' := [(1, .int (zI ((0 : Nat) : Int))), (0, .ref h0)]) C d_S_init_46 rfl rfl rfl ?_
  refine q_sub (L' := [(0, .ref h0), (1, .int (zI ((0 : Nat) : Int)))]) [1, 0] rfl ?_
  refine q_eq (ws' := [(h0, .inr (0, [.ref q0, .ref q1, .ref q2, .ref q3, .ref q4, .int (zI 0), .int (zI 0), .int (zI 0)])), (q0, .inl (gca G 0, (24, .inl (zRmF 0 0)))), (q1, .inl (gca G 0, (264, .inl (fun _ => 0)))), (q2, .inl (gca G 0, (24, .inl (fun _ => 0)))), (q3, .inl (gca G 0, (60, .inl (fun _ => 0)))), (q4, .inl (gca G 0, (80, .inl (fun _ => 0))))]) (by rw [zRmF_0]) ?_
  refine w_S_init_L C Kk ?_ 8 0 rfl
  exact q_vreturn C (fun n => [q0, q1, q2, q3, q4].getD n 0) d_S_init_85 rfl rfl rfl
def zr_P : Room := { frames := 1, cells := 3, slots := 89, locals := 20 }
def w_P (ca : Nat → ClassId) (h0 : Nat) (u : Nat → Nat) : va_W := [(h0, .inr (2, [.ref (u 0), .int (zI 0), .int (zI 0), .int (zI 0), .int (zI 0), .ref (u 1), .ref (u 2), .int (zI 0), .int (zI 0)])), (u 0, .inl (ca 2, (80, .inl (fun _ => 0)))), (u 1, .inl (ca 0, (3, .inl (fun _ => 0)))), (u 2, .inl (ca 0, (6, .inl (fun _ => 0))))]
set_option maxRecDepth 100000 in
set_option maxHeartbeats 4000000 in
theorem c_P_init (l : Launch) (D : va_G) (ca : Nat → ClassId) (h0 sz : Nat) : zCn l D ca y_P_init b_P_init 1 zr_P h0 (.inr (2, zb_P)) sz (w_P ca h0) := by
  refine zCn_of (by decide +kernel) rfl (by decide) ?_
  intro X G C Kk hR hl hD hca
  subst hl hD hca
  have C : zC X G b_P_init "GateRoads$Pad" 1 none 1 20 := C
  refine q_aload_n C d_P_init_0 0 rfl rfl ?_
  refine q_objInit C zl_P zo_i zo_c d_P_init_1 rfl rfl ?_
  refine q_aload_n C d_P_init_4 0 rfl rfl ?_
  refine q_bipush C d_P_init_5 rfl ?_
  refine q_newa (ty := .char) (t := 2) (N := 80) C Kk za_char rfl rfl rfl d_P_init_7 rfl rfl hR rfl rfl (fun q0 => ?_)
  refine q_eq (ws' := [(h0, .inr (2, [.null, .int (zI 0), .int (zI 0), .int (zI 0), .int (zI 0), .null, .null, .int (zI 0), .int (zI 0)])), (q0, .inl (gca G 2, (80, .inl (fun _ => 0))))]) rfl ?_
  refine q_putF (q0 := 0) (kf := 0) (ws' := [(h0, .inr (2, [.ref q0, .int (zI 0), .int (zI 0), .int (zI 0), .int (zI 0), .null, .null, .int (zI 0), .int (zI 0)])), (q0, .inl (gca G 2, (80, .inl (fun _ => 0))))]) C Kk t_P d_P_init_9 rfl rfl i_P t_P_ok n_P rfl fl_P_9 rfl rfl rfl rfl rfl rfl ?_
  refine q_aload_n C d_P_init_12 0 rfl rfl ?_
  refine q_iconst C d_P_init_13 ?_
  refine q_newa (ty := .int) (t := 0) (N := 3) C Kk za_int rfl rfl rfl d_P_init_14 rfl rfl hR rfl rfl (fun q1 => ?_)
  refine q_eq (ws' := [(h0, .inr (2, [.ref q0, .int (zI 0), .int (zI 0), .int (zI 0), .int (zI 0), .null, .null, .int (zI 0), .int (zI 0)])), (q0, .inl (gca G 2, (80, .inl (fun _ => 0)))), (q1, .inl (gca G 0, (3, .inl (fun _ => 0))))]) rfl ?_
  refine q_putF (q0 := 0) (kf := 5) (ws' := [(h0, .inr (2, [.ref q0, .int (zI 0), .int (zI 0), .int (zI 0), .int (zI 0), .ref q1, .null, .int (zI 0), .int (zI 0)])), (q0, .inl (gca G 2, (80, .inl (fun _ => 0)))), (q1, .inl (gca G 0, (3, .inl (fun _ => 0))))]) C Kk t_P d_P_init_16 rfl rfl i_P t_P_ok n_P rfl fl_P_15 rfl rfl rfl rfl rfl rfl ?_
  refine q_aload_n C d_P_init_19 0 rfl rfl ?_
  refine q_bipush C d_P_init_20 rfl ?_
  refine q_newa (ty := .int) (t := 0) (N := 6) C Kk za_int rfl rfl rfl d_P_init_22 rfl rfl hR rfl rfl (fun q2 => ?_)
  refine q_eq (ws' := [(h0, .inr (2, [.ref q0, .int (zI 0), .int (zI 0), .int (zI 0), .int (zI 0), .ref q1, .null, .int (zI 0), .int (zI 0)])), (q0, .inl (gca G 2, (80, .inl (fun _ => 0)))), (q1, .inl (gca G 0, (3, .inl (fun _ => 0)))), (q2, .inl (gca G 0, (6, .inl (fun _ => 0))))]) rfl ?_
  refine q_putF (q0 := 0) (kf := 6) (ws' := [(h0, .inr (2, [.ref q0, .int (zI 0), .int (zI 0), .int (zI 0), .int (zI 0), .ref q1, .ref q2, .int (zI 0), .int (zI 0)])), (q0, .inl (gca G 2, (80, .inl (fun _ => 0)))), (q1, .inl (gca G 0, (3, .inl (fun _ => 0)))), (q2, .inl (gca G 0, (6, .inl (fun _ => 0))))]) C Kk t_P d_P_init_24 rfl rfl i_P t_P_ok n_P rfl fl_P_19 rfl rfl rfl rfl rfl rfl ?_
  exact q_vreturn C (fun n => [q0, q1, q2].getD n 0) d_P_init_27 rfl rfl rfl
def zr_G : Room := { frames := 1, cells := 1, slots := 2881, locals := 20 }
def w_G (ca : Nat → ClassId) (h0 : Nat) (u : Nat → Nat) : va_W := [(h0, .inr (3, [.ref (u 0), .int (zI 0)])), (u 0, .inl (ca 0, (2881, .inl (fun _ => 0))))]
set_option maxRecDepth 100000 in
set_option maxHeartbeats 4000000 in
theorem c_G_init (l : Launch) (D : va_G) (ca : Nat → ClassId) (h0 sz : Nat) : zCn l D ca y_G_init b_G_init 1 zr_G h0 (.inr (3, zb_G)) sz (w_G ca h0) := by
  refine zCn_of (by decide +kernel) rfl (by decide) ?_
  intro X G C Kk hR hl hD hca
  subst hl hD hca
  have C : zC X G b_G_init "GateRoads$Gates" 1 none 1 20 := C
  refine q_aload_n C d_G_init_0 0 rfl rfl ?_
  refine q_objInit C zl_G zo_i zo_c d_G_init_1 rfl rfl ?_
  refine q_aload_n C d_G_init_4 0 rfl rfl ?_
  refine q_sipush C d_G_init_5 rfl ?_
  refine q_newa (ty := .int) (t := 0) (N := 2881) C Kk za_int rfl rfl rfl d_G_init_8 rfl rfl hR rfl rfl (fun q0 => ?_)
  refine q_eq (ws' := [(h0, .inr (3, [.null, .int (zI 0)])), (q0, .inl (gca G 0, (2881, .inl (fun _ => 0))))]) rfl ?_
  refine q_putF (q0 := 0) (kf := 0) (ws' := [(h0, .inr (3, [.ref q0, .int (zI 0)])), (q0, .inl (gca G 0, (2881, .inl (fun _ => 0))))]) C Kk t_G d_G_init_10 rfl rfl i_G t_G_ok n_G rfl fl_G_9 rfl rfl rfl rfl rfl rfl ?_
  exact q_vreturn C (fun n => [q0].getD n 0) d_G_init_13 rfl rfl rfl
def zr_O : Room := { frames := 1, cells := 2, slots := 1032, locals := 20 }
def w_O (ca : Nat → ClassId) (h0 : Nat) (u : Nat → Nat) : va_W := [(h0, .inr (4, [.ref (u 0), .ref (u 1)])), (u 0, .inl (ca 0, (1024, .inl (fun _ => 0)))), (u 1, .inl (ca 0, (8, .inl (fun _ => 0))))]
set_option maxRecDepth 100000 in
set_option maxHeartbeats 4000000 in
theorem c_O_init (l : Launch) (D : va_G) (ca : Nat → ClassId) (h0 sz : Nat) : zCn l D ca y_O_init b_O_init 1 zr_O h0 (.inr (4, zb_O)) sz (w_O ca h0) := by
  refine zCn_of (by decide +kernel) rfl (by decide) ?_
  intro X G C Kk hR hl hD hca
  subst hl hD hca
  have C : zC X G b_O_init "GateRoads$Onward" 1 none 1 20 := C
  refine q_aload_n C d_O_init_0 0 rfl rfl ?_
  refine q_objInit C zl_O zo_i zo_c d_O_init_1 rfl rfl ?_
  refine q_aload_n C d_O_init_4 0 rfl rfl ?_
  refine q_sipush C d_O_init_5 rfl ?_
  refine q_newa (ty := .int) (t := 0) (N := 1024) C Kk za_int rfl rfl rfl d_O_init_8 rfl rfl hR rfl rfl (fun q0 => ?_)
  refine q_eq (ws' := [(h0, .inr (4, [.null, .null])), (q0, .inl (gca G 0, (1024, .inl (fun _ => 0))))]) rfl ?_
  refine q_putF (q0 := 0) (kf := 0) (ws' := [(h0, .inr (4, [.ref q0, .null])), (q0, .inl (gca G 0, (1024, .inl (fun _ => 0))))]) C Kk t_O d_O_init_10 rfl rfl i_O t_O_ok n_O rfl fl_O_9 rfl rfl rfl rfl rfl rfl ?_
  refine q_aload_n C d_O_init_13 0 rfl rfl ?_
  refine q_bipush C d_O_init_14 rfl ?_
  refine q_newa (ty := .int) (t := 0) (N := 8) C Kk za_int rfl rfl rfl d_O_init_16 rfl rfl hR rfl rfl (fun q1 => ?_)
  refine q_eq (ws' := [(h0, .inr (4, [.ref q0, .null])), (q0, .inl (gca G 0, (1024, .inl (fun _ => 0)))), (q1, .inl (gca G 0, (8, .inl (fun _ => 0))))]) rfl ?_
  refine q_putF (q0 := 0) (kf := 1) (ws' := [(h0, .inr (4, [.ref q0, .ref q1])), (q0, .inl (gca G 0, (1024, .inl (fun _ => 0)))), (q1, .inl (gca G 0, (8, .inl (fun _ => 0))))]) C Kk t_O d_O_init_18 rfl rfl i_O t_O_ok n_O rfl fl_O_15 rfl rfl rfl rfl rfl rfl ?_
  exact q_vreturn C (fun n => [q0, q1].getD n 0) d_O_init_21 rfl rfl rfl
def zr_B : Room := { frames := 1, cells := 2, slots := 2889, locals := 20 }
def w_B (ca : Nat → ClassId) (h0 : Nat) (u : Nat → Nat) : va_W := [(h0, .inr (5, [.ref (u 0), .ref (u 1), .int (zI 0), .int (zI 0)])), (u 0, .inl (ca 0, (2881, .inl (fun _ => 0)))), (u 1, .inl (ca 0, (8, .inl (fun _ => 0))))]
set_option maxRecDepth 100000 in
set_option maxHeartbeats 4000000 in
theorem c_B_init (l : Launch) (D : va_G) (ca : Nat → ClassId) (h0 sz : Nat) : zCn l D ca y_B_init b_B_init 1 zr_B h0 (.inr (5, zb_B)) sz (w_B ca h0) := by
  refine zCn_of (by decide +kernel) rfl (by decide) ?_
  intro X G C Kk hR hl hD hca
  subst hl hD hca
  have C : zC X G b_B_init "GateRoads$Backward" 1 none 1 20 := C
  refine q_aload_n C d_B_init_0 0 rfl rfl ?_
  refine q_objInit C zl_B zo_i zo_c d_B_init_1 rfl rfl ?_
  refine q_aload_n C d_B_init_4 0 rfl rfl ?_
  refine q_sipush C d_B_init_5 rfl ?_
  refine q_newa (ty := .int) (t := 0) (N := 2881) C Kk za_int rfl rfl rfl d_B_init_8 rfl rfl hR rfl rfl (fun q0 => ?_)
  refine q_eq (ws' := [(h0, .inr (5, [.null, .null, .int (zI 0), .int (zI 0)])), (q0, .inl (gca G 0, (2881, .inl (fun _ => 0))))]) rfl ?_
  refine q_putF (q0 := 0) (kf := 0) (ws' := [(h0, .inr (5, [.ref q0, .null, .int (zI 0), .int (zI 0)])), (q0, .inl (gca G 0, (2881, .inl (fun _ => 0))))]) C Kk t_B d_B_init_10 rfl rfl i_B t_B_ok n_B rfl fl_B_9 rfl rfl rfl rfl rfl rfl ?_
  refine q_aload_n C d_B_init_13 0 rfl rfl ?_
  refine q_bipush C d_B_init_14 rfl ?_
  refine q_newa (ty := .int) (t := 0) (N := 8) C Kk za_int rfl rfl rfl d_B_init_16 rfl rfl hR rfl rfl (fun q1 => ?_)
  refine q_eq (ws' := [(h0, .inr (5, [.ref q0, .null, .int (zI 0), .int (zI 0)])), (q0, .inl (gca G 0, (2881, .inl (fun _ => 0)))), (q1, .inl (gca G 0, (8, .inl (fun _ => 0))))]) rfl ?_
  refine q_putF (q0 := 0) (kf := 1) (ws' := [(h0, .inr (5, [.ref q0, .ref q1, .int (zI 0), .int (zI 0)])), (q0, .inl (gca G 0, (2881, .inl (fun _ => 0)))), (q1, .inl (gca G 0, (8, .inl (fun _ => 0))))]) C Kk t_B d_B_init_18 rfl rfl i_B t_B_ok n_B rfl fl_B_15 rfl rfl rfl rfl rfl rfl ?_
  exact q_vreturn C (fun n => [q0, q1].getD n 0) d_B_init_21 rfl rfl rfl
def zr_F : Room := { frames := 1, cells := 5, slots := 16408, locals := 20 }
def w_F (ca : Nat → ClassId) (h0 : Nat) (u : Nat → Nat) : va_W := [(h0, .inr (6, [.ref (u 0), .ref (u 1), .ref (u 2), .ref (u 3), .ref (u 4)])), (u 0, .inl (ca 0, (8192, .inl (fun _ => 0)))), (u 1, .inl (ca 0, (8192, .inl (fun _ => 0)))), (u 2, .inl (ca 0, (8, .inl (fun _ => 0)))), (u 3, .inl (ca 0, (8, .inl (fun _ => 0)))), (u 4, .inl (ca 0, (8, .inl (fun _ => 0))))]
set_option maxRecDepth 100000 in
set_option maxHeartbeats 4000000 in
theorem c_F_init (l : Launch) (D : va_G) (ca : Nat → ClassId) (h0 sz : Nat) : zCn l D ca y_F_init b_F_init 1 zr_F h0 (.inr (6, zb_F)) sz (w_F ca h0) := by
  refine zCn_of (by decide +kernel) rfl (by decide) ?_
  intro X G C Kk hR hl hD hca
  subst hl hD hca
  have C : zC X G b_F_init "GateRoads$Fewest" 1 none 1 20 := C
  refine q_aload_n C d_F_init_0 0 rfl rfl ?_
  refine q_objInit C zl_F zo_i zo_c d_F_init_1 rfl rfl ?_
  refine q_aload_n C d_F_init_4 0 rfl rfl ?_
  refine q_sipush C d_F_init_5 rfl ?_
  refine q_newa (ty := .int) (t := 0) (N := 8192) C Kk za_int rfl rfl rfl d_F_init_8 rfl rfl hR rfl rfl (fun q0 => ?_)
  refine q_eq (ws' := [(h0, .inr (6, [.null, .null, .null, .null, .null])), (q0, .inl (gca G 0, (8192, .inl (fun _ => 0))))]) rfl ?_
  refine q_putF (q0 := 0) (kf := 0) (ws' := [(h0, .inr (6, [.ref q0, .null, .null, .null, .null])), (q0, .inl (gca G 0, (8192, .inl (fun _ => 0))))]) C Kk t_F d_F_init_10 rfl rfl i_F t_F_ok n_F rfl fl_F_9 rfl rfl rfl rfl rfl rfl ?_
  refine q_aload_n C d_F_init_13 0 rfl rfl ?_
  refine q_sipush C d_F_init_14 rfl ?_
  refine q_newa (ty := .int) (t := 0) (N := 8192) C Kk za_int rfl rfl rfl d_F_init_17 rfl rfl hR rfl rfl (fun q1 => ?_)
  refine q_eq (ws' := [(h0, .inr (6, [.ref q0, .null, .null, .null, .null])), (q0, .inl (gca G 0, (8192, .inl (fun _ => 0)))), (q1, .inl (gca G 0, (8192, .inl (fun _ => 0))))]) rfl ?_
  refine q_putF (q0 := 0) (kf := 1) (ws' := [(h0, .inr (6, [.ref q0, .ref q1, .null, .null, .null])), (q0, .inl (gca G 0, (8192, .inl (fun _ => 0)))), (q1, .inl (gca G 0, (8192, .inl (fun _ => 0))))]) C Kk t_F d_F_init_19 rfl rfl i_F t_F_ok n_F rfl fl_F_15 rfl rfl rfl rfl rfl rfl ?_
  refine q_aload_n C d_F_init_22 0 rfl rfl ?_
  refine q_bipush C d_F_init_23 rfl ?_
  refine q_newa (ty := .int) (t := 0) (N := 8) C Kk za_int rfl rfl rfl d_F_init_25 rfl rfl hR rfl rfl (fun q2 => ?_)
  refine q_eq (ws' := [(h0, .inr (6, [.ref q0, .ref q1, .null, .null, .null])), (q0, .inl (gca G 0, (8192, .inl (fun _ => 0)))), (q1, .inl (gca G 0, (8192, .inl (fun _ => 0)))), (q2, .inl (gca G 0, (8, .inl (fun _ => 0))))]) rfl ?_
  refine q_putF (q0 := 0) (kf := 2) (ws' := [(h0, .inr (6, [.ref q0, .ref q1, .ref q2, .null, .null])), (q0, .inl (gca G 0, (8192, .inl (fun _ => 0)))), (q1, .inl (gca G 0, (8192, .inl (fun _ => 0)))), (q2, .inl (gca G 0, (8, .inl (fun _ => 0))))]) C Kk t_F d_F_init_27 rfl rfl i_F t_F_ok n_F rfl fl_F_18 rfl rfl rfl rfl rfl rfl ?_
  refine q_aload_n C d_F_init_30 0 rfl rfl ?_
  refine q_bipush C d_F_init_31 rfl ?_
  refine q_newa (ty := .int) (t := 0) (N := 8) C Kk za_int rfl rfl rfl d_F_init_33 rfl rfl hR rfl rfl (fun q3 => ?_)
  refine q_eq (ws' := [(h0, .inr (6, [.ref q0, .ref q1, .ref q2, .null, .null])), (q0, .inl (gca G 0, (8192, .inl (fun _ => 0)))), (q1, .inl (gca G 0, (8192, .inl (fun _ => 0)))), (q2, .inl (gca G 0, (8, .inl (fun _ => 0)))), (q3, .inl (gca G 0, (8, .inl (fun _ => 0))))]) rfl ?_
  refine q_putF (q0 := 0) (kf := 3) (ws' := [(h0, .inr (6, [.ref q0, .ref q1, .ref q2, .ref q3, .null])), (q0, .inl (gca G 0, (8192, .inl (fun _ => 0)))), (q1, .inl (gca G 0, (8192, .inl (fun _ => 0)))), (q2, .inl (gca G 0, (8, .inl (fun _ => 0)))), (q3, .inl (gca G 0, (8, .inl (fun _ => 0))))]) C Kk t_F d_F_init_35 rfl rfl i_F t_F_ok n_F rfl fl_F_21 rfl rfl rfl rfl rfl rfl ?_
  refine q_aload_n C d_F_init_38 0 rfl rfl ?_
  refine q_bipush C d_F_init_39 rfl ?_
  refine q_newa (ty := .int) (t := 0) (N := 8) C Kk za_int rfl rfl rfl d_F_init_41 rfl rfl hR rfl rfl (fun q4 => ?_)
  refine q_eq (ws' := [(h0, .inr (6, [.ref q0, .ref q1, .ref q2, .ref q3, .null])), (q0, .inl (gca G 0, (8192, .inl (fun _ => 0)))), (q1, .inl (gca G 0, (8192, .inl (fun _ => 0)))), (q2, .inl (gca G 0, (8, .inl (fun _ => 0)))), (q3, .inl (gca G 0, (8, .inl (fun _ => 0)))), (q4, .inl (gca G 0, (8, .inl (fun _ => 0))))]) rfl ?_
  refine q_putF (q0 := 0) (kf := 4) (ws' := [(h0, .inr (6, [.ref q0, .ref q1, .ref q2, .ref q3, .ref q4])), (q0, .inl (gca G 0, (8192, .inl (fun _ => 0)))), (q1, .inl (gca G 0, (8192, .inl (fun _ => 0)))), (q2, .inl (gca G 0, (8, .inl (fun _ => 0)))), (q3, .inl (gca G 0, (8, .inl (fun _ => 0)))), (q4, .inl (gca G 0, (8, .inl (fun _ => 0))))]) C Kk t_F d_F_init_43 rfl rfl i_F t_F_ok n_F rfl fl_F_24 rfl rfl rfl rfl rfl rfl ?_
  exact q_vreturn C (fun n => [q0, q1, q2, q3, q4].getD n 0) d_F_init_46 rfl rfl rfl
end
section
def zr_X : Room := { frames := 2, cells := 78, slots := 28505, locals := 41 }
def w_X (ca : Nat → ClassId) (h0 : Nat) (u : Nat → Nat → Nat) : va_W := ([(h0, .inr (1, [.ref (u 0 2), .ref (u 0 0), .int (zI 0), .ref (u 0 1), .ref (u 0 3), .int (zI 0), .ref (u 0 4), .int (zI 0), .ref (u 0 5), .ref (u 0 6), .ref (u 0 7), .ref (u 0 8), .ref (u 0 9)])), (u 0 0, .inl (ca 3, (6, .inr (.inr (.inr (.inr (va_up (va_up (va_up (va_up (va_up (va_up (fun _ => none) 0 (some (u 0 10))) 1 (some (u 0 11))) 2 (some (u 0 12))) 3 (some (u 0 13))) 4 (some (u 0 14))) 5 (some (u 0 15))))))))), (u 0 1, .inl (ca 3, (2, .inr (.inr (.inr (.inr (va_up (va_up (fun _ => none) 0 (some (u 0 16))) 1 (some (u 0 17)))))))))] : va_W) ++ (w_S ca (u 0 17) (u 15) ++ (w_S ca (u 0 16) (u 14) ++ (w_S ca (u 0 15) (u 13) ++ (w_S ca (u 0 14) (u 12) ++ (w_S ca (u 0 13) (u 11) ++ (w_S ca (u 0 12) (u 10) ++ (w_S ca (u 0 11) (u 9) ++ (w_S ca (u 0 10) (u 8) ++ (w_F ca (u 0 9) (u 7) ++ (w_B ca (u 0 8) (u 6) ++ (w_O ca (u 0 7) (u 5) ++ (w_O ca (u 0 6) (u 4) ++ (w_G ca (u 0 5) (u 3) ++ (w_P ca (u 0 4) (u 2) ++ ([(u 0 3, .inl (ca 1, (2, .inl (fun _ => 0))))] ++ (w_S ca (u 0 2) (u 1) ++ ([] : va_W)))))))))))))))))
set_option maxRecDepth 100000 in
set_option maxHeartbeats 16000000 in
theorem c_X_init (l : Launch) (D : va_G) (ca : Nat → ClassId) (h0 sz : Nat) : zCn l D ca y_X_init b_X_init 2 zr_X h0 (.inr (1, zb_X)) sz (w_X ca h0) := by
  refine zCn_of (by decide +kernel) rfl (by decide) ?_
  intro X G C Kk hR hl hD hca
  subst hl hD hca
  have C : zC X G b_X_init "GateRoads" 2 none 2 41 := C
  refine q_eq (ws' := ([(h0, .inr (1, [.null, .null, .int (zI 0), .null, .null, .int (zI 0), .null, .int (zI 0), .null, .null, .null, .null, .null]))] : va_W) ++ ([] : va_W)) rfl ?_
  refine q_aload_n C d_X_init_0 0 rfl rfl ?_
  refine q_objInit C zl_X zo_i zo_c d_X_init_1 rfl rfl ?_
  refine q_aload_n C d_X_init_4 0 rfl rfl ?_
  refine q_new (ci := 0) (fs := zb_S) C Kk.2.1 t_S t_S_ok i_S zc_X_9 zt_S zy_S rfl zf_S d_X_init_5 hR rfl rfl (fun q1 => ?_)
  refine q_dup C d_X_init_8 rfl ?_
  refine q_callI C Kk.2.1 Kk.2.2 d_X_init_9 (fun sz => c_S_init (xl X) (gD G) (gca G) q1 sz) ml_X_11 zm_S zy_S zk_S zd_S rfl rfl hR rfl rfl rfl rfl (fun u1 => ?_)
  refine q_perm (zPmR ([(h0, .inr (1, [.null, .null, .int (zI 0), .null, .null, .int (zI 0), .null, .int (zI 0), .null, .null, .null, .null, .null]))] : va_W) ([] : va_W) (w_S (gca G) q1 u1)) ?_
  refine q_putF (q0 := 0) (kf := 0) (ws' := ([(h0, .inr (1, [.ref q1, .null, .int (zI 0), .null, .null, .int (zI 0), .null, .int (zI 0), .null, .null, .null, .null, .null]))] : va_W) ++ (w_S (gca G) q1 u1 ++ ([] : va_W))) C Kk t_X d_X_init_12 rfl rfl i_X t_X_ok n_X rfl fl_X_12 rfl rfl rfl rfl rfl rfl ?_
  refine q_aload_n C d_X_init_15 0 rfl rfl ?_
  refine q_bipush C d_X_init_16 rfl ?_
  refine q_newq (N := 6) C Kk zc_X_9 d_X_init_18 rfl rfl hR rfl rfl (fun q2 => ?_)
  refine q_perm (zPmA ([(h0, .inr (1, [.ref q1, .null, .int (zI 0), .null, .null, .int (zI 0), .null, .int (zI 0), .null, .null, .null, .null, .null]))] : va_W) (w_S (gca G) q1 u1 ++ ([] : va_W)) [(q2, .inl ((gca G) 3, (6, .inr (.inr (.inr (.inr (fun _ => none)))))))]) ?_
  refine q_eq (ws' := ([(h0, .inr (1, [.ref q1, .null, .int (zI 0), .null, .null, .int (zI 0), .null, .int (zI 0), .null, .null, .null, .null, .null])), (q2, .inl ((gca G) 3, (6, .inr (.inr (.inr (.inr (fun _ => none)))))))] : va_W) ++ (w_S (gca G) q1 u1 ++ ([] : va_W))) rfl ?_
  refine q_putF (q0 := 0) (kf := 1) (ws' := ([(h0, .inr (1, [.ref q1, .ref q2, .int (zI 0), .null, .null, .int (zI 0), .null, .int (zI 0), .null, .null, .null, .null, .null])), (q2, .inl ((gca G) 3, (6, .inr (.inr (.inr (.inr (fun _ => none)))))))] : va_W) ++ (w_S (gca G) q1 u1 ++ ([] : va_W))) C Kk t_X d_X_init_21 rfl rfl i_X t_X_ok n_X rfl fl_X_16 rfl rfl rfl rfl rfl rfl ?_
  refine q_aload_n C d_X_init_24 0 rfl rfl ?_
  refine q_iconst C d_X_init_25 ?_
  refine q_newq (N := 2) C Kk zc_X_9 d_X_init_26 rfl rfl hR rfl rfl (fun q3 => ?_)
  refine q_perm (zPmA ([(h0, .inr (1, [.ref q1, .ref q2, .int (zI 0), .null, .null, .int (zI 0), .null, .int (zI 0), .null, .null, .null, .null, .null])), (q2, .inl ((gca G) 3, (6, .inr (.inr (.inr (.inr (fun _ => none)))))))] : va_W) (w_S (gca G) q1 u1 ++ ([] : va_W)) [(q3, .inl ((gca G) 3, (2, .inr (.inr (.inr (.inr (fun _ => none)))))))]) ?_
  refine q_eq (ws' := ([(h0, .inr (1, [.ref q1, .ref q2, .int (zI 0), .null, .null, .int (zI 0), .null, .int (zI 0), .null, .null, .null, .null, .null])), (q2, .inl ((gca G) 3, (6, .inr (.inr (.inr (.inr (fun _ => none))))))), (q3, .inl ((gca G) 3, (2, .inr (.inr (.inr (.inr (fun _ => none)))))))] : va_W) ++ (w_S (gca G) q1 u1 ++ ([] : va_W))) rfl ?_
  refine q_putF (q0 := 0) (kf := 3) (ws' := ([(h0, .inr (1, [.ref q1, .ref q2, .int (zI 0), .ref q3, .null, .int (zI 0), .null, .int (zI 0), .null, .null, .null, .null, .null])), (q2, .inl ((gca G) 3, (6, .inr (.inr (.inr (.inr (fun _ => none))))))), (q3, .inl ((gca G) 3, (2, .inr (.inr (.inr (.inr (fun _ => none)))))))] : va_W) ++ (w_S (gca G) q1 u1 ++ ([] : va_W))) C Kk t_X d_X_init_29 rfl rfl i_X t_X_ok n_X rfl fl_X_20 rfl rfl rfl rfl rfl rfl ?_
  refine q_aload_n C d_X_init_32 0 rfl rfl ?_
  refine q_iconst C d_X_init_33 ?_
  refine q_newa (ty := .boolean) (t := 1) (N := 2) C Kk za_boolean rfl rfl rfl d_X_init_34 rfl rfl hR rfl rfl (fun q4 => ?_)
  refine q_perm (zPmR ([(h0, .inr (1, [.ref q1, .ref q2, .int (zI 0), .ref q3, .null, .int (zI 0), .null, .int (zI 0), .null, .null, .null, .null, .null])), (q2, .inl ((gca G) 3, (6, .inr (.inr (.inr (.inr (fun _ => none))))))), (q3, .inl ((gca G) 3, (2, .inr (.inr (.inr (.inr (fun _ => none)))))))] : va_W) (w_S (gca G) q1 u1 ++ ([] : va_W)) [(q4, .inl ((gca G) 1, (2, .inl (fun _ => 0))))]) ?_
  refine q_putF (q0 := 0) (kf := 4) (ws' := ([(h0, .inr (1, [.ref q1, .ref q2, .int (zI 0), .ref q3, .ref q4, .int (zI 0), .null, .int (zI 0), .null, .null, .null, .null, .null])), (q2, .inl ((gca G) 3, (6, .inr (.inr (.inr (.inr (fun _ => none))))))), (q3, .inl ((gca G) 3, (2, .inr (.inr (.inr (.inr (fun _ => none)))))))] : va_W) ++ ([(q4, .inl ((gca G) 1, (2, .inl (fun _ => 0))))] ++ (w_S (gca G) q1 u1 ++ ([] : va_W)))) C Kk t_X d_X_init_36 rfl rfl i_X t_X_ok n_X rfl fl_X_23 rfl rfl rfl rfl rfl rfl ?_
  refine q_aload_n C d_X_init_39 0 rfl rfl ?_
  refine q_new (ci := 2) (fs := zb_P) C Kk.2.1 t_P t_P_ok i_P zc_X_27 zt_P zy_P rfl zf_P d_X_init_40 hR rfl rfl (fun q5 => ?_)
  refine q_dup C d_X_init_43 rfl ?_
  refine q_callIN (host := "GateRoads") C Kk.2.1 Kk.2.2 d_X_init_44 (fun sz => c_P_init (xl X) (gD G) (gca G) q5 sz) (by decide) zm_P zy_P zk_P zd_P rfl rfl hR rfl rfl rfl rfl (fun u5 => ?_)
  refine q_perm (zPmR ([(h0, .inr (1, [.ref q1, .ref q2, .int (zI 0), .ref q3, .ref q4, .int (zI 0), .null, .int (zI 0), .null, .null, .null, .null, .null])), (q2, .inl ((gca G) 3, (6, .inr (.inr (.inr (.inr (fun _ => none))))))), (q3, .inl ((gca G) 3, (2, .inr (.inr (.inr (.inr (fun _ => none)))))))] : va_W) ([(q4, .inl ((gca G) 1, (2, .inl (fun _ => 0))))] ++ (w_S (gca G) q1 u1 ++ ([] : va_W))) (w_P (gca G) q5 u5)) ?_
  refine q_putF (q0 := 0) (kf := 6) (ws' := ([(h0, .inr (1, [.ref q1, .ref q2, .int (zI 0), .ref q3, .ref q4, .int (zI 0), .ref q5, .int (zI 0), .null, .null, .null, .null, .null])), (q2, .inl ((gca G) 3, (6, .inr (.inr (.inr (.inr (fun _ => none))))))), (q3, .inl ((gca G) 3, (2, .inr (.inr (.inr (.inr (fun _ => none)))))))] : va_W) ++ (w_P (gca G) q5 u5 ++ ([(q4, .inl ((gca G) 1, (2, .inl (fun _ => 0))))] ++ (w_S (gca G) q1 u1 ++ ([] : va_W))))) C Kk t_X d_X_init_47 rfl rfl i_X t_X_ok n_X rfl fl_X_30 rfl rfl rfl rfl rfl rfl ?_
  refine q_aload_n C d_X_init_50 0 rfl rfl ?_
  refine q_new (ci := 3) (fs := zb_G) C Kk.2.1 t_G t_G_ok i_G zc_X_34 zt_G zy_G rfl zf_G d_X_init_51 hR rfl rfl (fun q6 => ?_)
  refine q_dup C d_X_init_54 rfl ?_
  refine q_callIN (host := "GateRoads") C Kk.2.1 Kk.2.2 d_X_init_55 (fun sz => c_G_init (xl X) (gD G) (gca G) q6 sz) (by decide) zm_G zy_G zk_G zd_G rfl rfl hR rfl rfl rfl rfl (fun u6 => ?_)
  refine q_perm (zPmR ([(h0, .inr (1, [.ref q1, .ref q2, .int (zI 0), .ref q3, .ref q4, .int (zI 0), .ref q5, .int (zI 0), .null, .null, .null, .null, .null])), (q2, .inl ((gca G) 3, (6, .inr (.inr (.inr (.inr (fun _ => none))))))), (q3, .inl ((gca G) 3, (2, .inr (.inr (.inr (.inr (fun _ => none)))))))] : va_W) (w_P (gca G) q5 u5 ++ ([(q4, .inl ((gca G) 1, (2, .inl (fun _ => 0))))] ++ (w_S (gca G) q1 u1 ++ ([] : va_W)))) (w_G (gca G) q6 u6)) ?_
  refine q_putF (q0 := 0) (kf := 8) (ws' := ([(h0, .inr (1, [.ref q1, .ref q2, .int (zI 0), .ref q3, .ref q4, .int (zI 0), .ref q5, .int (zI 0), .ref q6, .null, .null, .null, .null])), (q2, .inl ((gca G) 3, (6, .inr (.inr (.inr (.inr (fun _ => none))))))), (q3, .inl ((gca G) 3, (2, .inr (.inr (.inr (.inr (fun _ => none)))))))] : va_W) ++ (w_G (gca G) q6 u6 ++ (w_P (gca G) q5 u5 ++ ([(q4, .inl ((gca G) 1, (2, .inl (fun _ => 0))))] ++ (w_S (gca G) q1 u1 ++ ([] : va_W)))))) C Kk t_X d_X_init_58 rfl rfl i_X t_X_ok n_X rfl fl_X_37 rfl rfl rfl rfl rfl rfl ?_
  refine q_aload_n C d_X_init_61 0 rfl rfl ?_
  refine q_new (ci := 4) (fs := zb_O) C Kk.2.1 t_O t_O_ok i_O zc_X_41 zt_O zy_O rfl zf_O d_X_init_62 hR rfl rfl (fun q7 => ?_)
  refine q_dup C d_X_init_65 rfl ?_
  refine q_callIN (host := "GateRoads") C Kk.2.1 Kk.2.2 d_X_init_66 (fun sz => c_O_init (xl X) (gD G) (gca G) q7 sz) (by decide) zm_O zy_O zk_O zd_O rfl rfl hR rfl rfl rfl rfl (fun u7 => ?_)
  refine q_perm (zPmR ([(h0, .inr (1, [.ref q1, .ref q2, .int (zI 0), .ref q3, .ref q4, .int (zI 0), .ref q5, .int (zI 0), .ref q6, .null, .null, .null, .null])), (q2, .inl ((gca G) 3, (6, .inr (.inr (.inr (.inr (fun _ => none))))))), (q3, .inl ((gca G) 3, (2, .inr (.inr (.inr (.inr (fun _ => none)))))))] : va_W) (w_G (gca G) q6 u6 ++ (w_P (gca G) q5 u5 ++ ([(q4, .inl ((gca G) 1, (2, .inl (fun _ => 0))))] ++ (w_S (gca G) q1 u1 ++ ([] : va_W))))) (w_O (gca G) q7 u7)) ?_
  refine q_putF (q0 := 0) (kf := 9) (ws' := ([(h0, .inr (1, [.ref q1, .ref q2, .int (zI 0), .ref q3, .ref q4, .int (zI 0), .ref q5, .int (zI 0), .ref q6, .ref q7, .null, .null, .null])), (q2, .inl ((gca G) 3, (6, .inr (.inr (.inr (.inr (fun _ => none))))))), (q3, .inl ((gca G) 3, (2, .inr (.inr (.inr (.inr (fun _ => none)))))))] : va_W) ++ (w_O (gca G) q7 u7 ++ (w_G (gca G) q6 u6 ++ (w_P (gca G) q5 u5 ++ ([(q4, .inl ((gca G) 1, (2, .inl (fun _ => 0))))] ++ (w_S (gca G) q1 u1 ++ ([] : va_W))))))) C Kk t_X d_X_init_69 rfl rfl i_X t_X_ok n_X rfl fl_X_44 rfl rfl rfl rfl rfl rfl ?_
  refine q_aload_n C d_X_init_72 0 rfl rfl ?_
  refine q_new (ci := 4) (fs := zb_O) C Kk.2.1 t_O t_O_ok i_O zc_X_41 zt_O zy_O rfl zf_O d_X_init_73 hR rfl rfl (fun q8 => ?_)
  refine q_dup C d_X_init_76 rfl ?_
  refine q_callIN (host := "GateRoads") C Kk.2.1 Kk.2.2 d_X_init_77 (fun sz => c_O_init (xl X) (gD G) (gca G) q8 sz) (by decide) zm_O zy_O zk_O zd_O rfl rfl hR rfl rfl rfl rfl (fun u8 => ?_)
  refine q_perm (zPmR ([(h0, .inr (1, [.ref q1, .ref q2, .int (zI 0), .ref q3, .ref q4, .int (zI 0), .ref q5, .int (zI 0), .ref q6, .ref q7, .null, .null, .null])), (q2, .inl ((gca G) 3, (6, .inr (.inr (.inr (.inr (fun _ => none))))))), (q3, .inl ((gca G) 3, (2, .inr (.inr (.inr (.inr (fun _ => none)))))))] : va_W) (w_O (gca G) q7 u7 ++ (w_G (gca G) q6 u6 ++ (w_P (gca G) q5 u5 ++ ([(q4, .inl ((gca G) 1, (2, .inl (fun _ => 0))))] ++ (w_S (gca G) q1 u1 ++ ([] : va_W)))))) (w_O (gca G) q8 u8)) ?_
  refine q_putF (q0 := 0) (kf := 10) (ws' := ([(h0, .inr (1, [.ref q1, .ref q2, .int (zI 0), .ref q3, .ref q4, .int (zI 0), .ref q5, .int (zI 0), .ref q6, .ref q7, .ref q8, .null, .null])), (q2, .inl ((gca G) 3, (6, .inr (.inr (.inr (.inr (fun _ => none))))))), (q3, .inl ((gca G) 3, (2, .inr (.inr (.inr (.inr (fun _ => none)))))))] : va_W) ++ (w_O (gca G) q8 u8 ++ (w_O (gca G) q7 u7 ++ (w_G (gca G) q6 u6 ++ (w_P (gca G) q5 u5 ++ ([(q4, .inl ((gca G) 1, (2, .inl (fun _ => 0))))] ++ (w_S (gca G) q1 u1 ++ ([] : va_W)))))))) C Kk t_X d_X_init_80 rfl rfl i_X t_X_ok n_X rfl fl_X_48 rfl rfl rfl rfl rfl rfl ?_
  refine q_aload_n C d_X_init_83 0 rfl rfl ?_
  refine q_new (ci := 5) (fs := zb_B) C Kk.2.1 t_B t_B_ok i_B zc_X_51 zt_B zy_B rfl zf_B d_X_init_84 hR rfl rfl (fun q9 => ?_)
  refine q_dup C d_X_init_87 rfl ?_
  refine q_callIN (host := "GateRoads") C Kk.2.1 Kk.2.2 d_X_init_88 (fun sz => c_B_init (xl X) (gD G) (gca G) q9 sz) (by decide) zm_B zy_B zk_B zd_B rfl rfl hR rfl rfl rfl rfl (fun u9 => ?_)
  refine q_perm (zPmR ([(h0, .inr (1, [.ref q1, .ref q2, .int (zI 0), .ref q3, .ref q4, .int (zI 0), .ref q5, .int (zI 0), .ref q6, .ref q7, .ref q8, .null, .null])), (q2, .inl ((gca G) 3, (6, .inr (.inr (.inr (.inr (fun _ => none))))))), (q3, .inl ((gca G) 3, (2, .inr (.inr (.inr (.inr (fun _ => none)))))))] : va_W) (w_O (gca G) q8 u8 ++ (w_O (gca G) q7 u7 ++ (w_G (gca G) q6 u6 ++ (w_P (gca G) q5 u5 ++ ([(q4, .inl ((gca G) 1, (2, .inl (fun _ => 0))))] ++ (w_S (gca G) q1 u1 ++ ([] : va_W))))))) (w_B (gca G) q9 u9)) ?_
  refine q_putF (q0 := 0) (kf := 11) (ws' := ([(h0, .inr (1, [.ref q1, .ref q2, .int (zI 0), .ref q3, .ref q4, .int (zI 0), .ref q5, .int (zI 0), .ref q6, .ref q7, .ref q8, .ref q9, .null])), (q2, .inl ((gca G) 3, (6, .inr (.inr (.inr (.inr (fun _ => none))))))), (q3, .inl ((gca G) 3, (2, .inr (.inr (.inr (.inr (fun _ => none)))))))] : va_W) ++ (w_B (gca G) q9 u9 ++ (w_O (gca G) q8 u8 ++ (w_O (gca G) q7 u7 ++ (w_G (gca G) q6 u6 ++ (w_P (gca G) q5 u5 ++ ([(q4, .inl ((gca G) 1, (2, .inl (fun _ => 0))))] ++ (w_S (gca G) q1 u1 ++ ([] : va_W))))))))) C Kk t_X d_X_init_91 rfl rfl i_X t_X_ok n_X rfl fl_X_54 rfl rfl rfl rfl rfl rfl ?_
  refine q_aload_n C d_X_init_94 0 rfl rfl ?_
  refine q_new (ci := 6) (fs := zb_F) C Kk.2.1 t_F t_F_ok i_F zc_X_58 zt_F zy_F rfl zf_F d_X_init_95 hR rfl rfl (fun q10 => ?_)
  refine q_dup C d_X_init_98 rfl ?_
  refine q_callIN (host := "GateRoads") C Kk.2.1 Kk.2.2 d_X_init_99 (fun sz => c_F_init (xl X) (gD G) (gca G) q10 sz) (by decide) zm_F zy_F zk_F zd_F rfl rfl hR rfl rfl rfl rfl (fun u10 => ?_)
  refine q_perm (zPmR ([(h0, .inr (1, [.ref q1, .ref q2, .int (zI 0), .ref q3, .ref q4, .int (zI 0), .ref q5, .int (zI 0), .ref q6, .ref q7, .ref q8, .ref q9, .null])), (q2, .inl ((gca G) 3, (6, .inr (.inr (.inr (.inr (fun _ => none))))))), (q3, .inl ((gca G) 3, (2, .inr (.inr (.inr (.inr (fun _ => none)))))))] : va_W) (w_B (gca G) q9 u9 ++ (w_O (gca G) q8 u8 ++ (w_O (gca G) q7 u7 ++ (w_G (gca G) q6 u6 ++ (w_P (gca G) q5 u5 ++ ([(q4, .inl ((gca G) 1, (2, .inl (fun _ => 0))))] ++ (w_S (gca G) q1 u1 ++ ([] : va_W)))))))) (w_F (gca G) q10 u10)) ?_
  refine q_putF (q0 := 0) (kf := 12) (ws' := ([(h0, .inr (1, [.ref q1, .ref q2, .int (zI 0), .ref q3, .ref q4, .int (zI 0), .ref q5, .int (zI 0), .ref q6, .ref q7, .ref q8, .ref q9, .ref q10])), (q2, .inl ((gca G) 3, (6, .inr (.inr (.inr (.inr (fun _ => none))))))), (q3, .inl ((gca G) 3, (2, .inr (.inr (.inr (.inr (fun _ => none)))))))] : va_W) ++ (w_F (gca G) q10 u10 ++ (w_B (gca G) q9 u9 ++ (w_O (gca G) q8 u8 ++ (w_O (gca G) q7 u7 ++ (w_G (gca G) q6 u6 ++ (w_P (gca G) q5 u5 ++ ([(q4, .inl ((gca G) 1, (2, .inl (fun _ => 0))))] ++ (w_S (gca G) q1 u1 ++ ([] : va_W)))))))))) C Kk t_X d_X_init_102 rfl rfl i_X t_X_ok n_X rfl fl_X_61 rfl rfl rfl rfl rfl rfl ?_
  refine q_iconst C d_X_init_105 ?_
  refine q_istore_n (L' := [(1, .int (zI 0)), (0, .ref h0)]) C d_X_init_106 rfl rfl rfl ?_
  refine q_sub (L' := [(0, .ref h0), (1, .int (zI 0))]) [1, 0] rfl ?_
  refine q_iload_n C d_X_init_107 1 rfl rfl ?_
  refine q_bipush C d_X_init_108 rfl ?_
  refine q_icmp_ge (tgt := 132) C d_X_init_110 rfl (zR_of (x := 0) rfl) (zR_of (x := 6) rfl) (fun c => absurd c (by decide)) (fun c => ?_)
  refine q_aload_n C d_X_init_113 0 rfl rfl ?_
  refine q_getr (q0 := 0) (kf := 1) C d_X_init_114 rfl rfl i_X rfl fl_X_16 rfl ?_
  refine q_iload_n C d_X_init_117 1 rfl rfl ?_
  refine q_new (ci := 0) (fs := zb_S) C Kk.2.1 t_S t_S_ok i_S zc_X_9 zt_S zy_S rfl zf_S d_X_init_118 hR rfl rfl (fun q11 => ?_)
  refine q_dup C d_X_init_121 rfl ?_
  refine q_callI C Kk.2.1 Kk.2.2 d_X_init_122 (fun sz => c_S_init (xl X) (gD G) (gca G) q11 sz) ml_X_11 zm_S zy_S zk_S zd_S rfl rfl hR rfl rfl rfl rfl (fun u11 => ?_)
  refine q_perm (zPmR ([(h0, .inr (1, [.ref q1, .ref q2, .int (zI 0), .ref q3, .ref q4, .int (zI 0), .ref q5, .int (zI 0), .ref q6, .ref q7, .ref q8, .ref q9, .ref q10])), (q2, .inl ((gca G) 3, (6, .inr (.inr (.inr (.inr (fun _ => none))))))), (q3, .inl ((gca G) 3, (2, .inr (.inr (.inr (.inr (fun _ => none)))))))] : va_W) (w_F (gca G) q10 u10 ++ (w_B (gca G) q9 u9 ++ (w_O (gca G) q8 u8 ++ (w_O (gca G) q7 u7 ++ (w_G (gca G) q6 u6 ++ (w_P (gca G) q5 u5 ++ ([(q4, .inl ((gca G) 1, (2, .inl (fun _ => 0))))] ++ (w_S (gca G) q1 u1 ++ ([] : va_W))))))))) (w_S (gca G) q11 u11)) ?_
  refine q_aastore (q0 := 1) (qk := 3) (ws' := ([(h0, .inr (1, [.ref q1, .ref q2, .int (zI 0), .ref q3, .ref q4, .int (zI 0), .ref q5, .int (zI 0), .ref q6, .ref q7, .ref q8, .ref q9, .ref q10])), (q2, .inl ((gca G) 3, (6, .inr (.inr (.inr (.inr (va_up (fun _ => none) 0 (some q11)))))))), (q3, .inl ((gca G) 3, (2, .inr (.inr (.inr (.inr (fun _ => none)))))))] : va_W) ++ (w_S (gca G) q11 u11 ++ (w_F (gca G) q10 u10 ++ (w_B (gca G) q9 u9 ++ (w_O (gca G) q8 u8 ++ (w_O (gca G) q7 u7 ++ (w_G (gca G) q6 u6 ++ (w_P (gca G) q5 u5 ++ ([(q4, .inl ((gca G) 1, (2, .inl (fun _ => 0))))] ++ (w_S (gca G) q1 u1 ++ ([] : va_W))))))))))) C d_X_init_125 rfl rfl ⟨by decide, by decide⟩ rfl rfl ?_
  refine q_iinc (L' := [(1, .int (zI 1)), (0, .ref h0)]) C d_X_init_126 1 rfl rfl rfl ?_
  refine q_sub (L' := [(0, .ref h0), (1, .int (zI 1))]) [1, 0] rfl ?_
  refine q_goto (tgt := 107) C d_X_init_129 rfl ?_
  refine q_iload_n C d_X_init_107 1 rfl rfl ?_
  refine q_bipush C d_X_init_108 rfl ?_
  refine q_icmp_ge (tgt := 132) C d_X_init_110 rfl (zR_of (x := 1) rfl) (zR_of (x := 6) rfl) (fun c => absurd c (by decide)) (fun c => ?_)
  refine q_aload_n C d_X_init_113 0 rfl rfl ?_
  refine q_getr (q0 := 0) (kf := 1) C d_X_init_114 rfl rfl i_X rfl fl_X_16 rfl ?_
  refine q_iload_n C d_X_init_117 1 rfl rfl ?_
  refine q_new (ci := 0) (fs := zb_S) C Kk.2.1 t_S t_S_ok i_S zc_X_9 zt_S zy_S rfl zf_S d_X_init_118 hR rfl rfl (fun q12 => ?_)
  refine q_dup C d_X_init_121 rfl ?_
  refine q_callI C Kk.2.1 Kk.2.2 d_X_init_122 (fun sz => c_S_init (xl X) (gD G) (gca G) q12 sz) ml_X_11 zm_S zy_S zk_S zd_S rfl rfl hR rfl rfl rfl rfl (fun u12 => ?_)
  refine q_perm (zPmR ([(h0, .inr (1, [.ref q1, .ref q2, .int (zI 0), .ref q3, .ref q4, .int (zI 0), .ref q5, .int (zI 0), .ref q6, .ref q7, .ref q8, .ref q9, .ref q10])), (q2, .inl ((gca G) 3, (6, .inr (.inr (.inr (.inr (va_up (fun _ => none) 0 (some q11)))))))), (q3, .inl ((gca G) 3, (2, .inr (.inr (.inr (.inr (fun _ => none)))))))] : va_W) (w_S (gca G) q11 u11 ++ (w_F (gca G) q10 u10 ++ (w_B (gca G) q9 u9 ++ (w_O (gca G) q8 u8 ++ (w_O (gca G) q7 u7 ++ (w_G (gca G) q6 u6 ++ (w_P (gca G) q5 u5 ++ ([(q4, .inl ((gca G) 1, (2, .inl (fun _ => 0))))] ++ (w_S (gca G) q1 u1 ++ ([] : va_W)))))))))) (w_S (gca G) q12 u12)) ?_
  refine q_aastore (q0 := 1) (qk := 3) (ws' := ([(h0, .inr (1, [.ref q1, .ref q2, .int (zI 0), .ref q3, .ref q4, .int (zI 0), .ref q5, .int (zI 0), .ref q6, .ref q7, .ref q8, .ref q9, .ref q10])), (q2, .inl ((gca G) 3, (6, .inr (.inr (.inr (.inr (va_up (va_up (fun _ => none) 0 (some q11)) 1 (some q12)))))))), (q3, .inl ((gca G) 3, (2, .inr (.inr (.inr (.inr (fun _ => none)))))))] : va_W) ++ (w_S (gca G) q12 u12 ++ (w_S (gca G) q11 u11 ++ (w_F (gca G) q10 u10 ++ (w_B (gca G) q9 u9 ++ (w_O (gca G) q8 u8 ++ (w_O (gca G) q7 u7 ++ (w_G (gca G) q6 u6 ++ (w_P (gca G) q5 u5 ++ ([(q4, .inl ((gca G) 1, (2, .inl (fun _ => 0))))] ++ (w_S (gca G) q1 u1 ++ ([] : va_W)))))))))))) C d_X_init_125 rfl rfl ⟨by decide, by decide⟩ rfl rfl ?_
  refine q_iinc (L' := [(1, .int (zI 2)), (0, .ref h0)]) C d_X_init_126 1 rfl rfl rfl ?_
  refine q_sub (L' := [(0, .ref h0), (1, .int (zI 2))]) [1, 0] rfl ?_
  refine q_goto (tgt := 107) C d_X_init_129 rfl ?_
  refine q_iload_n C d_X_init_107 1 rfl rfl ?_
  refine q_bipush C d_X_init_108 rfl ?_
  refine q_icmp_ge (tgt := 132) C d_X_init_110 rfl (zR_of (x := 2) rfl) (zR_of (x := 6) rfl) (fun c => absurd c (by decide)) (fun c => ?_)
  refine q_aload_n C d_X_init_113 0 rfl rfl ?_
  refine q_getr (q0 := 0) (kf := 1) C d_X_init_114 rfl rfl i_X rfl fl_X_16 rfl ?_
  refine q_iload_n C d_X_init_117 1 rfl rfl ?_
  refine q_new (ci := 0) (fs := zb_S) C Kk.2.1 t_S t_S_ok i_S zc_X_9 zt_S zy_S rfl zf_S d_X_init_118 hR rfl rfl (fun q13 => ?_)
  refine q_dup C d_X_init_121 rfl ?_
  refine q_callI C Kk.2.1 Kk.2.2 d_X_init_122 (fun sz => c_S_init (xl X) (gD G) (gca G) q13 sz) ml_X_11 zm_S zy_S zk_S zd_S rfl rfl hR rfl rfl rfl rfl (fun u13 => ?_)
  refine q_perm (zPmR ([(h0, .inr (1, [.ref q1, .ref q2, .int (zI 0), .ref q3, .ref q4, .int (zI 0), .ref q5, .int (zI 0), .ref q6, .ref q7, .ref q8, .ref q9, .ref q10])), (q2, .inl ((gca G) 3, (6, .inr (.inr (.inr (.inr (va_up (va_up (fun _ => none) 0 (some q11)) 1 (some q12)))))))), (q3, .inl ((gca G) 3, (2, .inr (.inr (.inr (.inr (fun _ => none)))))))] : va_W) (w_S (gca G) q12 u12 ++ (w_S (gca G) q11 u11 ++ (w_F (gca G) q10 u10 ++ (w_B (gca G) q9 u9 ++ (w_O (gca G) q8 u8 ++ (w_O (gca G) q7 u7 ++ (w_G (gca G) q6 u6 ++ (w_P (gca G) q5 u5 ++ ([(q4, .inl ((gca G) 1, (2, .inl (fun _ => 0))))] ++ (w_S (gca G) q1 u1 ++ ([] : va_W))))))))))) (w_S (gca G) q13 u13)) ?_
  refine q_aastore (q0 := 1) (qk := 3) (ws' := ([(h0, .inr (1, [.ref q1, .ref q2, .int (zI 0), .ref q3, .ref q4, .int (zI 0), .ref q5, .int (zI 0), .ref q6, .ref q7, .ref q8, .ref q9, .ref q10])), (q2, .inl ((gca G) 3, (6, .inr (.inr (.inr (.inr (va_up (va_up (va_up (fun _ => none) 0 (some q11)) 1 (some q12)) 2 (some q13)))))))), (q3, .inl ((gca G) 3, (2, .inr (.inr (.inr (.inr (fun _ => none)))))))] : va_W) ++ (w_S (gca G) q13 u13 ++ (w_S (gca G) q12 u12 ++ (w_S (gca G) q11 u11 ++ (w_F (gca G) q10 u10 ++ (w_B (gca G) q9 u9 ++ (w_O (gca G) q8 u8 ++ (w_O (gca G) q7 u7 ++ (w_G (gca G) q6 u6 ++ (w_P (gca G) q5 u5 ++ ([(q4, .inl ((gca G) 1, (2, .inl (fun _ => 0))))] ++ (w_S (gca G) q1 u1 ++ ([] : va_W))))))))))))) C d_X_init_125 rfl rfl ⟨by decide, by decide⟩ rfl rfl ?_
  refine q_iinc (L' := [(1, .int (zI 3)), (0, .ref h0)]) C d_X_init_126 1 rfl rfl rfl ?_
  refine q_sub (L' := [(0, .ref h0), (1, .int (zI 3))]) [1, 0] rfl ?_
  refine q_goto (tgt := 107) C d_X_init_129 rfl ?_
  refine q_iload_n C d_X_init_107 1 rfl rfl ?_
  refine q_bipush C d_X_init_108 rfl ?_
  refine q_icmp_ge (tgt := 132) C d_X_init_110 rfl (zR_of (x := 3) rfl) (zR_of (x := 6) rfl) (fun c => absurd c (by decide)) (fun c => ?_)
  refine q_aload_n C d_X_init_113 0 rfl rfl ?_
  refine q_getr (q0 := 0) (kf := 1) C d_X_init_114 rfl rfl i_X rfl fl_X_16 rfl ?_
  refine q_iload_n C d_X_init_117 1 rfl rfl ?_
  refine q_new (ci := 0) (fs := zb_S) C Kk.2.1 t_S t_S_ok i_S zc_X_9 zt_S zy_S rfl zf_S d_X_init_118 hR rfl rfl (fun q14 => ?_)
  refine q_dup C d_X_init_121 rfl ?_
  refine q_callI C Kk.2.1 Kk.2.2 d_X_init_122 (fun sz => c_S_init (xl X) (gD G) (gca G) q14 sz) ml_X_11 zm_S zy_S zk_S zd_S rfl rfl hR rfl rfl rfl rfl (fun u14 => ?_)
  refine q_perm (zPmR ([(h0, .inr (1, [.ref q1, .ref q2, .int (zI 0), .ref q3, .ref q4, .int (zI 0), .ref q5, .int (zI 0), .ref q6, .ref q7, .ref q8, .ref q9, .ref q10])), (q2, .inl ((gca G) 3, (6, .inr (.inr (.inr (.inr (va_up (va_up (va_up (fun _ => none) 0 (some q11)) 1 (some q12)) 2 (some q13)))))))), (q3, .inl ((gca G) 3, (2, .inr (.inr (.inr (.inr (fun _ => none)))))))] : va_W) (w_S (gca G) q13 u13 ++ (w_S (gca G) q12 u12 ++ (w_S (gca G) q11 u11 ++ (w_F (gca G) q10 u10 ++ (w_B (gca G) q9 u9 ++ (w_O (gca G) q8 u8 ++ (w_O (gca G) q7 u7 ++ (w_G (gca G) q6 u6 ++ (w_P (gca G) q5 u5 ++ ([(q4, .inl ((gca G) 1, (2, .inl (fun _ => 0))))] ++ (w_S (gca G) q1 u1 ++ ([] : va_W)))))))))))) (w_S (gca G) q14 u14)) ?_
  refine q_aastore (q0 := 1) (qk := 3) (ws' := ([(h0, .inr (1, [.ref q1, .ref q2, .int (zI 0), .ref q3, .ref q4, .int (zI 0), .ref q5, .int (zI 0), .ref q6, .ref q7, .ref q8, .ref q9, .ref q10])), (q2, .inl ((gca G) 3, (6, .inr (.inr (.inr (.inr (va_up (va_up (va_up (va_up (fun _ => none) 0 (some q11)) 1 (some q12)) 2 (some q13)) 3 (some q14)))))))), (q3, .inl ((gca G) 3, (2, .inr (.inr (.inr (.inr (fun _ => none)))))))] : va_W) ++ (w_S (gca G) q14 u14 ++ (w_S (gca G) q13 u13 ++ (w_S (gca G) q12 u12 ++ (w_S (gca G) q11 u11 ++ (w_F (gca G) q10 u10 ++ (w_B (gca G) q9 u9 ++ (w_O (gca G) q8 u8 ++ (w_O (gca G) q7 u7 ++ (w_G (gca G) q6 u6 ++ (w_P (gca G) q5 u5 ++ ([(q4, .inl ((gca G) 1, (2, .inl (fun _ => 0))))] ++ (w_S (gca G) q1 u1 ++ ([] : va_W)))))))))))))) C d_X_init_125 rfl rfl ⟨by decide, by decide⟩ rfl rfl ?_
  refine q_iinc (L' := [(1, .int (zI 4)), (0, .ref h0)]) C d_X_init_126 1 rfl rfl rfl ?_
  refine q_sub (L' := [(0, .ref h0), (1, .int (zI 4))]) [1, 0] rfl ?_
  refine q_goto (tgt := 107) C d_X_init_129 rfl ?_
  refine q_iload_n C d_X_init_107 1 rfl rfl ?_
  refine q_bipush C d_X_init_108 rfl ?_
  refine q_icmp_ge (tgt := 132) C d_X_init_110 rfl (zR_of (x := 4) rfl) (zR_of (x := 6) rfl) (fun c => absurd c (by decide)) (fun c => ?_)
  refine q_aload_n C d_X_init_113 0 rfl rfl ?_
  refine q_getr (q0 := 0) (kf := 1) C d_X_init_114 rfl rfl i_X rfl fl_X_16 rfl ?_
  refine q_iload_n C d_X_init_117 1 rfl rfl ?_
  refine q_new (ci := 0) (fs := zb_S) C Kk.2.1 t_S t_S_ok i_S zc_X_9 zt_S zy_S rfl zf_S d_X_init_118 hR rfl rfl (fun q15 => ?_)
  refine q_dup C d_X_init_121 rfl ?_
  refine q_callI C Kk.2.1 Kk.2.2 d_X_init_122 (fun sz => c_S_init (xl X) (gD G) (gca G) q15 sz) ml_X_11 zm_S zy_S zk_S zd_S rfl rfl hR rfl rfl rfl rfl (fun u15 => ?_)
  refine q_perm (zPmR ([(h0, .inr (1, [.ref q1, .ref q2, .int (zI 0), .ref q3, .ref q4, .int (zI 0), .ref q5, .int (zI 0), .ref q6, .ref q7, .ref q8, .ref q9, .ref q10])), (q2, .inl ((gca G) 3, (6, .inr (.inr (.inr (.inr (va_up (va_up (va_up (va_up (fun _ => none) 0 (some q11)) 1 (some q12)) 2 (some q13)) 3 (some q14)))))))), (q3, .inl ((gca G) 3, (2, .inr (.inr (.inr (.inr (fun _ => none)))))))] : va_W) (w_S (gca G) q14 u14 ++ (w_S (gca G) q13 u13 ++ (w_S (gca G) q12 u12 ++ (w_S (gca G) q11 u11 ++ (w_F (gca G) q10 u10 ++ (w_B (gca G) q9 u9 ++ (w_O (gca G) q8 u8 ++ (w_O (gca G) q7 u7 ++ (w_G (gca G) q6 u6 ++ (w_P (gca G) q5 u5 ++ ([(q4, .inl ((gca G) 1, (2, .inl (fun _ => 0))))] ++ (w_S (gca G) q1 u1 ++ ([] : va_W))))))))))))) (w_S (gca G) q15 u15)) ?_
  refine q_aastore (q0 := 1) (qk := 3) (ws' := ([(h0, .inr (1, [.ref q1, .ref q2, .int (zI 0), .ref q3, .ref q4, .int (zI 0), .ref q5, .int (zI 0), .ref q6, .ref q7, .ref q8, .ref q9, .ref q10])), (q2, .inl ((gca G) 3, (6, .inr (.inr (.inr (.inr (va_up (va_up (va_up (va_up (va_up (fun _ => none) 0 (some q11)) 1 (some q12)) 2 (some q13)) 3 (some q14)) 4 (some q15)))))))), (q3, .inl ((gca G) 3, (2, .inr (.inr (.inr (.inr (fun _ => none)))))))] : va_W) ++ (w_S (gca G) q15 u15 ++ (w_S (gca G) q14 u14 ++ (w_S (gca G) q13 u13 ++ (w_S (gca G) q12 u12 ++ (w_S (gca G) q11 u11 ++ (w_F (gca G) q10 u10 ++ (w_B (gca G) q9 u9 ++ (w_O (gca G) q8 u8 ++ (w_O (gca G) q7 u7 ++ (w_G (gca G) q6 u6 ++ (w_P (gca G) q5 u5 ++ ([(q4, .inl ((gca G) 1, (2, .inl (fun _ => 0))))] ++ (w_S (gca G) q1 u1 ++ ([] : va_W))))))))))))))) C d_X_init_125 rfl rfl ⟨by decide, by decide⟩ rfl rfl ?_
  refine q_iinc (L' := [(1, .int (zI 5)), (0, .ref h0)]) C d_X_init_126 1 rfl rfl rfl ?_
  refine q_sub (L' := [(0, .ref h0), (1, .int (zI 5))]) [1, 0] rfl ?_
  refine q_goto (tgt := 107) C d_X_init_129 rfl ?_
  refine q_iload_n C d_X_init_107 1 rfl rfl ?_
  refine q_bipush C d_X_init_108 rfl ?_
  refine q_icmp_ge (tgt := 132) C d_X_init_110 rfl (zR_of (x := 5) rfl) (zR_of (x := 6) rfl) (fun c => absurd c (by decide)) (fun c => ?_)
  refine q_aload_n C d_X_init_113 0 rfl rfl ?_
  refine q_getr (q0 := 0) (kf := 1) C d_X_init_114 rfl rfl i_X rfl fl_X_16 rfl ?_
  refine q_iload_n C d_X_init_117 1 rfl rfl ?_
  refine q_new (ci := 0) (fs := zb_S) C Kk.2.1 t_S t_S_ok i_S zc_X_9 zt_S zy_S rfl zf_S d_X_init_118 hR rfl rfl (fun q16 => ?_)
  refine q_dup C d_X_init_121 rfl ?_
  refine q_callI C Kk.2.1 Kk.2.2 d_X_init_122 (fun sz => c_S_init (xl X) (gD G) (gca G) q16 sz) ml_X_11 zm_S zy_S zk_S zd_S rfl rfl hR rfl rfl rfl rfl (fun u16 => ?_)
  refine q_perm (zPmR ([(h0, .inr (1, [.ref q1, .ref q2, .int (zI 0), .ref q3, .ref q4, .int (zI 0), .ref q5, .int (zI 0), .ref q6, .ref q7, .ref q8, .ref q9, .ref q10])), (q2, .inl ((gca G) 3, (6, .inr (.inr (.inr (.inr (va_up (va_up (va_up (va_up (va_up (fun _ => none) 0 (some q11)) 1 (some q12)) 2 (some q13)) 3 (some q14)) 4 (some q15)))))))), (q3, .inl ((gca G) 3, (2, .inr (.inr (.inr (.inr (fun _ => none)))))))] : va_W) (w_S (gca G) q15 u15 ++ (w_S (gca G) q14 u14 ++ (w_S (gca G) q13 u13 ++ (w_S (gca G) q12 u12 ++ (w_S (gca G) q11 u11 ++ (w_F (gca G) q10 u10 ++ (w_B (gca G) q9 u9 ++ (w_O (gca G) q8 u8 ++ (w_O (gca G) q7 u7 ++ (w_G (gca G) q6 u6 ++ (w_P (gca G) q5 u5 ++ ([(q4, .inl ((gca G) 1, (2, .inl (fun _ => 0))))] ++ (w_S (gca G) q1 u1 ++ ([] : va_W)))))))))))))) (w_S (gca G) q16 u16)) ?_
  refine q_aastore (q0 := 1) (qk := 3) (ws' := ([(h0, .inr (1, [.ref q1, .ref q2, .int (zI 0), .ref q3, .ref q4, .int (zI 0), .ref q5, .int (zI 0), .ref q6, .ref q7, .ref q8, .ref q9, .ref q10])), (q2, .inl ((gca G) 3, (6, .inr (.inr (.inr (.inr (va_up (va_up (va_up (va_up (va_up (va_up (fun _ => none) 0 (some q11)) 1 (some q12)) 2 (some q13)) 3 (some q14)) 4 (some q15)) 5 (some q16)))))))), (q3, .inl ((gca G) 3, (2, .inr (.inr (.inr (.inr (fun _ => none)))))))] : va_W) ++ (w_S (gca G) q16 u16 ++ (w_S (gca G) q15 u15 ++ (w_S (gca G) q14 u14 ++ (w_S (gca G) q13 u13 ++ (w_S (gca G) q12 u12 ++ (w_S (gca G) q11 u11 ++ (w_F (gca G) q10 u10 ++ (w_B (gca G) q9 u9 ++ (w_O (gca G) q8 u8 ++ (w_O (gca G) q7 u7 ++ (w_G (gca G) q6 u6 ++ (w_P (gca G) q5 u5 ++ ([(q4, .inl ((gca G) 1, (2, .inl (fun _ => 0))))] ++ (w_S (gca G) q1 u1 ++ ([] : va_W)))))))))))))))) C d_X_init_125 rfl rfl ⟨by decide, by decide⟩ rfl rfl ?_
  refine q_iinc (L' := [(1, .int (zI 6)), (0, .ref h0)]) C d_X_init_126 1 rfl rfl rfl ?_
  refine q_sub (L' := [(0, .ref h0), (1, .int (zI 6))]) [1, 0] rfl ?_
  refine q_goto (tgt := 107) C d_X_init_129 rfl ?_
  refine q_iload_n C d_X_init_107 1 rfl rfl ?_
  refine q_bipush C d_X_init_108 rfl ?_
  refine q_icmp_ge (tgt := 132) C d_X_init_110 rfl (zR_of (x := 6) rfl) (zR_of (x := 6) rfl) (fun c => ?_) (fun c => absurd (by decide) c)
  refine q_iconst C d_X_init_132 ?_
  refine q_istore_n (L' := [(1, .int (zI 0)), (0, .ref h0)]) C d_X_init_133 rfl rfl rfl ?_
  refine q_sub (L' := [(0, .ref h0), (1, .int (zI 0))]) [1, 0] rfl ?_
  refine q_iload_n C d_X_init_134 1 rfl rfl ?_
  refine q_iconst C d_X_init_135 ?_
  refine q_icmp_ge (tgt := 158) C d_X_init_136 rfl (zR_of (x := 0) rfl) (zR_of (x := 2) rfl) (fun c => absurd c (by decide)) (fun c => ?_)
  refine q_aload_n C d_X_init_139 0 rfl rfl ?_
  refine q_getr (q0 := 0) (kf := 3) C d_X_init_140 rfl rfl i_X rfl fl_X_20 rfl ?_
  refine q_iload_n C d_X_init_143 1 rfl rfl ?_
  refine q_new (ci := 0) (fs := zb_S) C Kk.2.1 t_S t_S_ok i_S zc_X_9 zt_S zy_S rfl zf_S d_X_init_144 hR rfl rfl (fun q17 => ?_)
  refine q_dup C d_X_init_147 rfl ?_
  refine q_callI C Kk.2.1 Kk.2.2 d_X_init_148 (fun sz => c_S_init (xl X) (gD G) (gca G) q17 sz) ml_X_11 zm_S zy_S zk_S zd_S rfl rfl hR rfl rfl rfl rfl (fun u17 => ?_)
  refine q_perm (zPmR ([(h0, .inr (1, [.ref q1, .ref q2, .int (zI 0), .ref q3, .ref q4, .int (zI 0), .ref q5, .int (zI 0), .ref q6, .ref q7, .ref q8, .ref q9, .ref q10])), (q2, .inl ((gca G) 3, (6, .inr (.inr (.inr (.inr (va_up (va_up (va_up (va_up (va_up (va_up (fun _ => none) 0 (some q11)) 1 (some q12)) 2 (some q13)) 3 (some q14)) 4 (some q15)) 5 (some q16)))))))), (q3, .inl ((gca G) 3, (2, .inr (.inr (.inr (.inr (fun _ => none)))))))] : va_W) (w_S (gca G) q16 u16 ++ (w_S (gca G) q15 u15 ++ (w_S (gca G) q14 u14 ++ (w_S (gca G) q13 u13 ++ (w_S (gca G) q12 u12 ++ (w_S (gca G) q11 u11 ++ (w_F (gca G) q10 u10 ++ (w_B (gca G) q9 u9 ++ (w_O (gca G) q8 u8 ++ (w_O (gca G) q7 u7 ++ (w_G (gca G) q6 u6 ++ (w_P (gca G) q5 u5 ++ ([(q4, .inl ((gca G) 1, (2, .inl (fun _ => 0))))] ++ (w_S (gca G) q1 u1 ++ ([] : va_W))))))))))))))) (w_S (gca G) q17 u17)) ?_
  refine q_aastore (q0 := 2) (qk := 3) (ws' := ([(h0, .inr (1, [.ref q1, .ref q2, .int (zI 0), .ref q3, .ref q4, .int (zI 0), .ref q5, .int (zI 0), .ref q6, .ref q7, .ref q8, .ref q9, .ref q10])), (q2, .inl ((gca G) 3, (6, .inr (.inr (.inr (.inr (va_up (va_up (va_up (va_up (va_up (va_up (fun _ => none) 0 (some q11)) 1 (some q12)) 2 (some q13)) 3 (some q14)) 4 (some q15)) 5 (some q16)))))))), (q3, .inl ((gca G) 3, (2, .inr (.inr (.inr (.inr (va_up (fun _ => none) 0 (some q17))))))))] : va_W) ++ (w_S (gca G) q17 u17 ++ (w_S (gca G) q16 u16 ++ (w_S (gca G) q15 u15 ++ (w_S (gca G) q14 u14 ++ (w_S (gca G) q13 u13 ++ (w_S (gca G) q12 u12 ++ (w_S (gca G) q11 u11 ++ (w_F (gca G) q10 u10 ++ (w_B (gca G) q9 u9 ++ (w_O (gca G) q8 u8 ++ (w_O (gca G) q7 u7 ++ (w_G (gca G) q6 u6 ++ (w_P (gca G) q5 u5 ++ ([(q4, .inl ((gca G) 1, (2, .inl (fun _ => 0))))] ++ (w_S (gca G) q1 u1 ++ ([] : va_W))))))))))))))))) C d_X_init_151 rfl rfl ⟨by decide, by decide⟩ rfl rfl ?_
  refine q_iinc (L' := [(1, .int (zI 1)), (0, .ref h0)]) C d_X_init_152 1 rfl rfl rfl ?_
  refine q_sub (L' := [(0, .ref h0), (1, .int (zI 1))]) [1, 0] rfl ?_
  refine q_goto (tgt := 134) C d_X_init_155 rfl ?_
  refine q_iload_n C d_X_init_134 1 rfl rfl ?_
  refine q_iconst C d_X_init_135 ?_
  refine q_icmp_ge (tgt := 158) C d_X_init_136 rfl (zR_of (x := 1) rfl) (zR_of (x := 2) rfl) (fun c => absurd c (by decide)) (fun c => ?_)
  refine q_aload_n C d_X_init_139 0 rfl rfl ?_
  refine q_getr (q0 := 0) (kf := 3) C d_X_init_140 rfl rfl i_X rfl fl_X_20 rfl ?_
  refine q_iload_n C d_X_init_143 1 rfl rfl ?_
  refine q_new (ci := 0) (fs := zb_S) C Kk.2.1 t_S t_S_ok i_S zc_X_9 zt_S zy_S rfl zf_S d_X_init_144 hR rfl rfl (fun q18 => ?_)
  refine q_dup C d_X_init_147 rfl ?_
  refine q_callI C Kk.2.1 Kk.2.2 d_X_init_148 (fun sz => c_S_init (xl X) (gD G) (gca G) q18 sz) ml_X_11 zm_S zy_S zk_S zd_S rfl rfl hR rfl rfl rfl rfl (fun u18 => ?_)
  refine q_perm (zPmR ([(h0, .inr (1, [.ref q1, .ref q2, .int (zI 0), .ref q3, .ref q4, .int (zI 0), .ref q5, .int (zI 0), .ref q6, .ref q7, .ref q8, .ref q9, .ref q10])), (q2, .inl ((gca G) 3, (6, .inr (.inr (.inr (.inr (va_up (va_up (va_up (va_up (va_up (va_up (fun _ => none) 0 (some q11)) 1 (some q12)) 2 (some q13)) 3 (some q14)) 4 (some q15)) 5 (some q16)))))))), (q3, .inl ((gca G) 3, (2, .inr (.inr (.inr (.inr (va_up (fun _ => none) 0 (some q17))))))))] : va_W) (w_S (gca G) q17 u17 ++ (w_S (gca G) q16 u16 ++ (w_S (gca G) q15 u15 ++ (w_S (gca G) q14 u14 ++ (w_S (gca G) q13 u13 ++ (w_S (gca G) q12 u12 ++ (w_S (gca G) q11 u11 ++ (w_F (gca G) q10 u10 ++ (w_B (gca G) q9 u9 ++ (w_O (gca G) q8 u8 ++ (w_O (gca G) q7 u7 ++ (w_G (gca G) q6 u6 ++ (w_P (gca G) q5 u5 ++ ([(q4, .inl ((gca G) 1, (2, .inl (fun _ => 0))))] ++ (w_S (gca G) q1 u1 ++ ([] : va_W)))))))))))))))) (w_S (gca G) q18 u18)) ?_
  refine q_aastore (q0 := 2) (qk := 3) (ws' := ([(h0, .inr (1, [.ref q1, .ref q2, .int (zI 0), .ref q3, .ref q4, .int (zI 0), .ref q5, .int (zI 0), .ref q6, .ref q7, .ref q8, .ref q9, .ref q10])), (q2, .inl ((gca G) 3, (6, .inr (.inr (.inr (.inr (va_up (va_up (va_up (va_up (va_up (va_up (fun _ => none) 0 (some q11)) 1 (some q12)) 2 (some q13)) 3 (some q14)) 4 (some q15)) 5 (some q16)))))))), (q3, .inl ((gca G) 3, (2, .inr (.inr (.inr (.inr (va_up (va_up (fun _ => none) 0 (some q17)) 1 (some q18))))))))] : va_W) ++ (w_S (gca G) q18 u18 ++ (w_S (gca G) q17 u17 ++ (w_S (gca G) q16 u16 ++ (w_S (gca G) q15 u15 ++ (w_S (gca G) q14 u14 ++ (w_S (gca G) q13 u13 ++ (w_S (gca G) q12 u12 ++ (w_S (gca G) q11 u11 ++ (w_F (gca G) q10 u10 ++ (w_B (gca G) q9 u9 ++ (w_O (gca G) q8 u8 ++ (w_O (gca G) q7 u7 ++ (w_G (gca G) q6 u6 ++ (w_P (gca G) q5 u5 ++ ([(q4, .inl ((gca G) 1, (2, .inl (fun _ => 0))))] ++ (w_S (gca G) q1 u1 ++ ([] : va_W)))))))))))))))))) C d_X_init_151 rfl rfl ⟨by decide, by decide⟩ rfl rfl ?_
  refine q_iinc (L' := [(1, .int (zI 2)), (0, .ref h0)]) C d_X_init_152 1 rfl rfl rfl ?_
  refine q_sub (L' := [(0, .ref h0), (1, .int (zI 2))]) [1, 0] rfl ?_
  refine q_goto (tgt := 134) C d_X_init_155 rfl ?_
  refine q_iload_n C d_X_init_134 1 rfl rfl ?_
  refine q_iconst C d_X_init_135 ?_
  refine q_icmp_ge (tgt := 158) C d_X_init_136 rfl (zR_of (x := 2) rfl) (zR_of (x := 2) rfl) (fun c => ?_) (fun c => absurd (by decide) c)
  exact q_vreturn C (fun n => ([fun n => [q2, q3, q1, q4, q5, q6, q7, q8, q9, q10, q11, q12, q13, q14, q15, q16, q17, q18].getD n 0, u1, u5, u6, u7, u8, u9, u10, u11, u12, u13, u14, u15, u16, u17, u18] : List (Nat → Nat)).getD n (fun _ => 0)) d_X_init_158 rfl rfl rfl
end
section
def zRmI (o j : Int) : Int := if o ≤ j ∧ j < o + 24 then (if (j - o) % 3 = 1 then 1440 else if (j - o) % 3 = 2 then 1000 else 0) else 0
theorem zRmI_F (o : Nat) : (fun j : Nat => zI (zRmI (o : Int) (j : Int))) = zRmF o 8 := by
  funext j
  unfold zRmI zRmF
  by_cases h : o ≤ j ∧ j < o + 3 * 8
  · rw [if_pos h, if_pos (by omega)]
    by_cases h1 : (j - o) % 3 = 1
    · rw [if_pos h1, if_pos (by omega)]
    · rw [if_neg h1, if_neg (by omega)]
      by_cases h2 : (j - o) % 3 = 2
      · rw [if_pos h2, if_pos (by omega)]
      · rw [if_neg h2, if_neg (by omega)]; rfl
  · rw [if_neg h, if_neg (by omega)]; rfl
/-- the memory behind the constructors -/
def zM0 : zM := fun n j => if n = 55 then (if 0 ≤ j ∧ j < 6 then j + 1 else 1) else if n = 56 then (if 0 ≤ j ∧ j < 2 then j + 7 else 7) else if n < 54 ∧ n % 6 = 1 then zRmI 0 j else 0
theorem zRmI_rg (o j : Int) : zR (zRmI o j) := by
  unfold zRmI
  split
  · split
    · exact zR_of rfl
    · split
      · exact zR_of rfl
      · exact zR_0
  · exact zR_0
theorem zM0_rg : zRM zM0 := by
  intro n j
  unfold zM0
  split
  · split
    · exact ⟨by omega, by omega⟩
    · exact zR_of rfl
  · split
    · split
      · exact ⟨by omega, by omega⟩
      · exact zR_of rfl
    · split
      · exact zRmI_rg _ _
      · exact zR_0
theorem zAt_i {D : va_G} {cl : List vw_C} {a len : Nat} {c : ClassId} {f g : Nat → Int32} (h : ∀ j, j < len → f j = g j) {H : Heap} (hp : va_at D cl (a, .inl (c, (len, .inl f))) H) : va_at D cl (a, .inl (c, (len, .inl g))) H := by
  have e : vp_cell c (len, .inl f) = vp_cell c (len, .inl g) := by
    rw [vp_cell_i, vp_cell_i]
    unfold arrV
    congr 2
    funext j
    show Value.int (f j.val) = Value.int (g j.val)
    rw [h j.val j.isLt]
  show H[a]? = some (vp_cell c (len, .inl g))
  rw [← e]; exact hp
theorem zAt_q {D : va_G} {cl : List vw_C} {a len : Nat} {c : ClassId} {f g : Nat → Option Nat} (h : ∀ j, j < len → f j = g j) {H : Heap} (hp : va_at D cl (a, .inl (c, (len, .inr (.inr (.inr (.inr f)))))) H) : va_at D cl (a, .inl (c, (len, .inr (.inr (.inr (.inr g)))))) H := by
  have e : vp_cell c (len, .inr (.inr (.inr (.inr f)))) = vp_cell c (len, .inr (.inr (.inr (.inr g)))) := by
    rw [vp_cell_q, vp_cell_q]
    unfold arrV
    congr 2
    funext j
    show va_rf (f j.val) = va_rf (g j.val)
    rw [h j.val j.isLt]
  show H[a]? = some (vp_cell c (len, .inr (.inr (.inr (.inr g)))))
  rw [← e]; exact hp
theorem zWorld {D : va_G} {A : Nat → Prop} {ws : va_W} {H : Heap} {ad : Nat → Nat} {ca : Nat → ClassId} {σ : zM} (pos : Nat → Nat) (inj : ∀ i, i < 79 → ∀ j, j < 79 → pos i = pos j → i = j) (key : ∀ a, a < 79 → ∃ e, ws[pos a]? = some (ad a, e) ∧ ∀ sh, zShp[a]? = some sh → va_at D zCl (ad a, e) H → va_at D zCl (ad a, zEnt ad ca σ a sh) H) (hP : va_P D zCl ws H) (hD : va_D A ws) : va_P D zCl (zWs ad ca σ) H ∧ va_D A (zWs ad ca σ) := by
  constructor
  · intro k q hk
    obtain ⟨hk79, hq⟩ := zWs_inv hk
    obtain ⟨e, h1, h2⟩ := key k hk79
    have hl : k < zShp.length := hk79
    have hs := List.getElem?_eq_getElem hl
    have := zWs_get (ad := ad) (ca := ca) (σ := σ) hs
    rw [this] at hk
    cases hk
    exact h2 _ hs (hP _ _ h1)
  · refine ⟨fun i j p q hi hj e => ?_, fun k q hk => ?_⟩
    · obtain ⟨hi79, hp⟩ := zWs_inv hi
      obtain ⟨hj79, hq⟩ := zWs_inv hj
      obtain ⟨e1, h1, -⟩ := key i hi79
      obtain ⟨e2, h2, -⟩ := key j hj79
      exact inj i hi79 j hj79 (hD.1 _ _ _ _ h1 h2 (by show ad i = ad j; rw [← hp, ← hq]; exact e))
    · obtain ⟨hk79, hq⟩ := zWs_inv hk
      obtain ⟨e1, h1, -⟩ := key k hk79
      rw [hq]
      exact hD.2 _ _ h1
def zPos : Nat → Nat := fun n => [73, 74, 75, 76, 77, 78, 45, 46, 47, 48, 49, 50, 39, 40, 41, 42, 43, 44, 33, 34, 35, 36, 37, 38, 27, 28, 29, 30, 31, 32, 21, 22, 23, 24, 25, 26, 15, 16, 17, 18, 19, 20, 9, 10, 11, 12, 13, 14, 3, 4, 5, 6, 7, 8, 0, 1, 2, 72, 68, 69, 70, 71, 66, 67, 63, 64, 65, 60, 61, 62, 57, 58, 59, 51, 52, 53, 54, 55, 56].getD n 0
set_option maxRecDepth 100000 in
theorem zPos_inj : ∀ i, i < 79 → ∀ j, j < 79 → zPos i = zPos j → i = j := by decide +kernel
def zAd (x : Nat) (u : Nat → Nat → Nat) : Nat → Nat := fun n => [(u 0 2), (u 1 0), (u 1 1), (u 1 2), (u 1 3), (u 1 4), (u 0 10), (u 8 0), (u 8 1), (u 8 2), (u 8 3), (u 8 4), (u 0 11), (u 9 0), (u 9 1), (u 9 2), (u 9 3), (u 9 4), (u 0 12), (u 10 0), (u 10 1), (u 10 2), (u 10 3), (u 10 4), (u 0 13), (u 11 0), (u 11 1), (u 11 2), (u 11 3), (u 11 4), (u 0 14), (u 12 0), (u 12 1), (u 12 2), (u 12 3), (u 12 4), (u 0 15), (u 13 0), (u 13 1), (u 13 2), (u 13 3), (u 13 4), (u 0 16), (u 14 0), (u 14 1), (u 14 2), (u 14 3), (u 14 4), (u 0 17), (u 15 0), (u 15 1), (u 15 2), (u 15 3), (u 15 4), x, (u 0 0), (u 0 1), (u 0 3), (u 0 4), (u 2 0), (u 2 1), (u 2 2), (u 0 5), (u 3 0), (u 0 6), (u 4 0), (u 4 1), (u 0 7), (u 5 0), (u 5 1), (u 0 8), (u 6 0), (u 6 1), (u 0 9), (u 7 0), (u 7 1), (u 7 2), (u 7 3), (u 7 4)].getD n 0
def zKeyP (D : va_G) (ca : Nat → ClassId) (x : Nat) (u : Nat → Nat → Nat) (H : Heap) (a : Nat) : Prop := ∃ e, (w_X ca x u)[zPos a]? = some (zAd x u a, e) ∧ ∀ sh, zShp[a]? = some sh → va_at D zCl (zAd x u a, e) H → va_at D zCl (zAd x u a, zEnt (zAd x u) ca zM0 a sh) H
set_option maxRecDepth 100000 in
set_option maxHeartbeats 4000000 in
theorem zKey_0 (D : va_G) (ca : Nat → ClassId) (x : Nat) (u : Nat → Nat → Nat) (H : Heap) : zKeyP D ca x u H 0 := by
  refine ⟨_, rfl, fun sh hs hp => ?_⟩
  cases hs
  exact hp
set_option maxRecDepth 100000 in
set_option maxHeartbeats 4000000 in
theorem zKey_1 (D : va_G) (ca : Nat → ClassId) (x : Nat) (u : Nat → Nat → Nat) (H : Heap) : zKeyP D ca x u H 1 := by
  refine ⟨_, rfl, fun sh hs hp => ?_⟩
  cases hs
  refine zAt_i (fun j hj => ?_) hp
  exact (congrFun (zRmI_F 0) j).symm
set_option maxRecDepth 100000 in
set_option maxHeartbeats 4000000 in
theorem zKey_2 (D : va_G) (ca : Nat → ClassId) (x : Nat) (u : Nat → Nat → Nat) (H : Heap) : zKeyP D ca x u H 2 := by
  refine ⟨_, rfl, fun sh hs hp => ?_⟩
  cases hs
  exact hp
set_option maxRecDepth 100000 in
set_option maxHeartbeats 4000000 in
theorem zKey_3 (D : va_G) (ca : Nat → ClassId) (x : Nat) (u : Nat → Nat → Nat) (H : Heap) : zKeyP D ca x u H 3 := by
  refine ⟨_, rfl, fun sh hs hp => ?_⟩
  cases hs
  exact hp
set_option maxRecDepth 100000 in
set_option maxHeartbeats 4000000 in
theorem zKey_4 (D : va_G) (ca : Nat → ClassId) (x : Nat) (u : Nat → Nat → Nat) (H : Heap) : zKeyP D ca x u H 4 := by
  refine ⟨_, rfl, fun sh hs hp => ?_⟩
  cases hs
  exact hp
set_option maxRecDepth 100000 in
set_option maxHeartbeats 4000000 in
theorem zKey_5 (D : va_G) (ca : Nat → ClassId) (x : Nat) (u : Nat → Nat → Nat) (H : Heap) : zKeyP D ca x u H 5 := by
  refine ⟨_, rfl, fun sh hs hp => ?_⟩
  cases hs
  exact hp
set_option maxRecDepth 100000 in
set_option maxHeartbeats 4000000 in
theorem zKey_6 (D : va_G) (ca : Nat → ClassId) (x : Nat) (u : Nat → Nat → Nat) (H : Heap) : zKeyP D ca x u H 6 := by
  refine ⟨_, rfl, fun sh hs hp => ?_⟩
  cases hs
  exact hp
set_option maxRecDepth 100000 in
set_option maxHeartbeats 4000000 in
theorem zKey_7 (D : va_G) (ca : Nat → ClassId) (x : Nat) (u : Nat → Nat → Nat) (H : Heap) : zKeyP D ca x u H 7 := by
  refine ⟨_, rfl, fun sh hs hp => ?_⟩
  cases hs
  refine zAt_i (fun j hj => ?_) hp
  exact (congrFun (zRmI_F 0) j).symm
set_option maxRecDepth 100000 in
set_option maxHeartbeats 4000000 in
theorem zKey_8 (D : va_G) (ca : Nat → ClassId) (x : Nat) (u : Nat → Nat → Nat) (H : Heap) : zKeyP D ca x u H 8 := by
  refine ⟨_, rfl, fun sh hs hp => ?_⟩
  cases hs
  exact hp
set_option maxRecDepth 100000 in
set_option maxHeartbeats 4000000 in
theorem zKey_9 (D : va_G) (ca : Nat → ClassId) (x : Nat) (u : Nat → Nat → Nat) (H : Heap) : zKeyP D ca x u H 9 := by
  refine ⟨_, rfl, fun sh hs hp => ?_⟩
  cases hs
  exact hp
set_option maxRecDepth 100000 in
set_option maxHeartbeats 4000000 in
theorem zKey_10 (D : va_G) (ca : Nat → ClassId) (x : Nat) (u : Nat → Nat → Nat) (H : Heap) : zKeyP D ca x u H 10 := by
  refine ⟨_, rfl, fun sh hs hp => ?_⟩
  cases hs
  exact hp
set_option maxRecDepth 100000 in
set_option maxHeartbeats 4000000 in
theorem zKey_11 (D : va_G) (ca : Nat → ClassId) (x : Nat) (u : Nat → Nat → Nat) (H : Heap) : zKeyP D ca x u H 11 := by
  refine ⟨_, rfl, fun sh hs hp => ?_⟩
  cases hs
  exact hp
set_option maxRecDepth 100000 in
set_option maxHeartbeats 4000000 in
theorem zKey_12 (D : va_G) (ca : Nat → ClassId) (x : Nat) (u : Nat → Nat → Nat) (H : Heap) : zKeyP D ca x u H 12 := by
  refine ⟨_, rfl, fun sh hs hp => ?_⟩
  cases hs
  exact hp
set_option maxRecDepth 100000 in
set_option maxHeartbeats 4000000 in
theorem zKey_13 (D : va_G) (ca : Nat → ClassId) (x : Nat) (u : Nat → Nat → Nat) (H : Heap) : zKeyP D ca x u H 13 := by
  refine ⟨_, rfl, fun sh hs hp => ?_⟩
  cases hs
  refine zAt_i (fun j hj => ?_) hp
  exact (congrFun (zRmI_F 0) j).symm
set_option maxRecDepth 100000 in
set_option maxHeartbeats 4000000 in
theorem zKey_14 (D : va_G) (ca : Nat → ClassId) (x : Nat) (u : Nat → Nat → Nat) (H : Heap) : zKeyP D ca x u H 14 := by
  refine ⟨_, rfl, fun sh hs hp => ?_⟩
  cases hs
  exact hp
set_option maxRecDepth 100000 in
set_option maxHeartbeats 4000000 in
theorem zKey_15 (D : va_G) (ca : Nat → ClassId) (x : Nat) (u : Nat → Nat → Nat) (H : Heap) : zKeyP D ca x u H 15 := by
  refine ⟨_, rfl, fun sh hs hp => ?_⟩
  cases hs
  exact hp
set_option maxRecDepth 100000 in
set_option maxHeartbeats 4000000 in
theorem zKey_16 (D : va_G) (ca : Nat → ClassId) (x : Nat) (u : Nat → Nat → Nat) (H : Heap) : zKeyP D ca x u H 16 := by
  refine ⟨_, rfl, fun sh hs hp => ?_⟩
  cases hs
  exact hp
set_option maxRecDepth 100000 in
set_option maxHeartbeats 4000000 in
theorem zKey_17 (D : va_G) (ca : Nat → ClassId) (x : Nat) (u : Nat → Nat → Nat) (H : Heap) : zKeyP D ca x u H 17 := by
  refine ⟨_, rfl, fun sh hs hp => ?_⟩
  cases hs
  exact hp
set_option maxRecDepth 100000 in
set_option maxHeartbeats 4000000 in
theorem zKey_18 (D : va_G) (ca : Nat → ClassId) (x : Nat) (u : Nat → Nat → Nat) (H : Heap) : zKeyP D ca x u H 18 := by
  refine ⟨_, rfl, fun sh hs hp => ?_⟩
  cases hs
  exact hp
set_option maxRecDepth 100000 in
set_option maxHeartbeats 4000000 in
theorem zKey_19 (D : va_G) (ca : Nat → ClassId) (x : Nat) (u : Nat → Nat → Nat) (H : Heap) : zKeyP D ca x u H 19 := by
  refine ⟨_, rfl, fun sh hs hp => ?_⟩
  cases hs
  refine zAt_i (fun j hj => ?_) hp
  exact (congrFun (zRmI_F 0) j).symm
set_option maxRecDepth 100000 in
set_option maxHeartbeats 4000000 in
theorem zKey_20 (D : va_G) (ca : Nat → ClassId) (x : Nat) (u : Nat → Nat → Nat) (H : Heap) : zKeyP D ca x u H 20 := by
  refine ⟨_, rfl, fun sh hs hp => ?_⟩
  cases hs
  exact hp
set_option maxRecDepth 100000 in
set_option maxHeartbeats 4000000 in
theorem zKey_21 (D : va_G) (ca : Nat → ClassId) (x : Nat) (u : Nat → Nat → Nat) (H : Heap) : zKeyP D ca x u H 21 := by
  refine ⟨_, rfl, fun sh hs hp => ?_⟩
  cases hs
  exact hp
set_option maxRecDepth 100000 in
set_option maxHeartbeats 4000000 in
theorem zKey_22 (D : va_G) (ca : Nat → ClassId) (x : Nat) (u : Nat → Nat → Nat) (H : Heap) : zKeyP D ca x u H 22 := by
  refine ⟨_, rfl, fun sh hs hp => ?_⟩
  cases hs
  exact hp
set_option maxRecDepth 100000 in
set_option maxHeartbeats 4000000 in
theorem zKey_23 (D : va_G) (ca : Nat → ClassId) (x : Nat) (u : Nat → Nat → Nat) (H : Heap) : zKeyP D ca x u H 23 := by
  refine ⟨_, rfl, fun sh hs hp => ?_⟩
  cases hs
  exact hp
set_option maxRecDepth 100000 in
set_option maxHeartbeats 4000000 in
theorem zKey_24 (D : va_G) (ca : Nat → ClassId) (x : Nat) (u : Nat → Nat → Nat) (H : Heap) : zKeyP D ca x u H 24 := by
  refine ⟨_, rfl, fun sh hs hp => ?_⟩
  cases hs
  exact hp
set_option maxRecDepth 100000 in
set_option maxHeartbeats 4000000 in
theorem zKey_25 (D : va_G) (ca : Nat → ClassId) (x : Nat) (u : Nat → Nat → Nat) (H : Heap) : zKeyP D ca x u H 25 := by
  refine ⟨_, rfl, fun sh hs hp => ?_⟩
  cases hs
  refine zAt_i (fun j hj => ?_) hp
  exact (congrFun (zRmI_F 0) j).symm
set_option maxRecDepth 100000 in
set_option maxHeartbeats 4000000 in
theorem zKey_26 (D : va_G) (ca : Nat → ClassId) (x : Nat) (u : Nat → Nat → Nat) (H : Heap) : zKeyP D ca x u H 26 := by
  refine ⟨_, rfl, fun sh hs hp => ?_⟩
  cases hs
  exact hp
set_option maxRecDepth 100000 in
set_option maxHeartbeats 4000000 in
theorem zKey_27 (D : va_G) (ca : Nat → ClassId) (x : Nat) (u : Nat → Nat → Nat) (H : Heap) : zKeyP D ca x u H 27 := by
  refine ⟨_, rfl, fun sh hs hp => ?_⟩
  cases hs
  exact hp
set_option maxRecDepth 100000 in
set_option maxHeartbeats 4000000 in
theorem zKey_28 (D : va_G) (ca : Nat → ClassId) (x : Nat) (u : Nat → Nat → Nat) (H : Heap) : zKeyP D ca x u H 28 := by
  refine ⟨_, rfl, fun sh hs hp => ?_⟩
  cases hs
  exact hp
set_option maxRecDepth 100000 in
set_option maxHeartbeats 4000000 in
theorem zKey_29 (D : va_G) (ca : Nat → ClassId) (x : Nat) (u : Nat → Nat → Nat) (H : Heap) : zKeyP D ca x u H 29 := by
  refine ⟨_, rfl, fun sh hs hp => ?_⟩
  cases hs
  exact hp
set_option maxRecDepth 100000 in
set_option maxHeartbeats 4000000 in
theorem zKey_30 (D : va_G) (ca : Nat → ClassId) (x : Nat) (u : Nat → Nat → Nat) (H : Heap) : zKeyP D ca x u H 30 := by
  refine ⟨_, rfl, fun sh hs hp => ?_⟩
  cases hs
  exact hp
set_option maxRecDepth 100000 in
set_option maxHeartbeats 4000000 in
theorem zKey_31 (D : va_G) (ca : Nat → ClassId) (x : Nat) (u : Nat → Nat → Nat) (H : Heap) : zKeyP D ca x u H 31 := by
  refine ⟨_, rfl, fun sh hs hp => ?_⟩
  cases hs
  refine zAt_i (fun j hj => ?_) hp
  exact (congrFun (zRmI_F 0) j).symm
set_option maxRecDepth 100000 in
set_option maxHeartbeats 4000000 in
theorem zKey_32 (D : va_G) (ca : Nat → ClassId) (x : Nat) (u : Nat → Nat → Nat) (H : Heap) : zKeyP D ca x u H 32 := by
  refine ⟨_, rfl, fun sh hs hp => ?_⟩
  cases hs
  exact hp
set_option maxRecDepth 100000 in
set_option maxHeartbeats 4000000 in
theorem zKey_33 (D : va_G) (ca : Nat → ClassId) (x : Nat) (u : Nat → Nat → Nat) (H : Heap) : zKeyP D ca x u H 33 := by
  refine ⟨_, rfl, fun sh hs hp => ?_⟩
  cases hs
  exact hp
set_option maxRecDepth 100000 in
set_option maxHeartbeats 4000000 in
theorem zKey_34 (D : va_G) (ca : Nat → ClassId) (x : Nat) (u : Nat → Nat → Nat) (H : Heap) : zKeyP D ca x u H 34 := by
  refine ⟨_, rfl, fun sh hs hp => ?_⟩
  cases hs
  exact hp
set_option maxRecDepth 100000 in
set_option maxHeartbeats 4000000 in
theorem zKey_35 (D : va_G) (ca : Nat → ClassId) (x : Nat) (u : Nat → Nat → Nat) (H : Heap) : zKeyP D ca x u H 35 := by
  refine ⟨_, rfl, fun sh hs hp => ?_⟩
  cases hs
  exact hp
set_option maxRecDepth 100000 in
set_option maxHeartbeats 4000000 in
theorem zKey_36 (D : va_G) (ca : Nat → ClassId) (x : Nat) (u : Nat → Nat → Nat) (H : Heap) : zKeyP D ca x u H 36 := by
  refine ⟨_, rfl, fun sh hs hp => ?_⟩
  cases hs
  exact hp
set_option maxRecDepth 100000 in
set_option maxHeartbeats 4000000 in
theorem zKey_37 (D : va_G) (ca : Nat → ClassId) (x : Nat) (u : Nat → Nat → Nat) (H : Heap) : zKeyP D ca x u H 37 := by
  refine ⟨_, rfl, fun sh hs hp => ?_⟩
  cases hs
  refine zAt_i (fun j hj => ?_) hp
  exact (congrFun (zRmI_F 0) j).symm
set_option maxRecDepth 100000 in
set_option maxHeartbeats 4000000 in
theorem zKey_38 (D : va_G) (ca : Nat → ClassId) (x : Nat) (u : Nat → Nat → Nat) (H : Heap) : zKeyP D ca x u H 38 := by
  refine ⟨_, rfl, fun sh hs hp => ?_⟩
  cases hs
  exact hp
set_option maxRecDepth 100000 in
set_option maxHeartbeats 4000000 in
theorem zKey_39 (D : va_G) (ca : Nat → ClassId) (x : Nat) (u : Nat → Nat → Nat) (H : Heap) : zKeyP D ca x u H 39 := by
  refine ⟨_, rfl, fun sh hs hp => ?_⟩
  cases hs
  exact hp
set_option maxRecDepth 100000 in
set_option maxHeartbeats 4000000 in
theorem zKey_40 (D : va_G) (ca : Nat → ClassId) (x : Nat) (u : Nat → Nat → Nat) (H : Heap) : zKeyP D ca x u H 40 := by
  refine ⟨_, rfl, fun sh hs hp => ?_⟩
  cases hs
  exact hp
set_option maxRecDepth 100000 in
set_option maxHeartbeats 4000000 in
theorem zKey_41 (D : va_G) (ca : Nat → ClassId) (x : Nat) (u : Nat → Nat → Nat) (H : Heap) : zKeyP D ca x u H 41 := by
  refine ⟨_, rfl, fun sh hs hp => ?_⟩
  cases hs
  exact hp
set_option maxRecDepth 100000 in
set_option maxHeartbeats 4000000 in
theorem zKey_42 (D : va_G) (ca : Nat → ClassId) (x : Nat) (u : Nat → Nat → Nat) (H : Heap) : zKeyP D ca x u H 42 := by
  refine ⟨_, rfl, fun sh hs hp => ?_⟩
  cases hs
  exact hp
set_option maxRecDepth 100000 in
set_option maxHeartbeats 4000000 in
theorem zKey_43 (D : va_G) (ca : Nat → ClassId) (x : Nat) (u : Nat → Nat → Nat) (H : Heap) : zKeyP D ca x u H 43 := by
  refine ⟨_, rfl, fun sh hs hp => ?_⟩
  cases hs
  refine zAt_i (fun j hj => ?_) hp
  exact (congrFun (zRmI_F 0) j).symm
set_option maxRecDepth 100000 in
set_option maxHeartbeats 4000000 in
theorem zKey_44 (D : va_G) (ca : Nat → ClassId) (x : Nat) (u : Nat → Nat → Nat) (H : Heap) : zKeyP D ca x u H 44 := by
  refine ⟨_, rfl, fun sh hs hp => ?_⟩
  cases hs
  exact hp
set_option maxRecDepth 100000 in
set_option maxHeartbeats 4000000 in
theorem zKey_45 (D : va_G) (ca : Nat → ClassId) (x : Nat) (u : Nat → Nat → Nat) (H : Heap) : zKeyP D ca x u H 45 := by
  refine ⟨_, rfl, fun sh hs hp => ?_⟩
  cases hs
  exact hp
set_option maxRecDepth 100000 in
set_option maxHeartbeats 4000000 in
theorem zKey_46 (D : va_G) (ca : Nat → ClassId) (x : Nat) (u : Nat → Nat → Nat) (H : Heap) : zKeyP D ca x u H 46 := by
  refine ⟨_, rfl, fun sh hs hp => ?_⟩
  cases hs
  exact hp
set_option maxRecDepth 100000 in
set_option maxHeartbeats 4000000 in
theorem zKey_47 (D : va_G) (ca : Nat → ClassId) (x : Nat) (u : Nat → Nat → Nat) (H : Heap) : zKeyP D ca x u H 47 := by
  refine ⟨_, rfl, fun sh hs hp => ?_⟩
  cases hs
  exact hp
set_option maxRecDepth 100000 in
set_option maxHeartbeats 4000000 in
theorem zKey_48 (D : va_G) (ca : Nat → ClassId) (x : Nat) (u : Nat → Nat → Nat) (H : Heap) : zKeyP D ca x u H 48 := by
  refine ⟨_, rfl, fun sh hs hp => ?_⟩
  cases hs
  exact hp
set_option maxRecDepth 100000 in
set_option maxHeartbeats 4000000 in
theorem zKey_49 (D : va_G) (ca : Nat → ClassId) (x : Nat) (u : Nat → Nat → Nat) (H : Heap) : zKeyP D ca x u H 49 := by
  refine ⟨_, rfl, fun sh hs hp => ?_⟩
  cases hs
  refine zAt_i (fun j hj => ?_) hp
  exact (congrFun (zRmI_F 0) j).symm
set_option maxRecDepth 100000 in
set_option maxHeartbeats 4000000 in
theorem zKey_50 (D : va_G) (ca : Nat → ClassId) (x : Nat) (u : Nat → Nat → Nat) (H : Heap) : zKeyP D ca x u H 50 := by
  refine ⟨_, rfl, fun sh hs hp => ?_⟩
  cases hs
  exact hp
set_option maxRecDepth 100000 in
set_option maxHeartbeats 4000000 in
theorem zKey_51 (D : va_G) (ca : Nat → ClassId) (x : Nat) (u : Nat → Nat → Nat) (H : Heap) : zKeyP D ca x u H 51 := by
  refine ⟨_, rfl, fun sh hs hp => ?_⟩
  cases hs
  exact hp
set_option maxRecDepth 100000 in
set_option maxHeartbeats 4000000 in
theorem zKey_52 (D : va_G) (ca : Nat → ClassId) (x : Nat) (u : Nat → Nat → Nat) (H : Heap) : zKeyP D ca x u H 52 := by
  refine ⟨_, rfl, fun sh hs hp => ?_⟩
  cases hs
  exact hp
set_option maxRecDepth 100000 in
set_option maxHeartbeats 4000000 in
theorem zKey_53 (D : va_G) (ca : Nat → ClassId) (x : Nat) (u : Nat → Nat → Nat) (H : Heap) : zKeyP D ca x u H 53 := by
  refine ⟨_, rfl, fun sh hs hp => ?_⟩
  cases hs
  exact hp
set_option maxRecDepth 100000 in
set_option maxHeartbeats 4000000 in
theorem zKey_54 (D : va_G) (ca : Nat → ClassId) (x : Nat) (u : Nat → Nat → Nat) (H : Heap) : zKeyP D ca x u H 54 := by
  refine ⟨_, rfl, fun sh hs hp => ?_⟩
  cases hs
  exact hp
set_option maxRecDepth 100000 in
set_option maxHeartbeats 4000000 in
theorem zKey_55 (D : va_G) (ca : Nat → ClassId) (x : Nat) (u : Nat → Nat → Nat) (H : Heap) : zKeyP D ca x u H 55 := by
  refine ⟨_, rfl, fun sh hs hp => ?_⟩
  cases hs
  refine zAt_q (fun j hj => ?_) hp
  rcases (show j = 0 ∨ j = 1 ∨ j = 2 ∨ j = 3 ∨ j = 4 ∨ j = 5 by omega) with rfl | rfl | rfl | rfl | rfl | rfl
  · rfl
  · rfl
  · rfl
  · rfl
  · rfl
  · rfl
set_option maxRecDepth 100000 in
set_option maxHeartbeats 4000000 in
theorem zKey_56 (D : va_G) (ca : Nat → ClassId) (x : Nat) (u : Nat → Nat → Nat) (H : Heap) : zKeyP D ca x u H 56 := by
  refine ⟨_, rfl, fun sh hs hp => ?_⟩
  cases hs
  refine zAt_q (fun j hj => ?_) hp
  rcases (show j = 0 ∨ j = 1 by omega) with rfl | rfl
  · rfl
  · rfl
set_option maxRecDepth 100000 in
set_option maxHeartbeats 4000000 in
theorem zKey_57 (D : va_G) (ca : Nat → ClassId) (x : Nat) (u : Nat → Nat → Nat) (H : Heap) : zKeyP D ca x u H 57 := by
  refine ⟨_, rfl, fun sh hs hp => ?_⟩
  cases hs
  exact hp
set_option maxRecDepth 100000 in
set_option maxHeartbeats 4000000 in
theorem zKey_58 (D : va_G) (ca : Nat → ClassId) (x : Nat) (u : Nat → Nat → Nat) (H : Heap) : zKeyP D ca x u H 58 := by
  refine ⟨_, rfl, fun sh hs hp => ?_⟩
  cases hs
  exact hp
set_option maxRecDepth 100000 in
set_option maxHeartbeats 4000000 in
theorem zKey_59 (D : va_G) (ca : Nat → ClassId) (x : Nat) (u : Nat → Nat → Nat) (H : Heap) : zKeyP D ca x u H 59 := by
  refine ⟨_, rfl, fun sh hs hp => ?_⟩
  cases hs
  exact hp
set_option maxRecDepth 100000 in
set_option maxHeartbeats 4000000 in
theorem zKey_60 (D : va_G) (ca : Nat → ClassId) (x : Nat) (u : Nat → Nat → Nat) (H : Heap) : zKeyP D ca x u H 60 := by
  refine ⟨_, rfl, fun sh hs hp => ?_⟩
  cases hs
  exact hp
set_option maxRecDepth 100000 in
set_option maxHeartbeats 4000000 in
theorem zKey_61 (D : va_G) (ca : Nat → ClassId) (x : Nat) (u : Nat → Nat → Nat) (H : Heap) : zKeyP D ca x u H 61 := by
  refine ⟨_, rfl, fun sh hs hp => ?_⟩
  cases hs
  exact hp
set_option maxRecDepth 100000 in
set_option maxHeartbeats 4000000 in
theorem zKey_62 (D : va_G) (ca : Nat → ClassId) (x : Nat) (u : Nat → Nat → Nat) (H : Heap) : zKeyP D ca x u H 62 := by
  refine ⟨_, rfl, fun sh hs hp => ?_⟩
  cases hs
  exact hp
set_option maxRecDepth 100000 in
set_option maxHeartbeats 4000000 in
theorem zKey_63 (D : va_G) (ca : Nat → ClassId) (x : Nat) (u : Nat → Nat → Nat) (H : Heap) : zKeyP D ca x u H 63 := by
  refine ⟨_, rfl, fun sh hs hp => ?_⟩
  cases hs
  exact hp
set_option maxRecDepth 100000 in
set_option maxHeartbeats 4000000 in
theorem zKey_64 (D : va_G) (ca : Nat → ClassId) (x : Nat) (u : Nat → Nat → Nat) (H : Heap) : zKeyP D ca x u H 64 := by
  refine ⟨_, rfl, fun sh hs hp => ?_⟩
  cases hs
  exact hp
set_option maxRecDepth 100000 in
set_option maxHeartbeats 4000000 in
theorem zKey_65 (D : va_G) (ca : Nat → ClassId) (x : Nat) (u : Nat → Nat → Nat) (H : Heap) : zKeyP D ca x u H 65 := by
  refine ⟨_, rfl, fun sh hs hp => ?_⟩
  cases hs
  exact hp
set_option maxRecDepth 100000 in
set_option maxHeartbeats 4000000 in
theorem zKey_66 (D : va_G) (ca : Nat → ClassId) (x : Nat) (u : Nat → Nat → Nat) (H : Heap) : zKeyP D ca x u H 66 := by
  refine ⟨_, rfl, fun sh hs hp => ?_⟩
  cases hs
  exact hp
set_option maxRecDepth 100000 in
set_option maxHeartbeats 4000000 in
theorem zKey_67 (D : va_G) (ca : Nat → ClassId) (x : Nat) (u : Nat → Nat → Nat) (H : Heap) : zKeyP D ca x u H 67 := by
  refine ⟨_, rfl, fun sh hs hp => ?_⟩
  cases hs
  exact hp
set_option maxRecDepth 100000 in
set_option maxHeartbeats 4000000 in
theorem zKey_68 (D : va_G) (ca : Nat → ClassId) (x : Nat) (u : Nat → Nat → Nat) (H : Heap) : zKeyP D ca x u H 68 := by
  refine ⟨_, rfl, fun sh hs hp => ?_⟩
  cases hs
  exact hp
set_option maxRecDepth 100000 in
set_option maxHeartbeats 4000000 in
theorem zKey_69 (D : va_G) (ca : Nat → ClassId) (x : Nat) (u : Nat → Nat → Nat) (H : Heap) : zKeyP D ca x u H 69 := by
  refine ⟨_, rfl, fun sh hs hp => ?_⟩
  cases hs
  exact hp
set_option maxRecDepth 100000 in
set_option maxHeartbeats 4000000 in
theorem zKey_70 (D : va_G) (ca : Nat → ClassId) (x : Nat) (u : Nat → Nat → Nat) (H : Heap) : zKeyP D ca x u H 70 := by
  refine ⟨_, rfl, fun sh hs hp => ?_⟩
  cases hs
  exact hp
set_option maxRecDepth 100000 in
set_option maxHeartbeats 4000000 in
theorem zKey_71 (D : va_G) (ca : Nat → ClassId) (x : Nat) (u : Nat → Nat → Nat) (H : Heap) : zKeyP D ca x u H 71 := by
  refine ⟨_, rfl, fun sh hs hp => ?_⟩
  cases hs
  exact hp
set_option maxRecDepth 100000 in
set_option maxHeartbeats 4000000 in
theorem zKey_72 (D : va_G) (ca : Nat → ClassId) (x : Nat) (u : Nat → Nat → Nat) (H : Heap) : zKeyP D ca x u H 72 := by
  refine ⟨_, rfl, fun sh hs hp => ?_⟩
  cases hs
  exact hp
set_option maxRecDepth 100000 in
set_option maxHeartbeats 4000000 in
theorem zKey_73 (D : va_G) (ca : Nat → ClassId) (x : Nat) (u : Nat → Nat → Nat) (H : Heap) : zKeyP D ca x u H 73 := by
  refine ⟨_, rfl, fun sh hs hp => ?_⟩
  cases hs
  exact hp
set_option maxRecDepth 100000 in
set_option maxHeartbeats 4000000 in
theorem zKey_74 (D : va_G) (ca : Nat → ClassId) (x : Nat) (u : Nat → Nat → Nat) (H : Heap) : zKeyP D ca x u H 74 := by
  refine ⟨_, rfl, fun sh hs hp => ?_⟩
  cases hs
  exact hp
set_option maxRecDepth 100000 in
set_option maxHeartbeats 4000000 in
theorem zKey_75 (D : va_G) (ca : Nat → ClassId) (x : Nat) (u : Nat → Nat → Nat) (H : Heap) : zKeyP D ca x u H 75 := by
  refine ⟨_, rfl, fun sh hs hp => ?_⟩
  cases hs
  exact hp
set_option maxRecDepth 100000 in
set_option maxHeartbeats 4000000 in
theorem zKey_76 (D : va_G) (ca : Nat → ClassId) (x : Nat) (u : Nat → Nat → Nat) (H : Heap) : zKeyP D ca x u H 76 := by
  refine ⟨_, rfl, fun sh hs hp => ?_⟩
  cases hs
  exact hp
set_option maxRecDepth 100000 in
set_option maxHeartbeats 4000000 in
theorem zKey_77 (D : va_G) (ca : Nat → ClassId) (x : Nat) (u : Nat → Nat → Nat) (H : Heap) : zKeyP D ca x u H 77 := by
  refine ⟨_, rfl, fun sh hs hp => ?_⟩
  cases hs
  exact hp
set_option maxRecDepth 100000 in
set_option maxHeartbeats 4000000 in
theorem zKey_78 (D : va_G) (ca : Nat → ClassId) (x : Nat) (u : Nat → Nat → Nat) (H : Heap) : zKeyP D ca x u H 78 := by
  refine ⟨_, rfl, fun sh hs hp => ?_⟩
  cases hs
  exact hp
set_option maxRecDepth 100000 in
set_option maxHeartbeats 4000000 in
theorem zKey (D : va_G) (ca : Nat → ClassId) (x : Nat) (u : Nat → Nat → Nat) (H : Heap) : ∀ a, a < 79 → zKeyP D ca x u H a := by
  have h0 : ∀ a, a < 0 → zKeyP D ca x u H a := lt_0
  have h1 : ∀ a, a < 1 → zKeyP D ca x u H a := lt_s h0 (zKey_0 D ca x u H)
  have h2 : ∀ a, a < 2 → zKeyP D ca x u H a := lt_s h1 (zKey_1 D ca x u H)
  have h3 : ∀ a, a < 3 → zKeyP D ca x u H a := lt_s h2 (zKey_2 D ca x u H)
  have h4 : ∀ a, a < 4 → zKeyP D ca x u H a := lt_s h3 (zKey_3 D ca x u H)
  have h5 : ∀ a, a < 5 → zKeyP D ca x u H a := lt_s h4 (zKey_4 D ca x u H)
  have h6 : ∀ a, a < 6 → zKeyP D ca x u H a := lt_s h5 (zKey_5 D ca x u H)
  have h7 : ∀ a, a < 7 → zKeyP D ca x u H a := lt_s h6 (zKey_6 D ca x u H)
  have h8 : ∀ a, a < 8 → zKeyP D ca x u H a := lt_s h7 (zKey_7 D ca x u H)
  have h9 : ∀ a, a < 9 → zKeyP D ca x u H a := lt_s h8 (zKey_8 D ca x u H)
  have h10 : ∀ a, a < 10 → zKeyP D ca x u H a := lt_s h9 (zKey_9 D ca x u H)
  have h11 : ∀ a, a < 11 → zKeyP D ca x u H a := lt_s h10 (zKey_10 D ca x u H)
  have h12 : ∀ a, a < 12 → zKeyP D ca x u H a := lt_s h11 (zKey_11 D ca x u H)
  have h13 : ∀ a, a < 13 → zKeyP D ca x u H a := lt_s h12 (zKey_12 D ca x u H)
  have h14 : ∀ a, a < 14 → zKeyP D ca x u H a := lt_s h13 (zKey_13 D ca x u H)
  have h15 : ∀ a, a < 15 → zKeyP D ca x u H a := lt_s h14 (zKey_14 D ca x u H)
  have h16 : ∀ a, a < 16 → zKeyP D ca x u H a := lt_s h15 (zKey_15 D ca x u H)
  have h17 : ∀ a, a < 17 → zKeyP D ca x u H a := lt_s h16 (zKey_16 D ca x u H)
  have h18 : ∀ a, a < 18 → zKeyP D ca x u H a := lt_s h17 (zKey_17 D ca x u H)
  have h19 : ∀ a, a < 19 → zKeyP D ca x u H a := lt_s h18 (zKey_18 D ca x u H)
  have h20 : ∀ a, a < 20 → zKeyP D ca x u H a := lt_s h19 (zKey_19 D ca x u H)
  have h21 : ∀ a, a < 21 → zKeyP D ca x u H a := lt_s h20 (zKey_20 D ca x u H)
  have h22 : ∀ a, a < 22 → zKeyP D ca x u H a := lt_s h21 (zKey_21 D ca x u H)
  have h23 : ∀ a, a < 23 → zKeyP D ca x u H a := lt_s h22 (zKey_22 D ca x u H)
  have h24 : ∀ a, a < 24 → zKeyP D ca x u H a := lt_s h23 (zKey_23 D ca x u H)
  have h25 : ∀ a, a < 25 → zKeyP D ca x u H a := lt_s h24 (zKey_24 D ca x u H)
  have h26 : ∀ a, a < 26 → zKeyP D ca x u H a := lt_s h25 (zKey_25 D ca x u H)
  have h27 : ∀ a, a < 27 → zKeyP D ca x u H a := lt_s h26 (zKey_26 D ca x u H)
  have h28 : ∀ a, a < 28 → zKeyP D ca x u H a := lt_s h27 (zKey_27 D ca x u H)
  have h29 : ∀ a, a < 29 → zKeyP D ca x u H a := lt_s h28 (zKey_28 D ca x u H)
  have h30 : ∀ a, a < 30 → zKeyP D ca x u H a := lt_s h29 (zKey_29 D ca x u H)
  have h31 : ∀ a, a < 31 → zKeyP D ca x u H a := lt_s h30 (zKey_30 D ca x u H)
  have h32 : ∀ a, a < 32 → zKeyP D ca x u H a := lt_s h31 (zKey_31 D ca x u H)
  have h33 : ∀ a, a < 33 → zKeyP D ca x u H a := lt_s h32 (zKey_32 D ca x u H)
  have h34 : ∀ a, a < 34 → zKeyP D ca x u H a := lt_s h33 (zKey_33 D ca x u H)
  have h35 : ∀ a, a < 35 → zKeyP D ca x u H a := lt_s h34 (zKey_34 D ca x u H)
  have h36 : ∀ a, a < 36 → zKeyP D ca x u H a := lt_s h35 (zKey_35 D ca x u H)
  have h37 : ∀ a, a < 37 → zKeyP D ca x u H a := lt_s h36 (zKey_36 D ca x u H)
  have h38 : ∀ a, a < 38 → zKeyP D ca x u H a := lt_s h37 (zKey_37 D ca x u H)
  have h39 : ∀ a, a < 39 → zKeyP D ca x u H a := lt_s h38 (zKey_38 D ca x u H)
  have h40 : ∀ a, a < 40 → zKeyP D ca x u H a := lt_s h39 (zKey_39 D ca x u H)
  have h41 : ∀ a, a < 41 → zKeyP D ca x u H a := lt_s h40 (zKey_40 D ca x u H)
  have h42 : ∀ a, a < 42 → zKeyP D ca x u H a := lt_s h41 (zKey_41 D ca x u H)
  have h43 : ∀ a, a < 43 → zKeyP D ca x u H a := lt_s h42 (zKey_42 D ca x u H)
  have h44 : ∀ a, a < 44 → zKeyP D ca x u H a := lt_s h43 (zKey_43 D ca x u H)
  have h45 : ∀ a, a < 45 → zKeyP D ca x u H a := lt_s h44 (zKey_44 D ca x u H)
  have h46 : ∀ a, a < 46 → zKeyP D ca x u H a := lt_s h45 (zKey_45 D ca x u H)
  have h47 : ∀ a, a < 47 → zKeyP D ca x u H a := lt_s h46 (zKey_46 D ca x u H)
  have h48 : ∀ a, a < 48 → zKeyP D ca x u H a := lt_s h47 (zKey_47 D ca x u H)
  have h49 : ∀ a, a < 49 → zKeyP D ca x u H a := lt_s h48 (zKey_48 D ca x u H)
  have h50 : ∀ a, a < 50 → zKeyP D ca x u H a := lt_s h49 (zKey_49 D ca x u H)
  have h51 : ∀ a, a < 51 → zKeyP D ca x u H a := lt_s h50 (zKey_50 D ca x u H)
  have h52 : ∀ a, a < 52 → zKeyP D ca x u H a := lt_s h51 (zKey_51 D ca x u H)
  have h53 : ∀ a, a < 53 → zKeyP D ca x u H a := lt_s h52 (zKey_52 D ca x u H)
  have h54 : ∀ a, a < 54 → zKeyP D ca x u H a := lt_s h53 (zKey_53 D ca x u H)
  have h55 : ∀ a, a < 55 → zKeyP D ca x u H a := lt_s h54 (zKey_54 D ca x u H)
  have h56 : ∀ a, a < 56 → zKeyP D ca x u H a := lt_s h55 (zKey_55 D ca x u H)
  have h57 : ∀ a, a < 57 → zKeyP D ca x u H a := lt_s h56 (zKey_56 D ca x u H)
  have h58 : ∀ a, a < 58 → zKeyP D ca x u H a := lt_s h57 (zKey_57 D ca x u H)
  have h59 : ∀ a, a < 59 → zKeyP D ca x u H a := lt_s h58 (zKey_58 D ca x u H)
  have h60 : ∀ a, a < 60 → zKeyP D ca x u H a := lt_s h59 (zKey_59 D ca x u H)
  have h61 : ∀ a, a < 61 → zKeyP D ca x u H a := lt_s h60 (zKey_60 D ca x u H)
  have h62 : ∀ a, a < 62 → zKeyP D ca x u H a := lt_s h61 (zKey_61 D ca x u H)
  have h63 : ∀ a, a < 63 → zKeyP D ca x u H a := lt_s h62 (zKey_62 D ca x u H)
  have h64 : ∀ a, a < 64 → zKeyP D ca x u H a := lt_s h63 (zKey_63 D ca x u H)
  have h65 : ∀ a, a < 65 → zKeyP D ca x u H a := lt_s h64 (zKey_64 D ca x u H)
  have h66 : ∀ a, a < 66 → zKeyP D ca x u H a := lt_s h65 (zKey_65 D ca x u H)
  have h67 : ∀ a, a < 67 → zKeyP D ca x u H a := lt_s h66 (zKey_66 D ca x u H)
  have h68 : ∀ a, a < 68 → zKeyP D ca x u H a := lt_s h67 (zKey_67 D ca x u H)
  have h69 : ∀ a, a < 69 → zKeyP D ca x u H a := lt_s h68 (zKey_68 D ca x u H)
  have h70 : ∀ a, a < 70 → zKeyP D ca x u H a := lt_s h69 (zKey_69 D ca x u H)
  have h71 : ∀ a, a < 71 → zKeyP D ca x u H a := lt_s h70 (zKey_70 D ca x u H)
  have h72 : ∀ a, a < 72 → zKeyP D ca x u H a := lt_s h71 (zKey_71 D ca x u H)
  have h73 : ∀ a, a < 73 → zKeyP D ca x u H a := lt_s h72 (zKey_72 D ca x u H)
  have h74 : ∀ a, a < 74 → zKeyP D ca x u H a := lt_s h73 (zKey_73 D ca x u H)
  have h75 : ∀ a, a < 75 → zKeyP D ca x u H a := lt_s h74 (zKey_74 D ca x u H)
  have h76 : ∀ a, a < 76 → zKeyP D ca x u H a := lt_s h75 (zKey_75 D ca x u H)
  have h77 : ∀ a, a < 77 → zKeyP D ca x u H a := lt_s h76 (zKey_76 D ca x u H)
  have h78 : ∀ a, a < 78 → zKeyP D ca x u H a := lt_s h77 (zKey_77 D ca x u H)
  have h79 : ∀ a, a < 79 → zKeyP D ca x u H a := lt_s h78 (zKey_78 D ca x u H)
  exact h79
theorem zin_t (i : Nat) {w : Cond} (h : tables_1[i]? = some w) : w ∈ lw_tbl := List.mem_append_right _ (List.mem_of_getElem? h)
set_option maxRecDepth 100000 in
theorem zao : Cond.arrayOver (.object "GateRoads$State") ∈ lw_tbl := zin_t 59 rfl
set_option maxRecDepth 100000 in
theorem znw : ∀ q ∈ zNw, Cond.methodLinkNest q.1 q.2.1 q.2.2.1 q.2.2.2 ∈ lw_tbl := by
  unfold zNw
  intro q hq
  simp only [List.mem_cons, List.not_mem_nil, or_false] at hq
  rcases hq with rfl
  · exact zin_t 481 rfl
set_option maxRecDepth 100000 in
theorem znc : ∀ q ∈ zNc, Cond.methodLinkNest q.1 q.2.1 q.2.2.1 q.2.2.2 ∈ lw_tbl := by
  unfold zNc
  intro q hq
  simp only [List.mem_cons, List.not_mem_nil, or_false] at hq
  rcases hq with rfl | rfl | rfl | rfl | rfl
  · exact zin_t 62 rfl
  · exact zin_t 93 rfl
  · exact zin_t 107 rfl
  · exact zin_t 120 rfl
  · exact zin_t 137 rfl
end
section
/-- what holds at the law's entry -/
def lw_At (p : Program) (s : State) (m : MethodId) (meth : Method) (c : Code) (b L : Nat) (xs : Nat → Int32) : Prop :=
  p.tables.exec = Jvm.exec ∧ c.code = code ∧ meth.sig.returnType = ret ∧ c.maxLocals = 15 ∧ s.vm.findClass R_law = some m.cls ∧ (∀ w ∈ lw_tbl, w.before #[Value.ref b] s = true) ∧ va_X b L xs s s.heap ∧ b < s.heap.size ∧ meth.locks = false ∧ (Jvm.Cond.and given_1 narrow_1).before #[Value.ref b] s = true
theorem zArr {s : State} {args : Array Value} {ty : FieldType} (h : (Cond.arrayClass ty).before args s = true) (hne : ∀ C, ty ≠ .object C) (hf : ∀ k, refKind ty = true → ty ≠ k) : ∃ cA : ClassId, ArrOfT s cA ty ∧ va_RA s cA ty := by
  obtain ⟨c, k, comp, h1, h2, h3⟩ := Cond.arrayClass_spec h
  refine ⟨c, fun n z => ⟨fun k' h' => (by cases h'), k, h2, comp, h3⟩, ?_⟩
  cases ty with
  | object C => exact absurd rfl (hne C)
  | _ => exact h1
theorem zEnterJ {X : zX} {G : zG} {Q : State → Prop} {nL pc nc ns : Nat} {L : List (Nat × Value)} {st : List Value} {ws : va_W} {σ : zM} {ad : Nat → Nat} (hw : ∀ H, va_P (gD G) zCl ws H → va_D (gA G) ws → va_P (gD G) zCl (zWs ad (gca G) σ) H ∧ va_D (gA G) (zWs ad (gca G) σ)) (k : zJ X (gD G, ad, gca G, gA G, gH G, nc, ns) Q nL pc L st σ) : zJw X G Q nL pc L st ws nc ns := by
  intro H locs ls hL hP hD hS
  obtain ⟨hP', hD'⟩ := hw H hP hD
  exact k H locs ls hL hP' hD' hS
set_option maxRecDepth 100000 in
set_option maxHeartbeats 16000000 in
/-- the law from its entry, out of its loop's weakest precondition -/
theorem zWalk {Q : Int → zM → Prop} (hlaw : ∀ (scr : Nat → Int32) (N : Nat), N ≤ 260 → wp_L_law_b8 scr N Q zM0) {p : Program} {e : Env} {s : State} {m : MethodId} {below : List Frame} {meth : Method} {c : Code} (l : Launch) {b L : Nat} {scr : Nat → Int32} (hL : L ≤ 260) (C0 : lw_At p s m meth c b L scr) : W p l e room_1 s m #[Value.ref b] below meth c s.heap [] 0 0 (lw_Z below #[Value.ref b] s) (entryFrame m ([Value.ref b] : List Value).toArray 15) := by
  obtain ⟨hx, hb, hr, hml, hown, hts0, hX, hbl, hlocks, hgv⟩ := C0
  have hts : ∀ w ∈ zTb, w.before #[Value.ref b] s = true := fun w hw => hts0 w (zTb_lw hw)
  obtain ⟨c0, i0, k0⟩ := u_known (C := R_S) (T := F_S) (N := 8) (n := 8) hts i_S (hts _ zt_S)
  obtain ⟨c1, i1, k1⟩ := u_known (C := R_X) (T := F_X) (N := 13) (n := 13) hts i_X (hts _ zt_X)
  obtain ⟨c2, i2, k2⟩ := u_known (C := R_P) (T := F_P) (N := 9) (n := 9) hts i_P (hts _ zt_P)
  obtain ⟨c3, i3, k3⟩ := u_known (C := R_G) (T := F_G) (N := 2) (n := 2) hts i_G (hts _ zt_G)
  obtain ⟨c4, i4, k4⟩ := u_known (C := R_O) (T := F_O) (N := 2) (n := 2) hts i_O (hts _ zt_O)
  obtain ⟨c5, i5, k5⟩ := u_known (C := R_B) (T := F_B) (N := 4) (n := 4) hts i_B (hts _ zt_B)
  obtain ⟨c6, i6, k6⟩ := u_known (C := R_F) (T := F_F) (N := 5) (n := 5) hts i_F (hts _ zt_F)
  obtain ⟨D, hKc⟩ : ∃ D : va_G, ∀ (k : Nat) (q : vw_C), zCl[k]? = some q → u_Kn s q.1 q.2.1 q.2.2 (D.1 k) (D.2 k) := by
    refine ⟨(fun k => [c0, c1, c2, c3, c4, c5, c6].getD k c0, fun k => [i0, i1, i2, i3, i4, i5, i6].getD k i0), ?_⟩
    intro k q hq
    match k, hq with
    | 0, hq => cases hq; exact k0
    | 1, hq => cases hq; exact k1
    | 2, hq => cases hq; exact k2
    | 3, hq => cases hq; exact k3
    | 4, hq => cases hq; exact k4
    | 5, hq => cases hq; exact k5
    | 6, hq => cases hq; exact k6
    | k + 7, hq => simp [zCl] at hq
  obtain ⟨a0, r0, n0⟩ := zArr (hts _ za_int) (fun C h => by cases h) (fun _ h => by cases h)
  obtain ⟨a1, r1, n1⟩ := zArr (hts _ za_boolean) (fun C h => by cases h) (fun _ h => by cases h)
  obtain ⟨a2, r2, n2⟩ := zArr (hts _ za_char) (fun C h => by cases h) (fun _ h => by cases h)
  have hAO : va_AO "GateRoads$State" s := va_AO.of (hts0 _ zao)
  obtain ⟨a3, r3, n3⟩ : ∃ cA : ClassId, ArrOfT s cA (.object R_S) ∧ va_RA s cA (.object R_S) := by
    obtain ⟨comp, cA, k, h1, h2, h3, h4, h5⟩ := Cond.arrayOver_spec (args := #[]) hAO
    exact ⟨cA, fun n z => ⟨fun k' h' => (by cases h'), k, h3, comp, h4⟩, k, comp, h3, h4, h1, h5⟩
  obtain ⟨ca, hca⟩ : ∃ ca : Nat → ClassId, va_K D zCl (zTy ca) s := by
    refine ⟨fun k => [a0, a1, a2, a3].getD k a0, hKc, ?_⟩
    intro k q hq
    match k, hq with
    | 0, hq => cases hq; exact ⟨r0, n0⟩
    | 1, hq => cases hq; exact ⟨r1, n1⟩
    | 2, hq => cases hq; exact ⟨r2, n2⟩
    | 3, hq => cases hq; exact ⟨r3, n3⟩
    | k + 4, hq => simp [zTy] at hq
  have hK : zK D ca s := ⟨hca, fun q hq => va_Nw.of rfl (hts0 _ (znw q hq))⟩
  have hKc' : zKc D ca s := ⟨hK, hAO, fun q hq => va_Nw.of rfl (hts0 _ (znc q hq))⟩
  have hA : ∀ q : Nat, s.heap.size ≤ q → (fun q : Nat => s.heap.size ≤ q) q := fun _ h => h
  have hl' := lv_entry [.ref b] (n := 15) (Nat.le_of_ble_eq_true rfl)
  rw [lg_entry_eq]
  let X : zX := (p, l, e, room_1, s, m, #[Value.ref b], below, meth, c)
  let G : zG := (D, (fun n => n), ca, (fun q : Nat => s.heap.size ≤ q), s.heap, 0, 0)
  have C : zC X G b_L_law "GateRoadsLaw" 15 (some .boolean) 10 382 := ⟨hx, hb, hml, hown, hts, hlocks, hr, hK, Nat.zero_le _, Nat.zero_le _, rfl, Nat.le_refl _, Nat.le_refl _⟩
  have main : zJw X G (lw_Z below #[Value.ref b] s) 15 0 [(0, .ref b)] [] [] 0 0 := by
    refine q_new (rr := room_1) (ci := 1) (fs := zb_X) C hA t_X t_X_ok i_X zc_L_14 zt_X zy_X rfl zf_X d_L_law_0 rfl rfl rfl (fun x => ?_)
    refine q_dup C d_L_law_3 rfl ?_
    refine q_callI (rr := room_1) (ws := []) C hA hKc' d_L_law_4 (fun sz => c_X_init l D ca x sz) ml_L_97 zm_X zy_X zk_X zd_X rfl rfl rfl rfl rfl rfl rfl (fun u => ?_)
    refine q_eq (ws' := w_X ca x u) rfl ?_
    refine q_astore_n (L' := [(1, .ref x), (0, .ref b)]) C d_L_law_7 rfl rfl rfl ?_
    refine q_sub (L' := [(0, .ref b), (1, .ref x)]) [1, 0] rfl ?_
    refine zEnterJ (ad := zAd x u) (σ := zM0) (fun H hP hD => zWorld zPos zPos_inj (zKey D ca x u H) hP hD) ?_
    have hn := hlaw scr L hL
    refine w_L_law_b8 (X := X) (G := (D, zAd x u, ca, (fun q : Nat => s.heap.size ≤ q), s.heap, _, _)) (b := b) ⟨hx, hb, hml, hown, hts, hlocks, hr, hK, ?_, ?_, rfl, Nat.le_refl _, Nat.le_refl _⟩ (scr := scr) (N := L) ⟨⟨hX, hbl, Nat.not_le.mpr hbl, hL⟩, ⟨rfl, rfl, ?_, ?_, fun q h => h⟩, ⟨by omega, by omega⟩⟩ zM0 zM0_rg hn
    · exact Nat.le_of_ble_eq_true rfl
    · exact Nat.le_of_ble_eq_true rfl
    · exact Nat.le_of_ble_eq_true rfl
    · exact Nat.le_of_ble_eq_true rfl
  exact main s.heap [] _ hl' (fun k q h => by simp at h) ⟨fun i j p q h => by simp at h, fun k q h => by simp at h⟩ va_S.rf
end
