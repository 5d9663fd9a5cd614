set_option maxRecDepth 100000 in
theorem zo_i : Cond.instanceMethod Lib.objectInit ∈ zTb := tw_1 17 rfl rfl
set_option maxRecDepth 100000 in
theorem zo_c : Cond.code Lib.objectInit ⟨#[0xb1]⟩ 1 none ∈ zTb := tw_1 18 rfl rfl
set_option maxRecDepth 100000 in
theorem za_int : Cond.arrayClass (newarray.typeOf .int) ∈ zTb := tw_1 58 rfl rfl
set_option maxRecDepth 100000 in
theorem za_boolean : Cond.arrayClass (newarray.typeOf .boolean) ∈ zTb := tw_1 89 rfl rfl
set_option maxRecDepth 100000 in
theorem za_char : Cond.arrayClass (newarray.typeOf .char) ∈ zTb := tw_1 90 rfl rfl
set_option maxRecDepth 100000 in
theorem zl_S : Cond.methodLink "GateRoads$State" 3 Lib.objectInit ∈ zTb := tw_1 24 rfl rfl
set_option maxRecDepth 100000 in
theorem zm_S : Cond.instanceMethod y_S_init ∈ zTb := tw_1 22 rfl rfl
set_option maxRecDepth 100000 in
theorem zk_S : Cond.code y_S_init b_S_init 2 none ∈ zTb := tw_1 23 rfl rfl
set_option maxRecDepth 100000 in
theorem zy_S : Cond.initialized (y_S_init).cls ∈ zTb := tw_1 2 rfl rfl
set_option maxRecDepth 100000 in
theorem zt_S : Cond.instantiable R_S 8 ∈ zTb := tw_1 20 rfl rfl
theorem zd_S : (y_S_init).cls ≠ "java/lang/invoke/MethodHandle" ∧ (y_S_init).cls ≠ "java/lang/invoke/VarHandle" ∧ (parseMethodDescriptor (y_S_init).desc).map (fun d => d.parameters.length) = some 0 := ⟨by decide, by decide, by decide +kernel⟩
abbrev zb_S : List Value := [.null, .null, .null, .null, .null, .int (zI 0), .int (zI 0), .int (zI 0)]
theorem zf_S : ∀ j, j < 8 → defaultValue (t_S j) = vp_V zb_S j := by
  intro j hj
  rcases (show j = 0 ∨ j = 1 ∨ j = 2 ∨ j = 3 ∨ j = 4 ∨ j = 5 ∨ j = 6 ∨ j = 7 by omega) with rfl | rfl | rfl | rfl | rfl | rfl | rfl | rfl
  · rfl
  · rfl
  · rfl
  · rfl
  · rfl
  · rfl
  · rfl
  · rfl
set_option maxRecDepth 100000 in
theorem zl_X : Cond.methodLink "GateRoads" 3 Lib.objectInit ∈ zTb := tw_1 16 rfl rfl
set_option maxRecDepth 100000 in
theorem zm_X : Cond.instanceMethod y_X_init ∈ zTb := tw_1 14 rfl rfl
set_option maxRecDepth 100000 in
theorem zk_X : Cond.code y_X_init b_X_init 2 none ∈ zTb := tw_1 15 rfl rfl
set_option maxRecDepth 100000 in
theorem zy_X : Cond.initialized (y_X_init).cls ∈ zTb := tw_1 1 rfl rfl
set_option maxRecDepth 100000 in
theorem zt_X : Cond.instantiable R_X 13 ∈ zTb := tw_1 12 rfl rfl
theorem zd_X : (y_X_init).cls ≠ "java/lang/invoke/MethodHandle" ∧ (y_X_init).cls ≠ "java/lang/invoke/VarHandle" ∧ (parseMethodDescriptor (y_X_init).desc).map (fun d => d.parameters.length) = some 0 := ⟨by decide, by decide, by decide +kernel⟩
abbrev zb_X : List Value := [.null, .null, .int (zI 0), .null, .null, .int (zI 0), .null, .int (zI 0), .null, .null, .null, .null, .null]
theorem zf_X : ∀ j, j < 13 → defaultValue (t_X j) = vp_V zb_X j := by
  intro j hj
  rcases (show j = 0 ∨ j = 1 ∨ j = 2 ∨ j = 3 ∨ j = 4 ∨ j = 5 ∨ j = 6 ∨ j = 7 ∨ j = 8 ∨ j = 9 ∨ j = 10 ∨ j = 11 ∨ j = 12 by omega) with rfl | rfl | rfl | rfl | rfl | rfl | rfl | rfl | rfl | rfl | rfl | rfl | rfl
  · rfl
  · rfl
  · rfl
  · rfl
  · rfl
  · rfl
  · rfl
  · rfl
  · rfl
  · rfl
  · rfl
  · rfl
  · rfl
set_option maxRecDepth 100000 in
theorem zl_P : Cond.methodLink "GateRoads$Pad" 3 Lib.objectInit ∈ zTb := tw_1 65 rfl rfl
set_option maxRecDepth 100000 in
theorem zm_P : Cond.instanceMethod y_P_init ∈ zTb := tw_1 63 rfl rfl
set_option maxRecDepth 100000 in
theorem zk_P : Cond.code y_P_init b_P_init 1 none ∈ zTb := tw_1 64 rfl rfl
set_option maxRecDepth 100000 in
theorem zy_P : Cond.initialized (y_P_init).cls ∈ zTb := tw_1 3 rfl rfl
set_option maxRecDepth 100000 in
theorem zt_P : Cond.instantiable R_P 9 ∈ zTb := tw_1 61 rfl rfl
theorem zd_P : (y_P_init).cls ≠ "java/lang/invoke/MethodHandle" ∧ (y_P_init).cls ≠ "java/lang/invoke/VarHandle" ∧ (parseMethodDescriptor (y_P_init).desc).map (fun d => d.parameters.length) = some 0 := ⟨by decide, by decide, by decide +kernel⟩
abbrev zb_P : List Value := [.null, .int (zI 0), .int (zI 0), .int (zI 0), .int (zI 0), .null, .null, .int (zI 0), .int (zI 0)]
theorem zf_P : ∀ j, j < 9 → defaultValue (t_P j) = vp_V zb_P j := by
  intro j hj
  rcases (show j = 0 ∨ j = 1 ∨ j = 2 ∨ j = 3 ∨ j = 4 ∨ j = 5 ∨ j = 6 ∨ j = 7 ∨ j = 8 by omega) with rfl | rfl | rfl | rfl | rfl | rfl | rfl | rfl | rfl
  · rfl
  · rfl
  · rfl
  · rfl
  · rfl
  · rfl
  · rfl
  · rfl
  · rfl
set_option maxRecDepth 100000 in
theorem zl_G : Cond.methodLink "GateRoads$Gates" 3 Lib.objectInit ∈ zTb := tw_1 96 rfl rfl
set_option maxRecDepth 100000 in
theorem zm_G : Cond.instanceMethod y_G_init ∈ zTb := tw_1 94 rfl rfl
set_option maxRecDepth 100000 in
theorem zk_G : Cond.code y_G_init b_G_init 1 none ∈ zTb := tw_1 95 rfl rfl
set_option maxRecDepth 100000 in
theorem zy_G : Cond.initialized (y_G_init).cls ∈ zTb := tw_1 4 rfl rfl
set_option maxRecDepth 100000 in
theorem zt_G : Cond.instantiable R_G 2 ∈ zTb := tw_1 92 rfl rfl
theorem zd_G : (y_G_init).cls ≠ "java/lang/invoke/MethodHandle" ∧ (y_G_init).cls ≠ "java/lang/invoke/VarHandle" ∧ (parseMethodDescriptor (y_G_init).desc).map (fun d => d.parameters.length) = some 0 := ⟨by decide, by decide, by decide +kernel⟩
abbrev zb_G : List Value := [.null, .int (zI 0)]
theorem zf_G : ∀ j, j < 2 → defaultValue (t_G j) = vp_V zb_G j := by
  intro j hj
  rcases (show j = 0 ∨ j = 1 by omega) with rfl | rfl
  · rfl
  · rfl
set_option maxRecDepth 100000 in
theorem zl_O : Cond.methodLink "GateRoads$Onward" 3 Lib.objectInit ∈ zTb := tw_1 110 rfl rfl
set_option maxRecDepth 100000 in
theorem zm_O : Cond.instanceMethod y_O_init ∈ zTb := tw_1 108 rfl rfl
set_option maxRecDepth 100000 in
theorem zk_O : Cond.code y_O_init b_O_init 1 none ∈ zTb := tw_1 109 rfl rfl
set_option maxRecDepth 100000 in
theorem zy_O : Cond.initialized (y_O_init).cls ∈ zTb := tw_1 5 rfl rfl
set_option maxRecDepth 100000 in
theorem zt_O : Cond.instantiable R_O 2 ∈ zTb := tw_1 106 rfl rfl
theorem zd_O : (y_O_init).cls ≠ "java/lang/invoke/MethodHandle" ∧ (y_O_init).cls ≠ "java/lang/invoke/VarHandle" ∧ (parseMethodDescriptor (y_O_init).desc).map (fun d => d.parameters.length) = some 0 := ⟨by decide, by decide, by decide +kernel⟩
abbrev zb_O : List Value := [.null, .null]
theorem zf_O : ∀ j, j < 2 → defaultValue (t_O j) = vp_V zb_O j := by
  intro j hj
  rcases (show j = 0 ∨ j = 1 by omega) with rfl | rfl
  · rfl
  · rfl
set_option maxRecDepth 100000 in
theorem zl_B : Cond.methodLink "GateRoads$Backward" 3 Lib.objectInit ∈ zTb := tw_1 123 rfl rfl
set_option maxRecDepth 100000 in
theorem zm_B : Cond.instanceMethod y_B_init ∈ zTb := tw_1 121 rfl rfl
set_option maxRecDepth 100000 in
theorem zk_B : Cond.code y_B_init b_B_init 1 none ∈ zTb := tw_1 122 rfl rfl
set_option maxRecDepth 100000 in
theorem zy_B : Cond.initialized (y_B_init).cls ∈ zTb := tw_1 6 rfl rfl
set_option maxRecDepth 100000 in
theorem zt_B : Cond.instantiable R_B 4 ∈ zTb := tw_1 119 rfl rfl
theorem zd_B : (y_B_init).cls ≠ "java/lang/invoke/MethodHandle" ∧ (y_B_init).cls ≠ "java/lang/invoke/VarHandle" ∧ (parseMethodDescriptor (y_B_init).desc).map (fun d => d.parameters.length) = some 0 := ⟨by decide, by decide, by decide +kernel⟩
abbrev zb_B : List Value := [.null, .null, .int (zI 0), .int (zI 0)]
theorem zf_B : ∀ j, j < 4 → defaultValue (t_B j) = vp_V zb_B j := by
  intro j hj
  rcases (show j = 0 ∨ j = 1 ∨ j = 2 ∨ j = 3 by omega) with rfl | rfl | rfl | rfl
  · rfl
  · rfl
  · rfl
  · rfl
set_option maxRecDepth 100000 in
theorem zl_F : Cond.methodLink "GateRoads$Fewest" 3 Lib.objectInit ∈ zTb := tw_1 140 rfl rfl
set_option maxRecDepth 100000 in
theorem zm_F : Cond.instanceMethod y_F_init ∈ zTb := tw_1 138 rfl rfl
set_option maxRecDepth 100000 in
theorem zk_F : Cond.code y_F_init b_F_init 1 none ∈ zTb := tw_1 139 rfl rfl
set_option maxRecDepth 100000 in
theorem zy_F : Cond.initialized (y_F_init).cls ∈ zTb := tw_1 7 rfl rfl
set_option maxRecDepth 100000 in
theorem zt_F : Cond.instantiable R_F 5 ∈ zTb := tw_1 136 rfl rfl
theorem zd_F : (y_F_init).cls ≠ "java/lang/invoke/MethodHandle" ∧ (y_F_init).cls ≠ "java/lang/invoke/VarHandle" ∧ (parseMethodDescriptor (y_F_init).desc).map (fun d => d.parameters.length) = some 0 := ⟨by decide, by decide, by decide +kernel⟩
abbrev zb_F : List Value := [.null, .null, .null, .null, .null]
theorem zf_F : ∀ j, j < 5 → defaultValue (t_F j) = vp_V zb_F j := by
  intro j hj
  rcases (show j = 0 ∨ j = 1 ∨ j = 2 ∨ j = 3 ∨ j = 4 by omega) with rfl | rfl | rfl | rfl | rfl
  · rfl
  · rfl
  · rfl
  · rfl
  · rfl
set_option maxRecDepth 100000 in
theorem zc_L_14 : Cond.classLink "GateRoadsLaw" 14 "GateRoads" ∈ zTb := tw_1 11 rfl rfl
set_option maxRecDepth 100000 in
theorem zc_X_9 : Cond.classLink "GateRoads" 9 "GateRoads$State" ∈ zTb := tw_1 19 rfl rfl
set_option maxRecDepth 100000 in
theorem zc_X_27 : Cond.classLink "GateRoads" 27 "GateRoads$Pad" ∈ zTb := tw_1 60 rfl rfl
set_option maxRecDepth 100000 in
theorem zc_X_34 : Cond.classLink "GateRoads" 34 "GateRoads$Gates" ∈ zTb := tw_1 91 rfl rfl
set_option maxRecDepth 100000 in
theorem zc_X_41 : Cond.classLink "GateRoads" 41 "GateRoads$Onward" ∈ zTb := tw_1 105 rfl rfl
set_option maxRecDepth 100000 in
theorem zc_X_51 : Cond.classLink "GateRoads" 51 "GateRoads$Backward" ∈ zTb := tw_1 118 rfl rfl
set_option maxRecDepth 100000 in
theorem zc_X_58 : Cond.classLink "GateRoads" 58 "GateRoads$Fewest" ∈ zTb := tw_1 135 rfl rfl
def zRmF (o : Nat) (k : Nat) : Nat → Int32 := fun j => if o ≤ j ∧ j < o + 3 * k then (if (j - o) % 3 = 1 then zI 1440 else if (j - o) % 3 = 2 then zI 1000 else 0) else 0
theorem zRmF_0 (o : Nat) : zRmF o 0 = fun _ => 0 := by
  funext j
  unfold zRmF
  rw [if_neg (by omega)]
theorem zRmF_s (o k : Nat) : upd (upd (zRmF o k) (o + 3 * k + 1) (zI 1440)) (o + 3 * k + 2) (zI 1000) = zRmF o (k + 1) := by
  funext j
  unfold upd zRmF
  by_cases h2 : j = o + 3 * k + 2
  · rw [if_pos h2, if_pos ⟨by omega, by omega⟩, if_neg (by omega), if_pos (by omega)]
  · rw [if_neg h2]
    by_cases h1 : j = o + 3 * k + 1
    · rw [if_pos h1, if_pos ⟨by omega, by omega⟩, if_pos (by omega)]
    · rw [if_neg h1]
      by_cases h0 : j = o + 3 * k
      · rw [if_neg (by omega), if_pos ⟨by omega, by omega⟩, if_neg (by omega), if_neg (by omega)]
      · by_cases hj : o ≤ j ∧ j < o + 3 * k
        · have hj2 : o ≤ j ∧ j < o + 3 * (k + 1) := ⟨by omega, by omega⟩
          simp only [if_pos hj, if_pos hj2]
        · have hj2 : ¬ (o ≤ j ∧ j < o + 3 * (k + 1)) := by omega
          simp only [if_neg hj, if_neg hj2]
def zr_S : Room := { frames := 1, cells := 5, slots := 452, locals := 20 }
def w_S (ca : Nat → ClassId) (h0 : Nat) (u : Nat → Nat) : va_W := [(h0, .inr (0, [.ref (u 0), .ref (u 1), .ref (u 2), .ref (u 3), .ref (u 4), .int (zI 0), .int (zI 0), .int (zI 0)])), (u 0, .inl (ca 0, (24, .inl (zRmF 0 8)))), (u 1, .inl (ca 0, (264, .inl (fun _ => 0)))), (u 2, .inl (ca 0, (24, .inl (fun _ => 0)))), (u 3, .inl (ca 0, (60, .inl (fun _ => 0)))), (u 4, .inl (ca 0, (80, .inl (fun _ => 0))))]
set_option maxRecDepth 100000 in
set_option maxHeartbeats 4000000 in
theorem w_S_init_L {X : zX} {G : zG} (C : zC X G b_S_init "GateRoads$State" 2 none 1 20) (Kk : zCk X G) {h0 q0 q1 q2 q3 q4 : Nat} {Q : State → Prop} (hQ : zJw X G Q 2 85 [(0, .ref h0)] [] ([(h0, .inr (0, [.ref q0, .ref q1, .ref q2, .ref q3, .ref q4, .int (zI 0), .int (zI 0), .int (zI 0)])), (q0, .inl (gca G 0, (24, .inl (zRmF 0 8)))), (q1, .inl (gca G 0, (264, .inl (fun _ => 0)))), (q2, .inl (gca G 0, (24, .inl (fun _ => 0)))), (q3, .inl (gca G 0, (60, .inl (fun _ => 0)))), (q4, .inl (gca G 0, (80, .inl (fun _ => 0))))]) 5 452) : ∀ (n k : Nat), n + k = 8 → zJw X G Q 2 47 [(0, .ref h0), (1, .int (zI (k : Int)))] [] ([(h0, .inr (0, [.ref q0, .ref q1, .ref q2, .ref q3, .ref q4, .int (zI 0), .int (zI 0), .int (zI 0)])), (q0, .inl (gca G 0, (24, .inl (zRmF 0 k)))), (q1, .inl (gca G 0, (264, .inl (fun _ => 0)))), (q2, .inl (gca G 0, (24, .inl (fun _ => 0)))), (q3, .inl (gca G 0, (60, .inl (fun _ => 0)))), (q4, .inl (gca G 0, (80, .inl (fun _ => 0))))]) 5 452 := by
  intro n
  induction n with
  | zero =>
    intro k hk
    have hk8 : k = 8 := by omega
    subst hk8
    refine q_iload_n (x := ((8 : Nat) : Int)) C d_S_init_47 1 rfl rfl ?_
    refine q_bipush C d_S_init_48 rfl ?_
    refine q_icmp_ge (tgt := 85) C d_S_init_50 rfl (zR_of (x := ((8 : Nat) : Int)) rfl) (zR_of (x := 8) rfl) (fun c => ?_) (fun c => absurd (by decide) c)
    exact q_sub (L' := [(0, .ref h0)]) [0] rfl hQ
  | succ n ih =>
    intro k hk
    have rk : zR (k : Int) := ⟨by omega, by omega⟩
    refine q_iload_n C d_S_init_47 1 rfl rfl ?_
    refine q_bipush C d_S_init_48 rfl ?_
    refine q_icmp_ge (tgt := 85) C d_S_init_50 rfl rk (zR_of (x := 8) rfl) (fun c => absurd c (by omega)) (fun c => ?_)
    refine q_aload_n C d_S_init_53 0 rfl rfl ?_
    refine q_getr (q0 := 0) (kf := 0) C d_S_init_54 rfl rfl i_S rfl fl_S_9 rfl ?_
    refine q_iload_n C d_S_init_57 1 rfl rfl ?_
    refine q_iconst C d_S_init_58 ?_
    refine q_imul C d_S_init_59 ?_
    refine q_iconst C d_S_init_60 ?_
    refine q_iadd C d_S_init_61 ?_
    refine q_sipush C d_S_init_62 rfl ?_
    refine q_iastore (q0 := 1) (ws' := [(h0, .inr (0, [.ref q0, .ref q1, .ref q2, .ref q3, .ref q4, .int (zI 0), .int (zI 0), .int (zI 0)])), (q0, .inl (gca G 0, (24, .inl (upd (zRmF 0 k) (0 + 3 * k + 1) (zI 1440))))), (q1, .inl (gca G 0, (264, .inl (fun _ => 0)))), (q2, .inl (gca G 0, (24, .inl (fun _ => 0)))), (q3, .inl (gca G 0, (60, .inl (fun _ => 0)))), (q4, .inl (gca G 0, (80, .inl (fun _ => 0))))]) C d_S_init_65 rfl ⟨by omega, by omega⟩ rfl (by rw [show ((((k : Int) * 3) + 1)).toNat = 0 + 3 * k + 1 by omega]; rfl) ?_
    refine q_aload_n C d_S_init_66 0 rfl rfl ?_
    refine q_getr (q0 := 0) (kf := 0) C d_S_init_67 rfl rfl i_S rfl fl_S_9 rfl ?_
    refine q_iload_n C d_S_init_70 1 rfl rfl ?_
    refine q_iconst C d_S_init_71 ?_
    refine q_imul C d_S_init_72 ?_
    refine q_iconst C d_S_init_73 ?_
    refine q_iadd C d_S_init_74 ?_
    refine q_sipush C d_S_init_75 rfl ?_
    refine q_iastore (q0 := 1) (ws' := [(h0, .inr (0, [.ref q0, .ref q1, .ref q2, .ref q3, .ref q4, .int (zI 0), .int (zI 0), .int (zI 0)])), (q0, .inl (gca G 0, (24, .inl (upd (upd (zRmF 0 k) (0 + 3 * k + 1) (zI 1440)) (0 + 3 * k + 2) (zI 1000))))), (q1, .inl (gca G 0, (264, .inl (fun _ => 0)))), (q2, .inl (gca G 0, (24, .inl (fun _ => 0)))), (q3, .inl (gca G 0, (60, .inl (fun _ => 0)))), (q4, .inl (gca G 0, (80, .inl (fun _ => 0))))]) C d_S_init_78 rfl ⟨by omega, by omega⟩ rfl (by rw [show ((((k : Int) * 3) + 2)).toNat = 0 + 3 * k + 2 by omega]; rfl) ?_
    rw [zRmF_s]
    refine q_iinc (L' := [(1, .int (zI ((k + 1 : Nat) : Int))), (0, .ref h0)]) C d_S_init_79 1 rfl rfl rfl ?_
    refine q_goto (tgt := 47) C d_S_init_82 rfl ?_
    refine q_sub (L' := [(0, .ref h0), (1, .int (zI ((k + 1 : Nat) : Int)))]) [1, 0] rfl ?_
    exact ih (k + 1) (by omega)
set_option maxRecDepth 100000 in
set_option maxHeartbeats 4000000 in
theorem c_S_init (l : Launch) (D : va_G) (ca : Nat → ClassId) (h0 sz : Nat) : zCn l D ca y_S_init b_S_init 2 zr_S h0 (.inr (0, zb_S)) sz (w_S ca h0) := by
  refine zCn_of (by decide +kernel) rfl (by decide) ?_
  intro X G C Kk hR hl hD hca
  subst hl hD hca
  have C : zC X G b_S_init "GateRoads$State" 2 none 1 20 := C
  refine q_aload_n C d_S_init_0 0 rfl rfl ?_
  refine q_objInit C zl_S zo_i zo_c d_S_init_1 rfl rfl ?_
  refine q_aload_n C d_S_init_4 0 rfl rfl ?_
  refine q_bipush C d_S_init_5 rfl ?_
  refine q_newa (ty := .int) (t := 0) (N := 24) C Kk za_int rfl rfl rfl d_S_init_7 rfl rfl hR rfl rfl (fun q0 => ?_)
  refine q_eq (ws' := [(h0, .inr (0, [.null, .null, .null, .null, .null, .int (zI 0), .int (zI 0), .int (zI 0)])), (q0, .inl (gca G 0, (24, .inl (fun _ => 0))))]) rfl ?_
  refine q_putF (q0 := 0) (kf := 0) (ws' := [(h0, .inr (0, [.ref q0, .null, .null, .null, .null, .int (zI 0), .int (zI 0), .int (zI 0)])), (q0, .inl (gca G 0, (24, .inl (fun _ => 0))))]) C Kk t_S d_S_init_9 rfl rfl i_S t_S_ok n_S rfl fl_S_9 rfl rfl rfl rfl rfl rfl ?_
  refine q_aload_n C d_S_init_12 0 rfl rfl ?_
  refine q_sipush C d_S_init_13 rfl ?_
  refine q_newa (ty := .int) (t := 0) (N := 264) C Kk za_int rfl rfl rfl d_S_init_16 rfl rfl hR rfl rfl (fun q1 => ?_)
  refine q_eq (ws' := [(h0, .inr (0, [.ref q0, .null, .null, .null, .null, .int (zI 0), .int (zI 0), .int (zI 0)])), (q0, .inl (gca G 0, (24, .inl (fun _ => 0)))), (q1, .inl (gca G 0, (264, .inl (fun _ => 0))))]) rfl ?_
  refine q_putF (q0 := 0) (kf := 1) (ws' := [(h0, .inr (0, [.ref q0, .ref q1, .null, .null, .null, .int (zI 0), .int (zI 0), .int (zI 0)])), (q0, .inl (gca G 0, (24, .inl (fun _ => 0)))), (q1, .inl (gca G 0, (264, .inl (fun _ => 0))))]) C Kk t_S d_S_init_18 rfl rfl i_S t_S_ok n_S rfl fl_S_15 rfl rfl rfl rfl rfl rfl ?_
  refine q_aload_n C d_S_init_21 0 rfl rfl ?_
  refine q_bipush C d_S_init_22 rfl ?_
  refine q_newa (ty := .int) (t := 0) (N := 24) C Kk za_int rfl rfl rfl d_S_init_24 rfl rfl hR rfl rfl (fun q2 => ?_)
  refine q_eq (ws' := [(h0, .inr (0, [.ref q0, .ref q1, .null, .null, .null, .int (zI 0), .int (zI 0), .int (zI 0)])), (q0, .inl (gca G 0, (24, .inl (fun _ => 0)))), (q1, .inl (gca G 0, (264, .inl (fun _ => 0)))), (q2, .inl (gca G 0, (24, .inl (fun _ => 0))))]) rfl ?_
  refine q_putF (q0 := 0) (kf := 2) (ws' := [(h0, .inr (0, [.ref q0, .ref q1, .ref q2, .null, .null, .int (zI 0), .int (zI 0), .int (zI 0)])), (q0, .inl (gca G 0, (24, .inl (fun _ => 0)))), (q1, .inl (gca G 0, (264, .inl (fun _ => 0)))), (q2, .inl (gca G 0, (24, .inl (fun _ => 0))))]) C Kk t_S d_S_init_26 rfl rfl i_S t_S_ok n_S rfl fl_S_18 rfl rfl rfl rfl rfl rfl ?_
  refine q_aload_n C d_S_init_29 0 rfl rfl ?_
  refine q_bipush C d_S_init_30 rfl ?_
  refine q_newa (ty := .int) (t := 0) (N := 60) C Kk za_int rfl rfl rfl d_S_init_32 rfl rfl hR rfl rfl (fun q3 => ?_)
  refine q_eq (ws' := [(h0, .inr (0, [.ref q0, .ref q1, .ref q2, .null, .null, .int (zI 0), .int (zI 0), .int (zI 0)])), (q0, .inl (gca G 0, (24, .inl (fun _ => 0)))), (q1, .inl (gca G 0, (264, .inl (fun _ => 0)))), (q2, .inl (gca G 0, (24, .inl (fun _ => 0)))), (q3, .inl (gca G 0, (60, .inl (fun _ => 0))))]) rfl ?_
  refine q_putF (q0 := 0) (kf := 3) (ws' := [(h0, .inr (0, [.ref q0, .ref q1, .ref q2, .ref q3, .null, .int (zI 0), .int (zI 0), .int (zI 0)])), (q0, .inl (gca G 0, (24, .inl (fun _ => 0)))), (q1, .inl (gca G 0, (264, .inl (fun _ => 0)))), (q2, .inl (gca G 0, (24, .inl (fun _ => 0)))), (q3, .inl (gca G 0, (60, .inl (fun _ => 0))))]) C Kk t_S d_S_init_34 rfl rfl i_S t_S_ok n_S rfl fl_S_21 rfl rfl rfl rfl rfl rfl ?_
  refine q_aload_n C d_S_init_37 0 rfl rfl ?_
  refine q_bipush C d_S_init_38 rfl ?_
  refine q_newa (ty := .int) (t := 0) (N := 80) C Kk za_int rfl rfl rfl d_S_init_40 rfl rfl hR rfl rfl (fun q4 => ?_)
  refine q_eq (ws' := [(h0, .inr (0, [.ref q0, .ref q1, .ref q2, .ref q3, .null, .int (zI 0), .int (zI 0), .int (zI 0)])), (q0, .inl (gca G 0, (24, .inl (fun _ => 0)))), (q1, .inl (gca G 0, (264, .inl (fun _ => 0)))), (q2, .inl (gca G 0, (24, .inl (fun _ => 0)))), (q3, .inl (gca G 0, (60, .inl (fun _ => 0)))), (q4, .inl (gca G 0, (80, .inl (fun _ => 0))))]) rfl ?_
  refine q_putF (q0 := 0) (kf := 4) (ws' := [(h0, .inr (0, [.ref q0, .ref q1, .ref q2, .ref q3, .ref q4, .int (zI 0), .int (zI 0), .int (zI 0)])), (q0, .inl (gca G 0, (24, .inl (fun _ => 0)))), (q1, .inl (gca G 0, (264, .inl (fun _ => 0)))), (q2, .inl (gca G 0, (24, .inl (fun _ => 0)))), (q3, .inl (gca G 0, (60, .inl (fun _ => 0)))), (q4, .inl (gca G 0, (80, .inl (fun _ => 0))))]) C Kk t_S d_S_init_42 rfl rfl i_S t_S_ok n_S rfl fl_S_24 rfl rfl rfl rfl rfl rfl ?_
  refine q_iconst C d_S_init_45 ?_
  refine q_istore_n (L' := [(1, .int (zI ((0 : Nat) : Int))), (0, .ref h0)]) C d_S_init_46 rfl rfl rfl ?_
  refine q_sub (L' := [(0, .ref h0), (1, .int (zI ((0 : Nat) : Int)))]) [1, 0] rfl ?_
  refine q_eq (ws' := [(h0, .inr (0, [.ref q0, .ref q1, .ref q2, .ref q3, .ref q4, .int (zI 0), .int (zI 0), .int (zI 0)])), (q0, .inl (gca G 0, (24, .inl (zRmF 0 0)))), (q1, .inl (gca G 0, (264, .inl (fun _ => 0)))), (q2, .inl (gca G 0, (24, .inl (fun _ => 0)))), (q3, .inl (gca G 0, (60, .inl (fun _ => 0)))), (q4, .inl (gca G 0, (80, .inl (fun _ => 0))))]) (by rw [zRmF_0]) ?_
  refine w_S_init_L C Kk ?_ 8 0 rfl
  exact q_vreturn C (fun n => [q0, q1, q2, q3, q4].getD n 0) d_S_init_85 rfl rfl rfl
def zr_P : Room := { frames := 1, cells := 3, slots := 89, locals := 20 }
def w_P (ca : Nat → ClassId) (h0 : Nat) (u : Nat → Nat) : va_W := [(h0, .inr (2, [.ref (u 0), .int (zI 0), .int (zI 0), .int (zI 0), .int (zI 0), .ref (u 1), .ref (u 2), .int (zI 0), .int (zI 0)])), (u 0, .inl (ca 2, (80, .inl (fun _ => 0)))), (u 1, .inl (ca 0, (3, .inl (fun _ => 0)))), (u 2, .inl (ca 0, (6, .inl (fun _ => 0))))]
set_option maxRecDepth 100000 in
set_option maxHeartbeats 4000000 in
theorem c_P_init (l : Launch) (D : va_G) (ca : Nat → ClassId) (h0 sz : Nat) : zCn l D ca y_P_init b_P_init 1 zr_P h0 (.inr (2, zb_P)) sz (w_P ca h0) := by
  refine zCn_of (by decide +kernel) rfl (by decide) ?_
  intro X G C Kk hR hl hD hca
  subst hl hD hca
  have C : zC X G b_P_init "GateRoads$Pad" 1 none 1 20 := C
  refine q_aload_n C d_P_init_0 0 rfl rfl ?_
  refine q_objInit C zl_P zo_i zo_c d_P_init_1 rfl rfl ?_
  refine q_aload_n C d_P_init_4 0 rfl rfl ?_
  refine q_bipush C d_P_init_5 rfl ?_
  refine q_newa (ty := .char) (t := 2) (N := 80) C Kk za_char rfl rfl rfl d_P_init_7 rfl rfl hR rfl rfl (fun q0 => ?_)
  refine q_eq (ws' := [(h0, .inr (2, [.null, .int (zI 0), .int (zI 0), .int (zI 0), .int (zI 0), .null, .null, .int (zI 0), .int (zI 0)])), (q0, .inl (gca G 2, (80, .inl (fun _ => 0))))]) rfl ?_
  refine q_putF (q0 := 0) (kf := 0) (ws' := [(h0, .inr (2, [.ref q0, .int (zI 0), .int (zI 0), .int (zI 0), .int (zI 0), .null, .null, .int (zI 0), .int (zI 0)])), (q0, .inl (gca G 2, (80, .inl (fun _ => 0))))]) C Kk t_P d_P_init_9 rfl rfl i_P t_P_ok n_P rfl fl_P_9 rfl rfl rfl rfl rfl rfl ?_
  refine q_aload_n C d_P_init_12 0 rfl rfl ?_
  refine q_iconst C d_P_init_13 ?_
  refine q_newa (ty := .int) (t := 0) (N := 3) C Kk za_int rfl rfl rfl d_P_init_14 rfl rfl hR rfl rfl (fun q1 => ?_)
  refine q_eq (ws' := [(h0, .inr (2, [.ref q0, .int (zI 0), .int (zI 0), .int (zI 0), .int (zI 0), .null, .null, .int (zI 0), .int (zI 0)])), (q0, .inl (gca G 2, (80, .inl (fun _ => 0)))), (q1, .inl (gca G 0, (3, .inl (fun _ => 0))))]) rfl ?_
  refine q_putF (q0 := 0) (kf := 5) (ws' := [(h0, .inr (2, [.ref q0, .int (zI 0), .int (zI 0), .int (zI 0), .int (zI 0), .ref q1, .null, .int (zI 0), .int (zI 0)])), (q0, .inl (gca G 2, (80, .inl (fun _ => 0)))), (q1, .inl (gca G 0, (3, .inl (fun _ => 0))))]) C Kk t_P d_P_init_16 rfl rfl i_P t_P_ok n_P rfl fl_P_15 rfl rfl rfl rfl rfl rfl ?_
  refine q_aload_n C d_P_init_19 0 rfl rfl ?_
  refine q_bipush C d_P_init_20 rfl ?_
  refine q_newa (ty := .int) (t := 0) (N := 6) C Kk za_int rfl rfl rfl d_P_init_22 rfl rfl hR rfl rfl (fun q2 => ?_)
  refine q_eq (ws' := [(h0, .inr (2, [.ref q0, .int (zI 0), .int (zI 0), .int (zI 0), .int (zI 0), .ref q1, .null, .int (zI 0), .int (zI 0)])), (q0, .inl (gca G 2, (80, .inl (fun _ => 0)))), (q1, .inl (gca G 0, (3, .inl (fun _ => 0)))), (q2, .inl (gca G 0, (6, .inl (fun _ => 0))))]) rfl ?_
  refine q_putF (q0 := 0) (kf := 6) (ws' := [(h0, .inr (2, [.ref q0, .int (zI 0), .int (zI 0), .int (zI 0), .int (zI 0), .ref q1, .ref q2, .int (zI 0), .int (zI 0)])), (q0, .inl (gca G 2, (80, .inl (fun _ => 0)))), (q1, .inl (gca G 0, (3, .inl (fun _ => 0)))), (q2, .inl (gca G 0, (6, .inl (fun _ => 0))))]) C Kk t_P d_P_init_24 rfl rfl i_P t_P_ok n_P rfl fl_P_19 rfl rfl rfl rfl rfl rfl ?_
  exact q_vreturn C (fun n => [q0, q1, q2].getD n 0) d_P_init_27 rfl rfl rfl
def zr_G : Room := { frames := 1, cells := 1, slots := 2881, locals := 20 }
def w_G (ca : Nat → ClassId) (h0 : Nat) (u : Nat → Nat) : va_W := [(h0, .inr (3, [.ref (u 0), .int (zI 0)])), (u 0, .inl (ca 0, (2881, .inl (fun _ => 0))))]
set_option maxRecDepth 100000 in
set_option maxHeartbeats 4000000 in
theorem c_G_init (l : Launch) (D : va_G) (ca : Nat → ClassId) (h0 sz : Nat) : zCn l D ca y_G_init b_G_init 1 zr_G h0 (.inr (3, zb_G)) sz (w_G ca h0) := by
  refine zCn_of (by decide +kernel) rfl (by decide) ?_
  intro X G C Kk hR hl hD hca
  subst hl hD hca
  have C : zC X G b_G_init "GateRoads$Gates" 1 none 1 20 := C
  refine q_aload_n C d_G_init_0 0 rfl rfl ?_
  refine q_objInit C zl_G zo_i zo_c d_G_init_1 rfl rfl ?_
  refine q_aload_n C d_G_init_4 0 rfl rfl ?_
  refine q_sipush C d_G_init_5 rfl ?_
  refine q_newa (ty := .int) (t := 0) (N := 2881) C Kk za_int rfl rfl rfl d_G_init_8 rfl rfl hR rfl rfl (fun q0 => ?_)
  refine q_eq (ws' := [(h0, .inr (3, [.null, .int (zI 0)])), (q0, .inl (gca G 0, (2881, .inl (fun _ => 0))))]) rfl ?_
  refine q_putF (q0 := 0) (kf := 0) (ws' := [(h0, .inr (3, [.ref q0, .int (zI 0)])), (q0, .inl (gca G 0, (2881, .inl (fun _ => 0))))]) C Kk t_G d_G_init_10 rfl rfl i_G t_G_ok n_G rfl fl_G_9 rfl rfl rfl rfl rfl rfl ?_
  exact q_vreturn C (fun n => [q0].getD n 0) d_G_init_13 rfl rfl rfl
def zr_O : Room := { frames := 1, cells := 2, slots := 1032, locals := 20 }
def w_O (ca : Nat → ClassId) (h0 : Nat) (u : Nat → Nat) : va_W := [(h0, .inr (4, [.ref (u 0), .ref (u 1)])), (u 0, .inl (ca 0, (1024, .inl (fun _ => 0)))), (u 1, .inl (ca 0, (8, .inl (fun _ => 0))))]
set_option maxRecDepth 100000 in
set_option maxHeartbeats 4000000 in
theorem c_O_init (l : Launch) (D : va_G) (ca : Nat → ClassId) (h0 sz : Nat) : zCn l D ca y_O_init b_O_init 1 zr_O h0 (.inr (4, zb_O)) sz (w_O ca h0) := by
  refine zCn_of (by decide +kernel) rfl (by decide) ?_
  intro X G C Kk hR hl hD hca
  subst hl hD hca
  have C : zC X G b_O_init "GateRoads$Onward" 1 none 1 20 := C
  refine q_aload_n C d_O_init_0 0 rfl rfl ?_
  refine q_objInit C zl_O zo_i zo_c d_O_init_1 rfl rfl ?_
  refine q_aload_n C d_O_init_4 0 rfl rfl ?_
  refine q_sipush C d_O_init_5 rfl ?_
  refine q_newa (ty := .int) (t := 0) (N := 1024) C Kk za_int rfl rfl rfl d_O_init_8 rfl rfl hR rfl rfl (fun q0 => ?_)
  refine q_eq (ws' := [(h0, .inr (4, [.null, .null])), (q0, .inl (gca G 0, (1024, .inl (fun _ => 0))))]) rfl ?_
  refine q_putF (q0 := 0) (kf := 0) (ws' := [(h0, .inr (4, [.ref q0, .null])), (q0, .inl (gca G 0, (1024, .inl (fun _ => 0))))]) C Kk t_O d_O_init_10 rfl rfl i_O t_O_ok n_O rfl fl_O_9 rfl rfl rfl rfl rfl rfl ?_
  refine q_aload_n C d_O_init_13 0 rfl rfl ?_
  refine q_bipush C d_O_init_14 rfl ?_
  refine q_newa (ty := .int) (t := 0) (N := 8) C Kk za_int rfl rfl rfl d_O_init_16 rfl rfl hR rfl rfl (fun q1 => ?_)
  refine q_eq (ws' := [(h0, .inr (4, [.ref q0, .null])), (q0, .inl (gca G 0, (1024, .inl (fun _ => 0)))), (q1, .inl (gca G 0, (8, .inl (fun _ => 0))))]) rfl ?_
  refine q_putF (q0 := 0) (kf := 1) (ws' := [(h0, .inr (4, [.ref q0, .ref q1])), (q0, .inl (gca G 0, (1024, .inl (fun _ => 0)))), (q1, .inl (gca G 0, (8, .inl (fun _ => 0))))]) C Kk t_O d_O_init_18 rfl rfl i_O t_O_ok n_O rfl fl_O_15 rfl rfl rfl rfl rfl rfl ?_
  exact q_vreturn C (fun n => [q0, q1].getD n 0) d_O_init_21 rfl rfl rfl
def zr_B : Room := { frames := 1, cells := 2, slots := 2889, locals := 20 }
def w_B (ca : Nat → ClassId) (h0 : Nat) (u : Nat → Nat) : va_W := [(h0, .inr (5, [.ref (u 0), .ref (u 1), .int (zI 0), .int (zI 0)])), (u 0, .inl (ca 0, (2881, .inl (fun _ => 0)))), (u 1, .inl (ca 0, (8, .inl (fun _ => 0))))]
set_option maxRecDepth 100000 in
set_option maxHeartbeats 4000000 in
theorem c_B_init (l : Launch) (D : va_G) (ca : Nat → ClassId) (h0 sz : Nat) : zCn l D ca y_B_init b_B_init 1 zr_B h0 (.inr (5, zb_B)) sz (w_B ca h0) := by
  refine zCn_of (by decide +kernel) rfl (by decide) ?_
  intro X G C Kk hR hl hD hca
  subst hl hD hca
  have C : zC X G b_B_init "GateRoads$Backward" 1 none 1 20 := C
  refine q_aload_n C d_B_init_0 0 rfl rfl ?_
  refine q_objInit C zl_B zo_i zo_c d_B_init_1 rfl rfl ?_
  refine q_aload_n C d_B_init_4 0 rfl rfl ?_
  refine q_sipush C d_B_init_5 rfl ?_
  refine q_newa (ty := .int) (t := 0) (N := 2881) C Kk za_int rfl rfl rfl d_B_init_8 rfl rfl hR rfl rfl (fun q0 => ?_)
  refine q_eq (ws' := [(h0, .inr (5, [.null, .null, .int (zI 0), .int (zI 0)])), (q0, .inl (gca G 0, (2881, .inl (fun _ => 0))))]) rfl ?_
  refine q_putF (q0 := 0) (kf := 0) (ws' := [(h0, .inr (5, [.ref q0, .null, .int (zI 0), .int (zI 0)])), (q0, .inl (gca G 0, (2881, .inl (fun _ => 0))))]) C Kk t_B d_B_init_10 rfl rfl i_B t_B_ok n_B rfl fl_B_9 rfl rfl rfl rfl rfl rfl ?_
  refine q_aload_n C d_B_init_13 0 rfl rfl ?_
  refine q_bipush C d_B_init_14 rfl ?_
  refine q_newa (ty := .int) (t := 0) (N := 8) C Kk za_int rfl rfl rfl d_B_init_16 rfl rfl hR rfl rfl (fun q1 => ?_)
  refine q_eq (ws' := [(h0, .inr (5, [.ref q0, .null, .int (zI 0), .int (zI 0)])), (q0, .inl (gca G 0, (2881, .inl (fun _ => 0)))), (q1, .inl (gca G 0, (8, .inl (fun _ => 0))))]) rfl ?_
  refine q_putF (q0 := 0) (kf := 1) (ws' := [(h0, .inr (5, [.ref q0, .ref q1, .int (zI 0), .int (zI 0)])), (q0, .inl (gca G 0, (2881, .inl (fun _ => 0)))), (q1, .inl (gca G 0, (8, .inl (fun _ => 0))))]) C Kk t_B d_B_init_18 rfl rfl i_B t_B_ok n_B rfl fl_B_15 rfl rfl rfl rfl rfl rfl ?_
  exact q_vreturn C (fun n => [q0, q1].getD n 0) d_B_init_21 rfl rfl rfl
def zr_F : Room := { frames := 1, cells := 5, slots := 16408, locals := 20 }
def w_F (ca : Nat → ClassId) (h0 : Nat) (u : Nat → Nat) : va_W := [(h0, .inr (6, [.ref (u 0), .ref (u 1), .ref (u 2), .ref (u 3), .ref (u 4)])), (u 0, .inl (ca 0, (8192, .inl (fun _ => 0)))), (u 1, .inl (ca 0, (8192, .inl (fun _ => 0)))), (u 2, .inl (ca 0, (8, .inl (fun _ => 0)))), (u 3, .inl (ca 0, (8, .inl (fun _ => 0)))), (u 4, .inl (ca 0, (8, .inl (fun _ => 0))))]
set_option maxRecDepth 100000 in
set_option maxHeartbeats 4000000 in
theorem c_F_init (l : Launch) (D : va_G) (ca : Nat → ClassId) (h0 sz : Nat) : zCn l D ca y_F_init b_F_init 1 zr_F h0 (.inr (6, zb_F)) sz (w_F ca h0) := by
  refine zCn_of (by decide +kernel) rfl (by decide) ?_
  intro X G C Kk hR hl hD hca
  subst hl hD hca
  have C : zC X G b_F_init "GateRoads$Fewest" 1 none 1 20 := C
  refine q_aload_n C d_F_init_0 0 rfl rfl ?_
  refine q_objInit C zl_F zo_i zo_c d_F_init_1 rfl rfl ?_
  refine q_aload_n C d_F_init_4 0 rfl rfl ?_
  refine q_sipush C d_F_init_5 rfl ?_
  refine q_newa (ty := .int) (t := 0) (N := 8192) C Kk za_int rfl rfl rfl d_F_init_8 rfl rfl hR rfl rfl (fun q0 => ?_)
  refine q_eq (ws' := [(h0, .inr (6, [.null, .null, .null, .null, .null])), (q0, .inl (gca G 0, (8192, .inl (fun _ => 0))))]) rfl ?_
  refine q_putF (q0 := 0) (kf := 0) (ws' := [(h0, .inr (6, [.ref q0, .null, .null, .null, .null])), (q0, .inl (gca G 0, (8192, .inl (fun _ => 0))))]) C Kk t_F d_F_init_10 rfl rfl i_F t_F_ok n_F rfl fl_F_9 rfl rfl rfl rfl rfl rfl ?_
  refine q_aload_n C d_F_init_13 0 rfl rfl ?_
  refine q_sipush C d_F_init_14 rfl ?_
  refine q_newa (ty := .int) (t := 0) (N := 8192) C Kk za_int rfl rfl rfl d_F_init_17 rfl rfl hR rfl rfl (fun q1 => ?_)
  refine q_eq (ws' := [(h0, .inr (6, [.ref q0, .null, .null, .null, .null])), (q0, .inl (gca G 0, (8192, .inl (fun _ => 0)))), (q1, .inl (gca G 0, (8192, .inl (fun _ => 0))))]) rfl ?_
  refine q_putF (q0 := 0) (kf := 1) (ws' := [(h0, .inr (6, [.ref q0, .ref q1, .null, .null, .null])), (q0, .inl (gca G 0, (8192, .inl (fun _ => 0)))), (q1, .inl (gca G 0, (8192, .inl (fun _ => 0))))]) C Kk t_F d_F_init_19 rfl rfl i_F t_F_ok n_F rfl fl_F_15 rfl rfl rfl rfl rfl rfl ?_
  refine q_aload_n C d_F_init_22 0 rfl rfl ?_
  refine q_bipush C d_F_init_23 rfl ?_
  refine q_newa (ty := .int) (t := 0) (N := 8) C Kk za_int rfl rfl rfl d_F_init_25 rfl rfl hR rfl rfl (fun q2 => ?_)
  refine q_eq (ws' := [(h0, .inr (6, [.ref q0, .ref q1, .null, .null, .null])), (q0, .inl (gca G 0, (8192, .inl (fun _ => 0)))), (q1, .inl (gca G 0, (8192, .inl (fun _ => 0)))), (q2, .inl (gca G 0, (8, .inl (fun _ => 0))))]) rfl ?_
  refine q_putF (q0 := 0) (kf := 2) (ws' := [(h0, .inr (6, [.ref q0, .ref q1, .ref q2, .null, .null])), (q0, .inl (gca G 0, (8192, .inl (fun _ => 0)))), (q1, .inl (gca G 0, (8192, .inl (fun _ => 0)))), (q2, .inl (gca G 0, (8, .inl (fun _ => 0))))]) C Kk t_F d_F_init_27 rfl rfl i_F t_F_ok n_F rfl fl_F_18 rfl rfl rfl rfl rfl rfl ?_
  refine q_aload_n C d_F_init_30 0 rfl rfl ?_
  refine q_bipush C d_F_init_31 rfl ?_
  refine q_newa (ty := .int) (t := 0) (N := 8) C Kk za_int rfl rfl rfl d_F_init_33 rfl rfl hR rfl rfl (fun q3 => ?_)
  refine q_eq (ws' := [(h0, .inr (6, [.ref q0, .ref q1, .ref q2, .null, .null])), (q0, .inl (gca G 0, (8192, .inl (fun _ => 0)))), (q1, .inl (gca G 0, (8192, .inl (fun _ => 0)))), (q2, .inl (gca G 0, (8, .inl (fun _ => 0)))), (q3, .inl (gca G 0, (8, .inl (fun _ => 0))))]) rfl ?_
  refine q_putF (q0 := 0) (kf := 3) (ws' := [(h0, .inr (6, [.ref q0, .ref q1, .ref q2, .ref q3, .null])), (q0, .inl (gca G 0, (8192, .inl (fun _ => 0)))), (q1, .inl (gca G 0, (8192, .inl (fun _ => 0)))), (q2, .inl (gca G 0, (8, .inl (fun _ => 0)))), (q3, .inl (gca G 0, (8, .inl (fun _ => 0))))]) C Kk t_F d_F_init_35 rfl rfl i_F t_F_ok n_F rfl fl_F_21 rfl rfl rfl rfl rfl rfl ?_
  refine q_aload_n C d_F_init_38 0 rfl rfl ?_
  refine q_bipush C d_F_init_39 rfl ?_
  refine q_newa (ty := .int) (t := 0) (N := 8) C Kk za_int rfl rfl rfl d_F_init_41 rfl rfl hR rfl rfl (fun q4 => ?_)
  refine q_eq (ws' := [(h0, .inr (6, [.ref q0, .ref q1, .ref q2, .ref q3, .null])), (q0, .inl (gca G 0, (8192, .inl (fun _ => 0)))), (q1, .inl (gca G 0, (8192, .inl (fun _ => 0)))), (q2, .inl (gca G 0, (8, .inl (fun _ => 0)))), (q3, .inl (gca G 0, (8, .inl (fun _ => 0)))), (q4, .inl (gca G 0, (8, .inl (fun _ => 0))))]) rfl ?_
  refine q_putF (q0 := 0) (kf := 4) (ws' := [(h0, .inr (6, [.ref q0, .ref q1, .ref q2, .ref q3, .ref q4])), (q0, .inl (gca G 0, (8192, .inl (fun _ => 0)))), (q1, .inl (gca G 0, (8192, .inl (fun _ => 0)))), (q2, .inl (gca G 0, (8, .inl (fun _ => 0)))), (q3, .inl (gca G 0, (8, .inl (fun _ => 0)))), (q4, .inl (gca G 0, (8, .inl (fun _ => 0))))]) C Kk t_F d_F_init_43 rfl rfl i_F t_F_ok n_F rfl fl_F_24 rfl rfl rfl rfl rfl rfl ?_
  exact q_vreturn C (fun n => [q0, q1, q2, q3, q4].getD n 0) d_F_init_46 rfl rfl rfl
