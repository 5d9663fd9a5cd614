set_option maxRecDepth 100000 in
set_option maxHeartbeats 4000000 in
theorem c_L_up (l : Launch) (D : va_G) (ad : Nat → Nat) (ca : Nat → ClassId) {σ : zM} {v0 : Int} {v1 : Int} {Q : Int → Prop} (hσ : zRM σ) (r0 : zR v0) (r1 : zR v1) (h : wp_L_up σ v0 v1 Q) : zCi l D ad ca y_L_up b_L_up 2 (some .int) (zrm 0 0) [.int (zI v0), .int (zI v1)] σ (fun z u => σ = u ∧ Q z) := by
  refine zCi_of (by decide +kernel) (Nat.le_of_ble_eq_true rfl) ?_
  intro X G C hl hD had hca
  subst hl hD had hca
  have C : zC X G b_L_up "GateRoadsLaw" 2 (some .int) 0 0 := C
  show zJ X G (zQi X G (fun z u => σ = u ∧ Q z)) 2 0 [(0, .int (zI v0)), (1, .int (zI v1))] [] σ
  unfold wp_L_up at h
  refine j_iload_n C d_L_up_0 0 rfl rfl ?_
  refine j_ldc (n := 2147483647) C ck_L_8 rfl d_L_up_1 ?_
  refine j_iand C d_L_up_3 ?_
  refine j_iload_n C d_L_up_4 1 rfl rfl ?_
  obtain ⟨g1, h⟩ := h
  obtain ⟨g2, h⟩ := h
  refine j_irem C d_L_up_5 (zAnd_rg _ _) g1 r1 g2 ?_
  exact j_ireturn C d_L_up_6 (zMod_rg (zAnd_rg _ _) g1 r1 g2) hσ ⟨rfl, h⟩
set_option maxRecDepth 100000 in
set_option maxHeartbeats 4000000 in
theorem w_L_view_L6 {X : zX} {G : zG} (C : zC X G b_L_view "GateRoadsLaw" 5 (some .long) 3 68) {σ : zM} (hσ : zRM σ) {Q : Int64 → Prop} {k30 : Int64 → Prop} (hk30 : ∀ (v1 : Int64), k30 v1 → zJ X G (zQl X G (fun z u => σ = u ∧ Q z)) 5 30 [(0, .ref (gad G 54)), (1, .long v1)] [] σ) : ∀ (n : Nat) (v1 : Int64) (v3 : Int) (r3 : zR v3), wp_L_view_L6 σ k30 Q n v1 v3 → zJ X G (zQl X G (fun z u => σ = u ∧ Q z)) 5 6 [(0, .ref (gad G 54)), (1, .long v1), (3, .int (zI v3))] [] σ := by
  intro n
  induction n with
  | zero => intro v1 v3 r3 h; exact False.elim h
  | succ n ih =>
    intro v1 v3 r3 h
    rw [wp_L_view_L6] at h
    refine j_iload_n C d_L_view_6 2 rfl rfl ?_
    refine j_iconst C d_L_view_7 ?_
    refine j_icmp_ge (tgt := 30) C d_L_view_8 rfl r3 (zR_of (x := 3) rfl) (fun c => ?_) (fun c => ?_)
    · have h := h.1 c
      refine j_sub (L' := [(0, .ref (gad G 54)), (1, .long v1)]) [0, 1] rfl ?_
      exact hk30 v1 h
    · have h := h.2 c
      refine j_ldc2 C cl_L_11 d_L_view_11 ?_
      refine j_lload_n C d_L_view_14 1 rfl rfl ?_
      refine j_lmul C d_L_view_15 ?_
      refine j_aload_n C d_L_view_16 0 rfl rfl ?_
      refine j_iload_n C d_L_view_17 2 rfl rfl ?_
      refine j_callV C d_L_view_18 ml_L_13 mi_X_count (c_X_count (xl X) (gD G) (gad G) (gca G) (v1 := v3) hσ r3 h) sh_54 rfl rfl rfl rfl rfl rfl rfl (fun z1 σ2 rz1 hσ2 h => ?_)
      obtain ⟨ez1, h⟩ := h; subst ez1
      refine j_i2l C d_L_view_21 ?_
      refine j_ladd C d_L_view_22 ?_
      refine j_lstore_n (L' := [(1, .long (((31 : Int64) * v1) + (zI2l z1))), (0, .ref (gad G 54)), (3, .int (zI v3))]) C d_L_view_23 rfl rfl rfl ?_
      obtain ⟨g3, h⟩ := h
      refine j_iinc (L' := [(3, .int (zI (v3 + 1))), (1, .long (((31 : Int64) * v1) + (zI2l z1))), (0, .ref (gad G 54))]) C d_L_view_24 2 rfl rfl rfl ?_
      refine j_goto (tgt := 6) C d_L_view_27 rfl ?_
      refine j_sub (L' := [(0, .ref (gad G 54)), (1, .long (((31 : Int64) * v1) + (zI2l z1))), (3, .int (zI (v3 + 1)))]) [2, 1, 0] rfl ?_
      exact ih (((31 : Int64) * v1) + (zI2l z1)) (v3 + 1) g3 h
set_option maxRecDepth 100000 in
set_option maxHeartbeats 4000000 in
theorem w_L_view_L41 {X : zX} {G : zG} (C : zC X G b_L_view "GateRoadsLaw" 5 (some .long) 3 68) {σ : zM} {v3 : Int} (hσ : zRM σ) (r3 : zR v3) {Q : Int64 → Prop} {k69 : Int64 → Prop} (hk69 : ∀ (v1 : Int64), k69 v1 → zJ X G (zQl X G (fun z u => σ = u ∧ Q z)) 5 69 [(0, .ref (gad G 54)), (1, .long v1), (3, .int (zI v3))] [] σ) : ∀ (n : Nat) (v1 : Int64) (v4 : Int) (r4 : zR v4), wp_L_view_L41 σ v3 k69 Q n v1 v4 → zJ X G (zQl X G (fun z u => σ = u ∧ Q z)) 5 41 [(0, .ref (gad G 54)), (1, .long v1), (3, .int (zI v3)), (4, .int (zI v4))] [] σ := by
  intro n
  induction n with
  | zero => intro v1 v4 r4 h; exact False.elim h
  | succ n ih =>
    intro v1 v4 r4 h
    rw [wp_L_view_L41] at h
    refine j_iload C d_L_view_41 3 rfl ?_
    refine j_bipush C d_L_view_43 rfl ?_
    refine j_icmp_ge (tgt := 69) C d_L_view_45 rfl r4 (zR_of (x := 6) rfl) (fun c => ?_) (fun c => ?_)
    · have h := h.1 c
      refine j_sub (L' := [(0, .ref (gad G 54)), (1, .long v1), (3, .int (zI v3))]) [0, 1, 2] rfl ?_
      exact hk69 v1 h
    · have h := h.2 c
      refine j_ldc2 C cl_L_11 d_L_view_48 ?_
      refine j_lload_n C d_L_view_51 1 rfl rfl ?_
      refine j_lmul C d_L_view_52 ?_
      refine j_aload_n C d_L_view_53 0 rfl rfl ?_
      refine j_iload_n C d_L_view_54 2 rfl rfl ?_
      refine j_iload C d_L_view_55 3 rfl ?_
      refine j_callV C d_L_view_57 ml_L_19 mi_X_ofPlace (c_X_ofPlace (xl X) (gD G) (gad G) (gca G) (v1 := v3) (v2 := v4) hσ r3 r4 h) sh_54 rfl rfl rfl rfl rfl rfl rfl (fun z5 σ6 rz5 hσ6 h => ?_)
      obtain ⟨ez5, h⟩ := h; subst ez5
      refine j_i2l C d_L_view_60 ?_
      refine j_ladd C d_L_view_61 ?_
      refine j_lstore_n (L' := [(1, .long (((31 : Int64) * v1) + (zI2l z5))), (0, .ref (gad G 54)), (3, .int (zI v3)), (4, .int (zI v4))]) C d_L_view_62 rfl rfl rfl ?_
      obtain ⟨g7, h⟩ := h
      refine j_iinc (L' := [(4, .int (zI (v4 + 1))), (1, .long (((31 : Int64) * v1) + (zI2l z5))), (0, .ref (gad G 54)), (3, .int (zI v3))]) C d_L_view_63 3 rfl rfl rfl ?_
      refine j_goto (tgt := 41) C d_L_view_66 rfl ?_
      refine j_sub (L' := [(0, .ref (gad G 54)), (1, .long (((31 : Int64) * v1) + (zI2l z5))), (3, .int (zI v3)), (4, .int (zI (v4 + 1)))]) [2, 1, 3, 0] rfl ?_
      exact ih (((31 : Int64) * v1) + (zI2l z5)) (v4 + 1) g7 h
set_option maxRecDepth 100000 in
set_option maxHeartbeats 4000000 in
theorem w_L_view_L32 {X : zX} {G : zG} (C : zC X G b_L_view "GateRoadsLaw" 5 (some .long) 3 68) {σ : zM} (hσ : zRM σ) {Q : Int64 → Prop} {k75 : Int64 → Prop} (hk75 : ∀ (v1 : Int64), k75 v1 → zJ X G (zQl X G (fun z u => σ = u ∧ Q z)) 5 75 [(0, .ref (gad G 54)), (1, .long v1)] [] σ) : ∀ (n : Nat) (v1 : Int64) (v3 : Int) (r3 : zR v3), wp_L_view_L32 σ k75 Q n v1 v3 → zJ X G (zQl X G (fun z u => σ = u ∧ Q z)) 5 32 [(0, .ref (gad G 54)), (1, .long v1), (3, .int (zI v3))] [] σ := by
  intro n
  induction n with
  | zero => intro v1 v3 r3 h; exact False.elim h
  | succ n ih =>
    intro v1 v3 r3 h
    rw [wp_L_view_L32] at h
    refine j_iload_n C d_L_view_32 2 rfl rfl ?_
    refine j_bipush C d_L_view_33 rfl ?_
    refine j_icmp_ge (tgt := 75) C d_L_view_35 rfl r3 (zR_of (x := 8) rfl) (fun c => ?_) (fun c => ?_)
    · have h := h.1 c
      refine j_sub (L' := [(0, .ref (gad G 54)), (1, .long v1)]) [0, 1] rfl ?_
      exact hk75 v1 h
    · have h := h.2 c
      refine j_iconst C d_L_view_38 ?_
      refine j_istore (L' := [(4, .int (zI 0)), (0, .ref (gad G 54)), (1, .long v1), (3, .int (zI v3))]) C d_L_view_39 rfl rfl ?_
      obtain ⟨n10, h⟩ := h
      refine j_sub (L' := [(0, .ref (gad G 54)), (1, .long v1), (3, .int (zI v3)), (4, .int (zI 0))]) [1, 2, 3, 0] rfl ?_
      refine w_L_view_L41 C hσ r3 ?_ n10 v1 0 (zR_of (x := 0) rfl) h
      · intro u8 h
        obtain ⟨g9, h⟩ := h
        refine j_iinc (L' := [(3, .int (zI (v3 + 1))), (0, .ref (gad G 54)), (1, .long u8)]) C d_L_view_69 2 rfl rfl rfl ?_
        refine j_goto (tgt := 32) C d_L_view_72 rfl ?_
        refine j_sub (L' := [(0, .ref (gad G 54)), (1, .long u8), (3, .int (zI (v3 + 1)))]) [1, 2, 0] rfl ?_
        exact ih u8 (v3 + 1) g9 h
set_option maxRecDepth 100000 in
set_option maxHeartbeats 4000000 in
theorem w_L_view_L89 {X : zX} {G : zG} (C : zC X G b_L_view "GateRoadsLaw" 5 (some .long) 3 68) {σ : zM} {v3 : Int} (hσ : zRM σ) (r3 : zR v3) {Q : Int64 → Prop} {k117 : Int64 → Prop} (hk117 : ∀ (v1 : Int64), k117 v1 → zJ X G (zQl X G (fun z u => σ = u ∧ Q z)) 5 117 [(0, .ref (gad G 54)), (1, .long v1), (3, .int (zI v3))] [] σ) : ∀ (n : Nat) (v1 : Int64) (v4 : Int) (r4 : zR v4), wp_L_view_L89 σ v3 k117 Q n v1 v4 → zJ X G (zQl X G (fun z u => σ = u ∧ Q z)) 5 89 [(0, .ref (gad G 54)), (1, .long v1), (3, .int (zI v3)), (4, .int (zI v4))] [] σ := by
  intro n
  induction n with
  | zero => intro v1 v4 r4 h; exact False.elim h
  | succ n ih =>
    intro v1 v4 r4 h
    rw [wp_L_view_L89] at h
    refine j_iload C d_L_view_89 3 rfl ?_
    refine j_bipush C d_L_view_91 rfl ?_
    refine j_icmp_ge (tgt := 117) C d_L_view_93 rfl r4 (zR_of (x := 13) rfl) (fun c => ?_) (fun c => ?_)
    · have h := h.1 c
      refine j_sub (L' := [(0, .ref (gad G 54)), (1, .long v1), (3, .int (zI v3))]) [0, 1, 2] rfl ?_
      exact hk117 v1 h
    · have h := h.2 c
      refine j_ldc2 C cl_L_11 d_L_view_96 ?_
      refine j_lload_n C d_L_view_99 1 rfl rfl ?_
      refine j_lmul C d_L_view_100 ?_
      refine j_aload_n C d_L_view_101 0 rfl rfl ?_
      refine j_iload_n C d_L_view_102 2 rfl rfl ?_
      refine j_iload C d_L_view_103 3 rfl ?_
      refine j_callV C d_L_view_105 ml_L_23 mi_X_ofRoad (c_X_ofRoad (xl X) (gD G) (gad G) (gca G) (v1 := v3) (v2 := v4) hσ r3 r4 h) sh_54 rfl rfl rfl rfl rfl rfl rfl (fun z14 σ15 rz14 hσ15 h => ?_)
      obtain ⟨ez14, h⟩ := h; subst ez14
      refine j_i2l C d_L_view_108 ?_
      refine j_ladd C d_L_view_109 ?_
      refine j_lstore_n (L' := [(1, .long (((31 : Int64) * v1) + (zI2l z14))), (0, .ref (gad G 54)), (3, .int (zI v3)), (4, .int (zI v4))]) C d_L_view_110 rfl rfl rfl ?_
      obtain ⟨g16, h⟩ := h
      refine j_iinc (L' := [(4, .int (zI (v4 + 1))), (1, .long (((31 : Int64) * v1) + (zI2l z14))), (0, .ref (gad G 54)), (3, .int (zI v3))]) C d_L_view_111 3 rfl rfl rfl ?_
      refine j_goto (tgt := 89) C d_L_view_114 rfl ?_
      refine j_sub (L' := [(0, .ref (gad G 54)), (1, .long (((31 : Int64) * v1) + (zI2l z14))), (3, .int (zI v3)), (4, .int (zI (v4 + 1)))]) [2, 1, 3, 0] rfl ?_
      exact ih (((31 : Int64) * v1) + (zI2l z14)) (v4 + 1) g16 h
set_option maxRecDepth 100000 in
set_option maxHeartbeats 4000000 in
theorem w_L_view_L77 {X : zX} {G : zG} (C : zC X G b_L_view "GateRoadsLaw" 5 (some .long) 3 68) {σ : zM} (hσ : zRM σ) {Q : Int64 → Prop} {k123 : Int64 → Prop} (hk123 : ∀ (v1 : Int64), k123 v1 → zJ X G (zQl X G (fun z u => σ = u ∧ Q z)) 5 123 [(0, .ref (gad G 54)), (1, .long v1)] [] σ) : ∀ (n : Nat) (v1 : Int64) (v3 : Int) (r3 : zR v3), wp_L_view_L77 σ k123 Q n v1 v3 → zJ X G (zQl X G (fun z u => σ = u ∧ Q z)) 5 77 [(0, .ref (gad G 54)), (1, .long v1), (3, .int (zI v3))] [] σ := by
  intro n
  induction n with
  | zero => intro v1 v3 r3 h; exact False.elim h
  | succ n ih =>
    intro v1 v3 r3 h
    rw [wp_L_view_L77] at h
    refine j_iload_n C d_L_view_77 2 rfl rfl ?_
    refine j_aload_n C d_L_view_78 0 rfl rfl ?_
    refine j_iconst C d_L_view_79 ?_
    refine j_callV C d_L_view_80 ml_L_13 mi_X_count (c_X_count (xl X) (gD G) (gad G) (gca G) (v1 := 0) hσ (zR_of (x := 0) rfl) h) sh_54 rfl rfl rfl rfl rfl rfl rfl (fun z12 σ13 rz12 hσ13 h => ?_)
    obtain ⟨ez12, h⟩ := h; subst ez12
    refine j_icmp_ge (tgt := 123) C d_L_view_83 rfl r3 rz12 (fun c => ?_) (fun c => ?_)
    · have h := h.1 c
      refine j_sub (L' := [(0, .ref (gad G 54)), (1, .long v1)]) [0, 1] rfl ?_
      exact hk123 v1 h
    · have h := h.2 c
      refine j_iconst C d_L_view_86 ?_
      refine j_istore (L' := [(4, .int (zI 0)), (0, .ref (gad G 54)), (1, .long v1), (3, .int (zI v3))]) C d_L_view_87 rfl rfl ?_
      obtain ⟨n19, h⟩ := h
      refine j_sub (L' := [(0, .ref (gad G 54)), (1, .long v1), (3, .int (zI v3)), (4, .int (zI 0))]) [1, 2, 3, 0] rfl ?_
      refine w_L_view_L89 C hσ r3 ?_ n19 v1 0 (zR_of (x := 0) rfl) h
      · intro u17 h
        obtain ⟨g18, h⟩ := h
        refine j_iinc (L' := [(3, .int (zI (v3 + 1))), (0, .ref (gad G 54)), (1, .long u17)]) C d_L_view_117 2 rfl rfl rfl ?_
        refine j_goto (tgt := 77) C d_L_view_120 rfl ?_
        refine j_sub (L' := [(0, .ref (gad G 54)), (1, .long u17), (3, .int (zI (v3 + 1)))]) [1, 2, 0] rfl ?_
        exact ih u17 (v3 + 1) g18 h
set_option maxRecDepth 100000 in
set_option maxHeartbeats 4000000 in
theorem w_L_view_L137 {X : zX} {G : zG} (C : zC X G b_L_view "GateRoadsLaw" 5 (some .long) 3 68) {σ : zM} {v3 : Int} (hσ : zRM σ) (r3 : zR v3) {Q : Int64 → Prop} {k164 : Int64 → Prop} (hk164 : ∀ (v1 : Int64), k164 v1 → zJ X G (zQl X G (fun z u => σ = u ∧ Q z)) 5 164 [(0, .ref (gad G 54)), (1, .long v1), (3, .int (zI v3))] [] σ) : ∀ (n : Nat) (v1 : Int64) (v4 : Int) (r4 : zR v4), wp_L_view_L137 σ v3 k164 Q n v1 v4 → zJ X G (zQl X G (fun z u => σ = u ∧ Q z)) 5 137 [(0, .ref (gad G 54)), (1, .long v1), (3, .int (zI v3)), (4, .int (zI v4))] [] σ := by
  intro n
  induction n with
  | zero => intro v1 v4 r4 h; exact False.elim h
  | succ n ih =>
    intro v1 v4 r4 h
    rw [wp_L_view_L137] at h
    refine j_iload C d_L_view_137 3 rfl ?_
    refine j_iconst C d_L_view_139 ?_
    refine j_icmp_ge (tgt := 164) C d_L_view_140 rfl r4 (zR_of (x := 3) rfl) (fun c => ?_) (fun c => ?_)
    · have h := h.1 c
      refine j_sub (L' := [(0, .ref (gad G 54)), (1, .long v1), (3, .int (zI v3))]) [0, 1, 2] rfl ?_
      exact hk164 v1 h
    · have h := h.2 c
      refine j_ldc2 C cl_L_11 d_L_view_143 ?_
      refine j_lload_n C d_L_view_146 1 rfl rfl ?_
      refine j_lmul C d_L_view_147 ?_
      refine j_aload_n C d_L_view_148 0 rfl rfl ?_
      refine j_iload_n C d_L_view_149 2 rfl rfl ?_
      refine j_iload C d_L_view_150 3 rfl ?_
      refine j_callV C d_L_view_152 ml_L_26 mi_X_ofClosure (c_X_ofClosure (xl X) (gD G) (gad G) (gca G) (v1 := v3) (v2 := v4) hσ r3 r4 h) sh_54 rfl rfl rfl rfl rfl rfl rfl (fun z23 σ24 rz23 hσ24 h => ?_)
      obtain ⟨ez23, h⟩ := h; subst ez23
      refine j_i2l C d_L_view_155 ?_
      refine j_ladd C d_L_view_156 ?_
      refine j_lstore_n (L' := [(1, .long (((31 : Int64) * v1) + (zI2l z23))), (0, .ref (gad G 54)), (3, .int (zI v3)), (4, .int (zI v4))]) C d_L_view_157 rfl rfl rfl ?_
      obtain ⟨g25, h⟩ := h
      refine j_iinc (L' := [(4, .int (zI (v4 + 1))), (1, .long (((31 : Int64) * v1) + (zI2l z23))), (0, .ref (gad G 54)), (3, .int (zI v3))]) C d_L_view_158 3 rfl rfl rfl ?_
      refine j_goto (tgt := 137) C d_L_view_161 rfl ?_
      refine j_sub (L' := [(0, .ref (gad G 54)), (1, .long (((31 : Int64) * v1) + (zI2l z23))), (3, .int (zI v3)), (4, .int (zI (v4 + 1)))]) [2, 1, 3, 0] rfl ?_
      exact ih (((31 : Int64) * v1) + (zI2l z23)) (v4 + 1) g25 h
set_option maxRecDepth 100000 in
set_option maxHeartbeats 4000000 in
theorem w_L_view_L125 {X : zX} {G : zG} (C : zC X G b_L_view "GateRoadsLaw" 5 (some .long) 3 68) {σ : zM} (hσ : zRM σ) {Q : Int64 → Prop} {k170 : Int64 → Prop} (hk170 : ∀ (v1 : Int64), k170 v1 → zJ X G (zQl X G (fun z u => σ = u ∧ Q z)) 5 170 [(0, .ref (gad G 54)), (1, .long v1)] [] σ) : ∀ (n : Nat) (v1 : Int64) (v3 : Int) (r3 : zR v3), wp_L_view_L125 σ k170 Q n v1 v3 → zJ X G (zQl X G (fun z u => σ = u ∧ Q z)) 5 125 [(0, .ref (gad G 54)), (1, .long v1), (3, .int (zI v3))] [] σ := by
  intro n
  induction n with
  | zero => intro v1 v3 r3 h; exact False.elim h
  | succ n ih =>
    intro v1 v3 r3 h
    rw [wp_L_view_L125] at h
    refine j_iload_n C d_L_view_125 2 rfl rfl ?_
    refine j_aload_n C d_L_view_126 0 rfl rfl ?_
    refine j_iconst C d_L_view_127 ?_
    refine j_callV C d_L_view_128 ml_L_13 mi_X_count (c_X_count (xl X) (gD G) (gad G) (gca G) (v1 := 1) hσ (zR_of (x := 1) rfl) h) sh_54 rfl rfl rfl rfl rfl rfl rfl (fun z21 σ22 rz21 hσ22 h => ?_)
    obtain ⟨ez21, h⟩ := h; subst ez21
    refine j_icmp_ge (tgt := 170) C d_L_view_131 rfl r3 rz21 (fun c => ?_) (fun c => ?_)
    · have h := h.1 c
      refine j_sub (L' := [(0, .ref (gad G 54)), (1, .long v1)]) [0, 1] rfl ?_
      exact hk170 v1 h
    · have h := h.2 c
      refine j_iconst C d_L_view_134 ?_
      refine j_istore (L' := [(4, .int (zI 0)), (0, .ref (gad G 54)), (1, .long v1), (3, .int (zI v3))]) C d_L_view_135 rfl rfl ?_
      obtain ⟨n28, h⟩ := h
      refine j_sub (L' := [(0, .ref (gad G 54)), (1, .long v1), (3, .int (zI v3)), (4, .int (zI 0))]) [1, 2, 3, 0] rfl ?_
      refine w_L_view_L137 C hσ r3 ?_ n28 v1 0 (zR_of (x := 0) rfl) h
      · intro u26 h
        obtain ⟨g27, h⟩ := h
        refine j_iinc (L' := [(3, .int (zI (v3 + 1))), (0, .ref (gad G 54)), (1, .long u26)]) C d_L_view_164 2 rfl rfl rfl ?_
        refine j_goto (tgt := 125) C d_L_view_167 rfl ?_
        refine j_sub (L' := [(0, .ref (gad G 54)), (1, .long u26), (3, .int (zI (v3 + 1)))]) [1, 2, 0] rfl ?_
        exact ih u26 (v3 + 1) g27 h
set_option maxRecDepth 100000 in
set_option maxHeartbeats 4000000 in
theorem w_L_view_L184 {X : zX} {G : zG} (C : zC X G b_L_view "GateRoadsLaw" 5 (some .long) 3 68) {σ : zM} {v3 : Int} (hσ : zRM σ) (r3 : zR v3) {Q : Int64 → Prop} {k212 : Int64 → Prop} (hk212 : ∀ (v1 : Int64), k212 v1 → zJ X G (zQl X G (fun z u => σ = u ∧ Q z)) 5 212 [(0, .ref (gad G 54)), (1, .long v1), (3, .int (zI v3))] [] σ) : ∀ (n : Nat) (v1 : Int64) (v4 : Int) (r4 : zR v4), wp_L_view_L184 σ v3 k212 Q n v1 v4 → zJ X G (zQl X G (fun z u => σ = u ∧ Q z)) 5 184 [(0, .ref (gad G 54)), (1, .long v1), (3, .int (zI v3)), (4, .int (zI v4))] [] σ := by
  intro n
  induction n with
  | zero => intro v1 v4 r4 h; exact False.elim h
  | succ n ih =>
    intro v1 v4 r4 h
    rw [wp_L_view_L184] at h
    refine j_iload C d_L_view_184 3 rfl ?_
    refine j_bipush C d_L_view_186 rfl ?_
    refine j_icmp_ge (tgt := 212) C d_L_view_188 rfl r4 (zR_of (x := 8) rfl) (fun c => ?_) (fun c => ?_)
    · have h := h.1 c
      refine j_sub (L' := [(0, .ref (gad G 54)), (1, .long v1), (3, .int (zI v3))]) [0, 1, 2] rfl ?_
      exact hk212 v1 h
    · have h := h.2 c
      refine j_ldc2 C cl_L_11 d_L_view_191 ?_
      refine j_lload_n C d_L_view_194 1 rfl rfl ?_
      refine j_lmul C d_L_view_195 ?_
      refine j_aload_n C d_L_view_196 0 rfl rfl ?_
      refine j_iload_n C d_L_view_197 2 rfl rfl ?_
      refine j_iload C d_L_view_198 3 rfl ?_
      refine j_callV C d_L_view_200 ml_L_29 mi_X_ofTraveller (c_X_ofTraveller (xl X) (gD G) (gad G) (gca G) (v1 := v3) (v2 := v4) hσ r3 r4 h) sh_54 rfl rfl rfl rfl rfl rfl rfl (fun z32 σ33 rz32 hσ33 h => ?_)
      obtain ⟨ez32, h⟩ := h; subst ez32
      refine j_i2l C d_L_view_203 ?_
      refine j_ladd C d_L_view_204 ?_
      refine j_lstore_n (L' := [(1, .long (((31 : Int64) * v1) + (zI2l z32))), (0, .ref (gad G 54)), (3, .int (zI v3)), (4, .int (zI v4))]) C d_L_view_205 rfl rfl rfl ?_
      obtain ⟨g34, h⟩ := h
      refine j_iinc (L' := [(4, .int (zI (v4 + 1))), (1, .long (((31 : Int64) * v1) + (zI2l z32))), (0, .ref (gad G 54)), (3, .int (zI v3))]) C d_L_view_206 3 rfl rfl rfl ?_
      refine j_goto (tgt := 184) C d_L_view_209 rfl ?_
      refine j_sub (L' := [(0, .ref (gad G 54)), (1, .long (((31 : Int64) * v1) + (zI2l z32))), (3, .int (zI v3)), (4, .int (zI (v4 + 1)))]) [2, 1, 3, 0] rfl ?_
      exact ih (((31 : Int64) * v1) + (zI2l z32)) (v4 + 1) g34 h
set_option maxRecDepth 100000 in
set_option maxHeartbeats 4000000 in
theorem w_L_view_L172 {X : zX} {G : zG} (C : zC X G b_L_view "GateRoadsLaw" 5 (some .long) 3 68) {σ : zM} (hσ : zRM σ) {Q : Int64 → Prop} : ∀ (n : Nat) (v1 : Int64) (v3 : Int) (r3 : zR v3), wp_L_view_L172 σ Q n v1 v3 → zJ X G (zQl X G (fun z u => σ = u ∧ Q z)) 5 172 [(0, .ref (gad G 54)), (1, .long v1), (3, .int (zI v3))] [] σ := by
  intro n
  induction n with
  | zero => intro v1 v3 r3 h; exact False.elim h
  | succ n ih =>
    intro v1 v3 r3 h
    rw [wp_L_view_L172] at h
    refine j_iload_n C d_L_view_172 2 rfl rfl ?_
    refine j_aload_n C d_L_view_173 0 rfl rfl ?_
    refine j_iconst C d_L_view_174 ?_
    refine j_callV C d_L_view_175 ml_L_13 mi_X_count (c_X_count (xl X) (gD G) (gad G) (gca G) (v1 := 2) hσ (zR_of (x := 2) rfl) h) sh_54 rfl rfl rfl rfl rfl rfl rfl (fun z30 σ31 rz30 hσ31 h => ?_)
    obtain ⟨ez30, h⟩ := h; subst ez30
    refine j_icmp_ge (tgt := 218) C d_L_view_178 rfl r3 rz30 (fun c => ?_) (fun c => ?_)
    · have h := h.1 c
      refine j_lload_n C d_L_view_218 1 rfl rfl ?_
      exact j_lreturn C d_L_view_219 hσ ⟨rfl, h⟩
    · have h := h.2 c
      refine j_iconst C d_L_view_181 ?_
      refine j_istore (L' := [(4, .int (zI 0)), (0, .ref (gad G 54)), (1, .long v1), (3, .int (zI v3))]) C d_L_view_182 rfl rfl ?_
      obtain ⟨n37, h⟩ := h
      refine j_sub (L' := [(0, .ref (gad G 54)), (1, .long v1), (3, .int (zI v3)), (4, .int (zI 0))]) [1, 2, 3, 0] rfl ?_
      refine w_L_view_L184 C hσ r3 ?_ n37 v1 0 (zR_of (x := 0) rfl) h
      · intro u35 h
        obtain ⟨g36, h⟩ := h
        refine j_iinc (L' := [(3, .int (zI (v3 + 1))), (0, .ref (gad G 54)), (1, .long u35)]) C d_L_view_212 2 rfl rfl rfl ?_
        refine j_goto (tgt := 172) C d_L_view_215 rfl ?_
        refine j_sub (L' := [(0, .ref (gad G 54)), (1, .long u35), (3, .int (zI (v3 + 1)))]) [1, 2, 0] rfl ?_
        exact ih u35 (v3 + 1) g36 h
set_option maxRecDepth 100000 in
set_option maxHeartbeats 4000000 in
theorem c_L_view (l : Launch) (D : va_G) (ad : Nat → Nat) (ca : Nat → ClassId) {σ : zM} {Q : Int64 → Prop} (hσ : zRM σ) (h : wp_L_view σ Q) : zCl_ l D ad ca y_L_view b_L_view 5 (some .long) (zrm 3 68) [.ref (ad 54)] σ (fun z u => σ = u ∧ Q z) := by
  refine zCl_of (by decide +kernel) (Nat.le_of_ble_eq_true rfl) ?_
  intro X G C hl hD had hca
  subst hl hD had hca
  have C : zC X G b_L_view "GateRoadsLaw" 5 (some .long) 3 68 := C
  show zJ X G (zQl X G (fun z u => σ = u ∧ Q z)) 5 0 [(0, .ref (gad G 54))] [] σ
  unfold wp_L_view at h
  refine j_ldc2 C cl_L_9 d_L_view_0 ?_
  refine j_lstore_n (L' := [(1, .long (7 : Int64)), (0, .ref (gad G 54))]) C d_L_view_3 rfl rfl rfl ?_
  refine j_iconst C d_L_view_4 ?_
  refine j_istore_n (L' := [(3, .int (zI 0)), (1, .long (7 : Int64)), (0, .ref (gad G 54))]) C d_L_view_5 rfl rfl rfl ?_
  obtain ⟨n42, h⟩ := h
  refine j_sub (L' := [(0, .ref (gad G 54)), (1, .long (7 : Int64)), (3, .int (zI 0))]) [2, 1, 0] rfl ?_
  refine w_L_view_L6 C hσ ?_ n42 (7 : Int64) 0 (zR_of (x := 0) rfl) h
  · intro u4 h
    refine j_iconst C d_L_view_30 ?_
    refine j_istore_n (L' := [(3, .int (zI 0)), (0, .ref (gad G 54)), (1, .long u4)]) C d_L_view_31 rfl rfl rfl ?_
    obtain ⟨n41, h⟩ := h
    refine j_sub (L' := [(0, .ref (gad G 54)), (1, .long u4), (3, .int (zI 0))]) [1, 2, 0] rfl ?_
    refine w_L_view_L32 C hσ ?_ n41 u4 0 (zR_of (x := 0) rfl) h
    · intro u11 h
      refine j_iconst C d_L_view_75 ?_
      refine j_istore_n (L' := [(3, .int (zI 0)), (0, .ref (gad G 54)), (1, .long u11)]) C d_L_view_76 rfl rfl rfl ?_
      obtain ⟨n40, h⟩ := h
      refine j_sub (L' := [(0, .ref (gad G 54)), (1, .long u11), (3, .int (zI 0))]) [1, 2, 0] rfl ?_
      refine w_L_view_L77 C hσ ?_ n40 u11 0 (zR_of (x := 0) rfl) h
      · intro u20 h
        refine j_iconst C d_L_view_123 ?_
        refine j_istore_n (L' := [(3, .int (zI 0)), (0, .ref (gad G 54)), (1, .long u20)]) C d_L_view_124 rfl rfl rfl ?_
        obtain ⟨n39, h⟩ := h
        refine j_sub (L' := [(0, .ref (gad G 54)), (1, .long u20), (3, .int (zI 0))]) [1, 2, 0] rfl ?_
        refine w_L_view_L125 C hσ ?_ n39 u20 0 (zR_of (x := 0) rfl) h
        · intro u29 h
          refine j_iconst C d_L_view_170 ?_
          refine j_istore_n (L' := [(3, .int (zI 0)), (0, .ref (gad G 54)), (1, .long u29)]) C d_L_view_171 rfl rfl rfl ?_
          obtain ⟨n38, h⟩ := h
          refine j_sub (L' := [(0, .ref (gad G 54)), (1, .long u29), (3, .int (zI 0))]) [1, 2, 0] rfl ?_
          refine w_L_view_L172 C hσ n38 u29 0 (zR_of (x := 0) rfl) h
set_option maxRecDepth 100000 in
set_option maxHeartbeats 4000000 in
theorem c_L_any (l : Launch) (D : va_G) (ad : Nat → Nat) (ca : Nat → ClassId) {σ : zM} {v1 : Int} {v2 : Int} {Q : Int → zM → Prop} (hσ : zRM σ) (r1 : zR v1) (r2 : zR v2) (h : wp_L_any σ v1 v2 Q) : zCi l D ad ca y_L_any b_L_any 3 (some .int) (zrm 5 117) [.ref (ad 54), .int (zI v1), .int (zI v2)] σ Q := by
  refine zCi_of (by decide +kernel) (Nat.le_of_ble_eq_true rfl) ?_
  intro X G C hl hD had hca
  subst hl hD had hca
  have C : zC X G b_L_any "GateRoadsLaw" 3 (some .int) 5 117 := C
  show zJ X G (zQi X G Q) 3 0 [(0, .ref (gad G 54)), (1, .int (zI v1)), (2, .int (zI v2))] [] σ
  unfold wp_L_any at h
  refine j_iload_n C d_L_any_0 2 rfl rfl ?_
  refine j_bipush C d_L_any_1 rfl ?_
  refine j_iand C d_L_any_3 ?_
  have hc : (zAnd v2 7) = 0 ∨ (zAnd v2 7) = 1 ∨ (zAnd v2 7) = 2 ∨ (zAnd v2 7) = 3 ∨ (zAnd v2 7) = 4 ∨ (zAnd v2 7) = 5 ∨ (zAnd v2 7) = 6 ∨ ((zAnd v2 7) < 0 ∨ 6 < (zAnd v2 7)) := by omega
  rcases hc with c | c | c | c | c | c | c | c
  · have h := h.1 c
    refine j_tableIn (tgt := 48) C d_L_any_4 (zAnd_rg _ _) 0 c rfl rfl rfl ?_
    refine j_aload_n C d_L_any_48 0 rfl rfl ?_
    refine j_iload_n C d_L_any_49 1 rfl rfl ?_
    refine j_iload_n C d_L_any_50 2 rfl rfl ?_
    refine j_iload_n C d_L_any_51 1 rfl rfl ?_
    refine j_iload_n C d_L_any_52 2 rfl rfl ?_
    refine j_callV C d_L_any_53 ml_L_32 mi_X_room (c_X_room (xl X) (gD G) (gad G) (gca G) (v1 := v1) (v2 := v2) (v3 := v1) (v4 := v2) hσ r1 r2 r1 r2 h) sh_54 rfl rfl rfl rfl rfl rfl rfl (fun z1 σ2 rz1 hσ2 h => ?_)
    exact j_ireturn C d_L_any_56 rz1 hσ2 h
  · have h := h.2.1 c
    refine j_tableIn (tgt := 57) C d_L_any_4 (zAnd_rg _ _) 1 c rfl rfl rfl ?_
    refine j_aload_n C d_L_any_57 0 rfl rfl ?_
    refine j_iload_n C d_L_any_58 1 rfl rfl ?_
    refine j_iload_n C d_L_any_59 2 rfl rfl ?_
    refine j_iload_n C d_L_any_60 1 rfl rfl ?_
    refine j_callV C d_L_any_61 ml_L_36 mi_X_road (c_X_road (xl X) (gD G) (gad G) (gca G) (v1 := v1) (v2 := v2) (v3 := v1) hσ r1 r2 r1 h) sh_54 rfl rfl rfl rfl rfl rfl rfl (fun z3 σ4 rz3 hσ4 h => ?_)
    exact j_ireturn C d_L_any_64 rz3 hσ4 h
  · have h := h.2.2.1 c
    refine j_tableIn (tgt := 65) C d_L_any_4 (zAnd_rg _ _) 2 c rfl rfl rfl ?_
    refine j_aload_n C d_L_any_65 0 rfl rfl ?_
    refine j_iload_n C d_L_any_66 1 rfl rfl ?_
    refine j_iload_n C d_L_any_67 2 rfl rfl ?_
    refine j_iload_n C d_L_any_68 1 rfl rfl ?_
    refine j_iload_n C d_L_any_69 2 rfl rfl ?_
    refine j_callV C d_L_any_70 ml_L_40 mi_X_open (c_X_open (xl X) (gD G) (gad G) (gca G) (v1 := v1) (v2 := v2) (v3 := v1) (v4 := v2) hσ r1 r2 r1 r2 h) sh_54 rfl rfl rfl rfl rfl rfl rfl (fun z5 σ6 rz5 hσ6 h => ?_)
    exact j_ireturn C d_L_any_73 rz5 hσ6 h
  · have h := h.2.2.2.1 c
    refine j_tableIn (tgt := 74) C d_L_any_4 (zAnd_rg _ _) 3 c rfl rfl rfl ?_
    refine j_aload_n C d_L_any_74 0 rfl rfl ?_
    refine j_iload_n C d_L_any_75 1 rfl rfl ?_
    refine j_iload_n C d_L_any_76 2 rfl rfl ?_
    refine j_iload_n C d_L_any_77 1 rfl rfl ?_
    refine j_callV C d_L_any_78 ml_L_43 mi_X_more (c_X_more (xl X) (gD G) (gad G) (gca G) (v1 := v1) (v2 := v2) (v3 := v1) hσ r1 r2 r1 h) sh_54 rfl rfl rfl rfl rfl rfl rfl (fun z7 σ8 rz7 hσ8 h => ?_)
    exact j_ireturn C d_L_any_81 rz7 hσ8 h
  · have h := h.2.2.2.2.1 c
    refine j_tableIn (tgt := 82) C d_L_any_4 (zAnd_rg _ _) 4 c rfl rfl rfl ?_
    refine j_aload_n C d_L_any_82 0 rfl rfl ?_
    refine j_iload_n C d_L_any_83 1 rfl rfl ?_
    refine j_iload_n C d_L_any_84 2 rfl rfl ?_
    refine j_iload_n C d_L_any_85 1 rfl rfl ?_
    refine j_callV C d_L_any_86 ml_L_46 mi_X_close (c_X_close (xl X) (gD G) (gad G) (gca G) (v1 := v1) (v2 := v2) (v3 := v1) hσ r1 r2 r1 h) sh_54 rfl rfl rfl rfl rfl rfl rfl (fun z9 σ10 rz9 hσ10 h => ?_)
    exact j_ireturn C d_L_any_89 rz9 hσ10 h
  · have h := h.2.2.2.2.2.1 c
    refine j_tableIn (tgt := 90) C d_L_any_4 (zAnd_rg _ _) 5 c rfl rfl rfl ?_
    refine j_aload_n C d_L_any_90 0 rfl rfl ?_
    refine j_iload_n C d_L_any_91 1 rfl rfl ?_
    refine j_callV C d_L_any_92 ml_L_49 mi_X_lift (c_X_lift (xl X) (gD G) (gad G) (gca G) (v1 := v1) hσ r1 h) sh_54 rfl rfl rfl rfl rfl rfl rfl (fun z11 σ12 rz11 hσ12 h => ?_)
    exact j_ireturn C d_L_any_95 rz11 hσ12 h
  · have h := h.2.2.2.2.2.2.1 c
    refine j_tableIn (tgt := 96) C d_L_any_4 (zAnd_rg _ _) 6 c rfl rfl rfl ?_
    refine j_aload_n C d_L_any_96 0 rfl rfl ?_
    refine j_iload_n C d_L_any_97 1 rfl rfl ?_
    refine j_iload_n C d_L_any_98 2 rfl rfl ?_
    refine j_callV C d_L_any_99 ml_L_52 mi_X_traveller (c_X_traveller (xl X) (gD G) (gad G) (gca G) (v1 := v1) (v2 := v2) hσ r1 r2 h) sh_54 rfl rfl rfl rfl rfl rfl rfl (fun z13 σ14 rz13 hσ14 h => ?_)
    exact j_ireturn C d_L_any_102 rz13 hσ14 h
  · have h := h.2.2.2.2.2.2.2 c
    refine j_tableOut (tgt := 103) C d_L_any_4 (zAnd_rg _ _) c rfl ?_
    refine j_aload_n C d_L_any_103 0 rfl rfl ?_
    refine j_iload_n C d_L_any_104 1 rfl rfl ?_
    refine j_iload_n C d_L_any_105 2 rfl rfl ?_
    refine j_callV C d_L_any_106 ml_L_55 mi_X_stay (c_X_stay (xl X) (gD G) (gad G) (gca G) (v1 := v1) (v2 := v2) hσ r1 r2 h) sh_54 rfl rfl rfl rfl rfl rfl rfl (fun z15 σ16 rz15 hσ16 h => ?_)
    exact j_ireturn C d_L_any_109 rz15 hσ16 h
set_option maxRecDepth 100000 in
set_option maxHeartbeats 4000000 in
theorem w_L_turn_b282 {X : zX} {G : zG} (C : zC X G b_L_turn "GateRoadsLaw" 6 (some .int) 6 139) {Q : Int → zM → Prop} (σ : zM) (s1 : Int) (s2 : Int) (s3 : Int) (s4 : Int) (hσ : zRM σ) (rs1 : zR s1) (rs2 : zR s2) (rs3 : zR s3) (rs4 : zR s4) (h : wp_L_turn_b282 Q σ s1 s2 s3 s4) : zJ X G (zQi X G Q) 6 282 [] [.int (zI s4), .int (zI s3), .int (zI s2), .int (zI s1), .ref (gad G 54)] σ := by
  unfold wp_L_turn_b282 at h
  refine j_callS C d_L_turn_282 ml_L_58 ms_L_up (c_L_up (xl X) (gD G) (gad G) (gca G) (v0 := s3) (v1 := s4) hσ rs3 rs4 h) rfl rfl rfl rfl rfl (fun z79 σ80 rz79 hσ80 h => ?_)
  obtain ⟨ez79, h⟩ := h; subst ez79
  refine j_iadd C d_L_turn_285 ?_
  obtain ⟨g81, h⟩ := h
  refine j_callV C d_L_turn_286 ml_L_55 mi_X_stay (c_X_stay (xl X) (gD G) (gad G) (gca G) (v1 := s1) (v2 := s2 + z79) hσ rs1 g81 h) sh_54 rfl rfl rfl rfl rfl rfl rfl (fun z82 σ83 rz82 hσ83 h => ?_)
  exact j_ireturn C d_L_turn_289 rz82 hσ83 h
set_option maxRecDepth 100000 in
set_option maxHeartbeats 4000000 in
theorem c_L_turn (l : Launch) (D : va_G) (ad : Nat → Nat) (ca : Nat → ClassId) {σ : zM} {v1 : Int} {v2 : Int} {v3 : Int} {Q : Int → zM → Prop} (hσ : zRM σ) (r1 : zR v1) (r2 : zR v2) (r3 : zR v3) (h : wp_L_turn σ v1 v2 v3 Q) : zCi l D ad ca y_L_turn b_L_turn 6 (some .int) (zrm 6 139) [.ref (ad 54), .int (zI v1), .int (zI v2), .int (zI v3)] σ Q := by
  refine zCi_of (by decide +kernel) (Nat.le_of_ble_eq_true rfl) ?_
  intro X G C hl hD had hca
  subst hl hD had hca
  have C : zC X G b_L_turn "GateRoadsLaw" 6 (some .int) 6 139 := C
  show zJ X G (zQi X G Q) 6 0 [(0, .ref (gad G 54)), (1, .int (zI v1)), (2, .int (zI v2)), (3, .int (zI v3))] [] σ
  unfold wp_L_turn at h
  refine j_iload_n C d_L_turn_0 2 rfl rfl ?_
  refine j_bipush C d_L_turn_1 rfl ?_
  refine j_ishr C d_L_turn_3 ?_
  refine j_sipush C d_L_turn_4 rfl ?_
  refine j_callS C d_L_turn_7 ml_L_58 ms_L_up (c_L_up (xl X) (gD G) (gad G) (gca G) (v0 := zShr v2 8) (v1 := 1400) hσ (zShr_rg _ _) (zR_of (x := 1400) rfl) h) rfl rfl rfl rfl rfl (fun z1 σ2 rz1 hσ2 h => ?_)
  obtain ⟨ez1, h⟩ := h; subst ez1
  refine j_istore (L' := [(4, .int (zI z1)), (0, .ref (gad G 54)), (1, .int (zI v1)), (2, .int (zI v2)), (3, .int (zI v3))]) C d_L_turn_10 rfl rfl ?_
  refine j_iload C d_L_turn_12 0 rfl ?_
  refine j_iconst C d_L_turn_14 ?_
  refine j_iadd C d_L_turn_15 ?_
  refine j_iload_n C d_L_turn_16 4 rfl rfl ?_
  refine j_sipush C d_L_turn_17 rfl ?_
  refine j_iload C d_L_turn_20 0 rfl ?_
  refine j_isub C d_L_turn_22 ?_
  obtain ⟨g3, h⟩ := h
  refine j_callS C d_L_turn_23 ml_L_58 ms_L_up (c_L_up (xl X) (gD G) (gad G) (gca G) (v0 := v3) (v1 := 1440 - z1) hσ r3 g3 h) rfl rfl rfl rfl rfl (fun z4 σ5 rz4 hσ5 h => ?_)
  obtain ⟨ez4, h⟩ := h; subst ez4
  refine j_iadd C d_L_turn_26 ?_
  obtain ⟨g6, h⟩ := h
  refine j_istore (L' := [(5, .int (zI ((z1 + 1) + z4))), (4, .int (zI z1)), (0, .ref (gad G 54)), (1, .int (zI v1)), (2, .int (zI v2)), (3, .int (zI v3))]) C d_L_turn_27 rfl rfl ?_
  refine j_iload_n C d_L_turn_29 3 rfl rfl ?_
  have hc : v1 = 0 ∨ v1 = 1 ∨ v1 = 2 ∨ v1 = 3 ∨ v1 = 4 ∨ v1 = 5 ∨ v1 = 6 ∨ v1 = 7 ∨ v1 = 8 ∨ v1 = 9 ∨ v1 = 10 ∨ v1 = 11 ∨ v1 = 12 ∨ v1 = 13 ∨ (v1 < 0 ∨ 13 < v1) := by omega
  rcases hc with c | c | c | c | c | c | c | c | c | c | c | c | c | c | c
  · have h := h.1 c
    refine j_tableIn (tgt := 100) C d_L_turn_30 r1 0 c rfl rfl rfl ?_
    refine j_aload_n C d_L_turn_100 2 rfl rfl ?_
    refine j_iload_n C d_L_turn_101 4 rfl rfl ?_
    refine j_bipush C d_L_turn_102 rfl ?_
    refine j_callS C d_L_turn_104 ml_L_58 ms_L_up (c_L_up (xl X) (gD G) (gad G) (gca G) (v0 := v2) (v1 := 9) hσ r2 (zR_of (x := 9) rfl) h) rfl rfl rfl rfl rfl (fun z7 σ8 rz7 hσ8 h => ?_)
    obtain ⟨ez7, h⟩ := h; subst ez7
    refine j_iload C d_L_turn_107 1 rfl ?_
    refine j_iload C d_L_turn_109 0 rfl ?_
    refine j_iload_n C d_L_turn_111 5 rfl rfl ?_
    refine j_bipush C d_L_turn_112 rfl ?_
    refine j_ishr C d_L_turn_114 ?_
    refine j_iconst C d_L_turn_115 ?_
    refine j_callS C d_L_turn_116 ml_L_58 ms_L_up (c_L_up (xl X) (gD G) (gad G) (gca G) (v0 := zShr v3 12) (v1 := 4) hσ (zShr_rg _ _) (zR_of (x := 4) rfl) h) rfl rfl rfl rfl rfl (fun z9 σ10 rz9 hσ10 h => ?_)
    obtain ⟨ez9, h⟩ := h; subst ez9
    refine j_if_ne (tgt := 131) C d_L_turn_119 rfl rz9 (fun c => ?_) (fun c => ?_)
    · have h := h.1 c
      refine j_sipush C d_L_turn_131 rfl ?_
      refine j_callV C d_L_turn_134 ml_L_32 mi_X_room (c_X_room (xl X) (gD G) (gad G) (gca G) (v1 := z7) (v2 := z1) (v3 := (z1 + 1) + z4) (v4 := 1000) hσ rz7 rz1 g6 (zR_of (x := 1000) rfl) h) sh_54 rfl rfl rfl rfl rfl rfl rfl (fun z11 σ12 rz11 hσ12 h => ?_)
      exact j_ireturn C d_L_turn_137 rz11 hσ12 h
    · have h := h.2 c
      refine j_iload_n C d_L_turn_122 5 rfl rfl ?_
      refine j_bipush C d_L_turn_123 rfl ?_
      refine j_callS C d_L_turn_125 ml_L_58 ms_L_up (c_L_up (xl X) (gD G) (gad G) (gca G) (v0 := v3) (v1 := 30) hσ r3 (zR_of (x := 30) rfl) h) rfl rfl rfl rfl rfl (fun z13 σ14 rz13 hσ14 h => ?_)
      obtain ⟨ez13, h⟩ := h; subst ez13
      refine j_goto (tgt := 134) C d_L_turn_128 rfl ?_
      refine j_callV C d_L_turn_134 ml_L_32 mi_X_room (c_X_room (xl X) (gD G) (gad G) (gca G) (v1 := z7) (v2 := z1) (v3 := (z1 + 1) + z4) (v4 := z13) hσ rz7 rz1 g6 rz13 h) sh_54 rfl rfl rfl rfl rfl rfl rfl (fun z15 σ16 rz15 hσ16 h => ?_)
      exact j_ireturn C d_L_turn_137 rz15 hσ16 h
  · have h := h.2.1 c
    refine j_tableIn (tgt := 138) C d_L_turn_30 r1 1 c rfl rfl rfl ?_
    refine j_aload_n C d_L_turn_138 2 rfl rfl ?_
    refine j_iload_n C d_L_turn_139 4 rfl rfl ?_
    refine j_iconst C d_L_turn_140 ?_
    refine j_callS C d_L_turn_141 ml_L_58 ms_L_up (c_L_up (xl X) (gD G) (gad G) (gca G) (v0 := v2) (v1 := 5) hσ r2 (zR_of (x := 5) rfl) h) rfl rfl rfl rfl rfl (fun z17 σ18 rz17 hσ18 h => ?_)
    obtain ⟨ez17, h⟩ := h; subst ez17
    refine j_iload_n C d_L_turn_144 4 rfl rfl ?_
    refine j_iconst C d_L_turn_145 ?_
    refine j_ishr C d_L_turn_146 ?_
    refine j_iconst C d_L_turn_147 ?_
    refine j_callS C d_L_turn_148 ml_L_58 ms_L_up (c_L_up (xl X) (gD G) (gad G) (gca G) (v0 := zShr v2 4) (v1 := 5) hσ (zShr_rg _ _) (zR_of (x := 5) rfl) h) rfl rfl rfl rfl rfl (fun z19 σ20 rz19 hσ20 h => ?_)
    obtain ⟨ez19, h⟩ := h; subst ez19
    refine j_iconst C d_L_turn_151 ?_
    refine j_iload_n C d_L_turn_152 5 rfl rfl ?_
    refine j_sipush C d_L_turn_153 rfl ?_
    refine j_callS C d_L_turn_156 ml_L_58 ms_L_up (c_L_up (xl X) (gD G) (gad G) (gca G) (v0 := v3) (v1 := 400) hσ r3 (zR_of (x := 400) rfl) h) rfl rfl rfl rfl rfl (fun z21 σ22 rz21 hσ22 h => ?_)
    obtain ⟨ez21, h⟩ := h; subst ez21
    refine j_iadd C d_L_turn_159 ?_
    obtain ⟨g23, h⟩ := h
    refine j_callV C d_L_turn_160 ml_L_36 mi_X_road (c_X_road (xl X) (gD G) (gad G) (gca G) (v1 := z17) (v2 := z19) (v3 := 1 + z21) hσ rz17 rz19 g23 h) sh_54 rfl rfl rfl rfl rfl rfl rfl (fun z24 σ25 rz24 hσ25 h => ?_)
    exact j_ireturn C d_L_turn_163 rz24 hσ25 h
  · have h := h.2.2.1 c
    refine j_tableIn (tgt := 138) C d_L_turn_30 r1 2 c rfl rfl rfl ?_
    refine j_aload_n C d_L_turn_138 2 rfl rfl ?_
    refine j_iload_n C d_L_turn_139 4 rfl rfl ?_
    refine j_iconst C d_L_turn_140 ?_
    refine j_callS C d_L_turn_141 ml_L_58 ms_L_up (c_L_up (xl X) (gD G) (gad G) (gca G) (v0 := v2) (v1 := 5) hσ r2 (zR_of (x := 5) rfl) h) rfl rfl rfl rfl rfl (fun z26 σ27 rz26 hσ27 h => ?_)
    obtain ⟨ez26, h⟩ := h; subst ez26
    refine j_iload_n C d_L_turn_144 4 rfl rfl ?_
    refine j_iconst C d_L_turn_145 ?_
    refine j_ishr C d_L_turn_146 ?_
    refine j_iconst C d_L_turn_147 ?_
    refine j_callS C d_L_turn_148 ml_L_58 ms_L_up (c_L_up (xl X) (gD G) (gad G) (gca G) (v0 := zShr v2 4) (v1 := 5) hσ (zShr_rg _ _) (zR_of (x := 5) rfl) h) rfl rfl rfl rfl rfl (fun z28 σ29 rz28 hσ29 h => ?_)
    obtain ⟨ez28, h⟩ := h; subst ez28
    refine j_iconst C d_L_turn_151 ?_
    refine j_iload_n C d_L_turn_152 5 rfl rfl ?_
    refine j_sipush C d_L_turn_153 rfl ?_
    refine j_callS C d_L_turn_156 ml_L_58 ms_L_up (c_L_up (xl X) (gD G) (gad G) (gca G) (v0 := v3) (v1 := 400) hσ r3 (zR_of (x := 400) rfl) h) rfl rfl rfl rfl rfl (fun z30 σ31 rz30 hσ31 h => ?_)
    obtain ⟨ez30, h⟩ := h; subst ez30
    refine j_iadd C d_L_turn_159 ?_
    obtain ⟨g32, h⟩ := h
    refine j_callV C d_L_turn_160 ml_L_36 mi_X_road (c_X_road (xl X) (gD G) (gad G) (gca G) (v1 := z26) (v2 := z28) (v3 := 1 + z30) hσ rz26 rz28 g32 h) sh_54 rfl rfl rfl rfl rfl rfl rfl (fun z33 σ34 rz33 hσ34 h => ?_)
    exact j_ireturn C d_L_turn_163 rz33 hσ34 h
  · have h := h.2.2.2.1 c
    refine j_tableIn (tgt := 164) C d_L_turn_30 r1 3 c rfl rfl rfl ?_
    refine j_aload_n C d_L_turn_164 2 rfl rfl ?_
    refine j_iload_n C d_L_turn_165 4 rfl rfl ?_
    refine j_bipush C d_L_turn_166 rfl ?_
    refine j_callS C d_L_turn_168 ml_L_58 ms_L_up (c_L_up (xl X) (gD G) (gad G) (gca G) (v0 := v2) (v1 := 6) hσ r2 (zR_of (x := 6) rfl) h) rfl rfl rfl rfl rfl (fun z35 σ36 rz35 hσ36 h => ?_)
    obtain ⟨ez35, h⟩ := h; subst ez35
    refine j_iload C d_L_turn_171 1 rfl ?_
    refine j_iload C d_L_turn_173 0 rfl ?_
    refine j_iload_n C d_L_turn_175 5 rfl rfl ?_
    refine j_iconst C d_L_turn_176 ?_
    refine j_iand C d_L_turn_177 ?_
    refine j_callV C d_L_turn_178 ml_L_40 mi_X_open (c_X_open (xl X) (gD G) (gad G) (gca G) (v1 := z35) (v2 := z1) (v3 := (z1 + 1) + z4) (v4 := zAnd v3 1) hσ rz35 rz1 g6 (zAnd_rg _ _) h) sh_54 rfl rfl rfl rfl rfl rfl rfl (fun z37 σ38 rz37 hσ38 h => ?_)
    exact j_ireturn C d_L_turn_181 rz37 hσ38 h
  · have h := h.2.2.2.2.1 c
    refine j_tableIn (tgt := 182) C d_L_turn_30 r1 4 c rfl rfl rfl ?_
    refine j_aload_n C d_L_turn_182 2 rfl rfl ?_
    refine j_iload_n C d_L_turn_183 4 rfl rfl ?_
    refine j_bipush C d_L_turn_184 rfl ?_
    refine j_callS C d_L_turn_186 ml_L_58 ms_L_up (c_L_up (xl X) (gD G) (gad G) (gca G) (v0 := v2) (v1 := 6) hσ r2 (zR_of (x := 6) rfl) h) rfl rfl rfl rfl rfl (fun z39 σ40 rz39 hσ40 h => ?_)
    obtain ⟨ez39, h⟩ := h; subst ez39
    refine j_iload C d_L_turn_189 1 rfl ?_
    refine j_iload C d_L_turn_191 0 rfl ?_
    refine j_callV C d_L_turn_193 ml_L_43 mi_X_more (c_X_more (xl X) (gD G) (gad G) (gca G) (v1 := z39) (v2 := z1) (v3 := (z1 + 1) + z4) hσ rz39 rz1 g6 h) sh_54 rfl rfl rfl rfl rfl rfl rfl (fun z41 σ42 rz41 hσ42 h => ?_)
    exact j_ireturn C d_L_turn_196 rz41 hσ42 h
  · have h := h.2.2.2.2.2.1 c
    refine j_tableIn (tgt := 197) C d_L_turn_30 r1 5 c rfl rfl rfl ?_
    refine j_aload_n C d_L_turn_197 2 rfl rfl ?_
    refine j_iload_n C d_L_turn_198 4 rfl rfl ?_
    refine j_bipush C d_L_turn_199 rfl ?_
    refine j_callS C d_L_turn_201 ml_L_58 ms_L_up (c_L_up (xl X) (gD G) (gad G) (gca G) (v0 := v2) (v1 := 6) hσ r2 (zR_of (x := 6) rfl) h) rfl rfl rfl rfl rfl (fun z43 σ44 rz43 hσ44 h => ?_)
    obtain ⟨ez43, h⟩ := h; subst ez43
    refine j_iconst C d_L_turn_204 ?_
    refine j_iload C d_L_turn_205 1 rfl ?_
    refine j_imul C d_L_turn_207 ?_
    refine j_iconst C d_L_turn_208 ?_
    refine j_iload C d_L_turn_209 0 rfl ?_
    refine j_imul C d_L_turn_211 ?_
    obtain ⟨g45, h⟩ := h
    obtain ⟨g46, h⟩ := h
    refine j_callV C d_L_turn_212 ml_L_46 mi_X_close (c_X_close (xl X) (gD G) (gad G) (gca G) (v1 := z43) (v2 := 2 * z1) (v3 := 2 * ((z1 + 1) + z4)) hσ rz43 g45 g46 h) sh_54 rfl rfl rfl rfl rfl rfl rfl (fun z47 σ48 rz47 hσ48 h => ?_)
    exact j_ireturn C d_L_turn_215 rz47 hσ48 h
  · have h := h.2.2.2.2.2.2.1 c
    refine j_tableIn (tgt := 216) C d_L_turn_30 r1 6 c rfl rfl rfl ?_
    refine j_aload_n C d_L_turn_216 2 rfl rfl ?_
    refine j_iload_n C d_L_turn_217 4 rfl rfl ?_
    refine j_iconst C d_L_turn_218 ?_
    refine j_callS C d_L_turn_219 ml_L_58 ms_L_up (c_L_up (xl X) (gD G) (gad G) (gca G) (v0 := v2) (v1 := 4) hσ r2 (zR_of (x := 4) rfl) h) rfl rfl rfl rfl rfl (fun z49 σ50 rz49 hσ50 h => ?_)
    obtain ⟨ez49, h⟩ := h; subst ez49
    refine j_callV C d_L_turn_222 ml_L_49 mi_X_lift (c_X_lift (xl X) (gD G) (gad G) (gca G) (v1 := z49) hσ rz49 h) sh_54 rfl rfl rfl rfl rfl rfl rfl (fun z51 σ52 rz51 hσ52 h => ?_)
    exact j_ireturn C d_L_turn_225 rz51 hσ52 h
  · have h := h.2.2.2.2.2.2.2.1 c
    refine j_tableIn (tgt := 226) C d_L_turn_30 r1 7 c rfl rfl rfl ?_
    refine j_aload_n C d_L_turn_226 2 rfl rfl ?_
    refine j_iload_n C d_L_turn_227 4 rfl rfl ?_
    refine j_iconst C d_L_turn_228 ?_
    refine j_callS C d_L_turn_229 ml_L_58 ms_L_up (c_L_up (xl X) (gD G) (gad G) (gca G) (v0 := v2) (v1 := 5) hσ r2 (zR_of (x := 5) rfl) h) rfl rfl rfl rfl rfl (fun z53 σ54 rz53 hσ54 h => ?_)
    obtain ⟨ez53, h⟩ := h; subst ez53
    refine j_iload_n C d_L_turn_232 5 rfl rfl ?_
    refine j_sipush C d_L_turn_233 rfl ?_
    refine j_callS C d_L_turn_236 ml_L_58 ms_L_up (c_L_up (xl X) (gD G) (gad G) (gca G) (v0 := v3) (v1 := 2000) hσ r3 (zR_of (x := 2000) rfl) h) rfl rfl rfl rfl rfl (fun z55 σ56 rz55 hσ56 h => ?_)
    obtain ⟨ez55, h⟩ := h; subst ez55
    refine j_callV C d_L_turn_239 ml_L_52 mi_X_traveller (c_X_traveller (xl X) (gD G) (gad G) (gca G) (v1 := z53) (v2 := z55) hσ rz53 rz55 h) sh_54 rfl rfl rfl rfl rfl rfl rfl (fun z57 σ58 rz57 hσ58 h => ?_)
    exact j_ireturn C d_L_turn_242 rz57 hσ58 h
  · have h := h.2.2.2.2.2.2.2.2.1 c
    refine j_tableIn (tgt := 243) C d_L_turn_30 r1 8 c rfl rfl rfl ?_
    refine j_aload_n C d_L_turn_243 2 rfl rfl ?_
    refine j_iload_n C d_L_turn_244 4 rfl rfl ?_
    refine j_iconst C d_L_turn_245 ?_
    refine j_callS C d_L_turn_246 ml_L_58 ms_L_up (c_L_up (xl X) (gD G) (gad G) (gca G) (v0 := v2) (v1 := 4) hσ r2 (zR_of (x := 4) rfl) h) rfl rfl rfl rfl rfl (fun z59 σ60 rz59 hσ60 h => ?_)
    obtain ⟨ez59, h⟩ := h; subst ez59
    refine j_iload_n C d_L_turn_249 5 rfl rfl ?_
    refine j_bipush C d_L_turn_250 rfl ?_
    refine j_callS C d_L_turn_252 ml_L_58 ms_L_up (c_L_up (xl X) (gD G) (gad G) (gca G) (v0 := v3) (v1 := 6) hσ r3 (zR_of (x := 6) rfl) h) rfl rfl rfl rfl rfl (fun z61 σ62 rz61 hσ62 h => ?_)
    obtain ⟨ez61, h⟩ := h; subst ez61
    refine j_callV C d_L_turn_255 ml_L_63 mi_X_go (c_X_go (xl X) (gD G) (gad G) (gca G) (v1 := z59) (v2 := z61) hσ rz59 rz61 h) sh_54 rfl rfl rfl rfl rfl rfl rfl (fun z63 σ64 rz63 hσ64 h => ?_)
    exact j_ireturn C d_L_turn_258 rz63 hσ64 h
  · have h := h.2.2.2.2.2.2.2.2.2.1 c
    refine j_tableIn (tgt := 243) C d_L_turn_30 r1 9 c rfl rfl rfl ?_
    refine j_aload_n C d_L_turn_243 2 rfl rfl ?_
    refine j_iload_n C d_L_turn_244 4 rfl rfl ?_
    refine j_iconst C d_L_turn_245 ?_
    refine j_callS C d_L_turn_246 ml_L_58 ms_L_up (c_L_up (xl X) (gD G) (gad G) (gca G) (v0 := v2) (v1 := 4) hσ r2 (zR_of (x := 4) rfl) h) rfl rfl rfl rfl rfl (fun z65 σ66 rz65 hσ66 h => ?_)
    obtain ⟨ez65, h⟩ := h; subst ez65
    refine j_iload_n C d_L_turn_249 5 rfl rfl ?_
    refine j_bipush C d_L_turn_250 rfl ?_
    refine j_callS C d_L_turn_252 ml_L_58 ms_L_up (c_L_up (xl X) (gD G) (gad G) (gca G) (v0 := v3) (v1 := 6) hσ r3 (zR_of (x := 6) rfl) h) rfl rfl rfl rfl rfl (fun z67 σ68 rz67 hσ68 h => ?_)
    obtain ⟨ez67, h⟩ := h; subst ez67
    refine j_callV C d_L_turn_255 ml_L_63 mi_X_go (c_X_go (xl X) (gD G) (gad G) (gca G) (v1 := z65) (v2 := z67) hσ rz65 rz67 h) sh_54 rfl rfl rfl rfl rfl rfl rfl (fun z69 σ70 rz69 hσ70 h => ?_)
    exact j_ireturn C d_L_turn_258 rz69 hσ70 h
  · have h := h.2.2.2.2.2.2.2.2.2.2.1 c
    refine j_tableIn (tgt := 243) C d_L_turn_30 r1 10 c rfl rfl rfl ?_
    refine j_aload_n C d_L_turn_243 2 rfl rfl ?_
    refine j_iload_n C d_L_turn_244 4 rfl rfl ?_
    refine j_iconst C d_L_turn_245 ?_
    refine j_callS C d_L_turn_246 ml_L_58 ms_L_up (c_L_up (xl X) (gD G) (gad G) (gca G) (v0 := v2) (v1 := 4) hσ r2 (zR_of (x := 4) rfl) h) rfl rfl rfl rfl rfl (fun z71 σ72 rz71 hσ72 h => ?_)
    obtain ⟨ez71, h⟩ := h; subst ez71
    refine j_iload_n C d_L_turn_249 5 rfl rfl ?_
    refine j_bipush C d_L_turn_250 rfl ?_
    refine j_callS C d_L_turn_252 ml_L_58 ms_L_up (c_L_up (xl X) (gD G) (gad G) (gca G) (v0 := v3) (v1 := 6) hσ r3 (zR_of (x := 6) rfl) h) rfl rfl rfl rfl rfl (fun z73 σ74 rz73 hσ74 h => ?_)
    obtain ⟨ez73, h⟩ := h; subst ez73
    refine j_callV C d_L_turn_255 ml_L_63 mi_X_go (c_X_go (xl X) (gD G) (gad G) (gca G) (v1 := z71) (v2 := z73) hσ rz71 rz73 h) sh_54 rfl rfl rfl rfl rfl rfl rfl (fun z75 σ76 rz75 hσ76 h => ?_)
    exact j_ireturn C d_L_turn_258 rz75 hσ76 h
  · have h := h.2.2.2.2.2.2.2.2.2.2.2.1 c
    refine j_tableIn (tgt := 259) C d_L_turn_30 r1 11 c rfl rfl rfl ?_
    refine j_aload_n C d_L_turn_259 2 rfl rfl ?_
    refine j_iload_n C d_L_turn_260 4 rfl rfl ?_
    refine j_iconst C d_L_turn_261 ?_
    refine j_callS C d_L_turn_262 ml_L_58 ms_L_up (c_L_up (xl X) (gD G) (gad G) (gca G) (v0 := v2) (v1 := 4) hσ r2 (zR_of (x := 4) rfl) h) rfl rfl rfl rfl rfl (fun z77 σ78 rz77 hσ78 h => ?_)
    obtain ⟨ez77, h⟩ := h; subst ez77
    refine j_iconst C d_L_turn_265 ?_
    refine j_iload_n C d_L_turn_266 5 rfl rfl ?_
    refine j_iload_n C d_L_turn_267 5 rfl rfl ?_
    refine j_bipush C d_L_turn_268 rfl ?_
    refine j_iand C d_L_turn_270 ?_
    refine j_if_ne (tgt := 279) C d_L_turn_271 rfl (zAnd_rg _ _) (fun c => ?_) (fun c => ?_)
    · have h := h.1 c
      refine j_sipush C d_L_turn_279 rfl ?_
      refine j_sub (L' := []) [] rfl ?_
      refine w_L_turn_b282 C σ z77 1 v3 1000 hσ rz77 (zR_of (x := 1) rfl) r3 (zR_of (x := 1000) rfl) h
    · have h := h.2 c
      refine j_bipush C d_L_turn_274 rfl ?_
      refine j_goto (tgt := 282) C d_L_turn_276 rfl ?_
      refine j_sub (L' := []) [] rfl ?_
      refine w_L_turn_b282 C σ z77 1 v3 90 hσ rz77 (zR_of (x := 1) rfl) r3 (zR_of (x := 90) rfl) h
  · have h := h.2.2.2.2.2.2.2.2.2.2.2.2.1 c
    refine j_tableIn (tgt := 259) C d_L_turn_30 r1 12 c rfl rfl rfl ?_
    refine j_aload_n C d_L_turn_259 2 rfl rfl ?_
    refine j_iload_n C d_L_turn_260 4 rfl rfl ?_
    refine j_iconst C d_L_turn_261 ?_
    refine j_callS C d_L_turn_262 ml_L_58 ms_L_up (c_L_up (xl X) (gD G) (gad G) (gca G) (v0 := v2) (v1 := 4) hσ r2 (zR_of (x := 4) rfl) h) rfl rfl rfl rfl rfl (fun z84 σ85 rz84 hσ85 h => ?_)
    obtain ⟨ez84, h⟩ := h; subst ez84
    refine j_iconst C d_L_turn_265 ?_
    refine j_iload_n C d_L_turn_266 5 rfl rfl ?_
    refine j_iload_n C d_L_turn_267 5 rfl rfl ?_
    refine j_bipush C d_L_turn_268 rfl ?_
    refine j_iand C d_L_turn_270 ?_
    refine j_if_ne (tgt := 279) C d_L_turn_271 rfl (zAnd_rg _ _) (fun c => ?_) (fun c => ?_)
    · have h := h.1 c
      refine j_sipush C d_L_turn_279 rfl ?_
      refine j_sub (L' := []) [] rfl ?_
      refine w_L_turn_b282 C σ z84 1 v3 1000 hσ rz84 (zR_of (x := 1) rfl) r3 (zR_of (x := 1000) rfl) h
    · have h := h.2 c
      refine j_bipush C d_L_turn_274 rfl ?_
      refine j_goto (tgt := 282) C d_L_turn_276 rfl ?_
      refine j_sub (L' := []) [] rfl ?_
      refine w_L_turn_b282 C σ z84 1 v3 90 hσ rz84 (zR_of (x := 1) rfl) r3 (zR_of (x := 90) rfl) h
  · have h := h.2.2.2.2.2.2.2.2.2.2.2.2.2.1 c
    refine j_tableIn (tgt := 290) C d_L_turn_30 r1 13 c rfl rfl rfl ?_
    refine j_aload_n C d_L_turn_290 2 rfl rfl ?_
    refine j_iload_n C d_L_turn_291 4 rfl rfl ?_
    refine j_iconst C d_L_turn_292 ?_
    refine j_callS C d_L_turn_293 ml_L_58 ms_L_up (c_L_up (xl X) (gD G) (gad G) (gca G) (v0 := v2) (v1 := 4) hσ r2 (zR_of (x := 4) rfl) h) rfl rfl rfl rfl rfl (fun z86 σ87 rz86 hσ87 h => ?_)
    obtain ⟨ez86, h⟩ := h; subst ez86
    refine j_iload_n C d_L_turn_296 5 rfl rfl ?_
    refine j_iconst C d_L_turn_297 ?_
    refine j_callS C d_L_turn_298 ml_L_58 ms_L_up (c_L_up (xl X) (gD G) (gad G) (gca G) (v0 := v3) (v1 := 2) hσ r3 (zR_of (x := 2) rfl) h) rfl rfl rfl rfl rfl (fun z88 σ89 rz88 hσ89 h => ?_)
    obtain ⟨ez88, h⟩ := h; subst ez88
    refine j_aload_n C d_L_turn_301 2 rfl rfl ?_
    refine j_iload_n C d_L_turn_302 4 rfl rfl ?_
    refine j_iconst C d_L_turn_303 ?_
    refine j_callS C d_L_turn_304 ml_L_58 ms_L_up (c_L_up (xl X) (gD G) (gad G) (gca G) (v0 := v2) (v1 := 4) hσ r2 (zR_of (x := 4) rfl) h) rfl rfl rfl rfl rfl (fun z90 σ91 rz90 hσ91 h => ?_)
    obtain ⟨ez90, h⟩ := h; subst ez90
    refine j_callV C d_L_turn_307 ml_L_66 mi_X_canStay (c_X_canStay (xl X) (gD G) (gad G) (gca G) (v1 := z90) hσ rz90 h) sh_54 rfl rfl rfl rfl rfl rfl rfl (fun z92 σ93 rz92 hσ93 h => ?_)
    obtain ⟨ez92, h⟩ := h; subst ez92
    refine j_iadd C d_L_turn_310 ?_
    obtain ⟨g94, h⟩ := h
    refine j_callV C d_L_turn_311 ml_L_55 mi_X_stay (c_X_stay (xl X) (gD G) (gad G) (gca G) (v1 := z86) (v2 := z88 + z92) hσ rz86 g94 h) sh_54 rfl rfl rfl rfl rfl rfl rfl (fun z95 σ96 rz95 hσ96 h => ?_)
    exact j_ireturn C d_L_turn_314 rz95 hσ96 h
  · have h := h.2.2.2.2.2.2.2.2.2.2.2.2.2.2 c
    refine j_tableOut (tgt := 315) C d_L_turn_30 r1 c rfl ?_
    refine j_aload_n C d_L_turn_315 2 rfl rfl ?_
    refine j_iload_n C d_L_turn_316 4 rfl rfl ?_
    refine j_iload_n C d_L_turn_317 5 rfl rfl ?_
    refine j_callS C d_L_turn_318 ml_L_69 ms_L_any (c_L_any (xl X) (gD G) (gad G) (gca G) (v1 := v2) (v2 := v3) hσ r2 r3 h) rfl rfl rfl rfl rfl (fun z97 σ98 rz97 hσ98 h => ?_)
    exact j_ireturn C d_L_turn_321 rz97 hσ98 h
set_option maxRecDepth 100000 in
set_option maxHeartbeats 4000000 in
theorem w_L_areRight_b122 {X : zX} {G : zG} (C : zC X G b_L_areRight "GateRoadsLaw" 6 (some .boolean) 6 147) {Q : Int → zM → Prop} {k6 : zM → Int → Int → Int → Prop} (hk6 : ∀ (σ : zM) (v1 : Int) (v2 : Int) (v3 : Int), zRM σ → zR v1 → zR v2 → zR v3 → k6 σ v1 v2 v3 → zJ X G (zQi X G Q) 6 6 [(0, .ref (gad G 54)), (1, .int (zI v1)), (2, .int (zI v2)), (3, .int (zI v3))] [] σ) (σ : zM) (v1 : Int) (v3 : Int) (s0 : Int) (hσ : zRM σ) (r1 : zR v1) (r3 : zR v3) (rs0 : zR s0) (h : wp_L_areRight_b122 k6 Q σ v1 v3 s0) : zJ X G (zQi X G Q) 6 122 [(0, .ref (gad G 54)), (1, .int (zI v1)), (3, .int (zI v3))] [.int (zI s0)] σ := by
  unfold wp_L_areRight_b122 at h
  refine j_istore_n (L' := [(2, .int (zI s0)), (0, .ref (gad G 54)), (1, .int (zI v1)), (3, .int (zI v3))]) C d_L_areRight_122 rfl rfl rfl ?_
  refine j_iload_n C d_L_areRight_123 2 rfl rfl ?_
  refine j_aload_n C d_L_areRight_124 1 rfl rfl ?_
  refine j_iload_n C d_L_areRight_125 3 rfl rfl ?_
  refine j_iconst C d_L_areRight_126 ?_
  refine j_callV C d_L_areRight_127 ml_L_29 mi_X_ofTraveller (c_X_ofTraveller (xl X) (gD G) (gad G) (gca G) (v1 := v3) (v2 := 3) hσ r3 (zR_of (x := 3) rfl) h) sh_54 rfl rfl rfl rfl rfl rfl rfl (fun z14 σ15 rz14 hσ15 h => ?_)
  obtain ⟨ez14, h⟩ := h; subst ez14
  refine j_iadd C d_L_areRight_130 ?_
  obtain ⟨g16, h⟩ := h
  refine j_istore_n (L' := [(1, .int (zI (v1 + z14))), (2, .int (zI s0)), (0, .ref (gad G 54)), (3, .int (zI v3))]) C d_L_areRight_131 rfl rfl rfl ?_
  obtain ⟨g17, h⟩ := h
  refine j_iinc (L' := [(3, .int (zI (v3 + 1))), (1, .int (zI (v1 + z14))), (2, .int (zI s0)), (0, .ref (gad G 54))]) C d_L_areRight_132 3 rfl rfl rfl ?_
  refine j_goto (tgt := 6) C d_L_areRight_135 rfl ?_
  refine j_sub (L' := [(0, .ref (gad G 54)), (1, .int (zI (v1 + z14))), (2, .int (zI s0)), (3, .int (zI (v3 + 1)))]) [3, 1, 2, 0] rfl ?_
  exact hk6 σ (v1 + z14) s0 (v3 + 1) hσ g16 rs0 g17 h
set_option maxRecDepth 100000 in
set_option maxHeartbeats 4000000 in
theorem w_L_areRight_b121 {X : zX} {G : zG} (C : zC X G b_L_areRight "GateRoadsLaw" 6 (some .boolean) 6 147) {Q : Int → zM → Prop} {k6 : zM → Int → Int → Int → Prop} (hk6 : ∀ (σ : zM) (v1 : Int) (v2 : Int) (v3 : Int), zRM σ → zR v1 → zR v2 → zR v3 → k6 σ v1 v2 v3 → zJ X G (zQi X G Q) 6 6 [(0, .ref (gad G 54)), (1, .int (zI v1)), (2, .int (zI v2)), (3, .int (zI v3))] [] σ) (σ : zM) (v1 : Int) (v3 : Int) (hσ : zRM σ) (r1 : zR v1) (r3 : zR v3) (h : wp_L_areRight_b121 k6 Q σ v1 v3) : zJ X G (zQi X G Q) 6 121 [(0, .ref (gad G 54)), (1, .int (zI v1)), (3, .int (zI v3))] [] σ := by
  unfold wp_L_areRight_b121 at h
  refine j_iconst C d_L_areRight_121 ?_
  refine w_L_areRight_b122 C hk6 σ v1 v3 0 hσ r1 r3 (zR_of (x := 0) rfl) h
set_option maxRecDepth 100000 in
set_option maxHeartbeats 4000000 in
theorem w_L_areRight_b85 {X : zX} {G : zG} (C : zC X G b_L_areRight "GateRoadsLaw" 6 (some .boolean) 6 147) {Q : Int → zM → Prop} {k6 : zM → Int → Int → Int → Prop} (hk6 : ∀ (σ : zM) (v1 : Int) (v2 : Int) (v3 : Int), zRM σ → zR v1 → zR v2 → zR v3 → k6 σ v1 v2 v3 → zJ X G (zQi X G Q) 6 6 [(0, .ref (gad G 54)), (1, .int (zI v1)), (2, .int (zI v2)), (3, .int (zI v3))] [] σ) (σ : zM) (v1 : Int) (v3 : Int) (v4 : Int) (v5 : Int) (s0 : Int) (hσ : zRM σ) (r1 : zR v1) (r3 : zR v3) (r4 : zR v4) (r5 : zR v5) (rs0 : zR s0) (h : wp_L_areRight_b85 k6 Q σ v1 v3 v4 v5 s0) : zJ X G (zQi X G Q) 6 85 [(0, .ref (gad G 54)), (1, .int (zI v1)), (3, .int (zI v3)), (4, .int (zI v4)), (5, .int (zI v5))] [.int (zI s0)] σ := by
  unfold wp_L_areRight_b85 at h
  refine j_istore_n (L' := [(2, .int (zI s0)), (0, .ref (gad G 54)), (1, .int (zI v1)), (3, .int (zI v3)), (4, .int (zI v4)), (5, .int (zI v5))]) C d_L_areRight_85 rfl rfl rfl ?_
  refine j_iload_n C d_L_areRight_86 0 rfl rfl ?_
  refine j_if_eq (tgt := 121) C d_L_areRight_87 rfl rs0 (fun c => ?_) (fun c => ?_)
  · have h := h.1 c
    refine j_sub (L' := [(0, .ref (gad G 54)), (1, .int (zI v1)), (3, .int (zI v3))]) [1, 2, 3] rfl ?_
    refine w_L_areRight_b121 C hk6 σ v1 v3 hσ r1 r3 h
  · have h := h.2 c
    refine j_aload_n C d_L_areRight_90 1 rfl rfl ?_
    refine j_iload C d_L_areRight_91 5 rfl ?_
    refine j_iconst C d_L_areRight_93 ?_
    refine j_callV C d_L_areRight_94 ml_L_19 mi_X_ofPlace (c_X_ofPlace (xl X) (gD G) (gad G) (gca G) (v1 := v5) (v2 := 5) hσ r5 (zR_of (x := 5) rfl) h) sh_54 rfl rfl rfl rfl rfl rfl rfl (fun z18 σ19 rz18 hσ19 h => ?_)
    obtain ⟨ez18, h⟩ := h; subst ez18
    refine j_iload_n C d_L_areRight_97 3 rfl rfl ?_
    refine j_ishr C d_L_areRight_98 ?_
    refine j_iconst C d_L_areRight_99 ?_
    refine j_iand C d_L_areRight_100 ?_
    refine j_iconst C d_L_areRight_101 ?_
    refine j_icmp_ne (tgt := 121) C d_L_areRight_102 rfl (zAnd_rg _ _) (zR_of (x := 1) rfl) (fun c => ?_) (fun c => ?_)
    · have h := h.1 c
      refine j_sub (L' := [(0, .ref (gad G 54)), (1, .int (zI v1)), (3, .int (zI v3))]) [1, 2, 3] rfl ?_
      refine w_L_areRight_b121 C hk6 σ v1 v3 hσ r1 r3 h
    · have h := h.2 c
      refine j_aload_n C d_L_areRight_105 1 rfl rfl ?_
      refine j_iload_n C d_L_areRight_106 3 rfl rfl ?_
      refine j_iload C d_L_areRight_107 5 rfl ?_
      refine j_callV C d_L_areRight_109 ml_L_73 mi_X_arrives (c_X_arrives (xl X) (gD G) (gad G) (gca G) (v1 := v3) (v2 := v5) hσ r3 r5 h) sh_54 rfl rfl rfl rfl rfl rfl rfl (fun z20 σ21 rz20 hσ21 h => ?_)
      refine j_iload C d_L_areRight_112 4 rfl ?_
      refine j_icmp_ne (tgt := 121) C d_L_areRight_114 rfl rz20 r4 (fun c => ?_) (fun c => ?_)
      · have h := h.1 c
        refine j_sub (L' := [(0, .ref (gad G 54)), (1, .int (zI v1)), (3, .int (zI v3))]) [1, 2, 3] rfl ?_
        refine w_L_areRight_b121 C hk6 σ21 v1 v3 hσ21 r1 r3 h
      · have h := h.2 c
        refine j_iconst C d_L_areRight_117 ?_
        refine j_goto (tgt := 122) C d_L_areRight_118 rfl ?_
        refine j_sub (L' := [(0, .ref (gad G 54)), (1, .int (zI v1)), (3, .int (zI v3))]) [1, 2, 3] rfl ?_
        refine w_L_areRight_b122 C hk6 σ21 v1 v3 1 hσ21 r1 r3 (zR_of (x := 1) rfl) h
set_option maxRecDepth 100000 in
set_option maxHeartbeats 4000000 in
theorem w_L_areRight_b84 {X : zX} {G : zG} (C : zC X G b_L_areRight "GateRoadsLaw" 6 (some .boolean) 6 147) {Q : Int → zM → Prop} {k6 : zM → Int → Int → Int → Prop} (hk6 : ∀ (σ : zM) (v1 : Int) (v2 : Int) (v3 : Int), zRM σ → zR v1 → zR v2 → zR v3 → k6 σ v1 v2 v3 → zJ X G (zQi X G Q) 6 6 [(0, .ref (gad G 54)), (1, .int (zI v1)), (2, .int (zI v2)), (3, .int (zI v3))] [] σ) (σ : zM) (v1 : Int) (v3 : Int) (v4 : Int) (v5 : Int) (hσ : zRM σ) (r1 : zR v1) (r3 : zR v3) (r4 : zR v4) (r5 : zR v5) (h : wp_L_areRight_b84 k6 Q σ v1 v3 v4 v5) : zJ X G (zQi X G Q) 6 84 [(0, .ref (gad G 54)), (1, .int (zI v1)), (3, .int (zI v3)), (4, .int (zI v4)), (5, .int (zI v5))] [] σ := by
  unfold wp_L_areRight_b84 at h
  refine j_iconst C d_L_areRight_84 ?_
  refine w_L_areRight_b85 C hk6 σ v1 v3 v4 v5 0 hσ r1 r3 r4 r5 (zR_of (x := 0) rfl) h
set_option maxRecDepth 100000 in
set_option maxHeartbeats 4000000 in
theorem w_L_areRight_L6 {X : zX} {G : zG} (C : zC X G b_L_areRight "GateRoadsLaw" 6 (some .boolean) 6 147) {Q : Int → zM → Prop} {k138 : zM → Int → Int → Prop} (hk138 : ∀ (σ : zM) (v1 : Int) (v2 : Int), zRM σ → zR v1 → zR v2 → k138 σ v1 v2 → zJ X G (zQi X G Q) 6 138 [(0, .ref (gad G 54)), (1, .int (zI v1)), (2, .int (zI v2))] [] σ) : ∀ (n : Nat) (σ : zM) (v1 : Int) (v2 : Int) (v3 : Int) (hσ : zRM σ) (r1 : zR v1) (r2 : zR v2) (r3 : zR v3), wp_L_areRight_L6 k138 Q n σ v1 v2 v3 → zJ X G (zQi X G Q) 6 6 [(0, .ref (gad G 54)), (1, .int (zI v1)), (2, .int (zI v2)), (3, .int (zI v3))] [] σ := by
  intro n
  induction n with
  | zero => intro σ v1 v2 v3 hσ r1 r2 r3 h; exact False.elim h
  | succ n ih =>
    intro σ v1 v2 v3 hσ r1 r2 r3 h
    rw [wp_L_areRight_L6] at h
    refine j_iload_n C d_L_areRight_6 3 rfl rfl ?_
    refine j_aload_n C d_L_areRight_7 0 rfl rfl ?_
    refine j_iconst C d_L_areRight_8 ?_
    refine j_callV C d_L_areRight_9 ml_L_13 mi_X_count (c_X_count (xl X) (gD G) (gad G) (gca G) (v1 := 2) hσ (zR_of (x := 2) rfl) h) sh_54 rfl rfl rfl rfl rfl rfl rfl (fun z1 σ2 rz1 hσ2 h => ?_)
    obtain ⟨ez1, h⟩ := h; subst ez1
    refine j_icmp_ge (tgt := 138) C d_L_areRight_12 rfl r3 rz1 (fun c => ?_) (fun c => ?_)
    · have h := h.1 c
      refine j_sub (L' := [(0, .ref (gad G 54)), (1, .int (zI v1)), (2, .int (zI v2))]) [0, 1, 2] rfl ?_
      exact hk138 σ v1 v2 hσ r1 r2 h
    · have h := h.2 c
      refine j_iload_n C d_L_areRight_15 2 rfl rfl ?_
      refine j_if_eq (tgt := 138) C d_L_areRight_16 rfl r2 (fun c => ?_) (fun c => ?_)
      · have h := h.1 c
        refine j_sub (L' := [(0, .ref (gad G 54)), (1, .int (zI v1)), (2, .int (zI v2))]) [0, 1, 2] rfl ?_
        exact hk138 σ v1 v2 hσ r1 r2 h
      · have h := h.2 c
        refine j_aload_n C d_L_areRight_19 0 rfl rfl ?_
        refine j_iload_n C d_L_areRight_20 3 rfl rfl ?_
        refine j_iconst C d_L_areRight_21 ?_
        refine j_callV C d_L_areRight_22 ml_L_29 mi_X_ofTraveller (c_X_ofTraveller (xl X) (gD G) (gad G) (gca G) (v1 := v3) (v2 := 1) hσ r3 (zR_of (x := 1) rfl) h) sh_54 rfl rfl rfl rfl rfl rfl rfl (fun z3 σ4 rz3 hσ4 h => ?_)
        obtain ⟨ez3, h⟩ := h; subst ez3
        refine j_istore (L' := [(4, .int (zI z3)), (0, .ref (gad G 54)), (1, .int (zI v1)), (2, .int (zI v2)), (3, .int (zI v3))]) C d_L_areRight_25 rfl rfl ?_
        refine j_aload_n C d_L_areRight_27 1 rfl rfl ?_
        refine j_iload_n C d_L_areRight_28 4 rfl rfl ?_
        refine j_iconst C d_L_areRight_29 ?_
        refine j_callV C d_L_areRight_30 ml_L_29 mi_X_ofTraveller (c_X_ofTraveller (xl X) (gD G) (gad G) (gca G) (v1 := v3) (v2 := 0) hσ r3 (zR_of (x := 0) rfl) h) sh_54 rfl rfl rfl rfl rfl rfl rfl (fun z5 σ6 rz5 hσ6 h => ?_)
        obtain ⟨ez5, h⟩ := h; subst ez5
        refine j_istore (L' := [(5, .int (zI z5)), (4, .int (zI z3)), (0, .ref (gad G 54)), (1, .int (zI v1)), (2, .int (zI v2)), (3, .int (zI v3))]) C d_L_areRight_33 rfl rfl ?_
        refine j_iload C d_L_areRight_35 1 rfl ?_
        refine j_aload_n C d_L_areRight_37 2 rfl rfl ?_
        refine j_iload_n C d_L_areRight_38 5 rfl rfl ?_
        refine j_bipush C d_L_areRight_39 rfl ?_
        refine j_callV C d_L_areRight_41 ml_L_29 mi_X_ofTraveller (c_X_ofTraveller (xl X) (gD G) (gad G) (gca G) (v1 := v3) (v2 := 7) hσ r3 (zR_of (x := 7) rfl) h) sh_54 rfl rfl rfl rfl rfl rfl rfl (fun z7 σ8 rz7 hσ8 h => ?_)
        obtain ⟨ez7, h⟩ := h; subst ez7
        refine j_aload_n C d_L_areRight_44 2 rfl rfl ?_
        refine j_iload_n C d_L_areRight_45 5 rfl rfl ?_
        refine j_iconst C d_L_areRight_46 ?_
        refine j_callV C d_L_areRight_47 ml_L_29 mi_X_ofTraveller (c_X_ofTraveller (xl X) (gD G) (gad G) (gca G) (v1 := v3) (v2 := 4) hσ r3 (zR_of (x := 4) rfl) h) sh_54 rfl rfl rfl rfl rfl rfl rfl (fun z9 σ10 rz9 hσ10 h => ?_)
        obtain ⟨ez9, h⟩ := h; subst ez9
        refine j_iadd C d_L_areRight_50 ?_
        refine j_aload_n C d_L_areRight_51 2 rfl rfl ?_
        refine j_iload_n C d_L_areRight_52 5 rfl rfl ?_
        refine j_iconst C d_L_areRight_53 ?_
        refine j_callV C d_L_areRight_54 ml_L_29 mi_X_ofTraveller (c_X_ofTraveller (xl X) (gD G) (gad G) (gca G) (v1 := v3) (v2 := 5) hσ r3 (zR_of (x := 5) rfl) h) sh_54 rfl rfl rfl rfl rfl rfl rfl (fun z11 σ12 rz11 hσ12 h => ?_)
        obtain ⟨ez11, h⟩ := h; subst ez11
        refine j_iadd C d_L_areRight_57 ?_
        obtain ⟨g13, h⟩ := h
        refine j_icmp_ne (tgt := 84) C d_L_areRight_58 rfl rz3 g13 (fun c => ?_) (fun c => ?_)
        · have h := h.1 c
          refine j_sub (L' := [(0, .ref (gad G 54)), (1, .int (zI v1)), (3, .int (zI v3)), (4, .int (zI z3)), (5, .int (zI z5))]) [2, 3, 5, 1, 0] rfl ?_
          refine w_L_areRight_b84 C ih σ v1 v3 z3 z5 hσ r1 r3 rz3 rz5 h
        · have h := h.2 c
          refine j_aload_n C d_L_areRight_61 2 rfl rfl ?_
          refine j_iload_n C d_L_areRight_62 5 rfl rfl ?_
          refine j_iconst C d_L_areRight_63 ?_
          refine j_callV C d_L_areRight_64 ml_L_29 mi_X_ofTraveller (c_X_ofTraveller (xl X) (gD G) (gad G) (gca G) (v1 := v3) (v2 := 2) hσ r3 (zR_of (x := 2) rfl) h) sh_54 rfl rfl rfl rfl rfl rfl rfl (fun z22 σ23 rz22 hσ23 h => ?_)
          obtain ⟨ez22, h⟩ := h; subst ez22
          refine j_iload C d_L_areRight_67 1 rfl ?_
          refine j_icmp_gt (tgt := 84) C d_L_areRight_69 rfl rz22 rz3 (fun c => ?_) (fun c => ?_)
          · have h := h.1 c
            refine j_sub (L' := [(0, .ref (gad G 54)), (1, .int (zI v1)), (3, .int (zI v3)), (4, .int (zI z3)), (5, .int (zI z5))]) [2, 3, 5, 1, 0] rfl ?_
            refine w_L_areRight_b84 C ih σ v1 v3 z3 z5 hσ r1 r3 rz3 rz5 h
          · have h := h.2 c
            refine j_iload C d_L_areRight_72 1 rfl ?_
            refine j_sipush C d_L_areRight_74 rfl ?_
            refine j_icmp_gt (tgt := 84) C d_L_areRight_77 rfl rz3 (zR_of (x := 2880) rfl) (fun c => ?_) (fun c => ?_)
            · have h := h.1 c
              refine j_sub (L' := [(0, .ref (gad G 54)), (1, .int (zI v1)), (3, .int (zI v3)), (4, .int (zI z3)), (5, .int (zI z5))]) [2, 3, 5, 1, 0] rfl ?_
              refine w_L_areRight_b84 C ih σ v1 v3 z3 z5 hσ r1 r3 rz3 rz5 h
            · have h := h.2 c
              refine j_iconst C d_L_areRight_80 ?_
              refine j_goto (tgt := 85) C d_L_areRight_81 rfl ?_
              refine j_sub (L' := [(0, .ref (gad G 54)), (1, .int (zI v1)), (3, .int (zI v3)), (4, .int (zI z3)), (5, .int (zI z5))]) [2, 3, 5, 1, 0] rfl ?_
              refine w_L_areRight_b85 C ih σ v1 v3 z3 z5 1 hσ r1 r3 rz3 rz5 (zR_of (x := 1) rfl) h
set_option maxRecDepth 100000 in
set_option maxHeartbeats 4000000 in
theorem w_L_areRight_L140 {X : zX} {G : zG} (C : zC X G b_L_areRight "GateRoadsLaw" 6 (some .boolean) 6 147) {σ : zM} {v2 : Int} (hσ : zRM σ) (r2 : zR v2) {Q : Int → zM → Prop} {k165 : Int → Prop} (hk165 : ∀ (v1 : Int), zR v1 → k165 v1 → zJ X G (zQi X G Q) 6 165 [(1, .int (zI v1)), (2, .int (zI v2))] [] σ) : ∀ (n : Nat) (v1 : Int) (v3 : Int) (r1 : zR v1) (r3 : zR v3), wp_L_areRight_L140 σ v2 k165 Q n v1 v3 → zJ X G (zQi X G Q) 6 140 [(0, .ref (gad G 54)), (1, .int (zI v1)), (2, .int (zI v2)), (3, .int (zI v3))] [] σ := by
  intro n
  induction n with
  | zero => intro v1 v3 r1 r3 h; exact False.elim h
  | succ n ih =>
    intro v1 v3 r1 r3 h
    rw [wp_L_areRight_L140] at h
    refine j_iload_n C d_L_areRight_140 3 rfl rfl ?_
    refine j_aload_n C d_L_areRight_141 0 rfl rfl ?_
    refine j_iconst C d_L_areRight_142 ?_
    refine j_callV C d_L_areRight_143 ml_L_13 mi_X_count (c_X_count (xl X) (gD G) (gad G) (gca G) (v1 := 0) hσ (zR_of (x := 0) rfl) h) sh_54 rfl rfl rfl rfl rfl rfl rfl (fun z27 σ28 rz27 hσ28 h => ?_)
    obtain ⟨ez27, h⟩ := h; subst ez27
    refine j_icmp_ge (tgt := 165) C d_L_areRight_146 rfl r3 rz27 (fun c => ?_) (fun c => ?_)
    · have h := h.1 c
      refine j_sub (L' := [(1, .int (zI v1)), (2, .int (zI v2))]) [1, 2] rfl ?_
      exact hk165 v1 r1 h
    · have h := h.2 c
      refine j_iload_n C d_L_areRight_149 1 rfl rfl ?_
      refine j_aload_n C d_L_areRight_150 0 rfl rfl ?_
      refine j_iload_n C d_L_areRight_151 3 rfl rfl ?_
      refine j_bipush C d_L_areRight_152 rfl ?_
      refine j_callV C d_L_areRight_154 ml_L_23 mi_X_ofRoad (c_X_ofRoad (xl X) (gD G) (gad G) (gca G) (v1 := v3) (v2 := 12) hσ r3 (zR_of (x := 12) rfl) h) sh_54 rfl rfl rfl rfl rfl rfl rfl (fun z29 σ30 rz29 hσ30 h => ?_)
      obtain ⟨ez29, h⟩ := h; subst ez29
      refine j_isub C d_L_areRight_157 ?_
      obtain ⟨g31, h⟩ := h
      refine j_istore_n (L' := [(1, .int (zI (v1 - z29))), (0, .ref (gad G 54)), (2, .int (zI v2)), (3, .int (zI v3))]) C d_L_areRight_158 rfl rfl rfl ?_
      obtain ⟨g32, h⟩ := h
      refine j_iinc (L' := [(3, .int (zI (v3 + 1))), (1, .int (zI (v1 - z29))), (0, .ref (gad G 54)), (2, .int (zI v2))]) C d_L_areRight_159 3 rfl rfl rfl ?_
      refine j_goto (tgt := 140) C d_L_areRight_162 rfl ?_
      refine j_sub (L' := [(0, .ref (gad G 54)), (1, .int (zI (v1 - z29))), (2, .int (zI v2)), (3, .int (zI (v3 + 1)))]) [2, 1, 3, 0] rfl ?_
      exact ih (v1 - z29) (v3 + 1) g31 g32 h
set_option maxRecDepth 100000 in
set_option maxHeartbeats 4000000 in
theorem w_L_areRight_b138 {X : zX} {G : zG} (C : zC X G b_L_areRight "GateRoadsLaw" 6 (some .boolean) 6 147) {Q : Int → zM → Prop} (σ : zM) (v1 : Int) (v2 : Int) (hσ : zRM σ) (r1 : zR v1) (r2 : zR v2) (h : wp_L_areRight_b138 Q σ v1 v2) : zJ X G (zQi X G Q) 6 138 [(0, .ref (gad G 54)), (1, .int (zI v1)), (2, .int (zI v2))] [] σ := by
  unfold wp_L_areRight_b138 at h
  refine j_iconst C d_L_areRight_138 ?_
  refine j_istore_n (L' := [(3, .int (zI 0)), (0, .ref (gad G 54)), (1, .int (zI v1)), (2, .int (zI v2))]) C d_L_areRight_139 rfl rfl rfl ?_
  obtain ⟨n34, h⟩ := h
  refine j_sub (L' := [(0, .ref (gad G 54)), (1, .int (zI v1)), (2, .int (zI v2)), (3, .int (zI 0))]) [1, 2, 3, 0] rfl ?_
  refine w_L_areRight_L140 C hσ r2 ?_ n34 v1 0 r1 (zR_of (x := 0) rfl) h
  · intro u33 ru33 h
    refine j_iload_n C d_L_areRight_165 1 rfl rfl ?_
    refine j_if_eq (tgt := 177) C d_L_areRight_166 rfl r2 (fun c => ?_) (fun c => ?_)
    · have h := h.1 c
      refine j_iconst C d_L_areRight_177 ?_
      exact j_zreturn C d_L_areRight_178 (by decide) hσ h
    · have h := h.2 c
      refine j_iload_n C d_L_areRight_169 0 rfl rfl ?_
      refine j_if_ne (tgt := 177) C d_L_areRight_170 rfl ru33 (fun c => ?_) (fun c => ?_)
      · have h := h.1 c
        refine j_iconst C d_L_areRight_177 ?_
        exact j_zreturn C d_L_areRight_178 (by decide) hσ h
      · have h := h.2 c
        refine j_iconst C d_L_areRight_173 ?_
        refine j_goto (tgt := 178) C d_L_areRight_174 rfl ?_
        exact j_zreturn C d_L_areRight_178 (by decide) hσ h
set_option maxRecDepth 100000 in
set_option maxHeartbeats 4000000 in
theorem c_L_areRight (l : Launch) (D : va_G) (ad : Nat → Nat) (ca : Nat → ClassId) {σ : zM} {Q : Int → zM → Prop} (hσ : zRM σ) (h : wp_L_areRight σ Q) : zCi l D ad ca y_L_areRight b_L_areRight 6 (some .boolean) (zrm 6 147) [.ref (ad 54)] σ Q := by
  refine zCi_of (by decide +kernel) (Nat.le_of_ble_eq_true rfl) ?_
  intro X G C hl hD had hca
  subst hl hD had hca
  have C : zC X G b_L_areRight "GateRoadsLaw" 6 (some .boolean) 6 147 := C
  show zJ X G (zQi X G Q) 6 0 [(0, .ref (gad G 54))] [] σ
  unfold wp_L_areRight at h
  refine j_iconst C d_L_areRight_0 ?_
  refine j_istore_n (L' := [(1, .int (zI 0)), (0, .ref (gad G 54))]) C d_L_areRight_1 rfl rfl rfl ?_
  refine j_iconst C d_L_areRight_2 ?_
  refine j_istore_n (L' := [(2, .int (zI 1)), (1, .int (zI 0)), (0, .ref (gad G 54))]) C d_L_areRight_3 rfl rfl rfl ?_
  refine j_iconst C d_L_areRight_4 ?_
  refine j_istore_n (L' := [(3, .int (zI 0)), (2, .int (zI 1)), (1, .int (zI 0)), (0, .ref (gad G 54))]) C d_L_areRight_5 rfl rfl rfl ?_
  obtain ⟨n35, h⟩ := h
  refine j_sub (L' := [(0, .ref (gad G 54)), (1, .int (zI 0)), (2, .int (zI 1)), (3, .int (zI 0))]) [3, 2, 1, 0] rfl ?_
  refine w_L_areRight_L6 C ?_ n35 σ 0 1 0 hσ (zR_of (x := 0) rfl) (zR_of (x := 1) rfl) (zR_of (x := 0) rfl) h
  · intro σ24 u25 u26 hσ24 ru25 ru26 h
    refine w_L_areRight_b138 C σ24 u25 u26 hσ24 ru25 ru26 h
set_option maxRecDepth 100000 in
set_option maxHeartbeats 4000000 in
theorem w_L_isDue_b174 {X : zX} {G : zG} (C : zC X G b_L_isDue "GateRoadsLaw" 8 (some .boolean) 5 116) {Q : Int → zM → Prop} (σ : zM) (v1 : Int) (v3 : Int) (s0 : Int) (hσ : zRM σ) (r1 : zR v1) (r3 : zR v3) (rs0 : zR s0) (h : wp_L_isDue_b174 Q σ v1 v3 s0) : zJ X G (zQi X G Q) 8 174 [(0, .ref (gad G 54)), (1, .int (zI v1)), (3, .int (zI v3))] [.int (zI s0)] σ := by
  unfold wp_L_isDue_b174 at h
  refine j_istore (L' := [(7, .int (zI s0)), (0, .ref (gad G 54)), (1, .int (zI v1)), (3, .int (zI v3))]) C d_L_isDue_174 rfl rfl ?_
  refine j_aload_n C d_L_isDue_176 1 rfl rfl ?_
  refine j_iload_n C d_L_isDue_177 2 rfl rfl ?_
  refine j_iload_n C d_L_isDue_178 3 rfl rfl ?_
  refine j_callV C d_L_isDue_179 ml_L_55 mi_X_stay (c_X_stay (xl X) (gD G) (gad G) (gca G) (v1 := v1) (v2 := v3) hσ r1 r3 h) sh_54 rfl rfl rfl rfl rfl rfl rfl (fun z5 σ6 rz5 hσ6 h => ?_)
  refine j_iload C d_L_isDue_182 0 rfl ?_
  refine j_icmp_ne (tgt := 191) C d_L_isDue_184 rfl rz5 rs0 (fun c => ?_) (fun c => ?_)
  · have h := h.1 c
    refine j_iconst C d_L_isDue_191 ?_
    exact j_zreturn C d_L_isDue_192 (by decide) hσ6 h
  · have h := h.2 c
    refine j_iconst C d_L_isDue_187 ?_
    refine j_goto (tgt := 192) C d_L_isDue_188 rfl ?_
    exact j_zreturn C d_L_isDue_192 (by decide) hσ6 h
set_option maxRecDepth 100000 in
set_option maxHeartbeats 4000000 in
theorem w_L_isDue_b149 {X : zX} {G : zG} (C : zC X G b_L_isDue "GateRoadsLaw" 8 (some .boolean) 5 116) {Q : Int → zM → Prop} (σ : zM) (v1 : Int) (v3 : Int) (v4 : Int) (v5 : Int) (s0 : Int) (hσ : zRM σ) (r1 : zR v1) (r3 : zR v3) (r4 : zR v4) (r5 : zR v5) (rs0 : zR s0) (h : wp_L_isDue_b149 Q σ v1 v3 v4 v5 s0) : zJ X G (zQi X G Q) 8 149 [(0, .ref (gad G 54)), (1, .int (zI v1)), (3, .int (zI v3)), (4, .int (zI v4)), (5, .int (zI v5))] [.int (zI s0)] σ := by
  unfold wp_L_isDue_b149 at h
  refine j_istore (L' := [(6, .int (zI s0)), (0, .ref (gad G 54)), (1, .int (zI v1)), (3, .int (zI v3)), (4, .int (zI v4)), (5, .int (zI v5))]) C d_L_isDue_149 rfl rfl ?_
  refine j_iload C d_L_isDue_151 0 rfl ?_
  refine j_if_eq (tgt := 163) C d_L_isDue_153 rfl rs0 (fun c => ?_) (fun c => ?_)
  · have h := h.1 c
    refine j_iload C d_L_isDue_163 4 rfl ?_
    refine j_if_eq (tgt := 173) C d_L_isDue_165 rfl r4 (fun c => ?_) (fun c => ?_)
    · have h := h.1 c
      refine j_iconst C d_L_isDue_173 ?_
      refine j_sub (L' := [(0, .ref (gad G 54)), (1, .int (zI v1)), (3, .int (zI v3))]) [1, 2, 3] rfl ?_
      refine w_L_isDue_b174 C σ v1 v3 (-1) hσ r1 r3 (zR_of (x := (-1)) rfl) h
    · have h := h.2 c
      refine j_bipush C d_L_isDue_168 rfl ?_
      refine j_goto (tgt := 174) C d_L_isDue_170 rfl ?_
      refine j_sub (L' := [(0, .ref (gad G 54)), (1, .int (zI v1)), (3, .int (zI v3))]) [1, 2, 3] rfl ?_
      refine w_L_isDue_b174 C σ v1 v3 (-5) hσ r1 r3 (zR_of (x := (-5)) rfl) h
  · have h := h.2 c
    refine j_iload C d_L_isDue_156 5 rfl ?_
    refine j_iload_n C d_L_isDue_158 3 rfl rfl ?_
    refine j_iadd C d_L_isDue_159 ?_
    refine j_goto (tgt := 174) C d_L_isDue_160 rfl ?_
    obtain ⟨g7, h⟩ := h
    refine j_sub (L' := [(0, .ref (gad G 54)), (1, .int (zI v1)), (3, .int (zI v3))]) [1, 2, 3] rfl ?_
    refine w_L_isDue_b174 C σ v1 v3 (v5 + v3) hσ r1 r3 g7 h
set_option maxRecDepth 100000 in
set_option maxHeartbeats 4000000 in
theorem w_L_isDue_b148 {X : zX} {G : zG} (C : zC X G b_L_isDue "GateRoadsLaw" 8 (some .boolean) 5 116) {Q : Int → zM → Prop} (σ : zM) (v1 : Int) (v3 : Int) (v4 : Int) (v5 : Int) (hσ : zRM σ) (r1 : zR v1) (r3 : zR v3) (r4 : zR v4) (r5 : zR v5) (h : wp_L_isDue_b148 Q σ v1 v3 v4 v5) : zJ X G (zQi X G Q) 8 148 [(0, .ref (gad G 54)), (1, .int (zI v1)), (3, .int (zI v3)), (4, .int (zI v4)), (5, .int (zI v5))] [] σ := by
  unfold wp_L_isDue_b148 at h
  refine j_iconst C d_L_isDue_148 ?_
  refine w_L_isDue_b149 C σ v1 v3 v4 v5 0 hσ r1 r3 r4 r5 (zR_of (x := 0) rfl) h
set_option maxRecDepth 100000 in
set_option maxHeartbeats 4000000 in
theorem w_L_isDue_b111 {X : zX} {G : zG} (C : zC X G b_L_isDue "GateRoadsLaw" 8 (some .boolean) 5 116) {Q : Int → zM → Prop} (σ : zM) (v1 : Int) (v2 : Int) (s0 : Int) (hσ : zRM σ) (r1 : zR v1) (r2 : zR v2) (rs0 : zR s0) (h : wp_L_isDue_b111 Q σ v1 v2 s0) : zJ X G (zQi X G Q) 8 111 [(0, .ref (gad G 54)), (1, .int (zI v1)), (2, .int (zI v2))] [.int (zI s0)] σ := by
  unfold wp_L_isDue_b111 at h
  refine j_istore (L' := [(7, .int (zI s0)), (0, .ref (gad G 54)), (1, .int (zI v1)), (2, .int (zI v2))]) C d_L_isDue_111 rfl rfl ?_
  refine j_aload_n C d_L_isDue_113 1 rfl rfl ?_
  refine j_iload_n C d_L_isDue_114 2 rfl rfl ?_
  refine j_iload_n C d_L_isDue_115 3 rfl rfl ?_
  refine j_callV C d_L_isDue_116 ml_L_63 mi_X_go (c_X_go (xl X) (gD G) (gad G) (gca G) (v1 := v1) (v2 := v2) hσ r1 r2 h) sh_54 rfl rfl rfl rfl rfl rfl rfl (fun z10 σ11 rz10 hσ11 h => ?_)
  refine j_iload C d_L_isDue_119 0 rfl ?_
  refine j_icmp_ne (tgt := 128) C d_L_isDue_121 rfl rz10 rs0 (fun c => ?_) (fun c => ?_)
  · have h := h.1 c
    refine j_iconst C d_L_isDue_128 ?_
    exact j_zreturn C d_L_isDue_129 (by decide) hσ11 h
  · have h := h.2 c
    refine j_iconst C d_L_isDue_124 ?_
    refine j_goto (tgt := 129) C d_L_isDue_125 rfl ?_
    exact j_zreturn C d_L_isDue_129 (by decide) hσ11 h
set_option maxRecDepth 100000 in
set_option maxHeartbeats 4000000 in
theorem w_L_isDue_b110 {X : zX} {G : zG} (C : zC X G b_L_isDue "GateRoadsLaw" 8 (some .boolean) 5 116) {Q : Int → zM → Prop} (σ : zM) (v1 : Int) (v2 : Int) (hσ : zRM σ) (r1 : zR v1) (r2 : zR v2) (h : wp_L_isDue_b110 Q σ v1 v2) : zJ X G (zQi X G Q) 8 110 [(0, .ref (gad G 54)), (1, .int (zI v1)), (2, .int (zI v2))] [] σ := by
  unfold wp_L_isDue_b110 at h
  refine j_iconst C d_L_isDue_110 ?_
  refine w_L_isDue_b111 C σ v1 v2 (-1) hσ r1 r2 (zR_of (x := (-1)) rfl) h
set_option maxRecDepth 100000 in
set_option maxHeartbeats 4000000 in
theorem w_L_isDue_b72 {X : zX} {G : zG} (C : zC X G b_L_isDue "GateRoadsLaw" 8 (some .boolean) 5 116) {Q : Int → zM → Prop} (σ : zM) (v1 : Int) (v2 : Int) (v4 : Int) (v5 : Int) (s0 : Int) (hσ : zRM σ) (r1 : zR v1) (r2 : zR v2) (r4 : zR v4) (r5 : zR v5) (rs0 : zR s0) (h : wp_L_isDue_b72 Q σ v1 v2 v4 v5 s0) : zJ X G (zQi X G Q) 8 72 [(0, .ref (gad G 54)), (1, .int (zI v1)), (2, .int (zI v2)), (4, .int (zI v4)), (5, .int (zI v5))] [.int (zI s0)] σ := by
  unfold wp_L_isDue_b72 at h
  refine j_istore (L' := [(6, .int (zI s0)), (0, .ref (gad G 54)), (1, .int (zI v1)), (2, .int (zI v2)), (4, .int (zI v4)), (5, .int (zI v5))]) C d_L_isDue_72 rfl rfl ?_
  refine j_iload C d_L_isDue_74 0 rfl ?_
  refine j_if_eq (tgt := 91) C d_L_isDue_76 rfl rs0 (fun c => ?_) (fun c => ?_)
  · have h := h.1 c
    refine j_iload C d_L_isDue_91 4 rfl ?_
    refine j_if_eq (tgt := 110) C d_L_isDue_93 rfl r4 (fun c => ?_) (fun c => ?_)
    · have h := h.1 c
      refine j_sub (L' := [(0, .ref (gad G 54)), (1, .int (zI v1)), (2, .int (zI v2))]) [1, 2, 3] rfl ?_
      refine w_L_isDue_b110 C σ v1 v2 hσ r1 r2 h
    · have h := h.2 c
      refine j_iload_n C d_L_isDue_96 3 rfl rfl ?_
      refine j_aload_n C d_L_isDue_97 1 rfl rfl ?_
      refine j_iconst C d_L_isDue_98 ?_
      refine j_callV C d_L_isDue_99 ml_L_13 mi_X_count (c_X_count (xl X) (gD G) (gad G) (gca G) (v1 := 0) hσ (zR_of (x := 0) rfl) h) sh_54 rfl rfl rfl rfl rfl rfl rfl (fun z12 σ13 rz12 hσ13 h => ?_)
      obtain ⟨ez12, h⟩ := h; subst ez12
      refine j_icmp_ge (tgt := 110) C d_L_isDue_102 rfl r2 rz12 (fun c => ?_) (fun c => ?_)
      · have h := h.1 c
        refine j_sub (L' := [(0, .ref (gad G 54)), (1, .int (zI v1)), (2, .int (zI v2))]) [1, 2, 3] rfl ?_
        refine w_L_isDue_b110 C σ v1 v2 hσ r1 r2 h
      · have h := h.2 c
        refine j_bipush C d_L_isDue_105 rfl ?_
        refine j_goto (tgt := 111) C d_L_isDue_107 rfl ?_
        refine j_sub (L' := [(0, .ref (gad G 54)), (1, .int (zI v1)), (2, .int (zI v2))]) [1, 2, 3] rfl ?_
        refine w_L_isDue_b111 C σ v1 v2 (-5) hσ r1 r2 (zR_of (x := (-5)) rfl) h
  · have h := h.2 c
    refine j_iload C d_L_isDue_79 5 rfl ?_
    refine j_aload_n C d_L_isDue_81 1 rfl rfl ?_
    refine j_iload_n C d_L_isDue_82 3 rfl rfl ?_
    refine j_iconst C d_L_isDue_83 ?_
    refine j_callV C d_L_isDue_84 ml_L_23 mi_X_ofRoad (c_X_ofRoad (xl X) (gD G) (gad G) (gca G) (v1 := v2) (v2 := 2) hσ r2 (zR_of (x := 2) rfl) h) sh_54 rfl rfl rfl rfl rfl rfl rfl (fun z14 σ15 rz14 hσ15 h => ?_)
    obtain ⟨ez14, h⟩ := h; subst ez14
    refine j_iadd C d_L_isDue_87 ?_
    refine j_goto (tgt := 111) C d_L_isDue_88 rfl ?_
    obtain ⟨g16, h⟩ := h
    refine j_sub (L' := [(0, .ref (gad G 54)), (1, .int (zI v1)), (2, .int (zI v2))]) [1, 2, 3] rfl ?_
    refine w_L_isDue_b111 C σ v1 v2 (v5 + z14) hσ r1 r2 g16 h
set_option maxRecDepth 100000 in
set_option maxHeartbeats 4000000 in
theorem w_L_isDue_b71 {X : zX} {G : zG} (C : zC X G b_L_isDue "GateRoadsLaw" 8 (some .boolean) 5 116) {Q : Int → zM → Prop} (σ : zM) (v1 : Int) (v2 : Int) (v4 : Int) (v5 : Int) (hσ : zRM σ) (r1 : zR v1) (r2 : zR v2) (r4 : zR v4) (r5 : zR v5) (h : wp_L_isDue_b71 Q σ v1 v2 v4 v5) : zJ X G (zQi X G Q) 8 71 [(0, .ref (gad G 54)), (1, .int (zI v1)), (2, .int (zI v2)), (4, .int (zI v4)), (5, .int (zI v5))] [] σ := by
  unfold wp_L_isDue_b71 at h
  refine j_iconst C d_L_isDue_71 ?_
  refine w_L_isDue_b72 C σ v1 v2 v4 v5 0 hσ r1 r2 r4 r5 (zR_of (x := 0) rfl) h
set_option maxRecDepth 100000 in
set_option maxHeartbeats 4000000 in
theorem w_L_isDue_b14 {X : zX} {G : zG} (C : zC X G b_L_isDue "GateRoadsLaw" 8 (some .boolean) 5 116) {Q : Int → zM → Prop} (σ : zM) (v1 : Int) (v2 : Int) (v3 : Int) (s0 : Int) (hσ : zRM σ) (r1 : zR v1) (r2 : zR v2) (r3 : zR v3) (rs0 : zR s0) (h : wp_L_isDue_b14 Q σ v1 v2 v3 s0) : zJ X G (zQi X G Q) 8 14 [(0, .ref (gad G 54)), (1, .int (zI v1)), (2, .int (zI v2)), (3, .int (zI v3))] [.int (zI s0)] σ := by
  unfold wp_L_isDue_b14 at h
  refine j_istore (L' := [(4, .int (zI s0)), (0, .ref (gad G 54)), (1, .int (zI v1)), (2, .int (zI v2)), (3, .int (zI v3))]) C d_L_isDue_14 rfl rfl ?_
  refine j_aload_n C d_L_isDue_16 1 rfl rfl ?_
  refine j_iload_n C d_L_isDue_17 2 rfl rfl ?_
  refine j_iconst C d_L_isDue_18 ?_
  refine j_callV C d_L_isDue_19 ml_L_29 mi_X_ofTraveller (c_X_ofTraveller (xl X) (gD G) (gad G) (gca G) (v1 := v1) (v2 := 1) hσ r1 (zR_of (x := 1) rfl) h) sh_54 rfl rfl rfl rfl rfl rfl rfl (fun z3 σ4 rz3 hσ4 h => ?_)
  obtain ⟨ez3, h⟩ := h; subst ez3
  refine j_istore (L' := [(5, .int (zI z3)), (4, .int (zI s0)), (0, .ref (gad G 54)), (1, .int (zI v1)), (2, .int (zI v2)), (3, .int (zI v3))]) C d_L_isDue_22 rfl rfl ?_
  refine j_iload_n C d_L_isDue_24 5 rfl rfl ?_
  refine j_if_ne (tgt := 130) C d_L_isDue_25 rfl r3 (fun c => ?_) (fun c => ?_)
  · have h := h.1 c
    refine j_iload C d_L_isDue_130 1 rfl ?_
    refine j_if_eq (tgt := 148) C d_L_isDue_132 rfl rs0 (fun c => ?_) (fun c => ?_)
    · have h := h.1 c
      refine j_sub (L' := [(0, .ref (gad G 54)), (1, .int (zI v1)), (3, .int (zI v3)), (4, .int (zI s0)), (5, .int (zI z3))]) [2, 3, 5, 1, 0] rfl ?_
      refine w_L_isDue_b148 C σ v1 v3 s0 z3 hσ r1 r3 rs0 rz3 h
    · have h := h.2 c
      refine j_iload_n C d_L_isDue_135 5 rfl rfl ?_
      refine j_aload_n C d_L_isDue_136 2 rfl rfl ?_
      refine j_iload_n C d_L_isDue_137 3 rfl rfl ?_
      refine j_callV C d_L_isDue_138 ml_L_66 mi_X_canStay (c_X_canStay (xl X) (gD G) (gad G) (gca G) (v1 := v1) hσ r1 h) sh_54 rfl rfl rfl rfl rfl rfl rfl (fun z8 σ9 rz8 hσ9 h => ?_)
      obtain ⟨ez8, h⟩ := h; subst ez8
      refine j_icmp_gt (tgt := 148) C d_L_isDue_141 rfl r3 rz8 (fun c => ?_) (fun c => ?_)
      · have h := h.1 c
        refine j_sub (L' := [(0, .ref (gad G 54)), (1, .int (zI v1)), (3, .int (zI v3)), (4, .int (zI s0)), (5, .int (zI z3))]) [2, 3, 5, 1, 0] rfl ?_
        refine w_L_isDue_b148 C σ v1 v3 s0 z3 hσ r1 r3 rs0 rz3 h
      · have h := h.2 c
        refine j_iconst C d_L_isDue_144 ?_
        refine j_goto (tgt := 149) C d_L_isDue_145 rfl ?_
        refine j_sub (L' := [(0, .ref (gad G 54)), (1, .int (zI v1)), (3, .int (zI v3)), (4, .int (zI s0)), (5, .int (zI z3))]) [2, 3, 5, 1, 0] rfl ?_
        refine w_L_isDue_b149 C σ v1 v3 s0 z3 1 hσ r1 r3 rs0 rz3 (zR_of (x := 1) rfl) h
  · have h := h.2 c
    refine j_iload C d_L_isDue_28 1 rfl ?_
    refine j_if_eq (tgt := 71) C d_L_isDue_30 rfl rs0 (fun c => ?_) (fun c => ?_)
    · have h := h.1 c
      refine j_sub (L' := [(0, .ref (gad G 54)), (1, .int (zI v1)), (2, .int (zI v2)), (4, .int (zI s0)), (5, .int (zI z3))]) [2, 3, 4, 1, 0] rfl ?_
      refine w_L_isDue_b71 C σ v1 v2 s0 z3 hσ r1 r2 rs0 rz3 h
    · have h := h.2 c
      refine j_iload_n C d_L_isDue_33 4 rfl rfl ?_
      refine j_aload_n C d_L_isDue_34 2 rfl rfl ?_
      refine j_iconst C d_L_isDue_35 ?_
      refine j_callV C d_L_isDue_36 ml_L_13 mi_X_count (c_X_count (xl X) (gD G) (gad G) (gca G) (v1 := 0) hσ (zR_of (x := 0) rfl) h) sh_54 rfl rfl rfl rfl rfl rfl rfl (fun z17 σ18 rz17 hσ18 h => ?_)
      obtain ⟨ez17, h⟩ := h; subst ez17
      refine j_icmp_ge (tgt := 71) C d_L_isDue_39 rfl r2 rz17 (fun c => ?_) (fun c => ?_)
      · have h := h.1 c
        refine j_sub (L' := [(0, .ref (gad G 54)), (1, .int (zI v1)), (2, .int (zI v2)), (4, .int (zI s0)), (5, .int (zI z3))]) [2, 3, 4, 1, 0] rfl ?_
        refine w_L_isDue_b71 C σ v1 v2 s0 z3 hσ r1 r2 rs0 rz3 h
      · have h := h.2 c
        refine j_aload_n C d_L_isDue_42 2 rfl rfl ?_
        refine j_iload_n C d_L_isDue_43 4 rfl rfl ?_
        refine j_iconst C d_L_isDue_44 ?_
        refine j_callV C d_L_isDue_45 ml_L_23 mi_X_ofRoad (c_X_ofRoad (xl X) (gD G) (gad G) (gca G) (v1 := v2) (v2 := 0) hσ r2 (zR_of (x := 0) rfl) h) sh_54 rfl rfl rfl rfl rfl rfl rfl (fun z19 σ20 rz19 hσ20 h => ?_)
        obtain ⟨ez19, h⟩ := h; subst ez19
        refine j_aload_n C d_L_isDue_48 2 rfl rfl ?_
        refine j_iload_n C d_L_isDue_49 3 rfl rfl ?_
        refine j_iconst C d_L_isDue_50 ?_
        refine j_callV C d_L_isDue_51 ml_L_29 mi_X_ofTraveller (c_X_ofTraveller (xl X) (gD G) (gad G) (gca G) (v1 := v1) (v2 := 0) hσ r1 (zR_of (x := 0) rfl) h) sh_54 rfl rfl rfl rfl rfl rfl rfl (fun z21 σ22 rz21 hσ22 h => ?_)
        obtain ⟨ez21, h⟩ := h; subst ez21
        refine j_icmp_ne (tgt := 71) C d_L_isDue_54 rfl rz19 rz21 (fun c => ?_) (fun c => ?_)
        · have h := h.1 c
          refine j_sub (L' := [(0, .ref (gad G 54)), (1, .int (zI v1)), (2, .int (zI v2)), (4, .int (zI s0)), (5, .int (zI z3))]) [2, 3, 4, 1, 0] rfl ?_
          refine w_L_isDue_b71 C σ v1 v2 s0 z3 hσ r1 r2 rs0 rz3 h
        · have h := h.2 c
          refine j_aload_n C d_L_isDue_57 2 rfl rfl ?_
          refine j_iload_n C d_L_isDue_58 4 rfl rfl ?_
          refine j_iload C d_L_isDue_59 0 rfl ?_
          refine j_callV C d_L_isDue_61 ml_L_76 mi_X_whyShut (c_X_whyShut (xl X) (gD G) (gad G) (gca G) (v1 := v2) (v2 := z3) hσ r2 rz3 h) sh_54 rfl rfl rfl rfl rfl rfl rfl (fun z23 σ24 rz23 hσ24 h => ?_)
          obtain ⟨ez23, h⟩ := h; subst ez23
          refine j_if_ne (tgt := 71) C d_L_isDue_64 rfl rz23 (fun c => ?_) (fun c => ?_)
          · have h := h.1 c
            refine j_sub (L' := [(0, .ref (gad G 54)), (1, .int (zI v1)), (2, .int (zI v2)), (4, .int (zI s0)), (5, .int (zI z3))]) [2, 3, 4, 1, 0] rfl ?_
            refine w_L_isDue_b71 C σ v1 v2 s0 z3 hσ r1 r2 rs0 rz3 h
          · have h := h.2 c
            refine j_iconst C d_L_isDue_67 ?_
            refine j_goto (tgt := 72) C d_L_isDue_68 rfl ?_
            refine j_sub (L' := [(0, .ref (gad G 54)), (1, .int (zI v1)), (2, .int (zI v2)), (4, .int (zI s0)), (5, .int (zI z3))]) [2, 3, 4, 1, 0] rfl ?_
            refine w_L_isDue_b72 C σ v1 v2 s0 z3 1 hσ r1 r2 rs0 rz3 (zR_of (x := 1) rfl) h
set_option maxRecDepth 100000 in
set_option maxHeartbeats 4000000 in
theorem c_L_isDue (l : Launch) (D : va_G) (ad : Nat → Nat) (ca : Nat → ClassId) {σ : zM} {v1 : Int} {v2 : Int} {v3 : Int} {Q : Int → zM → Prop} (hσ : zRM σ) (r1 : zR v1) (r2 : zR v2) (r3 : zR v3) (h : wp_L_isDue σ v1 v2 v3 Q) : zCi l D ad ca y_L_isDue b_L_isDue 8 (some .boolean) (zrm 5 116) [.ref (ad 54), .int (zI v1), .int (zI v2), .int (zI v3)] σ Q := by
  refine zCi_of (by decide +kernel) (Nat.le_of_ble_eq_true rfl) ?_
  intro X G C hl hD had hca
  subst hl hD had hca
  have C : zC X G b_L_isDue "GateRoadsLaw" 8 (some .boolean) 5 116 := C
  show zJ X G (zQi X G Q) 8 0 [(0, .ref (gad G 54)), (1, .int (zI v1)), (2, .int (zI v2)), (3, .int (zI v3))] [] σ
  unfold wp_L_isDue at h
  refine j_iload_n C d_L_isDue_0 1 rfl rfl ?_
  refine j_aload_n C d_L_isDue_1 0 rfl rfl ?_
  refine j_iconst C d_L_isDue_2 ?_
  refine j_callV C d_L_isDue_3 ml_L_13 mi_X_count (c_X_count (xl X) (gD G) (gad G) (gca G) (v1 := 2) hσ (zR_of (x := 2) rfl) h) sh_54 rfl rfl rfl rfl rfl rfl rfl (fun z1 σ2 rz1 hσ2 h => ?_)
  obtain ⟨ez1, h⟩ := h; subst ez1
  refine j_icmp_ge (tgt := 13) C d_L_isDue_6 rfl r1 rz1 (fun c => ?_) (fun c => ?_)
  · have h := h.1 c
    refine j_iconst C d_L_isDue_13 ?_
    refine w_L_isDue_b14 C σ v1 v2 v3 0 hσ r1 r2 r3 (zR_of (x := 0) rfl) h
  · have h := h.2 c
    refine j_iconst C d_L_isDue_9 ?_
    refine j_goto (tgt := 14) C d_L_isDue_10 rfl ?_
    refine w_L_isDue_b14 C σ v1 v2 v3 1 hσ r1 r2 r3 (zR_of (x := 1) rfl) h
set_option maxRecDepth 100000 in
set_option maxHeartbeats 4000000 in
theorem c_L_isUndone (l : Launch) (D : va_G) (ad : Nat → Nat) (ca : Nat → ClassId) {σ : zM} {v1 : Int} {v2 : Int} {v3 : Int} {v4 : Int} {v5 : Int64} {Q : Int → zM → Prop} (hσ : zRM σ) (r1 : zR v1) (r2 : zR v2) (r3 : zR v3) (r4 : zR v4) (h : wp_L_isUndone σ v1 v2 v3 v4 v5 Q) : zCi l D ad ca y_L_isUndone b_L_isUndone 8 (some .boolean) (zrm 7 164) [.ref (ad 54), .int (zI v1), .int (zI v2), .int (zI v3), .int (zI v4), .long v5] σ Q := by
  refine zCi_of (by decide +kernel) (Nat.le_of_ble_eq_true rfl) ?_
  intro X G C hl hD had hca
  subst hl hD had hca
  have C : zC X G b_L_isUndone "GateRoadsLaw" 8 (some .boolean) 7 164 := C
  show zJ X G (zQi X G Q) 8 0 [(0, .ref (gad G 54)), (1, .int (zI v1)), (2, .int (zI v2)), (3, .int (zI v3)), (4, .int (zI v4)), (5, .long v5)] [] σ
  unfold wp_L_isUndone at h
  refine j_aload_n C d_L_isUndone_0 0 rfl rfl ?_
  refine j_iconst C d_L_isUndone_1 ?_
  refine j_callV C d_L_isUndone_2 ml_L_13 mi_X_count (c_X_count (xl X) (gD G) (gad G) (gca G) (v1 := 5) hσ (zR_of (x := 5) rfl) h) sh_54 rfl rfl rfl rfl rfl rfl rfl (fun z1 σ2 rz1 hσ2 h => ?_)
  obtain ⟨ez1, h⟩ := h; subst ez1
  refine j_istore (L' := [(7, .int (zI z1)), (0, .ref (gad G 54)), (1, .int (zI v1)), (2, .int (zI v2)), (3, .int (zI v3)), (4, .int (zI v4)), (5, .long v5)]) C d_L_isUndone_5 rfl rfl ?_
  refine j_aload_n C d_L_isUndone_7 1 rfl rfl ?_
  refine j_callV C d_L_isUndone_8 ml_L_79 mi_X_undo (c_X_undo (xl X) (gD G) (gad G) (gca G)  hσ h) sh_54 rfl rfl rfl rfl rfl rfl rfl (fun z3 σ4 rz3 hσ4 h => ?_)
  refine j_iload C d_L_isUndone_11 0 rfl ?_
  refine j_iconst C d_L_isUndone_13 ?_
  refine j_isub C d_L_isUndone_14 ?_
  obtain ⟨g5, h⟩ := h
  refine j_icmp_ne (tgt := 66) C d_L_isUndone_15 rfl rz3 g5 (fun c => ?_) (fun c => ?_)
  · have h := h.1 c
    refine j_iconst C d_L_isUndone_66 ?_
    exact j_zreturn C d_L_isUndone_67 (by decide) hσ4 h
  · have h := h.2 c
    refine j_aload_n C d_L_isUndone_18 1 rfl rfl ?_
    refine j_iconst C d_L_isUndone_19 ?_
    refine j_callV C d_L_isUndone_20 ml_L_13 mi_X_count (c_X_count (xl X) (gD G) (gad G) (gca G) (v1 := 5) hσ4 (zR_of (x := 5) rfl) h) sh_54 rfl rfl rfl rfl rfl rfl rfl (fun z6 σ7 rz6 hσ7 h => ?_)
    obtain ⟨ez6, h⟩ := h; subst ez6
    refine j_iload C d_L_isUndone_23 0 rfl ?_
    refine j_iconst C d_L_isUndone_25 ?_
    refine j_isub C d_L_isUndone_26 ?_
    obtain ⟨g8, h⟩ := h
    refine j_icmp_ne (tgt := 66) C d_L_isUndone_27 rfl rz6 g8 (fun c => ?_) (fun c => ?_)
    · have h := h.1 c
      refine j_iconst C d_L_isUndone_66 ?_
      exact j_zreturn C d_L_isUndone_67 (by decide) hσ4 h
    · have h := h.2 c
      refine j_aload_n C d_L_isUndone_30 1 rfl rfl ?_
      refine j_callSl C d_L_isUndone_31 ml_L_83 ms_L_view (c_L_view (xl X) (gD G) (gad G) (gca G)  hσ4 h) rfl rfl rfl rfl rfl (fun z9 σ10 hσ10 h => ?_)
      obtain ⟨ez9, h⟩ := h; subst ez9
      refine j_lload C d_L_isUndone_34 6 rfl ?_
      refine j_lcmp C d_L_isUndone_36 ?_
      refine j_if_ne (tgt := 66) C d_L_isUndone_37 rfl (zLcmp_rg _ _) (fun c => ?_) (fun c => ?_)
      · have h := h.1 c
        refine j_iconst C d_L_isUndone_66 ?_
        exact j_zreturn C d_L_isUndone_67 (by decide) hσ4 h
      · have h := h.2 c
        refine j_aload_n C d_L_isUndone_40 1 rfl rfl ?_
        refine j_iload_n C d_L_isUndone_41 2 rfl rfl ?_
        refine j_iload_n C d_L_isUndone_42 3 rfl rfl ?_
        refine j_iload_n C d_L_isUndone_43 4 rfl rfl ?_
        refine j_callS C d_L_isUndone_44 ml_L_87 ms_L_turn (c_L_turn (xl X) (gD G) (gad G) (gca G) (v1 := v1) (v2 := v2) (v3 := v3) hσ4 r1 r2 r3 h) rfl rfl rfl rfl rfl (fun z11 σ12 rz11 hσ12 h => ?_)
        refine j_iload C d_L_isUndone_47 5 rfl ?_
        refine j_icmp_ne (tgt := 66) C d_L_isUndone_49 rfl rz11 r4 (fun c => ?_) (fun c => ?_)
        · have h := h.1 c
          refine j_iconst C d_L_isUndone_66 ?_
          exact j_zreturn C d_L_isUndone_67 (by decide) hσ12 h
        · have h := h.2 c
          refine j_aload_n C d_L_isUndone_52 1 rfl rfl ?_
          refine j_iconst C d_L_isUndone_53 ?_
          refine j_callV C d_L_isUndone_54 ml_L_13 mi_X_count (c_X_count (xl X) (gD G) (gad G) (gca G) (v1 := 5) hσ12 (zR_of (x := 5) rfl) h) sh_54 rfl rfl rfl rfl rfl rfl rfl (fun z13 σ14 rz13 hσ14 h => ?_)
          obtain ⟨ez13, h⟩ := h; subst ez13
          refine j_iload C d_L_isUndone_57 0 rfl ?_
          refine j_icmp_ne (tgt := 66) C d_L_isUndone_59 rfl rz13 rz1 (fun c => ?_) (fun c => ?_)
          · have h := h.1 c
            refine j_iconst C d_L_isUndone_66 ?_
            exact j_zreturn C d_L_isUndone_67 (by decide) hσ12 h
          · have h := h.2 c
            refine j_iconst C d_L_isUndone_62 ?_
            refine j_goto (tgt := 67) C d_L_isUndone_63 rfl ?_
            exact j_zreturn C d_L_isUndone_67 (by decide) hσ12 h
set_option maxRecDepth 100000 in
set_option maxHeartbeats 4000000 in
theorem c_L_isSaved (l : Launch) (D : va_G) (ad : Nat → Nat) (ca : Nat → ClassId) {σ : zM} {v1 : Int} {v2 : Int} {Q : Int → zM → Prop} (hσ : zRM σ) (r1 : zR v1) (r2 : zR v2) (h : wp_L_isSaved σ v1 v2 Q) : zCi l D ad ca y_L_isSaved b_L_isSaved 7 (some .boolean) (zrm 7 164) [.ref (ad 54), .int (zI v1), .int (zI v2)] σ Q := by
  refine zCi_of (by decide +kernel) (Nat.le_of_ble_eq_true rfl) ?_
  intro X G C hl hD had hca
  subst hl hD had hca
  have C : zC X G b_L_isSaved "GateRoadsLaw" 7 (some .boolean) 7 164 := C
  show zJ X G (zQi X G Q) 7 0 [(0, .ref (gad G 54)), (1, .int (zI v1)), (2, .int (zI v2))] [] σ
  unfold wp_L_isSaved at h
  refine j_iload_n C d_L_isSaved_0 1 rfl rfl ?_
  refine j_iconst C d_L_isSaved_1 ?_
  refine j_iand C d_L_isSaved_2 ?_
  refine j_istore_n (L' := [(3, .int (zI (zAnd v1 1))), (0, .ref (gad G 54)), (1, .int (zI v1)), (2, .int (zI v2))]) C d_L_isSaved_3 rfl rfl rfl ?_
  refine j_aload_n C d_L_isSaved_4 1 rfl rfl ?_
  refine j_callSl C d_L_isSaved_5 ml_L_83 ms_L_view (c_L_view (xl X) (gD G) (gad G) (gca G)  hσ h) rfl rfl rfl rfl rfl (fun z1 σ2 hσ2 h => ?_)
  obtain ⟨ez1, h⟩ := h; subst ez1
  refine j_lstore (L' := [(4, .long z1), (3, .int (zI (zAnd v1 1))), (0, .ref (gad G 54)), (1, .int (zI v1)), (2, .int (zI v2))]) C d_L_isSaved_8 rfl rfl ?_
  refine j_aload_n C d_L_isSaved_10 2 rfl rfl ?_
  refine j_iconst C d_L_isSaved_11 ?_
  refine j_callV C d_L_isSaved_12 ml_L_13 mi_X_count (c_X_count (xl X) (gD G) (gad G) (gca G) (v1 := 5) hσ (zR_of (x := 5) rfl) h) sh_54 rfl rfl rfl rfl rfl rfl rfl (fun z3 σ4 rz3 hσ4 h => ?_)
  obtain ⟨ez3, h⟩ := h; subst ez3
  refine j_istore (L' := [(6, .int (zI z3)), (4, .long z1), (3, .int (zI (zAnd v1 1))), (0, .ref (gad G 54)), (1, .int (zI v1)), (2, .int (zI v2))]) C d_L_isSaved_15 rfl rfl ?_
  refine j_aload_n C d_L_isSaved_17 3 rfl rfl ?_
  refine j_iload_n C d_L_isSaved_18 2 rfl rfl ?_
  refine j_callV C d_L_isSaved_19 ml_L_91 mi_X_save (c_X_save (xl X) (gD G) (gad G) (gca G) (v1 := zAnd v1 1) hσ (zAnd_rg _ _) h) sh_54 rfl rfl rfl rfl rfl rfl rfl (fun z5 σ6 rz5 hσ6 h => ?_)
  refine j_aload_n C d_L_isSaved_22 3 rfl rfl ?_
  refine j_iconst C d_L_isSaved_23 ?_
  refine j_callV C d_L_isSaved_24 ml_L_13 mi_X_count (c_X_count (xl X) (gD G) (gad G) (gca G) (v1 := 0) hσ6 (zR_of (x := 0) rfl) h) sh_54 rfl rfl rfl rfl rfl rfl rfl (fun z7 σ8 rz7 hσ8 h => ?_)
  obtain ⟨ez7, h⟩ := h; subst ez7
  refine j_icmp_ne (tgt := 40) C d_L_isSaved_27 rfl rz5 rz7 (fun c => ?_) (fun c => ?_)
  · have h := h.1 c
    refine j_iconst C d_L_isSaved_40 ?_
    exact j_zreturn C d_L_isSaved_41 (by decide) hσ6 h
  · have h := h.2 c
    refine j_aload_n C d_L_isSaved_30 3 rfl rfl ?_
    refine j_iconst C d_L_isSaved_31 ?_
    refine j_callV C d_L_isSaved_32 ml_L_13 mi_X_count (c_X_count (xl X) (gD G) (gad G) (gca G) (v1 := 5) hσ6 (zR_of (x := 5) rfl) h) sh_54 rfl rfl rfl rfl rfl rfl rfl (fun z9 σ10 rz9 hσ10 h => ?_)
    obtain ⟨ez9, h⟩ := h; subst ez9
    refine j_iload C d_L_isSaved_35 0 rfl ?_
    refine j_icmp_eq (tgt := 42) C d_L_isSaved_37 rfl rz9 rz3 (fun c => ?_) (fun c => ?_)
    · have h := h.1 c
      refine j_aload_n C d_L_isSaved_42 3 rfl rfl ?_
      refine j_iload_n C d_L_isSaved_43 5 rfl rfl ?_
      refine j_bipush C d_L_isSaved_44 rfl ?_
      refine j_callS C d_L_isSaved_46 ml_L_58 ms_L_up (c_L_up (xl X) (gD G) (gad G) (gca G) (v0 := v2) (v1 := 14) hσ6 r2 (zR_of (x := 14) rfl) h) rfl rfl rfl rfl rfl (fun z11 σ12 rz11 hσ12 h => ?_)
      obtain ⟨ez11, h⟩ := h; subst ez11
      refine j_iload_n C d_L_isSaved_49 5 rfl rfl ?_
      refine j_iload_n C d_L_isSaved_50 4 rfl rfl ?_
      refine j_callS C d_L_isSaved_51 ml_L_87 ms_L_turn (c_L_turn (xl X) (gD G) (gad G) (gca G) (v1 := z11) (v2 := v2) (v3 := v1) hσ6 rz11 r2 r1 h) rfl rfl rfl rfl rfl (fun z13 σ14 rz13 hσ14 h => ?_)
      refine j_pop C d_L_isSaved_54 rfl ?_
      refine j_aload_n C d_L_isSaved_55 3 rfl rfl ?_
      refine j_iload_n C d_L_isSaved_56 2 rfl rfl ?_
      refine j_callV C d_L_isSaved_57 ml_L_94 mi_X_restore (c_X_restore (xl X) (gD G) (gad G) (gca G) (v1 := zAnd v1 1) hσ14 (zAnd_rg _ _) h) sh_54 rfl rfl rfl rfl rfl rfl rfl (fun z15 σ16 rz15 hσ16 h => ?_)
      refine j_aload_n C d_L_isSaved_60 3 rfl rfl ?_
      refine j_iconst C d_L_isSaved_61 ?_
      refine j_callV C d_L_isSaved_62 ml_L_13 mi_X_count (c_X_count (xl X) (gD G) (gad G) (gca G) (v1 := 0) hσ16 (zR_of (x := 0) rfl) h) sh_54 rfl rfl rfl rfl rfl rfl rfl (fun z17 σ18 rz17 hσ18 h => ?_)
      obtain ⟨ez17, h⟩ := h; subst ez17
      refine j_icmp_ne (tgt := 82) C d_L_isSaved_65 rfl rz15 rz17 (fun c => ?_) (fun c => ?_)
      · have h := h.1 c
        refine j_iconst C d_L_isSaved_82 ?_
        exact j_zreturn C d_L_isSaved_83 (by decide) hσ16 h
      · have h := h.2 c
        refine j_aload_n C d_L_isSaved_68 3 rfl rfl ?_
        refine j_callSl C d_L_isSaved_69 ml_L_83 ms_L_view (c_L_view (xl X) (gD G) (gad G) (gca G)  hσ16 h) rfl rfl rfl rfl rfl (fun z19 σ20 hσ20 h => ?_)
        obtain ⟨ez19, h⟩ := h; subst ez19
        refine j_lload C d_L_isSaved_72 1 rfl ?_
        refine j_lcmp C d_L_isSaved_74 ?_
        refine j_if_ne (tgt := 82) C d_L_isSaved_75 rfl (zLcmp_rg _ _) (fun c => ?_) (fun c => ?_)
        · have h := h.1 c
          refine j_iconst C d_L_isSaved_82 ?_
          exact j_zreturn C d_L_isSaved_83 (by decide) hσ16 h
        · have h := h.2 c
          refine j_iconst C d_L_isSaved_78 ?_
          refine j_goto (tgt := 83) C d_L_isSaved_79 rfl ?_
          exact j_zreturn C d_L_isSaved_83 (by decide) hσ16 h
    · have h := h.2 c
      refine j_iconst C d_L_isSaved_40 ?_
      exact j_zreturn C d_L_isSaved_41 (by decide) hσ6 h
