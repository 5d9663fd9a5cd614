set_option maxRecDepth 100000 in
set_option maxHeartbeats 4000000 in
theorem w_M_fault_L17 {X : zX} {G : zG} (C : zC X G b_M_fault "GateRoadsModel" 1 (some .int) 6 126) {Q : Int → zM → Prop} : ∀ (n : Nat) (σ : zM) (hσ : zRM σ), wp_M_fault_L17 Q n σ → zJ X G (zQi X G Q) 1 17 [(0, .ref (gad G 79))] [] σ := by
  intro n
  induction n with
  | zero => intro σ hσ h; exact False.elim h
  | succ n ih =>
    intro σ hσ h
    rw [wp_M_fault_L17] at h
    refine j_aload_n C d_M_fault_17 0 rfl rfl ?_
    refine j_geti (kf := 14) (kI := 14) C d_M_fault_18 sh_79 rfl i_M rfl rfl rfl fl_M_173 ?_
    refine j_aload_n C d_M_fault_21 0 rfl rfl ?_
    refine j_geti (kf := 7) (kI := 7) C d_M_fault_22 sh_79 rfl i_M rfl rfl rfl fl_M_132 ?_
    refine j_icmp_ge (tgt := 51) C d_M_fault_25 rfl (hσ _ _) (hσ _ _) (fun c => ?_) (fun c => ?_)
    · have h := h.1 c
      refine j_bipush C d_M_fault_51 rfl ?_
      exact j_ireturn C d_M_fault_53 (zR_of (x := (-6)) rfl) hσ h
    · have h := h.2 c
      refine j_aload_n C d_M_fault_28 0 rfl rfl ?_
      refine j_bipush C d_M_fault_29 rfl ?_
      refine j_bipush C d_M_fault_31 rfl ?_
      refine j_callV C d_M_fault_33 ml_M_179 mi_M_passes (c_M_passes (xl X) (gD G) (gad G) (gca G) (v1 := 59) (v2 := 59) hσ (zR_of (x := 59) rfl) (zR_of (x := 59) rfl) h) sh_79 rfl rfl rfl rfl rfl rfl rfl (fun z4 σ5 rz4 hσ5 h => ?_)
      refine j_if_eq (tgt := 46) C d_M_fault_36 rfl rz4 (fun c => ?_) (fun c => ?_)
      · have h := h.1 c
        refine j_aload_n C d_M_fault_46 0 rfl rfl ?_
        refine j_geti (kf := 14) (kI := 14) C d_M_fault_47 sh_79 rfl i_M rfl rfl rfl fl_M_173 ?_
        exact j_ireturn C d_M_fault_50 (hσ5 _ _) hσ5 h
      · have h := h.2 c
        refine j_aload_n C d_M_fault_39 0 rfl rfl ?_
        refine j_callV C d_M_fault_40 ml_M_222 mi_M_passesOrder (c_M_passesOrder (xl X) (gD G) (gad G) (gca G)  hσ5 h) sh_79 rfl rfl rfl rfl rfl rfl rfl (fun z6 σ7 rz6 hσ7 h => ?_)
        refine j_if_ne (tgt := 17) C d_M_fault_43 rfl rz6 (fun c => ?_) (fun c => ?_)
        · have h := h.1 c
          exact ih σ7 hσ7 h
        · have h := h.2 c
          refine j_aload_n C d_M_fault_46 0 rfl rfl ?_
          refine j_geti (kf := 14) (kI := 14) C d_M_fault_47 sh_79 rfl i_M rfl rfl rfl fl_M_173 ?_
          exact j_ireturn C d_M_fault_50 (hσ7 _ _) hσ7 h
set_option maxRecDepth 100000 in
set_option maxHeartbeats 4000000 in
theorem c_M_fault (l : Launch) (D : va_G) (ad : Nat → Nat) (ca : Nat → ClassId) {σ : zM} {Q : Int → zM → Prop} (hσ : zRM σ) (h : wp_M_fault σ Q) : zCi l D ad ca y_M_fault b_M_fault 1 (some .int) (zrm 6 126) [.ref (ad 79)] σ Q := by
  refine zCi_of (by decide +kernel) (Nat.le_of_ble_eq_true rfl) ?_
  intro X G C hl hD had hca
  subst hl hD had hca
  have C : zC X G b_M_fault "GateRoadsModel" 1 (some .int) 6 126 := C
  show zJ X G (zQi X G Q) 1 0 [(0, .ref (gad G 79))] [] σ
  unfold wp_M_fault at h
  refine j_aload_n C d_M_fault_0 0 rfl rfl ?_
  refine j_iconst C d_M_fault_1 ?_
  refine j_puti (kf := 14) (kI := 14) C t_M d_M_fault_2 sh_79 rfl i_M t_M_ok n_M rfl rfl rfl fl_M_173 rfl (Or.inl rfl) ?_
  refine j_mem (fun σ1 eσ1 => ?_)
  have h := h σ1 eσ1
  have hσ1 : zRM σ1 := by rw [eσ1]; exact zU_rg hσ _ _ (zR_of (x := 0) rfl)
  refine j_aload_n C d_M_fault_5 0 rfl rfl ?_
  refine j_callV C d_M_fault_6 ml_M_222 mi_M_passesOrder (c_M_passesOrder (xl X) (gD G) (gad G) (gca G)  hσ1 h) sh_79 rfl rfl rfl rfl rfl rfl rfl (fun z2 σ3 rz2 hσ3 h => ?_)
  refine j_if_ne (tgt := 17) C d_M_fault_9 rfl rz2 (fun c => ?_) (fun c => ?_)
  · have h := h.1 c
    obtain ⟨n8, h⟩ := h
    refine w_M_fault_L17 C n8 σ3 hσ3 h
  · have h := h.2 c
    refine j_aload_n C d_M_fault_12 0 rfl rfl ?_
    refine j_geti (kf := 14) (kI := 14) C d_M_fault_13 sh_79 rfl i_M rfl rfl rfl fl_M_173 ?_
    exact j_ireturn C d_M_fault_16 (hσ3 _ _) hσ3 h
set_option maxRecDepth 100000 in
set_option maxHeartbeats 4000000 in
theorem w_M_doesSpans_b99 {X : zX} {G : zG} (C : zC X G b_M_doesSpans "GateRoadsModel" 3 (some .int) 2 43) {σ : zM} {v1 : Int} (hσ : zRM σ) (r1 : zR v1) {Q : Int → zM → Prop} {k49 : Int → Prop} (hk49 : ∀ (v2 : Int), zR v2 → k49 v2 → zJ X G (zQi X G Q) 3 49 [(0, .ref (gad G 79)), (1, .int (zI v1)), (2, .int (zI v2))] [] σ) (v2 : Int) (r2 : zR v2) (h : wp_M_doesSpans_b99 σ v1 k49 Q v2) : zJ X G (zQi X G Q) 3 99 [(0, .ref (gad G 79)), (1, .int (zI v1)), (2, .int (zI v2))] [] σ := by
  unfold wp_M_doesSpans_b99 at h
  obtain ⟨g7, h⟩ := h
  refine j_iinc (L' := [(2, .int (zI (v2 + 1))), (0, .ref (gad G 79)), (1, .int (zI v1))]) C d_M_doesSpans_99 2 rfl rfl rfl ?_
  refine j_goto (tgt := 49) C d_M_doesSpans_102 rfl ?_
  refine j_sub (L' := [(0, .ref (gad G 79)), (1, .int (zI v1)), (2, .int (zI (v2 + 1)))]) [1, 2, 0] rfl ?_
  exact hk49 (v2 + 1) g7 h
set_option maxRecDepth 100000 in
set_option maxHeartbeats 4000000 in
theorem w_M_doesSpans_L49 {X : zX} {G : zG} (C : zC X G b_M_doesSpans "GateRoadsModel" 3 (some .int) 2 43) {σ : zM} {v1 : Int} (hσ : zRM σ) (r1 : zR v1) {Q : Int → zM → Prop} {k105 : Prop} (hk105 : k105 → zJ X G (zQi X G Q) 3 105 [(0, .ref (gad G 79)), (1, .int (zI v1))] [] σ) : ∀ (n : Nat) (v2 : Int) (r2 : zR v2), wp_M_doesSpans_L49 σ v1 k105 Q n v2 → zJ X G (zQi X G Q) 3 49 [(0, .ref (gad G 79)), (1, .int (zI v1)), (2, .int (zI v2))] [] σ := by
  intro n
  induction n with
  | zero => intro v2 r2 h; exact False.elim h
  | succ n ih =>
    intro v2 r2 h
    rw [wp_M_doesSpans_L49] at h
    refine j_iload_n C d_M_doesSpans_49 2 rfl rfl ?_
    refine j_iload_n C d_M_doesSpans_50 1 rfl rfl ?_
    refine j_icmp_ge (tgt := 105) C d_M_doesSpans_51 rfl r2 r1 (fun c => ?_) (fun c => ?_)
    · have h := h.1 c
      refine j_sub (L' := [(0, .ref (gad G 79)), (1, .int (zI v1))]) [0, 1] rfl ?_
      exact hk105 h
    · have h := h.2 c
      refine j_aload_n C d_M_doesSpans_54 0 rfl rfl ?_
      refine j_getr (kf := 22) (m := 91) C d_M_doesSpans_55 sh_79 rfl i_M rfl rfl fl_M_43 ?_
      refine j_iconst C d_M_doesSpans_58 ?_
      refine j_iload_n C d_M_doesSpans_59 1 rfl rfl ?_
      refine j_imul C d_M_doesSpans_60 ?_
      obtain ⟨g5, h⟩ := h
      refine j_iaload C d_M_doesSpans_61 sh_91 g5 ?_
      refine j_aload_n C d_M_doesSpans_62 0 rfl rfl ?_
      refine j_getr (kf := 22) (m := 91) C d_M_doesSpans_63 sh_79 rfl i_M rfl rfl fl_M_43 ?_
      refine j_iconst C d_M_doesSpans_66 ?_
      refine j_iload_n C d_M_doesSpans_67 2 rfl rfl ?_
      refine j_imul C d_M_doesSpans_68 ?_
      refine j_iconst C d_M_doesSpans_69 ?_
      refine j_iadd C d_M_doesSpans_70 ?_
      obtain ⟨g6, h⟩ := h
      refine j_iaload C d_M_doesSpans_71 sh_91 g6 ?_
      refine j_icmp_ge (tgt := 99) C d_M_doesSpans_72 rfl (hσ _ _) (hσ _ _) (fun c => ?_) (fun c => ?_)
      · have h := h.1 c
        refine w_M_doesSpans_b99 C hσ r1 ih v2 r2 h
      · have h := h.2 c
        refine j_aload_n C d_M_doesSpans_75 0 rfl rfl ?_
        refine j_getr (kf := 22) (m := 91) C d_M_doesSpans_76 sh_79 rfl i_M rfl rfl fl_M_43 ?_
        refine j_iconst C d_M_doesSpans_79 ?_
        refine j_iload_n C d_M_doesSpans_80 2 rfl rfl ?_
        refine j_imul C d_M_doesSpans_81 ?_
        obtain ⟨g8, h⟩ := h
        refine j_iaload C d_M_doesSpans_82 sh_91 g8 ?_
        refine j_aload_n C d_M_doesSpans_83 0 rfl rfl ?_
        refine j_getr (kf := 22) (m := 91) C d_M_doesSpans_84 sh_79 rfl i_M rfl rfl fl_M_43 ?_
        refine j_iconst C d_M_doesSpans_87 ?_
        refine j_iload_n C d_M_doesSpans_88 1 rfl rfl ?_
        refine j_imul C d_M_doesSpans_89 ?_
        refine j_iconst C d_M_doesSpans_90 ?_
        refine j_iadd C d_M_doesSpans_91 ?_
        obtain ⟨g9, h⟩ := h
        refine j_iaload C d_M_doesSpans_92 sh_91 g9 ?_
        refine j_icmp_ge (tgt := 99) C d_M_doesSpans_93 rfl (hσ _ _) (hσ _ _) (fun c => ?_) (fun c => ?_)
        · have h := h.1 c
          refine w_M_doesSpans_b99 C hσ r1 ih v2 r2 h
        · have h := h.2 c
          refine j_bipush C d_M_doesSpans_96 rfl ?_
          exact j_ireturn C d_M_doesSpans_98 (zR_of (x := (-2)) rfl) hσ h
set_option maxRecDepth 100000 in
set_option maxHeartbeats 4000000 in
theorem w_M_doesSpans_L15 {X : zX} {G : zG} (C : zC X G b_M_doesSpans "GateRoadsModel" 3 (some .int) 2 43) {σ : zM} (hσ : zRM σ) {Q : Int → zM → Prop} {k111 : Prop} (hk111 : k111 → zJ X G (zQi X G Q) 3 111 [(0, .ref (gad G 79))] [] σ) : ∀ (n : Nat) (v1 : Int) (r1 : zR v1), wp_M_doesSpans_L15 σ k111 Q n v1 → zJ X G (zQi X G Q) 3 15 [(0, .ref (gad G 79)), (1, .int (zI v1))] [] σ := by
  intro n
  induction n with
  | zero => intro v1 r1 h; exact False.elim h
  | succ n ih =>
    intro v1 r1 h
    rw [wp_M_doesSpans_L15] at h
    refine j_iload_n C d_M_doesSpans_15 1 rfl rfl ?_
    refine j_aload_n C d_M_doesSpans_16 0 rfl rfl ?_
    refine j_geti (kf := 19) (kI := 19) C d_M_doesSpans_17 sh_79 rfl i_M rfl rfl rfl fl_M_189 ?_
    refine j_icmp_ge (tgt := 111) C d_M_doesSpans_20 rfl r1 (hσ _ _) (fun c => ?_) (fun c => ?_)
    · have h := h.1 c
      refine j_sub (L' := [(0, .ref (gad G 79))]) [0] rfl ?_
      exact hk111 h
    · have h := h.2 c
      refine j_aload_n C d_M_doesSpans_23 0 rfl rfl ?_
      refine j_getr (kf := 22) (m := 91) C d_M_doesSpans_24 sh_79 rfl i_M rfl rfl fl_M_43 ?_
      refine j_iconst C d_M_doesSpans_27 ?_
      refine j_iload_n C d_M_doesSpans_28 1 rfl rfl ?_
      refine j_imul C d_M_doesSpans_29 ?_
      obtain ⟨g3, h⟩ := h
      refine j_iaload C d_M_doesSpans_30 sh_91 g3 ?_
      refine j_aload_n C d_M_doesSpans_31 0 rfl rfl ?_
      refine j_getr (kf := 22) (m := 91) C d_M_doesSpans_32 sh_79 rfl i_M rfl rfl fl_M_43 ?_
      refine j_iconst C d_M_doesSpans_35 ?_
      refine j_iload_n C d_M_doesSpans_36 1 rfl rfl ?_
      refine j_imul C d_M_doesSpans_37 ?_
      refine j_iconst C d_M_doesSpans_38 ?_
      refine j_iadd C d_M_doesSpans_39 ?_
      obtain ⟨g4, h⟩ := h
      refine j_iaload C d_M_doesSpans_40 sh_91 g4 ?_
      refine j_icmp_lt (tgt := 47) C d_M_doesSpans_41 rfl (hσ _ _) (hσ _ _) (fun c => ?_) (fun c => ?_)
      · have h := h.1 c
        refine j_iconst C d_M_doesSpans_47 ?_
        refine j_istore_n (L' := [(2, .int (zI 0)), (0, .ref (gad G 79)), (1, .int (zI v1))]) C d_M_doesSpans_48 rfl rfl rfl ?_
        obtain ⟨n11, h⟩ := h
        refine j_sub (L' := [(0, .ref (gad G 79)), (1, .int (zI v1)), (2, .int (zI 0))]) [1, 2, 0] rfl ?_
        refine w_M_doesSpans_L49 C hσ r1 ?_ n11 0 (zR_of (x := 0) rfl) h
        · intro h
          obtain ⟨g10, h⟩ := h
          refine j_iinc (L' := [(1, .int (zI (v1 + 1))), (0, .ref (gad G 79))]) C d_M_doesSpans_105 1 rfl rfl rfl ?_
          refine j_goto (tgt := 15) C d_M_doesSpans_108 rfl ?_
          refine j_sub (L' := [(0, .ref (gad G 79)), (1, .int (zI (v1 + 1)))]) [1, 0] rfl ?_
          exact ih (v1 + 1) g10 h
      · have h := h.2 c
        refine j_bipush C d_M_doesSpans_44 rfl ?_
        exact j_ireturn C d_M_doesSpans_46 (zR_of (x := (-2)) rfl) hσ h
set_option maxRecDepth 100000 in
set_option maxHeartbeats 4000000 in
theorem w_M_doesSpans_L152 {X : zX} {G : zG} (C : zC X G b_M_doesSpans "GateRoadsModel" 3 (some .int) 2 43) {Q : Int → zM → Prop} : ∀ (n : Nat) (σ : zM) (v1 : Int) (hσ : zRM σ) (r1 : zR v1), wp_M_doesSpans_L152 Q n σ v1 → zJ X G (zQi X G Q) 3 152 [(0, .ref (gad G 79)), (1, .int (zI v1))] [] σ := by
  intro n
  induction n with
  | zero => intro σ v1 hσ r1 h; exact False.elim h
  | succ n ih =>
    intro σ v1 hσ r1 h
    rw [wp_M_doesSpans_L152] at h
    refine j_iload_n C d_M_doesSpans_152 1 rfl rfl ?_
    refine j_aload_n C d_M_doesSpans_153 0 rfl rfl ?_
    refine j_geti (kf := 19) (kI := 19) C d_M_doesSpans_154 sh_79 rfl i_M rfl rfl rfl fl_M_189 ?_
    refine j_icmp_ge (tgt := 192) C d_M_doesSpans_157 rfl r1 (hσ _ _) (fun c => ?_) (fun c => ?_)
    · have h := h.1 c
      refine j_iconst C d_M_doesSpans_192 ?_
      exact j_ireturn C d_M_doesSpans_193 (zR_of (x := 0) rfl) hσ h
    · have h := h.2 c
      refine j_aload_n C d_M_doesSpans_160 0 rfl rfl ?_
      refine j_aload_n C d_M_doesSpans_161 0 rfl rfl ?_
      refine j_geti (kf := 16) (kI := 16) C d_M_doesSpans_162 sh_79 rfl i_M rfl rfl rfl fl_M_198 ?_
      refine j_aload_n C d_M_doesSpans_165 0 rfl rfl ?_
      refine j_getr (kf := 22) (m := 91) C d_M_doesSpans_166 sh_79 rfl i_M rfl rfl fl_M_43 ?_
      refine j_iconst C d_M_doesSpans_169 ?_
      refine j_iload_n C d_M_doesSpans_170 1 rfl rfl ?_
      refine j_imul C d_M_doesSpans_171 ?_
      obtain ⟨g16, h⟩ := h
      refine j_iaload C d_M_doesSpans_172 sh_91 g16 ?_
      refine j_aload_n C d_M_doesSpans_173 0 rfl rfl ?_
      refine j_getr (kf := 22) (m := 91) C d_M_doesSpans_174 sh_79 rfl i_M rfl rfl fl_M_43 ?_
      refine j_iconst C d_M_doesSpans_177 ?_
      refine j_iload_n C d_M_doesSpans_178 1 rfl rfl ?_
      refine j_imul C d_M_doesSpans_179 ?_
      refine j_iconst C d_M_doesSpans_180 ?_
      refine j_iadd C d_M_doesSpans_181 ?_
      obtain ⟨g17, h⟩ := h
      refine j_iaload C d_M_doesSpans_182 sh_91 g17 ?_
      refine j_callVv C d_M_doesSpans_183 ml_M_74 mi_M_adds (c_M_adds (xl X) (gD G) (gad G) (gca G) (v1 := σ 79 16) (v2 := σ 91 (2 * v1)) (v3 := σ 91 ((2 * v1) + 1)) hσ (hσ _ _) (hσ _ _) (hσ _ _) h) sh_79 rfl rfl rfl rfl rfl rfl rfl (fun σ19 hσ19 h => ?_)
      obtain ⟨g20, h⟩ := h
      refine j_iinc (L' := [(1, .int (zI (v1 + 1))), (0, .ref (gad G 79))]) C d_M_doesSpans_186 1 rfl rfl rfl ?_
      refine j_goto (tgt := 152) C d_M_doesSpans_189 rfl ?_
      refine j_sub (L' := [(0, .ref (gad G 79)), (1, .int (zI (v1 + 1)))]) [1, 0] rfl ?_
      exact ih σ19 (v1 + 1) hσ19 g20 h
set_option maxRecDepth 100000 in
set_option maxHeartbeats 4000000 in
theorem c_M_doesSpans (l : Launch) (D : va_G) (ad : Nat → Nat) (ca : Nat → ClassId) {σ : zM} {Q : Int → zM → Prop} (hσ : zRM σ) (h : wp_M_doesSpans σ Q) : zCi l D ad ca y_M_doesSpans b_M_doesSpans 3 (some .int) (zrm 2 43) [.ref (ad 79)] σ Q := by
  refine zCi_of (by decide +kernel) (Nat.le_of_ble_eq_true rfl) ?_
  intro X G C hl hD had hca
  subst hl hD had hca
  have C : zC X G b_M_doesSpans "GateRoadsModel" 3 (some .int) 2 43 := C
  show zJ X G (zQi X G Q) 3 0 [(0, .ref (gad G 79))] [] σ
  unfold wp_M_doesSpans at h
  refine j_aload_n C d_M_doesSpans_0 0 rfl rfl ?_
  refine j_aload_n C d_M_doesSpans_1 0 rfl rfl ?_
  refine j_geti (kf := 16) (kI := 16) C d_M_doesSpans_2 sh_79 rfl i_M rfl rfl rfl fl_M_198 ?_
  refine j_callV C d_M_doesSpans_5 ml_M_61 mi_M_isRoad (c_M_isRoad (xl X) (gD G) (gad G) (gca G) (v1 := σ 79 16) hσ (hσ _ _) h) sh_79 rfl rfl rfl rfl rfl rfl rfl (fun z1 σ2 rz1 hσ2 h => ?_)
  obtain ⟨ez1, h⟩ := h; subst ez1
  refine j_if_ne (tgt := 13) C d_M_doesSpans_8 rfl rz1 (fun c => ?_) (fun c => ?_)
  · have h := h.1 c
    refine j_iconst C d_M_doesSpans_13 ?_
    refine j_istore_n (L' := [(1, .int (zI 0)), (0, .ref (gad G 79))]) C d_M_doesSpans_14 rfl rfl rfl ?_
    obtain ⟨n22, h⟩ := h
    refine j_sub (L' := [(0, .ref (gad G 79)), (1, .int (zI 0))]) [1, 0] rfl ?_
    refine w_M_doesSpans_L15 C hσ ?_ n22 0 (zR_of (x := 0) rfl) h
    · intro h
      refine j_aload_n C d_M_doesSpans_111 0 rfl rfl ?_
      refine j_getr (kf := 0) (m := 80) C d_M_doesSpans_112 sh_79 rfl i_M rfl rfl fl_M_7 ?_
      refine j_bipush C d_M_doesSpans_115 rfl ?_
      refine j_bipush C d_M_doesSpans_117 rfl ?_
      refine j_aload_n C d_M_doesSpans_119 0 rfl rfl ?_
      refine j_geti (kf := 16) (kI := 16) C d_M_doesSpans_120 sh_79 rfl i_M rfl rfl rfl fl_M_198 ?_
      refine j_imul C d_M_doesSpans_123 ?_
      refine j_iadd C d_M_doesSpans_124 ?_
      refine j_iconst C d_M_doesSpans_125 ?_
      refine j_iadd C d_M_doesSpans_126 ?_
      refine j_iconst C d_M_doesSpans_127 ?_
      obtain ⟨g12, h⟩ := h
      refine j_iastore C d_M_doesSpans_128 sh_80 g12 ?_
      refine j_mem (fun σ13 eσ13 => ?_)
      have h := h σ13 eσ13
      have hσ13 : zRM σ13 := by rw [eσ13]; exact zU_rg hσ _ _ (zR_of (x := 0) rfl)
      refine j_aload_n C d_M_doesSpans_129 0 rfl rfl ?_
      refine j_getr (kf := 0) (m := 80) C d_M_doesSpans_130 sh_79 rfl i_M rfl rfl fl_M_7 ?_
      refine j_bipush C d_M_doesSpans_133 rfl ?_
      refine j_bipush C d_M_doesSpans_135 rfl ?_
      refine j_aload_n C d_M_doesSpans_137 0 rfl rfl ?_
      refine j_geti (kf := 16) (kI := 16) C d_M_doesSpans_138 sh_79 rfl i_M rfl rfl rfl fl_M_198 ?_
      refine j_imul C d_M_doesSpans_141 ?_
      refine j_iadd C d_M_doesSpans_142 ?_
      refine j_iconst C d_M_doesSpans_143 ?_
      refine j_iadd C d_M_doesSpans_144 ?_
      refine j_aload_n C d_M_doesSpans_145 0 rfl rfl ?_
      refine j_geti (kf := 20) (kI := 20) C d_M_doesSpans_146 sh_79 rfl i_M rfl rfl rfl fl_M_192 ?_
      obtain ⟨g14, h⟩ := h
      refine j_iastore C d_M_doesSpans_149 sh_80 g14 ?_
      refine j_mem (fun σ15 eσ15 => ?_)
      have h := h σ15 eσ15
      have hσ15 : zRM σ15 := by rw [eσ15]; exact zU_rg hσ13 _ _ (hσ13 _ _)
      refine j_iconst C d_M_doesSpans_150 ?_
      refine j_istore_n (L' := [(1, .int (zI 0)), (0, .ref (gad G 79))]) C d_M_doesSpans_151 rfl rfl rfl ?_
      obtain ⟨n21, h⟩ := h
      refine j_sub (L' := [(0, .ref (gad G 79)), (1, .int (zI 0))]) [1, 0] rfl ?_
      refine w_M_doesSpans_L152 C n21 σ15 0 hσ15 (zR_of (x := 0) rfl) h
  · have h := h.2 c
    refine j_iconst C d_M_doesSpans_11 ?_
    exact j_ireturn C d_M_doesSpans_12 (zR_of (x := (-1)) rfl) hσ h
set_option maxRecDepth 100000 in
set_option maxHeartbeats 4000000 in
theorem c_M_does (l : Launch) (D : va_G) (ad : Nat → Nat) (ca : Nat → ClassId) {σ : zM} {Q : Int → zM → Prop} (hσ : zRM σ) (h : wp_M_does σ Q) : zCi l D ad ca y_M_does b_M_does 2 (some .int) (zrm 4 94) [.ref (ad 79)] σ Q := by
  refine zCi_of (by decide +kernel) (Nat.le_of_ble_eq_true rfl) ?_
  intro X G C hl hD had hca
  subst hl hD had hca
  have C : zC X G b_M_does "GateRoadsModel" 2 (some .int) 4 94 := C
  show zJ X G (zQi X G Q) 2 0 [(0, .ref (gad G 79))] [] σ
  unfold wp_M_does at h
  refine j_aload_n C d_M_does_0 0 rfl rfl ?_
  refine j_geti (kf := 15) (kI := 15) C d_M_does_1 sh_79 rfl i_M rfl rfl rfl fl_M_210 ?_
  refine j_bipush C d_M_does_4 rfl ?_
  refine j_icmp_ne (tgt := 14) C d_M_does_6 rfl (hσ _ _) (zR_of (x := 115) rfl) (fun c => ?_) (fun c => ?_)
  · have h := h.1 c
    refine j_aload_n C d_M_does_14 0 rfl rfl ?_
    refine j_geti (kf := 15) (kI := 15) C d_M_does_15 sh_79 rfl i_M rfl rfl rfl fl_M_210 ?_
    refine j_bipush C d_M_does_18 rfl ?_
    refine j_icmp_ne (tgt := 65) C d_M_does_20 rfl (hσ _ _) (zR_of (x := 120) rfl) (fun c => ?_) (fun c => ?_)
    · have h := h.1 c
      refine j_aload_n C d_M_does_65 0 rfl rfl ?_
      refine j_geti (kf := 15) (kI := 15) C d_M_does_66 sh_79 rfl i_M rfl rfl rfl fl_M_210 ?_
      refine j_bipush C d_M_does_69 rfl ?_
      refine j_icmp_ne (tgt := 108) C d_M_does_71 rfl (hσ _ _) (zR_of (x := 103) rfl) (fun c => ?_) (fun c => ?_)
      · have h := h.1 c
        refine j_aload_n C d_M_does_108 0 rfl rfl ?_
        refine j_aload_n C d_M_does_109 0 rfl rfl ?_
        refine j_geti (kf := 16) (kI := 16) C d_M_does_110 sh_79 rfl i_M rfl rfl rfl fl_M_198 ?_
        refine j_aload_n C d_M_does_113 0 rfl rfl ?_
        refine j_geti (kf := 17) (kI := 17) C d_M_does_114 sh_79 rfl i_M rfl rfl rfl fl_M_204 ?_
        refine j_callV C d_M_does_117 ml_M_123 mi_M_checksStaying (c_M_checksStaying (xl X) (gD G) (gad G) (gca G) (v1 := σ 79 16) (v2 := σ 79 17) hσ (hσ _ _) (hσ _ _) h) sh_79 rfl rfl rfl rfl rfl rfl rfl (fun z1 σ2 rz1 hσ2 h => ?_)
        refine j_istore_n (L' := [(1, .int (zI z1)), (0, .ref (gad G 79))]) C d_M_does_120 rfl rfl rfl ?_
        refine j_iload_n C d_M_does_121 0 rfl rfl ?_
        refine j_if_eq (tgt := 129) C d_M_does_122 rfl rz1 (fun c => ?_) (fun c => ?_)
        · have h := h.1 c
          refine j_aload_n C d_M_does_129 1 rfl rfl ?_
          refine j_aload_n C d_M_does_130 1 rfl rfl ?_
          refine j_geti (kf := 16) (kI := 16) C d_M_does_131 sh_79 rfl i_M rfl rfl rfl fl_M_198 ?_
          refine j_aload_n C d_M_does_134 1 rfl rfl ?_
          refine j_geti (kf := 17) (kI := 17) C d_M_does_135 sh_79 rfl i_M rfl rfl rfl fl_M_204 ?_
          refine j_callV C d_M_does_138 ml_M_126 mi_M_stays (c_M_stays (xl X) (gD G) (gad G) (gca G) (v1 := σ2 79 16) (v2 := σ2 79 17) hσ2 (hσ2 _ _) (hσ2 _ _) h) sh_79 rfl rfl rfl rfl rfl rfl rfl (fun z3 σ4 rz3 hσ4 h => ?_)
          exact j_ireturn C d_M_does_141 rz3 hσ4 h
        · have h := h.2 c
          refine j_iload_n C d_M_does_125 0 rfl rfl ?_
          refine j_goto (tgt := 141) C d_M_does_126 rfl ?_
          exact j_ireturn C d_M_does_141 rz1 hσ2 h
      · have h := h.2 c
        refine j_aload_n C d_M_does_74 0 rfl rfl ?_
        refine j_aload_n C d_M_does_75 0 rfl rfl ?_
        refine j_geti (kf := 16) (kI := 16) C d_M_does_76 sh_79 rfl i_M rfl rfl rfl fl_M_198 ?_
        refine j_aload_n C d_M_does_79 0 rfl rfl ?_
        refine j_geti (kf := 17) (kI := 17) C d_M_does_80 sh_79 rfl i_M rfl rfl rfl fl_M_204 ?_
        refine j_callV C d_M_does_83 ml_M_111 mi_M_checksGoing (c_M_checksGoing (xl X) (gD G) (gad G) (gca G) (v1 := σ 79 16) (v2 := σ 79 17) hσ (hσ _ _) (hσ _ _) h) sh_79 rfl rfl rfl rfl rfl rfl rfl (fun z5 σ6 rz5 hσ6 h => ?_)
        refine j_istore_n (L' := [(1, .int (zI z5)), (0, .ref (gad G 79))]) C d_M_does_86 rfl rfl rfl ?_
        refine j_iload_n C d_M_does_87 0 rfl rfl ?_
        refine j_if_eq (tgt := 95) C d_M_does_88 rfl rz5 (fun c => ?_) (fun c => ?_)
        · have h := h.1 c
          refine j_aload_n C d_M_does_95 1 rfl rfl ?_
          refine j_aload_n C d_M_does_96 1 rfl rfl ?_
          refine j_geti (kf := 16) (kI := 16) C d_M_does_97 sh_79 rfl i_M rfl rfl rfl fl_M_198 ?_
          refine j_aload_n C d_M_does_100 1 rfl rfl ?_
          refine j_geti (kf := 17) (kI := 17) C d_M_does_101 sh_79 rfl i_M rfl rfl rfl fl_M_204 ?_
          refine j_callV C d_M_does_104 ml_M_114 mi_M_goes (c_M_goes (xl X) (gD G) (gad G) (gca G) (v1 := σ6 79 16) (v2 := σ6 79 17) hσ6 (hσ6 _ _) (hσ6 _ _) h) sh_79 rfl rfl rfl rfl rfl rfl rfl (fun z7 σ8 rz7 hσ8 h => ?_)
          exact j_ireturn C d_M_does_107 rz7 hσ8 h
        · have h := h.2 c
          refine j_iload_n C d_M_does_91 0 rfl rfl ?_
          refine j_goto (tgt := 107) C d_M_does_92 rfl ?_
          exact j_ireturn C d_M_does_107 rz5 hσ6 h
    · have h := h.2 c
      refine j_aload_n C d_M_does_23 0 rfl rfl ?_
      refine j_aload_n C d_M_does_24 0 rfl rfl ?_
      refine j_geti (kf := 16) (kI := 16) C d_M_does_25 sh_79 rfl i_M rfl rfl rfl fl_M_198 ?_
      refine j_aload_n C d_M_does_28 0 rfl rfl ?_
      refine j_geti (kf := 17) (kI := 17) C d_M_does_29 sh_79 rfl i_M rfl rfl rfl fl_M_204 ?_
      refine j_aload_n C d_M_does_32 0 rfl rfl ?_
      refine j_geti (kf := 18) (kI := 18) C d_M_does_33 sh_79 rfl i_M rfl rfl rfl fl_M_207 ?_
      refine j_callV C d_M_does_36 ml_M_78 mi_M_checksClosing (c_M_checksClosing (xl X) (gD G) (gad G) (gca G) (v1 := σ 79 16) (v2 := σ 79 17) (v3 := σ 79 18) hσ (hσ _ _) (hσ _ _) (hσ _ _) h) sh_79 rfl rfl rfl rfl rfl rfl rfl (fun z9 σ10 rz9 hσ10 h => ?_)
      obtain ⟨ez9, h⟩ := h; subst ez9
      refine j_istore_n (L' := [(1, .int (zI z9)), (0, .ref (gad G 79))]) C d_M_does_39 rfl rfl rfl ?_
      refine j_iload_n C d_M_does_40 0 rfl rfl ?_
      refine j_if_eq (tgt := 48) C d_M_does_41 rfl rz9 (fun c => ?_) (fun c => ?_)
      · have h := h.1 c
        refine j_aload_n C d_M_does_48 1 rfl rfl ?_
        refine j_aload_n C d_M_does_49 1 rfl rfl ?_
        refine j_geti (kf := 16) (kI := 16) C d_M_does_50 sh_79 rfl i_M rfl rfl rfl fl_M_198 ?_
        refine j_aload_n C d_M_does_53 1 rfl rfl ?_
        refine j_geti (kf := 17) (kI := 17) C d_M_does_54 sh_79 rfl i_M rfl rfl rfl fl_M_204 ?_
        refine j_aload_n C d_M_does_57 1 rfl rfl ?_
        refine j_geti (kf := 18) (kI := 18) C d_M_does_58 sh_79 rfl i_M rfl rfl rfl fl_M_207 ?_
        refine j_callV C d_M_does_61 ml_M_82 mi_M_closes (c_M_closes (xl X) (gD G) (gad G) (gca G) (v1 := σ 79 16) (v2 := σ 79 17) (v3 := σ 79 18) hσ (hσ _ _) (hσ _ _) (hσ _ _) h) sh_79 rfl rfl rfl rfl rfl rfl rfl (fun z11 σ12 rz11 hσ12 h => ?_)
        exact j_ireturn C d_M_does_64 rz11 hσ12 h
      · have h := h.2 c
        refine j_iload_n C d_M_does_44 0 rfl rfl ?_
        refine j_goto (tgt := 64) C d_M_does_45 rfl ?_
        exact j_ireturn C d_M_does_64 rz9 hσ h
  · have h := h.2 c
    refine j_aload_n C d_M_does_9 0 rfl rfl ?_
    refine j_callV C d_M_does_10 ml_M_225 mi_M_doesSpans (c_M_doesSpans (xl X) (gD G) (gad G) (gca G)  hσ h) sh_79 rfl rfl rfl rfl rfl rfl rfl (fun z13 σ14 rz13 hσ14 h => ?_)
    exact j_ireturn C d_M_does_13 rz13 hσ14 h
set_option maxRecDepth 100000 in
set_option maxHeartbeats 4000000 in
theorem w_M_carryOut_b81 {X : zX} {G : zG} (C : zC X G b_M_carryOut "GateRoadsModel" 3 (some .int) 7 146) {Q : Int → zM → Prop} {k25 : zM → Int → Int → Prop} (hk25 : ∀ (σ : zM) (v1 : Int) (v2 : Int), zRM σ → zR v1 → zR v2 → k25 σ v1 v2 → zJ X G (zQi X G Q) 3 25 [(0, .ref (gad G 79)), (1, .int (zI v1)), (2, .int (zI v2))] [] σ) (σ : zM) (v1 : Int) (s0 : Int) (hσ : zRM σ) (r1 : zR v1) (rs0 : zR s0) (h : wp_M_carryOut_b81 k25 Q σ v1 s0) : zJ X G (zQi X G Q) 3 81 [(0, .ref (gad G 79)), (1, .int (zI v1))] [.int (zI s0)] σ := by
  unfold wp_M_carryOut_b81 at h
  refine j_istore_n (L' := [(2, .int (zI s0)), (0, .ref (gad G 79)), (1, .int (zI v1))]) C d_M_carryOut_81 rfl rfl rfl ?_
  refine j_aload_n C d_M_carryOut_82 1 rfl rfl ?_
  refine j_dup C d_M_carryOut_83 rfl ?_
  refine j_geti (kf := 14) (kI := 14) C d_M_carryOut_84 sh_79 rfl i_M rfl rfl rfl fl_M_173 ?_
  refine j_iconst C d_M_carryOut_87 ?_
  refine j_iadd C d_M_carryOut_88 ?_
  obtain ⟨g10, h⟩ := h
  refine j_puti (kf := 14) (kI := 14) C t_M d_M_carryOut_89 sh_79 rfl i_M t_M_ok n_M rfl rfl rfl fl_M_173 rfl (Or.inl rfl) ?_
  refine j_mem (fun σ11 eσ11 => ?_)
  have h := h σ11 eσ11
  have hσ11 : zRM σ11 := by rw [eσ11]; exact zU_rg hσ _ _ g10
  refine j_goto (tgt := 25) C d_M_carryOut_92 rfl ?_
  refine j_sub (L' := [(0, .ref (gad G 79)), (1, .int (zI v1)), (2, .int (zI s0))]) [1, 2, 0] rfl ?_
  exact hk25 σ11 v1 s0 hσ11 r1 rs0 h
set_option maxRecDepth 100000 in
set_option maxHeartbeats 4000000 in
theorem w_M_carryOut_b80 {X : zX} {G : zG} (C : zC X G b_M_carryOut "GateRoadsModel" 3 (some .int) 7 146) {Q : Int → zM → Prop} {k25 : zM → Int → Int → Prop} (hk25 : ∀ (σ : zM) (v1 : Int) (v2 : Int), zRM σ → zR v1 → zR v2 → k25 σ v1 v2 → zJ X G (zQi X G Q) 3 25 [(0, .ref (gad G 79)), (1, .int (zI v1)), (2, .int (zI v2))] [] σ) (σ : zM) (v1 : Int) (hσ : zRM σ) (r1 : zR v1) (h : wp_M_carryOut_b80 k25 Q σ v1) : zJ X G (zQi X G Q) 3 80 [(0, .ref (gad G 79)), (1, .int (zI v1))] [] σ := by
  unfold wp_M_carryOut_b80 at h
  refine j_iconst C d_M_carryOut_80 ?_
  refine w_M_carryOut_b81 C hk25 σ v1 0 hσ r1 (zR_of (x := 0) rfl) h
set_option maxRecDepth 100000 in
set_option maxHeartbeats 4000000 in
theorem w_M_carryOut_b59 {X : zX} {G : zG} (C : zC X G b_M_carryOut "GateRoadsModel" 3 (some .int) 7 146) {Q : Int → zM → Prop} {k25 : zM → Int → Int → Prop} (hk25 : ∀ (σ : zM) (v1 : Int) (v2 : Int), zRM σ → zR v1 → zR v2 → k25 σ v1 v2 → zJ X G (zQi X G Q) 3 25 [(0, .ref (gad G 79)), (1, .int (zI v1)), (2, .int (zI v2))] [] σ) (σ : zM) (v2 : Int) (s0 : Int) (s1 : Int) (hσ : zRM σ) (r2 : zR v2) (rs0 : zR s0) (rs1 : zR s1) (h : wp_M_carryOut_b59 k25 Q σ v2 s0 s1) : zJ X G (zQi X G Q) 3 59 [(0, .ref (gad G 79)), (2, .int (zI v2))] [.int (zI s1), .int (zI s0)] σ := by
  unfold wp_M_carryOut_b59 at h
  refine j_iadd C d_M_carryOut_59 ?_
  obtain ⟨g9, h⟩ := h
  refine j_istore_n (L' := [(1, .int (zI (s0 + s1))), (0, .ref (gad G 79)), (2, .int (zI v2))]) C d_M_carryOut_60 rfl rfl rfl ?_
  refine j_iload_n C d_M_carryOut_61 2 rfl rfl ?_
  refine j_if_eq (tgt := 80) C d_M_carryOut_62 rfl r2 (fun c => ?_) (fun c => ?_)
  · have h := h.1 c
    refine j_sub (L' := [(0, .ref (gad G 79)), (1, .int (zI (s0 + s1)))]) [1, 0] rfl ?_
    refine w_M_carryOut_b80 C hk25 σ (s0 + s1) hσ g9 h
  · have h := h.2 c
    refine j_aload_n C d_M_carryOut_65 1 rfl rfl ?_
    refine j_geti (kf := 14) (kI := 14) C d_M_carryOut_66 sh_79 rfl i_M rfl rfl rfl fl_M_173 ?_
    refine j_aload_n C d_M_carryOut_69 1 rfl rfl ?_
    refine j_geti (kf := 7) (kI := 7) C d_M_carryOut_70 sh_79 rfl i_M rfl rfl rfl fl_M_132 ?_
    refine j_icmp_ge (tgt := 80) C d_M_carryOut_73 rfl (hσ _ _) (hσ _ _) (fun c => ?_) (fun c => ?_)
    · have h := h.1 c
      refine j_sub (L' := [(0, .ref (gad G 79)), (1, .int (zI (s0 + s1)))]) [1, 0] rfl ?_
      refine w_M_carryOut_b80 C hk25 σ (s0 + s1) hσ g9 h
    · have h := h.2 c
      refine j_iconst C d_M_carryOut_76 ?_
      refine j_goto (tgt := 81) C d_M_carryOut_77 rfl ?_
      refine j_sub (L' := [(0, .ref (gad G 79)), (1, .int (zI (s0 + s1)))]) [1, 0] rfl ?_
      refine w_M_carryOut_b81 C hk25 σ (s0 + s1) 1 hσ g9 (zR_of (x := 1) rfl) h
set_option maxRecDepth 100000 in
set_option maxHeartbeats 4000000 in
theorem w_M_carryOut_b48 {X : zX} {G : zG} (C : zC X G b_M_carryOut "GateRoadsModel" 3 (some .int) 7 146) {Q : Int → zM → Prop} {k25 : zM → Int → Int → Prop} (hk25 : ∀ (σ : zM) (v1 : Int) (v2 : Int), zRM σ → zR v1 → zR v2 → k25 σ v1 v2 → zJ X G (zQi X G Q) 3 25 [(0, .ref (gad G 79)), (1, .int (zI v1)), (2, .int (zI v2))] [] σ) (σ : zM) (v1 : Int) (s0 : Int) (hσ : zRM σ) (r1 : zR v1) (rs0 : zR s0) (h : wp_M_carryOut_b48 k25 Q σ v1 s0) : zJ X G (zQi X G Q) 3 48 [(0, .ref (gad G 79)), (1, .int (zI v1))] [.int (zI s0)] σ := by
  unfold wp_M_carryOut_b48 at h
  refine j_istore_n (L' := [(2, .int (zI s0)), (0, .ref (gad G 79)), (1, .int (zI v1))]) C d_M_carryOut_48 rfl rfl rfl ?_
  refine j_iload_n C d_M_carryOut_49 2 rfl rfl ?_
  refine j_iload_n C d_M_carryOut_50 0 rfl rfl ?_
  refine j_if_eq (tgt := 58) C d_M_carryOut_51 rfl rs0 (fun c => ?_) (fun c => ?_)
  · have h := h.1 c
    refine j_iconst C d_M_carryOut_58 ?_
    refine j_sub (L' := [(0, .ref (gad G 79)), (2, .int (zI s0))]) [1, 0] rfl ?_
    refine w_M_carryOut_b59 C hk25 σ s0 v1 0 hσ rs0 r1 (zR_of (x := 0) rfl) h
  · have h := h.2 c
    refine j_iconst C d_M_carryOut_54 ?_
    refine j_goto (tgt := 59) C d_M_carryOut_55 rfl ?_
    refine j_sub (L' := [(0, .ref (gad G 79)), (2, .int (zI s0))]) [1, 0] rfl ?_
    refine w_M_carryOut_b59 C hk25 σ s0 v1 1 hσ rs0 r1 (zR_of (x := 1) rfl) h
set_option maxRecDepth 100000 in
set_option maxHeartbeats 4000000 in
theorem w_M_carryOut_b47 {X : zX} {G : zG} (C : zC X G b_M_carryOut "GateRoadsModel" 3 (some .int) 7 146) {Q : Int → zM → Prop} {k25 : zM → Int → Int → Prop} (hk25 : ∀ (σ : zM) (v1 : Int) (v2 : Int), zRM σ → zR v1 → zR v2 → k25 σ v1 v2 → zJ X G (zQi X G Q) 3 25 [(0, .ref (gad G 79)), (1, .int (zI v1)), (2, .int (zI v2))] [] σ) (σ : zM) (v1 : Int) (hσ : zRM σ) (r1 : zR v1) (h : wp_M_carryOut_b47 k25 Q σ v1) : zJ X G (zQi X G Q) 3 47 [(0, .ref (gad G 79)), (1, .int (zI v1))] [] σ := by
  unfold wp_M_carryOut_b47 at h
  refine j_iconst C d_M_carryOut_47 ?_
  refine w_M_carryOut_b48 C hk25 σ v1 0 hσ r1 (zR_of (x := 0) rfl) h
set_option maxRecDepth 100000 in
set_option maxHeartbeats 4000000 in
theorem w_M_carryOut_L25 {X : zX} {G : zG} (C : zC X G b_M_carryOut "GateRoadsModel" 3 (some .int) 7 146) {Q : Int → zM → Prop} : ∀ (n : Nat) (σ : zM) (v1 : Int) (v2 : Int) (hσ : zRM σ) (r1 : zR v1) (r2 : zR v2), wp_M_carryOut_L25 Q n σ v1 v2 → zJ X G (zQi X G Q) 3 25 [(0, .ref (gad G 79)), (1, .int (zI v1)), (2, .int (zI v2))] [] σ := by
  intro n
  induction n with
  | zero => intro σ v1 v2 hσ r1 r2 h; exact False.elim h
  | succ n ih =>
    intro σ v1 v2 hσ r1 r2 h
    rw [wp_M_carryOut_L25] at h
    refine j_iload_n C d_M_carryOut_25 2 rfl rfl ?_
    refine j_if_eq (tgt := 95) C d_M_carryOut_26 rfl r2 (fun c => ?_) (fun c => ?_)
    · have h := h.1 c
      refine j_aload_n C d_M_carryOut_95 0 rfl rfl ?_
      refine j_iconst C d_M_carryOut_96 ?_
      refine j_puti (kf := 7) (kI := 7) C t_M d_M_carryOut_97 sh_79 rfl i_M t_M_ok n_M rfl rfl rfl fl_M_132 rfl (Or.inl rfl) ?_
      refine j_mem (fun σ6 eσ6 => ?_)
      have h := h σ6 eσ6
      have hσ6 : zRM σ6 := by rw [eσ6]; exact zU_rg hσ _ _ (zR_of (x := 0) rfl)
      refine j_iload_n C d_M_carryOut_100 1 rfl rfl ?_
      exact j_ireturn C d_M_carryOut_101 r1 hσ6 h
    · have h := h.2 c
      refine j_aload_n C d_M_carryOut_29 0 rfl rfl ?_
      refine j_callV C d_M_carryOut_30 ml_M_222 mi_M_passesOrder (c_M_passesOrder (xl X) (gD G) (gad G) (gca G)  hσ h) sh_79 rfl rfl rfl rfl rfl rfl rfl (fun z7 σ8 rz7 hσ8 h => ?_)
      refine j_if_eq (tgt := 47) C d_M_carryOut_33 rfl rz7 (fun c => ?_) (fun c => ?_)
      · have h := h.1 c
        refine j_sub (L' := [(0, .ref (gad G 79)), (1, .int (zI v1))]) [0, 1] rfl ?_
        refine w_M_carryOut_b47 C ih σ8 v1 hσ8 r1 h
      · have h := h.2 c
        refine j_aload_n C d_M_carryOut_36 0 rfl rfl ?_
        refine j_callV C d_M_carryOut_37 ml_M_232 mi_M_does (c_M_does (xl X) (gD G) (gad G) (gca G)  hσ8 h) sh_79 rfl rfl rfl rfl rfl rfl rfl (fun z12 σ13 rz12 hσ13 h => ?_)
        refine j_if_lt (tgt := 47) C d_M_carryOut_40 rfl rz12 (fun c => ?_) (fun c => ?_)
        · have h := h.1 c
          refine j_sub (L' := [(0, .ref (gad G 79)), (1, .int (zI v1))]) [0, 1] rfl ?_
          refine w_M_carryOut_b47 C ih σ13 v1 hσ13 r1 h
        · have h := h.2 c
          refine j_iconst C d_M_carryOut_43 ?_
          refine j_goto (tgt := 48) C d_M_carryOut_44 rfl ?_
          refine j_sub (L' := [(0, .ref (gad G 79)), (1, .int (zI v1))]) [0, 1] rfl ?_
          refine w_M_carryOut_b48 C ih σ13 v1 1 hσ13 r1 (zR_of (x := 1) rfl) h
set_option maxRecDepth 100000 in
set_option maxHeartbeats 4000000 in
theorem c_M_carryOut (l : Launch) (D : va_G) (ad : Nat → Nat) (ca : Nat → ClassId) {σ : zM} {Q : Int → zM → Prop} (hσ : zRM σ) (h : wp_M_carryOut σ Q) : zCi l D ad ca y_M_carryOut b_M_carryOut 3 (some .int) (zrm 7 146) [.ref (ad 79)] σ Q := by
  refine zCi_of (by decide +kernel) (Nat.le_of_ble_eq_true rfl) ?_
  intro X G C hl hD had hca
  subst hl hD had hca
  have C : zC X G b_M_carryOut "GateRoadsModel" 3 (some .int) 7 146 := C
  show zJ X G (zQi X G Q) 3 0 [(0, .ref (gad G 79))] [] σ
  unfold wp_M_carryOut at h
  refine j_aload_n C d_M_carryOut_0 0 rfl rfl ?_
  refine j_callV C d_M_carryOut_1 ml_M_229 mi_M_fault (c_M_fault (xl X) (gD G) (gad G) (gca G)  hσ h) sh_79 rfl rfl rfl rfl rfl rfl rfl (fun z1 σ2 rz1 hσ2 h => ?_)
  refine j_bipush C d_M_carryOut_4 rfl ?_
  refine j_icmp_eq (tgt := 12) C d_M_carryOut_6 rfl rz1 (zR_of (x := (-6)) rfl) (fun c => ?_) (fun c => ?_)
  · have h := h.1 c
    refine j_aload_n C d_M_carryOut_12 0 rfl rfl ?_
    refine j_callVv C d_M_carryOut_13 ml_M_54 mi_M_records (c_M_records (xl X) (gD G) (gad G) (gca G)  hσ2 h) sh_79 rfl rfl rfl rfl rfl rfl rfl (fun σ4 hσ4 h => ?_)
    refine j_iconst C d_M_carryOut_16 ?_
    refine j_istore_n (L' := [(1, .int (zI 0)), (0, .ref (gad G 79))]) C d_M_carryOut_17 rfl rfl rfl ?_
    refine j_iconst C d_M_carryOut_18 ?_
    refine j_istore_n (L' := [(2, .int (zI 1)), (1, .int (zI 0)), (0, .ref (gad G 79))]) C d_M_carryOut_19 rfl rfl rfl ?_
    refine j_aload_n C d_M_carryOut_20 2 rfl rfl ?_
    refine j_iconst C d_M_carryOut_21 ?_
    refine j_puti (kf := 14) (kI := 14) C t_M d_M_carryOut_22 sh_79 rfl i_M t_M_ok n_M rfl rfl rfl fl_M_173 rfl (Or.inl rfl) ?_
    refine j_mem (fun σ5 eσ5 => ?_)
    have h := h σ5 eσ5
    have hσ5 : zRM σ5 := by rw [eσ5]; exact zU_rg hσ4 _ _ (zR_of (x := 0) rfl)
    obtain ⟨n14, h⟩ := h
    refine j_sub (L' := [(0, .ref (gad G 79)), (1, .int (zI 0)), (2, .int (zI 1))]) [2, 1, 0] rfl ?_
    refine w_M_carryOut_L25 C n14 σ5 0 1 hσ5 (zR_of (x := 0) rfl) (zR_of (x := 1) rfl) h
  · have h := h.2 c
    refine j_bipush C d_M_carryOut_9 rfl ?_
    exact j_ireturn C d_M_carryOut_11 (zR_of (x := (-3)) rfl) hσ2 h
