set_option maxRecDepth 100000 in
set_option maxHeartbeats 4000000 in
theorem c_M_whyShut (l : Launch) (D : va_G) (ad : Nat → Nat) (ca : Nat → ClassId) {σ : zM} {v1 : Int} {v2 : Int} {Q : Int → Prop} (hσ : zRM σ) (r1 : zR v1) (r2 : zR v2) (h : wp_M_whyShut σ v1 v2 Q) : zCi l D ad ca y_M_whyShut b_M_whyShut 3 (some .int) (zrm 3 71) [.ref (ad 79), .int (zI v1), .int (zI v2)] σ (fun z u => σ = u ∧ Q z) := by
  refine zCi_of (by decide +kernel) (Nat.le_of_ble_eq_true rfl) ?_
  intro X G C hl hD had hca
  subst hl hD had hca
  have C : zC X G b_M_whyShut "GateRoadsModel" 3 (some .int) 3 71 := C
  show zJ X G (zQi X G (fun z u => σ = u ∧ Q z)) 3 0 [(0, .ref (gad G 79)), (1, .int (zI v1)), (2, .int (zI v2))] [] σ
  unfold wp_M_whyShut at h
  refine j_aload_n C d_M_whyShut_0 0 rfl rfl ?_
  refine j_iload_n C d_M_whyShut_1 1 rfl rfl ?_
  refine j_callV C d_M_whyShut_2 ml_M_61 mi_M_isRoad (c_M_isRoad (xl X) (gD G) (gad G) (gca G) (v1 := v1) hσ r1 h) sh_79 rfl rfl rfl rfl rfl rfl rfl (fun z1 σ2 rz1 hσ2 h => ?_)
  obtain ⟨ez1, h⟩ := h; subst ez1
  refine j_if_ne (tgt := 10) C d_M_whyShut_5 rfl rz1 (fun c => ?_) (fun c => ?_)
  · have h := h.1 c
    refine j_iload_n C d_M_whyShut_10 2 rfl rfl ?_
    refine j_callS C d_M_whyShut_11 ml_M_92 ms_M_isTime (c_M_isTime (xl X) (gD G) (gad G) (gca G) (v0 := v2) hσ r2 h) rfl rfl rfl rfl rfl (fun z3 σ4 rz3 hσ4 h => ?_)
    obtain ⟨ez3, h⟩ := h; subst ez3
    refine j_if_eq (tgt := 26) C d_M_whyShut_14 rfl rz3 (fun c => ?_) (fun c => ?_)
    · have h := h.1 c
      refine j_bipush C d_M_whyShut_26 rfl ?_
      exact j_ireturn C d_M_whyShut_28 (zR_of (x := (-2)) rfl) hσ ⟨rfl, h⟩
    · have h := h.2 c
      refine j_aload_n C d_M_whyShut_17 0 rfl rfl ?_
      refine j_iload_n C d_M_whyShut_18 1 rfl rfl ?_
      refine j_iload_n C d_M_whyShut_19 2 rfl rfl ?_
      refine j_callV C d_M_whyShut_20 ml_M_95 mi_M_whyNot (c_M_whyNot (xl X) (gD G) (gad G) (gca G) (v1 := v1) (v2 := v2) hσ r1 r2 h) sh_79 rfl rfl rfl rfl rfl rfl rfl (fun z5 σ6 rz5 hσ6 h => ?_)
      obtain ⟨ez5, h⟩ := h; subst ez5
      refine j_goto (tgt := 28) C d_M_whyShut_23 rfl ?_
      exact j_ireturn C d_M_whyShut_28 rz5 hσ ⟨rfl, h⟩
  · have h := h.2 c
    refine j_iconst C d_M_whyShut_8 ?_
    exact j_ireturn C d_M_whyShut_9 (zR_of (x := (-1)) rfl) hσ ⟨rfl, h⟩
set_option maxRecDepth 100000 in
set_option maxHeartbeats 4000000 in
theorem c_M_traveller (l : Launch) (D : va_G) (ad : Nat → Nat) (ca : Nat → ClassId) {σ : zM} {v1 : Int} {v2 : Int} {Q : Int → zM → Prop} (hσ : zRM σ) (r1 : zR v1) (r2 : zR v2) (h : wp_M_traveller σ v1 v2 Q) : zCi l D ad ca y_M_traveller b_M_traveller 4 (some .int) (zrm 2 42) [.ref (ad 79), .int (zI v1), .int (zI v2)] σ Q := by
  refine zCi_of (by decide +kernel) (Nat.le_of_ble_eq_true rfl) ?_
  intro X G C hl hD had hca
  subst hl hD had hca
  have C : zC X G b_M_traveller "GateRoadsModel" 4 (some .int) 2 42 := C
  show zJ X G (zQi X G Q) 4 0 [(0, .ref (gad G 79)), (1, .int (zI v1)), (2, .int (zI v2))] [] σ
  unfold wp_M_traveller at h
  refine j_iload_n C d_M_traveller_0 1 rfl rfl ?_
  refine j_callS C d_M_traveller_1 ml_M_57 ms_M_isPlace (c_M_isPlace (xl X) (gD G) (gad G) (gca G) (v0 := v1) hσ r1 h) rfl rfl rfl rfl rfl (fun z1 σ2 rz1 hσ2 h => ?_)
  obtain ⟨ez1, h⟩ := h; subst ez1
  refine j_if_ne (tgt := 9) C d_M_traveller_4 rfl rz1 (fun c => ?_) (fun c => ?_)
  · have h := h.1 c
    refine j_iload_n C d_M_traveller_9 2 rfl rfl ?_
    refine j_callS C d_M_traveller_10 ml_M_92 ms_M_isTime (c_M_isTime (xl X) (gD G) (gad G) (gca G) (v0 := v2) hσ r2 h) rfl rfl rfl rfl rfl (fun z3 σ4 rz3 hσ4 h => ?_)
    obtain ⟨ez3, h⟩ := h; subst ez3
    refine j_if_ne (tgt := 19) C d_M_traveller_13 rfl rz3 (fun c => ?_) (fun c => ?_)
    · have h := h.1 c
      refine j_aload_n C d_M_traveller_19 0 rfl rfl ?_
      refine j_getr (kf := 0) (m := 80) C d_M_traveller_20 sh_79 rfl i_M rfl rfl fl_M_7 ?_
      refine j_iconst C d_M_traveller_23 ?_
      refine j_iaload C d_M_traveller_24 sh_80 (zIx (i := 2) (n := 455) rfl) ?_
      refine j_bipush C d_M_traveller_25 rfl ?_
      refine j_icmp_ne (tgt := 33) C d_M_traveller_27 rfl (hσ _ _) (zR_of (x := 10) rfl) (fun c => ?_) (fun c => ?_)
      · have h := h.1 c
        refine j_aload_n C d_M_traveller_33 0 rfl rfl ?_
        refine j_callVv C d_M_traveller_34 ml_M_54 mi_M_records (c_M_records (xl X) (gD G) (gad G) (gca G)  hσ h) sh_79 rfl rfl rfl rfl rfl rfl rfl (fun σ6 hσ6 h => ?_)
        refine j_sipush C d_M_traveller_37 rfl ?_
        refine j_bipush C d_M_traveller_40 rfl ?_
        refine j_aload_n C d_M_traveller_42 0 rfl rfl ?_
        refine j_getr (kf := 0) (m := 80) C d_M_traveller_43 sh_79 rfl i_M rfl rfl fl_M_7 ?_
        refine j_iconst C d_M_traveller_46 ?_
        refine j_iaload C d_M_traveller_47 sh_80 (zIx (i := 2) (n := 455) rfl) ?_
        refine j_imul C d_M_traveller_48 ?_
        refine j_iadd C d_M_traveller_49 ?_
        obtain ⟨g7, h⟩ := h
        refine j_istore_n (L' := [(3, .int (zI (375 + (8 * (σ6 80 2))))), (0, .ref (gad G 79)), (1, .int (zI v1)), (2, .int (zI v2))]) C d_M_traveller_50 rfl rfl rfl ?_
        refine j_aload_n C d_M_traveller_51 1 rfl rfl ?_
        refine j_getr (kf := 0) (m := 80) C d_M_traveller_52 sh_79 rfl i_M rfl rfl fl_M_7 ?_
        refine j_iload_n C d_M_traveller_55 0 rfl rfl ?_
        refine j_iload_n C d_M_traveller_56 2 rfl rfl ?_
        obtain ⟨g8, h⟩ := h
        refine j_iastore C d_M_traveller_57 sh_80 g8 ?_
        refine j_mem (fun σ9 eσ9 => ?_)
        have h := h σ9 eσ9
        have hσ9 : zRM σ9 := by rw [eσ9]; exact zU_rg hσ6 _ _ r1
        refine j_aload_n C d_M_traveller_58 1 rfl rfl ?_
        refine j_getr (kf := 0) (m := 80) C d_M_traveller_59 sh_79 rfl i_M rfl rfl fl_M_7 ?_
        refine j_iload_n C d_M_traveller_62 0 rfl rfl ?_
        refine j_iconst C d_M_traveller_63 ?_
        refine j_iadd C d_M_traveller_64 ?_
        refine j_iload_n C d_M_traveller_65 3 rfl rfl ?_
        obtain ⟨g10, h⟩ := h
        refine j_iastore C d_M_traveller_66 sh_80 g10 ?_
        refine j_mem (fun σ11 eσ11 => ?_)
        have h := h σ11 eσ11
        have hσ11 : zRM σ11 := by rw [eσ11]; exact zU_rg hσ9 _ _ r2
        refine j_aload_n C d_M_traveller_67 1 rfl rfl ?_
        refine j_getr (kf := 0) (m := 80) C d_M_traveller_68 sh_79 rfl i_M rfl rfl fl_M_7 ?_
        refine j_iload_n C d_M_traveller_71 0 rfl rfl ?_
        refine j_iconst C d_M_traveller_72 ?_
        refine j_iadd C d_M_traveller_73 ?_
        refine j_iload_n C d_M_traveller_74 3 rfl rfl ?_
        obtain ⟨g12, h⟩ := h
        refine j_iastore C d_M_traveller_75 sh_80 g12 ?_
        refine j_mem (fun σ13 eσ13 => ?_)
        have h := h σ13 eσ13
        have hσ13 : zRM σ13 := by rw [eσ13]; exact zU_rg hσ11 _ _ r2
        refine j_aload_n C d_M_traveller_76 1 rfl rfl ?_
        refine j_getr (kf := 0) (m := 80) C d_M_traveller_77 sh_79 rfl i_M rfl rfl fl_M_7 ?_
        refine j_iload_n C d_M_traveller_80 0 rfl rfl ?_
        refine j_iconst C d_M_traveller_81 ?_
        refine j_iadd C d_M_traveller_82 ?_
        refine j_iconst C d_M_traveller_83 ?_
        obtain ⟨g14, h⟩ := h
        refine j_iastore C d_M_traveller_84 sh_80 g14 ?_
        refine j_mem (fun σ15 eσ15 => ?_)
        have h := h σ15 eσ15
        have hσ15 : zRM σ15 := by rw [eσ15]; exact zU_rg hσ13 _ _ (zR_of (x := 0) rfl)
        refine j_aload_n C d_M_traveller_85 1 rfl rfl ?_
        refine j_getr (kf := 0) (m := 80) C d_M_traveller_86 sh_79 rfl i_M rfl rfl fl_M_7 ?_
        refine j_iload_n C d_M_traveller_89 0 rfl rfl ?_
        refine j_iconst C d_M_traveller_90 ?_
        refine j_iadd C d_M_traveller_91 ?_
        refine j_iconst C d_M_traveller_92 ?_
        obtain ⟨g16, h⟩ := h
        refine j_iastore C d_M_traveller_93 sh_80 g16 ?_
        refine j_mem (fun σ17 eσ17 => ?_)
        have h := h σ17 eσ17
        have hσ17 : zRM σ17 := by rw [eσ17]; exact zU_rg hσ15 _ _ (zR_of (x := 0) rfl)
        refine j_aload_n C d_M_traveller_94 1 rfl rfl ?_
        refine j_getr (kf := 0) (m := 80) C d_M_traveller_95 sh_79 rfl i_M rfl rfl fl_M_7 ?_
        refine j_iload_n C d_M_traveller_98 0 rfl rfl ?_
        refine j_iconst C d_M_traveller_99 ?_
        refine j_iadd C d_M_traveller_100 ?_
        refine j_iconst C d_M_traveller_101 ?_
        obtain ⟨g18, h⟩ := h
        refine j_iastore C d_M_traveller_102 sh_80 g18 ?_
        refine j_mem (fun σ19 eσ19 => ?_)
        have h := h σ19 eσ19
        have hσ19 : zRM σ19 := by rw [eσ19]; exact zU_rg hσ17 _ _ (zR_of (x := 0) rfl)
        refine j_aload_n C d_M_traveller_103 1 rfl rfl ?_
        refine j_getr (kf := 0) (m := 80) C d_M_traveller_104 sh_79 rfl i_M rfl rfl fl_M_7 ?_
        refine j_iload_n C d_M_traveller_107 0 rfl rfl ?_
        refine j_bipush C d_M_traveller_108 rfl ?_
        refine j_iadd C d_M_traveller_110 ?_
        refine j_iload_n C d_M_traveller_111 2 rfl rfl ?_
        obtain ⟨g20, h⟩ := h
        refine j_iastore C d_M_traveller_112 sh_80 g20 ?_
        refine j_mem (fun σ21 eσ21 => ?_)
        have h := h σ21 eσ21
        have hσ21 : zRM σ21 := by rw [eσ21]; exact zU_rg hσ19 _ _ r1
        refine j_aload_n C d_M_traveller_113 1 rfl rfl ?_
        refine j_getr (kf := 0) (m := 80) C d_M_traveller_114 sh_79 rfl i_M rfl rfl fl_M_7 ?_
        refine j_iload_n C d_M_traveller_117 0 rfl rfl ?_
        refine j_bipush C d_M_traveller_118 rfl ?_
        refine j_iadd C d_M_traveller_120 ?_
        refine j_iload_n C d_M_traveller_121 3 rfl rfl ?_
        obtain ⟨g22, h⟩ := h
        refine j_iastore C d_M_traveller_122 sh_80 g22 ?_
        refine j_mem (fun σ23 eσ23 => ?_)
        have h := h σ23 eσ23
        have hσ23 : zRM σ23 := by rw [eσ23]; exact zU_rg hσ21 _ _ r2
        refine j_aload_n C d_M_traveller_123 1 rfl rfl ?_
        refine j_getr (kf := 0) (m := 80) C d_M_traveller_124 sh_79 rfl i_M rfl rfl fl_M_7 ?_
        refine j_iconst C d_M_traveller_127 ?_
        refine j_dup2 C d_M_traveller_128 rfl rfl ?_
        refine j_iaload C d_M_traveller_129 sh_80 (zIx (i := 2) (n := 455) rfl) ?_
        refine j_iconst C d_M_traveller_130 ?_
        refine j_iadd C d_M_traveller_131 ?_
        obtain ⟨g24, h⟩ := h
        refine j_iastore C d_M_traveller_132 sh_80 (zIx (i := 2) (n := 455) rfl) ?_
        refine j_mem (fun σ25 eσ25 => ?_)
        have h := h σ25 eσ25
        have hσ25 : zRM σ25 := by rw [eσ25]; exact zU_rg hσ23 _ _ g24
        refine j_aload_n C d_M_traveller_133 1 rfl rfl ?_
        refine j_getr (kf := 0) (m := 80) C d_M_traveller_134 sh_79 rfl i_M rfl rfl fl_M_7 ?_
        refine j_iconst C d_M_traveller_137 ?_
        refine j_iaload C d_M_traveller_138 sh_80 (zIx (i := 2) (n := 455) rfl) ?_
        refine j_iconst C d_M_traveller_139 ?_
        refine j_isub C d_M_traveller_140 ?_
        obtain ⟨g26, h⟩ := h
        exact j_ireturn C d_M_traveller_141 g26 hσ25 h
      · have h := h.2 c
        refine j_bipush C d_M_traveller_30 rfl ?_
        exact j_ireturn C d_M_traveller_32 (zR_of (x := (-4)) rfl) hσ h
    · have h := h.2 c
      refine j_bipush C d_M_traveller_16 rfl ?_
      exact j_ireturn C d_M_traveller_18 (zR_of (x := (-2)) rfl) hσ h
  · have h := h.2 c
    refine j_iconst C d_M_traveller_7 ?_
    exact j_ireturn C d_M_traveller_8 (zR_of (x := (-1)) rfl) hσ h
set_option maxRecDepth 100000 in
set_option maxHeartbeats 4000000 in
theorem c_M_isTraveller (l : Launch) (D : va_G) (ad : Nat → Nat) (ca : Nat → ClassId) {σ : zM} {v1 : Int} {Q : Int → Prop} (hσ : zRM σ) (r1 : zR v1) (h : wp_M_isTraveller σ v1 Q) : zCi l D ad ca y_M_isTraveller b_M_isTraveller 2 (some .boolean) (zrm 1 22) [.ref (ad 79), .int (zI v1)] σ (fun z u => σ = u ∧ Q z) := by
  refine zCi_of (by decide +kernel) (Nat.le_of_ble_eq_true rfl) ?_
  intro X G C hl hD had hca
  subst hl hD had hca
  have C : zC X G b_M_isTraveller "GateRoadsModel" 2 (some .boolean) 1 22 := C
  show zJ X G (zQi X G (fun z u => σ = u ∧ Q z)) 2 0 [(0, .ref (gad G 79)), (1, .int (zI v1))] [] σ
  unfold wp_M_isTraveller at h
  refine j_iload_n C d_M_isTraveller_0 1 rfl rfl ?_
  refine j_iconst C d_M_isTraveller_1 ?_
  refine j_aload_n C d_M_isTraveller_2 0 rfl rfl ?_
  refine j_getr (kf := 0) (m := 80) C d_M_isTraveller_3 sh_79 rfl i_M rfl rfl fl_M_7 ?_
  refine j_iconst C d_M_isTraveller_6 ?_
  refine j_iaload C d_M_isTraveller_7 sh_80 (zIx (i := 2) (n := 455) rfl) ?_
  refine j_iconst C d_M_isTraveller_8 ?_
  refine j_isub C d_M_isTraveller_9 ?_
  obtain ⟨g1, h⟩ := h
  refine j_callS C d_M_isTraveller_10 ml_M_46 ms_M_isIn (c_M_isIn (xl X) (gD G) (gad G) (gca G) (v0 := v1) (v1 := 0) (v2 := (σ 80 2) - 1) hσ r1 (zR_of (x := 0) rfl) g1 h) rfl rfl rfl rfl rfl (fun z2 σ3 rz2 hσ3 h => ?_)
  obtain ⟨ez2, h⟩ := h; subst ez2
  obtain ⟨g4, h⟩ := h
  exact j_zreturn C d_M_isTraveller_13 g4 hσ ⟨rfl, h⟩
set_option maxRecDepth 100000 in
set_option maxHeartbeats 4000000 in
theorem c_M_ofT (l : Launch) (D : va_G) (ad : Nat → Nat) (ca : Nat → ClassId) {σ : zM} {v1 : Int} {v2 : Int} {Q : Int → Prop} (hσ : zRM σ) (r1 : zR v1) (r2 : zR v2) (h : wp_M_ofT σ v1 v2 Q) : zCi l D ad ca y_M_ofT b_M_ofT 3 (some .int) (zrm 0 0) [.ref (ad 79), .int (zI v1), .int (zI v2)] σ (fun z u => σ = u ∧ Q z) := by
  refine zCi_of (by decide +kernel) (Nat.le_of_ble_eq_true rfl) ?_
  intro X G C hl hD had hca
  subst hl hD had hca
  have C : zC X G b_M_ofT "GateRoadsModel" 3 (some .int) 0 0 := C
  show zJ X G (zQi X G (fun z u => σ = u ∧ Q z)) 3 0 [(0, .ref (gad G 79)), (1, .int (zI v1)), (2, .int (zI v2))] [] σ
  unfold wp_M_ofT at h
  refine j_aload_n C d_M_ofT_0 0 rfl rfl ?_
  refine j_getr (kf := 0) (m := 80) C d_M_ofT_1 sh_79 rfl i_M rfl rfl fl_M_7 ?_
  refine j_sipush C d_M_ofT_4 rfl ?_
  refine j_bipush C d_M_ofT_7 rfl ?_
  refine j_iload_n C d_M_ofT_9 1 rfl rfl ?_
  refine j_imul C d_M_ofT_10 ?_
  refine j_iadd C d_M_ofT_11 ?_
  refine j_iload_n C d_M_ofT_12 2 rfl rfl ?_
  refine j_iadd C d_M_ofT_13 ?_
  obtain ⟨g1, h⟩ := h
  refine j_iaload C d_M_ofT_14 sh_80 g1 ?_
  exact j_ireturn C d_M_ofT_15 (hσ _ _) hσ ⟨rfl, h⟩
set_option maxRecDepth 100000 in
set_option maxHeartbeats 4000000 in
theorem c_M_refuses (l : Launch) (D : va_G) (ad : Nat → Nat) (ca : Nat → ClassId) {σ : zM} {v1 : Int} {Q : Int → zM → Prop} (hσ : zRM σ) (r1 : zR v1) (h : wp_M_refuses σ v1 Q) : zCi l D ad ca y_M_refuses b_M_refuses 2 (some .int) (zrm 0 0) [.ref (ad 79), .int (zI v1)] σ Q := by
  refine zCi_of (by decide +kernel) (Nat.le_of_ble_eq_true rfl) ?_
  intro X G C hl hD had hca
  subst hl hD had hca
  have C : zC X G b_M_refuses "GateRoadsModel" 2 (some .int) 0 0 := C
  show zJ X G (zQi X G Q) 2 0 [(0, .ref (gad G 79)), (1, .int (zI v1))] [] σ
  unfold wp_M_refuses at h
  refine j_aload_n C d_M_refuses_0 0 rfl rfl ?_
  refine j_iload_n C d_M_refuses_1 1 rfl rfl ?_
  refine j_puti (kf := 5) (kI := 5) C t_M d_M_refuses_2 sh_79 rfl i_M t_M_ok n_M rfl rfl rfl fl_M_98 rfl (Or.inl rfl) ?_
  refine j_mem (fun σ1 eσ1 => ?_)
  have h := h σ1 eσ1
  have hσ1 : zRM σ1 := by rw [eσ1]; exact zU_rg hσ _ _ r1
  refine j_bipush C d_M_refuses_5 rfl ?_
  exact j_ireturn C d_M_refuses_7 (zR_of (x := (-5)) rfl) hσ1 h
set_option maxRecDepth 100000 in
set_option maxHeartbeats 4000000 in
theorem w_M_checksGoing_b48 {X : zX} {G : zG} (C : zC X G b_M_checksGoing "GateRoadsModel" 4 (some .int) 3 71) {Q : Int → zM → Prop} (σ : zM) (s0 : Int) (hσ : zRM σ) (rs0 : zR s0) (h : wp_M_checksGoing_b48 Q σ s0) : zJ X G (zQi X G Q) 4 48 [(0, .ref (gad G 79))] [.int (zI s0)] σ := by
  unfold wp_M_checksGoing_b48 at h
  refine j_istore_n (L' := [(3, .int (zI s0)), (0, .ref (gad G 79))]) C d_M_checksGoing_48 rfl rfl rfl ?_
  refine j_iload_n C d_M_checksGoing_49 0 rfl rfl ?_
  refine j_if_ne (tgt := 57) C d_M_checksGoing_50 rfl rs0 (fun c => ?_) (fun c => ?_)
  · have h := h.1 c
    refine j_aload_n C d_M_checksGoing_57 1 rfl rfl ?_
    refine j_iload_n C d_M_checksGoing_58 0 rfl rfl ?_
    refine j_callV C d_M_checksGoing_59 ml_M_107 mi_M_refuses (c_M_refuses (xl X) (gD G) (gad G) (gca G) (v1 := s0) hσ rs0 h) sh_79 rfl rfl rfl rfl rfl rfl rfl (fun z13 σ14 rz13 hσ14 h => ?_)
    exact j_ireturn C d_M_checksGoing_62 rz13 hσ14 h
  · have h := h.2 c
    refine j_iconst C d_M_checksGoing_53 ?_
    refine j_goto (tgt := 62) C d_M_checksGoing_54 rfl ?_
    exact j_ireturn C d_M_checksGoing_62 (zR_of (x := 0) rfl) hσ h
set_option maxRecDepth 100000 in
set_option maxHeartbeats 4000000 in
theorem c_M_checksGoing (l : Launch) (D : va_G) (ad : Nat → Nat) (ca : Nat → ClassId) {σ : zM} {v1 : Int} {v2 : Int} {Q : Int → zM → Prop} (hσ : zRM σ) (r1 : zR v1) (r2 : zR v2) (h : wp_M_checksGoing σ v1 v2 Q) : zCi l D ad ca y_M_checksGoing b_M_checksGoing 4 (some .int) (zrm 3 71) [.ref (ad 79), .int (zI v1), .int (zI v2)] σ Q := by
  refine zCi_of (by decide +kernel) (Nat.le_of_ble_eq_true rfl) ?_
  intro X G C hl hD had hca
  subst hl hD had hca
  have C : zC X G b_M_checksGoing "GateRoadsModel" 4 (some .int) 3 71 := C
  show zJ X G (zQi X G Q) 4 0 [(0, .ref (gad G 79)), (1, .int (zI v1)), (2, .int (zI v2))] [] σ
  unfold wp_M_checksGoing at h
  refine j_aload_n C d_M_checksGoing_0 0 rfl rfl ?_
  refine j_iload_n C d_M_checksGoing_1 1 rfl rfl ?_
  refine j_callV C d_M_checksGoing_2 ml_M_101 mi_M_isTraveller (c_M_isTraveller (xl X) (gD G) (gad G) (gca G) (v1 := v1) hσ r1 h) sh_79 rfl rfl rfl rfl rfl rfl rfl (fun z1 σ2 rz1 hσ2 h => ?_)
  obtain ⟨ez1, h⟩ := h; subst ez1
  refine j_if_eq (tgt := 16) C d_M_checksGoing_5 rfl rz1 (fun c => ?_) (fun c => ?_)
  · have h := h.1 c
    refine j_iconst C d_M_checksGoing_16 ?_
    exact j_ireturn C d_M_checksGoing_17 (zR_of (x := (-1)) rfl) hσ h
  · have h := h.2 c
    refine j_aload_n C d_M_checksGoing_8 0 rfl rfl ?_
    refine j_iload_n C d_M_checksGoing_9 2 rfl rfl ?_
    refine j_callV C d_M_checksGoing_10 ml_M_61 mi_M_isRoad (c_M_isRoad (xl X) (gD G) (gad G) (gca G) (v1 := v2) hσ r2 h) sh_79 rfl rfl rfl rfl rfl rfl rfl (fun z3 σ4 rz3 hσ4 h => ?_)
    obtain ⟨ez3, h⟩ := h; subst ez3
    refine j_if_ne (tgt := 18) C d_M_checksGoing_13 rfl rz3 (fun c => ?_) (fun c => ?_)
    · have h := h.1 c
      refine j_aload_n C d_M_checksGoing_18 0 rfl rfl ?_
      refine j_iload_n C d_M_checksGoing_19 2 rfl rfl ?_
      refine j_iconst C d_M_checksGoing_20 ?_
      refine j_callV C d_M_checksGoing_21 ml_M_67 mi_M_ofR (c_M_ofR (xl X) (gD G) (gad G) (gca G) (v1 := v2) (v2 := 0) hσ r2 (zR_of (x := 0) rfl) h) sh_79 rfl rfl rfl rfl rfl rfl rfl (fun z5 σ6 rz5 hσ6 h => ?_)
      obtain ⟨ez5, h⟩ := h; subst ez5
      refine j_aload_n C d_M_checksGoing_24 0 rfl rfl ?_
      refine j_iload_n C d_M_checksGoing_25 1 rfl rfl ?_
      refine j_iconst C d_M_checksGoing_26 ?_
      refine j_callV C d_M_checksGoing_27 ml_M_104 mi_M_ofT (c_M_ofT (xl X) (gD G) (gad G) (gca G) (v1 := v1) (v2 := 0) hσ r1 (zR_of (x := 0) rfl) h) sh_79 rfl rfl rfl rfl rfl rfl rfl (fun z7 σ8 rz7 hσ8 h => ?_)
      obtain ⟨ez7, h⟩ := h; subst ez7
      refine j_icmp_eq (tgt := 37) C d_M_checksGoing_30 rfl rz5 rz7 (fun c => ?_) (fun c => ?_)
      · have h := h.1 c
        refine j_aload_n C d_M_checksGoing_37 0 rfl rfl ?_
        refine j_iload_n C d_M_checksGoing_38 2 rfl rfl ?_
        refine j_aload_n C d_M_checksGoing_39 0 rfl rfl ?_
        refine j_iload_n C d_M_checksGoing_40 1 rfl rfl ?_
        refine j_iconst C d_M_checksGoing_41 ?_
        refine j_callV C d_M_checksGoing_42 ml_M_104 mi_M_ofT (c_M_ofT (xl X) (gD G) (gad G) (gca G) (v1 := v1) (v2 := 1) hσ r1 (zR_of (x := 1) rfl) h) sh_79 rfl rfl rfl rfl rfl rfl rfl (fun z9 σ10 rz9 hσ10 h => ?_)
        obtain ⟨ez9, h⟩ := h; subst ez9
        refine j_callV C d_M_checksGoing_45 ml_M_95 mi_M_whyNot (c_M_whyNot (xl X) (gD G) (gad G) (gca G) (v1 := v2) (v2 := z9) hσ r2 rz9 h) sh_79 rfl rfl rfl rfl rfl rfl rfl (fun z11 σ12 rz11 hσ12 h => ?_)
        obtain ⟨ez11, h⟩ := h; subst ez11
        refine j_sub (L' := [(0, .ref (gad G 79))]) [0] rfl ?_
        refine w_M_checksGoing_b48 C σ z11 hσ rz11 h
      · have h := h.2 c
        refine j_iconst C d_M_checksGoing_33 ?_
        refine j_goto (tgt := 48) C d_M_checksGoing_34 rfl ?_
        refine j_sub (L' := [(0, .ref (gad G 79))]) [0] rfl ?_
        refine w_M_checksGoing_b48 C σ 1 hσ (zR_of (x := 1) rfl) h
    · have h := h.2 c
      refine j_iconst C d_M_checksGoing_16 ?_
      exact j_ireturn C d_M_checksGoing_17 (zR_of (x := (-1)) rfl) hσ h
set_option maxRecDepth 100000 in
set_option maxHeartbeats 4000000 in
theorem c_M_goes (l : Launch) (D : va_G) (ad : Nat → Nat) (ca : Nat → ClassId) {σ : zM} {v1 : Int} {v2 : Int} {Q : Int → zM → Prop} (hσ : zRM σ) (r1 : zR v1) (r2 : zR v2) (h : wp_M_goes σ v1 v2 Q) : zCi l D ad ca y_M_goes b_M_goes 5 (some .int) (zrm 1 22) [.ref (ad 79), .int (zI v1), .int (zI v2)] σ Q := by
  refine zCi_of (by decide +kernel) (Nat.le_of_ble_eq_true rfl) ?_
  intro X G C hl hD had hca
  subst hl hD had hca
  have C : zC X G b_M_goes "GateRoadsModel" 5 (some .int) 1 22 := C
  show zJ X G (zQi X G Q) 5 0 [(0, .ref (gad G 79)), (1, .int (zI v1)), (2, .int (zI v2))] [] σ
  unfold wp_M_goes at h
  refine j_sipush C d_M_goes_0 rfl ?_
  refine j_bipush C d_M_goes_3 rfl ?_
  refine j_iload_n C d_M_goes_5 1 rfl rfl ?_
  refine j_imul C d_M_goes_6 ?_
  refine j_iadd C d_M_goes_7 ?_
  obtain ⟨g1, h⟩ := h
  refine j_istore_n (L' := [(3, .int (zI (375 + (8 * v1)))), (0, .ref (gad G 79)), (1, .int (zI v1)), (2, .int (zI v2))]) C d_M_goes_8 rfl rfl rfl ?_
  refine j_aload_n C d_M_goes_9 1 rfl rfl ?_
  refine j_iload_n C d_M_goes_10 3 rfl rfl ?_
  refine j_iconst C d_M_goes_11 ?_
  refine j_callV C d_M_goes_12 ml_M_67 mi_M_ofR (c_M_ofR (xl X) (gD G) (gad G) (gca G) (v1 := v2) (v2 := 2) hσ r2 (zR_of (x := 2) rfl) h) sh_79 rfl rfl rfl rfl rfl rfl rfl (fun z2 σ3 rz2 hσ3 h => ?_)
  obtain ⟨ez2, h⟩ := h; subst ez2
  refine j_istore (L' := [(4, .int (zI z2)), (3, .int (zI (375 + (8 * v1)))), (0, .ref (gad G 79)), (1, .int (zI v1)), (2, .int (zI v2))]) C d_M_goes_15 rfl rfl ?_
  refine j_aload_n C d_M_goes_17 2 rfl rfl ?_
  refine j_getr (kf := 0) (m := 80) C d_M_goes_18 sh_79 rfl i_M rfl rfl fl_M_7 ?_
  refine j_iload_n C d_M_goes_21 1 rfl rfl ?_
  refine j_aload_n C d_M_goes_22 2 rfl rfl ?_
  refine j_iload_n C d_M_goes_23 4 rfl rfl ?_
  refine j_iconst C d_M_goes_24 ?_
  refine j_callV C d_M_goes_25 ml_M_67 mi_M_ofR (c_M_ofR (xl X) (gD G) (gad G) (gca G) (v1 := v2) (v2 := 1) hσ r2 (zR_of (x := 1) rfl) h) sh_79 rfl rfl rfl rfl rfl rfl rfl (fun z4 σ5 rz4 hσ5 h => ?_)
  obtain ⟨ez4, h⟩ := h; subst ez4
  obtain ⟨g6, h⟩ := h
  refine j_iastore C d_M_goes_28 sh_80 g6 ?_
  refine j_mem (fun σ7 eσ7 => ?_)
  have h := h σ7 eσ7
  have hσ7 : zRM σ7 := by rw [eσ7]; exact zU_rg hσ _ _ rz4
  refine j_aload_n C d_M_goes_29 2 rfl rfl ?_
  refine j_getr (kf := 0) (m := 80) C d_M_goes_30 sh_79 rfl i_M rfl rfl fl_M_7 ?_
  refine j_iload_n C d_M_goes_33 1 rfl rfl ?_
  refine j_iconst C d_M_goes_34 ?_
  refine j_iadd C d_M_goes_35 ?_
  refine j_dup2 C d_M_goes_36 rfl rfl ?_
  obtain ⟨g8, h⟩ := h
  refine j_iaload C d_M_goes_37 sh_80 g8 ?_
  refine j_iload C d_M_goes_38 0 rfl ?_
  refine j_iadd C d_M_goes_40 ?_
  obtain ⟨g9, h⟩ := h
  obtain ⟨g10, h⟩ := h
  refine j_iastore C d_M_goes_41 sh_80 g9 ?_
  refine j_mem (fun σ11 eσ11 => ?_)
  have h := h σ11 eσ11
  have hσ11 : zRM σ11 := by rw [eσ11]; exact zU_rg hσ7 _ _ g10
  refine j_aload_n C d_M_goes_42 2 rfl rfl ?_
  refine j_getr (kf := 0) (m := 80) C d_M_goes_43 sh_79 rfl i_M rfl rfl fl_M_7 ?_
  refine j_iload_n C d_M_goes_46 1 rfl rfl ?_
  refine j_iconst C d_M_goes_47 ?_
  refine j_iadd C d_M_goes_48 ?_
  refine j_aload_n C d_M_goes_49 2 rfl rfl ?_
  refine j_getr (kf := 0) (m := 80) C d_M_goes_50 sh_79 rfl i_M rfl rfl fl_M_7 ?_
  refine j_iload_n C d_M_goes_53 1 rfl rfl ?_
  refine j_iconst C d_M_goes_54 ?_
  refine j_iadd C d_M_goes_55 ?_
  obtain ⟨g12, h⟩ := h
  refine j_iaload C d_M_goes_56 sh_80 g12 ?_
  obtain ⟨g13, h⟩ := h
  refine j_iastore C d_M_goes_57 sh_80 g13 ?_
  refine j_mem (fun σ14 eσ14 => ?_)
  have h := h σ14 eσ14
  have hσ14 : zRM σ14 := by rw [eσ14]; exact zU_rg hσ11 _ _ (hσ11 _ _)
  refine j_aload_n C d_M_goes_58 2 rfl rfl ?_
  refine j_getr (kf := 0) (m := 80) C d_M_goes_59 sh_79 rfl i_M rfl rfl fl_M_7 ?_
  refine j_iload_n C d_M_goes_62 1 rfl rfl ?_
  refine j_iconst C d_M_goes_63 ?_
  refine j_iadd C d_M_goes_64 ?_
  refine j_dup2 C d_M_goes_65 rfl rfl ?_
  obtain ⟨g15, h⟩ := h
  refine j_iaload C d_M_goes_66 sh_80 g15 ?_
  refine j_iconst C d_M_goes_67 ?_
  refine j_iadd C d_M_goes_68 ?_
  obtain ⟨g16, h⟩ := h
  obtain ⟨g17, h⟩ := h
  refine j_iastore C d_M_goes_69 sh_80 g16 ?_
  refine j_mem (fun σ18 eσ18 => ?_)
  have h := h σ18 eσ18
  have hσ18 : zRM σ18 := by rw [eσ18]; exact zU_rg hσ14 _ _ g17
  refine j_aload_n C d_M_goes_70 2 rfl rfl ?_
  refine j_getr (kf := 0) (m := 80) C d_M_goes_71 sh_79 rfl i_M rfl rfl fl_M_7 ?_
  refine j_iload_n C d_M_goes_74 1 rfl rfl ?_
  refine j_iconst C d_M_goes_75 ?_
  refine j_iadd C d_M_goes_76 ?_
  refine j_dup2 C d_M_goes_77 rfl rfl ?_
  obtain ⟨g19, h⟩ := h
  refine j_iaload C d_M_goes_78 sh_80 g19 ?_
  refine j_iload C d_M_goes_79 0 rfl ?_
  refine j_iadd C d_M_goes_81 ?_
  obtain ⟨g20, h⟩ := h
  obtain ⟨g21, h⟩ := h
  refine j_iastore C d_M_goes_82 sh_80 g20 ?_
  refine j_mem (fun σ22 eσ22 => ?_)
  have h := h σ22 eσ22
  have hσ22 : zRM σ22 := by rw [eσ22]; exact zU_rg hσ18 _ _ g21
  refine j_aload_n C d_M_goes_83 2 rfl rfl ?_
  refine j_getr (kf := 0) (m := 80) C d_M_goes_84 sh_79 rfl i_M rfl rfl fl_M_7 ?_
  refine j_bipush C d_M_goes_87 rfl ?_
  refine j_bipush C d_M_goes_89 rfl ?_
  refine j_iload_n C d_M_goes_91 4 rfl rfl ?_
  refine j_imul C d_M_goes_92 ?_
  refine j_iadd C d_M_goes_93 ?_
  refine j_bipush C d_M_goes_94 rfl ?_
  refine j_iadd C d_M_goes_96 ?_
  refine j_dup2 C d_M_goes_97 rfl rfl ?_
  obtain ⟨g23, h⟩ := h
  refine j_iaload C d_M_goes_98 sh_80 g23 ?_
  refine j_iconst C d_M_goes_99 ?_
  refine j_iadd C d_M_goes_100 ?_
  obtain ⟨g24, h⟩ := h
  obtain ⟨g25, h⟩ := h
  refine j_iastore C d_M_goes_101 sh_80 g24 ?_
  refine j_mem (fun σ26 eσ26 => ?_)
  have h := h σ26 eσ26
  have hσ26 : zRM σ26 := by rw [eσ26]; exact zU_rg hσ22 _ _ g25
  refine j_aload_n C d_M_goes_102 2 rfl rfl ?_
  refine j_getr (kf := 0) (m := 80) C d_M_goes_103 sh_79 rfl i_M rfl rfl fl_M_7 ?_
  refine j_iload_n C d_M_goes_106 1 rfl rfl ?_
  refine j_iconst C d_M_goes_107 ?_
  refine j_iadd C d_M_goes_108 ?_
  obtain ⟨g27, h⟩ := h
  refine j_iaload C d_M_goes_109 sh_80 g27 ?_
  exact j_ireturn C d_M_goes_110 (hσ26 _ _) hσ26 h
set_option maxRecDepth 100000 in
set_option maxHeartbeats 4000000 in
theorem c_M_go (l : Launch) (D : va_G) (ad : Nat → Nat) (ca : Nat → ClassId) {σ : zM} {v1 : Int} {v2 : Int} {Q : Int → zM → Prop} (hσ : zRM σ) (r1 : zR v1) (r2 : zR v2) (h : wp_M_go σ v1 v2 Q) : zCi l D ad ca y_M_go b_M_go 4 (some .int) (zrm 4 94) [.ref (ad 79), .int (zI v1), .int (zI v2)] σ Q := by
  refine zCi_of (by decide +kernel) (Nat.le_of_ble_eq_true rfl) ?_
  intro X G C hl hD had hca
  subst hl hD had hca
  have C : zC X G b_M_go "GateRoadsModel" 4 (some .int) 4 94 := C
  show zJ X G (zQi X G Q) 4 0 [(0, .ref (gad G 79)), (1, .int (zI v1)), (2, .int (zI v2))] [] σ
  unfold wp_M_go at h
  refine j_aload_n C d_M_go_0 0 rfl rfl ?_
  refine j_iload_n C d_M_go_1 1 rfl rfl ?_
  refine j_iload_n C d_M_go_2 2 rfl rfl ?_
  refine j_callV C d_M_go_3 ml_M_111 mi_M_checksGoing (c_M_checksGoing (xl X) (gD G) (gad G) (gca G) (v1 := v1) (v2 := v2) hσ r1 r2 h) sh_79 rfl rfl rfl rfl rfl rfl rfl (fun z1 σ2 rz1 hσ2 h => ?_)
  refine j_istore_n (L' := [(3, .int (zI z1)), (0, .ref (gad G 79)), (1, .int (zI v1)), (2, .int (zI v2))]) C d_M_go_6 rfl rfl rfl ?_
  refine j_iload_n C d_M_go_7 0 rfl rfl ?_
  refine j_if_eq (tgt := 13) C d_M_go_8 rfl rz1 (fun c => ?_) (fun c => ?_)
  · have h := h.1 c
    refine j_aload_n C d_M_go_13 1 rfl rfl ?_
    refine j_callVv C d_M_go_14 ml_M_54 mi_M_records (c_M_records (xl X) (gD G) (gad G) (gca G)  hσ2 h) sh_79 rfl rfl rfl rfl rfl rfl rfl (fun σ4 hσ4 h => ?_)
    refine j_aload_n C d_M_go_17 1 rfl rfl ?_
    refine j_iload_n C d_M_go_18 2 rfl rfl ?_
    refine j_iload_n C d_M_go_19 3 rfl rfl ?_
    refine j_callV C d_M_go_20 ml_M_114 mi_M_goes (c_M_goes (xl X) (gD G) (gad G) (gca G) (v1 := v1) (v2 := v2) hσ4 r1 r2 h) sh_79 rfl rfl rfl rfl rfl rfl rfl (fun z5 σ6 rz5 hσ6 h => ?_)
    exact j_ireturn C d_M_go_23 rz5 hσ6 h
  · have h := h.2 c
    refine j_iload_n C d_M_go_11 0 rfl rfl ?_
    exact j_ireturn C d_M_go_12 rz1 hσ2 h
set_option maxRecDepth 100000 in
set_option maxHeartbeats 4000000 in
theorem c_M_isRoomOpen (l : Launch) (D : va_G) (ad : Nat → Nat) (ca : Nat → ClassId) {σ : zM} {v1 : Int} {v2 : Int} {Q : Int → Prop} (hσ : zRM σ) (r1 : zR v1) (r2 : zR v2) (h : wp_M_isRoomOpen σ v1 v2 Q) : zCi l D ad ca y_M_isRoomOpen b_M_isRoomOpen 4 (some .boolean) (zrm 0 0) [.ref (ad 79), .int (zI v1), .int (zI v2)] σ (fun z u => σ = u ∧ Q z) := by
  refine zCi_of (by decide +kernel) (Nat.le_of_ble_eq_true rfl) ?_
  intro X G C hl hD had hca
  subst hl hD had hca
  have C : zC X G b_M_isRoomOpen "GateRoadsModel" 4 (some .boolean) 0 0 := C
  show zJ X G (zQi X G (fun z u => σ = u ∧ Q z)) 4 0 [(0, .ref (gad G 79)), (1, .int (zI v1)), (2, .int (zI v2))] [] σ
  unfold wp_M_isRoomOpen at h
  refine j_iload_n C d_M_isRoomOpen_0 2 rfl rfl ?_
  refine j_sipush C d_M_isRoomOpen_1 rfl ?_
  obtain ⟨g1, h⟩ := h
  refine j_irem C d_M_isRoomOpen_4 r2 g1 (zR_of (x := 1440) rfl) (by decide) ?_
  refine j_istore_n (L' := [(3, .int (zI (v2 % 1440))), (0, .ref (gad G 79)), (1, .int (zI v1)), (2, .int (zI v2))]) C d_M_isRoomOpen_5 rfl rfl rfl ?_
  refine j_iload_n C d_M_isRoomOpen_6 0 rfl rfl ?_
  refine j_aload_n C d_M_isRoomOpen_7 1 rfl rfl ?_
  refine j_getr (kf := 0) (m := 80) C d_M_isRoomOpen_8 sh_79 rfl i_M rfl rfl fl_M_7 ?_
  refine j_iconst C d_M_isRoomOpen_11 ?_
  refine j_iconst C d_M_isRoomOpen_12 ?_
  refine j_iload_n C d_M_isRoomOpen_13 2 rfl rfl ?_
  refine j_imul C d_M_isRoomOpen_14 ?_
  refine j_iadd C d_M_isRoomOpen_15 ?_
  obtain ⟨g2, h⟩ := h
  refine j_iaload C d_M_isRoomOpen_16 sh_80 g2 ?_
  refine j_icmp_lt (tgt := 40) C d_M_isRoomOpen_17 rfl (zMod_rg r2 g1 (zR_of (x := 1440) rfl) (by decide)) (hσ _ _) (fun c => ?_) (fun c => ?_)
  · have h := h.1 c
    refine j_iconst C d_M_isRoomOpen_40 ?_
    exact j_zreturn C d_M_isRoomOpen_41 (by decide) hσ ⟨rfl, h⟩
  · have h := h.2 c
    refine j_iload_n C d_M_isRoomOpen_20 0 rfl rfl ?_
    refine j_aload_n C d_M_isRoomOpen_21 1 rfl rfl ?_
    refine j_getr (kf := 0) (m := 80) C d_M_isRoomOpen_22 sh_79 rfl i_M rfl rfl fl_M_7 ?_
    refine j_iconst C d_M_isRoomOpen_25 ?_
    refine j_iconst C d_M_isRoomOpen_26 ?_
    refine j_iload_n C d_M_isRoomOpen_27 2 rfl rfl ?_
    refine j_imul C d_M_isRoomOpen_28 ?_
    refine j_iadd C d_M_isRoomOpen_29 ?_
    refine j_iconst C d_M_isRoomOpen_30 ?_
    refine j_iadd C d_M_isRoomOpen_31 ?_
    obtain ⟨g3, h⟩ := h
    refine j_iaload C d_M_isRoomOpen_32 sh_80 g3 ?_
    refine j_icmp_ge (tgt := 40) C d_M_isRoomOpen_33 rfl (zMod_rg r2 g1 (zR_of (x := 1440) rfl) (by decide)) (hσ _ _) (fun c => ?_) (fun c => ?_)
    · have h := h.1 c
      refine j_iconst C d_M_isRoomOpen_40 ?_
      exact j_zreturn C d_M_isRoomOpen_41 (by decide) hσ ⟨rfl, h⟩
    · have h := h.2 c
      refine j_iconst C d_M_isRoomOpen_36 ?_
      refine j_goto (tgt := 41) C d_M_isRoomOpen_37 rfl ?_
      exact j_zreturn C d_M_isRoomOpen_41 (by decide) hσ ⟨rfl, h⟩
set_option maxRecDepth 100000 in
set_option maxHeartbeats 4000000 in
theorem c_M_limitOf (l : Launch) (D : va_G) (ad : Nat → Nat) (ca : Nat → ClassId) {σ : zM} {v1 : Int} {Q : Int → Prop} (hσ : zRM σ) (r1 : zR v1) (h : wp_M_limitOf σ v1 Q) : zCi l D ad ca y_M_limitOf b_M_limitOf 2 (some .int) (zrm 0 0) [.ref (ad 79), .int (zI v1)] σ (fun z u => σ = u ∧ Q z) := by
  refine zCi_of (by decide +kernel) (Nat.le_of_ble_eq_true rfl) ?_
  intro X G C hl hD had hca
  subst hl hD had hca
  have C : zC X G b_M_limitOf "GateRoadsModel" 2 (some .int) 0 0 := C
  show zJ X G (zQi X G (fun z u => σ = u ∧ Q z)) 2 0 [(0, .ref (gad G 79)), (1, .int (zI v1))] [] σ
  unfold wp_M_limitOf at h
  refine j_aload_n C d_M_limitOf_0 0 rfl rfl ?_
  refine j_getr (kf := 0) (m := 80) C d_M_limitOf_1 sh_79 rfl i_M rfl rfl fl_M_7 ?_
  refine j_iconst C d_M_limitOf_4 ?_
  refine j_iconst C d_M_limitOf_5 ?_
  refine j_iload_n C d_M_limitOf_6 1 rfl rfl ?_
  refine j_imul C d_M_limitOf_7 ?_
  refine j_iadd C d_M_limitOf_8 ?_
  refine j_iconst C d_M_limitOf_9 ?_
  refine j_iadd C d_M_limitOf_10 ?_
  obtain ⟨g1, h⟩ := h
  refine j_iaload C d_M_limitOf_11 sh_80 g1 ?_
  exact j_ireturn C d_M_limitOf_12 (hσ _ _) hσ ⟨rfl, h⟩
set_option maxRecDepth 100000 in
set_option maxHeartbeats 4000000 in
theorem w_M_checksStaying_L59 {X : zX} {G : zG} (C : zC X G b_M_checksStaying "GateRoadsModel" 6 (some .int) 2 43) {σ : zM} {v1 : Int} {v2 : Int} {v3 : Int} {v4 : Int} (hσ : zRM σ) (r1 : zR v1) (r2 : zR v2) (r3 : zR v3) (r4 : zR v4) {Q : Int → zM → Prop} : ∀ (n : Nat) (v5 : Int) (r5 : zR v5), wp_M_checksStaying_L59 σ v1 v2 v3 v4 Q n v5 → zJ X G (zQi X G Q) 6 59 [(0, .ref (gad G 79)), (1, .int (zI v1)), (2, .int (zI v2)), (3, .int (zI v3)), (4, .int (zI v4)), (5, .int (zI v5))] [] σ := by
  intro n
  induction n with
  | zero => intro v5 r5 h; exact False.elim h
  | succ n ih =>
    intro v5 r5 h
    rw [wp_M_checksStaying_L59] at h
    refine j_iload C d_M_checksStaying_59 5 rfl ?_
    refine j_iload C d_M_checksStaying_61 4 rfl ?_
    refine j_iload_n C d_M_checksStaying_63 2 rfl rfl ?_
    refine j_iadd C d_M_checksStaying_64 ?_
    obtain ⟨g10, h⟩ := h
    refine j_icmp_ge (tgt := 91) C d_M_checksStaying_65 rfl r5 g10 (fun c => ?_) (fun c => ?_)
    · have h := h.1 c
      refine j_iload C d_M_checksStaying_91 4 rfl ?_
      refine j_iload_n C d_M_checksStaying_93 2 rfl rfl ?_
      refine j_iadd C d_M_checksStaying_94 ?_
      refine j_aload_n C d_M_checksStaying_95 0 rfl rfl ?_
      refine j_iload_n C d_M_checksStaying_96 1 rfl rfl ?_
      refine j_iconst C d_M_checksStaying_97 ?_
      refine j_callV C d_M_checksStaying_98 ml_M_104 mi_M_ofT (c_M_ofT (xl X) (gD G) (gad G) (gca G) (v1 := v1) (v2 := 2) hσ r1 (zR_of (x := 2) rfl) h) sh_79 rfl rfl rfl rfl rfl rfl rfl (fun z11 σ12 rz11 hσ12 h => ?_)
      obtain ⟨ez11, h⟩ := h; subst ez11
      refine j_isub C d_M_checksStaying_101 ?_
      refine j_aload_n C d_M_checksStaying_102 0 rfl rfl ?_
      refine j_iload_n C d_M_checksStaying_103 3 rfl rfl ?_
      refine j_callV C d_M_checksStaying_104 ml_M_120 mi_M_limitOf (c_M_limitOf (xl X) (gD G) (gad G) (gca G) (v1 := v3) hσ r3 h) sh_79 rfl rfl rfl rfl rfl rfl rfl (fun z13 σ14 rz13 hσ14 h => ?_)
      obtain ⟨ez13, h⟩ := h; subst ez13
      obtain ⟨g15, h⟩ := h
      refine j_icmp_le (tgt := 119) C d_M_checksStaying_107 rfl g15 rz13 (fun c => ?_) (fun c => ?_)
      · have h := h.1 c
        refine j_iconst C d_M_checksStaying_119 ?_
        exact j_ireturn C d_M_checksStaying_120 (zR_of (x := 0) rfl) hσ h
      · have h := h.2 c
        refine j_aload_n C d_M_checksStaying_110 0 rfl rfl ?_
        refine j_bipush C d_M_checksStaying_111 rfl ?_
        refine j_callV C d_M_checksStaying_113 ml_M_107 mi_M_refuses (c_M_refuses (xl X) (gD G) (gad G) (gca G) (v1 := 7) hσ (zR_of (x := 7) rfl) h) sh_79 rfl rfl rfl rfl rfl rfl rfl (fun z16 σ17 rz16 hσ17 h => ?_)
        refine j_goto (tgt := 120) C d_M_checksStaying_116 rfl ?_
        exact j_ireturn C d_M_checksStaying_120 rz16 hσ17 h
    · have h := h.2 c
      refine j_aload_n C d_M_checksStaying_68 0 rfl rfl ?_
      refine j_iload_n C d_M_checksStaying_69 3 rfl rfl ?_
      refine j_iload C d_M_checksStaying_70 5 rfl ?_
      refine j_callV C d_M_checksStaying_72 ml_M_117 mi_M_isRoomOpen (c_M_isRoomOpen (xl X) (gD G) (gad G) (gca G) (v1 := v3) (v2 := v5) hσ r3 r5 h) sh_79 rfl rfl rfl rfl rfl rfl rfl (fun z18 σ19 rz18 hσ19 h => ?_)
      obtain ⟨ez18, h⟩ := h; subst ez18
      refine j_if_ne (tgt := 85) C d_M_checksStaying_75 rfl rz18 (fun c => ?_) (fun c => ?_)
      · have h := h.1 c
        obtain ⟨g20, h⟩ := h
        refine j_iinc (L' := [(5, .int (zI (v5 + 1))), (0, .ref (gad G 79)), (1, .int (zI v1)), (2, .int (zI v2)), (3, .int (zI v3)), (4, .int (zI v4))]) C d_M_checksStaying_85 5 rfl rfl rfl ?_
        refine j_goto (tgt := 59) C d_M_checksStaying_88 rfl ?_
        refine j_sub (L' := [(0, .ref (gad G 79)), (1, .int (zI v1)), (2, .int (zI v2)), (3, .int (zI v3)), (4, .int (zI v4)), (5, .int (zI (v5 + 1)))]) [1, 2, 3, 4, 5, 0] rfl ?_
        exact ih (v5 + 1) g20 h
      · have h := h.2 c
        refine j_aload_n C d_M_checksStaying_78 0 rfl rfl ?_
        refine j_bipush C d_M_checksStaying_79 rfl ?_
        refine j_callV C d_M_checksStaying_81 ml_M_107 mi_M_refuses (c_M_refuses (xl X) (gD G) (gad G) (gca G) (v1 := 6) hσ (zR_of (x := 6) rfl) h) sh_79 rfl rfl rfl rfl rfl rfl rfl (fun z21 σ22 rz21 hσ22 h => ?_)
        exact j_ireturn C d_M_checksStaying_84 rz21 hσ22 h
set_option maxRecDepth 100000 in
set_option maxHeartbeats 4000000 in
theorem c_M_checksStaying (l : Launch) (D : va_G) (ad : Nat → Nat) (ca : Nat → ClassId) {σ : zM} {v1 : Int} {v2 : Int} {Q : Int → zM → Prop} (hσ : zRM σ) (r1 : zR v1) (r2 : zR v2) (h : wp_M_checksStaying σ v1 v2 Q) : zCi l D ad ca y_M_checksStaying b_M_checksStaying 6 (some .int) (zrm 2 43) [.ref (ad 79), .int (zI v1), .int (zI v2)] σ Q := by
  refine zCi_of (by decide +kernel) (Nat.le_of_ble_eq_true rfl) ?_
  intro X G C hl hD had hca
  subst hl hD had hca
  have C : zC X G b_M_checksStaying "GateRoadsModel" 6 (some .int) 2 43 := C
  show zJ X G (zQi X G Q) 6 0 [(0, .ref (gad G 79)), (1, .int (zI v1)), (2, .int (zI v2))] [] σ
  unfold wp_M_checksStaying at h
  refine j_aload_n C d_M_checksStaying_0 0 rfl rfl ?_
  refine j_iload_n C d_M_checksStaying_1 1 rfl rfl ?_
  refine j_callV C d_M_checksStaying_2 ml_M_101 mi_M_isTraveller (c_M_isTraveller (xl X) (gD G) (gad G) (gca G) (v1 := v1) hσ r1 h) sh_79 rfl rfl rfl rfl rfl rfl rfl (fun z1 σ2 rz1 hσ2 h => ?_)
  obtain ⟨ez1, h⟩ := h; subst ez1
  refine j_if_ne (tgt := 10) C d_M_checksStaying_5 rfl rz1 (fun c => ?_) (fun c => ?_)
  · have h := h.1 c
    refine j_iload_n C d_M_checksStaying_10 2 rfl rfl ?_
    refine j_iconst C d_M_checksStaying_11 ?_
    refine j_sipush C d_M_checksStaying_12 rfl ?_
    refine j_callS C d_M_checksStaying_15 ml_M_46 ms_M_isIn (c_M_isIn (xl X) (gD G) (gad G) (gca G) (v0 := v2) (v1 := 1) (v2 := 1000) hσ r2 (zR_of (x := 1) rfl) (zR_of (x := 1000) rfl) h) rfl rfl rfl rfl rfl (fun z3 σ4 rz3 hσ4 h => ?_)
    obtain ⟨ez3, h⟩ := h; subst ez3
    refine j_if_ne (tgt := 24) C d_M_checksStaying_18 rfl rz3 (fun c => ?_) (fun c => ?_)
    · have h := h.1 c
      refine j_aload_n C d_M_checksStaying_24 0 rfl rfl ?_
      refine j_iload_n C d_M_checksStaying_25 1 rfl rfl ?_
      refine j_iconst C d_M_checksStaying_26 ?_
      refine j_callV C d_M_checksStaying_27 ml_M_104 mi_M_ofT (c_M_ofT (xl X) (gD G) (gad G) (gca G) (v1 := v1) (v2 := 0) hσ r1 (zR_of (x := 0) rfl) h) sh_79 rfl rfl rfl rfl rfl rfl rfl (fun z5 σ6 rz5 hσ6 h => ?_)
      obtain ⟨ez5, h⟩ := h; subst ez5
      refine j_istore_n (L' := [(3, .int (zI z5)), (0, .ref (gad G 79)), (1, .int (zI v1)), (2, .int (zI v2))]) C d_M_checksStaying_30 rfl rfl rfl ?_
      refine j_aload_n C d_M_checksStaying_31 1 rfl rfl ?_
      refine j_iload_n C d_M_checksStaying_32 2 rfl rfl ?_
      refine j_iconst C d_M_checksStaying_33 ?_
      refine j_callV C d_M_checksStaying_34 ml_M_104 mi_M_ofT (c_M_ofT (xl X) (gD G) (gad G) (gca G) (v1 := v1) (v2 := 1) hσ r1 (zR_of (x := 1) rfl) h) sh_79 rfl rfl rfl rfl rfl rfl rfl (fun z7 σ8 rz7 hσ8 h => ?_)
      obtain ⟨ez7, h⟩ := h; subst ez7
      refine j_istore (L' := [(4, .int (zI z7)), (3, .int (zI z5)), (0, .ref (gad G 79)), (1, .int (zI v1)), (2, .int (zI v2))]) C d_M_checksStaying_37 rfl rfl ?_
      refine j_iload C d_M_checksStaying_39 0 rfl ?_
      refine j_iload_n C d_M_checksStaying_41 4 rfl rfl ?_
      refine j_iadd C d_M_checksStaying_42 ?_
      refine j_sipush C d_M_checksStaying_43 rfl ?_
      obtain ⟨g9, h⟩ := h
      refine j_icmp_le (tgt := 55) C d_M_checksStaying_46 rfl g9 (zR_of (x := 2880) rfl) (fun c => ?_) (fun c => ?_)
      · have h := h.1 c
        refine j_iload C d_M_checksStaying_55 0 rfl ?_
        refine j_istore (L' := [(5, .int (zI z7)), (4, .int (zI z7)), (3, .int (zI z5)), (0, .ref (gad G 79)), (1, .int (zI v1)), (2, .int (zI v2))]) C d_M_checksStaying_57 rfl rfl ?_
        obtain ⟨n23, h⟩ := h
        refine j_sub (L' := [(0, .ref (gad G 79)), (1, .int (zI v1)), (2, .int (zI v2)), (3, .int (zI z5)), (4, .int (zI z7)), (5, .int (zI z7))]) [3, 4, 5, 2, 1, 0] rfl ?_
        refine w_M_checksStaying_L59 C hσ r1 r2 rz5 rz7 n23 z7 rz7 h
      · have h := h.2 c
        refine j_aload_n C d_M_checksStaying_49 2 rfl rfl ?_
        refine j_iconst C d_M_checksStaying_50 ?_
        refine j_callV C d_M_checksStaying_51 ml_M_107 mi_M_refuses (c_M_refuses (xl X) (gD G) (gad G) (gca G) (v1 := 5) hσ (zR_of (x := 5) rfl) h) sh_79 rfl rfl rfl rfl rfl rfl rfl (fun z24 σ25 rz24 hσ25 h => ?_)
        exact j_ireturn C d_M_checksStaying_54 rz24 hσ25 h
    · have h := h.2 c
      refine j_bipush C d_M_checksStaying_21 rfl ?_
      exact j_ireturn C d_M_checksStaying_23 (zR_of (x := (-2)) rfl) hσ h
  · have h := h.2 c
    refine j_iconst C d_M_checksStaying_8 ?_
    exact j_ireturn C d_M_checksStaying_9 (zR_of (x := (-1)) rfl) hσ h
set_option maxRecDepth 100000 in
set_option maxHeartbeats 4000000 in
theorem c_M_stays (l : Launch) (D : va_G) (ad : Nat → Nat) (ca : Nat → ClassId) {σ : zM} {v1 : Int} {v2 : Int} {Q : Int → zM → Prop} (hσ : zRM σ) (r1 : zR v1) (r2 : zR v2) (h : wp_M_stays σ v1 v2 Q) : zCi l D ad ca y_M_stays b_M_stays 4 (some .int) (zrm 0 0) [.ref (ad 79), .int (zI v1), .int (zI v2)] σ Q := by
  refine zCi_of (by decide +kernel) (Nat.le_of_ble_eq_true rfl) ?_
  intro X G C hl hD had hca
  subst hl hD had hca
  have C : zC X G b_M_stays "GateRoadsModel" 4 (some .int) 0 0 := C
  show zJ X G (zQi X G Q) 4 0 [(0, .ref (gad G 79)), (1, .int (zI v1)), (2, .int (zI v2))] [] σ
  unfold wp_M_stays at h
  refine j_sipush C d_M_stays_0 rfl ?_
  refine j_bipush C d_M_stays_3 rfl ?_
  refine j_iload_n C d_M_stays_5 1 rfl rfl ?_
  refine j_imul C d_M_stays_6 ?_
  refine j_iadd C d_M_stays_7 ?_
  obtain ⟨g1, h⟩ := h
  refine j_istore_n (L' := [(3, .int (zI (375 + (8 * v1)))), (0, .ref (gad G 79)), (1, .int (zI v1)), (2, .int (zI v2))]) C d_M_stays_8 rfl rfl rfl ?_
  refine j_aload_n C d_M_stays_9 1 rfl rfl ?_
  refine j_getr (kf := 0) (m := 80) C d_M_stays_10 sh_79 rfl i_M rfl rfl fl_M_7 ?_
  refine j_iload_n C d_M_stays_13 0 rfl rfl ?_
  refine j_iconst C d_M_stays_14 ?_
  refine j_iadd C d_M_stays_15 ?_
  refine j_dup2 C d_M_stays_16 rfl rfl ?_
  obtain ⟨g2, h⟩ := h
  refine j_iaload C d_M_stays_17 sh_80 g2 ?_
  refine j_iload_n C d_M_stays_18 3 rfl rfl ?_
  refine j_iadd C d_M_stays_19 ?_
  obtain ⟨g3, h⟩ := h
  obtain ⟨g4, h⟩ := h
  refine j_iastore C d_M_stays_20 sh_80 g3 ?_
  refine j_mem (fun σ5 eσ5 => ?_)
  have h := h σ5 eσ5
  have hσ5 : zRM σ5 := by rw [eσ5]; exact zU_rg hσ _ _ g4
  refine j_aload_n C d_M_stays_21 1 rfl rfl ?_
  refine j_getr (kf := 0) (m := 80) C d_M_stays_22 sh_79 rfl i_M rfl rfl fl_M_7 ?_
  refine j_iload_n C d_M_stays_25 0 rfl rfl ?_
  refine j_iconst C d_M_stays_26 ?_
  refine j_iadd C d_M_stays_27 ?_
  refine j_dup2 C d_M_stays_28 rfl rfl ?_
  obtain ⟨g6, h⟩ := h
  refine j_iaload C d_M_stays_29 sh_80 g6 ?_
  refine j_iload_n C d_M_stays_30 3 rfl rfl ?_
  refine j_iadd C d_M_stays_31 ?_
  obtain ⟨g7, h⟩ := h
  obtain ⟨g8, h⟩ := h
  refine j_iastore C d_M_stays_32 sh_80 g7 ?_
  refine j_mem (fun σ9 eσ9 => ?_)
  have h := h σ9 eσ9
  have hσ9 : zRM σ9 := by rw [eσ9]; exact zU_rg hσ5 _ _ g8
  refine j_aload_n C d_M_stays_33 1 rfl rfl ?_
  refine j_getr (kf := 0) (m := 80) C d_M_stays_34 sh_79 rfl i_M rfl rfl fl_M_7 ?_
  refine j_iload_n C d_M_stays_37 0 rfl rfl ?_
  refine j_iconst C d_M_stays_38 ?_
  refine j_iadd C d_M_stays_39 ?_
  obtain ⟨g10, h⟩ := h
  refine j_iaload C d_M_stays_40 sh_80 g10 ?_
  exact j_ireturn C d_M_stays_41 (hσ9 _ _) hσ9 h
set_option maxRecDepth 100000 in
set_option maxHeartbeats 4000000 in
theorem c_M_stay (l : Launch) (D : va_G) (ad : Nat → Nat) (ca : Nat → ClassId) {σ : zM} {v1 : Int} {v2 : Int} {Q : Int → zM → Prop} (hσ : zRM σ) (r1 : zR v1) (r2 : zR v2) (h : wp_M_stay σ v1 v2 Q) : zCi l D ad ca y_M_stay b_M_stay 4 (some .int) (zrm 3 68) [.ref (ad 79), .int (zI v1), .int (zI v2)] σ Q := by
  refine zCi_of (by decide +kernel) (Nat.le_of_ble_eq_true rfl) ?_
  intro X G C hl hD had hca
  subst hl hD had hca
  have C : zC X G b_M_stay "GateRoadsModel" 4 (some .int) 3 68 := C
  show zJ X G (zQi X G Q) 4 0 [(0, .ref (gad G 79)), (1, .int (zI v1)), (2, .int (zI v2))] [] σ
  unfold wp_M_stay at h
  refine j_aload_n C d_M_stay_0 0 rfl rfl ?_
  refine j_iload_n C d_M_stay_1 1 rfl rfl ?_
  refine j_iload_n C d_M_stay_2 2 rfl rfl ?_
  refine j_callV C d_M_stay_3 ml_M_123 mi_M_checksStaying (c_M_checksStaying (xl X) (gD G) (gad G) (gca G) (v1 := v1) (v2 := v2) hσ r1 r2 h) sh_79 rfl rfl rfl rfl rfl rfl rfl (fun z1 σ2 rz1 hσ2 h => ?_)
  refine j_istore_n (L' := [(3, .int (zI z1)), (0, .ref (gad G 79)), (1, .int (zI v1)), (2, .int (zI v2))]) C d_M_stay_6 rfl rfl rfl ?_
  refine j_iload_n C d_M_stay_7 0 rfl rfl ?_
  refine j_if_eq (tgt := 13) C d_M_stay_8 rfl rz1 (fun c => ?_) (fun c => ?_)
  · have h := h.1 c
    refine j_aload_n C d_M_stay_13 1 rfl rfl ?_
    refine j_callVv C d_M_stay_14 ml_M_54 mi_M_records (c_M_records (xl X) (gD G) (gad G) (gca G)  hσ2 h) sh_79 rfl rfl rfl rfl rfl rfl rfl (fun σ4 hσ4 h => ?_)
    refine j_aload_n C d_M_stay_17 1 rfl rfl ?_
    refine j_iload_n C d_M_stay_18 2 rfl rfl ?_
    refine j_iload_n C d_M_stay_19 3 rfl rfl ?_
    refine j_callV C d_M_stay_20 ml_M_126 mi_M_stays (c_M_stays (xl X) (gD G) (gad G) (gca G) (v1 := v1) (v2 := v2) hσ4 r1 r2 h) sh_79 rfl rfl rfl rfl rfl rfl rfl (fun z5 σ6 rz5 hσ6 h => ?_)
    exact j_ireturn C d_M_stay_23 rz5 hσ6 h
  · have h := h.2 c
    refine j_iload_n C d_M_stay_11 0 rfl rfl ?_
    exact j_ireturn C d_M_stay_12 rz1 hσ2 h
set_option maxRecDepth 100000 in
set_option maxHeartbeats 4000000 in
theorem w_M_roadsBy_b36 {X : zX} {G : zG} (C : zC X G b_M_roadsBy "GateRoadsModel" 5 (some .int) 1 22) {σ : zM} {v1 : Int} {v2 : Int} (hσ : zRM σ) (r1 : zR v1) (r2 : zR v2) {Q : Int → Prop} {k5 : Int → Int → Prop} (hk5 : ∀ (v3 : Int) (v4 : Int), zR v3 → zR v4 → k5 v3 v4 → zJ X G (zQi X G (fun z u => σ = u ∧ Q z)) 5 5 [(0, .ref (gad G 79)), (1, .int (zI v1)), (2, .int (zI v2)), (3, .int (zI v3)), (4, .int (zI v4))] [] σ) (v4 : Int) (s0 : Int) (s1 : Int) (r4 : zR v4) (rs0 : zR s0) (rs1 : zR s1) (h : wp_M_roadsBy_b36 σ v1 v2 k5 Q v4 s0 s1) : zJ X G (zQi X G (fun z u => σ = u ∧ Q z)) 5 36 [(0, .ref (gad G 79)), (1, .int (zI v1)), (2, .int (zI v2)), (4, .int (zI v4))] [.int (zI s1), .int (zI s0)] σ := by
  unfold wp_M_roadsBy_b36 at h
  refine j_ior C d_M_roadsBy_36 ?_
  refine j_istore_n (L' := [(3, .int (zI (zOr s0 s1))), (0, .ref (gad G 79)), (1, .int (zI v1)), (2, .int (zI v2)), (4, .int (zI v4))]) C d_M_roadsBy_37 rfl rfl rfl ?_
  obtain ⟨g3, h⟩ := h
  refine j_iinc (L' := [(4, .int (zI (v4 + 1))), (3, .int (zI (zOr s0 s1))), (0, .ref (gad G 79)), (1, .int (zI v1)), (2, .int (zI v2))]) C d_M_roadsBy_38 4 rfl rfl rfl ?_
  refine j_goto (tgt := 5) C d_M_roadsBy_41 rfl ?_
  refine j_sub (L' := [(0, .ref (gad G 79)), (1, .int (zI v1)), (2, .int (zI v2)), (3, .int (zI (zOr s0 s1))), (4, .int (zI (v4 + 1)))]) [2, 3, 4, 1, 0] rfl ?_
  exact hk5 (zOr s0 s1) (v4 + 1) (zOr_rg _ _) g3 h
set_option maxRecDepth 100000 in
set_option maxHeartbeats 4000000 in
theorem w_M_roadsBy_L5 {X : zX} {G : zG} (C : zC X G b_M_roadsBy "GateRoadsModel" 5 (some .int) 1 22) {σ : zM} {v1 : Int} {v2 : Int} (hσ : zRM σ) (r1 : zR v1) (r2 : zR v2) {Q : Int → Prop} : ∀ (n : Nat) (v3 : Int) (v4 : Int) (r3 : zR v3) (r4 : zR v4), wp_M_roadsBy_L5 σ v1 v2 Q n v3 v4 → zJ X G (zQi X G (fun z u => σ = u ∧ Q z)) 5 5 [(0, .ref (gad G 79)), (1, .int (zI v1)), (2, .int (zI v2)), (3, .int (zI v3)), (4, .int (zI v4))] [] σ := by
  intro n
  induction n with
  | zero => intro v3 v4 r3 r4 h; exact False.elim h
  | succ n ih =>
    intro v3 v4 r3 r4 h
    rw [wp_M_roadsBy_L5] at h
    refine j_iload C d_M_roadsBy_5 4 rfl ?_
    refine j_aload_n C d_M_roadsBy_7 0 rfl rfl ?_
    refine j_getr (kf := 0) (m := 80) C d_M_roadsBy_8 sh_79 rfl i_M rfl rfl fl_M_7 ?_
    refine j_iconst C d_M_roadsBy_11 ?_
    refine j_iaload C d_M_roadsBy_12 sh_80 (zIx (i := 0) (n := 455) rfl) ?_
    refine j_icmp_ge (tgt := 44) C d_M_roadsBy_13 rfl r4 (hσ _ _) (fun c => ?_) (fun c => ?_)
    · have h := h.1 c
      refine j_iload_n C d_M_roadsBy_44 3 rfl rfl ?_
      exact j_ireturn C d_M_roadsBy_45 r3 hσ ⟨rfl, h⟩
    · have h := h.2 c
      refine j_iload_n C d_M_roadsBy_16 3 rfl rfl ?_
      refine j_aload_n C d_M_roadsBy_17 0 rfl rfl ?_
      refine j_iload C d_M_roadsBy_18 4 rfl ?_
      refine j_iload_n C d_M_roadsBy_20 2 rfl rfl ?_
      refine j_callV C d_M_roadsBy_21 ml_M_67 mi_M_ofR (c_M_ofR (xl X) (gD G) (gad G) (gca G) (v1 := v4) (v2 := v2) hσ r4 r2 h) sh_79 rfl rfl rfl rfl rfl rfl rfl (fun z1 σ2 rz1 hσ2 h => ?_)
      obtain ⟨ez1, h⟩ := h; subst ez1
      refine j_iload_n C d_M_roadsBy_24 1 rfl rfl ?_
      refine j_icmp_ne (tgt := 35) C d_M_roadsBy_25 rfl rz1 r1 (fun c => ?_) (fun c => ?_)
      · have h := h.1 c
        refine j_iconst C d_M_roadsBy_35 ?_
        refine j_sub (L' := [(0, .ref (gad G 79)), (1, .int (zI v1)), (2, .int (zI v2)), (4, .int (zI v4))]) [0, 1, 2, 4] rfl ?_
        refine w_M_roadsBy_b36 C hσ r1 r2 ih v4 v3 0 r4 r3 (zR_of (x := 0) rfl) h
      · have h := h.2 c
        refine j_iconst C d_M_roadsBy_28 ?_
        refine j_iload C d_M_roadsBy_29 4 rfl ?_
        refine j_ishl C d_M_roadsBy_31 ?_
        refine j_goto (tgt := 36) C d_M_roadsBy_32 rfl ?_
        refine j_sub (L' := [(0, .ref (gad G 79)), (1, .int (zI v1)), (2, .int (zI v2)), (4, .int (zI v4))]) [0, 1, 2, 4] rfl ?_
        refine w_M_roadsBy_b36 C hσ r1 r2 ih v4 v3 (zShl 1 v4) r4 r3 (zShl_rg _ _) h
set_option maxRecDepth 100000 in
set_option maxHeartbeats 4000000 in
theorem c_M_roadsBy (l : Launch) (D : va_G) (ad : Nat → Nat) (ca : Nat → ClassId) {σ : zM} {v1 : Int} {v2 : Int} {Q : Int → Prop} (hσ : zRM σ) (r1 : zR v1) (r2 : zR v2) (h : wp_M_roadsBy σ v1 v2 Q) : zCi l D ad ca y_M_roadsBy b_M_roadsBy 5 (some .int) (zrm 1 22) [.ref (ad 79), .int (zI v1), .int (zI v2)] σ (fun z u => σ = u ∧ Q z) := by
  refine zCi_of (by decide +kernel) (Nat.le_of_ble_eq_true rfl) ?_
  intro X G C hl hD had hca
  subst hl hD had hca
  have C : zC X G b_M_roadsBy "GateRoadsModel" 5 (some .int) 1 22 := C
  show zJ X G (zQi X G (fun z u => σ = u ∧ Q z)) 5 0 [(0, .ref (gad G 79)), (1, .int (zI v1)), (2, .int (zI v2))] [] σ
  unfold wp_M_roadsBy at h
  refine j_iconst C d_M_roadsBy_0 ?_
  refine j_istore_n (L' := [(3, .int (zI 0)), (0, .ref (gad G 79)), (1, .int (zI v1)), (2, .int (zI v2))]) C d_M_roadsBy_1 rfl rfl rfl ?_
  refine j_iconst C d_M_roadsBy_2 ?_
  refine j_istore (L' := [(4, .int (zI 0)), (3, .int (zI 0)), (0, .ref (gad G 79)), (1, .int (zI v1)), (2, .int (zI v2))]) C d_M_roadsBy_3 rfl rfl ?_
  obtain ⟨n4, h⟩ := h
  refine j_sub (L' := [(0, .ref (gad G 79)), (1, .int (zI v1)), (2, .int (zI v2)), (3, .int (zI 0)), (4, .int (zI 0))]) [2, 3, 4, 1, 0] rfl ?_
  refine w_M_roadsBy_L5 C hσ r1 r2 n4 0 0 (zR_of (x := 0) rfl) (zR_of (x := 0) rfl) h
set_option maxRecDepth 100000 in
set_option maxHeartbeats 4000000 in
theorem w_M_ofPlace_b96 {X : zX} {G : zG} (C : zC X G b_M_ofPlace "GateRoadsModel" 5 (some .int) 2 46) {σ : zM} {v1 : Int} (hσ : zRM σ) (r1 : zR v1) {Q : Int → Prop} {k65 : Int → Int → Prop} (hk65 : ∀ (v3 : Int) (v4 : Int), zR v3 → zR v4 → k65 v3 v4 → zJ X G (zQi X G (fun z u => σ = u ∧ Q z)) 5 65 [(0, .ref (gad G 79)), (1, .int (zI v1)), (3, .int (zI v3)), (4, .int (zI v4))] [] σ) (v4 : Int) (s0 : Int) (s1 : Int) (r4 : zR v4) (rs0 : zR s0) (rs1 : zR s1) (h : wp_M_ofPlace_b96 σ v1 k65 Q v4 s0 s1) : zJ X G (zQi X G (fun z u => σ = u ∧ Q z)) 5 96 [(0, .ref (gad G 79)), (1, .int (zI v1)), (4, .int (zI v4))] [.int (zI s1), .int (zI s0)] σ := by
  unfold wp_M_ofPlace_b96 at h
  refine j_ior C d_M_ofPlace_96 ?_
  refine j_istore_n (L' := [(3, .int (zI (zOr s0 s1))), (0, .ref (gad G 79)), (1, .int (zI v1)), (4, .int (zI v4))]) C d_M_ofPlace_97 rfl rfl rfl ?_
  obtain ⟨g7, h⟩ := h
  refine j_iinc (L' := [(4, .int (zI (v4 + 1))), (3, .int (zI (zOr s0 s1))), (0, .ref (gad G 79)), (1, .int (zI v1))]) C d_M_ofPlace_98 3 rfl rfl rfl ?_
  refine j_goto (tgt := 65) C d_M_ofPlace_101 rfl ?_
  refine j_sub (L' := [(0, .ref (gad G 79)), (1, .int (zI v1)), (3, .int (zI (zOr s0 s1))), (4, .int (zI (v4 + 1)))]) [2, 3, 1, 0] rfl ?_
  exact hk65 (zOr s0 s1) (v4 + 1) (zOr_rg _ _) g7 h
set_option maxRecDepth 100000 in
set_option maxHeartbeats 4000000 in
theorem w_M_ofPlace_L65 {X : zX} {G : zG} (C : zC X G b_M_ofPlace "GateRoadsModel" 5 (some .int) 2 46) {σ : zM} {v1 : Int} (hσ : zRM σ) (r1 : zR v1) {Q : Int → Prop} : ∀ (n : Nat) (v3 : Int) (v4 : Int) (r3 : zR v3) (r4 : zR v4), wp_M_ofPlace_L65 σ v1 Q n v3 v4 → zJ X G (zQi X G (fun z u => σ = u ∧ Q z)) 5 65 [(0, .ref (gad G 79)), (1, .int (zI v1)), (3, .int (zI v3)), (4, .int (zI v4))] [] σ := by
  intro n
  induction n with
  | zero => intro v3 v4 r3 r4 h; exact False.elim h
  | succ n ih =>
    intro v3 v4 r3 r4 h
    rw [wp_M_ofPlace_L65] at h
    refine j_iload C d_M_ofPlace_65 3 rfl ?_
    refine j_aload_n C d_M_ofPlace_67 0 rfl rfl ?_
    refine j_getr (kf := 0) (m := 80) C d_M_ofPlace_68 sh_79 rfl i_M rfl rfl fl_M_7 ?_
    refine j_iconst C d_M_ofPlace_71 ?_
    refine j_iaload C d_M_ofPlace_72 sh_80 (zIx (i := 2) (n := 455) rfl) ?_
    refine j_icmp_ge (tgt := 104) C d_M_ofPlace_73 rfl r4 (hσ _ _) (fun c => ?_) (fun c => ?_)
    · have h := h.1 c
      refine j_iload_n C d_M_ofPlace_104 2 rfl rfl ?_
      exact j_ireturn C d_M_ofPlace_105 r3 hσ ⟨rfl, h⟩
    · have h := h.2 c
      refine j_iload_n C d_M_ofPlace_76 2 rfl rfl ?_
      refine j_aload_n C d_M_ofPlace_77 0 rfl rfl ?_
      refine j_iload C d_M_ofPlace_78 3 rfl ?_
      refine j_iconst C d_M_ofPlace_80 ?_
      refine j_callV C d_M_ofPlace_81 ml_M_104 mi_M_ofT (c_M_ofT (xl X) (gD G) (gad G) (gca G) (v1 := v4) (v2 := 0) hσ r4 (zR_of (x := 0) rfl) h) sh_79 rfl rfl rfl rfl rfl rfl rfl (fun z5 σ6 rz5 hσ6 h => ?_)
      obtain ⟨ez5, h⟩ := h; subst ez5
      refine j_iload_n C d_M_ofPlace_84 1 rfl rfl ?_
      refine j_icmp_ne (tgt := 95) C d_M_ofPlace_85 rfl rz5 r1 (fun c => ?_) (fun c => ?_)
      · have h := h.1 c
        refine j_iconst C d_M_ofPlace_95 ?_
        refine j_sub (L' := [(0, .ref (gad G 79)), (1, .int (zI v1)), (4, .int (zI v4))]) [0, 1, 3] rfl ?_
        refine w_M_ofPlace_b96 C hσ r1 ih v4 v3 0 r4 r3 (zR_of (x := 0) rfl) h
      · have h := h.2 c
        refine j_iconst C d_M_ofPlace_88 ?_
        refine j_iload C d_M_ofPlace_89 3 rfl ?_
        refine j_ishl C d_M_ofPlace_91 ?_
        refine j_goto (tgt := 96) C d_M_ofPlace_92 rfl ?_
        refine j_sub (L' := [(0, .ref (gad G 79)), (1, .int (zI v1)), (4, .int (zI v4))]) [0, 1, 3] rfl ?_
        refine w_M_ofPlace_b96 C hσ r1 ih v4 v3 (zShl 1 v4) r4 r3 (zShl_rg _ _) h
set_option maxRecDepth 100000 in
set_option maxHeartbeats 4000000 in
theorem c_M_ofPlace (l : Launch) (D : va_G) (ad : Nat → Nat) (ca : Nat → ClassId) {σ : zM} {v1 : Int} {v2 : Int} {Q : Int → Prop} (hσ : zRM σ) (r1 : zR v1) (r2 : zR v2) (h : wp_M_ofPlace σ v1 v2 Q) : zCi l D ad ca y_M_ofPlace b_M_ofPlace 5 (some .int) (zrm 2 46) [.ref (ad 79), .int (zI v1), .int (zI v2)] σ (fun z u => σ = u ∧ Q z) := by
  refine zCi_of (by decide +kernel) (Nat.le_of_ble_eq_true rfl) ?_
  intro X G C hl hD had hca
  subst hl hD had hca
  have C : zC X G b_M_ofPlace "GateRoadsModel" 5 (some .int) 2 46 := C
  show zJ X G (zQi X G (fun z u => σ = u ∧ Q z)) 5 0 [(0, .ref (gad G 79)), (1, .int (zI v1)), (2, .int (zI v2))] [] σ
  unfold wp_M_ofPlace at h
  refine j_iload_n C d_M_ofPlace_0 1 rfl rfl ?_
  refine j_callS C d_M_ofPlace_1 ml_M_57 ms_M_isPlace (c_M_isPlace (xl X) (gD G) (gad G) (gca G) (v0 := v1) hσ r1 h) rfl rfl rfl rfl rfl (fun z1 σ2 rz1 hσ2 h => ?_)
  obtain ⟨ez1, h⟩ := h; subst ez1
  refine j_if_ne (tgt := 9) C d_M_ofPlace_4 rfl rz1 (fun c => ?_) (fun c => ?_)
  · have h := h.1 c
    refine j_iload_n C d_M_ofPlace_9 2 rfl rfl ?_
    refine j_iconst C d_M_ofPlace_10 ?_
    refine j_iconst C d_M_ofPlace_11 ?_
    refine j_callS C d_M_ofPlace_12 ml_M_46 ms_M_isIn (c_M_isIn (xl X) (gD G) (gad G) (gca G) (v0 := v2) (v1 := 0) (v2 := 5) hσ r2 (zR_of (x := 0) rfl) (zR_of (x := 5) rfl) h) rfl rfl rfl rfl rfl (fun z3 σ4 rz3 hσ4 h => ?_)
    obtain ⟨ez3, h⟩ := h; subst ez3
    refine j_if_ne (tgt := 21) C d_M_ofPlace_15 rfl rz3 (fun c => ?_) (fun c => ?_)
    · have h := h.1 c
      refine j_iload_n C d_M_ofPlace_21 2 rfl rfl ?_
      refine j_iconst C d_M_ofPlace_22 ?_
      refine j_icmp_ge (tgt := 39) C d_M_ofPlace_23 rfl r2 (zR_of (x := 3) rfl) (fun c => ?_) (fun c => ?_)
      · have h := h.1 c
        refine j_iload_n C d_M_ofPlace_39 2 rfl rfl ?_
        refine j_iconst C d_M_ofPlace_40 ?_
        refine j_icmp_ge (tgt := 60) C d_M_ofPlace_41 rfl r2 (zR_of (x := 5) rfl) (fun c => ?_) (fun c => ?_)
        · have h := h.1 c
          refine j_iconst C d_M_ofPlace_60 ?_
          refine j_istore_n (L' := [(3, .int (zI 0)), (0, .ref (gad G 79)), (1, .int (zI v1)), (2, .int (zI v2))]) C d_M_ofPlace_61 rfl rfl rfl ?_
          refine j_iconst C d_M_ofPlace_62 ?_
          refine j_istore (L' := [(4, .int (zI 0)), (3, .int (zI 0)), (0, .ref (gad G 79)), (1, .int (zI v1)), (2, .int (zI v2))]) C d_M_ofPlace_63 rfl rfl ?_
          obtain ⟨n8, h⟩ := h
          refine j_sub (L' := [(0, .ref (gad G 79)), (1, .int (zI v1)), (3, .int (zI 0)), (4, .int (zI 0))]) [2, 3, 1, 0] rfl ?_
          refine w_M_ofPlace_L65 C hσ r1 n8 0 0 (zR_of (x := 0) rfl) (zR_of (x := 0) rfl) h
        · have h := h.2 c
          refine j_aload_n C d_M_ofPlace_44 0 rfl rfl ?_
          refine j_iload_n C d_M_ofPlace_45 1 rfl rfl ?_
          refine j_iload_n C d_M_ofPlace_46 2 rfl rfl ?_
          refine j_iconst C d_M_ofPlace_47 ?_
          refine j_icmp_ne (tgt := 55) C d_M_ofPlace_48 rfl r2 (zR_of (x := 3) rfl) (fun c => ?_) (fun c => ?_)
          · have h := h.1 c
            refine j_iconst C d_M_ofPlace_55 ?_
            refine j_callV C d_M_ofPlace_56 ml_M_129 mi_M_roadsBy (c_M_roadsBy (xl X) (gD G) (gad G) (gca G) (v1 := v1) (v2 := 1) hσ r1 (zR_of (x := 1) rfl) h) sh_79 rfl rfl rfl rfl rfl rfl rfl (fun z9 σ10 rz9 hσ10 h => ?_)
            obtain ⟨ez9, h⟩ := h; subst ez9
            exact j_ireturn C d_M_ofPlace_59 rz9 hσ ⟨rfl, h⟩
          · have h := h.2 c
            refine j_iconst C d_M_ofPlace_51 ?_
            refine j_goto (tgt := 56) C d_M_ofPlace_52 rfl ?_
            refine j_callV C d_M_ofPlace_56 ml_M_129 mi_M_roadsBy (c_M_roadsBy (xl X) (gD G) (gad G) (gca G) (v1 := v1) (v2 := 0) hσ r1 (zR_of (x := 0) rfl) h) sh_79 rfl rfl rfl rfl rfl rfl rfl (fun z11 σ12 rz11 hσ12 h => ?_)
            obtain ⟨ez11, h⟩ := h; subst ez11
            exact j_ireturn C d_M_ofPlace_59 rz11 hσ ⟨rfl, h⟩
      · have h := h.2 c
        refine j_aload_n C d_M_ofPlace_26 0 rfl rfl ?_
        refine j_getr (kf := 0) (m := 80) C d_M_ofPlace_27 sh_79 rfl i_M rfl rfl fl_M_7 ?_
        refine j_iconst C d_M_ofPlace_30 ?_
        refine j_iconst C d_M_ofPlace_31 ?_
        refine j_iload_n C d_M_ofPlace_32 1 rfl rfl ?_
        refine j_imul C d_M_ofPlace_33 ?_
        refine j_iadd C d_M_ofPlace_34 ?_
        refine j_iload_n C d_M_ofPlace_35 2 rfl rfl ?_
        refine j_iadd C d_M_ofPlace_36 ?_
        obtain ⟨g13, h⟩ := h
        refine j_iaload C d_M_ofPlace_37 sh_80 g13 ?_
        exact j_ireturn C d_M_ofPlace_38 (hσ _ _) hσ ⟨rfl, h⟩
    · have h := h.2 c
      refine j_bipush C d_M_ofPlace_18 rfl ?_
      exact j_ireturn C d_M_ofPlace_20 (zR_of (x := (-2)) rfl) hσ ⟨rfl, h⟩
  · have h := h.2 c
    refine j_iconst C d_M_ofPlace_7 ?_
    exact j_ireturn C d_M_ofPlace_8 (zR_of (x := (-1)) rfl) hσ ⟨rfl, h⟩
set_option maxRecDepth 100000 in
set_option maxHeartbeats 4000000 in
theorem w_M_ofRoad_b120 {X : zX} {G : zG} (C : zC X G b_M_ofRoad "GateRoadsModel" 5 (some .int) 2 43) {σ : zM} {v1 : Int} (hσ : zRM σ) (r1 : zR v1) {Q : Int → Prop} {k86 : Int → Int → Prop} (hk86 : ∀ (v3 : Int) (v4 : Int), zR v3 → zR v4 → k86 v3 v4 → zJ X G (zQi X G (fun z u => σ = u ∧ Q z)) 5 86 [(0, .ref (gad G 79)), (1, .int (zI v1)), (3, .int (zI v3)), (4, .int (zI v4))] [] σ) (v4 : Int) (s0 : Int) (s1 : Int) (r4 : zR v4) (rs0 : zR s0) (rs1 : zR s1) (h : wp_M_ofRoad_b120 σ v1 k86 Q v4 s0 s1) : zJ X G (zQi X G (fun z u => σ = u ∧ Q z)) 5 120 [(0, .ref (gad G 79)), (1, .int (zI v1)), (4, .int (zI v4))] [.int (zI s1), .int (zI s0)] σ := by
  unfold wp_M_ofRoad_b120 at h
  refine j_iadd C d_M_ofRoad_120 ?_
  obtain ⟨g6, h⟩ := h
  refine j_istore_n (L' := [(3, .int (zI (s0 + s1))), (0, .ref (gad G 79)), (1, .int (zI v1)), (4, .int (zI v4))]) C d_M_ofRoad_121 rfl rfl rfl ?_
  obtain ⟨g7, h⟩ := h
  refine j_iinc (L' := [(4, .int (zI (v4 + 1))), (3, .int (zI (s0 + s1))), (0, .ref (gad G 79)), (1, .int (zI v1))]) C d_M_ofRoad_122 3 rfl rfl rfl ?_
  refine j_goto (tgt := 86) C d_M_ofRoad_125 rfl ?_
  refine j_sub (L' := [(0, .ref (gad G 79)), (1, .int (zI v1)), (3, .int (zI (s0 + s1))), (4, .int (zI (v4 + 1)))]) [2, 3, 1, 0] rfl ?_
  exact hk86 (s0 + s1) (v4 + 1) g6 g7 h
set_option maxRecDepth 100000 in
set_option maxHeartbeats 4000000 in
theorem w_M_ofRoad_L86 {X : zX} {G : zG} (C : zC X G b_M_ofRoad "GateRoadsModel" 5 (some .int) 2 43) {σ : zM} {v1 : Int} (hσ : zRM σ) (r1 : zR v1) {Q : Int → Prop} : ∀ (n : Nat) (v3 : Int) (v4 : Int) (r3 : zR v3) (r4 : zR v4), wp_M_ofRoad_L86 σ v1 Q n v3 v4 → zJ X G (zQi X G (fun z u => σ = u ∧ Q z)) 5 86 [(0, .ref (gad G 79)), (1, .int (zI v1)), (3, .int (zI v3)), (4, .int (zI v4))] [] σ := by
  intro n
  induction n with
  | zero => intro v3 v4 r3 r4 h; exact False.elim h
  | succ n ih =>
    intro v3 v4 r3 r4 h
    rw [wp_M_ofRoad_L86] at h
    refine j_iload C d_M_ofRoad_86 3 rfl ?_
    refine j_aload_n C d_M_ofRoad_88 0 rfl rfl ?_
    refine j_getr (kf := 0) (m := 80) C d_M_ofRoad_89 sh_79 rfl i_M rfl rfl fl_M_7 ?_
    refine j_iconst C d_M_ofRoad_92 ?_
    refine j_iaload C d_M_ofRoad_93 sh_80 (zIx (i := 1) (n := 455) rfl) ?_
    refine j_icmp_ge (tgt := 128) C d_M_ofRoad_94 rfl r4 (hσ _ _) (fun c => ?_) (fun c => ?_)
    · have h := h.1 c
      refine j_iload_n C d_M_ofRoad_128 2 rfl rfl ?_
      exact j_ireturn C d_M_ofRoad_129 r3 hσ ⟨rfl, h⟩
    · have h := h.2 c
      refine j_iload_n C d_M_ofRoad_97 2 rfl rfl ?_
      refine j_aload_n C d_M_ofRoad_98 0 rfl rfl ?_
      refine j_getr (kf := 0) (m := 80) C d_M_ofRoad_99 sh_79 rfl i_M rfl rfl fl_M_7 ?_
      refine j_sipush C d_M_ofRoad_102 rfl ?_
      refine j_iconst C d_M_ofRoad_105 ?_
      refine j_iload C d_M_ofRoad_106 3 rfl ?_
      refine j_imul C d_M_ofRoad_108 ?_
      refine j_iadd C d_M_ofRoad_109 ?_
      obtain ⟨g5, h⟩ := h
      refine j_iaload C d_M_ofRoad_110 sh_80 g5 ?_
      refine j_iload_n C d_M_ofRoad_111 1 rfl rfl ?_
      refine j_icmp_ne (tgt := 119) C d_M_ofRoad_112 rfl (hσ _ _) r1 (fun c => ?_) (fun c => ?_)
      · have h := h.1 c
        refine j_iconst C d_M_ofRoad_119 ?_
        refine j_sub (L' := [(0, .ref (gad G 79)), (1, .int (zI v1)), (4, .int (zI v4))]) [0, 1, 3] rfl ?_
        refine w_M_ofRoad_b120 C hσ r1 ih v4 v3 0 r4 r3 (zR_of (x := 0) rfl) h
      · have h := h.2 c
        refine j_iconst C d_M_ofRoad_115 ?_
        refine j_goto (tgt := 120) C d_M_ofRoad_116 rfl ?_
        refine j_sub (L' := [(0, .ref (gad G 79)), (1, .int (zI v1)), (4, .int (zI v4))]) [0, 1, 3] rfl ?_
        refine w_M_ofRoad_b120 C hσ r1 ih v4 v3 1 r4 r3 (zR_of (x := 1) rfl) h
set_option maxRecDepth 100000 in
set_option maxHeartbeats 4000000 in
theorem c_M_ofRoad (l : Launch) (D : va_G) (ad : Nat → Nat) (ca : Nat → ClassId) {σ : zM} {v1 : Int} {v2 : Int} {Q : Int → Prop} (hσ : zRM σ) (r1 : zR v1) (r2 : zR v2) (h : wp_M_ofRoad σ v1 v2 Q) : zCi l D ad ca y_M_ofRoad b_M_ofRoad 5 (some .int) (zrm 2 43) [.ref (ad 79), .int (zI v1), .int (zI v2)] σ (fun z u => σ = u ∧ Q z) := by
  refine zCi_of (by decide +kernel) (Nat.le_of_ble_eq_true rfl) ?_
  intro X G C hl hD had hca
  subst hl hD had hca
  have C : zC X G b_M_ofRoad "GateRoadsModel" 5 (some .int) 2 43 := C
  show zJ X G (zQi X G (fun z u => σ = u ∧ Q z)) 5 0 [(0, .ref (gad G 79)), (1, .int (zI v1)), (2, .int (zI v2))] [] σ
  unfold wp_M_ofRoad at h
  refine j_aload_n C d_M_ofRoad_0 0 rfl rfl ?_
  refine j_iload_n C d_M_ofRoad_1 1 rfl rfl ?_
  refine j_callV C d_M_ofRoad_2 ml_M_61 mi_M_isRoad (c_M_isRoad (xl X) (gD G) (gad G) (gca G) (v1 := v1) hσ r1 h) sh_79 rfl rfl rfl rfl rfl rfl rfl (fun z1 σ2 rz1 hσ2 h => ?_)
  obtain ⟨ez1, h⟩ := h; subst ez1
  refine j_if_ne (tgt := 10) C d_M_ofRoad_5 rfl rz1 (fun c => ?_) (fun c => ?_)
  · have h := h.1 c
    refine j_iload_n C d_M_ofRoad_10 2 rfl rfl ?_
    refine j_iconst C d_M_ofRoad_11 ?_
    refine j_bipush C d_M_ofRoad_12 rfl ?_
    refine j_callS C d_M_ofRoad_14 ml_M_46 ms_M_isIn (c_M_isIn (xl X) (gD G) (gad G) (gca G) (v0 := v2) (v1 := 0) (v2 := 12) hσ r2 (zR_of (x := 0) rfl) (zR_of (x := 12) rfl) h) rfl rfl rfl rfl rfl (fun z3 σ4 rz3 hσ4 h => ?_)
    obtain ⟨ez3, h⟩ := h; subst ez3
    refine j_if_ne (tgt := 23) C d_M_ofRoad_17 rfl rz3 (fun c => ?_) (fun c => ?_)
    · have h := h.1 c
      refine j_iload_n C d_M_ofRoad_23 2 rfl rfl ?_
      refine j_iconst C d_M_ofRoad_24 ?_
      refine j_icmp_ge (tgt := 35) C d_M_ofRoad_25 rfl r2 (zR_of (x := 5) rfl) (fun c => ?_) (fun c => ?_)
      · have h := h.1 c
        refine j_iload_n C d_M_ofRoad_35 2 rfl rfl ?_
        refine j_bipush C d_M_ofRoad_36 rfl ?_
        refine j_icmp_ge (tgt := 67) C d_M_ofRoad_38 rfl r2 (zR_of (x := 11) rfl) (fun c => ?_) (fun c => ?_)
        · have h := h.1 c
          refine j_iload_n C d_M_ofRoad_67 2 rfl rfl ?_
          refine j_bipush C d_M_ofRoad_68 rfl ?_
          refine j_icmp_ne (tgt := 81) C d_M_ofRoad_70 rfl r2 (zR_of (x := 12) rfl) (fun c => ?_) (fun c => ?_)
          · have h := h.1 c
            refine j_iconst C d_M_ofRoad_81 ?_
            refine j_istore_n (L' := [(3, .int (zI 0)), (0, .ref (gad G 79)), (1, .int (zI v1)), (2, .int (zI v2))]) C d_M_ofRoad_82 rfl rfl rfl ?_
            refine j_iconst C d_M_ofRoad_83 ?_
            refine j_istore (L' := [(4, .int (zI 0)), (3, .int (zI 0)), (0, .ref (gad G 79)), (1, .int (zI v1)), (2, .int (zI v2))]) C d_M_ofRoad_84 rfl rfl ?_
            obtain ⟨n8, h⟩ := h
            refine j_sub (L' := [(0, .ref (gad G 79)), (1, .int (zI v1)), (3, .int (zI 0)), (4, .int (zI 0))]) [2, 3, 1, 0] rfl ?_
            refine w_M_ofRoad_L86 C hσ r1 n8 0 0 (zR_of (x := 0) rfl) (zR_of (x := 0) rfl) h
          · have h := h.2 c
            refine j_aload_n C d_M_ofRoad_73 0 rfl rfl ?_
            refine j_iload_n C d_M_ofRoad_74 1 rfl rfl ?_
            refine j_bipush C d_M_ofRoad_75 rfl ?_
            refine j_callV C d_M_ofRoad_77 ml_M_67 mi_M_ofR (c_M_ofR (xl X) (gD G) (gad G) (gca G) (v1 := v1) (v2 := 11) hσ r1 (zR_of (x := 11) rfl) h) sh_79 rfl rfl rfl rfl rfl rfl rfl (fun z9 σ10 rz9 hσ10 h => ?_)
            obtain ⟨ez9, h⟩ := h; subst ez9
            exact j_ireturn C d_M_ofRoad_80 rz9 hσ ⟨rfl, h⟩
        · have h := h.2 c
          refine j_iload_n C d_M_ofRoad_41 2 rfl rfl ?_
          refine j_iconst C d_M_ofRoad_42 ?_
          refine j_isub C d_M_ofRoad_43 ?_
          refine j_iconst C d_M_ofRoad_44 ?_
          obtain ⟨g11, h⟩ := h
          obtain ⟨g12, h⟩ := h
          refine j_idiv C d_M_ofRoad_45 g11 g12 (zR_of (x := 2) rfl) (by decide) ?_
          refine j_aload_n C d_M_ofRoad_46 0 rfl rfl ?_
          refine j_iload_n C d_M_ofRoad_47 1 rfl rfl ?_
          refine j_iconst C d_M_ofRoad_48 ?_
          refine j_callV C d_M_ofRoad_49 ml_M_67 mi_M_ofR (c_M_ofR (xl X) (gD G) (gad G) (gca G) (v1 := v1) (v2 := 4) hσ r1 (zR_of (x := 4) rfl) h) sh_79 rfl rfl rfl rfl rfl rfl rfl (fun z13 σ14 rz13 hσ14 h => ?_)
          obtain ⟨ez13, h⟩ := h; subst ez13
          refine j_icmp_ge (tgt := 64) C d_M_ofRoad_52 rfl (zDiv_rg g11 g12 (zR_of (x := 2) rfl) (by decide)) rz13 (fun c => ?_) (fun c => ?_)
          · have h := h.1 c
            refine j_bipush C d_M_ofRoad_64 rfl ?_
            exact j_ireturn C d_M_ofRoad_66 (zR_of (x := (-6)) rfl) hσ ⟨rfl, h⟩
          · have h := h.2 c
            refine j_aload_n C d_M_ofRoad_55 0 rfl rfl ?_
            refine j_iload_n C d_M_ofRoad_56 1 rfl rfl ?_
            refine j_iload_n C d_M_ofRoad_57 2 rfl rfl ?_
            refine j_callV C d_M_ofRoad_58 ml_M_67 mi_M_ofR (c_M_ofR (xl X) (gD G) (gad G) (gca G) (v1 := v1) (v2 := v2) hσ r1 r2 h) sh_79 rfl rfl rfl rfl rfl rfl rfl (fun z15 σ16 rz15 hσ16 h => ?_)
            obtain ⟨ez15, h⟩ := h; subst ez15
            refine j_goto (tgt := 66) C d_M_ofRoad_61 rfl ?_
            exact j_ireturn C d_M_ofRoad_66 rz15 hσ ⟨rfl, h⟩
      · have h := h.2 c
        refine j_aload_n C d_M_ofRoad_28 0 rfl rfl ?_
        refine j_iload_n C d_M_ofRoad_29 1 rfl rfl ?_
        refine j_iload_n C d_M_ofRoad_30 2 rfl rfl ?_
        refine j_callV C d_M_ofRoad_31 ml_M_67 mi_M_ofR (c_M_ofR (xl X) (gD G) (gad G) (gca G) (v1 := v1) (v2 := v2) hσ r1 r2 h) sh_79 rfl rfl rfl rfl rfl rfl rfl (fun z17 σ18 rz17 hσ18 h => ?_)
        obtain ⟨ez17, h⟩ := h; subst ez17
        exact j_ireturn C d_M_ofRoad_34 rz17 hσ ⟨rfl, h⟩
    · have h := h.2 c
      refine j_bipush C d_M_ofRoad_20 rfl ?_
      exact j_ireturn C d_M_ofRoad_22 (zR_of (x := (-2)) rfl) hσ ⟨rfl, h⟩
  · have h := h.2 c
    refine j_iconst C d_M_ofRoad_8 ?_
    exact j_ireturn C d_M_ofRoad_9 (zR_of (x := (-1)) rfl) hσ ⟨rfl, h⟩
set_option maxRecDepth 100000 in
set_option maxHeartbeats 4000000 in
theorem c_M_ofClosure (l : Launch) (D : va_G) (ad : Nat → Nat) (ca : Nat → ClassId) {σ : zM} {v1 : Int} {v2 : Int} {Q : Int → Prop} (hσ : zRM σ) (r1 : zR v1) (r2 : zR v2) (h : wp_M_ofClosure σ v1 v2 Q) : zCi l D ad ca y_M_ofClosure b_M_ofClosure 3 (some .int) (zrm 1 22) [.ref (ad 79), .int (zI v1), .int (zI v2)] σ (fun z u => σ = u ∧ Q z) := by
  refine zCi_of (by decide +kernel) (Nat.le_of_ble_eq_true rfl) ?_
  intro X G C hl hD had hca
  subst hl hD had hca
  have C : zC X G b_M_ofClosure "GateRoadsModel" 3 (some .int) 1 22 := C
  show zJ X G (zQi X G (fun z u => σ = u ∧ Q z)) 3 0 [(0, .ref (gad G 79)), (1, .int (zI v1)), (2, .int (zI v2))] [] σ
  unfold wp_M_ofClosure at h
  refine j_iload_n C d_M_ofClosure_0 1 rfl rfl ?_
  refine j_iconst C d_M_ofClosure_1 ?_
  refine j_aload_n C d_M_ofClosure_2 0 rfl rfl ?_
  refine j_getr (kf := 0) (m := 80) C d_M_ofClosure_3 sh_79 rfl i_M rfl rfl fl_M_7 ?_
  refine j_iconst C d_M_ofClosure_6 ?_
  refine j_iaload C d_M_ofClosure_7 sh_80 (zIx (i := 1) (n := 455) rfl) ?_
  refine j_iconst C d_M_ofClosure_8 ?_
  refine j_isub C d_M_ofClosure_9 ?_
  obtain ⟨g1, h⟩ := h
  refine j_callS C d_M_ofClosure_10 ml_M_46 ms_M_isIn (c_M_isIn (xl X) (gD G) (gad G) (gca G) (v0 := v1) (v1 := 0) (v2 := (σ 80 1) - 1) hσ r1 (zR_of (x := 0) rfl) g1 h) rfl rfl rfl rfl rfl (fun z2 σ3 rz2 hσ3 h => ?_)
  obtain ⟨ez2, h⟩ := h; subst ez2
  refine j_if_ne (tgt := 18) C d_M_ofClosure_13 rfl rz2 (fun c => ?_) (fun c => ?_)
  · have h := h.1 c
    refine j_iload_n C d_M_ofClosure_18 2 rfl rfl ?_
    refine j_iconst C d_M_ofClosure_19 ?_
    refine j_iconst C d_M_ofClosure_20 ?_
    refine j_callS C d_M_ofClosure_21 ml_M_46 ms_M_isIn (c_M_isIn (xl X) (gD G) (gad G) (gca G) (v0 := v2) (v1 := 0) (v2 := 2) hσ r2 (zR_of (x := 0) rfl) (zR_of (x := 2) rfl) h) rfl rfl rfl rfl rfl (fun z4 σ5 rz4 hσ5 h => ?_)
    obtain ⟨ez4, h⟩ := h; subst ez4
    refine j_if_eq (tgt := 44) C d_M_ofClosure_24 rfl rz4 (fun c => ?_) (fun c => ?_)
    · have h := h.1 c
      refine j_bipush C d_M_ofClosure_44 rfl ?_
      exact j_ireturn C d_M_ofClosure_46 (zR_of (x := (-2)) rfl) hσ ⟨rfl, h⟩
    · have h := h.2 c
      refine j_aload_n C d_M_ofClosure_27 0 rfl rfl ?_
      refine j_getr (kf := 0) (m := 80) C d_M_ofClosure_28 sh_79 rfl i_M rfl rfl fl_M_7 ?_
      refine j_sipush C d_M_ofClosure_31 rfl ?_
      refine j_iconst C d_M_ofClosure_34 ?_
      refine j_iload_n C d_M_ofClosure_35 1 rfl rfl ?_
      refine j_imul C d_M_ofClosure_36 ?_
      refine j_iadd C d_M_ofClosure_37 ?_
      refine j_iload_n C d_M_ofClosure_38 2 rfl rfl ?_
      refine j_iadd C d_M_ofClosure_39 ?_
      obtain ⟨g6, h⟩ := h
      refine j_iaload C d_M_ofClosure_40 sh_80 g6 ?_
      refine j_goto (tgt := 46) C d_M_ofClosure_41 rfl ?_
      exact j_ireturn C d_M_ofClosure_46 (hσ _ _) hσ ⟨rfl, h⟩
  · have h := h.2 c
    refine j_iconst C d_M_ofClosure_16 ?_
    exact j_ireturn C d_M_ofClosure_17 (zR_of (x := (-1)) rfl) hσ ⟨rfl, h⟩
set_option maxRecDepth 100000 in
set_option maxHeartbeats 4000000 in
theorem c_M_ofTraveller (l : Launch) (D : va_G) (ad : Nat → Nat) (ca : Nat → ClassId) {σ : zM} {v1 : Int} {v2 : Int} {Q : Int → Prop} (hσ : zRM σ) (r1 : zR v1) (r2 : zR v2) (h : wp_M_ofTraveller σ v1 v2 Q) : zCi l D ad ca y_M_ofTraveller b_M_ofTraveller 3 (some .int) (zrm 2 43) [.ref (ad 79), .int (zI v1), .int (zI v2)] σ (fun z u => σ = u ∧ Q z) := by
  refine zCi_of (by decide +kernel) (Nat.le_of_ble_eq_true rfl) ?_
  intro X G C hl hD had hca
  subst hl hD had hca
  have C : zC X G b_M_ofTraveller "GateRoadsModel" 3 (some .int) 2 43 := C
  show zJ X G (zQi X G (fun z u => σ = u ∧ Q z)) 3 0 [(0, .ref (gad G 79)), (1, .int (zI v1)), (2, .int (zI v2))] [] σ
  unfold wp_M_ofTraveller at h
  refine j_aload_n C d_M_ofTraveller_0 0 rfl rfl ?_
  refine j_iload_n C d_M_ofTraveller_1 1 rfl rfl ?_
  refine j_callV C d_M_ofTraveller_2 ml_M_101 mi_M_isTraveller (c_M_isTraveller (xl X) (gD G) (gad G) (gca G) (v1 := v1) hσ r1 h) sh_79 rfl rfl rfl rfl rfl rfl rfl (fun z1 σ2 rz1 hσ2 h => ?_)
  obtain ⟨ez1, h⟩ := h; subst ez1
  refine j_if_ne (tgt := 10) C d_M_ofTraveller_5 rfl rz1 (fun c => ?_) (fun c => ?_)
  · have h := h.1 c
    refine j_iload_n C d_M_ofTraveller_10 2 rfl rfl ?_
    refine j_iconst C d_M_ofTraveller_11 ?_
    refine j_bipush C d_M_ofTraveller_12 rfl ?_
    refine j_callS C d_M_ofTraveller_14 ml_M_46 ms_M_isIn (c_M_isIn (xl X) (gD G) (gad G) (gca G) (v0 := v2) (v1 := 0) (v2 := 7) hσ r2 (zR_of (x := 0) rfl) (zR_of (x := 7) rfl) h) rfl rfl rfl rfl rfl (fun z3 σ4 rz3 hσ4 h => ?_)
    obtain ⟨ez3, h⟩ := h; subst ez3
    refine j_if_eq (tgt := 29) C d_M_ofTraveller_17 rfl rz3 (fun c => ?_) (fun c => ?_)
    · have h := h.1 c
      refine j_bipush C d_M_ofTraveller_29 rfl ?_
      exact j_ireturn C d_M_ofTraveller_31 (zR_of (x := (-2)) rfl) hσ ⟨rfl, h⟩
    · have h := h.2 c
      refine j_aload_n C d_M_ofTraveller_20 0 rfl rfl ?_
      refine j_iload_n C d_M_ofTraveller_21 1 rfl rfl ?_
      refine j_iload_n C d_M_ofTraveller_22 2 rfl rfl ?_
      refine j_callV C d_M_ofTraveller_23 ml_M_104 mi_M_ofT (c_M_ofT (xl X) (gD G) (gad G) (gca G) (v1 := v1) (v2 := v2) hσ r1 r2 h) sh_79 rfl rfl rfl rfl rfl rfl rfl (fun z5 σ6 rz5 hσ6 h => ?_)
      obtain ⟨ez5, h⟩ := h; subst ez5
      refine j_goto (tgt := 31) C d_M_ofTraveller_26 rfl ?_
      exact j_ireturn C d_M_ofTraveller_31 rz5 hσ ⟨rfl, h⟩
  · have h := h.2 c
    refine j_iconst C d_M_ofTraveller_8 ?_
    exact j_ireturn C d_M_ofTraveller_9 (zR_of (x := (-1)) rfl) hσ ⟨rfl, h⟩
set_option maxRecDepth 100000 in
set_option maxHeartbeats 4000000 in
theorem c_M_count (l : Launch) (D : va_G) (ad : Nat → Nat) (ca : Nat → ClassId) {σ : zM} {v1 : Int} {Q : Int → Prop} (hσ : zRM σ) (r1 : zR v1) (h : wp_M_count σ v1 Q) : zCi l D ad ca y_M_count b_M_count 2 (some .int) (zrm 0 0) [.ref (ad 79), .int (zI v1)] σ (fun z u => σ = u ∧ Q z) := by
  refine zCi_of (by decide +kernel) (Nat.le_of_ble_eq_true rfl) ?_
  intro X G C hl hD had hca
  subst hl hD had hca
  have C : zC X G b_M_count "GateRoadsModel" 2 (some .int) 0 0 := C
  show zJ X G (zQi X G (fun z u => σ = u ∧ Q z)) 2 0 [(0, .ref (gad G 79)), (1, .int (zI v1))] [] σ
  unfold wp_M_count at h
  refine j_iload_n C d_M_count_0 1 rfl rfl ?_
  have hc : v1 = 0 ∨ v1 = 1 ∨ v1 = 2 ∨ v1 = 3 ∨ v1 = 4 ∨ v1 = 5 ∨ (v1 < 0 ∨ 5 < v1) := by omega
  rcases hc with c | c | c | c | c | c | c
  · have h := h.1 c
    refine j_tableIn (tgt := 40) C d_M_count_1 r1 0 c rfl rfl rfl ?_
    refine j_aload_n C d_M_count_40 0 rfl rfl ?_
    refine j_getr (kf := 0) (m := 80) C d_M_count_41 sh_79 rfl i_M rfl rfl fl_M_7 ?_
    refine j_iload_n C d_M_count_44 1 rfl rfl ?_
    obtain ⟨g1, h⟩ := h
    refine j_iaload C d_M_count_45 sh_80 g1 ?_
    exact j_ireturn C d_M_count_46 (hσ _ _) hσ ⟨rfl, h⟩
  · have h := h.2.1 c
    refine j_tableIn (tgt := 40) C d_M_count_1 r1 1 c rfl rfl rfl ?_
    refine j_aload_n C d_M_count_40 0 rfl rfl ?_
    refine j_getr (kf := 0) (m := 80) C d_M_count_41 sh_79 rfl i_M rfl rfl fl_M_7 ?_
    refine j_iload_n C d_M_count_44 1 rfl rfl ?_
    obtain ⟨g2, h⟩ := h
    refine j_iaload C d_M_count_45 sh_80 g2 ?_
    exact j_ireturn C d_M_count_46 (hσ _ _) hσ ⟨rfl, h⟩
  · have h := h.2.2.1 c
    refine j_tableIn (tgt := 40) C d_M_count_1 r1 2 c rfl rfl rfl ?_
    refine j_aload_n C d_M_count_40 0 rfl rfl ?_
    refine j_getr (kf := 0) (m := 80) C d_M_count_41 sh_79 rfl i_M rfl rfl fl_M_7 ?_
    refine j_iload_n C d_M_count_44 1 rfl rfl ?_
    obtain ⟨g3, h⟩ := h
    refine j_iaload C d_M_count_45 sh_80 g3 ?_
    exact j_ireturn C d_M_count_46 (hσ _ _) hσ ⟨rfl, h⟩
  · have h := h.2.2.2.1 c
    refine j_tableIn (tgt := 47) C d_M_count_1 r1 3 c rfl rfl rfl ?_
    refine j_aload_n C d_M_count_47 0 rfl rfl ?_
    refine j_geti (kf := 5) (kI := 5) C d_M_count_48 sh_79 rfl i_M rfl rfl rfl fl_M_98 ?_
    exact j_ireturn C d_M_count_51 (hσ _ _) hσ ⟨rfl, h⟩
  · have h := h.2.2.2.2.1 c
    refine j_tableIn (tgt := 52) C d_M_count_1 r1 4 c rfl rfl rfl ?_
    refine j_aload_n C d_M_count_52 0 rfl rfl ?_
    refine j_geti (kf := 7) (kI := 7) C d_M_count_53 sh_79 rfl i_M rfl rfl rfl fl_M_132 ?_
    exact j_ireturn C d_M_count_56 (hσ _ _) hσ ⟨rfl, h⟩
  · have h := h.2.2.2.2.2.1 c
    refine j_tableIn (tgt := 57) C d_M_count_1 r1 5 c rfl rfl rfl ?_
    refine j_aload_n C d_M_count_57 0 rfl rfl ?_
    refine j_geti (kf := 4) (kI := 4) C d_M_count_58 sh_79 rfl i_M rfl rfl rfl fl_M_50 ?_
    exact j_ireturn C d_M_count_61 (hσ _ _) hσ ⟨rfl, h⟩
  · have h := h.2.2.2.2.2.2 c
    refine j_tableOut (tgt := 62) C d_M_count_1 r1 c rfl ?_
    refine j_bipush C d_M_count_62 rfl ?_
    exact j_ireturn C d_M_count_64 (zR_of (x := (-2)) rfl) hσ ⟨rfl, h⟩
set_option maxRecDepth 100000 in
set_option maxHeartbeats 4000000 in
theorem c_M_has (l : Launch) (D : va_G) (ad : Nat → Nat) (ca : Nat → ClassId) {σ : zM} {v0 : Int} {v1 : Int} {Q : Int → Prop} (hσ : zRM σ) (r0 : zR v0) (r1 : zR v1) (h : wp_M_has σ v0 v1 Q) : zCi l D ad ca y_M_has b_M_has 2 (some .boolean) (zrm 0 0) [.int (zI v0), .int (zI v1)] σ (fun z u => σ = u ∧ Q z) := by
  refine zCi_of (by decide +kernel) (Nat.le_of_ble_eq_true rfl) ?_
  intro X G C hl hD had hca
  subst hl hD had hca
  have C : zC X G b_M_has "GateRoadsModel" 2 (some .boolean) 0 0 := C
  show zJ X G (zQi X G (fun z u => σ = u ∧ Q z)) 2 0 [(0, .int (zI v0)), (1, .int (zI v1))] [] σ
  unfold wp_M_has at h
  refine j_iload_n C d_M_has_0 0 rfl rfl ?_
  refine j_iload_n C d_M_has_1 1 rfl rfl ?_
  refine j_ishr C d_M_has_2 ?_
  refine j_iconst C d_M_has_3 ?_
  refine j_iand C d_M_has_4 ?_
  refine j_iconst C d_M_has_5 ?_
  refine j_icmp_ne (tgt := 13) C d_M_has_6 rfl (zAnd_rg _ _) (zR_of (x := 1) rfl) (fun c => ?_) (fun c => ?_)
  · have h := h.1 c
    refine j_iconst C d_M_has_13 ?_
    exact j_zreturn C d_M_has_14 (by decide) hσ ⟨rfl, h⟩
  · have h := h.2 c
    refine j_iconst C d_M_has_9 ?_
    refine j_goto (tgt := 14) C d_M_has_10 rfl ?_
    exact j_zreturn C d_M_has_14 (by decide) hσ ⟨rfl, h⟩
set_option maxRecDepth 100000 in
set_option maxHeartbeats 4000000 in
theorem w_M_spreads_L3 {X : zX} {G : zG} (C : zC X G b_M_spreads "GateRoadsModel" 7 (none) 3 71) {v1 : Int} {v2 : Int} {v3 : Int} {v4 : Int} (r1 : zR v1) (r2 : zR v2) (r3 : zR v3) (r4 : zR v4) {Q : zM → Prop} {k33 : zM → Prop} (hk33 : ∀ (σ : zM), zRM σ → k33 σ → zJ X G (zQv X G Q) 7 33 [(0, .ref (gad G 79)), (1, .int (zI v1)), (2, .int (zI v2)), (3, .int (zI v3)), (4, .int (zI v4))] [] σ) : ∀ (n : Nat) (σ : zM) (v5 : Int) (hσ : zRM σ) (r5 : zR v5), wp_M_spreads_L3 v1 v2 v3 v4 k33 Q n σ v5 → zJ X G (zQv X G Q) 7 3 [(0, .ref (gad G 79)), (1, .int (zI v1)), (2, .int (zI v2)), (3, .int (zI v3)), (4, .int (zI v4)), (5, .int (zI v5))] [] σ := by
  intro n
  induction n with
  | zero => intro σ v5 hσ r5 h; exact False.elim h
  | succ n ih =>
    intro σ v5 hσ r5 h
    rw [wp_M_spreads_L3] at h
    refine j_iload C d_M_spreads_3 5 rfl ?_
    refine j_sipush C d_M_spreads_5 rfl ?_
    refine j_icmp_gt (tgt := 33) C d_M_spreads_8 rfl r5 (zR_of (x := 2880) rfl) (fun c => ?_) (fun c => ?_)
    · have h := h.1 c
      refine j_sub (L' := [(0, .ref (gad G 79)), (1, .int (zI v1)), (2, .int (zI v2)), (3, .int (zI v3)), (4, .int (zI v4))]) [0, 1, 2, 3, 4] rfl ?_
      exact hk33 σ hσ h
    · have h := h.2 c
      refine j_aload_n C d_M_spreads_11 0 rfl rfl ?_
      refine j_getr (kf := 8) (m := 85) C d_M_spreads_12 sh_79 rfl i_M rfl rfl fl_M_25 ?_
      refine j_iload C d_M_spreads_15 5 rfl ?_
      refine j_iconst C d_M_spreads_17 ?_
      obtain ⟨g1, h⟩ := h
      refine j_iastore C d_M_spreads_18 sh_85 g1 ?_
      refine j_mem (fun σ2 eσ2 => ?_)
      have h := h σ2 eσ2
      have hσ2 : zRM σ2 := by rw [eσ2]; exact zU_rg hσ _ _ (zR_of (x := 0) rfl)
      refine j_aload_n C d_M_spreads_19 0 rfl rfl ?_
      refine j_getr (kf := 9) (m := 86) C d_M_spreads_20 sh_79 rfl i_M rfl rfl fl_M_28 ?_
      refine j_iload C d_M_spreads_23 5 rfl ?_
      refine j_iconst C d_M_spreads_25 ?_
      obtain ⟨g3, h⟩ := h
      refine j_iastore C d_M_spreads_26 sh_86 g3 ?_
      refine j_mem (fun σ4 eσ4 => ?_)
      have h := h σ4 eσ4
      have hσ4 : zRM σ4 := by rw [eσ4]; exact zU_rg hσ2 _ _ (zR_of (x := 0) rfl)
      obtain ⟨g5, h⟩ := h
      refine j_iinc (L' := [(5, .int (zI (v5 + 1))), (0, .ref (gad G 79)), (1, .int (zI v1)), (2, .int (zI v2)), (3, .int (zI v3)), (4, .int (zI v4))]) C d_M_spreads_27 5 rfl rfl rfl ?_
      refine j_goto (tgt := 3) C d_M_spreads_30 rfl ?_
      refine j_sub (L' := [(0, .ref (gad G 79)), (1, .int (zI v1)), (2, .int (zI v2)), (3, .int (zI v3)), (4, .int (zI v4)), (5, .int (zI (v5 + 1)))]) [1, 2, 3, 4, 5, 0] rfl ?_
      exact ih σ4 (v5 + 1) hσ4 g5 h
set_option maxRecDepth 100000 in
set_option maxHeartbeats 4000000 in
theorem w_M_spreads_b61 {X : zX} {G : zG} (C : zC X G b_M_spreads "GateRoadsModel" 7 (none) 3 71) {v1 : Int} {v2 : Int} {v3 : Int} {v4 : Int} (r1 : zR v1) (r2 : zR v2) (r3 : zR v3) (r4 : zR v4) {Q : zM → Prop} {k36 : zM → Int → Prop} (hk36 : ∀ (σ : zM) (v5 : Int), zRM σ → zR v5 → k36 σ v5 → zJ X G (zQv X G Q) 7 36 [(0, .ref (gad G 79)), (1, .int (zI v1)), (2, .int (zI v2)), (3, .int (zI v3)), (4, .int (zI v4)), (5, .int (zI v5))] [] σ) (σ : zM) (v5 : Int) (s1 : Int) (s2 : Int) (hσ : zRM σ) (r5 : zR v5) (rs1 : zR s1) (rs2 : zR s2) (h : wp_M_spreads_b61 v1 v2 v3 v4 k36 Q σ v5 s1 s2) : zJ X G (zQv X G Q) 7 61 [(0, .ref (gad G 79)), (1, .int (zI v1)), (2, .int (zI v2)), (3, .int (zI v3)), (4, .int (zI v4)), (5, .int (zI v5))] [.int (zI s2), .int (zI s1), .ref (gad G 89)] σ := by
  unfold wp_M_spreads_b61 at h
  obtain ⟨g7, h⟩ := h
  refine j_iastore C d_M_spreads_61 sh_89 g7 ?_
  refine j_mem (fun σ8 eσ8 => ?_)
  have h := h σ8 eσ8
  have hσ8 : zRM σ8 := by rw [eσ8]; exact zU_rg hσ _ _ rs2
  obtain ⟨g9, h⟩ := h
  refine j_iinc (L' := [(5, .int (zI (v5 + 1))), (0, .ref (gad G 79)), (1, .int (zI v1)), (2, .int (zI v2)), (3, .int (zI v3)), (4, .int (zI v4))]) C d_M_spreads_62 5 rfl rfl rfl ?_
  refine j_goto (tgt := 36) C d_M_spreads_65 rfl ?_
  refine j_sub (L' := [(0, .ref (gad G 79)), (1, .int (zI v1)), (2, .int (zI v2)), (3, .int (zI v3)), (4, .int (zI v4)), (5, .int (zI (v5 + 1)))]) [1, 2, 3, 4, 5, 0] rfl ?_
  exact hk36 σ8 (v5 + 1) hσ8 g9 h
set_option maxRecDepth 100000 in
set_option maxHeartbeats 4000000 in
theorem w_M_spreads_L36 {X : zX} {G : zG} (C : zC X G b_M_spreads "GateRoadsModel" 7 (none) 3 71) {v1 : Int} {v2 : Int} {v3 : Int} {v4 : Int} (r1 : zR v1) (r2 : zR v2) (r3 : zR v3) (r4 : zR v4) {Q : zM → Prop} {k68 : zM → Prop} (hk68 : ∀ (σ : zM), zRM σ → k68 σ → zJ X G (zQv X G Q) 7 68 [(0, .ref (gad G 79)), (2, .int (zI v2)), (4, .int (zI v4))] [] σ) : ∀ (n : Nat) (σ : zM) (v5 : Int) (hσ : zRM σ) (r5 : zR v5), wp_M_spreads_L36 v1 v2 v3 v4 k68 Q n σ v5 → zJ X G (zQv X G Q) 7 36 [(0, .ref (gad G 79)), (1, .int (zI v1)), (2, .int (zI v2)), (3, .int (zI v3)), (4, .int (zI v4)), (5, .int (zI v5))] [] σ := by
  intro n
  induction n with
  | zero => intro σ v5 hσ r5 h; exact False.elim h
  | succ n ih =>
    intro σ v5 hσ r5 h
    rw [wp_M_spreads_L36] at h
    refine j_iload C d_M_spreads_36 5 rfl ?_
    refine j_bipush C d_M_spreads_38 rfl ?_
    refine j_icmp_ge (tgt := 68) C d_M_spreads_40 rfl r5 (zR_of (x := 8) rfl) (fun c => ?_) (fun c => ?_)
    · have h := h.1 c
      refine j_sub (L' := [(0, .ref (gad G 79)), (2, .int (zI v2)), (4, .int (zI v4))]) [0, 2, 4] rfl ?_
      exact hk68 σ hσ h
    · have h := h.2 c
      refine j_aload_n C d_M_spreads_43 0 rfl rfl ?_
      refine j_getr (kf := 12) (m := 89) C d_M_spreads_44 sh_79 rfl i_M rfl rfl fl_M_37 ?_
      refine j_iload C d_M_spreads_47 5 rfl ?_
      refine j_iload C d_M_spreads_49 5 rfl ?_
      refine j_iload_n C d_M_spreads_51 1 rfl rfl ?_
      refine j_icmp_ne (tgt := 59) C d_M_spreads_52 rfl r5 r1 (fun c => ?_) (fun c => ?_)
      · have h := h.1 c
        refine j_bipush C d_M_spreads_59 rfl ?_
        refine w_M_spreads_b61 C r1 r2 r3 r4 ih σ v5 v5 (-6) hσ r5 r5 (zR_of (x := (-6)) rfl) h
      · have h := h.2 c
        refine j_iload_n C d_M_spreads_55 3 rfl rfl ?_
        refine j_goto (tgt := 61) C d_M_spreads_56 rfl ?_
        refine w_M_spreads_b61 C r1 r2 r3 r4 ih σ v5 v5 v3 hσ r5 r5 r3 h
set_option maxRecDepth 100000 in
set_option maxHeartbeats 4000000 in
theorem w_M_spreads_b203 {X : zX} {G : zG} (C : zC X G b_M_spreads "GateRoadsModel" 7 (none) 3 71) {v2 : Int} {v4 : Int} {v5 : Int} (r2 : zR v2) (r4 : zR v4) (r5 : zR v5) {Q : zM → Prop} {k82 : zM → Int → Prop} (hk82 : ∀ (σ : zM) (v6 : Int), zRM σ → zR v6 → k82 σ v6 → zJ X G (zQv X G Q) 7 82 [(0, .ref (gad G 79)), (2, .int (zI v2)), (4, .int (zI v4)), (5, .int (zI v5)), (6, .int (zI v6))] [] σ) (σ : zM) (v6 : Int) (s1 : Int) (s2 : Int) (s3 : Int) (hσ : zRM σ) (r6 : zR v6) (rs1 : zR s1) (rs2 : zR s2) (rs3 : zR s3) (h : wp_M_spreads_b203 v2 v4 v5 k82 Q σ v6 s1 s2 s3) : zJ X G (zQv X G Q) 7 203 [(0, .ref (gad G 79)), (2, .int (zI v2)), (4, .int (zI v4)), (5, .int (zI v5)), (6, .int (zI v6))] [.int (zI s3), .int (zI s2), .int (zI s1), .ref (gad G 86)] σ := by
  unfold wp_M_spreads_b203 at h
  refine j_ior C d_M_spreads_203 ?_
  obtain ⟨g16, h⟩ := h
  refine j_iastore C d_M_spreads_204 sh_86 g16 ?_
  refine j_mem (fun σ17 eσ17 => ?_)
  have h := h σ17 eσ17
  have hσ17 : zRM σ17 := by rw [eσ17]; exact zU_rg hσ _ _ (zOr_rg _ _)
  obtain ⟨g18, h⟩ := h
  refine j_iinc (L' := [(6, .int (zI (v6 + 1))), (0, .ref (gad G 79)), (2, .int (zI v2)), (4, .int (zI v4)), (5, .int (zI v5))]) C d_M_spreads_205 4 rfl rfl rfl ?_
  refine j_goto (tgt := 82) C d_M_spreads_208 rfl ?_
  refine j_sub (L' := [(0, .ref (gad G 79)), (2, .int (zI v2)), (4, .int (zI v4)), (5, .int (zI v5)), (6, .int (zI (v6 + 1)))]) [1, 2, 3, 4, 0] rfl ?_
  exact hk82 σ17 (v6 + 1) hσ17 g18 h
set_option maxRecDepth 100000 in
set_option maxHeartbeats 4000000 in
theorem w_M_spreads_b175 {X : zX} {G : zG} (C : zC X G b_M_spreads "GateRoadsModel" 7 (none) 3 71) {v2 : Int} {v4 : Int} {v5 : Int} (r2 : zR v2) (r4 : zR v4) (r5 : zR v5) {Q : zM → Prop} {k82 : zM → Int → Prop} (hk82 : ∀ (σ : zM) (v6 : Int), zRM σ → zR v6 → k82 σ v6 → zJ X G (zQv X G Q) 7 82 [(0, .ref (gad G 79)), (2, .int (zI v2)), (4, .int (zI v4)), (5, .int (zI v5)), (6, .int (zI v6))] [] σ) (σ : zM) (v6 : Int) (hσ : zRM σ) (r6 : zR v6) (h : wp_M_spreads_b175 v2 v4 v5 k82 Q σ v6) : zJ X G (zQv X G Q) 7 175 [(0, .ref (gad G 79)), (2, .int (zI v2)), (4, .int (zI v4)), (5, .int (zI v5)), (6, .int (zI v6))] [] σ := by
  unfold wp_M_spreads_b175 at h
  refine j_aload_n C d_M_spreads_175 0 rfl rfl ?_
  refine j_getr (kf := 9) (m := 86) C d_M_spreads_176 sh_79 rfl i_M rfl rfl fl_M_28 ?_
  refine j_iload C d_M_spreads_179 3 rfl ?_
  refine j_dup2 C d_M_spreads_181 rfl rfl ?_
  obtain ⟨g14, h⟩ := h
  refine j_iaload C d_M_spreads_182 sh_86 g14 ?_
  refine j_aload_n C d_M_spreads_183 0 rfl rfl ?_
  refine j_getr (kf := 12) (m := 89) C d_M_spreads_184 sh_79 rfl i_M rfl rfl fl_M_37 ?_
  refine j_iload C d_M_spreads_187 4 rfl ?_
  obtain ⟨g15, h⟩ := h
  refine j_iaload C d_M_spreads_189 sh_89 g15 ?_
  refine j_bipush C d_M_spreads_190 rfl ?_
  refine j_icmp_eq (tgt := 202) C d_M_spreads_192 rfl (hσ _ _) (zR_of (x := (-6)) rfl) (fun c => ?_) (fun c => ?_)
  · have h := h.1 c
    refine j_iconst C d_M_spreads_202 ?_
    refine w_M_spreads_b203 C r2 r4 r5 hk82 σ v6 v5 (σ 86 v5) 0 hσ r6 r5 (hσ _ _) (zR_of (x := 0) rfl) h
  · have h := h.2 c
    refine j_iconst C d_M_spreads_195 ?_
    refine j_iload C d_M_spreads_196 4 rfl ?_
    refine j_ishl C d_M_spreads_198 ?_
    refine j_goto (tgt := 203) C d_M_spreads_199 rfl ?_
    refine w_M_spreads_b203 C r2 r4 r5 hk82 σ v6 v5 (σ 86 v5) (zShl 1 v6) hσ r6 r5 (hσ _ _) (zShl_rg _ _) h
set_option maxRecDepth 100000 in
set_option maxHeartbeats 4000000 in
theorem w_M_spreads_b166 {X : zX} {G : zG} (C : zC X G b_M_spreads "GateRoadsModel" 7 (none) 3 71) {v2 : Int} {v4 : Int} {v5 : Int} (r2 : zR v2) (r4 : zR v4) (r5 : zR v5) {Q : zM → Prop} {k82 : zM → Int → Prop} (hk82 : ∀ (σ : zM) (v6 : Int), zRM σ → zR v6 → k82 σ v6 → zJ X G (zQv X G Q) 7 82 [(0, .ref (gad G 79)), (2, .int (zI v2)), (4, .int (zI v4)), (5, .int (zI v5)), (6, .int (zI v6))] [] σ) (σ : zM) (v6 : Int) (hσ : zRM σ) (r6 : zR v6) (h : wp_M_spreads_b166 v2 v4 v5 k82 Q σ v6) : zJ X G (zQv X G Q) 7 166 [(0, .ref (gad G 79)), (2, .int (zI v2)), (4, .int (zI v4)), (5, .int (zI v5)), (6, .int (zI v6))] [] σ := by
  unfold wp_M_spreads_b166 at h
  refine j_aload_n C d_M_spreads_166 0 rfl rfl ?_
  refine j_getr (kf := 12) (m := 89) C d_M_spreads_167 sh_79 rfl i_M rfl rfl fl_M_37 ?_
  refine j_iload C d_M_spreads_170 4 rfl ?_
  refine j_bipush C d_M_spreads_172 rfl ?_
  obtain ⟨g23, h⟩ := h
  refine j_iastore C d_M_spreads_174 sh_89 g23 ?_
  refine j_mem (fun σ24 eσ24 => ?_)
  have h := h σ24 eσ24
  have hσ24 : zRM σ24 := by rw [eσ24]; exact zU_rg hσ _ _ (zR_of (x := (-6)) rfl)
  refine w_M_spreads_b175 C r2 r4 r5 hk82 σ24 v6 hσ24 r6 h
set_option maxRecDepth 100000 in
set_option maxHeartbeats 4000000 in
theorem w_M_spreads_L82 {X : zX} {G : zG} (C : zC X G b_M_spreads "GateRoadsModel" 7 (none) 3 71) {v2 : Int} {v4 : Int} {v5 : Int} (r2 : zR v2) (r4 : zR v4) (r5 : zR v5) {Q : zM → Prop} {k211 : zM → Prop} (hk211 : ∀ (σ : zM), zRM σ → k211 σ → zJ X G (zQv X G Q) 7 211 [(0, .ref (gad G 79)), (2, .int (zI v2)), (4, .int (zI v4)), (5, .int (zI v5))] [] σ) : ∀ (n : Nat) (σ : zM) (v6 : Int) (hσ : zRM σ) (r6 : zR v6), wp_M_spreads_L82 v2 v4 v5 k211 Q n σ v6 → zJ X G (zQv X G Q) 7 82 [(0, .ref (gad G 79)), (2, .int (zI v2)), (4, .int (zI v4)), (5, .int (zI v5)), (6, .int (zI v6))] [] σ := by
  intro n
  induction n with
  | zero => intro σ v6 hσ r6 h; exact False.elim h
  | succ n ih =>
    intro σ v6 hσ r6 h
    rw [wp_M_spreads_L82] at h
    refine j_iload C d_M_spreads_82 4 rfl ?_
    refine j_bipush C d_M_spreads_84 rfl ?_
    refine j_icmp_ge (tgt := 211) C d_M_spreads_86 rfl r6 (zR_of (x := 8) rfl) (fun c => ?_) (fun c => ?_)
    · have h := h.1 c
      refine j_sub (L' := [(0, .ref (gad G 79)), (2, .int (zI v2)), (4, .int (zI v4)), (5, .int (zI v5))]) [0, 1, 2, 3] rfl ?_
      exact hk211 σ hσ h
    · have h := h.2 c
      refine j_aload_n C d_M_spreads_89 0 rfl rfl ?_
      refine j_getr (kf := 8) (m := 85) C d_M_spreads_90 sh_79 rfl i_M rfl rfl fl_M_25 ?_
      refine j_iload C d_M_spreads_93 3 rfl ?_
      obtain ⟨g11, h⟩ := h
      refine j_iaload C d_M_spreads_95 sh_85 g11 ?_
      refine j_iload C d_M_spreads_96 4 rfl ?_
      refine j_callS C d_M_spreads_98 ml_M_135 ms_M_has (c_M_has (xl X) (gD G) (gad G) (gca G) (v0 := σ 85 v5) (v1 := v6) hσ (hσ _ _) r6 h) rfl rfl rfl rfl rfl (fun z12 σ13 rz12 hσ13 h => ?_)
      obtain ⟨ez12, h⟩ := h; subst ez12
      refine j_if_eq (tgt := 116) C d_M_spreads_101 rfl rz12 (fun c => ?_) (fun c => ?_)
      · have h := h.1 c
        refine j_iload C d_M_spreads_116 3 rfl ?_
        refine j_iload_n C d_M_spreads_118 1 rfl rfl ?_
        refine j_icmp_le (tgt := 175) C d_M_spreads_119 rfl r5 r2 (fun c => ?_) (fun c => ?_)
        · have h := h.1 c
          refine w_M_spreads_b175 C r2 r4 r5 ih σ v6 hσ r6 h
        · have h := h.2 c
          refine j_aload_n C d_M_spreads_122 0 rfl rfl ?_
          refine j_getr (kf := 12) (m := 89) C d_M_spreads_123 sh_79 rfl i_M rfl rfl fl_M_37 ?_
          refine j_iload C d_M_spreads_126 4 rfl ?_
          obtain ⟨g19, h⟩ := h
          refine j_iaload C d_M_spreads_128 sh_89 g19 ?_
          refine j_bipush C d_M_spreads_129 rfl ?_
          refine j_icmp_eq (tgt := 175) C d_M_spreads_131 rfl (hσ _ _) (zR_of (x := (-6)) rfl) (fun c => ?_) (fun c => ?_)
          · have h := h.1 c
            refine w_M_spreads_b175 C r2 r4 r5 ih σ v6 hσ r6 h
          · have h := h.2 c
            refine j_aload_n C d_M_spreads_134 0 rfl rfl ?_
            refine j_iload C d_M_spreads_135 4 rfl ?_
            refine j_iload C d_M_spreads_137 3 rfl ?_
            refine j_iconst C d_M_spreads_139 ?_
            refine j_isub C d_M_spreads_140 ?_
            obtain ⟨g20, h⟩ := h
            refine j_callV C d_M_spreads_141 ml_M_117 mi_M_isRoomOpen (c_M_isRoomOpen (xl X) (gD G) (gad G) (gca G) (v1 := v6) (v2 := v5 - 1) hσ r6 g20 h) sh_79 rfl rfl rfl rfl rfl rfl rfl (fun z21 σ22 rz21 hσ22 h => ?_)
            obtain ⟨ez21, h⟩ := h; subst ez21
            refine j_if_eq (tgt := 166) C d_M_spreads_144 rfl rz21 (fun c => ?_) (fun c => ?_)
            · have h := h.1 c
              refine w_M_spreads_b166 C r2 r4 r5 ih σ v6 hσ r6 h
            · have h := h.2 c
              refine j_iload C d_M_spreads_147 3 rfl ?_
              refine j_aload_n C d_M_spreads_149 0 rfl rfl ?_
              refine j_getr (kf := 12) (m := 89) C d_M_spreads_150 sh_79 rfl i_M rfl rfl fl_M_37 ?_
              refine j_iload C d_M_spreads_153 4 rfl ?_
              obtain ⟨g25, h⟩ := h
              refine j_iaload C d_M_spreads_155 sh_89 g25 ?_
              refine j_isub C d_M_spreads_156 ?_
              refine j_aload_n C d_M_spreads_157 0 rfl rfl ?_
              refine j_iload C d_M_spreads_158 4 rfl ?_
              refine j_callV C d_M_spreads_160 ml_M_120 mi_M_limitOf (c_M_limitOf (xl X) (gD G) (gad G) (gca G) (v1 := v6) hσ r6 h) sh_79 rfl rfl rfl rfl rfl rfl rfl (fun z26 σ27 rz26 hσ27 h => ?_)
              obtain ⟨ez26, h⟩ := h; subst ez26
              obtain ⟨g28, h⟩ := h
              refine j_icmp_le (tgt := 175) C d_M_spreads_163 rfl g28 rz26 (fun c => ?_) (fun c => ?_)
              · have h := h.1 c
                refine w_M_spreads_b175 C r2 r4 r5 ih σ v6 hσ r6 h
              · have h := h.2 c
                refine w_M_spreads_b166 C r2 r4 r5 ih σ v6 hσ r6 h
      · have h := h.2 c
        refine j_aload_n C d_M_spreads_104 0 rfl rfl ?_
        refine j_getr (kf := 12) (m := 89) C d_M_spreads_105 sh_79 rfl i_M rfl rfl fl_M_37 ?_
        refine j_iload C d_M_spreads_108 4 rfl ?_
        refine j_iload C d_M_spreads_110 3 rfl ?_
        obtain ⟨g29, h⟩ := h
        refine j_iastore C d_M_spreads_112 sh_89 g29 ?_
        refine j_mem (fun σ30 eσ30 => ?_)
        have h := h σ30 eσ30
        have hσ30 : zRM σ30 := by rw [eσ30]; exact zU_rg hσ _ _ r5
        refine j_goto (tgt := 175) C d_M_spreads_113 rfl ?_
        refine w_M_spreads_b175 C r2 r4 r5 ih σ30 v6 hσ30 r6 h
set_option maxRecDepth 100000 in
set_option maxHeartbeats 4000000 in
theorem w_M_spreads_b290 {X : zX} {G : zG} (C : zC X G b_M_spreads "GateRoadsModel" 7 (none) 3 71) {v2 : Int} {v4 : Int} {v5 : Int} (r2 : zR v2) (r4 : zR v4) (r5 : zR v5) {Q : zM → Prop} {k214 : zM → Int → Prop} (hk214 : ∀ (σ : zM) (v6 : Int), zRM σ → zR v6 → k214 σ v6 → zJ X G (zQv X G Q) 7 214 [(0, .ref (gad G 79)), (2, .int (zI v2)), (4, .int (zI v4)), (5, .int (zI v5)), (6, .int (zI v6))] [] σ) (σ : zM) (v6 : Int) (hσ : zRM σ) (r6 : zR v6) (h : wp_M_spreads_b290 v2 v4 v5 k214 Q σ v6) : zJ X G (zQv X G Q) 7 290 [(0, .ref (gad G 79)), (2, .int (zI v2)), (4, .int (zI v4)), (5, .int (zI v5)), (6, .int (zI v6))] [] σ := by
  unfold wp_M_spreads_b290 at h
  obtain ⟨g32, h⟩ := h
  refine j_iinc (L' := [(6, .int (zI (v6 + 1))), (0, .ref (gad G 79)), (2, .int (zI v2)), (4, .int (zI v4)), (5, .int (zI v5))]) C d_M_spreads_290 4 rfl rfl rfl ?_
  refine j_goto (tgt := 214) C d_M_spreads_293 rfl ?_
  refine j_sub (L' := [(0, .ref (gad G 79)), (2, .int (zI v2)), (4, .int (zI v4)), (5, .int (zI v5)), (6, .int (zI (v6 + 1)))]) [1, 2, 3, 4, 0] rfl ?_
  exact hk214 σ (v6 + 1) hσ g32 h
set_option maxRecDepth 100000 in
set_option maxHeartbeats 4000000 in
theorem w_M_spreads_L214 {X : zX} {G : zG} (C : zC X G b_M_spreads "GateRoadsModel" 7 (none) 3 71) {v2 : Int} {v4 : Int} {v5 : Int} (r2 : zR v2) (r4 : zR v4) (r5 : zR v5) {Q : zM → Prop} {k296 : zM → Prop} (hk296 : ∀ (σ : zM), zRM σ → k296 σ → zJ X G (zQv X G Q) 7 296 [(0, .ref (gad G 79)), (2, .int (zI v2)), (4, .int (zI v4)), (5, .int (zI v5))] [] σ) : ∀ (n : Nat) (σ : zM) (v6 : Int) (hσ : zRM σ) (r6 : zR v6), wp_M_spreads_L214 v2 v4 v5 k296 Q n σ v6 → zJ X G (zQv X G Q) 7 214 [(0, .ref (gad G 79)), (2, .int (zI v2)), (4, .int (zI v4)), (5, .int (zI v5)), (6, .int (zI v6))] [] σ := by
  intro n
  induction n with
  | zero => intro σ v6 hσ r6 h; exact False.elim h
  | succ n ih =>
    intro σ v6 hσ r6 h
    rw [wp_M_spreads_L214] at h
    refine j_iload C d_M_spreads_214 4 rfl ?_
    refine j_aload_n C d_M_spreads_216 0 rfl rfl ?_
    refine j_getr (kf := 0) (m := 80) C d_M_spreads_217 sh_79 rfl i_M rfl rfl fl_M_7 ?_
    refine j_iconst C d_M_spreads_220 ?_
    refine j_iaload C d_M_spreads_221 sh_80 (zIx (i := 0) (n := 455) rfl) ?_
    refine j_icmp_ge (tgt := 296) C d_M_spreads_222 rfl r6 (hσ _ _) (fun c => ?_) (fun c => ?_)
    · have h := h.1 c
      refine j_sub (L' := [(0, .ref (gad G 79)), (2, .int (zI v2)), (4, .int (zI v4)), (5, .int (zI v5))]) [0, 1, 2, 3] rfl ?_
      exact hk296 σ hσ h
    · have h := h.2 c
      refine j_iload C d_M_spreads_225 4 rfl ?_
      refine j_iload C d_M_spreads_227 2 rfl ?_
      refine j_icmp_eq (tgt := 290) C d_M_spreads_229 rfl r6 r4 (fun c => ?_) (fun c => ?_)
      · have h := h.1 c
        refine w_M_spreads_b290 C r2 r4 r5 ih σ v6 hσ r6 h
      · have h := h.2 c
        refine j_aload_n C d_M_spreads_232 0 rfl rfl ?_
        refine j_getr (kf := 9) (m := 86) C d_M_spreads_233 sh_79 rfl i_M rfl rfl fl_M_28 ?_
        refine j_iload C d_M_spreads_236 3 rfl ?_
        obtain ⟨g33, h⟩ := h
        refine j_iaload C d_M_spreads_238 sh_86 g33 ?_
        refine j_aload_n C d_M_spreads_239 0 rfl rfl ?_
        refine j_iload C d_M_spreads_240 4 rfl ?_
        refine j_iconst C d_M_spreads_242 ?_
        refine j_callV C d_M_spreads_243 ml_M_67 mi_M_ofR (c_M_ofR (xl X) (gD G) (gad G) (gca G) (v1 := v6) (v2 := 0) hσ r6 (zR_of (x := 0) rfl) h) sh_79 rfl rfl rfl rfl rfl rfl rfl (fun z34 σ35 rz34 hσ35 h => ?_)
        obtain ⟨ez34, h⟩ := h; subst ez34
        refine j_callS C d_M_spreads_246 ml_M_135 ms_M_has (c_M_has (xl X) (gD G) (gad G) (gca G) (v0 := σ 86 v5) (v1 := z34) hσ (hσ _ _) rz34 h) rfl rfl rfl rfl rfl (fun z36 σ37 rz36 hσ37 h => ?_)
        obtain ⟨ez36, h⟩ := h; subst ez36
        refine j_if_eq (tgt := 290) C d_M_spreads_249 rfl rz36 (fun c => ?_) (fun c => ?_)
        · have h := h.1 c
          refine w_M_spreads_b290 C r2 r4 r5 ih σ v6 hσ r6 h
        · have h := h.2 c
          refine j_aload_n C d_M_spreads_252 0 rfl rfl ?_
          refine j_iload C d_M_spreads_253 4 rfl ?_
          refine j_iload C d_M_spreads_255 3 rfl ?_
          refine j_callV C d_M_spreads_257 ml_M_95 mi_M_whyNot (c_M_whyNot (xl X) (gD G) (gad G) (gca G) (v1 := v6) (v2 := v5) hσ r6 r5 h) sh_79 rfl rfl rfl rfl rfl rfl rfl (fun z38 σ39 rz38 hσ39 h => ?_)
          obtain ⟨ez38, h⟩ := h; subst ez38
          refine j_if_ne (tgt := 290) C d_M_spreads_260 rfl rz38 (fun c => ?_) (fun c => ?_)
          · have h := h.1 c
            refine w_M_spreads_b290 C r2 r4 r5 ih σ v6 hσ r6 h
          · have h := h.2 c
            refine j_aload_n C d_M_spreads_263 0 rfl rfl ?_
            refine j_getr (kf := 8) (m := 85) C d_M_spreads_264 sh_79 rfl i_M rfl rfl fl_M_25 ?_
            refine j_iload C d_M_spreads_267 3 rfl ?_
            refine j_aload_n C d_M_spreads_269 0 rfl rfl ?_
            refine j_iload C d_M_spreads_270 4 rfl ?_
            refine j_iconst C d_M_spreads_272 ?_
            refine j_callV C d_M_spreads_273 ml_M_67 mi_M_ofR (c_M_ofR (xl X) (gD G) (gad G) (gca G) (v1 := v6) (v2 := 2) hσ r6 (zR_of (x := 2) rfl) h) sh_79 rfl rfl rfl rfl rfl rfl rfl (fun z40 σ41 rz40 hσ41 h => ?_)
            obtain ⟨ez40, h⟩ := h; subst ez40
            refine j_iadd C d_M_spreads_276 ?_
            refine j_dup2 C d_M_spreads_277 rfl rfl ?_
            obtain ⟨g42, h⟩ := h
            refine j_iaload C d_M_spreads_278 sh_85 g42 ?_
            refine j_iconst C d_M_spreads_279 ?_
            refine j_aload_n C d_M_spreads_280 0 rfl rfl ?_
            refine j_iload C d_M_spreads_281 4 rfl ?_
            refine j_iconst C d_M_spreads_283 ?_
            refine j_callV C d_M_spreads_284 ml_M_67 mi_M_ofR (c_M_ofR (xl X) (gD G) (gad G) (gca G) (v1 := v6) (v2 := 1) hσ r6 (zR_of (x := 1) rfl) h) sh_79 rfl rfl rfl rfl rfl rfl rfl (fun z43 σ44 rz43 hσ44 h => ?_)
            obtain ⟨ez43, h⟩ := h; subst ez43
            refine j_ishl C d_M_spreads_287 ?_
            refine j_ior C d_M_spreads_288 ?_
            obtain ⟨g45, h⟩ := h
            refine j_iastore C d_M_spreads_289 sh_85 g45 ?_
            refine j_mem (fun σ46 eσ46 => ?_)
            have h := h σ46 eσ46
            have hσ46 : zRM σ46 := by rw [eσ46]; exact zU_rg hσ _ _ (zOr_rg _ _)
            refine w_M_spreads_b290 C r2 r4 r5 ih σ46 v6 hσ46 r6 h
set_option maxRecDepth 100000 in
set_option maxHeartbeats 4000000 in
theorem w_M_spreads_L71 {X : zX} {G : zG} (C : zC X G b_M_spreads "GateRoadsModel" 7 (none) 3 71) {v2 : Int} {v4 : Int} (r2 : zR v2) (r4 : zR v4) {Q : zM → Prop} : ∀ (n : Nat) (σ : zM) (v5 : Int) (hσ : zRM σ) (r5 : zR v5), wp_M_spreads_L71 v2 v4 Q n σ v5 → zJ X G (zQv X G Q) 7 71 [(0, .ref (gad G 79)), (2, .int (zI v2)), (4, .int (zI v4)), (5, .int (zI v5))] [] σ := by
  intro n
  induction n with
  | zero => intro σ v5 hσ r5 h; exact False.elim h
  | succ n ih =>
    intro σ v5 hσ r5 h
    rw [wp_M_spreads_L71] at h
    refine j_iload C d_M_spreads_71 3 rfl ?_
    refine j_sipush C d_M_spreads_73 rfl ?_
    refine j_icmp_gt (tgt := 302) C d_M_spreads_76 rfl r5 (zR_of (x := 2880) rfl) (fun c => ?_) (fun c => ?_)
    · have h := h.1 c
      exact j_vreturn C d_M_spreads_302 hσ h
    · have h := h.2 c
      refine j_iconst C d_M_spreads_79 ?_
      refine j_istore (L' := [(6, .int (zI 0)), (0, .ref (gad G 79)), (2, .int (zI v2)), (4, .int (zI v4)), (5, .int (zI v5))]) C d_M_spreads_80 rfl rfl ?_
      obtain ⟨n50, h⟩ := h
      refine j_sub (L' := [(0, .ref (gad G 79)), (2, .int (zI v2)), (4, .int (zI v4)), (5, .int (zI v5)), (6, .int (zI 0))]) [1, 2, 3, 4, 0] rfl ?_
      refine w_M_spreads_L82 C r2 r4 r5 ?_ n50 σ 0 hσ (zR_of (x := 0) rfl) h
      · intro σ31 hσ31 h
        refine j_iconst C d_M_spreads_211 ?_
        refine j_istore (L' := [(6, .int (zI 0)), (0, .ref (gad G 79)), (2, .int (zI v2)), (4, .int (zI v4)), (5, .int (zI v5))]) C d_M_spreads_212 rfl rfl ?_
        obtain ⟨n49, h⟩ := h
        refine j_sub (L' := [(0, .ref (gad G 79)), (2, .int (zI v2)), (4, .int (zI v4)), (5, .int (zI v5)), (6, .int (zI 0))]) [1, 2, 3, 4, 0] rfl ?_
        refine w_M_spreads_L214 C r2 r4 r5 ?_ n49 σ31 0 hσ31 (zR_of (x := 0) rfl) h
        · intro σ47 hσ47 h
          obtain ⟨g48, h⟩ := h
          refine j_iinc (L' := [(5, .int (zI (v5 + 1))), (0, .ref (gad G 79)), (2, .int (zI v2)), (4, .int (zI v4))]) C d_M_spreads_296 3 rfl rfl rfl ?_
          refine j_goto (tgt := 71) C d_M_spreads_299 rfl ?_
          refine j_sub (L' := [(0, .ref (gad G 79)), (2, .int (zI v2)), (4, .int (zI v4)), (5, .int (zI (v5 + 1)))]) [1, 2, 3, 0] rfl ?_
          exact ih σ47 (v5 + 1) hσ47 g48 h
set_option maxRecDepth 100000 in
set_option maxHeartbeats 4000000 in
theorem c_M_spreads (l : Launch) (D : va_G) (ad : Nat → Nat) (ca : Nat → ClassId) {σ : zM} {v1 : Int} {v2 : Int} {v3 : Int} {v4 : Int} {Q : zM → Prop} (hσ : zRM σ) (r1 : zR v1) (r2 : zR v2) (r3 : zR v3) (r4 : zR v4) (h : wp_M_spreads σ v1 v2 v3 v4 Q) : zCv l D ad ca y_M_spreads b_M_spreads 7 (zrm 3 71) [.ref (ad 79), .int (zI v1), .int (zI v2), .int (zI v3), .int (zI v4)] σ Q := by
  refine zCv_of (by decide +kernel) (Nat.le_of_ble_eq_true rfl) ?_
  intro X G C hl hD had hca
  subst hl hD had hca
  have C : zC X G b_M_spreads "GateRoadsModel" 7 (none) 3 71 := C
  show zJ X G (zQv X G Q) 7 0 [(0, .ref (gad G 79)), (1, .int (zI v1)), (2, .int (zI v2)), (3, .int (zI v3)), (4, .int (zI v4))] [] σ
  unfold wp_M_spreads at h
  refine j_iconst C d_M_spreads_0 ?_
  refine j_istore (L' := [(5, .int (zI 0)), (0, .ref (gad G 79)), (1, .int (zI v1)), (2, .int (zI v2)), (3, .int (zI v3)), (4, .int (zI v4))]) C d_M_spreads_1 rfl rfl ?_
  obtain ⟨n53, h⟩ := h
  refine j_sub (L' := [(0, .ref (gad G 79)), (1, .int (zI v1)), (2, .int (zI v2)), (3, .int (zI v3)), (4, .int (zI v4)), (5, .int (zI 0))]) [1, 2, 3, 4, 5, 0] rfl ?_
  refine w_M_spreads_L3 C r1 r2 r3 r4 ?_ n53 σ 0 hσ (zR_of (x := 0) rfl) h
  · intro σ6 hσ6 h
    refine j_iconst C d_M_spreads_33 ?_
    refine j_istore (L' := [(5, .int (zI 0)), (0, .ref (gad G 79)), (1, .int (zI v1)), (2, .int (zI v2)), (3, .int (zI v3)), (4, .int (zI v4))]) C d_M_spreads_34 rfl rfl ?_
    obtain ⟨n52, h⟩ := h
    refine j_sub (L' := [(0, .ref (gad G 79)), (1, .int (zI v1)), (2, .int (zI v2)), (3, .int (zI v3)), (4, .int (zI v4)), (5, .int (zI 0))]) [1, 2, 3, 4, 5, 0] rfl ?_
    refine w_M_spreads_L36 C r1 r2 r3 r4 ?_ n52 σ6 0 hσ6 (zR_of (x := 0) rfl) h
    · intro σ10 hσ10 h
      refine j_iload_n C d_M_spreads_68 1 rfl rfl ?_
      refine j_istore (L' := [(5, .int (zI v2)), (0, .ref (gad G 79)), (2, .int (zI v2)), (4, .int (zI v4))]) C d_M_spreads_69 rfl rfl ?_
      obtain ⟨n51, h⟩ := h
      refine j_sub (L' := [(0, .ref (gad G 79)), (2, .int (zI v2)), (4, .int (zI v4)), (5, .int (zI v2))]) [1, 2, 3, 0] rfl ?_
      refine w_M_spreads_L71 C r2 r4 n51 σ10 v2 hσ10 r2 h
set_option maxRecDepth 100000 in
set_option maxHeartbeats 4000000 in
theorem w_M_firstAt_L2 {X : zX} {G : zG} (C : zC X G b_M_firstAt "GateRoadsModel" 3 (some .int) 1 21) {σ : zM} {v1 : Int} (hσ : zRM σ) (r1 : zR v1) {Q : Int → Prop} : ∀ (n : Nat) (v2 : Int) (r2 : zR v2), wp_M_firstAt_L2 σ v1 Q n v2 → zJ X G (zQi X G (fun z u => σ = u ∧ Q z)) 3 2 [(0, .ref (gad G 79)), (1, .int (zI v1)), (2, .int (zI v2))] [] σ := by
  intro n
  induction n with
  | zero => intro v2 r2 h; exact False.elim h
  | succ n ih =>
    intro v2 r2 h
    rw [wp_M_firstAt_L2] at h
    refine j_iload_n C d_M_firstAt_2 2 rfl rfl ?_
    refine j_sipush C d_M_firstAt_3 rfl ?_
    refine j_icmp_gt (tgt := 30) C d_M_firstAt_6 rfl r2 (zR_of (x := 2880) rfl) (fun c => ?_) (fun c => ?_)
    · have h := h.1 c
      refine j_bipush C d_M_firstAt_30 rfl ?_
      exact j_ireturn C d_M_firstAt_32 (zR_of (x := (-6)) rfl) hσ ⟨rfl, h⟩
    · have h := h.2 c
      refine j_aload_n C d_M_firstAt_9 0 rfl rfl ?_
      refine j_getr (kf := 8) (m := 85) C d_M_firstAt_10 sh_79 rfl i_M rfl rfl fl_M_25 ?_
      refine j_iload_n C d_M_firstAt_13 2 rfl rfl ?_
      obtain ⟨g1, h⟩ := h
      refine j_iaload C d_M_firstAt_14 sh_85 g1 ?_
      refine j_iload_n C d_M_firstAt_15 1 rfl rfl ?_
      refine j_callS C d_M_firstAt_16 ml_M_135 ms_M_has (c_M_has (xl X) (gD G) (gad G) (gca G) (v0 := σ 85 v2) (v1 := v1) hσ (hσ _ _) r1 h) rfl rfl rfl rfl rfl (fun z2 σ3 rz2 hσ3 h => ?_)
      obtain ⟨ez2, h⟩ := h; subst ez2
      refine j_if_eq (tgt := 24) C d_M_firstAt_19 rfl rz2 (fun c => ?_) (fun c => ?_)
      · have h := h.1 c
        obtain ⟨g4, h⟩ := h
        refine j_iinc (L' := [(2, .int (zI (v2 + 1))), (0, .ref (gad G 79)), (1, .int (zI v1))]) C d_M_firstAt_24 2 rfl rfl rfl ?_
        refine j_goto (tgt := 2) C d_M_firstAt_27 rfl ?_
        refine j_sub (L' := [(0, .ref (gad G 79)), (1, .int (zI v1)), (2, .int (zI (v2 + 1)))]) [1, 2, 0] rfl ?_
        exact ih (v2 + 1) g4 h
      · have h := h.2 c
        refine j_iload_n C d_M_firstAt_22 2 rfl rfl ?_
        exact j_ireturn C d_M_firstAt_23 r2 hσ ⟨rfl, h⟩
set_option maxRecDepth 100000 in
set_option maxHeartbeats 4000000 in
theorem c_M_firstAt (l : Launch) (D : va_G) (ad : Nat → Nat) (ca : Nat → ClassId) {σ : zM} {v1 : Int} {Q : Int → Prop} (hσ : zRM σ) (r1 : zR v1) (h : wp_M_firstAt σ v1 Q) : zCi l D ad ca y_M_firstAt b_M_firstAt 3 (some .int) (zrm 1 21) [.ref (ad 79), .int (zI v1)] σ (fun z u => σ = u ∧ Q z) := by
  refine zCi_of (by decide +kernel) (Nat.le_of_ble_eq_true rfl) ?_
  intro X G C hl hD had hca
  subst hl hD had hca
  have C : zC X G b_M_firstAt "GateRoadsModel" 3 (some .int) 1 21 := C
  show zJ X G (zQi X G (fun z u => σ = u ∧ Q z)) 3 0 [(0, .ref (gad G 79)), (1, .int (zI v1))] [] σ
  unfold wp_M_firstAt at h
  refine j_iconst C d_M_firstAt_0 ?_
  refine j_istore_n (L' := [(2, .int (zI 0)), (0, .ref (gad G 79)), (1, .int (zI v1))]) C d_M_firstAt_1 rfl rfl rfl ?_
  obtain ⟨n5, h⟩ := h
  refine j_sub (L' := [(0, .ref (gad G 79)), (1, .int (zI v1)), (2, .int (zI 0))]) [1, 2, 0] rfl ?_
  refine w_M_firstAt_L2 C hσ r1 n5 0 (zR_of (x := 0) rfl) h
set_option maxRecDepth 100000 in
set_option maxHeartbeats 4000000 in
theorem c_M_earliestOf (l : Launch) (D : va_G) (ad : Nat → Nat) (ca : Nat → ClassId) {σ : zM} {v1 : Int} {v2 : Int} {v3 : Int} {Q : Int → zM → Prop} (hσ : zRM σ) (r1 : zR v1) (r2 : zR v2) (r3 : zR v3) (h : wp_M_earliestOf σ v1 v2 v3 Q) : zCi l D ad ca y_M_earliestOf b_M_earliestOf 4 (some .int) (zrm 4 97) [.ref (ad 79), .int (zI v1), .int (zI v2), .int (zI v3)] σ Q := by
  refine zCi_of (by decide +kernel) (Nat.le_of_ble_eq_true rfl) ?_
  intro X G C hl hD had hca
  subst hl hD had hca
  have C : zC X G b_M_earliestOf "GateRoadsModel" 4 (some .int) 4 97 := C
  show zJ X G (zQi X G Q) 4 0 [(0, .ref (gad G 79)), (1, .int (zI v1)), (2, .int (zI v2)), (3, .int (zI v3))] [] σ
  unfold wp_M_earliestOf at h
  refine j_iload_n C d_M_earliestOf_0 1 rfl rfl ?_
  refine j_iload_n C d_M_earliestOf_1 2 rfl rfl ?_
  refine j_icmp_ne (tgt := 7) C d_M_earliestOf_2 rfl r1 r2 (fun c => ?_) (fun c => ?_)
  · have h := h.1 c
    refine j_aload_n C d_M_earliestOf_7 0 rfl rfl ?_
    refine j_iload_n C d_M_earliestOf_8 1 rfl rfl ?_
    refine j_iload_n C d_M_earliestOf_9 3 rfl rfl ?_
    refine j_iload_n C d_M_earliestOf_10 3 rfl rfl ?_
    refine j_bipush C d_M_earliestOf_11 rfl ?_
    refine j_callVv C d_M_earliestOf_13 ml_M_138 mi_M_spreads (c_M_spreads (xl X) (gD G) (gad G) (gca G) (v1 := v1) (v2 := v3) (v3 := v3) (v4 := (-6)) hσ r1 r3 r3 (zR_of (x := (-6)) rfl) h) sh_79 rfl rfl rfl rfl rfl rfl rfl (fun σ2 hσ2 h => ?_)
    refine j_aload_n C d_M_earliestOf_16 0 rfl rfl ?_
    refine j_iload_n C d_M_earliestOf_17 2 rfl rfl ?_
    refine j_callV C d_M_earliestOf_18 ml_M_142 mi_M_firstAt (c_M_firstAt (xl X) (gD G) (gad G) (gca G) (v1 := v2) hσ2 r2 h) sh_79 rfl rfl rfl rfl rfl rfl rfl (fun z3 σ4 rz3 hσ4 h => ?_)
    obtain ⟨ez3, h⟩ := h; subst ez3
    exact j_ireturn C d_M_earliestOf_21 rz3 hσ2 h
  · have h := h.2 c
    refine j_iload_n C d_M_earliestOf_5 3 rfl rfl ?_
    exact j_ireturn C d_M_earliestOf_6 r3 hσ h
set_option maxRecDepth 100000 in
set_option maxHeartbeats 4000000 in
theorem c_M_earliest (l : Launch) (D : va_G) (ad : Nat → Nat) (ca : Nat → ClassId) {σ : zM} {v1 : Int} {v2 : Int} {v3 : Int} {Q : Int → zM → Prop} (hσ : zRM σ) (r1 : zR v1) (r2 : zR v2) (r3 : zR v3) (h : wp_M_earliest σ v1 v2 v3 Q) : zCi l D ad ca y_M_earliest b_M_earliest 4 (some .int) (zrm 5 120) [.ref (ad 79), .int (zI v1), .int (zI v2), .int (zI v3)] σ Q := by
  refine zCi_of (by decide +kernel) (Nat.le_of_ble_eq_true rfl) ?_
  intro X G C hl hD had hca
  subst hl hD had hca
  have C : zC X G b_M_earliest "GateRoadsModel" 4 (some .int) 5 120 := C
  show zJ X G (zQi X G Q) 4 0 [(0, .ref (gad G 79)), (1, .int (zI v1)), (2, .int (zI v2)), (3, .int (zI v3))] [] σ
  unfold wp_M_earliest at h
  refine j_iload_n C d_M_earliest_0 1 rfl rfl ?_
  refine j_callS C d_M_earliest_1 ml_M_57 ms_M_isPlace (c_M_isPlace (xl X) (gD G) (gad G) (gca G) (v0 := v1) hσ r1 h) rfl rfl rfl rfl rfl (fun z1 σ2 rz1 hσ2 h => ?_)
  obtain ⟨ez1, h⟩ := h; subst ez1
  refine j_if_eq (tgt := 14) C d_M_earliest_4 rfl rz1 (fun c => ?_) (fun c => ?_)
  · have h := h.1 c
    refine j_iconst C d_M_earliest_14 ?_
    exact j_ireturn C d_M_earliest_15 (zR_of (x := (-1)) rfl) hσ h
  · have h := h.2 c
    refine j_iload_n C d_M_earliest_7 2 rfl rfl ?_
    refine j_callS C d_M_earliest_8 ml_M_57 ms_M_isPlace (c_M_isPlace (xl X) (gD G) (gad G) (gca G) (v0 := v2) hσ r2 h) rfl rfl rfl rfl rfl (fun z3 σ4 rz3 hσ4 h => ?_)
    obtain ⟨ez3, h⟩ := h; subst ez3
    refine j_if_ne (tgt := 16) C d_M_earliest_11 rfl rz3 (fun c => ?_) (fun c => ?_)
    · have h := h.1 c
      refine j_iload_n C d_M_earliest_16 3 rfl rfl ?_
      refine j_callS C d_M_earliest_17 ml_M_92 ms_M_isTime (c_M_isTime (xl X) (gD G) (gad G) (gca G) (v0 := v3) hσ r3 h) rfl rfl rfl rfl rfl (fun z5 σ6 rz5 hσ6 h => ?_)
      obtain ⟨ez5, h⟩ := h; subst ez5
      refine j_if_eq (tgt := 33) C d_M_earliest_20 rfl rz5 (fun c => ?_) (fun c => ?_)
      · have h := h.1 c
        refine j_bipush C d_M_earliest_33 rfl ?_
        exact j_ireturn C d_M_earliest_35 (zR_of (x := (-2)) rfl) hσ h
      · have h := h.2 c
        refine j_aload_n C d_M_earliest_23 0 rfl rfl ?_
        refine j_iload_n C d_M_earliest_24 1 rfl rfl ?_
        refine j_iload_n C d_M_earliest_25 2 rfl rfl ?_
        refine j_iload_n C d_M_earliest_26 3 rfl rfl ?_
        refine j_callV C d_M_earliest_27 ml_M_145 mi_M_earliestOf (c_M_earliestOf (xl X) (gD G) (gad G) (gca G) (v1 := v1) (v2 := v2) (v3 := v3) hσ r1 r2 r3 h) sh_79 rfl rfl rfl rfl rfl rfl rfl (fun z7 σ8 rz7 hσ8 h => ?_)
        refine j_goto (tgt := 35) C d_M_earliest_30 rfl ?_
        exact j_ireturn C d_M_earliest_35 rz7 hσ8 h
    · have h := h.2 c
      refine j_iconst C d_M_earliest_14 ?_
      exact j_ireturn C d_M_earliest_15 (zR_of (x := (-1)) rfl) hσ h
set_option maxRecDepth 100000 in
set_option maxHeartbeats 4000000 in
theorem w_M_leadsOn_b85 {X : zX} {G : zG} (C : zC X G b_M_leadsOn "GateRoadsModel" 7 (some .boolean) 3 71) {σ : zM} {v1 : Int} {v2 : Int} {v3 : Int} (hσ : zRM σ) (r1 : zR v1) (r2 : zR v2) (r3 : zR v3) {Q : Int → Prop} {k6 : Int → Int → Prop} (hk6 : ∀ (v4 : Int) (v5 : Int), zR v4 → zR v5 → k6 v4 v5 → zJ X G (zQi X G (fun z u => σ = u ∧ Q z)) 7 6 [(0, .ref (gad G 79)), (1, .int (zI v1)), (2, .int (zI v2)), (3, .int (zI v3)), (4, .int (zI v4)), (5, .int (zI v5))] [] σ) (v5 : Int) (s0 : Int) (r5 : zR v5) (rs0 : zR s0) (h : wp_M_leadsOn_b85 σ v1 v2 v3 k6 Q v5 s0) : zJ X G (zQi X G (fun z u => σ = u ∧ Q z)) 7 85 [(0, .ref (gad G 79)), (1, .int (zI v1)), (2, .int (zI v2)), (3, .int (zI v3)), (5, .int (zI v5))] [.int (zI s0)] σ := by
  unfold wp_M_leadsOn_b85 at h
  refine j_istore (L' := [(4, .int (zI s0)), (0, .ref (gad G 79)), (1, .int (zI v1)), (2, .int (zI v2)), (3, .int (zI v3)), (5, .int (zI v5))]) C d_M_leadsOn_85 rfl rfl ?_
  obtain ⟨g5, h⟩ := h
  refine j_iinc (L' := [(5, .int (zI (v5 + 1))), (4, .int (zI s0)), (0, .ref (gad G 79)), (1, .int (zI v1)), (2, .int (zI v2)), (3, .int (zI v3))]) C d_M_leadsOn_87 5 rfl rfl rfl ?_
  refine j_goto (tgt := 6) C d_M_leadsOn_90 rfl ?_
  refine j_sub (L' := [(0, .ref (gad G 79)), (1, .int (zI v1)), (2, .int (zI v2)), (3, .int (zI v3)), (4, .int (zI s0)), (5, .int (zI (v5 + 1)))]) [2, 3, 4, 5, 1, 0] rfl ?_
  exact hk6 s0 (v5 + 1) rs0 g5 h
set_option maxRecDepth 100000 in
set_option maxHeartbeats 4000000 in
theorem w_M_leadsOn_b80 {X : zX} {G : zG} (C : zC X G b_M_leadsOn "GateRoadsModel" 7 (some .boolean) 3 71) {σ : zM} {v1 : Int} {v2 : Int} {v3 : Int} (hσ : zRM σ) (r1 : zR v1) (r2 : zR v2) (r3 : zR v3) {Q : Int → Prop} {k6 : Int → Int → Prop} (hk6 : ∀ (v4 : Int) (v5 : Int), zR v4 → zR v5 → k6 v4 v5 → zJ X G (zQi X G (fun z u => σ = u ∧ Q z)) 7 6 [(0, .ref (gad G 79)), (1, .int (zI v1)), (2, .int (zI v2)), (3, .int (zI v3)), (4, .int (zI v4)), (5, .int (zI v5))] [] σ) (v5 : Int) (r5 : zR v5) (h : wp_M_leadsOn_b80 σ v1 v2 v3 k6 Q v5) : zJ X G (zQi X G (fun z u => σ = u ∧ Q z)) 7 80 [(0, .ref (gad G 79)), (1, .int (zI v1)), (2, .int (zI v2)), (3, .int (zI v3)), (5, .int (zI v5))] [] σ := by
  unfold wp_M_leadsOn_b80 at h
  refine j_iconst C d_M_leadsOn_80 ?_
  refine j_goto (tgt := 85) C d_M_leadsOn_81 rfl ?_
  refine w_M_leadsOn_b85 C hσ r1 r2 r3 hk6 v5 1 r5 (zR_of (x := 1) rfl) h
set_option maxRecDepth 100000 in
set_option maxHeartbeats 4000000 in
theorem w_M_leadsOn_b84 {X : zX} {G : zG} (C : zC X G b_M_leadsOn "GateRoadsModel" 7 (some .boolean) 3 71) {σ : zM} {v1 : Int} {v2 : Int} {v3 : Int} (hσ : zRM σ) (r1 : zR v1) (r2 : zR v2) (r3 : zR v3) {Q : Int → Prop} {k6 : Int → Int → Prop} (hk6 : ∀ (v4 : Int) (v5 : Int), zR v4 → zR v5 → k6 v4 v5 → zJ X G (zQi X G (fun z u => σ = u ∧ Q z)) 7 6 [(0, .ref (gad G 79)), (1, .int (zI v1)), (2, .int (zI v2)), (3, .int (zI v3)), (4, .int (zI v4)), (5, .int (zI v5))] [] σ) (v5 : Int) (r5 : zR v5) (h : wp_M_leadsOn_b84 σ v1 v2 v3 k6 Q v5) : zJ X G (zQi X G (fun z u => σ = u ∧ Q z)) 7 84 [(0, .ref (gad G 79)), (1, .int (zI v1)), (2, .int (zI v2)), (3, .int (zI v3)), (5, .int (zI v5))] [] σ := by
  unfold wp_M_leadsOn_b84 at h
  refine j_iconst C d_M_leadsOn_84 ?_
  refine w_M_leadsOn_b85 C hσ r1 r2 r3 hk6 v5 0 r5 (zR_of (x := 0) rfl) h
set_option maxRecDepth 100000 in
set_option maxHeartbeats 4000000 in
theorem w_M_leadsOn_L6 {X : zX} {G : zG} (C : zC X G b_M_leadsOn "GateRoadsModel" 7 (some .boolean) 3 71) {σ : zM} {v1 : Int} {v2 : Int} {v3 : Int} (hσ : zRM σ) (r1 : zR v1) (r2 : zR v2) (r3 : zR v3) {Q : Int → Prop} : ∀ (n : Nat) (v4 : Int) (v5 : Int) (r4 : zR v4) (r5 : zR v5), wp_M_leadsOn_L6 σ v1 v2 v3 Q n v4 v5 → zJ X G (zQi X G (fun z u => σ = u ∧ Q z)) 7 6 [(0, .ref (gad G 79)), (1, .int (zI v1)), (2, .int (zI v2)), (3, .int (zI v3)), (4, .int (zI v4)), (5, .int (zI v5))] [] σ := by
  intro n
  induction n with
  | zero => intro v4 v5 r4 r5 h; exact False.elim h
  | succ n ih =>
    intro v4 v5 r4 r5 h
    rw [wp_M_leadsOn_L6] at h
    refine j_iload C d_M_leadsOn_6 5 rfl ?_
    refine j_aload_n C d_M_leadsOn_8 0 rfl rfl ?_
    refine j_getr (kf := 0) (m := 80) C d_M_leadsOn_9 sh_79 rfl i_M rfl rfl fl_M_7 ?_
    refine j_iconst C d_M_leadsOn_12 ?_
    refine j_iaload C d_M_leadsOn_13 sh_80 (zIx (i := 0) (n := 455) rfl) ?_
    refine j_icmp_ge (tgt := 93) C d_M_leadsOn_14 rfl r5 (hσ _ _) (fun c => ?_) (fun c => ?_)
    · have h := h.1 c
      refine j_iload C d_M_leadsOn_93 4 rfl ?_
      obtain ⟨g1, h⟩ := h
      exact j_zreturn C d_M_leadsOn_95 g1 hσ ⟨rfl, h⟩
    · have h := h.2 c
      refine j_iload_n C d_M_leadsOn_17 2 rfl rfl ?_
      refine j_aload_n C d_M_leadsOn_18 0 rfl rfl ?_
      refine j_iload C d_M_leadsOn_19 5 rfl ?_
      refine j_iconst C d_M_leadsOn_21 ?_
      refine j_callV C d_M_leadsOn_22 ml_M_67 mi_M_ofR (c_M_ofR (xl X) (gD G) (gad G) (gca G) (v1 := v5) (v2 := 2) hσ r5 (zR_of (x := 2) rfl) h) sh_79 rfl rfl rfl rfl rfl rfl rfl (fun z2 σ3 rz2 hσ3 h => ?_)
      obtain ⟨ez2, h⟩ := h; subst ez2
      refine j_iadd C d_M_leadsOn_25 ?_
      obtain ⟨g4, h⟩ := h
      refine j_istore (L' := [(6, .int (zI (v2 + z2))), (0, .ref (gad G 79)), (1, .int (zI v1)), (2, .int (zI v2)), (3, .int (zI v3)), (4, .int (zI v4)), (5, .int (zI v5))]) C d_M_leadsOn_26 rfl rfl ?_
      refine j_iload C d_M_leadsOn_28 5 rfl ?_
      refine j_if_ne (tgt := 80) C d_M_leadsOn_30 rfl r4 (fun c => ?_) (fun c => ?_)
      · have h := h.1 c
        refine j_sub (L' := [(0, .ref (gad G 79)), (1, .int (zI v1)), (2, .int (zI v2)), (3, .int (zI v3)), (5, .int (zI v5))]) [1, 2, 3, 4, 6] rfl ?_
        refine w_M_leadsOn_b80 C hσ r1 r2 r3 ih v5 r5 h
      · have h := h.2 c
        refine j_aload_n C d_M_leadsOn_33 1 rfl rfl ?_
        refine j_iload C d_M_leadsOn_34 6 rfl ?_
        refine j_iconst C d_M_leadsOn_36 ?_
        refine j_callV C d_M_leadsOn_37 ml_M_67 mi_M_ofR (c_M_ofR (xl X) (gD G) (gad G) (gca G) (v1 := v5) (v2 := 0) hσ r5 (zR_of (x := 0) rfl) h) sh_79 rfl rfl rfl rfl rfl rfl rfl (fun z6 σ7 rz6 hσ7 h => ?_)
        obtain ⟨ez6, h⟩ := h; subst ez6
        refine j_iload_n C d_M_leadsOn_40 2 rfl rfl ?_
        refine j_icmp_ne (tgt := 84) C d_M_leadsOn_41 rfl rz6 r1 (fun c => ?_) (fun c => ?_)
        · have h := h.1 c
          refine j_sub (L' := [(0, .ref (gad G 79)), (1, .int (zI v1)), (2, .int (zI v2)), (3, .int (zI v3)), (5, .int (zI v5))]) [1, 2, 3, 4, 6] rfl ?_
          refine w_M_leadsOn_b84 C hσ r1 r2 r3 ih v5 r5 h
        · have h := h.2 c
          refine j_iload C d_M_leadsOn_44 0 rfl ?_
          refine j_iload_n C d_M_leadsOn_46 4 rfl rfl ?_
          refine j_icmp_gt (tgt := 84) C d_M_leadsOn_47 rfl g4 r3 (fun c => ?_) (fun c => ?_)
          · have h := h.1 c
            refine j_sub (L' := [(0, .ref (gad G 79)), (1, .int (zI v1)), (2, .int (zI v2)), (3, .int (zI v3)), (5, .int (zI v5))]) [1, 2, 3, 4, 6] rfl ?_
            refine w_M_leadsOn_b84 C hσ r1 r2 r3 ih v5 r5 h
          · have h := h.2 c
            refine j_aload_n C d_M_leadsOn_50 1 rfl rfl ?_
            refine j_getr (kf := 11) (m := 88) C d_M_leadsOn_51 sh_79 rfl i_M rfl rfl fl_M_34 ?_
            refine j_iload C d_M_leadsOn_54 0 rfl ?_
            obtain ⟨g8, h⟩ := h
            refine j_iaload C d_M_leadsOn_56 sh_88 g8 ?_
            refine j_aload_n C d_M_leadsOn_57 1 rfl rfl ?_
            refine j_iload C d_M_leadsOn_58 6 rfl ?_
            refine j_iconst C d_M_leadsOn_60 ?_
            refine j_callV C d_M_leadsOn_61 ml_M_67 mi_M_ofR (c_M_ofR (xl X) (gD G) (gad G) (gca G) (v1 := v5) (v2 := 1) hσ r5 (zR_of (x := 1) rfl) h) sh_79 rfl rfl rfl rfl rfl rfl rfl (fun z9 σ10 rz9 hσ10 h => ?_)
            obtain ⟨ez9, h⟩ := h; subst ez9
            refine j_callS C d_M_leadsOn_64 ml_M_135 ms_M_has (c_M_has (xl X) (gD G) (gad G) (gca G) (v0 := σ 88 (v2 + z2)) (v1 := z9) hσ (hσ _ _) rz9 h) rfl rfl rfl rfl rfl (fun z11 σ12 rz11 hσ12 h => ?_)
            obtain ⟨ez11, h⟩ := h; subst ez11
            refine j_if_eq (tgt := 84) C d_M_leadsOn_67 rfl rz11 (fun c => ?_) (fun c => ?_)
            · have h := h.1 c
              refine j_sub (L' := [(0, .ref (gad G 79)), (1, .int (zI v1)), (2, .int (zI v2)), (3, .int (zI v3)), (5, .int (zI v5))]) [1, 2, 3, 4, 6] rfl ?_
              refine w_M_leadsOn_b84 C hσ r1 r2 r3 ih v5 r5 h
            · have h := h.2 c
              refine j_aload_n C d_M_leadsOn_70 1 rfl rfl ?_
              refine j_iload C d_M_leadsOn_71 6 rfl ?_
              refine j_iload_n C d_M_leadsOn_73 3 rfl rfl ?_
              refine j_callV C d_M_leadsOn_74 ml_M_95 mi_M_whyNot (c_M_whyNot (xl X) (gD G) (gad G) (gca G) (v1 := v5) (v2 := v2) hσ r5 r2 h) sh_79 rfl rfl rfl rfl rfl rfl rfl (fun z13 σ14 rz13 hσ14 h => ?_)
              obtain ⟨ez13, h⟩ := h; subst ez13
              refine j_if_ne (tgt := 84) C d_M_leadsOn_77 rfl rz13 (fun c => ?_) (fun c => ?_)
              · have h := h.1 c
                refine j_sub (L' := [(0, .ref (gad G 79)), (1, .int (zI v1)), (2, .int (zI v2)), (3, .int (zI v3)), (5, .int (zI v5))]) [1, 2, 3, 4, 6] rfl ?_
                refine w_M_leadsOn_b84 C hσ r1 r2 r3 ih v5 r5 h
              · have h := h.2 c
                refine j_sub (L' := [(0, .ref (gad G 79)), (1, .int (zI v1)), (2, .int (zI v2)), (3, .int (zI v3)), (5, .int (zI v5))]) [1, 2, 3, 4, 6] rfl ?_
                refine w_M_leadsOn_b80 C hσ r1 r2 r3 ih v5 r5 h
set_option maxRecDepth 100000 in
set_option maxHeartbeats 4000000 in
theorem c_M_leadsOn (l : Launch) (D : va_G) (ad : Nat → Nat) (ca : Nat → ClassId) {σ : zM} {v1 : Int} {v2 : Int} {v3 : Int} {Q : Int → Prop} (hσ : zRM σ) (r1 : zR v1) (r2 : zR v2) (r3 : zR v3) (h : wp_M_leadsOn σ v1 v2 v3 Q) : zCi l D ad ca y_M_leadsOn b_M_leadsOn 7 (some .boolean) (zrm 3 71) [.ref (ad 79), .int (zI v1), .int (zI v2), .int (zI v3)] σ (fun z u => σ = u ∧ Q z) := by
  refine zCi_of (by decide +kernel) (Nat.le_of_ble_eq_true rfl) ?_
  intro X G C hl hD had hca
  subst hl hD had hca
  have C : zC X G b_M_leadsOn "GateRoadsModel" 7 (some .boolean) 3 71 := C
  show zJ X G (zQi X G (fun z u => σ = u ∧ Q z)) 7 0 [(0, .ref (gad G 79)), (1, .int (zI v1)), (2, .int (zI v2)), (3, .int (zI v3))] [] σ
  unfold wp_M_leadsOn at h
  refine j_iconst C d_M_leadsOn_0 ?_
  refine j_istore (L' := [(4, .int (zI 0)), (0, .ref (gad G 79)), (1, .int (zI v1)), (2, .int (zI v2)), (3, .int (zI v3))]) C d_M_leadsOn_1 rfl rfl ?_
  refine j_iconst C d_M_leadsOn_3 ?_
  refine j_istore (L' := [(5, .int (zI 0)), (4, .int (zI 0)), (0, .ref (gad G 79)), (1, .int (zI v1)), (2, .int (zI v2)), (3, .int (zI v3))]) C d_M_leadsOn_4 rfl rfl ?_
  obtain ⟨n15, h⟩ := h
  refine j_sub (L' := [(0, .ref (gad G 79)), (1, .int (zI v1)), (2, .int (zI v2)), (3, .int (zI v3)), (4, .int (zI 0)), (5, .int (zI 0))]) [2, 3, 4, 5, 1, 0] rfl ?_
  refine w_M_leadsOn_L6 C hσ r1 r2 r3 n15 0 0 (zR_of (x := 0) rfl) (zR_of (x := 0) rfl) h
set_option maxRecDepth 100000 in
set_option maxHeartbeats 4000000 in
theorem w_M_goesBack_L2 {X : zX} {G : zG} (C : zC X G b_M_goesBack "GateRoadsModel" 6 (none) 4 97) {v1 : Int} {v2 : Int} (r1 : zR v1) (r2 : zR v2) {Q : zM → Prop} {k22 : zM → Prop} (hk22 : ∀ (σ : zM), zRM σ → k22 σ → zJ X G (zQv X G Q) 6 22 [(0, .ref (gad G 79)), (1, .int (zI v1)), (2, .int (zI v2))] [] σ) : ∀ (n : Nat) (σ : zM) (v3 : Int) (hσ : zRM σ) (r3 : zR v3), wp_M_goesBack_L2 v1 v2 k22 Q n σ v3 → zJ X G (zQv X G Q) 6 2 [(0, .ref (gad G 79)), (1, .int (zI v1)), (2, .int (zI v2)), (3, .int (zI v3))] [] σ := by
  intro n
  induction n with
  | zero => intro σ v3 hσ r3 h; exact False.elim h
  | succ n ih =>
    intro σ v3 hσ r3 h
    rw [wp_M_goesBack_L2] at h
    refine j_iload_n C d_M_goesBack_2 3 rfl rfl ?_
    refine j_sipush C d_M_goesBack_3 rfl ?_
    refine j_icmp_gt (tgt := 22) C d_M_goesBack_6 rfl r3 (zR_of (x := 2880) rfl) (fun c => ?_) (fun c => ?_)
    · have h := h.1 c
      refine j_sub (L' := [(0, .ref (gad G 79)), (1, .int (zI v1)), (2, .int (zI v2))]) [0, 1, 2] rfl ?_
      exact hk22 σ hσ h
    · have h := h.2 c
      refine j_aload_n C d_M_goesBack_9 0 rfl rfl ?_
      refine j_getr (kf := 11) (m := 88) C d_M_goesBack_10 sh_79 rfl i_M rfl rfl fl_M_34 ?_
      refine j_iload_n C d_M_goesBack_13 3 rfl rfl ?_
      refine j_iconst C d_M_goesBack_14 ?_
      obtain ⟨g1, h⟩ := h
      refine j_iastore C d_M_goesBack_15 sh_88 g1 ?_
      refine j_mem (fun σ2 eσ2 => ?_)
      have h := h σ2 eσ2
      have hσ2 : zRM σ2 := by rw [eσ2]; exact zU_rg hσ _ _ (zR_of (x := 0) rfl)
      obtain ⟨g3, h⟩ := h
      refine j_iinc (L' := [(3, .int (zI (v3 + 1))), (0, .ref (gad G 79)), (1, .int (zI v1)), (2, .int (zI v2))]) C d_M_goesBack_16 3 rfl rfl rfl ?_
      refine j_goto (tgt := 2) C d_M_goesBack_19 rfl ?_
      refine j_sub (L' := [(0, .ref (gad G 79)), (1, .int (zI v1)), (2, .int (zI v2)), (3, .int (zI (v3 + 1)))]) [1, 2, 3, 0] rfl ?_
      exact ih σ2 (v3 + 1) hσ2 g3 h
set_option maxRecDepth 100000 in
set_option maxHeartbeats 4000000 in
theorem w_M_goesBack_L24 {X : zX} {G : zG} (C : zC X G b_M_goesBack "GateRoadsModel" 6 (none) 4 97) {v1 : Int} {v2 : Int} (r1 : zR v1) (r2 : zR v2) {Q : zM → Prop} {k44 : zM → Prop} (hk44 : ∀ (σ : zM), zRM σ → k44 σ → zJ X G (zQv X G Q) 6 44 [(0, .ref (gad G 79)), (1, .int (zI v1)), (2, .int (zI v2))] [] σ) : ∀ (n : Nat) (σ : zM) (v3 : Int) (hσ : zRM σ) (r3 : zR v3), wp_M_goesBack_L24 v1 v2 k44 Q n σ v3 → zJ X G (zQv X G Q) 6 24 [(0, .ref (gad G 79)), (1, .int (zI v1)), (2, .int (zI v2)), (3, .int (zI v3))] [] σ := by
  intro n
  induction n with
  | zero => intro σ v3 hσ r3 h; exact False.elim h
  | succ n ih =>
    intro σ v3 hσ r3 h
    rw [wp_M_goesBack_L24] at h
    refine j_iload_n C d_M_goesBack_24 3 rfl rfl ?_
    refine j_bipush C d_M_goesBack_25 rfl ?_
    refine j_icmp_ge (tgt := 44) C d_M_goesBack_27 rfl r3 (zR_of (x := 8) rfl) (fun c => ?_) (fun c => ?_)
    · have h := h.1 c
      refine j_sub (L' := [(0, .ref (gad G 79)), (1, .int (zI v1)), (2, .int (zI v2))]) [0, 1, 2] rfl ?_
      exact hk44 σ hσ h
    · have h := h.2 c
      refine j_aload_n C d_M_goesBack_30 0 rfl rfl ?_
      refine j_getr (kf := 12) (m := 89) C d_M_goesBack_31 sh_79 rfl i_M rfl rfl fl_M_37 ?_
      refine j_iload_n C d_M_goesBack_34 3 rfl rfl ?_
      refine j_bipush C d_M_goesBack_35 rfl ?_
      obtain ⟨g5, h⟩ := h
      refine j_iastore C d_M_goesBack_37 sh_89 g5 ?_
      refine j_mem (fun σ6 eσ6 => ?_)
      have h := h σ6 eσ6
      have hσ6 : zRM σ6 := by rw [eσ6]; exact zU_rg hσ _ _ (zR_of (x := (-6)) rfl)
      obtain ⟨g7, h⟩ := h
      refine j_iinc (L' := [(3, .int (zI (v3 + 1))), (0, .ref (gad G 79)), (1, .int (zI v1)), (2, .int (zI v2))]) C d_M_goesBack_38 3 rfl rfl rfl ?_
      refine j_goto (tgt := 24) C d_M_goesBack_41 rfl ?_
      refine j_sub (L' := [(0, .ref (gad G 79)), (1, .int (zI v1)), (2, .int (zI v2)), (3, .int (zI (v3 + 1)))]) [1, 2, 3, 0] rfl ?_
      exact ih σ6 (v3 + 1) hσ6 g7 h
set_option maxRecDepth 100000 in
set_option maxHeartbeats 4000000 in
theorem w_M_goesBack_b164 {X : zX} {G : zG} (C : zC X G b_M_goesBack "GateRoadsModel" 6 (none) 4 97) {v1 : Int} {v2 : Int} {v3 : Int} (r1 : zR v1) (r2 : zR v2) (r3 : zR v3) {Q : zM → Prop} {k53 : zM → Int → Prop} (hk53 : ∀ (σ : zM) (v4 : Int), zRM σ → zR v4 → k53 σ v4 → zJ X G (zQv X G Q) 6 53 [(0, .ref (gad G 79)), (1, .int (zI v1)), (2, .int (zI v2)), (3, .int (zI v3)), (4, .int (zI v4))] [] σ) (σ : zM) (v4 : Int) (s1 : Int) (s2 : Int) (s3 : Int) (hσ : zRM σ) (r4 : zR v4) (rs1 : zR s1) (rs2 : zR s2) (rs3 : zR s3) (h : wp_M_goesBack_b164 v1 v2 v3 k53 Q σ v4 s1 s2 s3) : zJ X G (zQv X G Q) 6 164 [(0, .ref (gad G 79)), (1, .int (zI v1)), (2, .int (zI v2)), (3, .int (zI v3)), (4, .int (zI v4))] [.int (zI s3), .int (zI s2), .int (zI s1), .ref (gad G 88)] σ := by
  unfold wp_M_goesBack_b164 at h
  refine j_ior C d_M_goesBack_164 ?_
  obtain ⟨g14, h⟩ := h
  refine j_iastore C d_M_goesBack_165 sh_88 g14 ?_
  refine j_mem (fun σ15 eσ15 => ?_)
  have h := h σ15 eσ15
  have hσ15 : zRM σ15 := by rw [eσ15]; exact zU_rg hσ _ _ (zOr_rg _ _)
  obtain ⟨g16, h⟩ := h
  refine j_iinc (L' := [(4, .int (zI (v4 + 1))), (0, .ref (gad G 79)), (1, .int (zI v1)), (2, .int (zI v2)), (3, .int (zI v3))]) C d_M_goesBack_166 4 rfl rfl rfl ?_
  refine j_goto (tgt := 53) C d_M_goesBack_169 rfl ?_
  refine j_sub (L' := [(0, .ref (gad G 79)), (1, .int (zI v1)), (2, .int (zI v2)), (3, .int (zI v3)), (4, .int (zI (v4 + 1)))]) [1, 2, 3, 4, 0] rfl ?_
  exact hk53 σ15 (v4 + 1) hσ15 g16 h
set_option maxRecDepth 100000 in
set_option maxHeartbeats 4000000 in
theorem w_M_goesBack_b142 {X : zX} {G : zG} (C : zC X G b_M_goesBack "GateRoadsModel" 6 (none) 4 97) {v1 : Int} {v2 : Int} {v3 : Int} (r1 : zR v1) (r2 : zR v2) (r3 : zR v3) {Q : zM → Prop} {k53 : zM → Int → Prop} (hk53 : ∀ (σ : zM) (v4 : Int), zRM σ → zR v4 → k53 σ v4 → zJ X G (zQv X G Q) 6 53 [(0, .ref (gad G 79)), (1, .int (zI v1)), (2, .int (zI v2)), (3, .int (zI v3)), (4, .int (zI v4))] [] σ) (σ : zM) (v4 : Int) (s0 : Int) (hσ : zRM σ) (r4 : zR v4) (rs0 : zR s0) (h : wp_M_goesBack_b142 v1 v2 v3 k53 Q σ v4 s0) : zJ X G (zQv X G Q) 6 142 [(0, .ref (gad G 79)), (1, .int (zI v1)), (2, .int (zI v2)), (3, .int (zI v3)), (4, .int (zI v4))] [.int (zI s0)] σ := by
  unfold wp_M_goesBack_b142 at h
  refine j_istore (L' := [(5, .int (zI s0)), (0, .ref (gad G 79)), (1, .int (zI v1)), (2, .int (zI v2)), (3, .int (zI v3)), (4, .int (zI v4))]) C d_M_goesBack_142 rfl rfl ?_
  refine j_aload_n C d_M_goesBack_144 1 rfl rfl ?_
  refine j_getr (kf := 11) (m := 88) C d_M_goesBack_145 sh_79 rfl i_M rfl rfl fl_M_34 ?_
  refine j_iload_n C d_M_goesBack_148 4 rfl rfl ?_
  refine j_dup2 C d_M_goesBack_149 rfl rfl ?_
  obtain ⟨g13, h⟩ := h
  refine j_iaload C d_M_goesBack_150 sh_88 g13 ?_
  refine j_iload C d_M_goesBack_151 0 rfl ?_
  refine j_if_eq (tgt := 163) C d_M_goesBack_153 rfl rs0 (fun c => ?_) (fun c => ?_)
  · have h := h.1 c
    refine j_iconst C d_M_goesBack_163 ?_
    refine j_sub (L' := [(0, .ref (gad G 79)), (1, .int (zI v1)), (2, .int (zI v2)), (3, .int (zI v3)), (4, .int (zI v4))]) [1, 2, 3, 4, 5] rfl ?_
    refine w_M_goesBack_b164 C r1 r2 r3 hk53 σ v4 v3 (σ 88 v3) 0 hσ r4 r3 (hσ _ _) (zR_of (x := 0) rfl) h
  · have h := h.2 c
    refine j_iconst C d_M_goesBack_156 ?_
    refine j_iload C d_M_goesBack_157 5 rfl ?_
    refine j_ishl C d_M_goesBack_159 ?_
    refine j_goto (tgt := 164) C d_M_goesBack_160 rfl ?_
    refine j_sub (L' := [(0, .ref (gad G 79)), (1, .int (zI v1)), (2, .int (zI v2)), (3, .int (zI v3)), (4, .int (zI v4))]) [1, 2, 3, 4, 5] rfl ?_
    refine w_M_goesBack_b164 C r1 r2 r3 hk53 σ v4 v3 (σ 88 v3) (zShl 1 v4) hσ r4 r3 (hσ _ _) (zShl_rg _ _) h
set_option maxRecDepth 100000 in
set_option maxHeartbeats 4000000 in
theorem w_M_goesBack_b137 {X : zX} {G : zG} (C : zC X G b_M_goesBack "GateRoadsModel" 6 (none) 4 97) {v1 : Int} {v2 : Int} {v3 : Int} (r1 : zR v1) (r2 : zR v2) (r3 : zR v3) {Q : zM → Prop} {k53 : zM → Int → Prop} (hk53 : ∀ (σ : zM) (v4 : Int), zRM σ → zR v4 → k53 σ v4 → zJ X G (zQv X G Q) 6 53 [(0, .ref (gad G 79)), (1, .int (zI v1)), (2, .int (zI v2)), (3, .int (zI v3)), (4, .int (zI v4))] [] σ) (σ : zM) (v4 : Int) (hσ : zRM σ) (r4 : zR v4) (h : wp_M_goesBack_b137 v1 v2 v3 k53 Q σ v4) : zJ X G (zQv X G Q) 6 137 [(0, .ref (gad G 79)), (1, .int (zI v1)), (2, .int (zI v2)), (3, .int (zI v3)), (4, .int (zI v4))] [] σ := by
  unfold wp_M_goesBack_b137 at h
  refine j_iconst C d_M_goesBack_137 ?_
  refine j_goto (tgt := 142) C d_M_goesBack_138 rfl ?_
  refine w_M_goesBack_b142 C r1 r2 r3 hk53 σ v4 1 hσ r4 (zR_of (x := 1) rfl) h
set_option maxRecDepth 100000 in
set_option maxHeartbeats 4000000 in
theorem w_M_goesBack_b141 {X : zX} {G : zG} (C : zC X G b_M_goesBack "GateRoadsModel" 6 (none) 4 97) {v1 : Int} {v2 : Int} {v3 : Int} (r1 : zR v1) (r2 : zR v2) (r3 : zR v3) {Q : zM → Prop} {k53 : zM → Int → Prop} (hk53 : ∀ (σ : zM) (v4 : Int), zRM σ → zR v4 → k53 σ v4 → zJ X G (zQv X G Q) 6 53 [(0, .ref (gad G 79)), (1, .int (zI v1)), (2, .int (zI v2)), (3, .int (zI v3)), (4, .int (zI v4))] [] σ) (σ : zM) (v4 : Int) (hσ : zRM σ) (r4 : zR v4) (h : wp_M_goesBack_b141 v1 v2 v3 k53 Q σ v4) : zJ X G (zQv X G Q) 6 141 [(0, .ref (gad G 79)), (1, .int (zI v1)), (2, .int (zI v2)), (3, .int (zI v3)), (4, .int (zI v4))] [] σ := by
  unfold wp_M_goesBack_b141 at h
  refine j_iconst C d_M_goesBack_141 ?_
  refine w_M_goesBack_b142 C r1 r2 r3 hk53 σ v4 0 hσ r4 (zR_of (x := 0) rfl) h
set_option maxRecDepth 100000 in
set_option maxHeartbeats 4000000 in
theorem w_M_goesBack_b101 {X : zX} {G : zG} (C : zC X G b_M_goesBack "GateRoadsModel" 6 (none) 4 97) {v1 : Int} {v2 : Int} {v3 : Int} (r1 : zR v1) (r2 : zR v2) (r3 : zR v3) {Q : zM → Prop} {k53 : zM → Int → Prop} (hk53 : ∀ (σ : zM) (v4 : Int), zRM σ → zR v4 → k53 σ v4 → zJ X G (zQv X G Q) 6 53 [(0, .ref (gad G 79)), (1, .int (zI v1)), (2, .int (zI v2)), (3, .int (zI v3)), (4, .int (zI v4))] [] σ) (σ : zM) (v4 : Int) (hσ : zRM σ) (r4 : zR v4) (h : wp_M_goesBack_b101 v1 v2 v3 k53 Q σ v4) : zJ X G (zQv X G Q) 6 101 [(0, .ref (gad G 79)), (1, .int (zI v1)), (2, .int (zI v2)), (3, .int (zI v3)), (4, .int (zI v4))] [] σ := by
  unfold wp_M_goesBack_b101 at h
  refine j_iload C d_M_goesBack_101 4 rfl ?_
  refine j_iload_n C d_M_goesBack_103 1 rfl rfl ?_
  refine j_icmp_eq (tgt := 137) C d_M_goesBack_104 rfl r4 r1 (fun c => ?_) (fun c => ?_)
  · have h := h.1 c
    refine w_M_goesBack_b137 C r1 r2 r3 hk53 σ v4 hσ r4 h
  · have h := h.2 c
    refine j_aload_n C d_M_goesBack_107 0 rfl rfl ?_
    refine j_getr (kf := 12) (m := 89) C d_M_goesBack_108 sh_79 rfl i_M rfl rfl fl_M_37 ?_
    refine j_iload C d_M_goesBack_111 4 rfl ?_
    obtain ⟨g17, h⟩ := h
    refine j_iaload C d_M_goesBack_113 sh_89 g17 ?_
    refine j_bipush C d_M_goesBack_114 rfl ?_
    refine j_icmp_eq (tgt := 141) C d_M_goesBack_116 rfl (hσ _ _) (zR_of (x := (-6)) rfl) (fun c => ?_) (fun c => ?_)
    · have h := h.1 c
      refine w_M_goesBack_b141 C r1 r2 r3 hk53 σ v4 hσ r4 h
    · have h := h.2 c
      refine j_aload_n C d_M_goesBack_119 0 rfl rfl ?_
      refine j_getr (kf := 12) (m := 89) C d_M_goesBack_120 sh_79 rfl i_M rfl rfl fl_M_37 ?_
      refine j_iload C d_M_goesBack_123 4 rfl ?_
      obtain ⟨g18, h⟩ := h
      refine j_iaload C d_M_goesBack_125 sh_89 g18 ?_
      refine j_iload_n C d_M_goesBack_126 3 rfl rfl ?_
      refine j_isub C d_M_goesBack_127 ?_
      refine j_aload_n C d_M_goesBack_128 0 rfl rfl ?_
      refine j_iload C d_M_goesBack_129 4 rfl ?_
      refine j_callV C d_M_goesBack_131 ml_M_120 mi_M_limitOf (c_M_limitOf (xl X) (gD G) (gad G) (gca G) (v1 := v4) hσ r4 h) sh_79 rfl rfl rfl rfl rfl rfl rfl (fun z19 σ20 rz19 hσ20 h => ?_)
      obtain ⟨ez19, h⟩ := h; subst ez19
      obtain ⟨g21, h⟩ := h
      refine j_icmp_gt (tgt := 141) C d_M_goesBack_134 rfl g21 rz19 (fun c => ?_) (fun c => ?_)
      · have h := h.1 c
        refine w_M_goesBack_b141 C r1 r2 r3 hk53 σ v4 hσ r4 h
      · have h := h.2 c
        refine w_M_goesBack_b137 C r1 r2 r3 hk53 σ v4 hσ r4 h
set_option maxRecDepth 100000 in
set_option maxHeartbeats 4000000 in
theorem w_M_goesBack_L53 {X : zX} {G : zG} (C : zC X G b_M_goesBack "GateRoadsModel" 6 (none) 4 97) {v1 : Int} {v2 : Int} {v3 : Int} (r1 : zR v1) (r2 : zR v2) (r3 : zR v3) {Q : zM → Prop} {k172 : zM → Prop} (hk172 : ∀ (σ : zM), zRM σ → k172 σ → zJ X G (zQv X G Q) 6 172 [(0, .ref (gad G 79)), (1, .int (zI v1)), (2, .int (zI v2)), (3, .int (zI v3))] [] σ) : ∀ (n : Nat) (σ : zM) (v4 : Int) (hσ : zRM σ) (r4 : zR v4), wp_M_goesBack_L53 v1 v2 v3 k172 Q n σ v4 → zJ X G (zQv X G Q) 6 53 [(0, .ref (gad G 79)), (1, .int (zI v1)), (2, .int (zI v2)), (3, .int (zI v3)), (4, .int (zI v4))] [] σ := by
  intro n
  induction n with
  | zero => intro σ v4 hσ r4 h; exact False.elim h
  | succ n ih =>
    intro σ v4 hσ r4 h
    rw [wp_M_goesBack_L53] at h
    refine j_iload C d_M_goesBack_53 4 rfl ?_
    refine j_bipush C d_M_goesBack_55 rfl ?_
    refine j_icmp_ge (tgt := 172) C d_M_goesBack_57 rfl r4 (zR_of (x := 8) rfl) (fun c => ?_) (fun c => ?_)
    · have h := h.1 c
      refine j_sub (L' := [(0, .ref (gad G 79)), (1, .int (zI v1)), (2, .int (zI v2)), (3, .int (zI v3))]) [0, 1, 2, 3] rfl ?_
      exact hk172 σ hσ h
    · have h := h.2 c
      refine j_aload_n C d_M_goesBack_60 0 rfl rfl ?_
      refine j_iload C d_M_goesBack_61 4 rfl ?_
      refine j_iload_n C d_M_goesBack_63 3 rfl rfl ?_
      refine j_iload_n C d_M_goesBack_64 2 rfl rfl ?_
      refine j_callV C d_M_goesBack_65 ml_M_148 mi_M_leadsOn (c_M_leadsOn (xl X) (gD G) (gad G) (gca G) (v1 := v4) (v2 := v3) (v3 := v2) hσ r4 r3 r2 h) sh_79 rfl rfl rfl rfl rfl rfl rfl (fun z9 σ10 rz9 hσ10 h => ?_)
      obtain ⟨ez9, h⟩ := h; subst ez9
      refine j_if_eq (tgt := 82) C d_M_goesBack_68 rfl rz9 (fun c => ?_) (fun c => ?_)
      · have h := h.1 c
        refine j_aload_n C d_M_goesBack_82 0 rfl rfl ?_
        refine j_iload C d_M_goesBack_83 4 rfl ?_
        refine j_iload_n C d_M_goesBack_85 3 rfl rfl ?_
        refine j_callV C d_M_goesBack_86 ml_M_117 mi_M_isRoomOpen (c_M_isRoomOpen (xl X) (gD G) (gad G) (gca G) (v1 := v4) (v2 := v3) hσ r4 r3 h) sh_79 rfl rfl rfl rfl rfl rfl rfl (fun z11 σ12 rz11 hσ12 h => ?_)
        obtain ⟨ez11, h⟩ := h; subst ez11
        refine j_if_ne (tgt := 101) C d_M_goesBack_89 rfl rz11 (fun c => ?_) (fun c => ?_)
        · have h := h.1 c
          refine w_M_goesBack_b101 C r1 r2 r3 ih σ v4 hσ r4 h
        · have h := h.2 c
          refine j_aload_n C d_M_goesBack_92 0 rfl rfl ?_
          refine j_getr (kf := 12) (m := 89) C d_M_goesBack_93 sh_79 rfl i_M rfl rfl fl_M_37 ?_
          refine j_iload C d_M_goesBack_96 4 rfl ?_
          refine j_bipush C d_M_goesBack_98 rfl ?_
          obtain ⟨g22, h⟩ := h
          refine j_iastore C d_M_goesBack_100 sh_89 g22 ?_
          refine j_mem (fun σ23 eσ23 => ?_)
          have h := h σ23 eσ23
          have hσ23 : zRM σ23 := by rw [eσ23]; exact zU_rg hσ _ _ (zR_of (x := (-6)) rfl)
          refine w_M_goesBack_b101 C r1 r2 r3 ih σ23 v4 hσ23 r4 h
      · have h := h.2 c
        refine j_aload_n C d_M_goesBack_71 0 rfl rfl ?_
        refine j_getr (kf := 12) (m := 89) C d_M_goesBack_72 sh_79 rfl i_M rfl rfl fl_M_37 ?_
        refine j_iload C d_M_goesBack_75 4 rfl ?_
        refine j_iload_n C d_M_goesBack_77 3 rfl rfl ?_
        obtain ⟨g24, h⟩ := h
        refine j_iastore C d_M_goesBack_78 sh_89 g24 ?_
        refine j_mem (fun σ25 eσ25 => ?_)
        have h := h σ25 eσ25
        have hσ25 : zRM σ25 := by rw [eσ25]; exact zU_rg hσ _ _ r3
        refine j_goto (tgt := 101) C d_M_goesBack_79 rfl ?_
        refine w_M_goesBack_b101 C r1 r2 r3 ih σ25 v4 hσ25 r4 h
set_option maxRecDepth 100000 in
set_option maxHeartbeats 4000000 in
theorem w_M_goesBack_L46 {X : zX} {G : zG} (C : zC X G b_M_goesBack "GateRoadsModel" 6 (none) 4 97) {v1 : Int} {v2 : Int} (r1 : zR v1) (r2 : zR v2) {Q : zM → Prop} : ∀ (n : Nat) (σ : zM) (v3 : Int) (hσ : zRM σ) (r3 : zR v3), wp_M_goesBack_L46 v1 v2 Q n σ v3 → zJ X G (zQv X G Q) 6 46 [(0, .ref (gad G 79)), (1, .int (zI v1)), (2, .int (zI v2)), (3, .int (zI v3))] [] σ := by
  intro n
  induction n with
  | zero => intro σ v3 hσ r3 h; exact False.elim h
  | succ n ih =>
    intro σ v3 hσ r3 h
    rw [wp_M_goesBack_L46] at h
    refine j_iload_n C d_M_goesBack_46 3 rfl rfl ?_
    refine j_if_lt (tgt := 178) C d_M_goesBack_47 rfl r3 (fun c => ?_) (fun c => ?_)
    · have h := h.1 c
      exact j_vreturn C d_M_goesBack_178 hσ h
    · have h := h.2 c
      refine j_iconst C d_M_goesBack_50 ?_
      refine j_istore (L' := [(4, .int (zI 0)), (0, .ref (gad G 79)), (1, .int (zI v1)), (2, .int (zI v2)), (3, .int (zI v3))]) C d_M_goesBack_51 rfl rfl ?_
      obtain ⟨n28, h⟩ := h
      refine j_sub (L' := [(0, .ref (gad G 79)), (1, .int (zI v1)), (2, .int (zI v2)), (3, .int (zI v3)), (4, .int (zI 0))]) [1, 2, 3, 4, 0] rfl ?_
      refine w_M_goesBack_L53 C r1 r2 r3 ?_ n28 σ 0 hσ (zR_of (x := 0) rfl) h
      · intro σ26 hσ26 h
        obtain ⟨g27, h⟩ := h
        refine j_iinc (L' := [(3, .int (zI (v3 + (-1)))), (0, .ref (gad G 79)), (1, .int (zI v1)), (2, .int (zI v2))]) C d_M_goesBack_172 3 rfl rfl rfl ?_
        refine j_goto (tgt := 46) C d_M_goesBack_175 rfl ?_
        refine j_sub (L' := [(0, .ref (gad G 79)), (1, .int (zI v1)), (2, .int (zI v2)), (3, .int (zI (v3 + (-1))))]) [1, 2, 3, 0] rfl ?_
        exact ih σ26 (v3 + (-1)) hσ26 g27 h
set_option maxRecDepth 100000 in
set_option maxHeartbeats 4000000 in
theorem c_M_goesBack (l : Launch) (D : va_G) (ad : Nat → Nat) (ca : Nat → ClassId) {σ : zM} {v1 : Int} {v2 : Int} {Q : zM → Prop} (hσ : zRM σ) (r1 : zR v1) (r2 : zR v2) (h : wp_M_goesBack σ v1 v2 Q) : zCv l D ad ca y_M_goesBack b_M_goesBack 6 (zrm 4 97) [.ref (ad 79), .int (zI v1), .int (zI v2)] σ Q := by
  refine zCv_of (by decide +kernel) (Nat.le_of_ble_eq_true rfl) ?_
  intro X G C hl hD had hca
  subst hl hD had hca
  have C : zC X G b_M_goesBack "GateRoadsModel" 6 (none) 4 97 := C
  show zJ X G (zQv X G Q) 6 0 [(0, .ref (gad G 79)), (1, .int (zI v1)), (2, .int (zI v2))] [] σ
  unfold wp_M_goesBack at h
  refine j_iconst C d_M_goesBack_0 ?_
  refine j_istore_n (L' := [(3, .int (zI 0)), (0, .ref (gad G 79)), (1, .int (zI v1)), (2, .int (zI v2))]) C d_M_goesBack_1 rfl rfl rfl ?_
  obtain ⟨n31, h⟩ := h
  refine j_sub (L' := [(0, .ref (gad G 79)), (1, .int (zI v1)), (2, .int (zI v2)), (3, .int (zI 0))]) [1, 2, 3, 0] rfl ?_
  refine w_M_goesBack_L2 C r1 r2 ?_ n31 σ 0 hσ (zR_of (x := 0) rfl) h
  · intro σ4 hσ4 h
    refine j_iconst C d_M_goesBack_22 ?_
    refine j_istore_n (L' := [(3, .int (zI 0)), (0, .ref (gad G 79)), (1, .int (zI v1)), (2, .int (zI v2))]) C d_M_goesBack_23 rfl rfl rfl ?_
    obtain ⟨n30, h⟩ := h
    refine j_sub (L' := [(0, .ref (gad G 79)), (1, .int (zI v1)), (2, .int (zI v2)), (3, .int (zI 0))]) [1, 2, 3, 0] rfl ?_
    refine w_M_goesBack_L24 C r1 r2 ?_ n30 σ4 0 hσ4 (zR_of (x := 0) rfl) h
    · intro σ8 hσ8 h
      refine j_iload_n C d_M_goesBack_44 2 rfl rfl ?_
      refine j_istore_n (L' := [(3, .int (zI v2)), (0, .ref (gad G 79)), (1, .int (zI v1)), (2, .int (zI v2))]) C d_M_goesBack_45 rfl rfl rfl ?_
      obtain ⟨n29, h⟩ := h
      refine j_sub (L' := [(0, .ref (gad G 79)), (1, .int (zI v1)), (2, .int (zI v2)), (3, .int (zI v2))]) [1, 2, 3, 0] rfl ?_
      refine w_M_goesBack_L46 C r1 r2 n29 σ8 v2 hσ8 r2 h
set_option maxRecDepth 100000 in
set_option maxHeartbeats 4000000 in
theorem w_M_latest_L35 {X : zX} {G : zG} (C : zC X G b_M_latest "GateRoadsModel" 5 (some .int) 5 122) {σ : zM} {v1 : Int} (hσ : zRM σ) (r1 : zR v1) {Q : Int → zM → Prop} : ∀ (n : Nat) (v4 : Int) (r4 : zR v4), wp_M_latest_L35 σ v1 Q n v4 → zJ X G (zQi X G Q) 5 35 [(0, .ref (gad G 79)), (1, .int (zI v1)), (4, .int (zI v4))] [] σ := by
  intro n
  induction n with
  | zero => intro v4 r4 h; exact False.elim h
  | succ n ih =>
    intro v4 r4 h
    rw [wp_M_latest_L35] at h
    refine j_iload C d_M_latest_35 2 rfl ?_
    refine j_if_lt (tgt := 63) C d_M_latest_37 rfl r4 (fun c => ?_) (fun c => ?_)
    · have h := h.1 c
      refine j_bipush C d_M_latest_63 rfl ?_
      exact j_ireturn C d_M_latest_65 (zR_of (x := (-6)) rfl) hσ h
    · have h := h.2 c
      refine j_aload_n C d_M_latest_40 0 rfl rfl ?_
      refine j_getr (kf := 11) (m := 88) C d_M_latest_41 sh_79 rfl i_M rfl rfl fl_M_34 ?_
      refine j_iload C d_M_latest_44 2 rfl ?_
      obtain ⟨g9, h⟩ := h
      refine j_iaload C d_M_latest_46 sh_88 g9 ?_
      refine j_iload_n C d_M_latest_47 1 rfl rfl ?_
      refine j_callS C d_M_latest_48 ml_M_135 ms_M_has (c_M_has (xl X) (gD G) (gad G) (gca G) (v0 := σ 88 v4) (v1 := v1) hσ (hσ _ _) r1 h) rfl rfl rfl rfl rfl (fun z10 σ11 rz10 hσ11 h => ?_)
      obtain ⟨ez10, h⟩ := h; subst ez10
      refine j_if_eq (tgt := 57) C d_M_latest_51 rfl rz10 (fun c => ?_) (fun c => ?_)
      · have h := h.1 c
        obtain ⟨g12, h⟩ := h
        refine j_iinc (L' := [(4, .int (zI (v4 + (-1)))), (0, .ref (gad G 79)), (1, .int (zI v1))]) C d_M_latest_57 2 rfl rfl rfl ?_
        refine j_goto (tgt := 35) C d_M_latest_60 rfl ?_
        refine j_sub (L' := [(0, .ref (gad G 79)), (1, .int (zI v1)), (4, .int (zI (v4 + (-1))))]) [1, 2, 0] rfl ?_
        exact ih (v4 + (-1)) g12 h
      · have h := h.2 c
        refine j_iload C d_M_latest_54 2 rfl ?_
        exact j_ireturn C d_M_latest_56 r4 hσ h
set_option maxRecDepth 100000 in
set_option maxHeartbeats 4000000 in
theorem c_M_latest (l : Launch) (D : va_G) (ad : Nat → Nat) (ca : Nat → ClassId) {σ : zM} {v1 : Int} {v2 : Int} {v3 : Int} {Q : Int → zM → Prop} (hσ : zRM σ) (r1 : zR v1) (r2 : zR v2) (r3 : zR v3) (h : wp_M_latest σ v1 v2 v3 Q) : zCi l D ad ca y_M_latest b_M_latest 5 (some .int) (zrm 5 122) [.ref (ad 79), .int (zI v1), .int (zI v2), .int (zI v3)] σ Q := by
  refine zCi_of (by decide +kernel) (Nat.le_of_ble_eq_true rfl) ?_
  intro X G C hl hD had hca
  subst hl hD had hca
  have C : zC X G b_M_latest "GateRoadsModel" 5 (some .int) 5 122 := C
  show zJ X G (zQi X G Q) 5 0 [(0, .ref (gad G 79)), (1, .int (zI v1)), (2, .int (zI v2)), (3, .int (zI v3))] [] σ
  unfold wp_M_latest at h
  refine j_iload_n C d_M_latest_0 1 rfl rfl ?_
  refine j_callS C d_M_latest_1 ml_M_57 ms_M_isPlace (c_M_isPlace (xl X) (gD G) (gad G) (gca G) (v0 := v1) hσ r1 h) rfl rfl rfl rfl rfl (fun z1 σ2 rz1 hσ2 h => ?_)
  obtain ⟨ez1, h⟩ := h; subst ez1
  refine j_if_eq (tgt := 14) C d_M_latest_4 rfl rz1 (fun c => ?_) (fun c => ?_)
  · have h := h.1 c
    refine j_iconst C d_M_latest_14 ?_
    exact j_ireturn C d_M_latest_15 (zR_of (x := (-1)) rfl) hσ h
  · have h := h.2 c
    refine j_iload_n C d_M_latest_7 2 rfl rfl ?_
    refine j_callS C d_M_latest_8 ml_M_57 ms_M_isPlace (c_M_isPlace (xl X) (gD G) (gad G) (gca G) (v0 := v2) hσ r2 h) rfl rfl rfl rfl rfl (fun z3 σ4 rz3 hσ4 h => ?_)
    obtain ⟨ez3, h⟩ := h; subst ez3
    refine j_if_ne (tgt := 16) C d_M_latest_11 rfl rz3 (fun c => ?_) (fun c => ?_)
    · have h := h.1 c
      refine j_iload_n C d_M_latest_16 3 rfl rfl ?_
      refine j_callS C d_M_latest_17 ml_M_92 ms_M_isTime (c_M_isTime (xl X) (gD G) (gad G) (gca G) (v0 := v3) hσ r3 h) rfl rfl rfl rfl rfl (fun z5 σ6 rz5 hσ6 h => ?_)
      obtain ⟨ez5, h⟩ := h; subst ez5
      refine j_if_ne (tgt := 26) C d_M_latest_20 rfl rz5 (fun c => ?_) (fun c => ?_)
      · have h := h.1 c
        refine j_aload_n C d_M_latest_26 0 rfl rfl ?_
        refine j_iload_n C d_M_latest_27 2 rfl rfl ?_
        refine j_iload_n C d_M_latest_28 3 rfl rfl ?_
        refine j_callVv C d_M_latest_29 ml_M_151 mi_M_goesBack (c_M_goesBack (xl X) (gD G) (gad G) (gca G) (v1 := v2) (v2 := v3) hσ r2 r3 h) sh_79 rfl rfl rfl rfl rfl rfl rfl (fun σ8 hσ8 h => ?_)
        refine j_iload_n C d_M_latest_32 3 rfl rfl ?_
        refine j_istore (L' := [(4, .int (zI v3)), (0, .ref (gad G 79)), (1, .int (zI v1)), (2, .int (zI v2)), (3, .int (zI v3))]) C d_M_latest_33 rfl rfl ?_
        obtain ⟨n13, h⟩ := h
        refine j_sub (L' := [(0, .ref (gad G 79)), (1, .int (zI v1)), (4, .int (zI v3))]) [1, 2, 0] rfl ?_
        refine w_M_latest_L35 C hσ8 r1 n13 v3 r3 h
      · have h := h.2 c
        refine j_bipush C d_M_latest_23 rfl ?_
        exact j_ireturn C d_M_latest_25 (zR_of (x := (-2)) rfl) hσ h
    · have h := h.2 c
      refine j_iconst C d_M_latest_14 ?_
      exact j_ireturn C d_M_latest_15 (zR_of (x := (-1)) rfl) hσ h
set_option maxRecDepth 100000 in
set_option maxHeartbeats 4000000 in
theorem w_M_fewestAt_b72 {X : zX} {G : zG} (C : zC X G b_M_fewestAt "GateRoadsModel" 7 (some .int) 1 23) {σ : zM} {v1 : Int} {v2 : Int} {v3 : Int} (hσ : zRM σ) (r1 : zR v1) (r2 : zR v2) (r3 : zR v3) {Q : Int → Prop} {k7 : Int → Int → Prop} (hk7 : ∀ (v4 : Int) (v5 : Int), zR v4 → zR v5 → k7 v4 v5 → zJ X G (zQi X G (fun z u => σ = u ∧ Q z)) 7 7 [(0, .ref (gad G 79)), (1, .int (zI v1)), (2, .int (zI v2)), (3, .int (zI v3)), (4, .int (zI v4)), (5, .int (zI v5))] [] σ) (v5 : Int) (s0 : Int) (r5 : zR v5) (rs0 : zR s0) (h : wp_M_fewestAt_b72 σ v1 v2 v3 k7 Q v5 s0) : zJ X G (zQi X G (fun z u => σ = u ∧ Q z)) 7 72 [(0, .ref (gad G 79)), (1, .int (zI v1)), (2, .int (zI v2)), (3, .int (zI v3)), (5, .int (zI v5))] [.int (zI s0)] σ := by
  unfold wp_M_fewestAt_b72 at h
  refine j_istore (L' := [(4, .int (zI s0)), (0, .ref (gad G 79)), (1, .int (zI v1)), (2, .int (zI v2)), (3, .int (zI v3)), (5, .int (zI v5))]) C d_M_fewestAt_72 rfl rfl ?_
  obtain ⟨g5, h⟩ := h
  refine j_iinc (L' := [(5, .int (zI (v5 + (-1)))), (4, .int (zI s0)), (0, .ref (gad G 79)), (1, .int (zI v1)), (2, .int (zI v2)), (3, .int (zI v3))]) C d_M_fewestAt_74 5 rfl rfl rfl ?_
  refine j_goto (tgt := 7) C d_M_fewestAt_77 rfl ?_
  refine j_sub (L' := [(0, .ref (gad G 79)), (1, .int (zI v1)), (2, .int (zI v2)), (3, .int (zI v3)), (4, .int (zI s0)), (5, .int (zI (v5 + (-1))))]) [2, 3, 4, 5, 1, 0] rfl ?_
  exact hk7 s0 (v5 + (-1)) rs0 g5 h
set_option maxRecDepth 100000 in
set_option maxHeartbeats 4000000 in
theorem w_M_fewestAt_b44 {X : zX} {G : zG} (C : zC X G b_M_fewestAt "GateRoadsModel" 7 (some .int) 1 23) {σ : zM} {v1 : Int} {v2 : Int} {v3 : Int} (hσ : zRM σ) (r1 : zR v1) (r2 : zR v2) (r3 : zR v3) {Q : Int → Prop} {k7 : Int → Int → Prop} (hk7 : ∀ (v4 : Int) (v5 : Int), zR v4 → zR v5 → k7 v4 v5 → zJ X G (zQi X G (fun z u => σ = u ∧ Q z)) 7 7 [(0, .ref (gad G 79)), (1, .int (zI v1)), (2, .int (zI v2)), (3, .int (zI v3)), (4, .int (zI v4)), (5, .int (zI v5))] [] σ) (v4 : Int) (v5 : Int) (r4 : zR v4) (r5 : zR v5) (h : wp_M_fewestAt_b44 σ v1 v2 v3 k7 Q v4 v5) : zJ X G (zQi X G (fun z u => σ = u ∧ Q z)) 7 44 [(0, .ref (gad G 79)), (1, .int (zI v1)), (2, .int (zI v2)), (3, .int (zI v3)), (4, .int (zI v4)), (5, .int (zI v5))] [] σ := by
  unfold wp_M_fewestAt_b44 at h
  refine j_aload_n C d_M_fewestAt_44 0 rfl rfl ?_
  refine j_getr (kf := 13) (m := 90) C d_M_fewestAt_45 sh_79 rfl i_M rfl rfl fl_M_40 ?_
  refine j_bipush C d_M_fewestAt_48 rfl ?_
  refine j_iload C d_M_fewestAt_50 5 rfl ?_
  refine j_imul C d_M_fewestAt_52 ?_
  refine j_iload_n C d_M_fewestAt_53 1 rfl rfl ?_
  refine j_iadd C d_M_fewestAt_54 ?_
  obtain ⟨g4, h⟩ := h
  refine j_iaload C d_M_fewestAt_55 sh_90 g4 ?_
  refine j_istore (L' := [(6, .int (zI (σ 90 ((8 * v5) + v1)))), (0, .ref (gad G 79)), (1, .int (zI v1)), (2, .int (zI v2)), (3, .int (zI v3)), (4, .int (zI v4)), (5, .int (zI v5))]) C d_M_fewestAt_56 rfl rfl ?_
  refine j_iload C d_M_fewestAt_58 0 rfl ?_
  refine j_iload C d_M_fewestAt_60 5 rfl ?_
  refine j_icmp_ge (tgt := 70) C d_M_fewestAt_62 rfl (hσ _ _) r4 (fun c => ?_) (fun c => ?_)
  · have h := h.1 c
    refine j_iload C d_M_fewestAt_70 5 rfl ?_
    refine j_sub (L' := [(0, .ref (gad G 79)), (1, .int (zI v1)), (2, .int (zI v2)), (3, .int (zI v3)), (5, .int (zI v5))]) [1, 2, 3, 4, 6] rfl ?_
    refine w_M_fewestAt_b72 C hσ r1 r2 r3 hk7 v5 v4 r5 r4 h
  · have h := h.2 c
    refine j_iload C d_M_fewestAt_65 0 rfl ?_
    refine j_goto (tgt := 72) C d_M_fewestAt_67 rfl ?_
    refine j_sub (L' := [(0, .ref (gad G 79)), (1, .int (zI v1)), (2, .int (zI v2)), (3, .int (zI v3)), (5, .int (zI v5))]) [1, 2, 3, 4, 6] rfl ?_
    refine w_M_fewestAt_b72 C hσ r1 r2 r3 hk7 v5 (σ 90 ((8 * v5) + v1)) r5 (hσ _ _) h
set_option maxRecDepth 100000 in
set_option maxHeartbeats 4000000 in
theorem w_M_fewestAt_L7 {X : zX} {G : zG} (C : zC X G b_M_fewestAt "GateRoadsModel" 7 (some .int) 1 23) {σ : zM} {v1 : Int} {v2 : Int} {v3 : Int} (hσ : zRM σ) (r1 : zR v1) (r2 : zR v2) (r3 : zR v3) {Q : Int → Prop} : ∀ (n : Nat) (v4 : Int) (v5 : Int) (r4 : zR v4) (r5 : zR v5), wp_M_fewestAt_L7 σ v1 v2 v3 Q n v4 v5 → zJ X G (zQi X G (fun z u => σ = u ∧ Q z)) 7 7 [(0, .ref (gad G 79)), (1, .int (zI v1)), (2, .int (zI v2)), (3, .int (zI v3)), (4, .int (zI v4)), (5, .int (zI v5))] [] σ := by
  intro n
  induction n with
  | zero => intro v4 v5 r4 r5 h; exact False.elim h
  | succ n ih =>
    intro v4 v5 r4 r5 h
    rw [wp_M_fewestAt_L7] at h
    refine j_iload C d_M_fewestAt_7 5 rfl ?_
    refine j_iload_n C d_M_fewestAt_9 3 rfl rfl ?_
    refine j_icmp_lt (tgt := 80) C d_M_fewestAt_10 rfl r5 r3 (fun c => ?_) (fun c => ?_)
    · have h := h.1 c
      refine j_iload C d_M_fewestAt_80 4 rfl ?_
      exact j_ireturn C d_M_fewestAt_82 r4 hσ ⟨rfl, h⟩
    · have h := h.2 c
      refine j_iload_n C d_M_fewestAt_13 2 rfl rfl ?_
      refine j_iload C d_M_fewestAt_14 5 rfl ?_
      refine j_isub C d_M_fewestAt_16 ?_
      refine j_aload_n C d_M_fewestAt_17 0 rfl rfl ?_
      refine j_iload_n C d_M_fewestAt_18 1 rfl rfl ?_
      refine j_callV C d_M_fewestAt_19 ml_M_120 mi_M_limitOf (c_M_limitOf (xl X) (gD G) (gad G) (gca G) (v1 := v1) hσ r1 h) sh_79 rfl rfl rfl rfl rfl rfl rfl (fun z1 σ2 rz1 hσ2 h => ?_)
      obtain ⟨ez1, h⟩ := h; subst ez1
      obtain ⟨g3, h⟩ := h
      refine j_icmp_gt (tgt := 80) C d_M_fewestAt_22 rfl g3 rz1 (fun c => ?_) (fun c => ?_)
      · have h := h.1 c
        refine j_iload C d_M_fewestAt_80 4 rfl ?_
        exact j_ireturn C d_M_fewestAt_82 r4 hσ ⟨rfl, h⟩
      · have h := h.2 c
        refine j_iload C d_M_fewestAt_25 5 rfl ?_
        refine j_iload_n C d_M_fewestAt_27 2 rfl rfl ?_
        refine j_icmp_ge (tgt := 44) C d_M_fewestAt_28 rfl r5 r2 (fun c => ?_) (fun c => ?_)
        · have h := h.1 c
          refine w_M_fewestAt_b44 C hσ r1 r2 r3 ih v4 v5 r4 r5 h
        · have h := h.2 c
          refine j_aload_n C d_M_fewestAt_31 0 rfl rfl ?_
          refine j_iload_n C d_M_fewestAt_32 1 rfl rfl ?_
          refine j_iload C d_M_fewestAt_33 5 rfl ?_
          refine j_callV C d_M_fewestAt_35 ml_M_117 mi_M_isRoomOpen (c_M_isRoomOpen (xl X) (gD G) (gad G) (gca G) (v1 := v1) (v2 := v5) hσ r1 r5 h) sh_79 rfl rfl rfl rfl rfl rfl rfl (fun z6 σ7 rz6 hσ7 h => ?_)
          obtain ⟨ez6, h⟩ := h; subst ez6
          refine j_if_ne (tgt := 44) C d_M_fewestAt_38 rfl rz6 (fun c => ?_) (fun c => ?_)
          · have h := h.1 c
            refine w_M_fewestAt_b44 C hσ r1 r2 r3 ih v4 v5 r4 r5 h
          · have h := h.2 c
            refine j_iload C d_M_fewestAt_41 4 rfl ?_
            exact j_ireturn C d_M_fewestAt_43 r4 hσ ⟨rfl, h⟩
set_option maxRecDepth 100000 in
set_option maxHeartbeats 4000000 in
theorem c_M_fewestAt (l : Launch) (D : va_G) (ad : Nat → Nat) (ca : Nat → ClassId) {σ : zM} {v1 : Int} {v2 : Int} {v3 : Int} {Q : Int → Prop} (hσ : zRM σ) (r1 : zR v1) (r2 : zR v2) (r3 : zR v3) (h : wp_M_fewestAt σ v1 v2 v3 Q) : zCi l D ad ca y_M_fewestAt b_M_fewestAt 7 (some .int) (zrm 1 23) [.ref (ad 79), .int (zI v1), .int (zI v2), .int (zI v3)] σ (fun z u => σ = u ∧ Q z) := by
  refine zCi_of (by decide +kernel) (Nat.le_of_ble_eq_true rfl) ?_
  intro X G C hl hD had hca
  subst hl hD had hca
  have C : zC X G b_M_fewestAt "GateRoadsModel" 7 (some .int) 1 23 := C
  show zJ X G (zQi X G (fun z u => σ = u ∧ Q z)) 7 0 [(0, .ref (gad G 79)), (1, .int (zI v1)), (2, .int (zI v2)), (3, .int (zI v3))] [] σ
  unfold wp_M_fewestAt at h
  refine j_ldc (n := 69120) C ck_M_155 rfl d_M_fewestAt_0 ?_
  refine j_istore (L' := [(4, .int (zI 69120)), (0, .ref (gad G 79)), (1, .int (zI v1)), (2, .int (zI v2)), (3, .int (zI v3))]) C d_M_fewestAt_2 rfl rfl ?_
  refine j_iload_n C d_M_fewestAt_4 3 rfl rfl ?_
  refine j_istore (L' := [(5, .int (zI v2)), (4, .int (zI 69120)), (0, .ref (gad G 79)), (1, .int (zI v1)), (2, .int (zI v2)), (3, .int (zI v3))]) C d_M_fewestAt_5 rfl rfl ?_
  obtain ⟨n8, h⟩ := h
  refine j_sub (L' := [(0, .ref (gad G 79)), (1, .int (zI v1)), (2, .int (zI v2)), (3, .int (zI v3)), (4, .int (zI 69120)), (5, .int (zI v2))]) [2, 3, 4, 5, 1, 0] rfl ?_
  refine w_M_fewestAt_L7 C hσ r1 r2 r3 n8 69120 v2 (zR_of (x := 69120) rfl) r2 h
