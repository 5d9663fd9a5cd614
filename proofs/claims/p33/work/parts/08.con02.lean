set_option maxRecDepth 100000 in
set_option maxHeartbeats 4000000 in
theorem c_X_go (l : Launch) (D : va_G) (ad : Nat → Nat) (ca : Nat → ClassId) {σ : zM} {v1 : Int} {v2 : Int} {Q : Int → zM → Prop} (hσ : zRM σ) (r1 : zR v1) (r2 : zR v2) (h : wp_X_go σ v1 v2 Q) : zCi l D ad ca y_X_go b_X_go 4 (some .int) (zrm 4 93) [.ref (ad 54), .int (zI v1), .int (zI v2)] σ Q := by
  refine zCi_of (by decide +kernel) (Nat.le_of_ble_eq_true rfl) ?_
  intro X G C hl hD had hca
  subst hl hD had hca
  have C : zC X G b_X_go "GateRoads" 4 (some .int) 4 93 := C
  show zJ X G (zQi X G Q) 4 0 [(0, .ref (gad G 54)), (1, .int (zI v1)), (2, .int (zI v2))] [] σ
  unfold wp_X_go at h
  refine j_aload_n C d_X_go_0 0 rfl rfl ?_
  refine j_getr (kf := 0) (m := 0) C d_X_go_1 sh_54 rfl i_X rfl rfl fl_X_12 ?_
  refine j_iload_n C d_X_go_4 1 rfl rfl ?_
  refine j_callV C d_X_go_5 ml_X_128 mi_S_hasTraveller (c_S_hasTraveller (xl X) (gD G) (gad G) (gca G) (v1 := v1) hσ r1 h) sh_0 rfl rfl rfl rfl rfl rfl rfl (fun z1 σ2 rz1 hσ2 h => ?_)
  obtain ⟨ez1, h⟩ := h; subst ez1
  refine j_if_eq (tgt := 22) C d_X_go_8 rfl rz1 (fun c => ?_) (fun c => ?_)
  · have h := h.1 c
    refine j_iconst C d_X_go_22 ?_
    exact j_ireturn C d_X_go_23 (zR_of (x := (-1)) rfl) hσ h
  · have h := h.2 c
    refine j_aload_n C d_X_go_11 0 rfl rfl ?_
    refine j_getr (kf := 0) (m := 0) C d_X_go_12 sh_54 rfl i_X rfl rfl fl_X_12 ?_
    refine j_iload_n C d_X_go_15 2 rfl rfl ?_
    refine j_callV C d_X_go_16 ml_X_88 mi_S_hasRoad (c_S_hasRoad (xl X) (gD G) (gad G) (gca G) (v1 := v2) hσ r2 h) sh_0 rfl rfl rfl rfl rfl rfl rfl (fun z3 σ4 rz3 hσ4 h => ?_)
    obtain ⟨ez3, h⟩ := h; subst ez3
    refine j_if_ne (tgt := 24) C d_X_go_19 rfl rz3 (fun c => ?_) (fun c => ?_)
    · have h := h.1 c
      refine j_aload_n C d_X_go_24 0 rfl rfl ?_
      refine j_getr (kf := 0) (m := 0) C d_X_go_25 sh_54 rfl i_X rfl rfl fl_X_12 ?_
      refine j_iload_n C d_X_go_28 1 rfl rfl ?_
      refine j_iload_n C d_X_go_29 2 rfl rfl ?_
      refine j_callV C d_X_go_30 ml_X_131 mi_S_whyNoGoing (c_S_whyNoGoing (xl X) (gD G) (gad G) (gca G) (v1 := v1) (v2 := v2) hσ r1 r2 h) sh_0 rfl rfl rfl rfl rfl rfl rfl (fun z5 σ6 rz5 hσ6 h => ?_)
      obtain ⟨ez5, h⟩ := h; subst ez5
      refine j_istore_n (L' := [(3, .int (zI z5)), (0, .ref (gad G 54)), (1, .int (zI v1)), (2, .int (zI v2))]) C d_X_go_33 rfl rfl rfl ?_
      refine j_iload_n C d_X_go_34 0 rfl rfl ?_
      refine j_if_eq (tgt := 44) C d_X_go_35 rfl rz5 (fun c => ?_) (fun c => ?_)
      · have h := h.1 c
        refine j_aload_n C d_X_go_44 1 rfl rfl ?_
        refine j_callVv C d_X_go_45 ml_X_73 mi_X_remember (c_X_remember (xl X) (gD G) (gad G) (gca G)  hσ h) sh_54 rfl rfl rfl rfl rfl rfl rfl (fun σ8 hσ8 h => ?_)
        refine j_aload_n C d_X_go_48 1 rfl rfl ?_
        refine j_getr (kf := 0) (m := 0) C d_X_go_49 sh_54 rfl i_X rfl rfl fl_X_12 ?_
        refine j_iload_n C d_X_go_52 2 rfl rfl ?_
        refine j_iload_n C d_X_go_53 3 rfl rfl ?_
        refine j_callV C d_X_go_54 ml_X_138 mi_S_enter (c_S_enter (xl X) (gD G) (gad G) (gca G) (v1 := v1) (v2 := v2) hσ8 r1 r2 h) sh_0 rfl rfl rfl rfl rfl rfl rfl (fun z9 σ10 rz9 hσ10 h => ?_)
        exact j_ireturn C d_X_go_57 rz9 hσ10 h
      · have h := h.2 c
        refine j_aload_n C d_X_go_38 1 rfl rfl ?_
        refine j_iload_n C d_X_go_39 0 rfl rfl ?_
        refine j_callV C d_X_go_40 ml_X_134 mi_X_refuse (c_X_refuse (xl X) (gD G) (gad G) (gca G) (v1 := z5) hσ rz5 h) sh_54 rfl rfl rfl rfl rfl rfl rfl (fun z11 σ12 rz11 hσ12 h => ?_)
        exact j_ireturn C d_X_go_43 rz11 hσ12 h
    · have h := h.2 c
      refine j_iconst C d_X_go_22 ?_
      exact j_ireturn C d_X_go_23 (zR_of (x := (-1)) rfl) hσ h
set_option maxRecDepth 100000 in
set_option maxHeartbeats 4000000 in
theorem w_S_openUntil_b31 {X : zX} {G : zG} (C : zC X G b_S_openUntil "GateRoads$State" 6 (some .int) 1 22) {σ : zM} (hσ : zRM σ) {Q : Int → Prop} (v2 : Int) (v3 : Int) (v4 : Int) (r2 : zR v2) (r3 : zR v3) (r4 : zR v4) (h : wp_S_openUntil_b31 σ Q v2 v3 v4) : zJ X G (zQi X G (fun z u => σ = u ∧ Q z)) 6 31 [(2, .int (zI v2)), (3, .int (zI v3)), (4, .int (zI v4))] [] σ := by
  unfold wp_S_openUntil_b31 at h
  refine j_iload_n C d_S_openUntil_31 0 rfl rfl ?_
  refine j_sipush C d_S_openUntil_32 rfl ?_
  obtain ⟨g5, h⟩ := h
  refine j_irem C d_S_openUntil_35 r2 g5 (zR_of (x := 1440) rfl) (by decide) ?_
  refine j_istore (L' := [(5, .int (zI (v2 % 1440))), (2, .int (zI v2)), (3, .int (zI v3)), (4, .int (zI v4))]) C d_S_openUntil_36 rfl rfl ?_
  refine j_iload C d_S_openUntil_38 0 rfl ?_
  refine j_iload_n C d_S_openUntil_40 2 rfl rfl ?_
  refine j_icmp_lt (tgt := 61) C d_S_openUntil_41 rfl (zMod_rg r2 g5 (zR_of (x := 1440) rfl) (by decide)) r3 (fun c => ?_) (fun c => ?_)
  · have h := h.1 c
    refine j_iload_n C d_S_openUntil_61 1 rfl rfl ?_
    exact j_ireturn C d_S_openUntil_62 r2 hσ ⟨rfl, h⟩
  · have h := h.2 c
    refine j_iload C d_S_openUntil_44 0 rfl ?_
    refine j_iload C d_S_openUntil_46 3 rfl ?_
    refine j_icmp_ge (tgt := 61) C d_S_openUntil_48 rfl (zMod_rg r2 g5 (zR_of (x := 1440) rfl) (by decide)) r4 (fun c => ?_) (fun c => ?_)
    · have h := h.1 c
      refine j_iload_n C d_S_openUntil_61 1 rfl rfl ?_
      exact j_ireturn C d_S_openUntil_62 r2 hσ ⟨rfl, h⟩
    · have h := h.2 c
      refine j_iload_n C d_S_openUntil_51 1 rfl rfl ?_
      refine j_iload C d_S_openUntil_52 0 rfl ?_
      refine j_isub C d_S_openUntil_54 ?_
      refine j_iload C d_S_openUntil_55 3 rfl ?_
      refine j_iadd C d_S_openUntil_57 ?_
      refine j_goto (tgt := 62) C d_S_openUntil_58 rfl ?_
      obtain ⟨g6, h⟩ := h
      exact j_ireturn C d_S_openUntil_62 g6 hσ ⟨rfl, h⟩
set_option maxRecDepth 100000 in
set_option maxHeartbeats 4000000 in
theorem c_S_openUntil (l : Launch) (D : va_G) (ad : Nat → Nat) (ca : Nat → ClassId) {σ : zM} {v1 : Int} {v2 : Int} {Q : Int → Prop} (hσ : zRM σ) (r1 : zR v1) (r2 : zR v2) (h : wp_S_openUntil σ v1 v2 Q) : zCi l D ad ca y_S_openUntil b_S_openUntil 6 (some .int) (zrm 1 22) [.ref (ad 0), .int (zI v1), .int (zI v2)] σ (fun z u => σ = u ∧ Q z) := by
  refine zCi_of (by decide +kernel) (Nat.le_of_ble_eq_true rfl) ?_
  intro X G C hl hD had hca
  subst hl hD had hca
  have C : zC X G b_S_openUntil "GateRoads$State" 6 (some .int) 1 22 := C
  show zJ X G (zQi X G (fun z u => σ = u ∧ Q z)) 6 0 [(0, .ref (gad G 0)), (1, .int (zI v1)), (2, .int (zI v2))] [] σ
  unfold wp_S_openUntil at h
  refine j_aload_n C d_S_openUntil_0 0 rfl rfl ?_
  refine j_iload_n C d_S_openUntil_1 1 rfl rfl ?_
  refine j_iconst C d_S_openUntil_2 ?_
  refine j_callV C d_S_openUntil_3 ml_S_73 mi_S_ofRooms (c_S_ofRooms (xl X) (gD G) (gad G) (gca G) (v1 := v1) (v2 := 0) hσ r1 (zR_of (x := 0) rfl) h) sh_0 rfl rfl rfl rfl rfl rfl rfl (fun z1 σ2 rz1 hσ2 h => ?_)
  obtain ⟨ez1, h⟩ := h; subst ez1
  refine j_istore_n (L' := [(3, .int (zI z1)), (0, .ref (gad G 0)), (1, .int (zI v1)), (2, .int (zI v2))]) C d_S_openUntil_6 rfl rfl rfl ?_
  refine j_aload_n C d_S_openUntil_7 1 rfl rfl ?_
  refine j_iload_n C d_S_openUntil_8 2 rfl rfl ?_
  refine j_iconst C d_S_openUntil_9 ?_
  refine j_callV C d_S_openUntil_10 ml_S_73 mi_S_ofRooms (c_S_ofRooms (xl X) (gD G) (gad G) (gca G) (v1 := v1) (v2 := 1) hσ r1 (zR_of (x := 1) rfl) h) sh_0 rfl rfl rfl rfl rfl rfl rfl (fun z3 σ4 rz3 hσ4 h => ?_)
  obtain ⟨ez3, h⟩ := h; subst ez3
  refine j_istore (L' := [(4, .int (zI z3)), (3, .int (zI z1)), (0, .ref (gad G 0)), (1, .int (zI v1)), (2, .int (zI v2))]) C d_S_openUntil_13 rfl rfl ?_
  refine j_iload_n C d_S_openUntil_15 1 rfl rfl ?_
  refine j_if_ne (tgt := 31) C d_S_openUntil_16 rfl rz1 (fun c => ?_) (fun c => ?_)
  · have h := h.1 c
    refine j_sub (L' := [(2, .int (zI v2)), (3, .int (zI z1)), (4, .int (zI z3))]) [4, 1, 0] rfl ?_
    refine w_S_openUntil_b31 C hσ v2 z1 z3 r2 rz1 rz3 h
  · have h := h.2 c
    refine j_iload C d_S_openUntil_19 0 rfl ?_
    refine j_sipush C d_S_openUntil_21 rfl ?_
    refine j_icmp_ne (tgt := 31) C d_S_openUntil_24 rfl rz3 (zR_of (x := 1440) rfl) (fun c => ?_) (fun c => ?_)
    · have h := h.1 c
      refine j_sub (L' := [(2, .int (zI v2)), (3, .int (zI z1)), (4, .int (zI z3))]) [4, 1, 0] rfl ?_
      refine w_S_openUntil_b31 C hσ v2 z1 z3 r2 rz1 rz3 h
    · have h := h.2 c
      refine j_sipush C d_S_openUntil_27 rfl ?_
      exact j_ireturn C d_S_openUntil_30 (zR_of (x := 2880) rfl) hσ ⟨rfl, h⟩
set_option maxRecDepth 100000 in
set_option maxHeartbeats 4000000 in
theorem c_S_whyNoStaying (l : Launch) (D : va_G) (ad : Nat → Nat) (ca : Nat → ClassId) {σ : zM} {v1 : Int} {v2 : Int} {Q : Int → Prop} (hσ : zRM σ) (r1 : zR v1) (r2 : zR v2) (h : wp_S_whyNoStaying σ v1 v2 Q) : zCi l D ad ca y_S_whyNoStaying b_S_whyNoStaying 5 (some .int) (zrm 2 47) [.ref (ad 0), .int (zI v1), .int (zI v2)] σ (fun z u => σ = u ∧ Q z) := by
  refine zCi_of (by decide +kernel) (Nat.le_of_ble_eq_true rfl) ?_
  intro X G C hl hD had hca
  subst hl hD had hca
  have C : zC X G b_S_whyNoStaying "GateRoads$State" 5 (some .int) 2 47 := C
  show zJ X G (zQi X G (fun z u => σ = u ∧ Q z)) 5 0 [(0, .ref (gad G 0)), (1, .int (zI v1)), (2, .int (zI v2))] [] σ
  unfold wp_S_whyNoStaying at h
  refine j_aload_n C d_S_whyNoStaying_0 0 rfl rfl ?_
  refine j_iload_n C d_S_whyNoStaying_1 1 rfl rfl ?_
  refine j_iconst C d_S_whyNoStaying_2 ?_
  refine j_callV C d_S_whyNoStaying_3 ml_S_67 mi_S_ofTravellers (c_S_ofTravellers (xl X) (gD G) (gad G) (gca G) (v1 := v1) (v2 := 0) hσ r1 (zR_of (x := 0) rfl) h) sh_0 rfl rfl rfl rfl rfl rfl rfl (fun z1 σ2 rz1 hσ2 h => ?_)
  obtain ⟨ez1, h⟩ := h; subst ez1
  refine j_istore_n (L' := [(3, .int (zI z1)), (0, .ref (gad G 0)), (1, .int (zI v1)), (2, .int (zI v2))]) C d_S_whyNoStaying_6 rfl rfl rfl ?_
  refine j_aload_n C d_S_whyNoStaying_7 1 rfl rfl ?_
  refine j_iload_n C d_S_whyNoStaying_8 2 rfl rfl ?_
  refine j_iconst C d_S_whyNoStaying_9 ?_
  refine j_callV C d_S_whyNoStaying_10 ml_S_67 mi_S_ofTravellers (c_S_ofTravellers (xl X) (gD G) (gad G) (gca G) (v1 := v1) (v2 := 1) hσ r1 (zR_of (x := 1) rfl) h) sh_0 rfl rfl rfl rfl rfl rfl rfl (fun z3 σ4 rz3 hσ4 h => ?_)
  obtain ⟨ez3, h⟩ := h; subst ez3
  refine j_iload_n C d_S_whyNoStaying_13 3 rfl rfl ?_
  refine j_iadd C d_S_whyNoStaying_14 ?_
  obtain ⟨g5, h⟩ := h
  refine j_istore (L' := [(4, .int (zI (z3 + v2))), (3, .int (zI z1)), (0, .ref (gad G 0)), (1, .int (zI v1)), (2, .int (zI v2))]) C d_S_whyNoStaying_15 rfl rfl ?_
  refine j_iload C d_S_whyNoStaying_17 0 rfl ?_
  refine j_sipush C d_S_whyNoStaying_19 rfl ?_
  refine j_icmp_le (tgt := 27) C d_S_whyNoStaying_22 rfl g5 (zR_of (x := 2880) rfl) (fun c => ?_) (fun c => ?_)
  · have h := h.1 c
    refine j_iload C d_S_whyNoStaying_27 0 rfl ?_
    refine j_aload_n C d_S_whyNoStaying_29 2 rfl rfl ?_
    refine j_iload_n C d_S_whyNoStaying_30 1 rfl rfl ?_
    refine j_aload_n C d_S_whyNoStaying_31 2 rfl rfl ?_
    refine j_iload_n C d_S_whyNoStaying_32 3 rfl rfl ?_
    refine j_iconst C d_S_whyNoStaying_33 ?_
    refine j_callV C d_S_whyNoStaying_34 ml_S_67 mi_S_ofTravellers (c_S_ofTravellers (xl X) (gD G) (gad G) (gca G) (v1 := v1) (v2 := 1) hσ r1 (zR_of (x := 1) rfl) h) sh_0 rfl rfl rfl rfl rfl rfl rfl (fun z6 σ7 rz6 hσ7 h => ?_)
    obtain ⟨ez6, h⟩ := h; subst ez6
    refine j_callV C d_S_whyNoStaying_37 ml_S_76 mi_S_openUntil (c_S_openUntil (xl X) (gD G) (gad G) (gca G) (v1 := z1) (v2 := z6) hσ rz1 rz6 h) sh_0 rfl rfl rfl rfl rfl rfl rfl (fun z8 σ9 rz8 hσ9 h => ?_)
    obtain ⟨ez8, h⟩ := h; subst ez8
    refine j_icmp_le (tgt := 46) C d_S_whyNoStaying_40 rfl g5 rz8 (fun c => ?_) (fun c => ?_)
    · have h := h.1 c
      refine j_iload C d_S_whyNoStaying_46 0 rfl ?_
      refine j_aload_n C d_S_whyNoStaying_48 2 rfl rfl ?_
      refine j_iload_n C d_S_whyNoStaying_49 3 rfl rfl ?_
      refine j_iconst C d_S_whyNoStaying_50 ?_
      refine j_callV C d_S_whyNoStaying_51 ml_S_67 mi_S_ofTravellers (c_S_ofTravellers (xl X) (gD G) (gad G) (gca G) (v1 := v1) (v2 := 2) hσ r1 (zR_of (x := 2) rfl) h) sh_0 rfl rfl rfl rfl rfl rfl rfl (fun z10 σ11 rz10 hσ11 h => ?_)
      obtain ⟨ez10, h⟩ := h; subst ez10
      refine j_isub C d_S_whyNoStaying_54 ?_
      refine j_aload_n C d_S_whyNoStaying_55 2 rfl rfl ?_
      refine j_iload_n C d_S_whyNoStaying_56 1 rfl rfl ?_
      refine j_iconst C d_S_whyNoStaying_57 ?_
      refine j_callV C d_S_whyNoStaying_58 ml_S_73 mi_S_ofRooms (c_S_ofRooms (xl X) (gD G) (gad G) (gca G) (v1 := z1) (v2 := 2) hσ rz1 (zR_of (x := 2) rfl) h) sh_0 rfl rfl rfl rfl rfl rfl rfl (fun z12 σ13 rz12 hσ13 h => ?_)
      obtain ⟨ez12, h⟩ := h; subst ez12
      obtain ⟨g14, h⟩ := h
      refine j_icmp_le (tgt := 69) C d_S_whyNoStaying_61 rfl g14 rz12 (fun c => ?_) (fun c => ?_)
      · have h := h.1 c
        refine j_iconst C d_S_whyNoStaying_69 ?_
        exact j_ireturn C d_S_whyNoStaying_70 (zR_of (x := 0) rfl) hσ ⟨rfl, h⟩
      · have h := h.2 c
        refine j_bipush C d_S_whyNoStaying_64 rfl ?_
        refine j_goto (tgt := 70) C d_S_whyNoStaying_66 rfl ?_
        exact j_ireturn C d_S_whyNoStaying_70 (zR_of (x := 7) rfl) hσ ⟨rfl, h⟩
    · have h := h.2 c
      refine j_bipush C d_S_whyNoStaying_43 rfl ?_
      exact j_ireturn C d_S_whyNoStaying_45 (zR_of (x := 6) rfl) hσ ⟨rfl, h⟩
  · have h := h.2 c
    refine j_iconst C d_S_whyNoStaying_25 ?_
    exact j_ireturn C d_S_whyNoStaying_26 (zR_of (x := 5) rfl) hσ ⟨rfl, h⟩
set_option maxRecDepth 100000 in
set_option maxHeartbeats 4000000 in
theorem c_S_waitThere (l : Launch) (D : va_G) (ad : Nat → Nat) (ca : Nat → ClassId) {σ : zM} {v1 : Int} {v2 : Int} {Q : Int → zM → Prop} (hσ : zRM σ) (r1 : zR v1) (r2 : zR v2) (h : wp_S_waitThere σ v1 v2 Q) : zCi l D ad ca y_S_waitThere b_S_waitThere 4 (some .int) (zrm 0 0) [.ref (ad 0), .int (zI v1), .int (zI v2)] σ Q := by
  refine zCi_of (by decide +kernel) (Nat.le_of_ble_eq_true rfl) ?_
  intro X G C hl hD had hca
  subst hl hD had hca
  have C : zC X G b_S_waitThere "GateRoads$State" 4 (some .int) 0 0 := C
  show zJ X G (zQi X G Q) 4 0 [(0, .ref (gad G 0)), (1, .int (zI v1)), (2, .int (zI v2))] [] σ
  unfold wp_S_waitThere at h
  refine j_iload_n C d_S_waitThere_0 1 rfl rfl ?_
  refine j_bipush C d_S_waitThere_1 rfl ?_
  refine j_imul C d_S_waitThere_3 ?_
  obtain ⟨g1, h⟩ := h
  refine j_istore_n (L' := [(3, .int (zI (v1 * 8))), (0, .ref (gad G 0)), (1, .int (zI v1)), (2, .int (zI v2))]) C d_S_waitThere_4 rfl rfl rfl ?_
  refine j_aload_n C d_S_waitThere_5 1 rfl rfl ?_
  refine j_getr (kf := 4) (m := 5) C d_S_waitThere_6 sh_0 rfl i_S rfl rfl fl_S_24 ?_
  refine j_iload_n C d_S_waitThere_9 0 rfl rfl ?_
  refine j_iconst C d_S_waitThere_10 ?_
  refine j_iadd C d_S_waitThere_11 ?_
  refine j_dup2 C d_S_waitThere_12 rfl rfl ?_
  obtain ⟨g2, h⟩ := h
  refine j_iaload C d_S_waitThere_13 sh_5 g2 ?_
  refine j_iload_n C d_S_waitThere_14 3 rfl rfl ?_
  refine j_iadd C d_S_waitThere_15 ?_
  obtain ⟨g3, h⟩ := h
  obtain ⟨g4, h⟩ := h
  refine j_iastore C d_S_waitThere_16 sh_5 g3 ?_
  refine j_mem (fun σ5 eσ5 => ?_)
  have h := h σ5 eσ5
  have hσ5 : zRM σ5 := by rw [eσ5]; exact zU_rg hσ _ _ g4
  refine j_aload_n C d_S_waitThere_17 1 rfl rfl ?_
  refine j_getr (kf := 4) (m := 5) C d_S_waitThere_18 sh_0 rfl i_S rfl rfl fl_S_24 ?_
  refine j_iload_n C d_S_waitThere_21 0 rfl rfl ?_
  refine j_iconst C d_S_waitThere_22 ?_
  refine j_iadd C d_S_waitThere_23 ?_
  refine j_dup2 C d_S_waitThere_24 rfl rfl ?_
  obtain ⟨g6, h⟩ := h
  refine j_iaload C d_S_waitThere_25 sh_5 g6 ?_
  refine j_iload_n C d_S_waitThere_26 3 rfl rfl ?_
  refine j_iadd C d_S_waitThere_27 ?_
  obtain ⟨g7, h⟩ := h
  obtain ⟨g8, h⟩ := h
  refine j_iastore C d_S_waitThere_28 sh_5 g7 ?_
  refine j_mem (fun σ9 eσ9 => ?_)
  have h := h σ9 eσ9
  have hσ9 : zRM σ9 := by rw [eσ9]; exact zU_rg hσ5 _ _ g8
  refine j_aload_n C d_S_waitThere_29 1 rfl rfl ?_
  refine j_getr (kf := 4) (m := 5) C d_S_waitThere_30 sh_0 rfl i_S rfl rfl fl_S_24 ?_
  refine j_iload_n C d_S_waitThere_33 0 rfl rfl ?_
  refine j_iconst C d_S_waitThere_34 ?_
  refine j_iadd C d_S_waitThere_35 ?_
  obtain ⟨g10, h⟩ := h
  refine j_iaload C d_S_waitThere_36 sh_5 g10 ?_
  exact j_ireturn C d_S_waitThere_37 (hσ9 _ _) hσ9 h
set_option maxRecDepth 100000 in
set_option maxHeartbeats 4000000 in
theorem c_X_stay (l : Launch) (D : va_G) (ad : Nat → Nat) (ca : Nat → ClassId) {σ : zM} {v1 : Int} {v2 : Int} {Q : Int → zM → Prop} (hσ : zRM σ) (r1 : zR v1) (r2 : zR v2) (h : wp_X_stay σ v1 v2 Q) : zCi l D ad ca y_X_stay b_X_stay 4 (some .int) (zrm 3 71) [.ref (ad 54), .int (zI v1), .int (zI v2)] σ Q := by
  refine zCi_of (by decide +kernel) (Nat.le_of_ble_eq_true rfl) ?_
  intro X G C hl hD had hca
  subst hl hD had hca
  have C : zC X G b_X_stay "GateRoads" 4 (some .int) 3 71 := C
  show zJ X G (zQi X G Q) 4 0 [(0, .ref (gad G 54)), (1, .int (zI v1)), (2, .int (zI v2))] [] σ
  unfold wp_X_stay at h
  refine j_aload_n C d_X_stay_0 0 rfl rfl ?_
  refine j_getr (kf := 0) (m := 0) C d_X_stay_1 sh_54 rfl i_X rfl rfl fl_X_12 ?_
  refine j_iload_n C d_X_stay_4 1 rfl rfl ?_
  refine j_callV C d_X_stay_5 ml_X_128 mi_S_hasTraveller (c_S_hasTraveller (xl X) (gD G) (gad G) (gca G) (v1 := v1) hσ r1 h) sh_0 rfl rfl rfl rfl rfl rfl rfl (fun z1 σ2 rz1 hσ2 h => ?_)
  obtain ⟨ez1, h⟩ := h; subst ez1
  refine j_if_ne (tgt := 13) C d_X_stay_8 rfl rz1 (fun c => ?_) (fun c => ?_)
  · have h := h.1 c
    refine j_iload_n C d_X_stay_13 2 rfl rfl ?_
    refine j_iconst C d_X_stay_14 ?_
    refine j_sipush C d_X_stay_15 rfl ?_
    refine j_callS C d_X_stay_18 ml_X_69 ms_X_within (c_X_within (xl X) (gD G) (gad G) (gca G) (v0 := v2) (v1 := 1) (v2 := 1000) hσ r2 (zR_of (x := 1) rfl) (zR_of (x := 1000) rfl) h) rfl rfl rfl rfl rfl (fun z3 σ4 rz3 hσ4 h => ?_)
    obtain ⟨ez3, h⟩ := h; subst ez3
    refine j_if_ne (tgt := 27) C d_X_stay_21 rfl rz3 (fun c => ?_) (fun c => ?_)
    · have h := h.1 c
      refine j_aload_n C d_X_stay_27 0 rfl rfl ?_
      refine j_getr (kf := 0) (m := 0) C d_X_stay_28 sh_54 rfl i_X rfl rfl fl_X_12 ?_
      refine j_iload_n C d_X_stay_31 1 rfl rfl ?_
      refine j_iload_n C d_X_stay_32 2 rfl rfl ?_
      refine j_callV C d_X_stay_33 ml_X_141 mi_S_whyNoStaying (c_S_whyNoStaying (xl X) (gD G) (gad G) (gca G) (v1 := v1) (v2 := v2) hσ r1 r2 h) sh_0 rfl rfl rfl rfl rfl rfl rfl (fun z5 σ6 rz5 hσ6 h => ?_)
      obtain ⟨ez5, h⟩ := h; subst ez5
      refine j_istore_n (L' := [(3, .int (zI z5)), (0, .ref (gad G 54)), (1, .int (zI v1)), (2, .int (zI v2))]) C d_X_stay_36 rfl rfl rfl ?_
      refine j_iload_n C d_X_stay_37 0 rfl rfl ?_
      refine j_if_eq (tgt := 47) C d_X_stay_38 rfl rz5 (fun c => ?_) (fun c => ?_)
      · have h := h.1 c
        refine j_aload_n C d_X_stay_47 1 rfl rfl ?_
        refine j_callVv C d_X_stay_48 ml_X_73 mi_X_remember (c_X_remember (xl X) (gD G) (gad G) (gca G)  hσ h) sh_54 rfl rfl rfl rfl rfl rfl rfl (fun σ8 hσ8 h => ?_)
        refine j_aload_n C d_X_stay_51 1 rfl rfl ?_
        refine j_getr (kf := 0) (m := 0) C d_X_stay_52 sh_54 rfl i_X rfl rfl fl_X_12 ?_
        refine j_iload_n C d_X_stay_55 2 rfl rfl ?_
        refine j_iload_n C d_X_stay_56 3 rfl rfl ?_
        refine j_callV C d_X_stay_57 ml_X_144 mi_S_waitThere (c_S_waitThere (xl X) (gD G) (gad G) (gca G) (v1 := v1) (v2 := v2) hσ8 r1 r2 h) sh_0 rfl rfl rfl rfl rfl rfl rfl (fun z9 σ10 rz9 hσ10 h => ?_)
        exact j_ireturn C d_X_stay_60 rz9 hσ10 h
      · have h := h.2 c
        refine j_aload_n C d_X_stay_41 1 rfl rfl ?_
        refine j_iload_n C d_X_stay_42 0 rfl rfl ?_
        refine j_callV C d_X_stay_43 ml_X_134 mi_X_refuse (c_X_refuse (xl X) (gD G) (gad G) (gca G) (v1 := z5) hσ rz5 h) sh_54 rfl rfl rfl rfl rfl rfl rfl (fun z11 σ12 rz11 hσ12 h => ?_)
        exact j_ireturn C d_X_stay_46 rz11 hσ12 h
    · have h := h.2 c
      refine j_bipush C d_X_stay_24 rfl ?_
      exact j_ireturn C d_X_stay_26 (zR_of (x := (-2)) rfl) hσ h
  · have h := h.2 c
    refine j_iconst C d_X_stay_11 ?_
    exact j_ireturn C d_X_stay_12 (zR_of (x := (-1)) rfl) hσ h
set_option maxRecDepth 100000 in
set_option maxHeartbeats 4000000 in
theorem c_S_stayLeft (l : Launch) (D : va_G) (ad : Nat → Nat) (ca : Nat → ClassId) {σ : zM} {v1 : Int} {Q : Int → Prop} (hσ : zRM σ) (r1 : zR v1) (h : wp_S_stayLeft σ v1 Q) : zCi l D ad ca y_S_stayLeft b_S_stayLeft 6 (some .int) (zrm 2 47) [.ref (ad 0), .int (zI v1)] σ (fun z u => σ = u ∧ Q z) := by
  refine zCi_of (by decide +kernel) (Nat.le_of_ble_eq_true rfl) ?_
  intro X G C hl hD had hca
  subst hl hD had hca
  have C : zC X G b_S_stayLeft "GateRoads$State" 6 (some .int) 2 47 := C
  show zJ X G (zQi X G (fun z u => σ = u ∧ Q z)) 6 0 [(0, .ref (gad G 0)), (1, .int (zI v1))] [] σ
  unfold wp_S_stayLeft at h
  refine j_aload_n C d_S_stayLeft_0 0 rfl rfl ?_
  refine j_iload_n C d_S_stayLeft_1 1 rfl rfl ?_
  refine j_iconst C d_S_stayLeft_2 ?_
  refine j_callV C d_S_stayLeft_3 ml_S_67 mi_S_ofTravellers (c_S_ofTravellers (xl X) (gD G) (gad G) (gca G) (v1 := v1) (v2 := 0) hσ r1 (zR_of (x := 0) rfl) h) sh_0 rfl rfl rfl rfl rfl rfl rfl (fun z1 σ2 rz1 hσ2 h => ?_)
  obtain ⟨ez1, h⟩ := h; subst ez1
  refine j_istore_n (L' := [(2, .int (zI z1)), (0, .ref (gad G 0)), (1, .int (zI v1))]) C d_S_stayLeft_6 rfl rfl rfl ?_
  refine j_aload_n C d_S_stayLeft_7 1 rfl rfl ?_
  refine j_iload_n C d_S_stayLeft_8 2 rfl rfl ?_
  refine j_iconst C d_S_stayLeft_9 ?_
  refine j_callV C d_S_stayLeft_10 ml_S_67 mi_S_ofTravellers (c_S_ofTravellers (xl X) (gD G) (gad G) (gca G) (v1 := v1) (v2 := 1) hσ r1 (zR_of (x := 1) rfl) h) sh_0 rfl rfl rfl rfl rfl rfl rfl (fun z3 σ4 rz3 hσ4 h => ?_)
  obtain ⟨ez3, h⟩ := h; subst ez3
  refine j_istore_n (L' := [(3, .int (zI z3)), (2, .int (zI z1)), (0, .ref (gad G 0)), (1, .int (zI v1))]) C d_S_stayLeft_13 rfl rfl rfl ?_
  refine j_aload_n C d_S_stayLeft_14 2 rfl rfl ?_
  refine j_iload_n C d_S_stayLeft_15 3 rfl rfl ?_
  refine j_iconst C d_S_stayLeft_16 ?_
  refine j_callV C d_S_stayLeft_17 ml_S_67 mi_S_ofTravellers (c_S_ofTravellers (xl X) (gD G) (gad G) (gca G) (v1 := v1) (v2 := 2) hσ r1 (zR_of (x := 2) rfl) h) sh_0 rfl rfl rfl rfl rfl rfl rfl (fun z5 σ6 rz5 hσ6 h => ?_)
  obtain ⟨ez5, h⟩ := h; subst ez5
  refine j_aload_n C d_S_stayLeft_20 2 rfl rfl ?_
  refine j_iload_n C d_S_stayLeft_21 1 rfl rfl ?_
  refine j_iconst C d_S_stayLeft_22 ?_
  refine j_callV C d_S_stayLeft_23 ml_S_73 mi_S_ofRooms (c_S_ofRooms (xl X) (gD G) (gad G) (gca G) (v1 := z1) (v2 := 2) hσ rz1 (zR_of (x := 2) rfl) h) sh_0 rfl rfl rfl rfl rfl rfl rfl (fun z7 σ8 rz7 hσ8 h => ?_)
  obtain ⟨ez7, h⟩ := h; subst ez7
  refine j_iadd C d_S_stayLeft_26 ?_
  obtain ⟨g9, h⟩ := h
  refine j_istore (L' := [(4, .int (zI (z5 + z7))), (3, .int (zI z3)), (2, .int (zI z1)), (0, .ref (gad G 0)), (1, .int (zI v1))]) C d_S_stayLeft_27 rfl rfl ?_
  refine j_aload_n C d_S_stayLeft_29 3 rfl rfl ?_
  refine j_iload_n C d_S_stayLeft_30 2 rfl rfl ?_
  refine j_iload_n C d_S_stayLeft_31 1 rfl rfl ?_
  refine j_callV C d_S_stayLeft_32 ml_S_76 mi_S_openUntil (c_S_openUntil (xl X) (gD G) (gad G) (gca G) (v1 := z1) (v2 := z3) hσ rz1 rz3 h) sh_0 rfl rfl rfl rfl rfl rfl rfl (fun z10 σ11 rz10 hσ11 h => ?_)
  obtain ⟨ez10, h⟩ := h; subst ez10
  refine j_iload C d_S_stayLeft_35 0 rfl ?_
  refine j_min C d_S_stayLeft_37 ml_S_79 zs_min zi_Math zc_min rfl rfl rz10 g9 ?_
  refine j_sipush C d_S_stayLeft_40 rfl ?_
  refine j_min C d_S_stayLeft_43 ml_S_79 zs_min zi_Math zc_min rfl rfl (zMin_rg rz10 g9) (zR_of (x := 2880) rfl) ?_
  refine j_name (fun t12 et12 => ?_)
  have h := h t12 et12
  have rt12 : zR t12 := by rw [et12]; exact (zMin_rg (zMin_rg rz10 g9) (zR_of (x := 2880) rfl))
  refine j_istore (L' := [(5, .int (zI t12)), (4, .int (zI (z5 + z7))), (3, .int (zI z3)), (2, .int (zI z1)), (0, .ref (gad G 0)), (1, .int (zI v1))]) C d_S_stayLeft_46 rfl rfl ?_
  refine j_iload C d_S_stayLeft_48 0 rfl ?_
  refine j_iload_n C d_S_stayLeft_50 2 rfl rfl ?_
  refine j_isub C d_S_stayLeft_51 ?_
  refine j_iconst C d_S_stayLeft_52 ?_
  obtain ⟨g13, h⟩ := h
  refine j_max C d_S_stayLeft_53 ml_S_84 zs_max zi_Math zc_max rfl rfl g13 (zR_of (x := 0) rfl) ?_
  exact j_ireturn C d_S_stayLeft_56 (zMax_rg g13 (zR_of (x := 0) rfl)) hσ ⟨rfl, h⟩
set_option maxRecDepth 100000 in
set_option maxHeartbeats 4000000 in
theorem c_X_canStay (l : Launch) (D : va_G) (ad : Nat → Nat) (ca : Nat → ClassId) {σ : zM} {v1 : Int} {Q : Int → Prop} (hσ : zRM σ) (r1 : zR v1) (h : wp_X_canStay σ v1 Q) : zCi l D ad ca y_X_canStay b_X_canStay 2 (some .int) (zrm 3 72) [.ref (ad 54), .int (zI v1)] σ (fun z u => σ = u ∧ Q z) := by
  refine zCi_of (by decide +kernel) (Nat.le_of_ble_eq_true rfl) ?_
  intro X G C hl hD had hca
  subst hl hD had hca
  have C : zC X G b_X_canStay "GateRoads" 2 (some .int) 3 72 := C
  show zJ X G (zQi X G (fun z u => σ = u ∧ Q z)) 2 0 [(0, .ref (gad G 54)), (1, .int (zI v1))] [] σ
  unfold wp_X_canStay at h
  refine j_aload_n C d_X_canStay_0 0 rfl rfl ?_
  refine j_getr (kf := 0) (m := 0) C d_X_canStay_1 sh_54 rfl i_X rfl rfl fl_X_12 ?_
  refine j_iload_n C d_X_canStay_4 1 rfl rfl ?_
  refine j_callV C d_X_canStay_5 ml_X_128 mi_S_hasTraveller (c_S_hasTraveller (xl X) (gD G) (gad G) (gca G) (v1 := v1) hσ r1 h) sh_0 rfl rfl rfl rfl rfl rfl rfl (fun z1 σ2 rz1 hσ2 h => ?_)
  obtain ⟨ez1, h⟩ := h; subst ez1
  refine j_if_eq (tgt := 22) C d_X_canStay_8 rfl rz1 (fun c => ?_) (fun c => ?_)
  · have h := h.1 c
    refine j_iconst C d_X_canStay_22 ?_
    exact j_ireturn C d_X_canStay_23 (zR_of (x := (-1)) rfl) hσ ⟨rfl, h⟩
  · have h := h.2 c
    refine j_aload_n C d_X_canStay_11 0 rfl rfl ?_
    refine j_getr (kf := 0) (m := 0) C d_X_canStay_12 sh_54 rfl i_X rfl rfl fl_X_12 ?_
    refine j_iload_n C d_X_canStay_15 1 rfl rfl ?_
    refine j_callV C d_X_canStay_16 ml_X_237 mi_S_stayLeft (c_S_stayLeft (xl X) (gD G) (gad G) (gca G) (v1 := v1) hσ r1 h) sh_0 rfl rfl rfl rfl rfl rfl rfl (fun z3 σ4 rz3 hσ4 h => ?_)
    obtain ⟨ez3, h⟩ := h; subst ez3
    refine j_goto (tgt := 23) C d_X_canStay_19 rfl ?_
    exact j_ireturn C d_X_canStay_23 rz3 hσ ⟨rfl, h⟩
set_option maxRecDepth 100000 in
set_option maxHeartbeats 4000000 in
theorem w_G_letIn_L82 {X : zX} {G : zG} (C : zC X G b_G_letIn "GateRoads$Gates" 10 (none) 1 22) {v2 : Int} {v3 : Int} {v4 : Int} {v6 : Int} {v7 : Int} {v8 : Int} (r2 : zR v2) (r3 : zR v3) (r4 : zR v4) (r6 : zR v6) (r7 : zR v7) (r8 : zR v8) {Q : zM → Prop} {k108 : zM → Prop} (hk108 : ∀ (σ : zM), zRM σ → k108 σ → zJ X G (zQv X G Q) 10 108 [(0, .ref (gad G 62)), (1, .ref (gad G 0)), (2, .int (zI v2)), (3, .int (zI v3)), (4, .int (zI v4)), (6, .int (zI v6)), (7, .int (zI v7))] [] σ) : ∀ (n : Nat) (σ : zM) (v9 : Int) (hσ : zRM σ) (r9 : zR v9), wp_G_letIn_L82 v2 v3 v4 v6 v7 v8 k108 Q n σ v9 → zJ X G (zQv X G Q) 10 82 [(0, .ref (gad G 62)), (1, .ref (gad G 0)), (2, .int (zI v2)), (3, .int (zI v3)), (4, .int (zI v4)), (6, .int (zI v6)), (7, .int (zI v7)), (8, .int (zI v8)), (9, .int (zI v9))] [] σ := by
  intro n
  induction n with
  | zero => intro σ v9 hσ r9 h; exact False.elim h
  | succ n ih =>
    intro σ v9 hσ r9 h
    rw [wp_G_letIn_L82] at h
    refine j_iload C d_G_letIn_82 8 rfl ?_
    refine j_iload C d_G_letIn_84 7 rfl ?_
    refine j_icmp_gt (tgt := 108) C d_G_letIn_86 rfl r9 r8 (fun c => ?_) (fun c => ?_)
    · have h := h.1 c
      refine j_sub (L' := [(0, .ref (gad G 62)), (1, .ref (gad G 0)), (2, .int (zI v2)), (3, .int (zI v3)), (4, .int (zI v4)), (6, .int (zI v6)), (7, .int (zI v7))]) [0, 1, 2, 3, 4, 5, 6] rfl ?_
      exact hk108 σ hσ h
    · have h := h.2 c
      refine j_aload_n C d_G_letIn_89 0 rfl rfl ?_
      refine j_getr (kf := 0) (m := 63) C d_G_letIn_90 sh_62 rfl i_G rfl rfl fl_G_9 ?_
      refine j_iload C d_G_letIn_93 8 rfl ?_
      refine j_dup2 C d_G_letIn_95 rfl rfl ?_
      obtain ⟨g13, h⟩ := h
      refine j_iaload C d_G_letIn_96 sh_63 g13 ?_
      refine j_iconst C d_G_letIn_97 ?_
      refine j_iload_n C d_G_letIn_98 2 rfl rfl ?_
      refine j_ishl C d_G_letIn_99 ?_
      refine j_ior C d_G_letIn_100 ?_
      obtain ⟨g14, h⟩ := h
      refine j_iastore C d_G_letIn_101 sh_63 g14 ?_
      refine j_mem (fun σ15 eσ15 => ?_)
      have h := h σ15 eσ15
      have hσ15 : zRM σ15 := by rw [eσ15]; exact zU_rg hσ _ _ (zOr_rg _ _)
      obtain ⟨g16, h⟩ := h
      refine j_iinc (L' := [(9, .int (zI (v9 + 1))), (0, .ref (gad G 62)), (1, .ref (gad G 0)), (2, .int (zI v2)), (3, .int (zI v3)), (4, .int (zI v4)), (6, .int (zI v6)), (7, .int (zI v7)), (8, .int (zI v8))]) C d_G_letIn_102 8 rfl rfl rfl ?_
      refine j_goto (tgt := 82) C d_G_letIn_105 rfl ?_
      refine j_sub (L' := [(0, .ref (gad G 62)), (1, .ref (gad G 0)), (2, .int (zI v2)), (3, .int (zI v3)), (4, .int (zI v4)), (6, .int (zI v6)), (7, .int (zI v7)), (8, .int (zI v8)), (9, .int (zI (v9 + 1)))]) [1, 2, 3, 4, 5, 6, 7, 8, 0] rfl ?_
      exact ih σ15 (v9 + 1) hσ15 g16 h
set_option maxRecDepth 100000 in
set_option maxHeartbeats 4000000 in
theorem w_G_letIn_L47 {X : zX} {G : zG} (C : zC X G b_G_letIn "GateRoads$Gates" 10 (none) 1 22) {v2 : Int} {v3 : Int} {v4 : Int} {v6 : Int} (r2 : zR v2) (r3 : zR v3) (r4 : zR v4) (r6 : zR v6) {Q : zM → Prop} : ∀ (n : Nat) (σ : zM) (v7 : Int) (hσ : zRM σ) (r7 : zR v7), wp_G_letIn_L47 v2 v3 v4 v6 Q n σ v7 → zJ X G (zQv X G Q) 10 47 [(0, .ref (gad G 62)), (1, .ref (gad G 0)), (2, .int (zI v2)), (3, .int (zI v3)), (4, .int (zI v4)), (6, .int (zI v6)), (7, .int (zI v7))] [] σ := by
  intro n
  induction n with
  | zero => intro σ v7 hσ r7 h; exact False.elim h
  | succ n ih =>
    intro σ v7 hσ r7 h
    rw [wp_G_letIn_L47] at h
    refine j_iload C d_G_letIn_47 6 rfl ?_
    refine j_sipush C d_G_letIn_49 rfl ?_
    refine j_icmp_ge (tgt := 117) C d_G_letIn_52 rfl r7 (zR_of (x := 2880) rfl) (fun c => ?_) (fun c => ?_)
    · have h := h.1 c
      exact j_vreturn C d_G_letIn_117 hσ h
    · have h := h.2 c
      refine j_iload C d_G_letIn_55 6 rfl ?_
      refine j_iload C d_G_letIn_57 5 rfl ?_
      refine j_iadd C d_G_letIn_59 ?_
      refine j_sipush C d_G_letIn_60 rfl ?_
      refine j_iload C d_G_letIn_63 4 rfl ?_
      refine j_isub C d_G_letIn_65 ?_
      obtain ⟨g8, h⟩ := h
      obtain ⟨g9, h⟩ := h
      refine j_min C d_G_letIn_66 ml_G_49 zs_min zi_Math zc_min rfl rfl g8 g9 ?_
      refine j_istore (L' := [(8, .int (zI (min (v7 + v6) (2880 - v4)))), (0, .ref (gad G 62)), (1, .ref (gad G 0)), (2, .int (zI v2)), (3, .int (zI v3)), (4, .int (zI v4)), (6, .int (zI v6)), (7, .int (zI v7))]) C d_G_letIn_69 rfl rfl ?_
      refine j_iload C d_G_letIn_71 7 rfl ?_
      refine j_aload_n C d_G_letIn_73 2 rfl rfl ?_
      refine j_iload_n C d_G_letIn_74 3 rfl rfl ?_
      refine j_iload_n C d_G_letIn_75 4 rfl rfl ?_
      refine j_callV C d_G_letIn_76 ml_G_54 mi_S_spanFrom (c_S_spanFrom (xl X) (gD G) (gad G) (gca G) (v1 := v2) (v2 := v3) hσ r2 r3 h) sh_0 rfl rfl rfl rfl rfl rfl rfl (fun z10 σ11 rz10 hσ11 h => ?_)
      obtain ⟨ez10, h⟩ := h; subst ez10
      refine j_iadd C d_G_letIn_79 ?_
      obtain ⟨g12, h⟩ := h
      refine j_istore (L' := [(9, .int (zI (v7 + z10))), (8, .int (zI (min (v7 + v6) (2880 - v4)))), (0, .ref (gad G 62)), (1, .ref (gad G 0)), (2, .int (zI v2)), (3, .int (zI v3)), (4, .int (zI v4)), (6, .int (zI v6)), (7, .int (zI v7))]) C d_G_letIn_80 rfl rfl ?_
      obtain ⟨n19, h⟩ := h
      refine j_sub (L' := [(0, .ref (gad G 62)), (1, .ref (gad G 0)), (2, .int (zI v2)), (3, .int (zI v3)), (4, .int (zI v4)), (6, .int (zI v6)), (7, .int (zI v7)), (8, .int (zI (min (v7 + v6) (2880 - v4)))), (9, .int (zI (v7 + z10)))]) [2, 3, 4, 5, 6, 7, 8, 1, 0] rfl ?_
      refine w_G_letIn_L82 C r2 r3 r4 r6 r7 (zMin_rg g8 g9) ?_ n19 σ (v7 + z10) hσ g12 h
      · intro σ17 hσ17 h
        obtain ⟨g18, h⟩ := h
        refine j_iincW (L' := [(7, .int (zI (v7 + 1440))), (0, .ref (gad G 62)), (1, .ref (gad G 0)), (2, .int (zI v2)), (3, .int (zI v3)), (4, .int (zI v4)), (6, .int (zI v6))]) C d_G_letIn_108 6 rfl rfl rfl ?_
        refine j_goto (tgt := 47) C d_G_letIn_114 rfl ?_
        refine j_sub (L' := [(0, .ref (gad G 62)), (1, .ref (gad G 0)), (2, .int (zI v2)), (3, .int (zI v3)), (4, .int (zI v4)), (6, .int (zI v6)), (7, .int (zI (v7 + 1440)))]) [1, 2, 3, 4, 5, 6, 0] rfl ?_
        exact ih σ17 (v7 + 1440) hσ17 g18 h
set_option maxRecDepth 100000 in
set_option maxHeartbeats 4000000 in
theorem w_G_letIn_b41 {X : zX} {G : zG} (C : zC X G b_G_letIn "GateRoads$Gates" 10 (none) 1 22) {Q : zM → Prop} (σ : zM) (v2 : Int) (v3 : Int) (v4 : Int) (s0 : Int) (s1 : Int) (hσ : zRM σ) (r2 : zR v2) (r3 : zR v3) (r4 : zR v4) (rs0 : zR s0) (rs1 : zR s1) (h : wp_G_letIn_b41 Q σ v2 v3 v4 s0 s1) : zJ X G (zQv X G Q) 10 41 [(0, .ref (gad G 62)), (1, .ref (gad G 0)), (2, .int (zI v2)), (3, .int (zI v3)), (4, .int (zI v4))] [.int (zI s1), .int (zI s0)] σ := by
  unfold wp_G_letIn_b41 at h
  refine j_isub C d_G_letIn_41 ?_
  obtain ⟨g7, h⟩ := h
  refine j_istore (L' := [(6, .int (zI (s0 - s1))), (0, .ref (gad G 62)), (1, .ref (gad G 0)), (2, .int (zI v2)), (3, .int (zI v3)), (4, .int (zI v4))]) C d_G_letIn_42 rfl rfl ?_
  refine j_iconst C d_G_letIn_44 ?_
  refine j_istore (L' := [(7, .int (zI 0)), (6, .int (zI (s0 - s1))), (0, .ref (gad G 62)), (1, .ref (gad G 0)), (2, .int (zI v2)), (3, .int (zI v3)), (4, .int (zI v4))]) C d_G_letIn_45 rfl rfl ?_
  obtain ⟨n20, h⟩ := h
  refine j_sub (L' := [(0, .ref (gad G 62)), (1, .ref (gad G 0)), (2, .int (zI v2)), (3, .int (zI v3)), (4, .int (zI v4)), (6, .int (zI (s0 - s1))), (7, .int (zI 0))]) [2, 3, 4, 5, 6, 1, 0] rfl ?_
  refine w_G_letIn_L47 C r2 r3 r4 g7 n20 σ 0 hσ (zR_of (x := 0) rfl) h
set_option maxRecDepth 100000 in
set_option maxHeartbeats 4000000 in
theorem w_G_letIn_b22 {X : zX} {G : zG} (C : zC X G b_G_letIn "GateRoads$Gates" 10 (none) 1 22) {Q : zM → Prop} (σ : zM) (v2 : Int) (v3 : Int) (v4 : Int) (s0 : Int) (hσ : zRM σ) (r2 : zR v2) (r3 : zR v3) (r4 : zR v4) (rs0 : zR s0) (h : wp_G_letIn_b22 Q σ v2 v3 v4 s0) : zJ X G (zQv X G Q) 10 22 [(0, .ref (gad G 62)), (1, .ref (gad G 0)), (2, .int (zI v2)), (3, .int (zI v3)), (4, .int (zI v4))] [.int (zI s0)] σ := by
  unfold wp_G_letIn_b22 at h
  refine j_istore (L' := [(5, .int (zI s0)), (0, .ref (gad G 62)), (1, .ref (gad G 0)), (2, .int (zI v2)), (3, .int (zI v3)), (4, .int (zI v4))]) C d_G_letIn_22 rfl rfl ?_
  refine j_aload_n C d_G_letIn_24 2 rfl rfl ?_
  refine j_iload_n C d_G_letIn_25 3 rfl rfl ?_
  refine j_iload_n C d_G_letIn_26 4 rfl rfl ?_
  refine j_callV C d_G_letIn_27 ml_G_46 mi_S_spanTo (c_S_spanTo (xl X) (gD G) (gad G) (gca G) (v1 := v2) (v2 := v3) hσ r2 r3 h) sh_0 rfl rfl rfl rfl rfl rfl rfl (fun z5 σ6 rz5 hσ6 h => ?_)
  obtain ⟨ez5, h⟩ := h; subst ez5
  refine j_iload C d_G_letIn_30 0 rfl ?_
  refine j_if_eq (tgt := 40) C d_G_letIn_32 rfl rs0 (fun c => ?_) (fun c => ?_)
  · have h := h.1 c
    refine j_iconst C d_G_letIn_40 ?_
    refine j_sub (L' := [(0, .ref (gad G 62)), (1, .ref (gad G 0)), (2, .int (zI v2)), (3, .int (zI v3)), (4, .int (zI v4))]) [1, 2, 3, 4, 5] rfl ?_
    refine w_G_letIn_b41 C σ v2 v3 v4 z5 1 hσ r2 r3 r4 rz5 (zR_of (x := 1) rfl) h
  · have h := h.2 c
    refine j_iload C d_G_letIn_35 5 rfl ?_
    refine j_goto (tgt := 41) C d_G_letIn_37 rfl ?_
    refine j_sub (L' := [(0, .ref (gad G 62)), (1, .ref (gad G 0)), (2, .int (zI v2)), (3, .int (zI v3)), (4, .int (zI v4))]) [1, 2, 3, 4, 5] rfl ?_
    refine w_G_letIn_b41 C σ v2 v3 v4 z5 v4 hσ r2 r3 r4 rz5 r4 h
set_option maxRecDepth 100000 in
set_option maxHeartbeats 4000000 in
theorem c_G_letIn (l : Launch) (D : va_G) (ad : Nat → Nat) (ca : Nat → ClassId) {σ : zM} {v2 : Int} {v3 : Int} {Q : zM → Prop} (hσ : zRM σ) (r2 : zR v2) (r3 : zR v3) (h : wp_G_letIn σ v2 v3 Q) : zCv l D ad ca y_G_letIn b_G_letIn 10 (zrm 1 22) [.ref (ad 62), .ref (ad 0), .int (zI v2), .int (zI v3)] σ Q := by
  refine zCv_of (by decide +kernel) (Nat.le_of_ble_eq_true rfl) ?_
  intro X G C hl hD had hca
  subst hl hD had hca
  have C : zC X G b_G_letIn "GateRoads$Gates" 10 (none) 1 22 := C
  show zJ X G (zQv X G Q) 10 0 [(0, .ref (gad G 62)), (1, .ref (gad G 0)), (2, .int (zI v2)), (3, .int (zI v3))] [] σ
  unfold wp_G_letIn at h
  refine j_aload_n C d_G_letIn_0 1 rfl rfl ?_
  refine j_iload_n C d_G_letIn_1 2 rfl rfl ?_
  refine j_iconst C d_G_letIn_2 ?_
  refine j_callV C d_G_letIn_3 ml_G_31 mi_S_ofRoads (c_S_ofRoads (xl X) (gD G) (gad G) (gca G) (v1 := v2) (v2 := 2) hσ r2 (zR_of (x := 2) rfl) h) sh_0 rfl rfl rfl rfl rfl rfl rfl (fun z1 σ2 rz1 hσ2 h => ?_)
  obtain ⟨ez1, h⟩ := h; subst ez1
  refine j_istore (L' := [(4, .int (zI z1)), (0, .ref (gad G 62)), (1, .ref (gad G 0)), (2, .int (zI v2)), (3, .int (zI v3))]) C d_G_letIn_6 rfl rfl ?_
  refine j_aload_n C d_G_letIn_8 2 rfl rfl ?_
  refine j_iload_n C d_G_letIn_9 3 rfl rfl ?_
  refine j_iconst C d_G_letIn_10 ?_
  refine j_callV C d_G_letIn_11 ml_G_31 mi_S_ofRoads (c_S_ofRoads (xl X) (gD G) (gad G) (gca G) (v1 := v2) (v2 := 3) hσ r2 (zR_of (x := 3) rfl) h) sh_0 rfl rfl rfl rfl rfl rfl rfl (fun z3 σ4 rz3 hσ4 h => ?_)
  obtain ⟨ez3, h⟩ := h; subst ez3
  refine j_if_eq (tgt := 21) C d_G_letIn_14 rfl rz3 (fun c => ?_) (fun c => ?_)
  · have h := h.1 c
    refine j_iconst C d_G_letIn_21 ?_
    refine j_sub (L' := [(0, .ref (gad G 62)), (1, .ref (gad G 0)), (2, .int (zI v2)), (3, .int (zI v3)), (4, .int (zI z1))]) [1, 2, 3, 4, 0] rfl ?_
    refine w_G_letIn_b22 C σ v2 v3 z1 0 hσ r2 r3 rz1 (zR_of (x := 0) rfl) h
  · have h := h.2 c
    refine j_iconst C d_G_letIn_17 ?_
    refine j_goto (tgt := 22) C d_G_letIn_18 rfl ?_
    refine j_sub (L' := [(0, .ref (gad G 62)), (1, .ref (gad G 0)), (2, .int (zI v2)), (3, .int (zI v3)), (4, .int (zI z1))]) [1, 2, 3, 4, 0] rfl ?_
    refine w_G_letIn_b22 C σ v2 v3 z1 1 hσ r2 r3 rz1 (zR_of (x := 1) rfl) h
set_option maxRecDepth 100000 in
set_option maxHeartbeats 4000000 in
theorem w_G_shut_L27 {X : zX} {G : zG} (C : zC X G b_G_shut "GateRoads$Gates" 6 (none) 1 22) {v3 : Int} {v4 : Int} (r3 : zR v3) (r4 : zR v4) {Q : zM → Prop} : ∀ (n : Nat) (σ : zM) (v5 : Int) (hσ : zRM σ) (r5 : zR v5), wp_G_shut_L27 v3 v4 Q n σ v5 → zJ X G (zQv X G Q) 6 27 [(0, .ref (gad G 62)), (3, .int (zI v3)), (4, .int (zI v4)), (5, .int (zI v5))] [] σ := by
  intro n
  induction n with
  | zero => intro σ v5 hσ r5 h; exact False.elim h
  | succ n ih =>
    intro σ v5 hσ r5 h
    rw [wp_G_shut_L27] at h
    refine j_iload C d_G_shut_27 3 rfl ?_
    refine j_iload C d_G_shut_29 2 rfl ?_
    refine j_icmp_ge (tgt := 51) C d_G_shut_31 rfl r5 r4 (fun c => ?_) (fun c => ?_)
    · have h := h.1 c
      exact j_vreturn C d_G_shut_51 hσ h
    · have h := h.2 c
      refine j_aload_n C d_G_shut_34 0 rfl rfl ?_
      refine j_getr (kf := 0) (m := 63) C d_G_shut_35 sh_62 rfl i_G rfl rfl fl_G_9 ?_
      refine j_iload C d_G_shut_38 3 rfl ?_
      refine j_dup2 C d_G_shut_40 rfl rfl ?_
      obtain ⟨g7, h⟩ := h
      refine j_iaload C d_G_shut_41 sh_63 g7 ?_
      refine j_iload_n C d_G_shut_42 1 rfl rfl ?_
      refine j_iand C d_G_shut_43 ?_
      obtain ⟨g8, h⟩ := h
      refine j_iastore C d_G_shut_44 sh_63 g8 ?_
      refine j_mem (fun σ9 eσ9 => ?_)
      have h := h σ9 eσ9
      have hσ9 : zRM σ9 := by rw [eσ9]; exact zU_rg hσ _ _ (zAnd_rg _ _)
      obtain ⟨g10, h⟩ := h
      refine j_iinc (L' := [(5, .int (zI (v5 + 1))), (0, .ref (gad G 62)), (3, .int (zI v3)), (4, .int (zI v4))]) C d_G_shut_45 3 rfl rfl rfl ?_
      refine j_goto (tgt := 27) C d_G_shut_48 rfl ?_
      refine j_sub (L' := [(0, .ref (gad G 62)), (3, .int (zI v3)), (4, .int (zI v4)), (5, .int (zI (v5 + 1)))]) [1, 2, 3, 0] rfl ?_
      exact ih σ9 (v5 + 1) hσ9 g10 h
set_option maxRecDepth 100000 in
set_option maxHeartbeats 4000000 in
theorem c_G_shut (l : Launch) (D : va_G) (ad : Nat → Nat) (ca : Nat → ClassId) {σ : zM} {v2 : Int} {Q : zM → Prop} (hσ : zRM σ) (r2 : zR v2) (h : wp_G_shut σ v2 Q) : zCv l D ad ca y_G_shut b_G_shut 6 (zrm 1 22) [.ref (ad 62), .ref (ad 0), .int (zI v2)] σ Q := by
  refine zCv_of (by decide +kernel) (Nat.le_of_ble_eq_true rfl) ?_
  intro X G C hl hD had hca
  subst hl hD had hca
  have C : zC X G b_G_shut "GateRoads$Gates" 6 (none) 1 22 := C
  show zJ X G (zQv X G Q) 6 0 [(0, .ref (gad G 62)), (1, .ref (gad G 0)), (2, .int (zI v2))] [] σ
  unfold wp_G_shut at h
  refine j_iconst C d_G_shut_0 ?_
  refine j_aload_n C d_G_shut_1 1 rfl rfl ?_
  refine j_iload_n C d_G_shut_2 2 rfl rfl ?_
  refine j_iconst C d_G_shut_3 ?_
  refine j_callV C d_G_shut_4 ml_G_57 mi_S_ofClosures (c_S_ofClosures (xl X) (gD G) (gad G) (gca G) (v1 := v2) (v2 := 0) hσ r2 (zR_of (x := 0) rfl) h) sh_0 rfl rfl rfl rfl rfl rfl rfl (fun z1 σ2 rz1 hσ2 h => ?_)
  obtain ⟨ez1, h⟩ := h; subst ez1
  refine j_ishl C d_G_shut_7 ?_
  refine j_iconst C d_G_shut_8 ?_
  refine j_ixor C d_G_shut_9 ?_
  refine j_istore_n (L' := [(3, .int (zI (zXor (zShl 1 z1) (-1)))), (0, .ref (gad G 62)), (1, .ref (gad G 0)), (2, .int (zI v2))]) C d_G_shut_10 rfl rfl rfl ?_
  refine j_aload_n C d_G_shut_11 2 rfl rfl ?_
  refine j_iload_n C d_G_shut_12 3 rfl rfl ?_
  refine j_iconst C d_G_shut_13 ?_
  refine j_callV C d_G_shut_14 ml_G_57 mi_S_ofClosures (c_S_ofClosures (xl X) (gD G) (gad G) (gca G) (v1 := v2) (v2 := 2) hσ r2 (zR_of (x := 2) rfl) h) sh_0 rfl rfl rfl rfl rfl rfl rfl (fun z3 σ4 rz3 hσ4 h => ?_)
  obtain ⟨ez3, h⟩ := h; subst ez3
  refine j_istore (L' := [(4, .int (zI z3)), (3, .int (zI (zXor (zShl 1 z1) (-1)))), (0, .ref (gad G 62)), (1, .ref (gad G 0)), (2, .int (zI v2))]) C d_G_shut_17 rfl rfl ?_
  refine j_aload_n C d_G_shut_19 3 rfl rfl ?_
  refine j_iload_n C d_G_shut_20 4 rfl rfl ?_
  refine j_iconst C d_G_shut_21 ?_
  refine j_callV C d_G_shut_22 ml_G_57 mi_S_ofClosures (c_S_ofClosures (xl X) (gD G) (gad G) (gca G) (v1 := v2) (v2 := 1) hσ r2 (zR_of (x := 1) rfl) h) sh_0 rfl rfl rfl rfl rfl rfl rfl (fun z5 σ6 rz5 hσ6 h => ?_)
  obtain ⟨ez5, h⟩ := h; subst ez5
  refine j_istore (L' := [(5, .int (zI z5)), (4, .int (zI z3)), (3, .int (zI (zXor (zShl 1 z1) (-1)))), (0, .ref (gad G 62)), (1, .ref (gad G 0)), (2, .int (zI v2))]) C d_G_shut_25 rfl rfl ?_
  obtain ⟨n11, h⟩ := h
  refine j_sub (L' := [(0, .ref (gad G 62)), (3, .int (zI (zXor (zShl 1 z1) (-1)))), (4, .int (zI z3)), (5, .int (zI z5))]) [3, 2, 1, 0] rfl ?_
  refine w_G_shut_L27 C (zXor_rg _ _) rz3 n11 σ z5 hσ rz5 h
set_option maxRecDepth 100000 in
set_option maxHeartbeats 4000000 in
theorem w_G_prepare_L36 {X : zX} {G : zG} (C : zC X G b_G_prepare "GateRoads$Gates" 5 (none) 2 51) {v2 : Int} {v3 : Int} (r2 : zR v2) (r3 : zR v3) {Q : zM → Prop} {k56 : zM → Prop} (hk56 : ∀ (σ : zM), zRM σ → k56 σ → zJ X G (zQv X G Q) 5 56 [(0, .ref (gad G 62)), (1, .ref (gad G 0)), (2, .int (zI v2))] [] σ) : ∀ (n : Nat) (σ : zM) (v4 : Int) (hσ : zRM σ) (r4 : zR v4), wp_G_prepare_L36 v2 v3 k56 Q n σ v4 → zJ X G (zQv X G Q) 5 36 [(0, .ref (gad G 62)), (1, .ref (gad G 0)), (2, .int (zI v2)), (3, .int (zI v3)), (4, .int (zI v4))] [] σ := by
  intro n
  induction n with
  | zero => intro σ v4 hσ r4 h; exact False.elim h
  | succ n ih =>
    intro σ v4 hσ r4 h
    rw [wp_G_prepare_L36] at h
    refine j_iload C d_G_prepare_36 4 rfl ?_
    refine j_iload_n C d_G_prepare_38 3 rfl rfl ?_
    refine j_icmp_ge (tgt := 56) C d_G_prepare_39 rfl r4 r3 (fun c => ?_) (fun c => ?_)
    · have h := h.1 c
      refine j_sub (L' := [(0, .ref (gad G 62)), (1, .ref (gad G 0)), (2, .int (zI v2))]) [0, 1, 2] rfl ?_
      exact hk56 σ hσ h
    · have h := h.2 c
      refine j_aload_n C d_G_prepare_42 0 rfl rfl ?_
      refine j_aload_n C d_G_prepare_43 1 rfl rfl ?_
      refine j_iload_n C d_G_prepare_44 2 rfl rfl ?_
      refine j_iload C d_G_prepare_45 4 rfl ?_
      refine j_callVv C d_G_prepare_47 ml_G_35 mi_G_letIn (c_G_letIn (xl X) (gD G) (gad G) (gca G) (v2 := v2) (v3 := v4) hσ r2 r4 h) sh_62 rfl rfl rfl rfl rfl rfl rfl (fun σ5 hσ5 h => ?_)
      obtain ⟨g6, h⟩ := h
      refine j_iinc (L' := [(4, .int (zI (v4 + 1))), (0, .ref (gad G 62)), (1, .ref (gad G 0)), (2, .int (zI v2)), (3, .int (zI v3))]) C d_G_prepare_50 4 rfl rfl rfl ?_
      refine j_goto (tgt := 36) C d_G_prepare_53 rfl ?_
      refine j_sub (L' := [(0, .ref (gad G 62)), (1, .ref (gad G 0)), (2, .int (zI v2)), (3, .int (zI v3)), (4, .int (zI (v4 + 1)))]) [1, 2, 3, 4, 0] rfl ?_
      exact ih σ5 (v4 + 1) hσ5 g6 h
set_option maxRecDepth 100000 in
set_option maxHeartbeats 4000000 in
theorem w_G_prepare_L18 {X : zX} {G : zG} (C : zC X G b_G_prepare "GateRoads$Gates" 5 (none) 2 51) {Q : zM → Prop} {k62 : zM → Prop} (hk62 : ∀ (σ : zM), zRM σ → k62 σ → zJ X G (zQv X G Q) 5 62 [(0, .ref (gad G 62)), (1, .ref (gad G 0))] [] σ) : ∀ (n : Nat) (σ : zM) (v2 : Int) (hσ : zRM σ) (r2 : zR v2), wp_G_prepare_L18 k62 Q n σ v2 → zJ X G (zQv X G Q) 5 18 [(0, .ref (gad G 62)), (1, .ref (gad G 0)), (2, .int (zI v2))] [] σ := by
  intro n
  induction n with
  | zero => intro σ v2 hσ r2 h; exact False.elim h
  | succ n ih =>
    intro σ v2 hσ r2 h
    rw [wp_G_prepare_L18] at h
    refine j_iload_n C d_G_prepare_18 2 rfl rfl ?_
    refine j_aload_n C d_G_prepare_19 1 rfl rfl ?_
    refine j_geti (kf := 5) (kI := 5) C d_G_prepare_20 sh_0 rfl i_S rfl rfl rfl fl_G_25 ?_
    refine j_icmp_ge (tgt := 62) C d_G_prepare_23 rfl r2 (hσ _ _) (fun c => ?_) (fun c => ?_)
    · have h := h.1 c
      refine j_sub (L' := [(0, .ref (gad G 62)), (1, .ref (gad G 0))]) [0, 1] rfl ?_
      exact hk62 σ hσ h
    · have h := h.2 c
      refine j_aload_n C d_G_prepare_26 1 rfl rfl ?_
      refine j_iload_n C d_G_prepare_27 2 rfl rfl ?_
      refine j_iconst C d_G_prepare_28 ?_
      refine j_callV C d_G_prepare_29 ml_G_31 mi_S_ofRoads (c_S_ofRoads (xl X) (gD G) (gad G) (gca G) (v1 := v2) (v2 := 4) hσ r2 (zR_of (x := 4) rfl) h) sh_0 rfl rfl rfl rfl rfl rfl rfl (fun z2 σ3 rz2 hσ3 h => ?_)
      obtain ⟨ez2, h⟩ := h; subst ez2
      refine j_istore_n (L' := [(3, .int (zI z2)), (0, .ref (gad G 62)), (1, .ref (gad G 0)), (2, .int (zI v2))]) C d_G_prepare_32 rfl rfl rfl ?_
      refine j_iconst C d_G_prepare_33 ?_
      refine j_istore (L' := [(4, .int (zI 0)), (3, .int (zI z2)), (0, .ref (gad G 62)), (1, .ref (gad G 0)), (2, .int (zI v2))]) C d_G_prepare_34 rfl rfl ?_
      obtain ⟨n9, h⟩ := h
      refine j_sub (L' := [(0, .ref (gad G 62)), (1, .ref (gad G 0)), (2, .int (zI v2)), (3, .int (zI z2)), (4, .int (zI 0))]) [2, 3, 4, 1, 0] rfl ?_
      refine w_G_prepare_L36 C r2 rz2 ?_ n9 σ 0 hσ (zR_of (x := 0) rfl) h
      · intro σ7 hσ7 h
        obtain ⟨g8, h⟩ := h
        refine j_iinc (L' := [(2, .int (zI (v2 + 1))), (0, .ref (gad G 62)), (1, .ref (gad G 0))]) C d_G_prepare_56 2 rfl rfl rfl ?_
        refine j_goto (tgt := 18) C d_G_prepare_59 rfl ?_
        refine j_sub (L' := [(0, .ref (gad G 62)), (1, .ref (gad G 0)), (2, .int (zI (v2 + 1)))]) [1, 2, 0] rfl ?_
        exact ih σ7 (v2 + 1) hσ7 g8 h
set_option maxRecDepth 100000 in
set_option maxHeartbeats 4000000 in
theorem w_G_prepare_L64 {X : zX} {G : zG} (C : zC X G b_G_prepare "GateRoads$Gates" 5 (none) 2 51) {Q : zM → Prop} : ∀ (n : Nat) (σ : zM) (v2 : Int) (hσ : zRM σ) (r2 : zR v2), wp_G_prepare_L64 Q n σ v2 → zJ X G (zQv X G Q) 5 64 [(0, .ref (gad G 62)), (1, .ref (gad G 0)), (2, .int (zI v2))] [] σ := by
  intro n
  induction n with
  | zero => intro σ v2 hσ r2 h; exact False.elim h
  | succ n ih =>
    intro σ v2 hσ r2 h
    rw [wp_G_prepare_L64] at h
    refine j_iload_n C d_G_prepare_64 2 rfl rfl ?_
    refine j_aload_n C d_G_prepare_65 1 rfl rfl ?_
    refine j_geti (kf := 6) (kI := 6) C d_G_prepare_66 sh_0 rfl i_S rfl rfl rfl fl_G_39 ?_
    refine j_icmp_ge (tgt := 84) C d_G_prepare_69 rfl r2 (hσ _ _) (fun c => ?_) (fun c => ?_)
    · have h := h.1 c
      refine j_aload_n C d_G_prepare_84 0 rfl rfl ?_
      refine j_iconst C d_G_prepare_85 ?_
      refine j_puti (kf := 1) (kI := 1) C t_G d_G_prepare_86 sh_62 rfl i_G t_G_ok n_G rfl rfl rfl fl_G_15 rfl (Or.inr ⟨rfl, by decide⟩) ?_
      refine j_mem (fun σ11 eσ11 => ?_)
      have h := h σ11 eσ11
      have hσ11 : zRM σ11 := by rw [eσ11]; exact zU_rg hσ _ _ (zR_of (x := 1) rfl)
      exact j_vreturn C d_G_prepare_89 hσ11 h
    · have h := h.2 c
      refine j_aload_n C d_G_prepare_72 0 rfl rfl ?_
      refine j_aload_n C d_G_prepare_73 1 rfl rfl ?_
      refine j_iload_n C d_G_prepare_74 2 rfl rfl ?_
      refine j_callVv C d_G_prepare_75 ml_G_42 mi_G_shut (c_G_shut (xl X) (gD G) (gad G) (gca G) (v2 := v2) hσ r2 h) sh_62 rfl rfl rfl rfl rfl rfl rfl (fun σ13 hσ13 h => ?_)
      obtain ⟨g14, h⟩ := h
      refine j_iinc (L' := [(2, .int (zI (v2 + 1))), (0, .ref (gad G 62)), (1, .ref (gad G 0))]) C d_G_prepare_78 2 rfl rfl rfl ?_
      refine j_goto (tgt := 64) C d_G_prepare_81 rfl ?_
      refine j_sub (L' := [(0, .ref (gad G 62)), (1, .ref (gad G 0)), (2, .int (zI (v2 + 1)))]) [1, 2, 0] rfl ?_
      exact ih σ13 (v2 + 1) hσ13 g14 h
set_option maxRecDepth 100000 in
set_option maxHeartbeats 4000000 in
theorem c_G_prepare (l : Launch) (D : va_G) (ad : Nat → Nat) (ca : Nat → ClassId) {σ : zM} {Q : zM → Prop} (hσ : zRM σ) (h : wp_G_prepare σ Q) : zCv l D ad ca y_G_prepare b_G_prepare 5 (zrm 2 51) [.ref (ad 62), .ref (ad 0)] σ Q := by
  refine zCv_of (by decide +kernel) (Nat.le_of_ble_eq_true rfl) ?_
  intro X G C hl hD had hca
  subst hl hD had hca
  have C : zC X G b_G_prepare "GateRoads$Gates" 5 (none) 2 51 := C
  show zJ X G (zQv X G Q) 5 0 [(0, .ref (gad G 62)), (1, .ref (gad G 0))] [] σ
  unfold wp_G_prepare at h
  refine j_aload_n C d_G_prepare_0 0 rfl rfl ?_
  refine j_geti (kf := 1) (kI := 1) C d_G_prepare_1 sh_62 rfl i_G rfl rfl rfl fl_G_15 ?_
  refine j_if_eq (tgt := 8) C d_G_prepare_4 rfl (hσ _ _) (fun c => ?_) (fun c => ?_)
  · have h := h.1 c
    refine j_aload_n C d_G_prepare_8 0 rfl rfl ?_
    refine j_getr (kf := 0) (m := 63) C d_G_prepare_9 sh_62 rfl i_G rfl rfl fl_G_9 ?_
    refine j_iconst C d_G_prepare_12 ?_
    refine j_callSv C d_G_prepare_13 ml_G_19 ms_Ar_fill_0 (c_Ar_fill_0 (xl X) (gD G) (gad G) (gca G) hσ sh_63 (zR_of (x := 0) rfl)) rfl rfl rfl rfl rfl (fun σ1 hσ1 eσ1 => ?_)
    have h := h σ1 eσ1
    refine j_iconst C d_G_prepare_16 ?_
    refine j_istore_n (L' := [(2, .int (zI 0)), (0, .ref (gad G 62)), (1, .ref (gad G 0))]) C d_G_prepare_17 rfl rfl rfl ?_
    obtain ⟨n16, h⟩ := h
    refine j_sub (L' := [(0, .ref (gad G 62)), (1, .ref (gad G 0)), (2, .int (zI 0))]) [1, 2, 0] rfl ?_
    refine w_G_prepare_L18 C ?_ n16 σ1 0 hσ1 (zR_of (x := 0) rfl) h
    · intro σ10 hσ10 h
      refine j_iconst C d_G_prepare_62 ?_
      refine j_istore_n (L' := [(2, .int (zI 0)), (0, .ref (gad G 62)), (1, .ref (gad G 0))]) C d_G_prepare_63 rfl rfl rfl ?_
      obtain ⟨n15, h⟩ := h
      refine j_sub (L' := [(0, .ref (gad G 62)), (1, .ref (gad G 0)), (2, .int (zI 0))]) [1, 2, 0] rfl ?_
      refine w_G_prepare_L64 C n15 σ10 0 hσ10 (zR_of (x := 0) rfl) h
  · have h := h.2 c
    exact j_vreturn C d_G_prepare_7 hσ h
set_option maxRecDepth 100000 in
set_option maxHeartbeats 4000000 in
theorem c_O_start (l : Launch) (D : va_G) (ad : Nat → Nat) (ca : Nat → ClassId) {σ : zM} {o : Nat} {v1 : Int} {v2 : Int} {Q : zM → Prop} (hσ : zRM σ) (ho : zOn o) (r1 : zR v1) (r2 : zR v2) (h : wp_O_start σ o v1 v2 Q) : zCv l D ad ca y_O_start b_O_start 3 (zrm 1 23) [.ref (ad o), .int (zI v1), .int (zI v2)] σ Q := by
  refine zCv_of (by decide +kernel) (Nat.le_of_ble_eq_true rfl) ?_
  intro X G C hl hD had hca
  subst hl hD had hca
  have C : zC X G b_O_start "GateRoads$Onward" 3 (none) 1 23 := C
  show zJ X G (zQv X G Q) 3 0 [(0, .ref (gad G o)), (1, .int (zI v1)), (2, .int (zI v2))] [] σ
  unfold wp_O_start at h
  refine j_aload_n C d_O_start_0 0 rfl rfl ?_
  refine j_getr (kf := 0) (m := o + 1) C d_O_start_1 ho.1 rfl i_O rfl rfl fl_O_9 ?_
  refine j_iconst C d_O_start_4 ?_
  refine j_callSv C d_O_start_5 ml_O_18 ms_Ar_fill_0 (c_Ar_fill_0 (xl X) (gD G) (gad G) (gca G) hσ ho.2.1 (zR_of (x := 0) rfl)) rfl rfl rfl rfl rfl (fun σ1 hσ1 eσ1 => ?_)
  have h := h σ1 eσ1
  refine j_aload_n C d_O_start_8 0 rfl rfl ?_
  refine j_getr (kf := 1) (m := o + 2) C d_O_start_9 ho.1 rfl i_O rfl rfl fl_O_15 ?_
  refine j_bipush C d_O_start_12 rfl ?_
  refine j_callSv C d_O_start_14 ml_O_18 ms_Ar_fill_0 (c_Ar_fill_0 (xl X) (gD G) (gad G) (gca G) hσ1 ho.2.2 (zR_of (x := (-6)) rfl)) rfl rfl rfl rfl rfl (fun σ2 hσ2 eσ2 => ?_)
  have h := h σ2 eσ2
  refine j_aload_n C d_O_start_17 0 rfl rfl ?_
  refine j_getr (kf := 1) (m := o + 2) C d_O_start_18 ho.1 rfl i_O rfl rfl fl_O_15 ?_
  refine j_iload_n C d_O_start_21 1 rfl rfl ?_
  refine j_iload_n C d_O_start_22 2 rfl rfl ?_
  obtain ⟨g3, h⟩ := h
  refine j_iastore C d_O_start_23 ho.2.2 g3 ?_
  refine j_mem (fun σ4 eσ4 => ?_)
  have h := h σ4 eσ4
  have hσ4 : zRM σ4 := by rw [eσ4]; exact zU_rg hσ2 _ _ r2
  exact j_vreturn C d_O_start_24 hσ4 h
set_option maxRecDepth 100000 in
set_option maxHeartbeats 4000000 in
theorem c_O_comersAt (l : Launch) (D : va_G) (ad : Nat → Nat) (ca : Nat → ClassId) {σ : zM} {o : Nat} {v1 : Int} {Q : Int → Prop} (hσ : zRM σ) (ho : zOn o) (r1 : zR v1) (h : wp_O_comersAt σ o v1 Q) : zCi l D ad ca y_O_comersAt b_O_comersAt 2 (some .int) (zrm 0 0) [.ref (ad o), .int (zI v1)] σ (fun z u => σ = u ∧ Q z) := by
  refine zCi_of (by decide +kernel) (Nat.le_of_ble_eq_true rfl) ?_
  intro X G C hl hD had hca
  subst hl hD had hca
  have C : zC X G b_O_comersAt "GateRoads$Onward" 2 (some .int) 0 0 := C
  show zJ X G (zQi X G (fun z u => σ = u ∧ Q z)) 2 0 [(0, .ref (gad G o)), (1, .int (zI v1))] [] σ
  unfold wp_O_comersAt at h
  refine j_aload_n C d_O_comersAt_0 0 rfl rfl ?_
  refine j_getr (kf := 0) (m := o + 1) C d_O_comersAt_1 ho.1 rfl i_O rfl rfl fl_O_9 ?_
  refine j_iload_n C d_O_comersAt_4 1 rfl rfl ?_
  refine j_sipush C d_O_comersAt_5 rfl ?_
  refine j_iand C d_O_comersAt_8 ?_
  obtain ⟨g1, h⟩ := h
  refine j_iaload C d_O_comersAt_9 ho.2.1 g1 ?_
  exact j_ireturn C d_O_comersAt_10 (hσ _ _) hσ ⟨rfl, h⟩
set_option maxRecDepth 100000 in
set_option maxHeartbeats 4000000 in
theorem c_X_has (l : Launch) (D : va_G) (ad : Nat → Nat) (ca : Nat → ClassId) {σ : zM} {v0 : Int} {v1 : Int} {Q : Int → Prop} (hσ : zRM σ) (r0 : zR v0) (r1 : zR v1) (h : wp_X_has σ v0 v1 Q) : zCi l D ad ca y_X_has b_X_has 2 (some .boolean) (zrm 0 0) [.int (zI v0), .int (zI v1)] σ (fun z u => σ = u ∧ Q z) := by
  refine zCi_of (by decide +kernel) (Nat.le_of_ble_eq_true rfl) ?_
  intro X G C hl hD had hca
  subst hl hD had hca
  have C : zC X G b_X_has "GateRoads" 2 (some .boolean) 0 0 := C
  show zJ X G (zQi X G (fun z u => σ = u ∧ Q z)) 2 0 [(0, .int (zI v0)), (1, .int (zI v1))] [] σ
  unfold wp_X_has at h
  refine j_iload_n C d_X_has_0 0 rfl rfl ?_
  refine j_iload_n C d_X_has_1 1 rfl rfl ?_
  refine j_iushr C d_X_has_2 ?_
  refine j_iconst C d_X_has_3 ?_
  refine j_iand C d_X_has_4 ?_
  refine j_if_eq (tgt := 12) C d_X_has_5 rfl (zAnd_rg _ _) (fun c => ?_) (fun c => ?_)
  · have h := h.1 c
    refine j_iconst C d_X_has_12 ?_
    exact j_zreturn C d_X_has_13 (by decide) hσ ⟨rfl, h⟩
  · have h := h.2 c
    refine j_iconst C d_X_has_8 ?_
    refine j_goto (tgt := 13) C d_X_has_9 rfl ?_
    exact j_zreturn C d_X_has_13 (by decide) hσ ⟨rfl, h⟩
set_option maxRecDepth 100000 in
set_option maxHeartbeats 4000000 in
theorem c_G_at (l : Launch) (D : va_G) (ad : Nat → Nat) (ca : Nat → ClassId) {σ : zM} {v1 : Int} {Q : Int → Prop} (hσ : zRM σ) (r1 : zR v1) (h : wp_G_at σ v1 Q) : zCi l D ad ca y_G_at b_G_at 2 (some .int) (zrm 0 0) [.ref (ad 62), .int (zI v1)] σ (fun z u => σ = u ∧ Q z) := by
  refine zCi_of (by decide +kernel) (Nat.le_of_ble_eq_true rfl) ?_
  intro X G C hl hD had hca
  subst hl hD had hca
  have C : zC X G b_G_at "GateRoads$Gates" 2 (some .int) 0 0 := C
  show zJ X G (zQi X G (fun z u => σ = u ∧ Q z)) 2 0 [(0, .ref (gad G 62)), (1, .int (zI v1))] [] σ
  unfold wp_G_at at h
  refine j_iload_n C d_G_at_0 1 rfl rfl ?_
  refine j_if_lt (tgt := 20) C d_G_at_1 rfl r1 (fun c => ?_) (fun c => ?_)
  · have h := h.1 c
    refine j_iconst C d_G_at_20 ?_
    exact j_ireturn C d_G_at_21 (zR_of (x := 0) rfl) hσ ⟨rfl, h⟩
  · have h := h.2 c
    refine j_iload_n C d_G_at_4 1 rfl rfl ?_
    refine j_sipush C d_G_at_5 rfl ?_
    refine j_icmp_gt (tgt := 20) C d_G_at_8 rfl r1 (zR_of (x := 2880) rfl) (fun c => ?_) (fun c => ?_)
    · have h := h.1 c
      refine j_iconst C d_G_at_20 ?_
      exact j_ireturn C d_G_at_21 (zR_of (x := 0) rfl) hσ ⟨rfl, h⟩
    · have h := h.2 c
      refine j_aload_n C d_G_at_11 0 rfl rfl ?_
      refine j_getr (kf := 0) (m := 63) C d_G_at_12 sh_62 rfl i_G rfl rfl fl_G_9 ?_
      refine j_iload_n C d_G_at_15 1 rfl rfl ?_
      obtain ⟨g1, h⟩ := h
      refine j_iaload C d_G_at_16 sh_63 g1 ?_
      refine j_goto (tgt := 21) C d_G_at_17 rfl ?_
      exact j_ireturn C d_G_at_21 (hσ _ _) hσ ⟨rfl, h⟩
set_option maxRecDepth 100000 in
set_option maxHeartbeats 4000000 in
theorem c_S_waitEnd (l : Launch) (D : va_G) (ad : Nat → Nat) (ca : Nat → ClassId) {σ : zM} {v1 : Int} {v2 : Int} {Q : Int → Prop} (hσ : zRM σ) (r1 : zR v1) (r2 : zR v2) (h : wp_S_waitEnd σ v1 v2 Q) : zCi l D ad ca y_S_waitEnd b_S_waitEnd 4 (some .int) (zrm 2 47) [.ref (ad 0), .int (zI v1), .int (zI v2)] σ (fun z u => σ = u ∧ Q z) := by
  refine zCi_of (by decide +kernel) (Nat.le_of_ble_eq_true rfl) ?_
  intro X G C hl hD had hca
  subst hl hD had hca
  have C : zC X G b_S_waitEnd "GateRoads$State" 4 (some .int) 2 47 := C
  show zJ X G (zQi X G (fun z u => σ = u ∧ Q z)) 4 0 [(0, .ref (gad G 0)), (1, .int (zI v1)), (2, .int (zI v2))] [] σ
  unfold wp_S_waitEnd at h
  refine j_aload_n C d_S_waitEnd_0 0 rfl rfl ?_
  refine j_iload_n C d_S_waitEnd_1 1 rfl rfl ?_
  refine j_iload_n C d_S_waitEnd_2 2 rfl rfl ?_
  refine j_callV C d_S_waitEnd_3 ml_S_76 mi_S_openUntil (c_S_openUntil (xl X) (gD G) (gad G) (gca G) (v1 := v1) (v2 := v2) hσ r1 r2 h) sh_0 rfl rfl rfl rfl rfl rfl rfl (fun z1 σ2 rz1 hσ2 h => ?_)
  obtain ⟨ez1, h⟩ := h; subst ez1
  refine j_iload_n C d_S_waitEnd_6 2 rfl rfl ?_
  refine j_aload_n C d_S_waitEnd_7 0 rfl rfl ?_
  refine j_iload_n C d_S_waitEnd_8 1 rfl rfl ?_
  refine j_iconst C d_S_waitEnd_9 ?_
  refine j_callV C d_S_waitEnd_10 ml_S_73 mi_S_ofRooms (c_S_ofRooms (xl X) (gD G) (gad G) (gca G) (v1 := v1) (v2 := 2) hσ r1 (zR_of (x := 2) rfl) h) sh_0 rfl rfl rfl rfl rfl rfl rfl (fun z3 σ4 rz3 hσ4 h => ?_)
  obtain ⟨ez3, h⟩ := h; subst ez3
  refine j_iadd C d_S_waitEnd_13 ?_
  obtain ⟨g5, h⟩ := h
  refine j_min C d_S_waitEnd_14 ml_S_79 zs_min zi_Math zc_min rfl rfl rz1 g5 ?_
  refine j_istore_n (L' := [(3, .int (zI (min z1 (v2 + z3)))), (0, .ref (gad G 0)), (1, .int (zI v1)), (2, .int (zI v2))]) C d_S_waitEnd_17 rfl rfl rfl ?_
  refine j_iload_n C d_S_waitEnd_18 0 rfl rfl ?_
  refine j_sipush C d_S_waitEnd_19 rfl ?_
  refine j_min C d_S_waitEnd_22 ml_S_79 zs_min zi_Math zc_min rfl rfl (zMin_rg rz1 g5) (zR_of (x := 2880) rfl) ?_
  exact j_ireturn C d_S_waitEnd_25 (zMin_rg (zMin_rg rz1 g5) (zR_of (x := 2880) rfl)) hσ ⟨rfl, h⟩
set_option maxRecDepth 100000 in
set_option maxHeartbeats 4000000 in
theorem w_O_leave_b70 {X : zX} {G : zG} (C : zC X G b_O_leave "GateRoads$Onward" 7 (none) 1 22) {o : Nat} {v2 : Int} {v3 : Int} {v4 : Int} (ho : zOn o) (r2 : zR v2) (r3 : zR v3) (r4 : zR v4) {Q : zM → Prop} {k3 : zM → Int → Prop} (hk3 : ∀ (σ : zM) (v5 : Int), zRM σ → zR v5 → k3 σ v5 → zJ X G (zQv X G Q) 7 3 [(0, .ref (gad G o)), (1, .ref (gad G 0)), (2, .int (zI v2)), (3, .int (zI v3)), (4, .int (zI v4)), (5, .int (zI v5))] [] σ) (σ : zM) (v5 : Int) (hσ : zRM σ) (r5 : zR v5) (h : wp_O_leave_b70 o v2 v3 v4 k3 Q σ v5) : zJ X G (zQv X G Q) 7 70 [(0, .ref (gad G o)), (1, .ref (gad G 0)), (2, .int (zI v2)), (3, .int (zI v3)), (4, .int (zI v4)), (5, .int (zI v5))] [] σ := by
  unfold wp_O_leave_b70 at h
  obtain ⟨g3, h⟩ := h
  refine j_iinc (L' := [(5, .int (zI (v5 + 1))), (0, .ref (gad G o)), (1, .ref (gad G 0)), (2, .int (zI v2)), (3, .int (zI v3)), (4, .int (zI v4))]) C d_O_leave_70 5 rfl rfl rfl ?_
  refine j_goto (tgt := 3) C d_O_leave_73 rfl ?_
  refine j_sub (L' := [(0, .ref (gad G o)), (1, .ref (gad G 0)), (2, .int (zI v2)), (3, .int (zI v3)), (4, .int (zI v4)), (5, .int (zI (v5 + 1)))]) [1, 2, 3, 4, 5, 0] rfl ?_
  exact hk3 σ (v5 + 1) hσ g3 h
set_option maxRecDepth 100000 in
set_option maxHeartbeats 4000000 in
theorem w_O_leave_L3 {X : zX} {G : zG} (C : zC X G b_O_leave "GateRoads$Onward" 7 (none) 1 22) {o : Nat} {v2 : Int} {v3 : Int} {v4 : Int} (ho : zOn o) (r2 : zR v2) (r3 : zR v3) (r4 : zR v4) {Q : zM → Prop} : ∀ (n : Nat) (σ : zM) (v5 : Int) (hσ : zRM σ) (r5 : zR v5), wp_O_leave_L3 o v2 v3 v4 Q n σ v5 → zJ X G (zQv X G Q) 7 3 [(0, .ref (gad G o)), (1, .ref (gad G 0)), (2, .int (zI v2)), (3, .int (zI v3)), (4, .int (zI v4)), (5, .int (zI v5))] [] σ := by
  intro n
  induction n with
  | zero => intro σ v5 hσ r5 h; exact False.elim h
  | succ n ih =>
    intro σ v5 hσ r5 h
    rw [wp_O_leave_L3] at h
    refine j_iload C d_O_leave_3 5 rfl ?_
    refine j_aload_n C d_O_leave_5 1 rfl rfl ?_
    refine j_geti (kf := 5) (kI := 5) C d_O_leave_6 sh_0 rfl i_S rfl rfl rfl fl_O_43 ?_
    refine j_icmp_ge (tgt := 76) C d_O_leave_9 rfl r5 (hσ _ _) (fun c => ?_) (fun c => ?_)
    · have h := h.1 c
      exact j_vreturn C d_O_leave_76 hσ h
    · have h := h.2 c
      refine j_iload_n C d_O_leave_12 2 rfl rfl ?_
      refine j_iload C d_O_leave_13 5 rfl ?_
      refine j_callSN (host := "GateRoads") C d_O_leave_15 (by decide) ms_X_has (c_X_has (xl X) (gD G) (gad G) (gca G) (v0 := v2) (v1 := v5) hσ r2 r5 h) rfl rfl rfl rfl rfl (fun z1 σ2 rz1 hσ2 h => ?_)
      obtain ⟨ez1, h⟩ := h; subst ez1
      refine j_if_eq (tgt := 70) C d_O_leave_18 rfl rz1 (fun c => ?_) (fun c => ?_)
      · have h := h.1 c
        refine w_O_leave_b70 C ho r2 r3 r4 ih σ v5 hσ r5 h
      · have h := h.2 c
        refine j_iload_n C d_O_leave_21 3 rfl rfl ?_
        refine j_aload_n C d_O_leave_22 1 rfl rfl ?_
        refine j_iload C d_O_leave_23 5 rfl ?_
        refine j_iconst C d_O_leave_25 ?_
        refine j_callV C d_O_leave_26 ml_O_47 mi_S_ofRoads (c_S_ofRoads (xl X) (gD G) (gad G) (gca G) (v1 := v5) (v2 := 0) hσ r5 (zR_of (x := 0) rfl) h) sh_0 rfl rfl rfl rfl rfl rfl rfl (fun z4 σ5 rz4 hσ5 h => ?_)
        obtain ⟨ez4, h⟩ := h; subst ez4
        refine j_callSN (host := "GateRoads") C d_O_leave_29 (by decide) ms_X_has (c_X_has (xl X) (gD G) (gad G) (gca G) (v0 := v3) (v1 := z4) hσ r3 rz4 h) rfl rfl rfl rfl rfl (fun z6 σ7 rz6 hσ7 h => ?_)
        obtain ⟨ez6, h⟩ := h; subst ez6
        refine j_if_eq (tgt := 70) C d_O_leave_32 rfl rz6 (fun c => ?_) (fun c => ?_)
        · have h := h.1 c
          refine w_O_leave_b70 C ho r2 r3 r4 ih σ v5 hσ r5 h
        · have h := h.2 c
          refine j_iload C d_O_leave_35 4 rfl ?_
          refine j_aload_n C d_O_leave_37 1 rfl rfl ?_
          refine j_iload C d_O_leave_38 5 rfl ?_
          refine j_iconst C d_O_leave_40 ?_
          refine j_callV C d_O_leave_41 ml_O_47 mi_S_ofRoads (c_S_ofRoads (xl X) (gD G) (gad G) (gca G) (v1 := v5) (v2 := 2) hσ r5 (zR_of (x := 2) rfl) h) sh_0 rfl rfl rfl rfl rfl rfl rfl (fun z8 σ9 rz8 hσ9 h => ?_)
          obtain ⟨ez8, h⟩ := h; subst ez8
          refine j_iadd C d_O_leave_44 ?_
          obtain ⟨g10, h⟩ := h
          refine j_istore (L' := [(6, .int (zI (v4 + z8))), (0, .ref (gad G o)), (1, .ref (gad G 0)), (2, .int (zI v2)), (3, .int (zI v3)), (4, .int (zI v4)), (5, .int (zI v5))]) C d_O_leave_45 rfl rfl ?_
          refine j_aload_n C d_O_leave_47 1 rfl rfl ?_
          refine j_getr (kf := 0) (m := o + 1) C d_O_leave_48 ho.1 rfl i_O rfl rfl fl_O_9 ?_
          refine j_iload C d_O_leave_51 0 rfl ?_
          refine j_sipush C d_O_leave_53 rfl ?_
          refine j_iand C d_O_leave_56 ?_
          refine j_dup2 C d_O_leave_57 rfl rfl ?_
          obtain ⟨g11, h⟩ := h
          refine j_iaload C d_O_leave_58 ho.2.1 g11 ?_
          refine j_iconst C d_O_leave_59 ?_
          refine j_aload_n C d_O_leave_60 2 rfl rfl ?_
          refine j_iload C d_O_leave_61 6 rfl ?_
          refine j_iconst C d_O_leave_63 ?_
          refine j_callV C d_O_leave_64 ml_O_47 mi_S_ofRoads (c_S_ofRoads (xl X) (gD G) (gad G) (gca G) (v1 := v5) (v2 := 1) hσ r5 (zR_of (x := 1) rfl) h) sh_0 rfl rfl rfl rfl rfl rfl rfl (fun z12 σ13 rz12 hσ13 h => ?_)
          obtain ⟨ez12, h⟩ := h; subst ez12
          refine j_ishl C d_O_leave_67 ?_
          refine j_ior C d_O_leave_68 ?_
          obtain ⟨g14, h⟩ := h
          refine j_iastore C d_O_leave_69 ho.2.1 g14 ?_
          refine j_mem (fun σ15 eσ15 => ?_)
          have h := h σ15 eσ15
          have hσ15 : zRM σ15 := by rw [eσ15]; exact zU_rg hσ _ _ (zOr_rg _ _)
          refine j_sub (L' := [(0, .ref (gad G o)), (1, .ref (gad G 0)), (2, .int (zI v2)), (3, .int (zI v3)), (4, .int (zI v4)), (5, .int (zI v5))]) [1, 2, 3, 4, 5, 6] rfl ?_
          refine w_O_leave_b70 C ho r2 r3 r4 ih σ15 v5 hσ15 r5 h
set_option maxRecDepth 100000 in
set_option maxHeartbeats 4000000 in
theorem c_O_leave (l : Launch) (D : va_G) (ad : Nat → Nat) (ca : Nat → ClassId) {σ : zM} {o : Nat} {v2 : Int} {v3 : Int} {v4 : Int} {Q : zM → Prop} (hσ : zRM σ) (ho : zOn o) (r2 : zR v2) (r3 : zR v3) (r4 : zR v4) (h : wp_O_leave σ o v2 v3 v4 Q) : zCv l D ad ca y_O_leave b_O_leave 7 (zrm 1 22) [.ref (ad o), .ref (ad 0), .int (zI v2), .int (zI v3), .int (zI v4)] σ Q := by
  refine zCv_of (by decide +kernel) (Nat.le_of_ble_eq_true rfl) ?_
  intro X G C hl hD had hca
  subst hl hD had hca
  have C : zC X G b_O_leave "GateRoads$Onward" 7 (none) 1 22 := C
  show zJ X G (zQv X G Q) 7 0 [(0, .ref (gad G o)), (1, .ref (gad G 0)), (2, .int (zI v2)), (3, .int (zI v3)), (4, .int (zI v4))] [] σ
  unfold wp_O_leave at h
  refine j_iconst C d_O_leave_0 ?_
  refine j_istore (L' := [(5, .int (zI 0)), (0, .ref (gad G o)), (1, .ref (gad G 0)), (2, .int (zI v2)), (3, .int (zI v3)), (4, .int (zI v4))]) C d_O_leave_1 rfl rfl ?_
  obtain ⟨n16, h⟩ := h
  refine j_sub (L' := [(0, .ref (gad G o)), (1, .ref (gad G 0)), (2, .int (zI v2)), (3, .int (zI v3)), (4, .int (zI v4)), (5, .int (zI 0))]) [1, 2, 3, 4, 5, 0] rfl ?_
  refine w_O_leave_L3 C ho r2 r3 r4 n16 σ 0 hσ (zR_of (x := 0) rfl) h
set_option maxRecDepth 100000 in
set_option maxHeartbeats 4000000 in
theorem w_O_minute_b90 {X : zX} {G : zG} (C : zC X G b_O_minute "GateRoads$Onward" 7 (some .int) 3 70) {o : Nat} {v2 : Int} {v3 : Int} {v5 : Int} (ho : zOn o) (r2 : zR v2) (r3 : zR v3) (r5 : zR v5) {Q : Int → zM → Prop} {k29 : zM → Int → Int → Prop} (hk29 : ∀ (σ : zM) (v4 : Int) (v6 : Int), zRM σ → zR v4 → zR v6 → k29 σ v4 v6 → zJ X G (zQi X G Q) 7 29 [(0, .ref (gad G o)), (1, .ref (gad G 0)), (2, .int (zI v2)), (3, .int (zI v3)), (4, .int (zI v4)), (5, .int (zI v5)), (6, .int (zI v6))] [] σ) (σ : zM) (v4 : Int) (v6 : Int) (hσ : zRM σ) (r4 : zR v4) (r6 : zR v6) (h : wp_O_minute_b90 o v2 v3 v5 k29 Q σ v4 v6) : zJ X G (zQi X G Q) 7 90 [(0, .ref (gad G o)), (1, .ref (gad G 0)), (2, .int (zI v2)), (3, .int (zI v3)), (4, .int (zI v4)), (5, .int (zI v5)), (6, .int (zI v6))] [] σ := by
  unfold wp_O_minute_b90 at h
  obtain ⟨g9, h⟩ := h
  refine j_iinc (L' := [(6, .int (zI (v6 + 1))), (0, .ref (gad G o)), (1, .ref (gad G 0)), (2, .int (zI v2)), (3, .int (zI v3)), (4, .int (zI v4)), (5, .int (zI v5))]) C d_O_minute_90 6 rfl rfl rfl ?_
  refine j_goto (tgt := 29) C d_O_minute_93 rfl ?_
  refine j_sub (L' := [(0, .ref (gad G o)), (1, .ref (gad G 0)), (2, .int (zI v2)), (3, .int (zI v3)), (4, .int (zI v4)), (5, .int (zI v5)), (6, .int (zI (v6 + 1)))]) [1, 2, 3, 4, 5, 6, 0] rfl ?_
  exact hk29 σ v4 (v6 + 1) hσ r4 g9 h
set_option maxRecDepth 100000 in
set_option maxHeartbeats 4000000 in
theorem w_O_minute_b70 {X : zX} {G : zG} (C : zC X G b_O_minute "GateRoads$Onward" 7 (some .int) 3 70) {o : Nat} {v2 : Int} {v3 : Int} {v5 : Int} (ho : zOn o) (r2 : zR v2) (r3 : zR v3) (r5 : zR v5) {Q : Int → zM → Prop} {k29 : zM → Int → Int → Prop} (hk29 : ∀ (σ : zM) (v4 : Int) (v6 : Int), zRM σ → zR v4 → zR v6 → k29 σ v4 v6 → zJ X G (zQi X G Q) 7 29 [(0, .ref (gad G o)), (1, .ref (gad G 0)), (2, .int (zI v2)), (3, .int (zI v3)), (4, .int (zI v4)), (5, .int (zI v5)), (6, .int (zI v6))] [] σ) (σ : zM) (v4 : Int) (v6 : Int) (hσ : zRM σ) (r4 : zR v4) (r6 : zR v6) (h : wp_O_minute_b70 o v2 v3 v5 k29 Q σ v4 v6) : zJ X G (zQi X G Q) 7 70 [(0, .ref (gad G o)), (1, .ref (gad G 0)), (2, .int (zI v2)), (3, .int (zI v3)), (4, .int (zI v4)), (5, .int (zI v5)), (6, .int (zI v6))] [] σ := by
  unfold wp_O_minute_b70 at h
  refine j_aload_n C d_O_minute_70 0 rfl rfl ?_
  refine j_getr (kf := 1) (m := o + 2) C d_O_minute_71 ho.1 rfl i_O rfl rfl fl_O_15 ?_
  refine j_iload C d_O_minute_74 6 rfl ?_
  obtain ⟨g8, h⟩ := h
  refine j_iaload C d_O_minute_76 ho.2.2 g8 ?_
  refine j_iload_n C d_O_minute_77 3 rfl rfl ?_
  refine j_icmp_lt (tgt := 90) C d_O_minute_78 rfl (hσ _ _) r3 (fun c => ?_) (fun c => ?_)
  · have h := h.1 c
    refine w_O_minute_b90 C ho r2 r3 r5 hk29 σ v4 v6 hσ r4 r6 h
  · have h := h.2 c
    refine j_iload C d_O_minute_81 4 rfl ?_
    refine j_iconst C d_O_minute_83 ?_
    refine j_iload C d_O_minute_84 6 rfl ?_
    refine j_ishl C d_O_minute_86 ?_
    refine j_ior C d_O_minute_87 ?_
    refine j_istore (L' := [(4, .int (zI (zOr v4 (zShl 1 v6)))), (0, .ref (gad G o)), (1, .ref (gad G 0)), (2, .int (zI v2)), (3, .int (zI v3)), (5, .int (zI v5)), (6, .int (zI v6))]) C d_O_minute_88 rfl rfl ?_
    refine j_sub (L' := [(0, .ref (gad G o)), (1, .ref (gad G 0)), (2, .int (zI v2)), (3, .int (zI v3)), (4, .int (zI (zOr v4 (zShl 1 v6)))), (5, .int (zI v5)), (6, .int (zI v6))]) [1, 2, 3, 4, 0, 5, 6] rfl ?_
    refine w_O_minute_b90 C ho r2 r3 r5 hk29 σ (zOr v4 (zShl 1 v6)) v6 hσ (zOr_rg _ _) r6 h
set_option maxRecDepth 100000 in
set_option maxHeartbeats 4000000 in
theorem w_O_minute_L29 {X : zX} {G : zG} (C : zC X G b_O_minute "GateRoads$Onward" 7 (some .int) 3 70) {o : Nat} {v2 : Int} {v3 : Int} {v5 : Int} (ho : zOn o) (r2 : zR v2) (r3 : zR v3) (r5 : zR v5) {Q : Int → zM → Prop} : ∀ (n : Nat) (σ : zM) (v4 : Int) (v6 : Int) (hσ : zRM σ) (r4 : zR v4) (r6 : zR v6), wp_O_minute_L29 o v2 v3 v5 Q n σ v4 v6 → zJ X G (zQi X G Q) 7 29 [(0, .ref (gad G o)), (1, .ref (gad G 0)), (2, .int (zI v2)), (3, .int (zI v3)), (4, .int (zI v4)), (5, .int (zI v5)), (6, .int (zI v6))] [] σ := by
  intro n
  induction n with
  | zero => intro σ v4 v6 hσ r4 r6 h; exact False.elim h
  | succ n ih =>
    intro σ v4 v6 hσ r4 r6 h
    rw [wp_O_minute_L29] at h
    refine j_iload C d_O_minute_29 6 rfl ?_
    refine j_bipush C d_O_minute_31 rfl ?_
    refine j_icmp_ge (tgt := 96) C d_O_minute_33 rfl r6 (zR_of (x := 8) rfl) (fun c => ?_) (fun c => ?_)
    · have h := h.1 c
      refine j_iload C d_O_minute_96 4 rfl ?_
      refine j_if_eq (tgt := 114) C d_O_minute_98 rfl r4 (fun c => ?_) (fun c => ?_)
      · have h := h.1 c
        refine j_iload C d_O_minute_114 4 rfl ?_
        exact j_ireturn C d_O_minute_116 r4 hσ h
      · have h := h.2 c
        refine j_iload_n C d_O_minute_101 2 rfl rfl ?_
        refine j_if_eq (tgt := 114) C d_O_minute_102 rfl r2 (fun c => ?_) (fun c => ?_)
        · have h := h.1 c
          refine j_iload C d_O_minute_114 4 rfl ?_
          exact j_ireturn C d_O_minute_116 r4 hσ h
        · have h := h.2 c
          refine j_aload_n C d_O_minute_105 0 rfl rfl ?_
          refine j_aload_n C d_O_minute_106 1 rfl rfl ?_
          refine j_iload_n C d_O_minute_107 2 rfl rfl ?_
          refine j_iload C d_O_minute_108 4 rfl ?_
          refine j_iload_n C d_O_minute_110 3 rfl rfl ?_
          refine j_callVv C d_O_minute_111 ml_O_39 mi_O_leave (c_O_leave (xl X) (gD G) (gad G) (gca G) (o := o) (v2 := v2) (v3 := v4) (v4 := v3) hσ ho r2 r4 r3 h) ho.1 rfl rfl rfl rfl rfl rfl rfl (fun σ5 hσ5 h => ?_)
          refine j_iload C d_O_minute_114 4 rfl ?_
          exact j_ireturn C d_O_minute_116 r4 hσ5 h
    · have h := h.2 c
      refine j_iload C d_O_minute_36 5 rfl ?_
      refine j_iload C d_O_minute_38 6 rfl ?_
      refine j_callSN (host := "GateRoads") C d_O_minute_40 (by decide) ms_X_has (c_X_has (xl X) (gD G) (gad G) (gca G) (v0 := v5) (v1 := v6) hσ r5 r6 h) rfl rfl rfl rfl rfl (fun z6 σ7 rz6 hσ7 h => ?_)
      obtain ⟨ez6, h⟩ := h; subst ez6
      refine j_if_eq (tgt := 70) C d_O_minute_43 rfl rz6 (fun c => ?_) (fun c => ?_)
      · have h := h.1 c
        refine w_O_minute_b70 C ho r2 r3 r5 ih σ v4 v6 hσ r4 r6 h
      · have h := h.2 c
        refine j_aload_n C d_O_minute_46 0 rfl rfl ?_
        refine j_getr (kf := 1) (m := o + 2) C d_O_minute_47 ho.1 rfl i_O rfl rfl fl_O_15 ?_
        refine j_iload C d_O_minute_50 6 rfl ?_
        refine j_aload_n C d_O_minute_52 0 rfl rfl ?_
        refine j_getr (kf := 1) (m := o + 2) C d_O_minute_53 ho.1 rfl i_O rfl rfl fl_O_15 ?_
        refine j_iload C d_O_minute_56 6 rfl ?_
        obtain ⟨g10, h⟩ := h
        refine j_iaload C d_O_minute_58 ho.2.2 g10 ?_
        refine j_aload_n C d_O_minute_59 1 rfl rfl ?_
        refine j_iload C d_O_minute_60 6 rfl ?_
        refine j_iload_n C d_O_minute_62 3 rfl rfl ?_
        refine j_callV C d_O_minute_63 ml_O_28 mi_S_waitEnd (c_S_waitEnd (xl X) (gD G) (gad G) (gca G) (v1 := v6) (v2 := v3) hσ r6 r3 h) sh_0 rfl rfl rfl rfl rfl rfl rfl (fun z11 σ12 rz11 hσ12 h => ?_)
        obtain ⟨ez11, h⟩ := h; subst ez11
        refine j_max C d_O_minute_66 ml_O_34 zs_max zi_Math zc_max rfl rfl (hσ _ _) rz11 ?_
        obtain ⟨g13, h⟩ := h
        refine j_iastore C d_O_minute_69 ho.2.2 g13 ?_
        refine j_mem (fun σ14 eσ14 => ?_)
        have h := h σ14 eσ14
        have hσ14 : zRM σ14 := by rw [eσ14]; exact zU_rg hσ _ _ (zMax_rg (hσ _ _) rz11)
        refine w_O_minute_b70 C ho r2 r3 r5 ih σ14 v4 v6 hσ14 r4 r6 h
set_option maxRecDepth 100000 in
set_option maxHeartbeats 4000000 in
theorem c_O_minute (l : Launch) (D : va_G) (ad : Nat → Nat) (ca : Nat → ClassId) {σ : zM} {o : Nat} {v2 : Int} {v3 : Int} {Q : Int → zM → Prop} (hσ : zRM σ) (ho : zOn o) (r2 : zR v2) (r3 : zR v3) (h : wp_O_minute σ o v2 v3 Q) : zCi l D ad ca y_O_minute b_O_minute 7 (some .int) (zrm 3 70) [.ref (ad o), .ref (ad 0), .int (zI v2), .int (zI v3)] σ Q := by
  refine zCi_of (by decide +kernel) (Nat.le_of_ble_eq_true rfl) ?_
  intro X G C hl hD had hca
  subst hl hD had hca
  have C : zC X G b_O_minute "GateRoads$Onward" 7 (some .int) 3 70 := C
  show zJ X G (zQi X G Q) 7 0 [(0, .ref (gad G o)), (1, .ref (gad G 0)), (2, .int (zI v2)), (3, .int (zI v3))] [] σ
  unfold wp_O_minute at h
  refine j_iconst C d_O_minute_0 ?_
  refine j_istore (L' := [(4, .int (zI 0)), (0, .ref (gad G o)), (1, .ref (gad G 0)), (2, .int (zI v2)), (3, .int (zI v3))]) C d_O_minute_1 rfl rfl ?_
  refine j_aload_n C d_O_minute_3 1 rfl rfl ?_
  refine j_getr (kf := 0) (m := o + 1) C d_O_minute_4 ho.1 rfl i_O rfl rfl fl_O_9 ?_
  refine j_iload_n C d_O_minute_7 4 rfl rfl ?_
  refine j_sipush C d_O_minute_8 rfl ?_
  refine j_iand C d_O_minute_11 ?_
  obtain ⟨g1, h⟩ := h
  refine j_iaload C d_O_minute_12 ho.2.1 g1 ?_
  refine j_istore (L' := [(5, .int (zI (σ (o + 1) (zAnd v3 1023)))), (4, .int (zI 0)), (0, .ref (gad G o)), (1, .ref (gad G 0)), (2, .int (zI v2)), (3, .int (zI v3))]) C d_O_minute_13 rfl rfl ?_
  refine j_aload_n C d_O_minute_15 2 rfl rfl ?_
  refine j_getr (kf := 0) (m := o + 1) C d_O_minute_16 ho.1 rfl i_O rfl rfl fl_O_9 ?_
  refine j_iload_n C d_O_minute_19 5 rfl rfl ?_
  refine j_sipush C d_O_minute_20 rfl ?_
  refine j_iand C d_O_minute_23 ?_
  refine j_iconst C d_O_minute_24 ?_
  obtain ⟨g2, h⟩ := h
  refine j_iastore C d_O_minute_25 ho.2.1 g2 ?_
  refine j_mem (fun σ3 eσ3 => ?_)
  have h := h σ3 eσ3
  have hσ3 : zRM σ3 := by rw [eσ3]; exact zU_rg hσ _ _ (zR_of (x := 0) rfl)
  refine j_iconst C d_O_minute_26 ?_
  refine j_istore (L' := [(6, .int (zI 0)), (5, .int (zI (σ (o + 1) (zAnd v3 1023)))), (4, .int (zI 0)), (0, .ref (gad G o)), (1, .ref (gad G 0)), (2, .int (zI v2)), (3, .int (zI v3))]) C d_O_minute_27 rfl rfl ?_
  obtain ⟨n15, h⟩ := h
  refine j_sub (L' := [(0, .ref (gad G o)), (1, .ref (gad G 0)), (2, .int (zI v2)), (3, .int (zI v3)), (4, .int (zI 0)), (5, .int (zI (σ (o + 1) (zAnd v3 1023)))), (6, .int (zI 0))]) [3, 4, 5, 6, 2, 1, 0] rfl ?_
  refine w_O_minute_L29 C ho r2 r3 (hσ _ _) n15 σ3 0 0 hσ3 (zR_of (x := 0) rfl) (zR_of (x := 0) rfl) h
set_option maxRecDepth 100000 in
set_option maxHeartbeats 4000000 in
theorem w_X_firstComing_L23 {X : zX} {G : zG} (C : zC X G b_X_firstComing "GateRoads" 8 (some .int) 4 96) {v4 : Int} {v5 : Int} {v6 : Int} (r4 : zR v4) (r5 : zR v5) (r6 : zR v6) {Q : Int → zM → Prop} : ∀ (n : Nat) (σ : zM) (v7 : Int) (hσ : zRM σ) (r7 : zR v7), wp_X_firstComing_L23 v4 v5 v6 Q n σ v7 → zJ X G (zQi X G Q) 8 23 [(0, .ref (gad G 54)), (4, .int (zI v4)), (5, .int (zI v5)), (6, .int (zI v6)), (7, .int (zI v7))] [] σ := by
  intro n
  induction n with
  | zero => intro σ v7 hσ r7 h; exact False.elim h
  | succ n ih =>
    intro σ v7 hσ r7 h
    rw [wp_X_firstComing_L23] at h
    refine j_iload C d_X_firstComing_23 4 rfl ?_
    refine j_iload C d_X_firstComing_25 2 rfl ?_
    refine j_icmp_gt (tgt := 84) C d_X_firstComing_27 rfl r7 r5 (fun c => ?_) (fun c => ?_)
    · have h := h.1 c
      refine j_bipush C d_X_firstComing_84 rfl ?_
      exact j_ireturn C d_X_firstComing_86 (zR_of (x := (-6)) rfl) hσ h
    · have h := h.2 c
      refine j_aload_n C d_X_firstComing_30 0 rfl rfl ?_
      refine j_getr (kf := 9) (m := 64) C d_X_firstComing_31 sh_54 rfl i_X rfl rfl fl_X_44 ?_
      refine j_iload C d_X_firstComing_34 4 rfl ?_
      refine j_callV C d_X_firstComing_36 ml_X_221 mi_O_comersAt (c_O_comersAt (xl X) (gD G) (gad G) (gca G) (o := 64) (v1 := v7) hσ zOn64 r7 h) sh_64 rfl rfl rfl rfl rfl rfl rfl (fun z5 σ6 rz5 hσ6 h => ?_)
      obtain ⟨ez5, h⟩ := h; subst ez5
      refine j_iload C d_X_firstComing_39 1 rfl ?_
      refine j_callS C d_X_firstComing_41 ml_X_230 ms_X_has (c_X_has (xl X) (gD G) (gad G) (gca G) (v0 := z5) (v1 := v4) hσ rz5 r4 h) rfl rfl rfl rfl rfl (fun z7 σ8 rz7 hσ8 h => ?_)
      obtain ⟨ez7, h⟩ := h; subst ez7
      refine j_if_eq (tgt := 50) C d_X_firstComing_44 rfl rz7 (fun c => ?_) (fun c => ?_)
      · have h := h.1 c
        refine j_aload_n C d_X_firstComing_50 0 rfl rfl ?_
        refine j_getr (kf := 9) (m := 64) C d_X_firstComing_51 sh_54 rfl i_X rfl rfl fl_X_44 ?_
        refine j_aload_n C d_X_firstComing_54 0 rfl rfl ?_
        refine j_getr (kf := 0) (m := 0) C d_X_firstComing_55 sh_54 rfl i_X rfl rfl fl_X_12 ?_
        refine j_aload_n C d_X_firstComing_58 0 rfl rfl ?_
        refine j_getr (kf := 8) (m := 62) C d_X_firstComing_59 sh_54 rfl i_X rfl rfl fl_X_37 ?_
        refine j_iload C d_X_firstComing_62 4 rfl ?_
        refine j_callV C d_X_firstComing_64 ml_X_190 mi_G_at (c_G_at (xl X) (gD G) (gad G) (gca G) (v1 := v7) hσ r7 h) sh_62 rfl rfl rfl rfl rfl rfl rfl (fun z9 σ10 rz9 hσ10 h => ?_)
        obtain ⟨ez9, h⟩ := h; subst ez9
        refine j_iload C d_X_firstComing_67 3 rfl ?_
        refine j_iconst C d_X_firstComing_69 ?_
        refine j_ixor C d_X_firstComing_70 ?_
        refine j_iand C d_X_firstComing_71 ?_
        refine j_iload C d_X_firstComing_72 4 rfl ?_
        refine j_callV C d_X_firstComing_74 ml_X_224 mi_O_minute (c_O_minute (xl X) (gD G) (gad G) (gca G) (o := 64) (v2 := zAnd z9 (zXor v6 (-1))) (v3 := v7) hσ zOn64 (zAnd_rg _ _) r7 h) sh_64 rfl rfl rfl rfl rfl rfl rfl (fun z11 σ12 rz11 hσ12 h => ?_)
        refine j_pop C d_X_firstComing_77 rfl ?_
        obtain ⟨g13, h⟩ := h
        refine j_iinc (L' := [(7, .int (zI (v7 + 1))), (0, .ref (gad G 54)), (4, .int (zI v4)), (5, .int (zI v5)), (6, .int (zI v6))]) C d_X_firstComing_78 4 rfl rfl rfl ?_
        refine j_goto (tgt := 23) C d_X_firstComing_81 rfl ?_
        refine j_sub (L' := [(0, .ref (gad G 54)), (4, .int (zI v4)), (5, .int (zI v5)), (6, .int (zI v6)), (7, .int (zI (v7 + 1)))]) [1, 2, 3, 4, 0] rfl ?_
        exact ih σ12 (v7 + 1) hσ12 g13 h
      · have h := h.2 c
        refine j_iload C d_X_firstComing_47 4 rfl ?_
        exact j_ireturn C d_X_firstComing_49 r7 hσ h
set_option maxRecDepth 100000 in
set_option maxHeartbeats 4000000 in
theorem c_X_firstComing (l : Launch) (D : va_G) (ad : Nat → Nat) (ca : Nat → ClassId) {σ : zM} {v1 : Int} {v2 : Int} {v3 : Int} {v4 : Int} {v5 : Int} {v6 : Int} {Q : Int → zM → Prop} (hσ : zRM σ) (r1 : zR v1) (r2 : zR v2) (r3 : zR v3) (r4 : zR v4) (r5 : zR v5) (r6 : zR v6) (h : wp_X_firstComing σ v1 v2 v3 v4 v5 v6 Q) : zCi l D ad ca y_X_firstComing b_X_firstComing 8 (some .int) (zrm 4 96) [.ref (ad 54), .int (zI v1), .int (zI v2), .int (zI v3), .int (zI v4), .int (zI v5), .int (zI v6)] σ Q := by
  refine zCi_of (by decide +kernel) (Nat.le_of_ble_eq_true rfl) ?_
  intro X G C hl hD had hca
  subst hl hD had hca
  have C : zC X G b_X_firstComing "GateRoads" 8 (some .int) 4 96 := C
  show zJ X G (zQi X G Q) 8 0 [(0, .ref (gad G 54)), (1, .int (zI v1)), (2, .int (zI v2)), (3, .int (zI v3)), (4, .int (zI v4)), (5, .int (zI v5)), (6, .int (zI v6))] [] σ
  unfold wp_X_firstComing at h
  refine j_aload_n C d_X_firstComing_0 0 rfl rfl ?_
  refine j_getr (kf := 8) (m := 62) C d_X_firstComing_1 sh_54 rfl i_X rfl rfl fl_X_37 ?_
  refine j_aload_n C d_X_firstComing_4 0 rfl rfl ?_
  refine j_getr (kf := 0) (m := 0) C d_X_firstComing_5 sh_54 rfl i_X rfl rfl fl_X_12 ?_
  refine j_callVv C d_X_firstComing_8 ml_X_183 mi_G_prepare (c_G_prepare (xl X) (gD G) (gad G) (gca G)  hσ h) sh_62 rfl rfl rfl rfl rfl rfl rfl (fun σ2 hσ2 h => ?_)
  refine j_aload_n C d_X_firstComing_11 0 rfl rfl ?_
  refine j_getr (kf := 9) (m := 64) C d_X_firstComing_12 sh_54 rfl i_X rfl rfl fl_X_44 ?_
  refine j_iload_n C d_X_firstComing_15 1 rfl rfl ?_
  refine j_iload_n C d_X_firstComing_16 3 rfl rfl ?_
  refine j_callVv C d_X_firstComing_17 ml_X_220 mi_O_start (c_O_start (xl X) (gD G) (gad G) (gca G) (o := 64) (v1 := v1) (v2 := v3) hσ2 zOn64 r1 r3 h) sh_64 rfl rfl rfl rfl rfl rfl rfl (fun σ4 hσ4 h => ?_)
  refine j_iload_n C d_X_firstComing_20 2 rfl rfl ?_
  refine j_istore (L' := [(7, .int (zI v2)), (0, .ref (gad G 54)), (1, .int (zI v1)), (2, .int (zI v2)), (3, .int (zI v3)), (4, .int (zI v4)), (5, .int (zI v5)), (6, .int (zI v6))]) C d_X_firstComing_21 rfl rfl ?_
  obtain ⟨n14, h⟩ := h
  refine j_sub (L' := [(0, .ref (gad G 54)), (4, .int (zI v4)), (5, .int (zI v5)), (6, .int (zI v6)), (7, .int (zI v2))]) [1, 5, 6, 7, 0] rfl ?_
  refine w_X_firstComing_L23 C r4 r5 r6 n14 σ4 v2 hσ4 r2 h
set_option maxRecDepth 100000 in
set_option maxHeartbeats 4000000 in
theorem c_X_arrives (l : Launch) (D : va_G) (ad : Nat → Nat) (ca : Nat → ClassId) {σ : zM} {v1 : Int} {v2 : Int} {Q : Int → zM → Prop} (hσ : zRM σ) (r1 : zR v1) (r2 : zR v2) (h : wp_X_arrives σ v1 v2 Q) : zCi l D ad ca y_X_arrives b_X_arrives 5 (some .int) (zrm 5 123) [.ref (ad 54), .int (zI v1), .int (zI v2)] σ Q := by
  refine zCi_of (by decide +kernel) (Nat.le_of_ble_eq_true rfl) ?_
  intro X G C hl hD had hca
  subst hl hD had hca
  have C : zC X G b_X_arrives "GateRoads" 5 (some .int) 5 123 := C
  show zJ X G (zQi X G Q) 5 0 [(0, .ref (gad G 54)), (1, .int (zI v1)), (2, .int (zI v2))] [] σ
  unfold wp_X_arrives at h
  refine j_aload_n C d_X_arrives_0 0 rfl rfl ?_
  refine j_getr (kf := 0) (m := 0) C d_X_arrives_1 sh_54 rfl i_X rfl rfl fl_X_12 ?_
  refine j_iload_n C d_X_arrives_4 1 rfl rfl ?_
  refine j_callV C d_X_arrives_5 ml_X_128 mi_S_hasTraveller (c_S_hasTraveller (xl X) (gD G) (gad G) (gca G) (v1 := v1) hσ r1 h) sh_0 rfl rfl rfl rfl rfl rfl rfl (fun z1 σ2 rz1 hσ2 h => ?_)
  obtain ⟨ez1, h⟩ := h; subst ez1
  refine j_if_eq (tgt := 18) C d_X_arrives_8 rfl rz1 (fun c => ?_) (fun c => ?_)
  · have h := h.1 c
    refine j_iconst C d_X_arrives_18 ?_
    exact j_ireturn C d_X_arrives_19 (zR_of (x := (-1)) rfl) hσ h
  · have h := h.2 c
    refine j_iload_n C d_X_arrives_11 2 rfl rfl ?_
    refine j_callS C d_X_arrives_12 ml_X_65 ms_X_isPlace (c_X_isPlace (xl X) (gD G) (gad G) (gca G) (v0 := v2) hσ r2 h) rfl rfl rfl rfl rfl (fun z3 σ4 rz3 hσ4 h => ?_)
    obtain ⟨ez3, h⟩ := h; subst ez3
    refine j_if_ne (tgt := 20) C d_X_arrives_15 rfl rz3 (fun c => ?_) (fun c => ?_)
    · have h := h.1 c
      refine j_aload_n C d_X_arrives_20 0 rfl rfl ?_
      refine j_getr (kf := 0) (m := 0) C d_X_arrives_21 sh_54 rfl i_X rfl rfl fl_X_12 ?_
      refine j_iload_n C d_X_arrives_24 1 rfl rfl ?_
      refine j_iconst C d_X_arrives_25 ?_
      refine j_callV C d_X_arrives_26 ml_X_165 mi_S_ofTravellers (c_S_ofTravellers (xl X) (gD G) (gad G) (gca G) (v1 := v1) (v2 := 0) hσ r1 (zR_of (x := 0) rfl) h) sh_0 rfl rfl rfl rfl rfl rfl rfl (fun z5 σ6 rz5 hσ6 h => ?_)
      obtain ⟨ez5, h⟩ := h; subst ez5
      refine j_istore_n (L' := [(3, .int (zI z5)), (0, .ref (gad G 54)), (1, .int (zI v1)), (2, .int (zI v2))]) C d_X_arrives_29 rfl rfl rfl ?_
      refine j_aload_n C d_X_arrives_30 1 rfl rfl ?_
      refine j_getr (kf := 0) (m := 0) C d_X_arrives_31 sh_54 rfl i_X rfl rfl fl_X_12 ?_
      refine j_iload_n C d_X_arrives_34 2 rfl rfl ?_
      refine j_iconst C d_X_arrives_35 ?_
      refine j_callV C d_X_arrives_36 ml_X_165 mi_S_ofTravellers (c_S_ofTravellers (xl X) (gD G) (gad G) (gca G) (v1 := v1) (v2 := 1) hσ r1 (zR_of (x := 1) rfl) h) sh_0 rfl rfl rfl rfl rfl rfl rfl (fun z7 σ8 rz7 hσ8 h => ?_)
      obtain ⟨ez7, h⟩ := h; subst ez7
      refine j_istore (L' := [(4, .int (zI z7)), (3, .int (zI z5)), (0, .ref (gad G 54)), (1, .int (zI v1)), (2, .int (zI v2))]) C d_X_arrives_39 rfl rfl ?_
      refine j_iload_n C d_X_arrives_41 1 rfl rfl ?_
      refine j_iload_n C d_X_arrives_42 4 rfl rfl ?_
      refine j_icmp_ne (tgt := 49) C d_X_arrives_43 rfl rz5 r2 (fun c => ?_) (fun c => ?_)
      · have h := h.1 c
        refine j_aload_n C d_X_arrives_49 2 rfl rfl ?_
        refine j_iload_n C d_X_arrives_50 1 rfl rfl ?_
        refine j_iload C d_X_arrives_51 0 rfl ?_
        refine j_iload C d_X_arrives_53 0 rfl ?_
        refine j_aload_n C d_X_arrives_55 2 rfl rfl ?_
        refine j_getr (kf := 0) (m := 0) C d_X_arrives_56 sh_54 rfl i_X rfl rfl fl_X_12 ?_
        refine j_iload_n C d_X_arrives_59 3 rfl rfl ?_
        refine j_callV C d_X_arrives_60 ml_X_237 mi_S_stayLeft (c_S_stayLeft (xl X) (gD G) (gad G) (gca G) (v1 := v1) hσ r1 h) sh_0 rfl rfl rfl rfl rfl rfl rfl (fun z9 σ10 rz9 hσ10 h => ?_)
        obtain ⟨ez9, h⟩ := h; subst ez9
        refine j_iadd C d_X_arrives_63 ?_
        refine j_iload_n C d_X_arrives_64 4 rfl rfl ?_
        refine j_sipush C d_X_arrives_65 rfl ?_
        refine j_iconst C d_X_arrives_68 ?_
        obtain ⟨g11, h⟩ := h
        refine j_callV C d_X_arrives_69 ml_X_233 mi_X_firstComing (c_X_firstComing (xl X) (gD G) (gad G) (gca G) (v1 := z5) (v2 := z7) (v3 := z7 + z9) (v4 := v2) (v5 := 2880) (v6 := 0) hσ rz5 rz7 g11 r2 (zR_of (x := 2880) rfl) (zR_of (x := 0) rfl) h) sh_54 rfl rfl rfl rfl rfl rfl rfl (fun z12 σ13 rz12 hσ13 h => ?_)
        exact j_ireturn C d_X_arrives_72 rz12 hσ13 h
      · have h := h.2 c
        refine j_iload C d_X_arrives_46 0 rfl ?_
        exact j_ireturn C d_X_arrives_48 rz7 hσ h
    · have h := h.2 c
      refine j_iconst C d_X_arrives_18 ?_
      exact j_ireturn C d_X_arrives_19 (zR_of (x := (-1)) rfl) hσ h
set_option maxRecDepth 100000 in
set_option maxHeartbeats 4000000 in
theorem c_X_whyShut (l : Launch) (D : va_G) (ad : Nat → Nat) (ca : Nat → ClassId) {σ : zM} {v1 : Int} {v2 : Int} {Q : Int → Prop} (hσ : zRM σ) (r1 : zR v1) (r2 : zR v2) (h : wp_X_whyShut σ v1 v2 Q) : zCi l D ad ca y_X_whyShut b_X_whyShut 3 (some .int) (zrm 3 71) [.ref (ad 54), .int (zI v1), .int (zI v2)] σ (fun z u => σ = u ∧ Q z) := by
  refine zCi_of (by decide +kernel) (Nat.le_of_ble_eq_true rfl) ?_
  intro X G C hl hD had hca
  subst hl hD had hca
  have C : zC X G b_X_whyShut "GateRoads" 3 (some .int) 3 71 := C
  show zJ X G (zQi X G (fun z u => σ = u ∧ Q z)) 3 0 [(0, .ref (gad G 54)), (1, .int (zI v1)), (2, .int (zI v2))] [] σ
  unfold wp_X_whyShut at h
  refine j_aload_n C d_X_whyShut_0 0 rfl rfl ?_
  refine j_getr (kf := 0) (m := 0) C d_X_whyShut_1 sh_54 rfl i_X rfl rfl fl_X_12 ?_
  refine j_iload_n C d_X_whyShut_4 1 rfl rfl ?_
  refine j_callV C d_X_whyShut_5 ml_X_88 mi_S_hasRoad (c_S_hasRoad (xl X) (gD G) (gad G) (gca G) (v1 := v1) hσ r1 h) sh_0 rfl rfl rfl rfl rfl rfl rfl (fun z1 σ2 rz1 hσ2 h => ?_)
  obtain ⟨ez1, h⟩ := h; subst ez1
  refine j_if_ne (tgt := 13) C d_X_whyShut_8 rfl rz1 (fun c => ?_) (fun c => ?_)
  · have h := h.1 c
    refine j_iload_n C d_X_whyShut_13 2 rfl rfl ?_
    refine j_iconst C d_X_whyShut_14 ?_
    refine j_sipush C d_X_whyShut_15 rfl ?_
    refine j_callS C d_X_whyShut_18 ml_X_69 ms_X_within (c_X_within (xl X) (gD G) (gad G) (gca G) (v0 := v2) (v1 := 0) (v2 := 2880) hσ r2 (zR_of (x := 0) rfl) (zR_of (x := 2880) rfl) h) rfl rfl rfl rfl rfl (fun z3 σ4 rz3 hσ4 h => ?_)
    obtain ⟨ez3, h⟩ := h; subst ez3
    refine j_if_ne (tgt := 27) C d_X_whyShut_21 rfl rz3 (fun c => ?_) (fun c => ?_)
    · have h := h.1 c
      refine j_aload_n C d_X_whyShut_27 0 rfl rfl ?_
      refine j_getr (kf := 0) (m := 0) C d_X_whyShut_28 sh_54 rfl i_X rfl rfl fl_X_12 ?_
      refine j_iload_n C d_X_whyShut_31 1 rfl rfl ?_
      refine j_iload_n C d_X_whyShut_32 2 rfl rfl ?_
      refine j_callV C d_X_whyShut_33 ml_X_177 mi_S_whyNoEntry (c_S_whyNoEntry (xl X) (gD G) (gad G) (gca G) (v1 := v1) (v2 := v2) hσ r1 r2 h) sh_0 rfl rfl rfl rfl rfl rfl rfl (fun z5 σ6 rz5 hσ6 h => ?_)
      obtain ⟨ez5, h⟩ := h; subst ez5
      exact j_ireturn C d_X_whyShut_36 rz5 hσ ⟨rfl, h⟩
    · have h := h.2 c
      refine j_bipush C d_X_whyShut_24 rfl ?_
      exact j_ireturn C d_X_whyShut_26 (zR_of (x := (-2)) rfl) hσ ⟨rfl, h⟩
  · have h := h.2 c
    refine j_iconst C d_X_whyShut_11 ?_
    exact j_ireturn C d_X_whyShut_12 (zR_of (x := (-1)) rfl) hσ ⟨rfl, h⟩
set_option maxRecDepth 100000 in
set_option maxHeartbeats 4000000 in
theorem c_X_undo (l : Launch) (D : va_G) (ad : Nat → Nat) (ca : Nat → ClassId) {σ : zM} {Q : Int → zM → Prop} (hσ : zRM σ) (h : wp_X_undo σ Q) : zCi l D ad ca y_X_undo b_X_undo 1 (some .int) (zrm 2 47) [.ref (ad 54)] σ Q := by
  refine zCi_of (by decide +kernel) (Nat.le_of_ble_eq_true rfl) ?_
  intro X G C hl hD had hca
  subst hl hD had hca
  have C : zC X G b_X_undo "GateRoads" 1 (some .int) 2 47 := C
  show zJ X G (zQi X G Q) 1 0 [(0, .ref (gad G 54))] [] σ
  unfold wp_X_undo at h
  refine j_aload_n C d_X_undo_0 0 rfl rfl ?_
  refine j_geti (kf := 2) (kI := 2) C d_X_undo_1 sh_54 rfl i_X rfl rfl rfl fl_X_174 ?_
  refine j_if_gt (tgt := 10) C d_X_undo_4 rfl (hσ _ _) (fun c => ?_) (fun c => ?_)
  · have h := h.1 c
    refine j_aload_n C d_X_undo_10 0 rfl rfl ?_
    refine j_dup C d_X_undo_11 rfl ?_
    refine j_geti (kf := 2) (kI := 2) C d_X_undo_12 sh_54 rfl i_X rfl rfl rfl fl_X_174 ?_
    refine j_iconst C d_X_undo_15 ?_
    refine j_isub C d_X_undo_16 ?_
    obtain ⟨g1, h⟩ := h
    refine j_puti (kf := 2) (kI := 2) C t_X d_X_undo_17 sh_54 rfl i_X t_X_ok n_X rfl rfl rfl fl_X_174 rfl (Or.inl rfl) ?_
    refine j_mem (fun σ2 eσ2 => ?_)
    have h := h σ2 eσ2
    have hσ2 : zRM σ2 := by rw [eσ2]; exact zU_rg hσ _ _ g1
    refine j_aload_n C d_X_undo_20 0 rfl rfl ?_
    refine j_getr (kf := 0) (m := 0) C d_X_undo_21 sh_54 rfl i_X rfl rfl fl_X_12 ?_
    refine j_aload_n C d_X_undo_24 0 rfl rfl ?_
    refine j_getr (kf := 1) (m := 55) C d_X_undo_25 sh_54 rfl i_X rfl rfl fl_X_16 ?_
    refine j_aload_n C d_X_undo_28 0 rfl rfl ?_
    refine j_geti (kf := 2) (kI := 2) C d_X_undo_29 sh_54 rfl i_X rfl rfl rfl fl_X_174 ?_
    obtain ⟨g3, h⟩ := h
    obtain ⟨g4, h⟩ := h
    refine j_aaload C d_X_undo_32 sh_55 g3 ?_
    refine j_callVv C d_X_undo_33 ml_X_279 mi_S_copyFrom (c_S_copyFrom (xl X) (gD G) (gad G) (gca G) (a := 0) (b := (σ2 55 (σ2 54 2)).toNat) hσ2 (by decide) g4 h) sh_0 rfl rfl rfl rfl rfl rfl rfl (fun σ6 hσ6 h => ?_)
    refine j_aload_n C d_X_undo_36 0 rfl rfl ?_
    refine j_getr (kf := 8) (m := 62) C d_X_undo_37 sh_54 rfl i_X rfl rfl fl_X_37 ?_
    refine j_iconst C d_X_undo_40 ?_
    refine j_puti (kf := 1) (kI := 1) C t_G d_X_undo_41 sh_62 rfl i_G t_G_ok n_G rfl rfl rfl fl_X_282 rfl (Or.inr ⟨rfl, by decide⟩) ?_
    refine j_mem (fun σ7 eσ7 => ?_)
    have h := h σ7 eσ7
    have hσ7 : zRM σ7 := by rw [eσ7]; exact zU_rg hσ6 _ _ (zR_of (x := 0) rfl)
    refine j_aload_n C d_X_undo_44 0 rfl rfl ?_
    refine j_geti (kf := 2) (kI := 2) C d_X_undo_45 sh_54 rfl i_X rfl rfl rfl fl_X_174 ?_
    exact j_ireturn C d_X_undo_48 (hσ7 _ _) hσ7 h
  · have h := h.2 c
    refine j_bipush C d_X_undo_7 rfl ?_
    exact j_ireturn C d_X_undo_9 (zR_of (x := (-6)) rfl) hσ h
set_option maxRecDepth 100000 in
set_option maxHeartbeats 4000000 in
theorem c_X_save (l : Launch) (D : va_G) (ad : Nat → Nat) (ca : Nat → ClassId) {σ : zM} {v1 : Int} {Q : Int → zM → Prop} (hσ : zRM σ) (r1 : zR v1) (h : wp_X_save σ v1 Q) : zCi l D ad ca y_X_save b_X_save 2 (some .int) (zrm 2 47) [.ref (ad 54), .int (zI v1)] σ Q := by
  refine zCi_of (by decide +kernel) (Nat.le_of_ble_eq_true rfl) ?_
  intro X G C hl hD had hca
  subst hl hD had hca
  have C : zC X G b_X_save "GateRoads" 2 (some .int) 2 47 := C
  show zJ X G (zQi X G Q) 2 0 [(0, .ref (gad G 54)), (1, .int (zI v1))] [] σ
  unfold wp_X_save at h
  refine j_iload_n C d_X_save_0 1 rfl rfl ?_
  refine j_iconst C d_X_save_1 ?_
  refine j_iconst C d_X_save_2 ?_
  refine j_callS C d_X_save_3 ml_X_69 ms_X_within (c_X_within (xl X) (gD G) (gad G) (gca G) (v0 := v1) (v1 := 0) (v2 := 1) hσ r1 (zR_of (x := 0) rfl) (zR_of (x := 1) rfl) h) rfl rfl rfl rfl rfl (fun z1 σ2 rz1 hσ2 h => ?_)
  obtain ⟨ez1, h⟩ := h; subst ez1
  refine j_if_ne (tgt := 11) C d_X_save_6 rfl rz1 (fun c => ?_) (fun c => ?_)
  · have h := h.1 c
    refine j_aload_n C d_X_save_11 0 rfl rfl ?_
    refine j_getr (kf := 3) (m := 56) C d_X_save_12 sh_54 rfl i_X rfl rfl fl_X_20 ?_
    refine j_iload_n C d_X_save_15 1 rfl rfl ?_
    obtain ⟨g3, h⟩ := h
    obtain ⟨g4, h⟩ := h
    refine j_aaload C d_X_save_16 sh_56 g3 ?_
    refine j_aload_n C d_X_save_17 0 rfl rfl ?_
    refine j_getr (kf := 0) (m := 0) C d_X_save_18 sh_54 rfl i_X rfl rfl fl_X_12 ?_
    refine j_callVv C d_X_save_21 ml_X_279 mi_S_copyFrom (c_S_copyFrom (xl X) (gD G) (gad G) (gca G) (a := (σ 56 v1).toNat) (b := 0) hσ g4 (by decide) h) (zSt (σ 56 v1).toNat g4) rfl rfl rfl rfl rfl rfl rfl (fun σ6 hσ6 h => ?_)
    refine j_aload_n C d_X_save_24 0 rfl rfl ?_
    refine j_getr (kf := 4) (m := 57) C d_X_save_25 sh_54 rfl i_X rfl rfl fl_X_23 ?_
    refine j_iload_n C d_X_save_28 1 rfl rfl ?_
    refine j_iconst C d_X_save_29 ?_
    obtain ⟨g7, h⟩ := h
    refine j_bastore C d_X_save_30 sh_57 g7 (by decide) ?_
    refine j_mem (fun σ8 eσ8 => ?_)
    have h := h σ8 eσ8
    have hσ8 : zRM σ8 := by rw [eσ8]; exact zU_rg hσ6 _ _ (zR_of (x := 1) rfl)
    refine j_aload_n C d_X_save_31 0 rfl rfl ?_
    refine j_getr (kf := 0) (m := 0) C d_X_save_32 sh_54 rfl i_X rfl rfl fl_X_12 ?_
    refine j_geti (kf := 5) (kI := 5) C d_X_save_35 sh_0 rfl i_S rfl rfl rfl fl_X_80 ?_
    exact j_ireturn C d_X_save_38 (hσ8 _ _) hσ8 h
  · have h := h.2 c
    refine j_iconst C d_X_save_9 ?_
    exact j_ireturn C d_X_save_10 (zR_of (x := (-1)) rfl) hσ h
set_option maxRecDepth 100000 in
set_option maxHeartbeats 4000000 in
theorem c_X_restore (l : Launch) (D : va_G) (ad : Nat → Nat) (ca : Nat → ClassId) {σ : zM} {v1 : Int} {Q : Int → zM → Prop} (hσ : zRM σ) (r1 : zR v1) (h : wp_X_restore σ v1 Q) : zCi l D ad ca y_X_restore b_X_restore 2 (some .int) (zrm 3 69) [.ref (ad 54), .int (zI v1)] σ Q := by
  refine zCi_of (by decide +kernel) (Nat.le_of_ble_eq_true rfl) ?_
  intro X G C hl hD had hca
  subst hl hD had hca
  have C : zC X G b_X_restore "GateRoads" 2 (some .int) 3 69 := C
  show zJ X G (zQi X G Q) 2 0 [(0, .ref (gad G 54)), (1, .int (zI v1))] [] σ
  unfold wp_X_restore at h
  refine j_iload_n C d_X_restore_0 1 rfl rfl ?_
  refine j_iconst C d_X_restore_1 ?_
  refine j_iconst C d_X_restore_2 ?_
  refine j_callS C d_X_restore_3 ml_X_69 ms_X_within (c_X_within (xl X) (gD G) (gad G) (gca G) (v0 := v1) (v1 := 0) (v2 := 1) hσ r1 (zR_of (x := 0) rfl) (zR_of (x := 1) rfl) h) rfl rfl rfl rfl rfl (fun z1 σ2 rz1 hσ2 h => ?_)
  obtain ⟨ez1, h⟩ := h; subst ez1
  refine j_if_eq (tgt := 18) C d_X_restore_6 rfl rz1 (fun c => ?_) (fun c => ?_)
  · have h := h.1 c
    refine j_iconst C d_X_restore_18 ?_
    exact j_ireturn C d_X_restore_19 (zR_of (x := (-1)) rfl) hσ h
  · have h := h.2 c
    refine j_aload_n C d_X_restore_9 0 rfl rfl ?_
    refine j_getr (kf := 4) (m := 57) C d_X_restore_10 sh_54 rfl i_X rfl rfl fl_X_23 ?_
    refine j_iload_n C d_X_restore_13 1 rfl rfl ?_
    obtain ⟨g3, h⟩ := h
    refine j_baload C d_X_restore_14 sh_57 g3 ?_
    refine j_if_ne (tgt := 20) C d_X_restore_15 rfl (hσ _ _) (fun c => ?_) (fun c => ?_)
    · have h := h.1 c
      refine j_aload_n C d_X_restore_20 0 rfl rfl ?_
      refine j_callVv C d_X_restore_21 ml_X_73 mi_X_remember (c_X_remember (xl X) (gD G) (gad G) (gca G)  hσ h) sh_54 rfl rfl rfl rfl rfl rfl rfl (fun σ5 hσ5 h => ?_)
      refine j_aload_n C d_X_restore_24 0 rfl rfl ?_
      refine j_getr (kf := 0) (m := 0) C d_X_restore_25 sh_54 rfl i_X rfl rfl fl_X_12 ?_
      refine j_aload_n C d_X_restore_28 0 rfl rfl ?_
      refine j_getr (kf := 3) (m := 56) C d_X_restore_29 sh_54 rfl i_X rfl rfl fl_X_20 ?_
      refine j_iload_n C d_X_restore_32 1 rfl rfl ?_
      obtain ⟨g6, h⟩ := h
      obtain ⟨g7, h⟩ := h
      refine j_aaload C d_X_restore_33 sh_56 g6 ?_
      refine j_callVv C d_X_restore_34 ml_X_279 mi_S_copyFrom (c_S_copyFrom (xl X) (gD G) (gad G) (gca G) (a := 0) (b := (σ5 56 v1).toNat) hσ5 (by decide) g7 h) sh_0 rfl rfl rfl rfl rfl rfl rfl (fun σ9 hσ9 h => ?_)
      refine j_aload_n C d_X_restore_37 0 rfl rfl ?_
      refine j_getr (kf := 0) (m := 0) C d_X_restore_38 sh_54 rfl i_X rfl rfl fl_X_12 ?_
      refine j_geti (kf := 5) (kI := 5) C d_X_restore_41 sh_0 rfl i_S rfl rfl rfl fl_X_80 ?_
      exact j_ireturn C d_X_restore_44 (hσ9 _ _) hσ9 h
    · have h := h.2 c
      refine j_iconst C d_X_restore_18 ?_
      exact j_ireturn C d_X_restore_19 (zR_of (x := (-1)) rfl) hσ h
