set_option maxRecDepth 100000 in
set_option maxHeartbeats 4000000 in
theorem w_S_closuresOf_b25 {X : zX} {G : zG} (C : zC X G b_S_closuresOf "GateRoads$State" 4 (some .int) 1 22) {σ : zM} {v1 : Int} (hσ : zRM σ) (r1 : zR v1) {Q : Int → Prop} {k4 : Int → Int → Prop} (hk4 : ∀ (v2 : Int) (v3 : Int), zR v2 → zR v3 → k4 v2 v3 → zJ X G (zQi X G (fun z u => σ = u ∧ Q z)) 4 4 [(0, .ref (gad G 0)), (1, .int (zI v1)), (2, .int (zI v2)), (3, .int (zI v3))] [] σ) (v2 : Int) (v3 : Int) (r2 : zR v2) (r3 : zR v3) (h : wp_S_closuresOf_b25 σ v1 k4 Q v2 v3) : zJ X G (zQi X G (fun z u => σ = u ∧ Q z)) 4 25 [(0, .ref (gad G 0)), (1, .int (zI v1)), (2, .int (zI v2)), (3, .int (zI v3))] [] σ := by
  unfold wp_S_closuresOf_b25 at h
  obtain ⟨g3, h⟩ := h
  refine j_iinc (L' := [(3, .int (zI (v3 + 1))), (0, .ref (gad G 0)), (1, .int (zI v1)), (2, .int (zI v2))]) C d_S_closuresOf_25 3 rfl rfl rfl ?_
  refine j_goto (tgt := 4) C d_S_closuresOf_28 rfl ?_
  refine j_sub (L' := [(0, .ref (gad G 0)), (1, .int (zI v1)), (2, .int (zI v2)), (3, .int (zI (v3 + 1)))]) [1, 2, 3, 0] rfl ?_
  exact hk4 v2 (v3 + 1) r2 g3 h
set_option maxRecDepth 100000 in
set_option maxHeartbeats 4000000 in
theorem w_S_closuresOf_L4 {X : zX} {G : zG} (C : zC X G b_S_closuresOf "GateRoads$State" 4 (some .int) 1 22) {σ : zM} {v1 : Int} (hσ : zRM σ) (r1 : zR v1) {Q : Int → Prop} : ∀ (n : Nat) (v2 : Int) (v3 : Int) (r2 : zR v2) (r3 : zR v3), wp_S_closuresOf_L4 σ v1 Q n v2 v3 → zJ X G (zQi X G (fun z u => σ = u ∧ Q z)) 4 4 [(0, .ref (gad G 0)), (1, .int (zI v1)), (2, .int (zI v2)), (3, .int (zI v3))] [] σ := by
  intro n
  induction n with
  | zero => intro v2 v3 r2 r3 h; exact False.elim h
  | succ n ih =>
    intro v2 v3 r2 r3 h
    rw [wp_S_closuresOf_L4] at h
    refine j_iload_n C d_S_closuresOf_4 3 rfl rfl ?_
    refine j_aload_n C d_S_closuresOf_5 0 rfl rfl ?_
    refine j_geti (kf := 6) (kI := 6) C d_S_closuresOf_6 sh_0 rfl i_S rfl rfl rfl fl_S_37 ?_
    refine j_icmp_ge (tgt := 31) C d_S_closuresOf_9 rfl r3 (hσ _ _) (fun c => ?_) (fun c => ?_)
    · have h := h.1 c
      refine j_iload_n C d_S_closuresOf_31 2 rfl rfl ?_
      exact j_ireturn C d_S_closuresOf_32 r2 hσ ⟨rfl, h⟩
    · have h := h.2 c
      refine j_aload_n C d_S_closuresOf_12 0 rfl rfl ?_
      refine j_iload_n C d_S_closuresOf_13 3 rfl rfl ?_
      refine j_iconst C d_S_closuresOf_14 ?_
      refine j_callV C d_S_closuresOf_15 ml_S_70 mi_S_ofClosures (c_S_ofClosures (xl X) (gD G) (gad G) (gca G) (v1 := v3) (v2 := 0) hσ r3 (zR_of (x := 0) rfl) h) sh_0 rfl rfl rfl rfl rfl rfl rfl (fun z1 σ2 rz1 hσ2 h => ?_)
      obtain ⟨ez1, h⟩ := h; subst ez1
      refine j_iload_n C d_S_closuresOf_18 1 rfl rfl ?_
      refine j_icmp_ne (tgt := 25) C d_S_closuresOf_19 rfl rz1 r1 (fun c => ?_) (fun c => ?_)
      · have h := h.1 c
        refine w_S_closuresOf_b25 C hσ r1 ih v2 v3 r2 r3 h
      · have h := h.2 c
        obtain ⟨g4, h⟩ := h
        refine j_iinc (L' := [(2, .int (zI (v2 + 1))), (0, .ref (gad G 0)), (1, .int (zI v1)), (3, .int (zI v3))]) C d_S_closuresOf_22 2 rfl rfl rfl ?_
        refine j_sub (L' := [(0, .ref (gad G 0)), (1, .int (zI v1)), (2, .int (zI (v2 + 1))), (3, .int (zI v3))]) [1, 2, 0, 3] rfl ?_
        refine w_S_closuresOf_b25 C hσ r1 ih (v2 + 1) v3 g4 r3 h
set_option maxRecDepth 100000 in
set_option maxHeartbeats 4000000 in
theorem c_S_closuresOf (l : Launch) (D : va_G) (ad : Nat → Nat) (ca : Nat → ClassId) {σ : zM} {v1 : Int} {Q : Int → Prop} (hσ : zRM σ) (r1 : zR v1) (h : wp_S_closuresOf σ v1 Q) : zCi l D ad ca y_S_closuresOf b_S_closuresOf 4 (some .int) (zrm 1 22) [.ref (ad 0), .int (zI v1)] σ (fun z u => σ = u ∧ Q z) := by
  refine zCi_of (by decide +kernel) (Nat.le_of_ble_eq_true rfl) ?_
  intro X G C hl hD had hca
  subst hl hD had hca
  have C : zC X G b_S_closuresOf "GateRoads$State" 4 (some .int) 1 22 := C
  show zJ X G (zQi X G (fun z u => σ = u ∧ Q z)) 4 0 [(0, .ref (gad G 0)), (1, .int (zI v1))] [] σ
  unfold wp_S_closuresOf at h
  refine j_iconst C d_S_closuresOf_0 ?_
  refine j_istore_n (L' := [(2, .int (zI 0)), (0, .ref (gad G 0)), (1, .int (zI v1))]) C d_S_closuresOf_1 rfl rfl rfl ?_
  refine j_iconst C d_S_closuresOf_2 ?_
  refine j_istore_n (L' := [(3, .int (zI 0)), (2, .int (zI 0)), (0, .ref (gad G 0)), (1, .int (zI v1))]) C d_S_closuresOf_3 rfl rfl rfl ?_
  obtain ⟨n5, h⟩ := h
  refine j_sub (L' := [(0, .ref (gad G 0)), (1, .int (zI v1)), (2, .int (zI 0)), (3, .int (zI 0))]) [2, 3, 1, 0] rfl ?_
  refine w_S_closuresOf_L4 C hσ r1 n5 0 0 (zR_of (x := 0) rfl) (zR_of (x := 0) rfl) h
set_option maxRecDepth 100000 in
set_option maxHeartbeats 4000000 in
theorem c_X_ofRoad (l : Launch) (D : va_G) (ad : Nat → Nat) (ca : Nat → ClassId) {σ : zM} {v1 : Int} {v2 : Int} {Q : Int → Prop} (hσ : zRM σ) (r1 : zR v1) (r2 : zR v2) (h : wp_X_ofRoad σ v1 v2 Q) : zCi l D ad ca y_X_ofRoad b_X_ofRoad 3 (some .int) (zrm 2 45) [.ref (ad 54), .int (zI v1), .int (zI v2)] σ (fun z u => σ = u ∧ Q z) := by
  refine zCi_of (by decide +kernel) (Nat.le_of_ble_eq_true rfl) ?_
  intro X G C hl hD had hca
  subst hl hD had hca
  have C : zC X G b_X_ofRoad "GateRoads" 3 (some .int) 2 45 := C
  show zJ X G (zQi X G (fun z u => σ = u ∧ Q z)) 3 0 [(0, .ref (gad G 54)), (1, .int (zI v1)), (2, .int (zI v2))] [] σ
  unfold wp_X_ofRoad at h
  refine j_aload_n C d_X_ofRoad_0 0 rfl rfl ?_
  refine j_getr (kf := 0) (m := 0) C d_X_ofRoad_1 sh_54 rfl i_X rfl rfl fl_X_12 ?_
  refine j_iload_n C d_X_ofRoad_4 1 rfl rfl ?_
  refine j_callV C d_X_ofRoad_5 ml_X_88 mi_S_hasRoad (c_S_hasRoad (xl X) (gD G) (gad G) (gca G) (v1 := v1) hσ r1 h) sh_0 rfl rfl rfl rfl rfl rfl rfl (fun z1 σ2 rz1 hσ2 h => ?_)
  obtain ⟨ez1, h⟩ := h; subst ez1
  refine j_if_ne (tgt := 13) C d_X_ofRoad_8 rfl rz1 (fun c => ?_) (fun c => ?_)
  · have h := h.1 c
    refine j_iload_n C d_X_ofRoad_13 2 rfl rfl ?_
    refine j_iconst C d_X_ofRoad_14 ?_
    refine j_bipush C d_X_ofRoad_15 rfl ?_
    refine j_callS C d_X_ofRoad_17 ml_X_69 ms_X_within (c_X_within (xl X) (gD G) (gad G) (gca G) (v0 := v2) (v1 := 0) (v2 := 12) hσ r2 (zR_of (x := 0) rfl) (zR_of (x := 12) rfl) h) rfl rfl rfl rfl rfl (fun z3 σ4 rz3 hσ4 h => ?_)
    obtain ⟨ez3, h⟩ := h; subst ez3
    refine j_if_ne (tgt := 26) C d_X_ofRoad_20 rfl rz3 (fun c => ?_) (fun c => ?_)
    · have h := h.1 c
      refine j_iload_n C d_X_ofRoad_26 2 rfl rfl ?_
      refine j_bipush C d_X_ofRoad_27 rfl ?_
      refine j_icmp_ne (tgt := 41) C d_X_ofRoad_29 rfl r2 (zR_of (x := 11) rfl) (fun c => ?_) (fun c => ?_)
      · have h := h.1 c
        refine j_iload_n C d_X_ofRoad_41 2 rfl rfl ?_
        refine j_bipush C d_X_ofRoad_42 rfl ?_
        refine j_icmp_ne (tgt := 57) C d_X_ofRoad_44 rfl r2 (zR_of (x := 12) rfl) (fun c => ?_) (fun c => ?_)
        · have h := h.1 c
          refine j_aload_n C d_X_ofRoad_57 0 rfl rfl ?_
          refine j_getr (kf := 0) (m := 0) C d_X_ofRoad_58 sh_54 rfl i_X rfl rfl fl_X_12 ?_
          refine j_iload_n C d_X_ofRoad_61 1 rfl rfl ?_
          refine j_iload_n C d_X_ofRoad_62 2 rfl rfl ?_
          refine j_callV C d_X_ofRoad_63 ml_X_94 mi_S_ofRoads (c_S_ofRoads (xl X) (gD G) (gad G) (gca G) (v1 := v1) (v2 := v2) hσ r1 r2 h) sh_0 rfl rfl rfl rfl rfl rfl rfl (fun z5 σ6 rz5 hσ6 h => ?_)
          obtain ⟨ez5, h⟩ := h; subst ez5
          exact j_ireturn C d_X_ofRoad_66 rz5 hσ ⟨rfl, h⟩
        · have h := h.2 c
          refine j_aload_n C d_X_ofRoad_47 0 rfl rfl ?_
          refine j_getr (kf := 0) (m := 0) C d_X_ofRoad_48 sh_54 rfl i_X rfl rfl fl_X_12 ?_
          refine j_getr (kf := 2) (m := 3) C d_X_ofRoad_51 sh_0 rfl i_S rfl rfl fl_X_159 ?_
          refine j_iload_n C d_X_ofRoad_54 1 rfl rfl ?_
          obtain ⟨g7, h⟩ := h
          refine j_iaload C d_X_ofRoad_55 sh_3 g7 ?_
          exact j_ireturn C d_X_ofRoad_56 (hσ _ _) hσ ⟨rfl, h⟩
      · have h := h.2 c
        refine j_aload_n C d_X_ofRoad_32 0 rfl rfl ?_
        refine j_getr (kf := 0) (m := 0) C d_X_ofRoad_33 sh_54 rfl i_X rfl rfl fl_X_12 ?_
        refine j_iload_n C d_X_ofRoad_36 1 rfl rfl ?_
        refine j_callV C d_X_ofRoad_37 ml_X_156 mi_S_closuresOf (c_S_closuresOf (xl X) (gD G) (gad G) (gca G) (v1 := v1) hσ r1 h) sh_0 rfl rfl rfl rfl rfl rfl rfl (fun z8 σ9 rz8 hσ9 h => ?_)
        obtain ⟨ez8, h⟩ := h; subst ez8
        exact j_ireturn C d_X_ofRoad_40 rz8 hσ ⟨rfl, h⟩
    · have h := h.2 c
      refine j_bipush C d_X_ofRoad_23 rfl ?_
      exact j_ireturn C d_X_ofRoad_25 (zR_of (x := (-2)) rfl) hσ ⟨rfl, h⟩
  · have h := h.2 c
    refine j_iconst C d_X_ofRoad_11 ?_
    exact j_ireturn C d_X_ofRoad_12 (zR_of (x := (-1)) rfl) hσ ⟨rfl, h⟩
set_option maxRecDepth 100000 in
set_option maxHeartbeats 4000000 in
theorem c_X_ofClosure (l : Launch) (D : va_G) (ad : Nat → Nat) (ca : Nat → ClassId) {σ : zM} {v1 : Int} {v2 : Int} {Q : Int → Prop} (hσ : zRM σ) (r1 : zR v1) (r2 : zR v2) (h : wp_X_ofClosure σ v1 v2 Q) : zCi l D ad ca y_X_ofClosure b_X_ofClosure 3 (some .int) (zrm 1 22) [.ref (ad 54), .int (zI v1), .int (zI v2)] σ (fun z u => σ = u ∧ Q z) := by
  refine zCi_of (by decide +kernel) (Nat.le_of_ble_eq_true rfl) ?_
  intro X G C hl hD had hca
  subst hl hD had hca
  have C : zC X G b_X_ofClosure "GateRoads" 3 (some .int) 1 22 := C
  show zJ X G (zQi X G (fun z u => σ = u ∧ Q z)) 3 0 [(0, .ref (gad G 54)), (1, .int (zI v1)), (2, .int (zI v2))] [] σ
  unfold wp_X_ofClosure at h
  refine j_aload_n C d_X_ofClosure_0 0 rfl rfl ?_
  refine j_getr (kf := 0) (m := 0) C d_X_ofClosure_1 sh_54 rfl i_X rfl rfl fl_X_12 ?_
  refine j_iload_n C d_X_ofClosure_4 1 rfl rfl ?_
  refine j_callV C d_X_ofClosure_5 ml_X_115 mi_S_hasClosure (c_S_hasClosure (xl X) (gD G) (gad G) (gca G) (v1 := v1) hσ r1 h) sh_0 rfl rfl rfl rfl rfl rfl rfl (fun z1 σ2 rz1 hσ2 h => ?_)
  obtain ⟨ez1, h⟩ := h; subst ez1
  refine j_if_ne (tgt := 13) C d_X_ofClosure_8 rfl rz1 (fun c => ?_) (fun c => ?_)
  · have h := h.1 c
    refine j_iload_n C d_X_ofClosure_13 2 rfl rfl ?_
    refine j_iconst C d_X_ofClosure_14 ?_
    refine j_iconst C d_X_ofClosure_15 ?_
    refine j_callS C d_X_ofClosure_16 ml_X_69 ms_X_within (c_X_within (xl X) (gD G) (gad G) (gca G) (v0 := v2) (v1 := 0) (v2 := 2) hσ r2 (zR_of (x := 0) rfl) (zR_of (x := 2) rfl) h) rfl rfl rfl rfl rfl (fun z3 σ4 rz3 hσ4 h => ?_)
    obtain ⟨ez3, h⟩ := h; subst ez3
    refine j_if_ne (tgt := 25) C d_X_ofClosure_19 rfl rz3 (fun c => ?_) (fun c => ?_)
    · have h := h.1 c
      refine j_aload_n C d_X_ofClosure_25 0 rfl rfl ?_
      refine j_getr (kf := 0) (m := 0) C d_X_ofClosure_26 sh_54 rfl i_X rfl rfl fl_X_12 ?_
      refine j_iload_n C d_X_ofClosure_29 1 rfl rfl ?_
      refine j_iload_n C d_X_ofClosure_30 2 rfl rfl ?_
      refine j_callV C d_X_ofClosure_31 ml_X_162 mi_S_ofClosures (c_S_ofClosures (xl X) (gD G) (gad G) (gca G) (v1 := v1) (v2 := v2) hσ r1 r2 h) sh_0 rfl rfl rfl rfl rfl rfl rfl (fun z5 σ6 rz5 hσ6 h => ?_)
      obtain ⟨ez5, h⟩ := h; subst ez5
      exact j_ireturn C d_X_ofClosure_34 rz5 hσ ⟨rfl, h⟩
    · have h := h.2 c
      refine j_bipush C d_X_ofClosure_22 rfl ?_
      exact j_ireturn C d_X_ofClosure_24 (zR_of (x := (-2)) rfl) hσ ⟨rfl, h⟩
  · have h := h.2 c
    refine j_iconst C d_X_ofClosure_11 ?_
    exact j_ireturn C d_X_ofClosure_12 (zR_of (x := (-1)) rfl) hσ ⟨rfl, h⟩
set_option maxRecDepth 100000 in
set_option maxHeartbeats 4000000 in
theorem c_X_ofTraveller (l : Launch) (D : va_G) (ad : Nat → Nat) (ca : Nat → ClassId) {σ : zM} {v1 : Int} {v2 : Int} {Q : Int → Prop} (hσ : zRM σ) (r1 : zR v1) (r2 : zR v2) (h : wp_X_ofTraveller σ v1 v2 Q) : zCi l D ad ca y_X_ofTraveller b_X_ofTraveller 3 (some .int) (zrm 1 22) [.ref (ad 54), .int (zI v1), .int (zI v2)] σ (fun z u => σ = u ∧ Q z) := by
  refine zCi_of (by decide +kernel) (Nat.le_of_ble_eq_true rfl) ?_
  intro X G C hl hD had hca
  subst hl hD had hca
  have C : zC X G b_X_ofTraveller "GateRoads" 3 (some .int) 1 22 := C
  show zJ X G (zQi X G (fun z u => σ = u ∧ Q z)) 3 0 [(0, .ref (gad G 54)), (1, .int (zI v1)), (2, .int (zI v2))] [] σ
  unfold wp_X_ofTraveller at h
  refine j_aload_n C d_X_ofTraveller_0 0 rfl rfl ?_
  refine j_getr (kf := 0) (m := 0) C d_X_ofTraveller_1 sh_54 rfl i_X rfl rfl fl_X_12 ?_
  refine j_iload_n C d_X_ofTraveller_4 1 rfl rfl ?_
  refine j_callV C d_X_ofTraveller_5 ml_X_128 mi_S_hasTraveller (c_S_hasTraveller (xl X) (gD G) (gad G) (gca G) (v1 := v1) hσ r1 h) sh_0 rfl rfl rfl rfl rfl rfl rfl (fun z1 σ2 rz1 hσ2 h => ?_)
  obtain ⟨ez1, h⟩ := h; subst ez1
  refine j_if_ne (tgt := 13) C d_X_ofTraveller_8 rfl rz1 (fun c => ?_) (fun c => ?_)
  · have h := h.1 c
    refine j_iload_n C d_X_ofTraveller_13 2 rfl rfl ?_
    refine j_iconst C d_X_ofTraveller_14 ?_
    refine j_bipush C d_X_ofTraveller_15 rfl ?_
    refine j_callS C d_X_ofTraveller_17 ml_X_69 ms_X_within (c_X_within (xl X) (gD G) (gad G) (gca G) (v0 := v2) (v1 := 0) (v2 := 7) hσ r2 (zR_of (x := 0) rfl) (zR_of (x := 7) rfl) h) rfl rfl rfl rfl rfl (fun z3 σ4 rz3 hσ4 h => ?_)
    obtain ⟨ez3, h⟩ := h; subst ez3
    refine j_if_ne (tgt := 26) C d_X_ofTraveller_20 rfl rz3 (fun c => ?_) (fun c => ?_)
    · have h := h.1 c
      refine j_aload_n C d_X_ofTraveller_26 0 rfl rfl ?_
      refine j_getr (kf := 0) (m := 0) C d_X_ofTraveller_27 sh_54 rfl i_X rfl rfl fl_X_12 ?_
      refine j_iload_n C d_X_ofTraveller_30 1 rfl rfl ?_
      refine j_iload_n C d_X_ofTraveller_31 2 rfl rfl ?_
      refine j_callV C d_X_ofTraveller_32 ml_X_165 mi_S_ofTravellers (c_S_ofTravellers (xl X) (gD G) (gad G) (gca G) (v1 := v1) (v2 := v2) hσ r1 r2 h) sh_0 rfl rfl rfl rfl rfl rfl rfl (fun z5 σ6 rz5 hσ6 h => ?_)
      obtain ⟨ez5, h⟩ := h; subst ez5
      exact j_ireturn C d_X_ofTraveller_35 rz5 hσ ⟨rfl, h⟩
    · have h := h.2 c
      refine j_bipush C d_X_ofTraveller_23 rfl ?_
      exact j_ireturn C d_X_ofTraveller_25 (zR_of (x := (-2)) rfl) hσ ⟨rfl, h⟩
  · have h := h.2 c
    refine j_iconst C d_X_ofTraveller_11 ?_
    exact j_ireturn C d_X_ofTraveller_12 (zR_of (x := (-1)) rfl) hσ ⟨rfl, h⟩
set_option maxRecDepth 100000 in
set_option maxHeartbeats 4000000 in
theorem c_X_count (l : Launch) (D : va_G) (ad : Nat → Nat) (ca : Nat → ClassId) {σ : zM} {v1 : Int} {Q : Int → Prop} (hσ : zRM σ) (r1 : zR v1) (h : wp_X_count σ v1 Q) : zCi l D ad ca y_X_count b_X_count 2 (some .int) (zrm 0 0) [.ref (ad 54), .int (zI v1)] σ (fun z u => σ = u ∧ Q z) := by
  refine zCi_of (by decide +kernel) (Nat.le_of_ble_eq_true rfl) ?_
  intro X G C hl hD had hca
  subst hl hD had hca
  have C : zC X G b_X_count "GateRoads" 2 (some .int) 0 0 := C
  show zJ X G (zQi X G (fun z u => σ = u ∧ Q z)) 2 0 [(0, .ref (gad G 54)), (1, .int (zI v1))] [] σ
  unfold wp_X_count at h
  refine j_iload_n C d_X_count_0 1 rfl rfl ?_
  have hc : v1 = 0 ∨ v1 = 1 ∨ v1 = 2 ∨ v1 = 3 ∨ v1 = 4 ∨ v1 = 5 ∨ (v1 < 0 ∨ 5 < v1) := by omega
  rcases hc with c | c | c | c | c | c | c
  · have h := h.1 c
    refine j_tableIn (tgt := 40) C d_X_count_1 r1 0 c rfl rfl rfl ?_
    refine j_aload_n C d_X_count_40 0 rfl rfl ?_
    refine j_getr (kf := 0) (m := 0) C d_X_count_41 sh_54 rfl i_X rfl rfl fl_X_12 ?_
    refine j_geti (kf := 5) (kI := 5) C d_X_count_44 sh_0 rfl i_S rfl rfl rfl fl_X_80 ?_
    exact j_ireturn C d_X_count_47 (hσ _ _) hσ ⟨rfl, h⟩
  · have h := h.2.1 c
    refine j_tableIn (tgt := 48) C d_X_count_1 r1 1 c rfl rfl rfl ?_
    refine j_aload_n C d_X_count_48 0 rfl rfl ?_
    refine j_getr (kf := 0) (m := 0) C d_X_count_49 sh_54 rfl i_X rfl rfl fl_X_12 ?_
    refine j_geti (kf := 6) (kI := 6) C d_X_count_52 sh_0 rfl i_S rfl rfl rfl fl_X_109 ?_
    exact j_ireturn C d_X_count_55 (hσ _ _) hσ ⟨rfl, h⟩
  · have h := h.2.2.1 c
    refine j_tableIn (tgt := 56) C d_X_count_1 r1 2 c rfl rfl rfl ?_
    refine j_aload_n C d_X_count_56 0 rfl rfl ?_
    refine j_getr (kf := 0) (m := 0) C d_X_count_57 sh_54 rfl i_X rfl rfl fl_X_12 ?_
    refine j_geti (kf := 7) (kI := 7) C d_X_count_60 sh_0 rfl i_S rfl rfl rfl fl_X_122 ?_
    exact j_ireturn C d_X_count_63 (hσ _ _) hσ ⟨rfl, h⟩
  · have h := h.2.2.2.1 c
    refine j_tableIn (tgt := 64) C d_X_count_1 r1 3 c rfl rfl rfl ?_
    refine j_aload_n C d_X_count_64 0 rfl rfl ?_
    refine j_geti (kf := 5) (kI := 5) C d_X_count_65 sh_54 rfl i_X rfl rfl rfl fl_X_168 ?_
    exact j_ireturn C d_X_count_68 (hσ _ _) hσ ⟨rfl, h⟩
  · have h := h.2.2.2.2.1 c
    refine j_tableIn (tgt := 69) C d_X_count_1 r1 4 c rfl rfl rfl ?_
    refine j_aload_n C d_X_count_69 0 rfl rfl ?_
    refine j_getr (kf := 6) (m := 58) C d_X_count_70 sh_54 rfl i_X rfl rfl fl_X_30 ?_
    refine j_geti (kf := 1) (kI := 1) C d_X_count_73 sh_58 rfl i_P rfl rfl rfl fl_X_171 ?_
    exact j_ireturn C d_X_count_76 (hσ _ _) hσ ⟨rfl, h⟩
  · have h := h.2.2.2.2.2.1 c
    refine j_tableIn (tgt := 77) C d_X_count_1 r1 5 c rfl rfl rfl ?_
    refine j_aload_n C d_X_count_77 0 rfl rfl ?_
    refine j_geti (kf := 2) (kI := 2) C d_X_count_78 sh_54 rfl i_X rfl rfl rfl fl_X_174 ?_
    exact j_ireturn C d_X_count_81 (hσ _ _) hσ ⟨rfl, h⟩
  · have h := h.2.2.2.2.2.2 c
    refine j_tableOut (tgt := 82) C d_X_count_1 r1 c rfl ?_
    refine j_bipush C d_X_count_82 rfl ?_
    exact j_ireturn C d_X_count_84 (zR_of (x := (-2)) rfl) hσ ⟨rfl, h⟩
set_option maxRecDepth 100000 in
set_option maxHeartbeats 4000000 in
theorem c_X_whyShut (l : Launch) (D : va_G) (ad : Nat → Nat) (ca : Nat → ClassId) {σ : zM} {v1 : Int} {v2 : Int} {Q : Int → Prop} (hσ : zRM σ) (r1 : zR v1) (r2 : zR v2) (h : wp_X_whyShut σ v1 v2 Q) : zCi l D ad ca y_X_whyShut b_X_whyShut 3 (some .int) (zrm 3 71) [.ref (ad 54), .int (zI v1), .int (zI v2)] σ (fun z u => σ = u ∧ Q z) := by
  refine zCi_of (by decide +kernel) (Nat.le_of_ble_eq_true rfl) ?_
  intro X G C hl hD had hca
  subst hl hD had hca
  have C : zC X G b_X_whyShut "GateRoads" 3 (some .int) 3 71 := C
  show zJ X G (zQi X G (fun z u => σ = u ∧ Q z)) 3 0 [(0, .ref (gad G 54)), (1, .int (zI v1)), (2, .int (zI v2))] [] σ
  unfold wp_X_whyShut at h
  refine j_aload_n C d_X_whyShut_0 0 rfl rfl ?_
  refine j_getr (kf := 0) (m := 0) C d_X_whyShut_1 sh_54 rfl i_X rfl rfl fl_X_12 ?_
  refine j_iload_n C d_X_whyShut_4 1 rfl rfl ?_
  refine j_callV C d_X_whyShut_5 ml_X_88 mi_S_hasRoad (c_S_hasRoad (xl X) (gD G) (gad G) (gca G) (v1 := v1) hσ r1 h) sh_0 rfl rfl rfl rfl rfl rfl rfl (fun z1 σ2 rz1 hσ2 h => ?_)
  obtain ⟨ez1, h⟩ := h; subst ez1
  refine j_if_ne (tgt := 13) C d_X_whyShut_8 rfl rz1 (fun c => ?_) (fun c => ?_)
  · have h := h.1 c
    refine j_iload_n C d_X_whyShut_13 2 rfl rfl ?_
    refine j_iconst C d_X_whyShut_14 ?_
    refine j_sipush C d_X_whyShut_15 rfl ?_
    refine j_callS C d_X_whyShut_18 ml_X_69 ms_X_within (c_X_within (xl X) (gD G) (gad G) (gca G) (v0 := v2) (v1 := 0) (v2 := 2880) hσ r2 (zR_of (x := 0) rfl) (zR_of (x := 2880) rfl) h) rfl rfl rfl rfl rfl (fun z3 σ4 rz3 hσ4 h => ?_)
    obtain ⟨ez3, h⟩ := h; subst ez3
    refine j_if_ne (tgt := 27) C d_X_whyShut_21 rfl rz3 (fun c => ?_) (fun c => ?_)
    · have h := h.1 c
      refine j_aload_n C d_X_whyShut_27 0 rfl rfl ?_
      refine j_getr (kf := 0) (m := 0) C d_X_whyShut_28 sh_54 rfl i_X rfl rfl fl_X_12 ?_
      refine j_iload_n C d_X_whyShut_31 1 rfl rfl ?_
      refine j_iload_n C d_X_whyShut_32 2 rfl rfl ?_
      refine j_callV C d_X_whyShut_33 ml_X_177 mi_S_whyNoEntry (c_S_whyNoEntry (xl X) (gD G) (gad G) (gca G) (v1 := v1) (v2 := v2) hσ r1 r2 h) sh_0 rfl rfl rfl rfl rfl rfl rfl (fun z5 σ6 rz5 hσ6 h => ?_)
      obtain ⟨ez5, h⟩ := h; subst ez5
      exact j_ireturn C d_X_whyShut_36 rz5 hσ ⟨rfl, h⟩
    · have h := h.2 c
      refine j_bipush C d_X_whyShut_24 rfl ?_
      exact j_ireturn C d_X_whyShut_26 (zR_of (x := (-2)) rfl) hσ ⟨rfl, h⟩
  · have h := h.2 c
    refine j_iconst C d_X_whyShut_11 ?_
    exact j_ireturn C d_X_whyShut_12 (zR_of (x := (-1)) rfl) hσ ⟨rfl, h⟩
set_option maxRecDepth 100000 in
set_option maxHeartbeats 4000000 in
theorem c_S_waitEnd (l : Launch) (D : va_G) (ad : Nat → Nat) (ca : Nat → ClassId) {σ : zM} {v1 : Int} {v2 : Int} {Q : Int → Prop} (hσ : zRM σ) (r1 : zR v1) (r2 : zR v2) (h : wp_S_waitEnd σ v1 v2 Q) : zCi l D ad ca y_S_waitEnd b_S_waitEnd 4 (some .int) (zrm 2 47) [.ref (ad 0), .int (zI v1), .int (zI v2)] σ (fun z u => σ = u ∧ Q z) := by
  refine zCi_of (by decide +kernel) (Nat.le_of_ble_eq_true rfl) ?_
  intro X G C hl hD had hca
  subst hl hD had hca
  have C : zC X G b_S_waitEnd "GateRoads$State" 4 (some .int) 2 47 := C
  show zJ X G (zQi X G (fun z u => σ = u ∧ Q z)) 4 0 [(0, .ref (gad G 0)), (1, .int (zI v1)), (2, .int (zI v2))] [] σ
  unfold wp_S_waitEnd at h
  refine j_aload_n C d_S_waitEnd_0 0 rfl rfl ?_
  refine j_iload_n C d_S_waitEnd_1 1 rfl rfl ?_
  refine j_iload_n C d_S_waitEnd_2 2 rfl rfl ?_
  refine j_callV C d_S_waitEnd_3 ml_S_76 mi_S_openUntil (c_S_openUntil (xl X) (gD G) (gad G) (gca G) (v1 := v1) (v2 := v2) hσ r1 r2 h) sh_0 rfl rfl rfl rfl rfl rfl rfl (fun z1 σ2 rz1 hσ2 h => ?_)
  obtain ⟨ez1, h⟩ := h; subst ez1
  refine j_iload_n C d_S_waitEnd_6 2 rfl rfl ?_
  refine j_aload_n C d_S_waitEnd_7 0 rfl rfl ?_
  refine j_iload_n C d_S_waitEnd_8 1 rfl rfl ?_
  refine j_iconst C d_S_waitEnd_9 ?_
  refine j_callV C d_S_waitEnd_10 ml_S_73 mi_S_ofRooms (c_S_ofRooms (xl X) (gD G) (gad G) (gca G) (v1 := v1) (v2 := 2) hσ r1 (zR_of (x := 2) rfl) h) sh_0 rfl rfl rfl rfl rfl rfl rfl (fun z3 σ4 rz3 hσ4 h => ?_)
  obtain ⟨ez3, h⟩ := h; subst ez3
  refine j_iadd C d_S_waitEnd_13 ?_
  obtain ⟨g5, h⟩ := h
  refine j_min C d_S_waitEnd_14 ml_S_79 zs_min zi_Math zc_min rfl rfl rz1 g5 ?_
  refine j_istore_n (L' := [(3, .int (zI (min z1 (v2 + z3)))), (0, .ref (gad G 0)), (1, .int (zI v1)), (2, .int (zI v2))]) C d_S_waitEnd_17 rfl rfl rfl ?_
  refine j_iload_n C d_S_waitEnd_18 0 rfl rfl ?_
  refine j_sipush C d_S_waitEnd_19 rfl ?_
  refine j_min C d_S_waitEnd_22 ml_S_79 zs_min zi_Math zc_min rfl rfl (zMin_rg rz1 g5) (zR_of (x := 2880) rfl) ?_
  exact j_ireturn C d_S_waitEnd_25 (zMin_rg (zMin_rg rz1 g5) (zR_of (x := 2880) rfl)) hσ ⟨rfl, h⟩
set_option maxRecDepth 100000 in
set_option maxHeartbeats 4000000 in
theorem w_G_letIn_L82 {X : zX} {G : zG} (C : zC X G b_G_letIn "GateRoads$Gates" 10 (none) 1 22) {v2 : Int} {v3 : Int} {v4 : Int} {v6 : Int} {v7 : Int} {v8 : Int} (r2 : zR v2) (r3 : zR v3) (r4 : zR v4) (r6 : zR v6) (r7 : zR v7) (r8 : zR v8) {Q : zM → Prop} {k108 : zM → Prop} (hk108 : ∀ (σ : zM), zRM σ → k108 σ → zJ X G (zQv X G Q) 10 108 [(0, .ref (gad G 62)), (1, .ref (gad G 0)), (2, .int (zI v2)), (3, .int (zI v3)), (4, .int (zI v4)), (6, .int (zI v6)), (7, .int (zI v7))] [] σ) : ∀ (n : Nat) (σ : zM) (v9 : Int) (hσ : zRM σ) (r9 : zR v9), wp_G_letIn_L82 v2 v3 v4 v6 v7 v8 k108 Q n σ v9 → zJ X G (zQv X G Q) 10 82 [(0, .ref (gad G 62)), (1, .ref (gad G 0)), (2, .int (zI v2)), (3, .int (zI v3)), (4, .int (zI v4)), (6, .int (zI v6)), (7, .int (zI v7)), (8, .int (zI v8)), (9, .int (zI v9))] [] σ := by
  intro n
  induction n with
  | zero => intro σ v9 hσ r9 h; exact False.elim h
  | succ n ih =>
    intro σ v9 hσ r9 h
    rw [wp_G_letIn_L82] at h
    refine j_iload C d_G_letIn_82 8 rfl ?_
    refine j_iload C d_G_letIn_84 7 rfl ?_
    refine j_icmp_gt (tgt := 108) C d_G_letIn_86 rfl r9 r8 (fun c => ?_) (fun c => ?_)
    · have h := h.1 c
      refine j_sub (L' := [(0, .ref (gad G 62)), (1, .ref (gad G 0)), (2, .int (zI v2)), (3, .int (zI v3)), (4, .int (zI v4)), (6, .int (zI v6)), (7, .int (zI v7))]) [0, 1, 2, 3, 4, 5, 6] rfl ?_
      exact hk108 σ hσ h
    · have h := h.2 c
      refine j_aload_n C d_G_letIn_89 0 rfl rfl ?_
      refine j_getr (kf := 0) (m := 63) C d_G_letIn_90 sh_62 rfl i_G rfl rfl fl_G_9 ?_
      refine j_iload C d_G_letIn_93 8 rfl ?_
      refine j_dup2 C d_G_letIn_95 rfl rfl ?_
      obtain ⟨g13, h⟩ := h
      refine j_iaload C d_G_letIn_96 sh_63 g13 ?_
      refine j_iconst C d_G_letIn_97 ?_
      refine j_iload_n C d_G_letIn_98 2 rfl rfl ?_
      refine j_ishl C d_G_letIn_99 ?_
      refine j_ior C d_G_letIn_100 ?_
      obtain ⟨g14, h⟩ := h
      refine j_iastore C d_G_letIn_101 sh_63 g14 ?_
      refine j_mem (fun σ15 eσ15 => ?_)
      have h := h σ15 eσ15
      have hσ15 : zRM σ15 := by rw [eσ15]; exact zU_rg hσ _ _ (zOr_rg _ _)
      obtain ⟨g16, h⟩ := h
      refine j_iinc (L' := [(9, .int (zI (v9 + 1))), (0, .ref (gad G 62)), (1, .ref (gad G 0)), (2, .int (zI v2)), (3, .int (zI v3)), (4, .int (zI v4)), (6, .int (zI v6)), (7, .int (zI v7)), (8, .int (zI v8))]) C d_G_letIn_102 8 rfl rfl rfl ?_
      refine j_goto (tgt := 82) C d_G_letIn_105 rfl ?_
      refine j_sub (L' := [(0, .ref (gad G 62)), (1, .ref (gad G 0)), (2, .int (zI v2)), (3, .int (zI v3)), (4, .int (zI v4)), (6, .int (zI v6)), (7, .int (zI v7)), (8, .int (zI v8)), (9, .int (zI (v9 + 1)))]) [1, 2, 3, 4, 5, 6, 7, 8, 0] rfl ?_
      exact ih σ15 (v9 + 1) hσ15 g16 h
set_option maxRecDepth 100000 in
set_option maxHeartbeats 4000000 in
theorem w_G_letIn_L47 {X : zX} {G : zG} (C : zC X G b_G_letIn "GateRoads$Gates" 10 (none) 1 22) {v2 : Int} {v3 : Int} {v4 : Int} {v6 : Int} (r2 : zR v2) (r3 : zR v3) (r4 : zR v4) (r6 : zR v6) {Q : zM → Prop} : ∀ (n : Nat) (σ : zM) (v7 : Int) (hσ : zRM σ) (r7 : zR v7), wp_G_letIn_L47 v2 v3 v4 v6 Q n σ v7 → zJ X G (zQv X G Q) 10 47 [(0, .ref (gad G 62)), (1, .ref (gad G 0)), (2, .int (zI v2)), (3, .int (zI v3)), (4, .int (zI v4)), (6, .int (zI v6)), (7, .int (zI v7))] [] σ := by
  intro n
  induction n with
  | zero => intro σ v7 hσ r7 h; exact False.elim h
  | succ n ih =>
    intro σ v7 hσ r7 h
    rw [wp_G_letIn_L47] at h
    refine j_iload C d_G_letIn_47 6 rfl ?_
    refine j_sipush C d_G_letIn_49 rfl ?_
    refine j_icmp_ge (tgt := 117) C d_G_letIn_52 rfl r7 (zR_of (x := 2880) rfl) (fun c => ?_) (fun c => ?_)
    · have h := h.1 c
      exact j_vreturn C d_G_letIn_117 hσ h
    · have h := h.2 c
      refine j_iload C d_G_letIn_55 6 rfl ?_
      refine j_iload C d_G_letIn_57 5 rfl ?_
      refine j_iadd C d_G_letIn_59 ?_
      refine j_sipush C d_G_letIn_60 rfl ?_
      refine j_iload C d_G_letIn_63 4 rfl ?_
      refine j_isub C d_G_letIn_65 ?_
      obtain ⟨g8, h⟩ := h
      obtain ⟨g9, h⟩ := h
      refine j_min C d_G_letIn_66 ml_G_49 zs_min zi_Math zc_min rfl rfl g8 g9 ?_
      refine j_istore (L' := [(8, .int (zI (min (v7 + v6) (2880 - v4)))), (0, .ref (gad G 62)), (1, .ref (gad G 0)), (2, .int (zI v2)), (3, .int (zI v3)), (4, .int (zI v4)), (6, .int (zI v6)), (7, .int (zI v7))]) C d_G_letIn_69 rfl rfl ?_
      refine j_iload C d_G_letIn_71 7 rfl ?_
      refine j_aload_n C d_G_letIn_73 2 rfl rfl ?_
      refine j_iload_n C d_G_letIn_74 3 rfl rfl ?_
      refine j_iload_n C d_G_letIn_75 4 rfl rfl ?_
      refine j_callV C d_G_letIn_76 ml_G_54 mi_S_spanFrom (c_S_spanFrom (xl X) (gD G) (gad G) (gca G) (v1 := v2) (v2 := v3) hσ r2 r3 h) sh_0 rfl rfl rfl rfl rfl rfl rfl (fun z10 σ11 rz10 hσ11 h => ?_)
      obtain ⟨ez10, h⟩ := h; subst ez10
      refine j_iadd C d_G_letIn_79 ?_
      obtain ⟨g12, h⟩ := h
      refine j_istore (L' := [(9, .int (zI (v7 + z10))), (8, .int (zI (min (v7 + v6) (2880 - v4)))), (0, .ref (gad G 62)), (1, .ref (gad G 0)), (2, .int (zI v2)), (3, .int (zI v3)), (4, .int (zI v4)), (6, .int (zI v6)), (7, .int (zI v7))]) C d_G_letIn_80 rfl rfl ?_
      obtain ⟨n19, h⟩ := h
      refine j_sub (L' := [(0, .ref (gad G 62)), (1, .ref (gad G 0)), (2, .int (zI v2)), (3, .int (zI v3)), (4, .int (zI v4)), (6, .int (zI v6)), (7, .int (zI v7)), (8, .int (zI (min (v7 + v6) (2880 - v4)))), (9, .int (zI (v7 + z10)))]) [2, 3, 4, 5, 6, 7, 8, 1, 0] rfl ?_
      refine w_G_letIn_L82 C r2 r3 r4 r6 r7 (zMin_rg g8 g9) ?_ n19 σ (v7 + z10) hσ g12 h
      · intro σ17 hσ17 h
        obtain ⟨g18, h⟩ := h
        refine j_iincW (L' := [(7, .int (zI (v7 + 1440))), (0, .ref (gad G 62)), (1, .ref (gad G 0)), (2, .int (zI v2)), (3, .int (zI v3)), (4, .int (zI v4)), (6, .int (zI v6))]) C d_G_letIn_108 6 rfl rfl rfl ?_
        refine j_goto (tgt := 47) C d_G_letIn_114 rfl ?_
        refine j_sub (L' := [(0, .ref (gad G 62)), (1, .ref (gad G 0)), (2, .int (zI v2)), (3, .int (zI v3)), (4, .int (zI v4)), (6, .int (zI v6)), (7, .int (zI (v7 + 1440)))]) [1, 2, 3, 4, 5, 6, 0] rfl ?_
        exact ih σ17 (v7 + 1440) hσ17 g18 h
set_option maxRecDepth 100000 in
set_option maxHeartbeats 4000000 in
theorem w_G_letIn_b41 {X : zX} {G : zG} (C : zC X G b_G_letIn "GateRoads$Gates" 10 (none) 1 22) {Q : zM → Prop} (σ : zM) (v2 : Int) (v3 : Int) (v4 : Int) (s0 : Int) (s1 : Int) (hσ : zRM σ) (r2 : zR v2) (r3 : zR v3) (r4 : zR v4) (rs0 : zR s0) (rs1 : zR s1) (h : wp_G_letIn_b41 Q σ v2 v3 v4 s0 s1) : zJ X G (zQv X G Q) 10 41 [(0, .ref (gad G 62)), (1, .ref (gad G 0)), (2, .int (zI v2)), (3, .int (zI v3)), (4, .int (zI v4))] [.int (zI s1), .int (zI s0)] σ := by
  unfold wp_G_letIn_b41 at h
  refine j_isub C d_G_letIn_41 ?_
  obtain ⟨g7, h⟩ := h
  refine j_istore (L' := [(6, .int (zI (s0 - s1))), (0, .ref (gad G 62)), (1, .ref (gad G 0)), (2, .int (zI v2)), (3, .int (zI v3)), (4, .int (zI v4))]) C d_G_letIn_42 rfl rfl ?_
  refine j_iconst C d_G_letIn_44 ?_
  refine j_istore (L' := [(7, .int (zI 0)), (6, .int (zI (s0 - s1))), (0, .ref (gad G 62)), (1, .ref (gad G 0)), (2, .int (zI v2)), (3, .int (zI v3)), (4, .int (zI v4))]) C d_G_letIn_45 rfl rfl ?_
  obtain ⟨n20, h⟩ := h
  refine j_sub (L' := [(0, .ref (gad G 62)), (1, .ref (gad G 0)), (2, .int (zI v2)), (3, .int (zI v3)), (4, .int (zI v4)), (6, .int (zI (s0 - s1))), (7, .int (zI 0))]) [2, 3, 4, 5, 6, 1, 0] rfl ?_
  refine w_G_letIn_L47 C r2 r3 r4 g7 n20 σ 0 hσ (zR_of (x := 0) rfl) h
set_option maxRecDepth 100000 in
set_option maxHeartbeats 4000000 in
theorem w_G_letIn_b22 {X : zX} {G : zG} (C : zC X G b_G_letIn "GateRoads$Gates" 10 (none) 1 22) {Q : zM → Prop} (σ : zM) (v2 : Int) (v3 : Int) (v4 : Int) (s0 : Int) (hσ : zRM σ) (r2 : zR v2) (r3 : zR v3) (r4 : zR v4) (rs0 : zR s0) (h : wp_G_letIn_b22 Q σ v2 v3 v4 s0) : zJ X G (zQv X G Q) 10 22 [(0, .ref (gad G 62)), (1, .ref (gad G 0)), (2, .int (zI v2)), (3, .int (zI v3)), (4, .int (zI v4))] [.int (zI s0)] σ := by
  unfold wp_G_letIn_b22 at h
  refine j_istore (L' := [(5, .int (zI s0)), (0, .ref (gad G 62)), (1, .ref (gad G 0)), (2, .int (zI v2)), (3, .int (zI v3)), (4, .int (zI v4))]) C d_G_letIn_22 rfl rfl ?_
  refine j_aload_n C d_G_letIn_24 2 rfl rfl ?_
  refine j_iload_n C d_G_letIn_25 3 rfl rfl ?_
  refine j_iload_n C d_G_letIn_26 4 rfl rfl ?_
  refine j_callV C d_G_letIn_27 ml_G_46 mi_S_spanTo (c_S_spanTo (xl X) (gD G) (gad G) (gca G) (v1 := v2) (v2 := v3) hσ r2 r3 h) sh_0 rfl rfl rfl rfl rfl rfl rfl (fun z5 σ6 rz5 hσ6 h => ?_)
  obtain ⟨ez5, h⟩ := h; subst ez5
  refine j_iload C d_G_letIn_30 0 rfl ?_
  refine j_if_eq (tgt := 40) C d_G_letIn_32 rfl rs0 (fun c => ?_) (fun c => ?_)
  · have h := h.1 c
    refine j_iconst C d_G_letIn_40 ?_
    refine j_sub (L' := [(0, .ref (gad G 62)), (1, .ref (gad G 0)), (2, .int (zI v2)), (3, .int (zI v3)), (4, .int (zI v4))]) [1, 2, 3, 4, 5] rfl ?_
    refine w_G_letIn_b41 C σ v2 v3 v4 z5 1 hσ r2 r3 r4 rz5 (zR_of (x := 1) rfl) h
  · have h := h.2 c
    refine j_iload C d_G_letIn_35 5 rfl ?_
    refine j_goto (tgt := 41) C d_G_letIn_37 rfl ?_
    refine j_sub (L' := [(0, .ref (gad G 62)), (1, .ref (gad G 0)), (2, .int (zI v2)), (3, .int (zI v3)), (4, .int (zI v4))]) [1, 2, 3, 4, 5] rfl ?_
    refine w_G_letIn_b41 C σ v2 v3 v4 z5 v4 hσ r2 r3 r4 rz5 r4 h
set_option maxRecDepth 100000 in
set_option maxHeartbeats 4000000 in
theorem c_G_letIn (l : Launch) (D : va_G) (ad : Nat → Nat) (ca : Nat → ClassId) {σ : zM} {v2 : Int} {v3 : Int} {Q : zM → Prop} (hσ : zRM σ) (r2 : zR v2) (r3 : zR v3) (h : wp_G_letIn σ v2 v3 Q) : zCv l D ad ca y_G_letIn b_G_letIn 10 (zrm 1 22) [.ref (ad 62), .ref (ad 0), .int (zI v2), .int (zI v3)] σ Q := by
  refine zCv_of (by decide +kernel) (Nat.le_of_ble_eq_true rfl) ?_
  intro X G C hl hD had hca
  subst hl hD had hca
  have C : zC X G b_G_letIn "GateRoads$Gates" 10 (none) 1 22 := C
  show zJ X G (zQv X G Q) 10 0 [(0, .ref (gad G 62)), (1, .ref (gad G 0)), (2, .int (zI v2)), (3, .int (zI v3))] [] σ
  unfold wp_G_letIn at h
  refine j_aload_n C d_G_letIn_0 1 rfl rfl ?_
  refine j_iload_n C d_G_letIn_1 2 rfl rfl ?_
  refine j_iconst C d_G_letIn_2 ?_
  refine j_callV C d_G_letIn_3 ml_G_31 mi_S_ofRoads (c_S_ofRoads (xl X) (gD G) (gad G) (gca G) (v1 := v2) (v2 := 2) hσ r2 (zR_of (x := 2) rfl) h) sh_0 rfl rfl rfl rfl rfl rfl rfl (fun z1 σ2 rz1 hσ2 h => ?_)
  obtain ⟨ez1, h⟩ := h; subst ez1
  refine j_istore (L' := [(4, .int (zI z1)), (0, .ref (gad G 62)), (1, .ref (gad G 0)), (2, .int (zI v2)), (3, .int (zI v3))]) C d_G_letIn_6 rfl rfl ?_
  refine j_aload_n C d_G_letIn_8 2 rfl rfl ?_
  refine j_iload_n C d_G_letIn_9 3 rfl rfl ?_
  refine j_iconst C d_G_letIn_10 ?_
  refine j_callV C d_G_letIn_11 ml_G_31 mi_S_ofRoads (c_S_ofRoads (xl X) (gD G) (gad G) (gca G) (v1 := v2) (v2 := 3) hσ r2 (zR_of (x := 3) rfl) h) sh_0 rfl rfl rfl rfl rfl rfl rfl (fun z3 σ4 rz3 hσ4 h => ?_)
  obtain ⟨ez3, h⟩ := h; subst ez3
  refine j_if_eq (tgt := 21) C d_G_letIn_14 rfl rz3 (fun c => ?_) (fun c => ?_)
  · have h := h.1 c
    refine j_iconst C d_G_letIn_21 ?_
    refine j_sub (L' := [(0, .ref (gad G 62)), (1, .ref (gad G 0)), (2, .int (zI v2)), (3, .int (zI v3)), (4, .int (zI z1))]) [1, 2, 3, 4, 0] rfl ?_
    refine w_G_letIn_b22 C σ v2 v3 z1 0 hσ r2 r3 rz1 (zR_of (x := 0) rfl) h
  · have h := h.2 c
    refine j_iconst C d_G_letIn_17 ?_
    refine j_goto (tgt := 22) C d_G_letIn_18 rfl ?_
    refine j_sub (L' := [(0, .ref (gad G 62)), (1, .ref (gad G 0)), (2, .int (zI v2)), (3, .int (zI v3)), (4, .int (zI z1))]) [1, 2, 3, 4, 0] rfl ?_
    refine w_G_letIn_b22 C σ v2 v3 z1 1 hσ r2 r3 rz1 (zR_of (x := 1) rfl) h
set_option maxRecDepth 100000 in
set_option maxHeartbeats 4000000 in
theorem w_G_shut_L27 {X : zX} {G : zG} (C : zC X G b_G_shut "GateRoads$Gates" 6 (none) 1 22) {v3 : Int} {v4 : Int} (r3 : zR v3) (r4 : zR v4) {Q : zM → Prop} : ∀ (n : Nat) (σ : zM) (v5 : Int) (hσ : zRM σ) (r5 : zR v5), wp_G_shut_L27 v3 v4 Q n σ v5 → zJ X G (zQv X G Q) 6 27 [(0, .ref (gad G 62)), (3, .int (zI v3)), (4, .int (zI v4)), (5, .int (zI v5))] [] σ := by
  intro n
  induction n with
  | zero => intro σ v5 hσ r5 h; exact False.elim h
  | succ n ih =>
    intro σ v5 hσ r5 h
    rw [wp_G_shut_L27] at h
    refine j_iload C d_G_shut_27 3 rfl ?_
    refine j_iload C d_G_shut_29 2 rfl ?_
    refine j_icmp_ge (tgt := 51) C d_G_shut_31 rfl r5 r4 (fun c => ?_) (fun c => ?_)
    · have h := h.1 c
      exact j_vreturn C d_G_shut_51 hσ h
    · have h := h.2 c
      refine j_aload_n C d_G_shut_34 0 rfl rfl ?_
      refine j_getr (kf := 0) (m := 63) C d_G_shut_35 sh_62 rfl i_G rfl rfl fl_G_9 ?_
      refine j_iload C d_G_shut_38 3 rfl ?_
      refine j_dup2 C d_G_shut_40 rfl rfl ?_
      obtain ⟨g7, h⟩ := h
      refine j_iaload C d_G_shut_41 sh_63 g7 ?_
      refine j_iload_n C d_G_shut_42 1 rfl rfl ?_
      refine j_iand C d_G_shut_43 ?_
      obtain ⟨g8, h⟩ := h
      refine j_iastore C d_G_shut_44 sh_63 g8 ?_
      refine j_mem (fun σ9 eσ9 => ?_)
      have h := h σ9 eσ9
      have hσ9 : zRM σ9 := by rw [eσ9]; exact zU_rg hσ _ _ (zAnd_rg _ _)
      obtain ⟨g10, h⟩ := h
      refine j_iinc (L' := [(5, .int (zI (v5 + 1))), (0, .ref (gad G 62)), (3, .int (zI v3)), (4, .int (zI v4))]) C d_G_shut_45 3 rfl rfl rfl ?_
      refine j_goto (tgt := 27) C d_G_shut_48 rfl ?_
      refine j_sub (L' := [(0, .ref (gad G 62)), (3, .int (zI v3)), (4, .int (zI v4)), (5, .int (zI (v5 + 1)))]) [1, 2, 3, 0] rfl ?_
      exact ih σ9 (v5 + 1) hσ9 g10 h
set_option maxRecDepth 100000 in
set_option maxHeartbeats 4000000 in
theorem c_G_shut (l : Launch) (D : va_G) (ad : Nat → Nat) (ca : Nat → ClassId) {σ : zM} {v2 : Int} {Q : zM → Prop} (hσ : zRM σ) (r2 : zR v2) (h : wp_G_shut σ v2 Q) : zCv l D ad ca y_G_shut b_G_shut 6 (zrm 1 22) [.ref (ad 62), .ref (ad 0), .int (zI v2)] σ Q := by
  refine zCv_of (by decide +kernel) (Nat.le_of_ble_eq_true rfl) ?_
  intro X G C hl hD had hca
  subst hl hD had hca
  have C : zC X G b_G_shut "GateRoads$Gates" 6 (none) 1 22 := C
  show zJ X G (zQv X G Q) 6 0 [(0, .ref (gad G 62)), (1, .ref (gad G 0)), (2, .int (zI v2))] [] σ
  unfold wp_G_shut at h
  refine j_iconst C d_G_shut_0 ?_
  refine j_aload_n C d_G_shut_1 1 rfl rfl ?_
  refine j_iload_n C d_G_shut_2 2 rfl rfl ?_
  refine j_iconst C d_G_shut_3 ?_
  refine j_callV C d_G_shut_4 ml_G_57 mi_S_ofClosures (c_S_ofClosures (xl X) (gD G) (gad G) (gca G) (v1 := v2) (v2 := 0) hσ r2 (zR_of (x := 0) rfl) h) sh_0 rfl rfl rfl rfl rfl rfl rfl (fun z1 σ2 rz1 hσ2 h => ?_)
  obtain ⟨ez1, h⟩ := h; subst ez1
  refine j_ishl C d_G_shut_7 ?_
  refine j_iconst C d_G_shut_8 ?_
  refine j_ixor C d_G_shut_9 ?_
  refine j_istore_n (L' := [(3, .int (zI (zXor (zShl 1 z1) (-1)))), (0, .ref (gad G 62)), (1, .ref (gad G 0)), (2, .int (zI v2))]) C d_G_shut_10 rfl rfl rfl ?_
  refine j_aload_n C d_G_shut_11 2 rfl rfl ?_
  refine j_iload_n C d_G_shut_12 3 rfl rfl ?_
  refine j_iconst C d_G_shut_13 ?_
  refine j_callV C d_G_shut_14 ml_G_57 mi_S_ofClosures (c_S_ofClosures (xl X) (gD G) (gad G) (gca G) (v1 := v2) (v2 := 2) hσ r2 (zR_of (x := 2) rfl) h) sh_0 rfl rfl rfl rfl rfl rfl rfl (fun z3 σ4 rz3 hσ4 h => ?_)
  obtain ⟨ez3, h⟩ := h; subst ez3
  refine j_istore (L' := [(4, .int (zI z3)), (3, .int (zI (zXor (zShl 1 z1) (-1)))), (0, .ref (gad G 62)), (1, .ref (gad G 0)), (2, .int (zI v2))]) C d_G_shut_17 rfl rfl ?_
  refine j_aload_n C d_G_shut_19 3 rfl rfl ?_
  refine j_iload_n C d_G_shut_20 4 rfl rfl ?_
  refine j_iconst C d_G_shut_21 ?_
  refine j_callV C d_G_shut_22 ml_G_57 mi_S_ofClosures (c_S_ofClosures (xl X) (gD G) (gad G) (gca G) (v1 := v2) (v2 := 1) hσ r2 (zR_of (x := 1) rfl) h) sh_0 rfl rfl rfl rfl rfl rfl rfl (fun z5 σ6 rz5 hσ6 h => ?_)
  obtain ⟨ez5, h⟩ := h; subst ez5
  refine j_istore (L' := [(5, .int (zI z5)), (4, .int (zI z3)), (3, .int (zI (zXor (zShl 1 z1) (-1)))), (0, .ref (gad G 62)), (1, .ref (gad G 0)), (2, .int (zI v2))]) C d_G_shut_25 rfl rfl ?_
  obtain ⟨n11, h⟩ := h
  refine j_sub (L' := [(0, .ref (gad G 62)), (3, .int (zI (zXor (zShl 1 z1) (-1)))), (4, .int (zI z3)), (5, .int (zI z5))]) [3, 2, 1, 0] rfl ?_
  refine w_G_shut_L27 C (zXor_rg _ _) rz3 n11 σ z5 hσ rz5 h
set_option maxRecDepth 100000 in
set_option maxHeartbeats 4000000 in
theorem w_G_prepare_L36 {X : zX} {G : zG} (C : zC X G b_G_prepare "GateRoads$Gates" 5 (none) 2 51) {v2 : Int} {v3 : Int} (r2 : zR v2) (r3 : zR v3) {Q : zM → Prop} {k56 : zM → Prop} (hk56 : ∀ (σ : zM), zRM σ → k56 σ → zJ X G (zQv X G Q) 5 56 [(0, .ref (gad G 62)), (1, .ref (gad G 0)), (2, .int (zI v2))] [] σ) : ∀ (n : Nat) (σ : zM) (v4 : Int) (hσ : zRM σ) (r4 : zR v4), wp_G_prepare_L36 v2 v3 k56 Q n σ v4 → zJ X G (zQv X G Q) 5 36 [(0, .ref (gad G 62)), (1, .ref (gad G 0)), (2, .int (zI v2)), (3, .int (zI v3)), (4, .int (zI v4))] [] σ := by
  intro n
  induction n with
  | zero => intro σ v4 hσ r4 h; exact False.elim h
  | succ n ih =>
    intro σ v4 hσ r4 h
    rw [wp_G_prepare_L36] at h
    refine j_iload C d_G_prepare_36 4 rfl ?_
    refine j_iload_n C d_G_prepare_38 3 rfl rfl ?_
    refine j_icmp_ge (tgt := 56) C d_G_prepare_39 rfl r4 r3 (fun c => ?_) (fun c => ?_)
    · have h := h.1 c
      refine j_sub (L' := [(0, .ref (gad G 62)), (1, .ref (gad G 0)), (2, .int (zI v2))]) [0, 1, 2] rfl ?_
      exact hk56 σ hσ h
    · have h := h.2 c
      refine j_aload_n C d_G_prepare_42 0 rfl rfl ?_
      refine j_aload_n C d_G_prepare_43 1 rfl rfl ?_
      refine j_iload_n C d_G_prepare_44 2 rfl rfl ?_
      refine j_iload C d_G_prepare_45 4 rfl ?_
      refine j_callVv C d_G_prepare_47 ml_G_35 mi_G_letIn (c_G_letIn (xl X) (gD G) (gad G) (gca G) (v2 := v2) (v3 := v4) hσ r2 r4 h) sh_62 rfl rfl rfl rfl rfl rfl rfl (fun σ5 hσ5 h => ?_)
      obtain ⟨g6, h⟩ := h
      refine j_iinc (L' := [(4, .int (zI (v4 + 1))), (0, .ref (gad G 62)), (1, .ref (gad G 0)), (2, .int (zI v2)), (3, .int (zI v3))]) C d_G_prepare_50 4 rfl rfl rfl ?_
      refine j_goto (tgt := 36) C d_G_prepare_53 rfl ?_
      refine j_sub (L' := [(0, .ref (gad G 62)), (1, .ref (gad G 0)), (2, .int (zI v2)), (3, .int (zI v3)), (4, .int (zI (v4 + 1)))]) [1, 2, 3, 4, 0] rfl ?_
      exact ih σ5 (v4 + 1) hσ5 g6 h
set_option maxRecDepth 100000 in
set_option maxHeartbeats 4000000 in
theorem w_G_prepare_L18 {X : zX} {G : zG} (C : zC X G b_G_prepare "GateRoads$Gates" 5 (none) 2 51) {Q : zM → Prop} {k62 : zM → Prop} (hk62 : ∀ (σ : zM), zRM σ → k62 σ → zJ X G (zQv X G Q) 5 62 [(0, .ref (gad G 62)), (1, .ref (gad G 0))] [] σ) : ∀ (n : Nat) (σ : zM) (v2 : Int) (hσ : zRM σ) (r2 : zR v2), wp_G_prepare_L18 k62 Q n σ v2 → zJ X G (zQv X G Q) 5 18 [(0, .ref (gad G 62)), (1, .ref (gad G 0)), (2, .int (zI v2))] [] σ := by
  intro n
  induction n with
  | zero => intro σ v2 hσ r2 h; exact False.elim h
  | succ n ih =>
    intro σ v2 hσ r2 h
    rw [wp_G_prepare_L18] at h
    refine j_iload_n C d_G_prepare_18 2 rfl rfl ?_
    refine j_aload_n C d_G_prepare_19 1 rfl rfl ?_
    refine j_geti (kf := 5) (kI := 5) C d_G_prepare_20 sh_0 rfl i_S rfl rfl rfl fl_G_25 ?_
    refine j_icmp_ge (tgt := 62) C d_G_prepare_23 rfl r2 (hσ _ _) (fun c => ?_) (fun c => ?_)
    · have h := h.1 c
      refine j_sub (L' := [(0, .ref (gad G 62)), (1, .ref (gad G 0))]) [0, 1] rfl ?_
      exact hk62 σ hσ h
    · have h := h.2 c
      refine j_aload_n C d_G_prepare_26 1 rfl rfl ?_
      refine j_iload_n C d_G_prepare_27 2 rfl rfl ?_
      refine j_iconst C d_G_prepare_28 ?_
      refine j_callV C d_G_prepare_29 ml_G_31 mi_S_ofRoads (c_S_ofRoads (xl X) (gD G) (gad G) (gca G) (v1 := v2) (v2 := 4) hσ r2 (zR_of (x := 4) rfl) h) sh_0 rfl rfl rfl rfl rfl rfl rfl (fun z2 σ3 rz2 hσ3 h => ?_)
      obtain ⟨ez2, h⟩ := h; subst ez2
      refine j_istore_n (L' := [(3, .int (zI z2)), (0, .ref (gad G 62)), (1, .ref (gad G 0)), (2, .int (zI v2))]) C d_G_prepare_32 rfl rfl rfl ?_
      refine j_iconst C d_G_prepare_33 ?_
      refine j_istore (L' := [(4, .int (zI 0)), (3, .int (zI z2)), (0, .ref (gad G 62)), (1, .ref (gad G 0)), (2, .int (zI v2))]) C d_G_prepare_34 rfl rfl ?_
      obtain ⟨n9, h⟩ := h
      refine j_sub (L' := [(0, .ref (gad G 62)), (1, .ref (gad G 0)), (2, .int (zI v2)), (3, .int (zI z2)), (4, .int (zI 0))]) [2, 3, 4, 1, 0] rfl ?_
      refine w_G_prepare_L36 C r2 rz2 ?_ n9 σ 0 hσ (zR_of (x := 0) rfl) h
      · intro σ7 hσ7 h
        obtain ⟨g8, h⟩ := h
        refine j_iinc (L' := [(2, .int (zI (v2 + 1))), (0, .ref (gad G 62)), (1, .ref (gad G 0))]) C d_G_prepare_56 2 rfl rfl rfl ?_
        refine j_goto (tgt := 18) C d_G_prepare_59 rfl ?_
        refine j_sub (L' := [(0, .ref (gad G 62)), (1, .ref (gad G 0)), (2, .int (zI (v2 + 1)))]) [1, 2, 0] rfl ?_
        exact ih σ7 (v2 + 1) hσ7 g8 h
set_option maxRecDepth 100000 in
set_option maxHeartbeats 4000000 in
theorem w_G_prepare_L64 {X : zX} {G : zG} (C : zC X G b_G_prepare "GateRoads$Gates" 5 (none) 2 51) {Q : zM → Prop} : ∀ (n : Nat) (σ : zM) (v2 : Int) (hσ : zRM σ) (r2 : zR v2), wp_G_prepare_L64 Q n σ v2 → zJ X G (zQv X G Q) 5 64 [(0, .ref (gad G 62)), (1, .ref (gad G 0)), (2, .int (zI v2))] [] σ := by
  intro n
  induction n with
  | zero => intro σ v2 hσ r2 h; exact False.elim h
  | succ n ih =>
    intro σ v2 hσ r2 h
    rw [wp_G_prepare_L64] at h
    refine j_iload_n C d_G_prepare_64 2 rfl rfl ?_
    refine j_aload_n C d_G_prepare_65 1 rfl rfl ?_
    refine j_geti (kf := 6) (kI := 6) C d_G_prepare_66 sh_0 rfl i_S rfl rfl rfl fl_G_39 ?_
    refine j_icmp_ge (tgt := 84) C d_G_prepare_69 rfl r2 (hσ _ _) (fun c => ?_) (fun c => ?_)
    · have h := h.1 c
      refine j_aload_n C d_G_prepare_84 0 rfl rfl ?_
      refine j_iconst C d_G_prepare_85 ?_
      refine j_puti (kf := 1) (kI := 1) C t_G d_G_prepare_86 sh_62 rfl i_G t_G_ok n_G rfl rfl rfl fl_G_15 rfl (Or.inr ⟨rfl, by decide⟩) ?_
      refine j_mem (fun σ11 eσ11 => ?_)
      have h := h σ11 eσ11
      have hσ11 : zRM σ11 := by rw [eσ11]; exact zU_rg hσ _ _ (zR_of (x := 1) rfl)
      exact j_vreturn C d_G_prepare_89 hσ11 h
    · have h := h.2 c
      refine j_aload_n C d_G_prepare_72 0 rfl rfl ?_
      refine j_aload_n C d_G_prepare_73 1 rfl rfl ?_
      refine j_iload_n C d_G_prepare_74 2 rfl rfl ?_
      refine j_callVv C d_G_prepare_75 ml_G_42 mi_G_shut (c_G_shut (xl X) (gD G) (gad G) (gca G) (v2 := v2) hσ r2 h) sh_62 rfl rfl rfl rfl rfl rfl rfl (fun σ13 hσ13 h => ?_)
      obtain ⟨g14, h⟩ := h
      refine j_iinc (L' := [(2, .int (zI (v2 + 1))), (0, .ref (gad G 62)), (1, .ref (gad G 0))]) C d_G_prepare_78 2 rfl rfl rfl ?_
      refine j_goto (tgt := 64) C d_G_prepare_81 rfl ?_
      refine j_sub (L' := [(0, .ref (gad G 62)), (1, .ref (gad G 0)), (2, .int (zI (v2 + 1)))]) [1, 2, 0] rfl ?_
      exact ih σ13 (v2 + 1) hσ13 g14 h
set_option maxRecDepth 100000 in
set_option maxHeartbeats 4000000 in
theorem c_G_prepare (l : Launch) (D : va_G) (ad : Nat → Nat) (ca : Nat → ClassId) {σ : zM} {Q : zM → Prop} (hσ : zRM σ) (h : wp_G_prepare σ Q) : zCv l D ad ca y_G_prepare b_G_prepare 5 (zrm 2 51) [.ref (ad 62), .ref (ad 0)] σ Q := by
  refine zCv_of (by decide +kernel) (Nat.le_of_ble_eq_true rfl) ?_
  intro X G C hl hD had hca
  subst hl hD had hca
  have C : zC X G b_G_prepare "GateRoads$Gates" 5 (none) 2 51 := C
  show zJ X G (zQv X G Q) 5 0 [(0, .ref (gad G 62)), (1, .ref (gad G 0))] [] σ
  unfold wp_G_prepare at h
  refine j_aload_n C d_G_prepare_0 0 rfl rfl ?_
  refine j_geti (kf := 1) (kI := 1) C d_G_prepare_1 sh_62 rfl i_G rfl rfl rfl fl_G_15 ?_
  refine j_if_eq (tgt := 8) C d_G_prepare_4 rfl (hσ _ _) (fun c => ?_) (fun c => ?_)
  · have h := h.1 c
    refine j_aload_n C d_G_prepare_8 0 rfl rfl ?_
    refine j_getr (kf := 0) (m := 63) C d_G_prepare_9 sh_62 rfl i_G rfl rfl fl_G_9 ?_
    refine j_iconst C d_G_prepare_12 ?_
    refine j_callSv C d_G_prepare_13 ml_G_19 ms_Ar_fill_0 (c_Ar_fill_0 (xl X) (gD G) (gad G) (gca G) hσ sh_63 (zR_of (x := 0) rfl)) rfl rfl rfl rfl rfl (fun σ1 hσ1 eσ1 => ?_)
    have h := h σ1 eσ1
    refine j_iconst C d_G_prepare_16 ?_
    refine j_istore_n (L' := [(2, .int (zI 0)), (0, .ref (gad G 62)), (1, .ref (gad G 0))]) C d_G_prepare_17 rfl rfl rfl ?_
    obtain ⟨n16, h⟩ := h
    refine j_sub (L' := [(0, .ref (gad G 62)), (1, .ref (gad G 0)), (2, .int (zI 0))]) [1, 2, 0] rfl ?_
    refine w_G_prepare_L18 C ?_ n16 σ1 0 hσ1 (zR_of (x := 0) rfl) h
    · intro σ10 hσ10 h
      refine j_iconst C d_G_prepare_62 ?_
      refine j_istore_n (L' := [(2, .int (zI 0)), (0, .ref (gad G 62)), (1, .ref (gad G 0))]) C d_G_prepare_63 rfl rfl rfl ?_
      obtain ⟨n15, h⟩ := h
      refine j_sub (L' := [(0, .ref (gad G 62)), (1, .ref (gad G 0)), (2, .int (zI 0))]) [1, 2, 0] rfl ?_
      refine w_G_prepare_L64 C n15 σ10 0 hσ10 (zR_of (x := 0) rfl) h
  · have h := h.2 c
    exact j_vreturn C d_G_prepare_7 hσ h
set_option maxRecDepth 100000 in
set_option maxHeartbeats 4000000 in
theorem c_O_start (l : Launch) (D : va_G) (ad : Nat → Nat) (ca : Nat → ClassId) {σ : zM} {o : Nat} {v1 : Int} {v2 : Int} {Q : zM → Prop} (hσ : zRM σ) (ho : zOn o) (r1 : zR v1) (r2 : zR v2) (h : wp_O_start σ o v1 v2 Q) : zCv l D ad ca y_O_start b_O_start 3 (zrm 1 23) [.ref (ad o), .int (zI v1), .int (zI v2)] σ Q := by
  refine zCv_of (by decide +kernel) (Nat.le_of_ble_eq_true rfl) ?_
  intro X G C hl hD had hca
  subst hl hD had hca
  have C : zC X G b_O_start "GateRoads$Onward" 3 (none) 1 23 := C
  show zJ X G (zQv X G Q) 3 0 [(0, .ref (gad G o)), (1, .int (zI v1)), (2, .int (zI v2))] [] σ
  unfold wp_O_start at h
  refine j_aload_n C d_O_start_0 0 rfl rfl ?_
  refine j_getr (kf := 0) (m := o + 1) C d_O_start_1 ho.1 rfl i_O rfl rfl fl_O_9 ?_
  refine j_iconst C d_O_start_4 ?_
  refine j_callSv C d_O_start_5 ml_O_18 ms_Ar_fill_0 (c_Ar_fill_0 (xl X) (gD G) (gad G) (gca G) hσ ho.2.1 (zR_of (x := 0) rfl)) rfl rfl rfl rfl rfl (fun σ1 hσ1 eσ1 => ?_)
  have h := h σ1 eσ1
  refine j_aload_n C d_O_start_8 0 rfl rfl ?_
  refine j_getr (kf := 1) (m := o + 2) C d_O_start_9 ho.1 rfl i_O rfl rfl fl_O_15 ?_
  refine j_bipush C d_O_start_12 rfl ?_
  refine j_callSv C d_O_start_14 ml_O_18 ms_Ar_fill_0 (c_Ar_fill_0 (xl X) (gD G) (gad G) (gca G) hσ1 ho.2.2 (zR_of (x := (-6)) rfl)) rfl rfl rfl rfl rfl (fun σ2 hσ2 eσ2 => ?_)
  have h := h σ2 eσ2
  refine j_aload_n C d_O_start_17 0 rfl rfl ?_
  refine j_getr (kf := 1) (m := o + 2) C d_O_start_18 ho.1 rfl i_O rfl rfl fl_O_15 ?_
  refine j_iload_n C d_O_start_21 1 rfl rfl ?_
  refine j_iload_n C d_O_start_22 2 rfl rfl ?_
  obtain ⟨g3, h⟩ := h
  refine j_iastore C d_O_start_23 ho.2.2 g3 ?_
  refine j_mem (fun σ4 eσ4 => ?_)
  have h := h σ4 eσ4
  have hσ4 : zRM σ4 := by rw [eσ4]; exact zU_rg hσ2 _ _ r2
  exact j_vreturn C d_O_start_24 hσ4 h
set_option maxRecDepth 100000 in
set_option maxHeartbeats 4000000 in
theorem c_O_comersAt (l : Launch) (D : va_G) (ad : Nat → Nat) (ca : Nat → ClassId) {σ : zM} {o : Nat} {v1 : Int} {Q : Int → Prop} (hσ : zRM σ) (ho : zOn o) (r1 : zR v1) (h : wp_O_comersAt σ o v1 Q) : zCi l D ad ca y_O_comersAt b_O_comersAt 2 (some .int) (zrm 0 0) [.ref (ad o), .int (zI v1)] σ (fun z u => σ = u ∧ Q z) := by
  refine zCi_of (by decide +kernel) (Nat.le_of_ble_eq_true rfl) ?_
  intro X G C hl hD had hca
  subst hl hD had hca
  have C : zC X G b_O_comersAt "GateRoads$Onward" 2 (some .int) 0 0 := C
  show zJ X G (zQi X G (fun z u => σ = u ∧ Q z)) 2 0 [(0, .ref (gad G o)), (1, .int (zI v1))] [] σ
  unfold wp_O_comersAt at h
  refine j_aload_n C d_O_comersAt_0 0 rfl rfl ?_
  refine j_getr (kf := 0) (m := o + 1) C d_O_comersAt_1 ho.1 rfl i_O rfl rfl fl_O_9 ?_
  refine j_iload_n C d_O_comersAt_4 1 rfl rfl ?_
  refine j_sipush C d_O_comersAt_5 rfl ?_
  refine j_iand C d_O_comersAt_8 ?_
  obtain ⟨g1, h⟩ := h
  refine j_iaload C d_O_comersAt_9 ho.2.1 g1 ?_
  exact j_ireturn C d_O_comersAt_10 (hσ _ _) hσ ⟨rfl, h⟩
set_option maxRecDepth 100000 in
set_option maxHeartbeats 4000000 in
theorem c_X_has (l : Launch) (D : va_G) (ad : Nat → Nat) (ca : Nat → ClassId) {σ : zM} {v0 : Int} {v1 : Int} {Q : Int → Prop} (hσ : zRM σ) (r0 : zR v0) (r1 : zR v1) (h : wp_X_has σ v0 v1 Q) : zCi l D ad ca y_X_has b_X_has 2 (some .boolean) (zrm 0 0) [.int (zI v0), .int (zI v1)] σ (fun z u => σ = u ∧ Q z) := by
  refine zCi_of (by decide +kernel) (Nat.le_of_ble_eq_true rfl) ?_
  intro X G C hl hD had hca
  subst hl hD had hca
  have C : zC X G b_X_has "GateRoads" 2 (some .boolean) 0 0 := C
  show zJ X G (zQi X G (fun z u => σ = u ∧ Q z)) 2 0 [(0, .int (zI v0)), (1, .int (zI v1))] [] σ
  unfold wp_X_has at h
  refine j_iload_n C d_X_has_0 0 rfl rfl ?_
  refine j_iload_n C d_X_has_1 1 rfl rfl ?_
  refine j_iushr C d_X_has_2 ?_
  refine j_iconst C d_X_has_3 ?_
  refine j_iand C d_X_has_4 ?_
  refine j_if_eq (tgt := 12) C d_X_has_5 rfl (zAnd_rg _ _) (fun c => ?_) (fun c => ?_)
  · have h := h.1 c
    refine j_iconst C d_X_has_12 ?_
    exact j_zreturn C d_X_has_13 (by decide) hσ ⟨rfl, h⟩
  · have h := h.2 c
    refine j_iconst C d_X_has_8 ?_
    refine j_goto (tgt := 13) C d_X_has_9 rfl ?_
    exact j_zreturn C d_X_has_13 (by decide) hσ ⟨rfl, h⟩
set_option maxRecDepth 100000 in
set_option maxHeartbeats 4000000 in
theorem c_G_at (l : Launch) (D : va_G) (ad : Nat → Nat) (ca : Nat → ClassId) {σ : zM} {v1 : Int} {Q : Int → Prop} (hσ : zRM σ) (r1 : zR v1) (h : wp_G_at σ v1 Q) : zCi l D ad ca y_G_at b_G_at 2 (some .int) (zrm 0 0) [.ref (ad 62), .int (zI v1)] σ (fun z u => σ = u ∧ Q z) := by
  refine zCi_of (by decide +kernel) (Nat.le_of_ble_eq_true rfl) ?_
  intro X G C hl hD had hca
  subst hl hD had hca
  have C : zC X G b_G_at "GateRoads$Gates" 2 (some .int) 0 0 := C
  show zJ X G (zQi X G (fun z u => σ = u ∧ Q z)) 2 0 [(0, .ref (gad G 62)), (1, .int (zI v1))] [] σ
  unfold wp_G_at at h
  refine j_iload_n C d_G_at_0 1 rfl rfl ?_
  refine j_if_lt (tgt := 20) C d_G_at_1 rfl r1 (fun c => ?_) (fun c => ?_)
  · have h := h.1 c
    refine j_iconst C d_G_at_20 ?_
    exact j_ireturn C d_G_at_21 (zR_of (x := 0) rfl) hσ ⟨rfl, h⟩
  · have h := h.2 c
    refine j_iload_n C d_G_at_4 1 rfl rfl ?_
    refine j_sipush C d_G_at_5 rfl ?_
    refine j_icmp_gt (tgt := 20) C d_G_at_8 rfl r1 (zR_of (x := 2880) rfl) (fun c => ?_) (fun c => ?_)
    · have h := h.1 c
      refine j_iconst C d_G_at_20 ?_
      exact j_ireturn C d_G_at_21 (zR_of (x := 0) rfl) hσ ⟨rfl, h⟩
    · have h := h.2 c
      refine j_aload_n C d_G_at_11 0 rfl rfl ?_
      refine j_getr (kf := 0) (m := 63) C d_G_at_12 sh_62 rfl i_G rfl rfl fl_G_9 ?_
      refine j_iload_n C d_G_at_15 1 rfl rfl ?_
      obtain ⟨g1, h⟩ := h
      refine j_iaload C d_G_at_16 sh_63 g1 ?_
      refine j_goto (tgt := 21) C d_G_at_17 rfl ?_
      exact j_ireturn C d_G_at_21 (hσ _ _) hσ ⟨rfl, h⟩
set_option maxRecDepth 100000 in
set_option maxHeartbeats 4000000 in
theorem w_O_leave_b70 {X : zX} {G : zG} (C : zC X G b_O_leave "GateRoads$Onward" 7 (none) 1 22) {o : Nat} {v2 : Int} {v3 : Int} {v4 : Int} (ho : zOn o) (r2 : zR v2) (r3 : zR v3) (r4 : zR v4) {Q : zM → Prop} {k3 : zM → Int → Prop} (hk3 : ∀ (σ : zM) (v5 : Int), zRM σ → zR v5 → k3 σ v5 → zJ X G (zQv X G Q) 7 3 [(0, .ref (gad G o)), (1, .ref (gad G 0)), (2, .int (zI v2)), (3, .int (zI v3)), (4, .int (zI v4)), (5, .int (zI v5))] [] σ) (σ : zM) (v5 : Int) (hσ : zRM σ) (r5 : zR v5) (h : wp_O_leave_b70 o v2 v3 v4 k3 Q σ v5) : zJ X G (zQv X G Q) 7 70 [(0, .ref (gad G o)), (1, .ref (gad G 0)), (2, .int (zI v2)), (3, .int (zI v3)), (4, .int (zI v4)), (5, .int (zI v5))] [] σ := by
  unfold wp_O_leave_b70 at h
  obtain ⟨g3, h⟩ := h
  refine j_iinc (L' := [(5, .int (zI (v5 + 1))), (0, .ref (gad G o)), (1, .ref (gad G 0)), (2, .int (zI v2)), (3, .int (zI v3)), (4, .int (zI v4))]) C d_O_leave_70 5 rfl rfl rfl ?_
  refine j_goto (tgt := 3) C d_O_leave_73 rfl ?_
  refine j_sub (L' := [(0, .ref (gad G o)), (1, .ref (gad G 0)), (2, .int (zI v2)), (3, .int (zI v3)), (4, .int (zI v4)), (5, .int (zI (v5 + 1)))]) [1, 2, 3, 4, 5, 0] rfl ?_
  exact hk3 σ (v5 + 1) hσ g3 h
set_option maxRecDepth 100000 in
set_option maxHeartbeats 4000000 in
theorem w_O_leave_L3 {X : zX} {G : zG} (C : zC X G b_O_leave "GateRoads$Onward" 7 (none) 1 22) {o : Nat} {v2 : Int} {v3 : Int} {v4 : Int} (ho : zOn o) (r2 : zR v2) (r3 : zR v3) (r4 : zR v4) {Q : zM → Prop} : ∀ (n : Nat) (σ : zM) (v5 : Int) (hσ : zRM σ) (r5 : zR v5), wp_O_leave_L3 o v2 v3 v4 Q n σ v5 → zJ X G (zQv X G Q) 7 3 [(0, .ref (gad G o)), (1, .ref (gad G 0)), (2, .int (zI v2)), (3, .int (zI v3)), (4, .int (zI v4)), (5, .int (zI v5))] [] σ := by
  intro n
  induction n with
  | zero => intro σ v5 hσ r5 h; exact False.elim h
  | succ n ih =>
    intro σ v5 hσ r5 h
    rw [wp_O_leave_L3] at h
    refine j_iload C d_O_leave_3 5 rfl ?_
    refine j_aload_n C d_O_leave_5 1 rfl rfl ?_
    refine j_geti (kf := 5) (kI := 5) C d_O_leave_6 sh_0 rfl i_S rfl rfl rfl fl_O_43 ?_
    refine j_icmp_ge (tgt := 76) C d_O_leave_9 rfl r5 (hσ _ _) (fun c => ?_) (fun c => ?_)
    · have h := h.1 c
      exact j_vreturn C d_O_leave_76 hσ h
    · have h := h.2 c
      refine j_iload_n C d_O_leave_12 2 rfl rfl ?_
      refine j_iload C d_O_leave_13 5 rfl ?_
      refine j_callSN (host := "GateRoads") C d_O_leave_15 (by decide) ms_X_has (c_X_has (xl X) (gD G) (gad G) (gca G) (v0 := v2) (v1 := v5) hσ r2 r5 h) rfl rfl rfl rfl rfl (fun z1 σ2 rz1 hσ2 h => ?_)
      obtain ⟨ez1, h⟩ := h; subst ez1
      refine j_if_eq (tgt := 70) C d_O_leave_18 rfl rz1 (fun c => ?_) (fun c => ?_)
      · have h := h.1 c
        refine w_O_leave_b70 C ho r2 r3 r4 ih σ v5 hσ r5 h
      · have h := h.2 c
        refine j_iload_n C d_O_leave_21 3 rfl rfl ?_
        refine j_aload_n C d_O_leave_22 1 rfl rfl ?_
        refine j_iload C d_O_leave_23 5 rfl ?_
        refine j_iconst C d_O_leave_25 ?_
        refine j_callV C d_O_leave_26 ml_O_47 mi_S_ofRoads (c_S_ofRoads (xl X) (gD G) (gad G) (gca G) (v1 := v5) (v2 := 0) hσ r5 (zR_of (x := 0) rfl) h) sh_0 rfl rfl rfl rfl rfl rfl rfl (fun z4 σ5 rz4 hσ5 h => ?_)
        obtain ⟨ez4, h⟩ := h; subst ez4
        refine j_callSN (host := "GateRoads") C d_O_leave_29 (by decide) ms_X_has (c_X_has (xl X) (gD G) (gad G) (gca G) (v0 := v3) (v1 := z4) hσ r3 rz4 h) rfl rfl rfl rfl rfl (fun z6 σ7 rz6 hσ7 h => ?_)
        obtain ⟨ez6, h⟩ := h; subst ez6
        refine j_if_eq (tgt := 70) C d_O_leave_32 rfl rz6 (fun c => ?_) (fun c => ?_)
        · have h := h.1 c
          refine w_O_leave_b70 C ho r2 r3 r4 ih σ v5 hσ r5 h
        · have h := h.2 c
          refine j_iload C d_O_leave_35 4 rfl ?_
          refine j_aload_n C d_O_leave_37 1 rfl rfl ?_
          refine j_iload C d_O_leave_38 5 rfl ?_
          refine j_iconst C d_O_leave_40 ?_
          refine j_callV C d_O_leave_41 ml_O_47 mi_S_ofRoads (c_S_ofRoads (xl X) (gD G) (gad G) (gca G) (v1 := v5) (v2 := 2) hσ r5 (zR_of (x := 2) rfl) h) sh_0 rfl rfl rfl rfl rfl rfl rfl (fun z8 σ9 rz8 hσ9 h => ?_)
          obtain ⟨ez8, h⟩ := h; subst ez8
          refine j_iadd C d_O_leave_44 ?_
          obtain ⟨g10, h⟩ := h
          refine j_istore (L' := [(6, .int (zI (v4 + z8))), (0, .ref (gad G o)), (1, .ref (gad G 0)), (2, .int (zI v2)), (3, .int (zI v3)), (4, .int (zI v4)), (5, .int (zI v5))]) C d_O_leave_45 rfl rfl ?_
          refine j_aload_n C d_O_leave_47 1 rfl rfl ?_
          refine j_getr (kf := 0) (m := o + 1) C d_O_leave_48 ho.1 rfl i_O rfl rfl fl_O_9 ?_
          refine j_iload C d_O_leave_51 0 rfl ?_
          refine j_sipush C d_O_leave_53 rfl ?_
          refine j_iand C d_O_leave_56 ?_
          refine j_dup2 C d_O_leave_57 rfl rfl ?_
          obtain ⟨g11, h⟩ := h
          refine j_iaload C d_O_leave_58 ho.2.1 g11 ?_
          refine j_iconst C d_O_leave_59 ?_
          refine j_aload_n C d_O_leave_60 2 rfl rfl ?_
          refine j_iload C d_O_leave_61 6 rfl ?_
          refine j_iconst C d_O_leave_63 ?_
          refine j_callV C d_O_leave_64 ml_O_47 mi_S_ofRoads (c_S_ofRoads (xl X) (gD G) (gad G) (gca G) (v1 := v5) (v2 := 1) hσ r5 (zR_of (x := 1) rfl) h) sh_0 rfl rfl rfl rfl rfl rfl rfl (fun z12 σ13 rz12 hσ13 h => ?_)
          obtain ⟨ez12, h⟩ := h; subst ez12
          refine j_ishl C d_O_leave_67 ?_
          refine j_ior C d_O_leave_68 ?_
          obtain ⟨g14, h⟩ := h
          refine j_iastore C d_O_leave_69 ho.2.1 g14 ?_
          refine j_mem (fun σ15 eσ15 => ?_)
          have h := h σ15 eσ15
          have hσ15 : zRM σ15 := by rw [eσ15]; exact zU_rg hσ _ _ (zOr_rg _ _)
          refine j_sub (L' := [(0, .ref (gad G o)), (1, .ref (gad G 0)), (2, .int (zI v2)), (3, .int (zI v3)), (4, .int (zI v4)), (5, .int (zI v5))]) [1, 2, 3, 4, 5, 6] rfl ?_
          refine w_O_leave_b70 C ho r2 r3 r4 ih σ15 v5 hσ15 r5 h
set_option maxRecDepth 100000 in
set_option maxHeartbeats 4000000 in
theorem c_O_leave (l : Launch) (D : va_G) (ad : Nat → Nat) (ca : Nat → ClassId) {σ : zM} {o : Nat} {v2 : Int} {v3 : Int} {v4 : Int} {Q : zM → Prop} (hσ : zRM σ) (ho : zOn o) (r2 : zR v2) (r3 : zR v3) (r4 : zR v4) (h : wp_O_leave σ o v2 v3 v4 Q) : zCv l D ad ca y_O_leave b_O_leave 7 (zrm 1 22) [.ref (ad o), .ref (ad 0), .int (zI v2), .int (zI v3), .int (zI v4)] σ Q := by
  refine zCv_of (by decide +kernel) (Nat.le_of_ble_eq_true rfl) ?_
  intro X G C hl hD had hca
  subst hl hD had hca
  have C : zC X G b_O_leave "GateRoads$Onward" 7 (none) 1 22 := C
  show zJ X G (zQv X G Q) 7 0 [(0, .ref (gad G o)), (1, .ref (gad G 0)), (2, .int (zI v2)), (3, .int (zI v3)), (4, .int (zI v4))] [] σ
  unfold wp_O_leave at h
  refine j_iconst C d_O_leave_0 ?_
  refine j_istore (L' := [(5, .int (zI 0)), (0, .ref (gad G o)), (1, .ref (gad G 0)), (2, .int (zI v2)), (3, .int (zI v3)), (4, .int (zI v4))]) C d_O_leave_1 rfl rfl ?_
  obtain ⟨n16, h⟩ := h
  refine j_sub (L' := [(0, .ref (gad G o)), (1, .ref (gad G 0)), (2, .int (zI v2)), (3, .int (zI v3)), (4, .int (zI v4)), (5, .int (zI 0))]) [1, 2, 3, 4, 5, 0] rfl ?_
  refine w_O_leave_L3 C ho r2 r3 r4 n16 σ 0 hσ (zR_of (x := 0) rfl) h
set_option maxRecDepth 100000 in
set_option maxHeartbeats 4000000 in
theorem w_O_minute_b90 {X : zX} {G : zG} (C : zC X G b_O_minute "GateRoads$Onward" 7 (some .int) 3 70) {o : Nat} {v2 : Int} {v3 : Int} {v5 : Int} (ho : zOn o) (r2 : zR v2) (r3 : zR v3) (r5 : zR v5) {Q : Int → zM → Prop} {k29 : zM → Int → Int → Prop} (hk29 : ∀ (σ : zM) (v4 : Int) (v6 : Int), zRM σ → zR v4 → zR v6 → k29 σ v4 v6 → zJ X G (zQi X G Q) 7 29 [(0, .ref (gad G o)), (1, .ref (gad G 0)), (2, .int (zI v2)), (3, .int (zI v3)), (4, .int (zI v4)), (5, .int (zI v5)), (6, .int (zI v6))] [] σ) (σ : zM) (v4 : Int) (v6 : Int) (hσ : zRM σ) (r4 : zR v4) (r6 : zR v6) (h : wp_O_minute_b90 o v2 v3 v5 k29 Q σ v4 v6) : zJ X G (zQi X G Q) 7 90 [(0, .ref (gad G o)), (1, .ref (gad G 0)), (2, .int (zI v2)), (3, .int (zI v3)), (4, .int (zI v4)), (5, .int (zI v5)), (6, .int (zI v6))] [] σ := by
  unfold wp_O_minute_b90 at h
  obtain ⟨g9, h⟩ := h
  refine j_iinc (L' := [(6, .int (zI (v6 + 1))), (0, .ref (gad G o)), (1, .ref (gad G 0)), (2, .int (zI v2)), (3, .int (zI v3)), (4, .int (zI v4)), (5, .int (zI v5))]) C d_O_minute_90 6 rfl rfl rfl ?_
  refine j_goto (tgt := 29) C d_O_minute_93 rfl ?_
  refine j_sub (L' := [(0, .ref (gad G o)), (1, .ref (gad G 0)), (2, .int (zI v2)), (3, .int (zI v3)), (4, .int (zI v4)), (5, .int (zI v5)), (6, .int (zI (v6 + 1)))]) [1, 2, 3, 4, 5, 6, 0] rfl ?_
  exact hk29 σ v4 (v6 + 1) hσ r4 g9 h
set_option maxRecDepth 100000 in
set_option maxHeartbeats 4000000 in
theorem w_O_minute_b70 {X : zX} {G : zG} (C : zC X G b_O_minute "GateRoads$Onward" 7 (some .int) 3 70) {o : Nat} {v2 : Int} {v3 : Int} {v5 : Int} (ho : zOn o) (r2 : zR v2) (r3 : zR v3) (r5 : zR v5) {Q : Int → zM → Prop} {k29 : zM → Int → Int → Prop} (hk29 : ∀ (σ : zM) (v4 : Int) (v6 : Int), zRM σ → zR v4 → zR v6 → k29 σ v4 v6 → zJ X G (zQi X G Q) 7 29 [(0, .ref (gad G o)), (1, .ref (gad G 0)), (2, .int (zI v2)), (3, .int (zI v3)), (4, .int (zI v4)), (5, .int (zI v5)), (6, .int (zI v6))] [] σ) (σ : zM) (v4 : Int) (v6 : Int) (hσ : zRM σ) (r4 : zR v4) (r6 : zR v6) (h : wp_O_minute_b70 o v2 v3 v5 k29 Q σ v4 v6) : zJ X G (zQi X G Q) 7 70 [(0, .ref (gad G o)), (1, .ref (gad G 0)), (2, .int (zI v2)), (3, .int (zI v3)), (4, .int (zI v4)), (5, .int (zI v5)), (6, .int (zI v6))] [] σ := by
  unfold wp_O_minute_b70 at h
  refine j_aload_n C d_O_minute_70 0 rfl rfl ?_
  refine j_getr (kf := 1) (m := o + 2) C d_O_minute_71 ho.1 rfl i_O rfl rfl fl_O_15 ?_
  refine j_iload C d_O_minute_74 6 rfl ?_
  obtain ⟨g8, h⟩ := h
  refine j_iaload C d_O_minute_76 ho.2.2 g8 ?_
  refine j_iload_n C d_O_minute_77 3 rfl rfl ?_
  refine j_icmp_lt (tgt := 90) C d_O_minute_78 rfl (hσ _ _) r3 (fun c => ?_) (fun c => ?_)
  · have h := h.1 c
    refine w_O_minute_b90 C ho r2 r3 r5 hk29 σ v4 v6 hσ r4 r6 h
  · have h := h.2 c
    refine j_iload C d_O_minute_81 4 rfl ?_
    refine j_iconst C d_O_minute_83 ?_
    refine j_iload C d_O_minute_84 6 rfl ?_
    refine j_ishl C d_O_minute_86 ?_
    refine j_ior C d_O_minute_87 ?_
    refine j_istore (L' := [(4, .int (zI (zOr v4 (zShl 1 v6)))), (0, .ref (gad G o)), (1, .ref (gad G 0)), (2, .int (zI v2)), (3, .int (zI v3)), (5, .int (zI v5)), (6, .int (zI v6))]) C d_O_minute_88 rfl rfl ?_
    refine j_sub (L' := [(0, .ref (gad G o)), (1, .ref (gad G 0)), (2, .int (zI v2)), (3, .int (zI v3)), (4, .int (zI (zOr v4 (zShl 1 v6)))), (5, .int (zI v5)), (6, .int (zI v6))]) [1, 2, 3, 4, 0, 5, 6] rfl ?_
    refine w_O_minute_b90 C ho r2 r3 r5 hk29 σ (zOr v4 (zShl 1 v6)) v6 hσ (zOr_rg _ _) r6 h
set_option maxRecDepth 100000 in
set_option maxHeartbeats 4000000 in
theorem w_O_minute_L29 {X : zX} {G : zG} (C : zC X G b_O_minute "GateRoads$Onward" 7 (some .int) 3 70) {o : Nat} {v2 : Int} {v3 : Int} {v5 : Int} (ho : zOn o) (r2 : zR v2) (r3 : zR v3) (r5 : zR v5) {Q : Int → zM → Prop} : ∀ (n : Nat) (σ : zM) (v4 : Int) (v6 : Int) (hσ : zRM σ) (r4 : zR v4) (r6 : zR v6), wp_O_minute_L29 o v2 v3 v5 Q n σ v4 v6 → zJ X G (zQi X G Q) 7 29 [(0, .ref (gad G o)), (1, .ref (gad G 0)), (2, .int (zI v2)), (3, .int (zI v3)), (4, .int (zI v4)), (5, .int (zI v5)), (6, .int (zI v6))] [] σ := by
  intro n
  induction n with
  | zero => intro σ v4 v6 hσ r4 r6 h; exact False.elim h
  | succ n ih =>
    intro σ v4 v6 hσ r4 r6 h
    rw [wp_O_minute_L29] at h
    refine j_iload C d_O_minute_29 6 rfl ?_
    refine j_bipush C d_O_minute_31 rfl ?_
    refine j_icmp_ge (tgt := 96) C d_O_minute_33 rfl r6 (zR_of (x := 8) rfl) (fun c => ?_) (fun c => ?_)
    · have h := h.1 c
      refine j_iload C d_O_minute_96 4 rfl ?_
      refine j_if_eq (tgt := 114) C d_O_minute_98 rfl r4 (fun c => ?_) (fun c => ?_)
      · have h := h.1 c
        refine j_iload C d_O_minute_114 4 rfl ?_
        exact j_ireturn C d_O_minute_116 r4 hσ h
      · have h := h.2 c
        refine j_iload_n C d_O_minute_101 2 rfl rfl ?_
        refine j_if_eq (tgt := 114) C d_O_minute_102 rfl r2 (fun c => ?_) (fun c => ?_)
        · have h := h.1 c
          refine j_iload C d_O_minute_114 4 rfl ?_
          exact j_ireturn C d_O_minute_116 r4 hσ h
        · have h := h.2 c
          refine j_aload_n C d_O_minute_105 0 rfl rfl ?_
          refine j_aload_n C d_O_minute_106 1 rfl rfl ?_
          refine j_iload_n C d_O_minute_107 2 rfl rfl ?_
          refine j_iload C d_O_minute_108 4 rfl ?_
          refine j_iload_n C d_O_minute_110 3 rfl rfl ?_
          refine j_callVv C d_O_minute_111 ml_O_39 mi_O_leave (c_O_leave (xl X) (gD G) (gad G) (gca G) (o := o) (v2 := v2) (v3 := v4) (v4 := v3) hσ ho r2 r4 r3 h) ho.1 rfl rfl rfl rfl rfl rfl rfl (fun σ5 hσ5 h => ?_)
          refine j_iload C d_O_minute_114 4 rfl ?_
          exact j_ireturn C d_O_minute_116 r4 hσ5 h
    · have h := h.2 c
      refine j_iload C d_O_minute_36 5 rfl ?_
      refine j_iload C d_O_minute_38 6 rfl ?_
      refine j_callSN (host := "GateRoads") C d_O_minute_40 (by decide) ms_X_has (c_X_has (xl X) (gD G) (gad G) (gca G) (v0 := v5) (v1 := v6) hσ r5 r6 h) rfl rfl rfl rfl rfl (fun z6 σ7 rz6 hσ7 h => ?_)
      obtain ⟨ez6, h⟩ := h; subst ez6
      refine j_if_eq (tgt := 70) C d_O_minute_43 rfl rz6 (fun c => ?_) (fun c => ?_)
      · have h := h.1 c
        refine w_O_minute_b70 C ho r2 r3 r5 ih σ v4 v6 hσ r4 r6 h
      · have h := h.2 c
        refine j_aload_n C d_O_minute_46 0 rfl rfl ?_
        refine j_getr (kf := 1) (m := o + 2) C d_O_minute_47 ho.1 rfl i_O rfl rfl fl_O_15 ?_
        refine j_iload C d_O_minute_50 6 rfl ?_
        refine j_aload_n C d_O_minute_52 0 rfl rfl ?_
        refine j_getr (kf := 1) (m := o + 2) C d_O_minute_53 ho.1 rfl i_O rfl rfl fl_O_15 ?_
        refine j_iload C d_O_minute_56 6 rfl ?_
        obtain ⟨g10, h⟩ := h
        refine j_iaload C d_O_minute_58 ho.2.2 g10 ?_
        refine j_aload_n C d_O_minute_59 1 rfl rfl ?_
        refine j_iload C d_O_minute_60 6 rfl ?_
        refine j_iload_n C d_O_minute_62 3 rfl rfl ?_
        refine j_callV C d_O_minute_63 ml_O_28 mi_S_waitEnd (c_S_waitEnd (xl X) (gD G) (gad G) (gca G) (v1 := v6) (v2 := v3) hσ r6 r3 h) sh_0 rfl rfl rfl rfl rfl rfl rfl (fun z11 σ12 rz11 hσ12 h => ?_)
        obtain ⟨ez11, h⟩ := h; subst ez11
        refine j_max C d_O_minute_66 ml_O_34 zs_max zi_Math zc_max rfl rfl (hσ _ _) rz11 ?_
        obtain ⟨g13, h⟩ := h
        refine j_iastore C d_O_minute_69 ho.2.2 g13 ?_
        refine j_mem (fun σ14 eσ14 => ?_)
        have h := h σ14 eσ14
        have hσ14 : zRM σ14 := by rw [eσ14]; exact zU_rg hσ _ _ (zMax_rg (hσ _ _) rz11)
        refine w_O_minute_b70 C ho r2 r3 r5 ih σ14 v4 v6 hσ14 r4 r6 h
set_option maxRecDepth 100000 in
set_option maxHeartbeats 4000000 in
theorem c_O_minute (l : Launch) (D : va_G) (ad : Nat → Nat) (ca : Nat → ClassId) {σ : zM} {o : Nat} {v2 : Int} {v3 : Int} {Q : Int → zM → Prop} (hσ : zRM σ) (ho : zOn o) (r2 : zR v2) (r3 : zR v3) (h : wp_O_minute σ o v2 v3 Q) : zCi l D ad ca y_O_minute b_O_minute 7 (some .int) (zrm 3 70) [.ref (ad o), .ref (ad 0), .int (zI v2), .int (zI v3)] σ Q := by
  refine zCi_of (by decide +kernel) (Nat.le_of_ble_eq_true rfl) ?_
  intro X G C hl hD had hca
  subst hl hD had hca
  have C : zC X G b_O_minute "GateRoads$Onward" 7 (some .int) 3 70 := C
  show zJ X G (zQi X G Q) 7 0 [(0, .ref (gad G o)), (1, .ref (gad G 0)), (2, .int (zI v2)), (3, .int (zI v3))] [] σ
  unfold wp_O_minute at h
  refine j_iconst C d_O_minute_0 ?_
  refine j_istore (L' := [(4, .int (zI 0)), (0, .ref (gad G o)), (1, .ref (gad G 0)), (2, .int (zI v2)), (3, .int (zI v3))]) C d_O_minute_1 rfl rfl ?_
  refine j_aload_n C d_O_minute_3 1 rfl rfl ?_
  refine j_getr (kf := 0) (m := o + 1) C d_O_minute_4 ho.1 rfl i_O rfl rfl fl_O_9 ?_
  refine j_iload_n C d_O_minute_7 4 rfl rfl ?_
  refine j_sipush C d_O_minute_8 rfl ?_
  refine j_iand C d_O_minute_11 ?_
  obtain ⟨g1, h⟩ := h
  refine j_iaload C d_O_minute_12 ho.2.1 g1 ?_
  refine j_istore (L' := [(5, .int (zI (σ (o + 1) (zAnd v3 1023)))), (4, .int (zI 0)), (0, .ref (gad G o)), (1, .ref (gad G 0)), (2, .int (zI v2)), (3, .int (zI v3))]) C d_O_minute_13 rfl rfl ?_
  refine j_aload_n C d_O_minute_15 2 rfl rfl ?_
  refine j_getr (kf := 0) (m := o + 1) C d_O_minute_16 ho.1 rfl i_O rfl rfl fl_O_9 ?_
  refine j_iload_n C d_O_minute_19 5 rfl rfl ?_
  refine j_sipush C d_O_minute_20 rfl ?_
  refine j_iand C d_O_minute_23 ?_
  refine j_iconst C d_O_minute_24 ?_
  obtain ⟨g2, h⟩ := h
  refine j_iastore C d_O_minute_25 ho.2.1 g2 ?_
  refine j_mem (fun σ3 eσ3 => ?_)
  have h := h σ3 eσ3
  have hσ3 : zRM σ3 := by rw [eσ3]; exact zU_rg hσ _ _ (zR_of (x := 0) rfl)
  refine j_iconst C d_O_minute_26 ?_
  refine j_istore (L' := [(6, .int (zI 0)), (5, .int (zI (σ (o + 1) (zAnd v3 1023)))), (4, .int (zI 0)), (0, .ref (gad G o)), (1, .ref (gad G 0)), (2, .int (zI v2)), (3, .int (zI v3))]) C d_O_minute_27 rfl rfl ?_
  obtain ⟨n15, h⟩ := h
  refine j_sub (L' := [(0, .ref (gad G o)), (1, .ref (gad G 0)), (2, .int (zI v2)), (3, .int (zI v3)), (4, .int (zI 0)), (5, .int (zI (σ (o + 1) (zAnd v3 1023)))), (6, .int (zI 0))]) [3, 4, 5, 6, 2, 1, 0] rfl ?_
  refine w_O_minute_L29 C ho r2 r3 (hσ _ _) n15 σ3 0 0 hσ3 (zR_of (x := 0) rfl) (zR_of (x := 0) rfl) h
set_option maxRecDepth 100000 in
set_option maxHeartbeats 4000000 in
theorem w_X_firstComing_L23 {X : zX} {G : zG} (C : zC X G b_X_firstComing "GateRoads" 8 (some .int) 4 96) {v4 : Int} {v5 : Int} {v6 : Int} (r4 : zR v4) (r5 : zR v5) (r6 : zR v6) {Q : Int → zM → Prop} : ∀ (n : Nat) (σ : zM) (v7 : Int) (hσ : zRM σ) (r7 : zR v7), wp_X_firstComing_L23 v4 v5 v6 Q n σ v7 → zJ X G (zQi X G Q) 8 23 [(0, .ref (gad G 54)), (4, .int (zI v4)), (5, .int (zI v5)), (6, .int (zI v6)), (7, .int (zI v7))] [] σ := by
  intro n
  induction n with
  | zero => intro σ v7 hσ r7 h; exact False.elim h
  | succ n ih =>
    intro σ v7 hσ r7 h
    rw [wp_X_firstComing_L23] at h
    refine j_iload C d_X_firstComing_23 4 rfl ?_
    refine j_iload C d_X_firstComing_25 2 rfl ?_
    refine j_icmp_gt (tgt := 84) C d_X_firstComing_27 rfl r7 r5 (fun c => ?_) (fun c => ?_)
    · have h := h.1 c
      refine j_bipush C d_X_firstComing_84 rfl ?_
      exact j_ireturn C d_X_firstComing_86 (zR_of (x := (-6)) rfl) hσ h
    · have h := h.2 c
      refine j_aload_n C d_X_firstComing_30 0 rfl rfl ?_
      refine j_getr (kf := 9) (m := 64) C d_X_firstComing_31 sh_54 rfl i_X rfl rfl fl_X_44 ?_
      refine j_iload C d_X_firstComing_34 4 rfl ?_
      refine j_callV C d_X_firstComing_36 ml_X_221 mi_O_comersAt (c_O_comersAt (xl X) (gD G) (gad G) (gca G) (o := 64) (v1 := v7) hσ zOn64 r7 h) sh_64 rfl rfl rfl rfl rfl rfl rfl (fun z5 σ6 rz5 hσ6 h => ?_)
      obtain ⟨ez5, h⟩ := h; subst ez5
      refine j_iload C d_X_firstComing_39 1 rfl ?_
      refine j_callS C d_X_firstComing_41 ml_X_230 ms_X_has (c_X_has (xl X) (gD G) (gad G) (gca G) (v0 := z5) (v1 := v4) hσ rz5 r4 h) rfl rfl rfl rfl rfl (fun z7 σ8 rz7 hσ8 h => ?_)
      obtain ⟨ez7, h⟩ := h; subst ez7
      refine j_if_eq (tgt := 50) C d_X_firstComing_44 rfl rz7 (fun c => ?_) (fun c => ?_)
      · have h := h.1 c
        refine j_aload_n C d_X_firstComing_50 0 rfl rfl ?_
        refine j_getr (kf := 9) (m := 64) C d_X_firstComing_51 sh_54 rfl i_X rfl rfl fl_X_44 ?_
        refine j_aload_n C d_X_firstComing_54 0 rfl rfl ?_
        refine j_getr (kf := 0) (m := 0) C d_X_firstComing_55 sh_54 rfl i_X rfl rfl fl_X_12 ?_
        refine j_aload_n C d_X_firstComing_58 0 rfl rfl ?_
        refine j_getr (kf := 8) (m := 62) C d_X_firstComing_59 sh_54 rfl i_X rfl rfl fl_X_37 ?_
        refine j_iload C d_X_firstComing_62 4 rfl ?_
        refine j_callV C d_X_firstComing_64 ml_X_190 mi_G_at (c_G_at (xl X) (gD G) (gad G) (gca G) (v1 := v7) hσ r7 h) sh_62 rfl rfl rfl rfl rfl rfl rfl (fun z9 σ10 rz9 hσ10 h => ?_)
        obtain ⟨ez9, h⟩ := h; subst ez9
        refine j_iload C d_X_firstComing_67 3 rfl ?_
        refine j_iconst C d_X_firstComing_69 ?_
        refine j_ixor C d_X_firstComing_70 ?_
        refine j_iand C d_X_firstComing_71 ?_
        refine j_iload C d_X_firstComing_72 4 rfl ?_
        refine j_callV C d_X_firstComing_74 ml_X_224 mi_O_minute (c_O_minute (xl X) (gD G) (gad G) (gca G) (o := 64) (v2 := zAnd z9 (zXor v6 (-1))) (v3 := v7) hσ zOn64 (zAnd_rg _ _) r7 h) sh_64 rfl rfl rfl rfl rfl rfl rfl (fun z11 σ12 rz11 hσ12 h => ?_)
        refine j_pop C d_X_firstComing_77 rfl ?_
        obtain ⟨g13, h⟩ := h
        refine j_iinc (L' := [(7, .int (zI (v7 + 1))), (0, .ref (gad G 54)), (4, .int (zI v4)), (5, .int (zI v5)), (6, .int (zI v6))]) C d_X_firstComing_78 4 rfl rfl rfl ?_
        refine j_goto (tgt := 23) C d_X_firstComing_81 rfl ?_
        refine j_sub (L' := [(0, .ref (gad G 54)), (4, .int (zI v4)), (5, .int (zI v5)), (6, .int (zI v6)), (7, .int (zI (v7 + 1)))]) [1, 2, 3, 4, 0] rfl ?_
        exact ih σ12 (v7 + 1) hσ12 g13 h
      · have h := h.2 c
        refine j_iload C d_X_firstComing_47 4 rfl ?_
        exact j_ireturn C d_X_firstComing_49 r7 hσ h
set_option maxRecDepth 100000 in
set_option maxHeartbeats 4000000 in
theorem c_X_firstComing (l : Launch) (D : va_G) (ad : Nat → Nat) (ca : Nat → ClassId) {σ : zM} {v1 : Int} {v2 : Int} {v3 : Int} {v4 : Int} {v5 : Int} {v6 : Int} {Q : Int → zM → Prop} (hσ : zRM σ) (r1 : zR v1) (r2 : zR v2) (r3 : zR v3) (r4 : zR v4) (r5 : zR v5) (r6 : zR v6) (h : wp_X_firstComing σ v1 v2 v3 v4 v5 v6 Q) : zCi l D ad ca y_X_firstComing b_X_firstComing 8 (some .int) (zrm 4 96) [.ref (ad 54), .int (zI v1), .int (zI v2), .int (zI v3), .int (zI v4), .int (zI v5), .int (zI v6)] σ Q := by
  refine zCi_of (by decide +kernel) (Nat.le_of_ble_eq_true rfl) ?_
  intro X G C hl hD had hca
  subst hl hD had hca
  have C : zC X G b_X_firstComing "GateRoads" 8 (some .int) 4 96 := C
  show zJ X G (zQi X G Q) 8 0 [(0, .ref (gad G 54)), (1, .int (zI v1)), (2, .int (zI v2)), (3, .int (zI v3)), (4, .int (zI v4)), (5, .int (zI v5)), (6, .int (zI v6))] [] σ
  unfold wp_X_firstComing at h
  refine j_aload_n C d_X_firstComing_0 0 rfl rfl ?_
  refine j_getr (kf := 8) (m := 62) C d_X_firstComing_1 sh_54 rfl i_X rfl rfl fl_X_37 ?_
  refine j_aload_n C d_X_firstComing_4 0 rfl rfl ?_
  refine j_getr (kf := 0) (m := 0) C d_X_firstComing_5 sh_54 rfl i_X rfl rfl fl_X_12 ?_
  refine j_callVv C d_X_firstComing_8 ml_X_183 mi_G_prepare (c_G_prepare (xl X) (gD G) (gad G) (gca G)  hσ h) sh_62 rfl rfl rfl rfl rfl rfl rfl (fun σ2 hσ2 h => ?_)
  refine j_aload_n C d_X_firstComing_11 0 rfl rfl ?_
  refine j_getr (kf := 9) (m := 64) C d_X_firstComing_12 sh_54 rfl i_X rfl rfl fl_X_44 ?_
  refine j_iload_n C d_X_firstComing_15 1 rfl rfl ?_
  refine j_iload_n C d_X_firstComing_16 3 rfl rfl ?_
  refine j_callVv C d_X_firstComing_17 ml_X_220 mi_O_start (c_O_start (xl X) (gD G) (gad G) (gca G) (o := 64) (v1 := v1) (v2 := v3) hσ2 zOn64 r1 r3 h) sh_64 rfl rfl rfl rfl rfl rfl rfl (fun σ4 hσ4 h => ?_)
  refine j_iload_n C d_X_firstComing_20 2 rfl rfl ?_
  refine j_istore (L' := [(7, .int (zI v2)), (0, .ref (gad G 54)), (1, .int (zI v1)), (2, .int (zI v2)), (3, .int (zI v3)), (4, .int (zI v4)), (5, .int (zI v5)), (6, .int (zI v6))]) C d_X_firstComing_21 rfl rfl ?_
  obtain ⟨n14, h⟩ := h
  refine j_sub (L' := [(0, .ref (gad G 54)), (4, .int (zI v4)), (5, .int (zI v5)), (6, .int (zI v6)), (7, .int (zI v2))]) [1, 5, 6, 7, 0] rfl ?_
  refine w_X_firstComing_L23 C r4 r5 r6 n14 σ4 v2 hσ4 r2 h
set_option maxRecDepth 100000 in
set_option maxHeartbeats 4000000 in
theorem c_X_earliestTime (l : Launch) (D : va_G) (ad : Nat → Nat) (ca : Nat → ClassId) {σ : zM} {v1 : Int} {v2 : Int} {v3 : Int} {Q : Int → zM → Prop} (hσ : zRM σ) (r1 : zR v1) (r2 : zR v2) (r3 : zR v3) (h : wp_X_earliestTime σ v1 v2 v3 Q) : zCi l D ad ca y_X_earliestTime b_X_earliestTime 4 (some .int) (zrm 5 123) [.ref (ad 54), .int (zI v1), .int (zI v2), .int (zI v3)] σ Q := by
  refine zCi_of (by decide +kernel) (Nat.le_of_ble_eq_true rfl) ?_
  intro X G C hl hD had hca
  subst hl hD had hca
  have C : zC X G b_X_earliestTime "GateRoads" 4 (some .int) 5 123 := C
  show zJ X G (zQi X G Q) 4 0 [(0, .ref (gad G 54)), (1, .int (zI v1)), (2, .int (zI v2)), (3, .int (zI v3))] [] σ
  unfold wp_X_earliestTime at h
  refine j_iload_n C d_X_earliestTime_0 1 rfl rfl ?_
  refine j_iload_n C d_X_earliestTime_1 2 rfl rfl ?_
  refine j_icmp_ne (tgt := 9) C d_X_earliestTime_2 rfl r1 r2 (fun c => ?_) (fun c => ?_)
  · have h := h.1 c
    refine j_aload_n C d_X_earliestTime_9 0 rfl rfl ?_
    refine j_iload_n C d_X_earliestTime_10 1 rfl rfl ?_
    refine j_iload_n C d_X_earliestTime_11 3 rfl rfl ?_
    refine j_aload_n C d_X_earliestTime_12 0 rfl rfl ?_
    refine j_getr (kf := 0) (m := 0) C d_X_earliestTime_13 sh_54 rfl i_X rfl rfl fl_X_12 ?_
    refine j_iload_n C d_X_earliestTime_16 1 rfl rfl ?_
    refine j_iload_n C d_X_earliestTime_17 3 rfl rfl ?_
    refine j_callV C d_X_earliestTime_18 ml_X_217 mi_S_waitEnd (c_S_waitEnd (xl X) (gD G) (gad G) (gca G) (v1 := v1) (v2 := v3) hσ r1 r3 h) sh_0 rfl rfl rfl rfl rfl rfl rfl (fun z1 σ2 rz1 hσ2 h => ?_)
    obtain ⟨ez1, h⟩ := h; subst ez1
    refine j_iload_n C d_X_earliestTime_21 2 rfl rfl ?_
    refine j_sipush C d_X_earliestTime_22 rfl ?_
    refine j_iconst C d_X_earliestTime_25 ?_
    refine j_callV C d_X_earliestTime_26 ml_X_233 mi_X_firstComing (c_X_firstComing (xl X) (gD G) (gad G) (gca G) (v1 := v1) (v2 := v3) (v3 := z1) (v4 := v2) (v5 := 2880) (v6 := 0) hσ r1 r3 rz1 r2 (zR_of (x := 2880) rfl) (zR_of (x := 0) rfl) h) sh_54 rfl rfl rfl rfl rfl rfl rfl (fun z3 σ4 rz3 hσ4 h => ?_)
    exact j_ireturn C d_X_earliestTime_29 rz3 hσ4 h
  · have h := h.2 c
    refine j_iload_n C d_X_earliestTime_5 3 rfl rfl ?_
    refine j_goto (tgt := 29) C d_X_earliestTime_6 rfl ?_
    exact j_ireturn C d_X_earliestTime_29 r3 hσ h
set_option maxRecDepth 100000 in
set_option maxHeartbeats 4000000 in
theorem c_X_earliest (l : Launch) (D : va_G) (ad : Nat → Nat) (ca : Nat → ClassId) {σ : zM} {v1 : Int} {v2 : Int} {v3 : Int} {Q : Int → zM → Prop} (hσ : zRM σ) (r1 : zR v1) (r2 : zR v2) (r3 : zR v3) (h : wp_X_earliest σ v1 v2 v3 Q) : zCi l D ad ca y_X_earliest b_X_earliest 4 (some .int) (zrm 6 146) [.ref (ad 54), .int (zI v1), .int (zI v2), .int (zI v3)] σ Q := by
  refine zCi_of (by decide +kernel) (Nat.le_of_ble_eq_true rfl) ?_
  intro X G C hl hD had hca
  subst hl hD had hca
  have C : zC X G b_X_earliest "GateRoads" 4 (some .int) 6 146 := C
  show zJ X G (zQi X G Q) 4 0 [(0, .ref (gad G 54)), (1, .int (zI v1)), (2, .int (zI v2)), (3, .int (zI v3))] [] σ
  unfold wp_X_earliest at h
  refine j_iload_n C d_X_earliest_0 1 rfl rfl ?_
  refine j_callS C d_X_earliest_1 ml_X_65 ms_X_isPlace (c_X_isPlace (xl X) (gD G) (gad G) (gca G) (v0 := v1) hσ r1 h) rfl rfl rfl rfl rfl (fun z1 σ2 rz1 hσ2 h => ?_)
  obtain ⟨ez1, h⟩ := h; subst ez1
  refine j_if_eq (tgt := 14) C d_X_earliest_4 rfl rz1 (fun c => ?_) (fun c => ?_)
  · have h := h.1 c
    refine j_iconst C d_X_earliest_14 ?_
    exact j_ireturn C d_X_earliest_15 (zR_of (x := (-1)) rfl) hσ h
  · have h := h.2 c
    refine j_iload_n C d_X_earliest_7 2 rfl rfl ?_
    refine j_callS C d_X_earliest_8 ml_X_65 ms_X_isPlace (c_X_isPlace (xl X) (gD G) (gad G) (gca G) (v0 := v2) hσ r2 h) rfl rfl rfl rfl rfl (fun z3 σ4 rz3 hσ4 h => ?_)
    obtain ⟨ez3, h⟩ := h; subst ez3
    refine j_if_ne (tgt := 16) C d_X_earliest_11 rfl rz3 (fun c => ?_) (fun c => ?_)
    · have h := h.1 c
      refine j_iload_n C d_X_earliest_16 3 rfl rfl ?_
      refine j_iconst C d_X_earliest_17 ?_
      refine j_sipush C d_X_earliest_18 rfl ?_
      refine j_callS C d_X_earliest_21 ml_X_69 ms_X_within (c_X_within (xl X) (gD G) (gad G) (gca G) (v0 := v3) (v1 := 0) (v2 := 2880) hσ r3 (zR_of (x := 0) rfl) (zR_of (x := 2880) rfl) h) rfl rfl rfl rfl rfl (fun z5 σ6 rz5 hσ6 h => ?_)
      obtain ⟨ez5, h⟩ := h; subst ez5
      refine j_if_ne (tgt := 30) C d_X_earliest_24 rfl rz5 (fun c => ?_) (fun c => ?_)
      · have h := h.1 c
        refine j_aload_n C d_X_earliest_30 0 rfl rfl ?_
        refine j_iload_n C d_X_earliest_31 1 rfl rfl ?_
        refine j_iload_n C d_X_earliest_32 2 rfl rfl ?_
        refine j_iload_n C d_X_earliest_33 3 rfl rfl ?_
        refine j_callV C d_X_earliest_34 ml_X_180 mi_X_earliestTime (c_X_earliestTime (xl X) (gD G) (gad G) (gca G) (v1 := v1) (v2 := v2) (v3 := v3) hσ r1 r2 r3 h) sh_54 rfl rfl rfl rfl rfl rfl rfl (fun z7 σ8 rz7 hσ8 h => ?_)
        exact j_ireturn C d_X_earliest_37 rz7 hσ8 h
      · have h := h.2 c
        refine j_bipush C d_X_earliest_27 rfl ?_
        exact j_ireturn C d_X_earliest_29 (zR_of (x := (-2)) rfl) hσ h
    · have h := h.2 c
      refine j_iconst C d_X_earliest_14 ?_
      exact j_ireturn C d_X_earliest_15 (zR_of (x := (-1)) rfl) hσ h
set_option maxRecDepth 100000 in
set_option maxHeartbeats 4000000 in
theorem c_B_start (l : Launch) (D : va_G) (ad : Nat → Nat) (ca : Nat → ClassId) {σ : zM} {v1 : Int} {v2 : Int} {Q : zM → Prop} (hσ : zRM σ) (r1 : zR v1) (r2 : zR v2) (h : wp_B_start σ v1 v2 Q) : zCv l D ad ca y_B_start b_B_start 3 (zrm 1 23) [.ref (ad 70), .int (zI v1), .int (zI v2)] σ Q := by
  refine zCv_of (by decide +kernel) (Nat.le_of_ble_eq_true rfl) ?_
  intro X G C hl hD had hca
  subst hl hD had hca
  have C : zC X G b_B_start "GateRoads$Backward" 3 (none) 1 23 := C
  show zJ X G (zQv X G Q) 3 0 [(0, .ref (gad G 70)), (1, .int (zI v1)), (2, .int (zI v2))] [] σ
  unfold wp_B_start at h
  refine j_aload_n C d_B_start_0 0 rfl rfl ?_
  refine j_getr (kf := 0) (m := 71) C d_B_start_1 sh_70 rfl i_B rfl rfl fl_B_9 ?_
  refine j_iconst C d_B_start_4 ?_
  refine j_callSv C d_B_start_5 ml_B_18 ms_Ar_fill_0 (c_Ar_fill_0 (xl X) (gD G) (gad G) (gca G) hσ sh_71 (zR_of (x := 0) rfl)) rfl rfl rfl rfl rfl (fun σ1 hσ1 eσ1 => ?_)
  have h := h σ1 eσ1
  refine j_aload_n C d_B_start_8 0 rfl rfl ?_
  refine j_getr (kf := 1) (m := 72) C d_B_start_9 sh_70 rfl i_B rfl rfl fl_B_15 ?_
  refine j_sipush C d_B_start_12 rfl ?_
  refine j_callSv C d_B_start_15 ml_B_18 ms_Ar_fill_0 (c_Ar_fill_0 (xl X) (gD G) (gad G) (gca G) hσ1 sh_72 (zR_of (x := 2881) rfl)) rfl rfl rfl rfl rfl (fun σ2 hσ2 eσ2 => ?_)
  have h := h σ2 eσ2
  refine j_aload_n C d_B_start_18 0 rfl rfl ?_
  refine j_iload_n C d_B_start_19 1 rfl rfl ?_
  refine j_puti (kf := 2) (kI := 2) C t_B d_B_start_20 sh_70 rfl i_B t_B_ok n_B rfl rfl rfl fl_B_24 rfl (Or.inl rfl) ?_
  refine j_mem (fun σ3 eσ3 => ?_)
  have h := h σ3 eσ3
  have hσ3 : zRM σ3 := by rw [eσ3]; exact zU_rg hσ2 _ _ r1
  refine j_aload_n C d_B_start_23 0 rfl rfl ?_
  refine j_iload_n C d_B_start_24 2 rfl rfl ?_
  refine j_puti (kf := 3) (kI := 3) C t_B d_B_start_25 sh_70 rfl i_B t_B_ok n_B rfl rfl rfl fl_B_28 rfl (Or.inl rfl) ?_
  refine j_mem (fun σ4 eσ4 => ?_)
  have h := h σ4 eσ4
  have hσ4 : zRM σ4 := by rw [eσ4]; exact zU_rg hσ3 _ _ r2
  exact j_vreturn C d_B_start_28 hσ4 h
set_option maxRecDepth 100000 in
set_option maxHeartbeats 4000000 in
theorem c_B_leads (l : Launch) (D : va_G) (ad : Nat → Nat) (ca : Nat → ClassId) {σ : zM} {v1 : Int} {v2 : Int} {Q : Int → Prop} (hσ : zRM σ) (r1 : zR v1) (r2 : zR v2) (h : wp_B_leads σ v1 v2 Q) : zCi l D ad ca y_B_leads b_B_leads 3 (some .boolean) (zrm 1 21) [.ref (ad 70), .int (zI v1), .int (zI v2)] σ (fun z u => σ = u ∧ Q z) := by
  refine zCi_of (by decide +kernel) (Nat.le_of_ble_eq_true rfl) ?_
  intro X G C hl hD had hca
  subst hl hD had hca
  have C : zC X G b_B_leads "GateRoads$Backward" 3 (some .boolean) 1 21 := C
  show zJ X G (zQi X G (fun z u => σ = u ∧ Q z)) 3 0 [(0, .ref (gad G 70)), (1, .int (zI v1)), (2, .int (zI v2))] [] σ
  unfold wp_B_leads at h
  refine j_iload_n C d_B_leads_0 2 rfl rfl ?_
  refine j_if_lt (tgt := 29) C d_B_leads_1 rfl r2 (fun c => ?_) (fun c => ?_)
  · have h := h.1 c
    refine j_iconst C d_B_leads_29 ?_
    exact j_zreturn C d_B_leads_30 (by decide) hσ ⟨rfl, h⟩
  · have h := h.2 c
    refine j_iload_n C d_B_leads_4 2 rfl rfl ?_
    refine j_aload_n C d_B_leads_5 0 rfl rfl ?_
    refine j_geti (kf := 3) (kI := 3) C d_B_leads_6 sh_70 rfl i_B rfl rfl rfl fl_B_28 ?_
    refine j_icmp_gt (tgt := 29) C d_B_leads_9 rfl r2 (hσ _ _) (fun c => ?_) (fun c => ?_)
    · have h := h.1 c
      refine j_iconst C d_B_leads_29 ?_
      exact j_zreturn C d_B_leads_30 (by decide) hσ ⟨rfl, h⟩
    · have h := h.2 c
      refine j_aload_n C d_B_leads_12 0 rfl rfl ?_
      refine j_getr (kf := 0) (m := 71) C d_B_leads_13 sh_70 rfl i_B rfl rfl fl_B_9 ?_
      refine j_iload_n C d_B_leads_16 2 rfl rfl ?_
      obtain ⟨g1, h⟩ := h
      refine j_iaload C d_B_leads_17 sh_71 g1 ?_
      refine j_iload_n C d_B_leads_18 1 rfl rfl ?_
      refine j_callSN (host := "GateRoads") C d_B_leads_19 (by decide) ms_X_has (c_X_has (xl X) (gD G) (gad G) (gca G) (v0 := σ 71 v2) (v1 := v1) hσ (hσ _ _) r1 h) rfl rfl rfl rfl rfl (fun z2 σ3 rz2 hσ3 h => ?_)
      obtain ⟨ez2, h⟩ := h; subst ez2
      refine j_if_eq (tgt := 29) C d_B_leads_22 rfl rz2 (fun c => ?_) (fun c => ?_)
      · have h := h.1 c
        refine j_iconst C d_B_leads_29 ?_
        exact j_zreturn C d_B_leads_30 (by decide) hσ ⟨rfl, h⟩
      · have h := h.2 c
        refine j_iconst C d_B_leads_25 ?_
        refine j_goto (tgt := 30) C d_B_leads_26 rfl ?_
        exact j_zreturn C d_B_leads_30 (by decide) hσ ⟨rfl, h⟩
set_option maxRecDepth 100000 in
set_option maxHeartbeats 4000000 in
theorem w_B_minute_b57 {X : zX} {G : zG} (C : zC X G b_B_minute "GateRoads$Backward" 6 (none) 3 70) {v2 : Int} {v3 : Int} (r2 : zR v2) (r3 : zR v3) {Q : zM → Prop} {k3 : zM → Int → Prop} (hk3 : ∀ (σ : zM) (v4 : Int), zRM σ → zR v4 → k3 σ v4 → zJ X G (zQv X G Q) 6 3 [(0, .ref (gad G 70)), (1, .ref (gad G 0)), (2, .int (zI v2)), (3, .int (zI v3)), (4, .int (zI v4))] [] σ) (σ : zM) (v4 : Int) (hσ : zRM σ) (r4 : zR v4) (h : wp_B_minute_b57 v2 v3 k3 Q σ v4) : zJ X G (zQv X G Q) 6 57 [(0, .ref (gad G 70)), (1, .ref (gad G 0)), (2, .int (zI v2)), (3, .int (zI v3)), (4, .int (zI v4))] [] σ := by
  unfold wp_B_minute_b57 at h
  obtain ⟨g3, h⟩ := h
  refine j_iinc (L' := [(4, .int (zI (v4 + 1))), (0, .ref (gad G 70)), (1, .ref (gad G 0)), (2, .int (zI v2)), (3, .int (zI v3))]) C d_B_minute_57 4 rfl rfl rfl ?_
  refine j_goto (tgt := 3) C d_B_minute_60 rfl ?_
  refine j_sub (L' := [(0, .ref (gad G 70)), (1, .ref (gad G 0)), (2, .int (zI v2)), (3, .int (zI v3)), (4, .int (zI (v4 + 1)))]) [1, 2, 3, 4, 0] rfl ?_
  exact hk3 σ (v4 + 1) hσ g3 h
set_option maxRecDepth 100000 in
set_option maxHeartbeats 4000000 in
theorem w_B_minute_L3 {X : zX} {G : zG} (C : zC X G b_B_minute "GateRoads$Backward" 6 (none) 3 70) {v2 : Int} {v3 : Int} (r2 : zR v2) (r3 : zR v3) {Q : zM → Prop} {k63 : zM → Prop} (hk63 : ∀ (σ : zM), zRM σ → k63 σ → zJ X G (zQv X G Q) 6 63 [(0, .ref (gad G 70)), (1, .ref (gad G 0)), (3, .int (zI v3))] [] σ) : ∀ (n : Nat) (σ : zM) (v4 : Int) (hσ : zRM σ) (r4 : zR v4), wp_B_minute_L3 v2 v3 k63 Q n σ v4 → zJ X G (zQv X G Q) 6 3 [(0, .ref (gad G 70)), (1, .ref (gad G 0)), (2, .int (zI v2)), (3, .int (zI v3)), (4, .int (zI v4))] [] σ := by
  intro n
  induction n with
  | zero => intro σ v4 hσ r4 h; exact False.elim h
  | succ n ih =>
    intro σ v4 hσ r4 h
    rw [wp_B_minute_L3] at h
    refine j_iload C d_B_minute_3 4 rfl ?_
    refine j_aload_n C d_B_minute_5 1 rfl rfl ?_
    refine j_geti (kf := 5) (kI := 5) C d_B_minute_6 sh_0 rfl i_S rfl rfl rfl fl_B_35 ?_
    refine j_icmp_ge (tgt := 63) C d_B_minute_9 rfl r4 (hσ _ _) (fun c => ?_) (fun c => ?_)
    · have h := h.1 c
      refine j_sub (L' := [(0, .ref (gad G 70)), (1, .ref (gad G 0)), (3, .int (zI v3))]) [0, 1, 3] rfl ?_
      exact hk63 σ hσ h
    · have h := h.2 c
      refine j_iload_n C d_B_minute_12 2 rfl rfl ?_
      refine j_iload C d_B_minute_13 4 rfl ?_
      refine j_callSN (host := "GateRoads") C d_B_minute_15 (by decide) ms_X_has (c_X_has (xl X) (gD G) (gad G) (gca G) (v0 := v2) (v1 := v4) hσ r2 r4 h) rfl rfl rfl rfl rfl (fun z1 σ2 rz1 hσ2 h => ?_)
      obtain ⟨ez1, h⟩ := h; subst ez1
      refine j_if_eq (tgt := 57) C d_B_minute_18 rfl rz1 (fun c => ?_) (fun c => ?_)
      · have h := h.1 c
        refine w_B_minute_b57 C r2 r3 ih σ v4 hσ r4 h
      · have h := h.2 c
        refine j_aload_n C d_B_minute_21 0 rfl rfl ?_
        refine j_aload_n C d_B_minute_22 1 rfl rfl ?_
        refine j_iload C d_B_minute_23 4 rfl ?_
        refine j_iconst C d_B_minute_25 ?_
        refine j_callV C d_B_minute_26 ml_B_40 mi_S_ofRoads (c_S_ofRoads (xl X) (gD G) (gad G) (gca G) (v1 := v4) (v2 := 1) hσ r4 (zR_of (x := 1) rfl) h) sh_0 rfl rfl rfl rfl rfl rfl rfl (fun z4 σ5 rz4 hσ5 h => ?_)
        obtain ⟨ez4, h⟩ := h; subst ez4
        refine j_iload_n C d_B_minute_29 3 rfl rfl ?_
        refine j_aload_n C d_B_minute_30 1 rfl rfl ?_
        refine j_iload C d_B_minute_31 4 rfl ?_
        refine j_iconst C d_B_minute_33 ?_
        refine j_callV C d_B_minute_34 ml_B_40 mi_S_ofRoads (c_S_ofRoads (xl X) (gD G) (gad G) (gca G) (v1 := v4) (v2 := 2) hσ r4 (zR_of (x := 2) rfl) h) sh_0 rfl rfl rfl rfl rfl rfl rfl (fun z6 σ7 rz6 hσ7 h => ?_)
        obtain ⟨ez6, h⟩ := h; subst ez6
        refine j_iadd C d_B_minute_37 ?_
        obtain ⟨g8, h⟩ := h
        refine j_callV C d_B_minute_38 ml_B_44 mi_B_leads (c_B_leads (xl X) (gD G) (gad G) (gca G) (v1 := z4) (v2 := v3 + z6) hσ rz4 g8 h) sh_70 rfl rfl rfl rfl rfl rfl rfl (fun z9 σ10 rz9 hσ10 h => ?_)
        obtain ⟨ez9, h⟩ := h; subst ez9
        refine j_if_eq (tgt := 57) C d_B_minute_41 rfl rz9 (fun c => ?_) (fun c => ?_)
        · have h := h.1 c
          refine w_B_minute_b57 C r2 r3 ih σ v4 hσ r4 h
        · have h := h.2 c
          refine j_aload_n C d_B_minute_44 0 rfl rfl ?_
          refine j_getr (kf := 1) (m := 72) C d_B_minute_45 sh_70 rfl i_B rfl rfl fl_B_15 ?_
          refine j_aload_n C d_B_minute_48 1 rfl rfl ?_
          refine j_iload C d_B_minute_49 4 rfl ?_
          refine j_iconst C d_B_minute_51 ?_
          refine j_callV C d_B_minute_52 ml_B_40 mi_S_ofRoads (c_S_ofRoads (xl X) (gD G) (gad G) (gca G) (v1 := v4) (v2 := 0) hσ r4 (zR_of (x := 0) rfl) h) sh_0 rfl rfl rfl rfl rfl rfl rfl (fun z11 σ12 rz11 hσ12 h => ?_)
          obtain ⟨ez11, h⟩ := h; subst ez11
          refine j_iload_n C d_B_minute_55 3 rfl rfl ?_
          obtain ⟨g13, h⟩ := h
          refine j_iastore C d_B_minute_56 sh_72 g13 ?_
          refine j_mem (fun σ14 eσ14 => ?_)
          have h := h σ14 eσ14
          have hσ14 : zRM σ14 := by rw [eσ14]; exact zU_rg hσ _ _ r3
          refine w_B_minute_b57 C r2 r3 ih σ14 v4 hσ14 r4 h
set_option maxRecDepth 100000 in
set_option maxHeartbeats 4000000 in
theorem w_B_minute_b107 {X : zX} {G : zG} (C : zC X G b_B_minute "GateRoads$Backward" 6 (none) 3 70) {σ : zM} {v3 : Int} (hσ : zRM σ) (r3 : zR v3) {Q : zM → Prop} {k74 : Int → Int → Prop} (hk74 : ∀ (v4 : Int) (v5 : Int), zR v4 → zR v5 → k74 v4 v5 → zJ X G (zQv X G Q) 6 74 [(0, .ref (gad G 70)), (1, .ref (gad G 0)), (3, .int (zI v3)), (4, .int (zI v4)), (5, .int (zI v5))] [] σ) (v4 : Int) (v5 : Int) (r4 : zR v4) (r5 : zR v5) (h : wp_B_minute_b107 σ v3 k74 Q v4 v5) : zJ X G (zQv X G Q) 6 107 [(0, .ref (gad G 70)), (1, .ref (gad G 0)), (3, .int (zI v3)), (4, .int (zI v4)), (5, .int (zI v5))] [] σ := by
  unfold wp_B_minute_b107 at h
  obtain ⟨g21, h⟩ := h
  refine j_iinc (L' := [(5, .int (zI (v5 + 1))), (0, .ref (gad G 70)), (1, .ref (gad G 0)), (3, .int (zI v3)), (4, .int (zI v4))]) C d_B_minute_107 4 rfl rfl rfl ?_
  refine j_goto (tgt := 74) C d_B_minute_110 rfl ?_
  refine j_sub (L' := [(0, .ref (gad G 70)), (1, .ref (gad G 0)), (3, .int (zI v3)), (4, .int (zI v4)), (5, .int (zI (v5 + 1)))]) [1, 2, 3, 4, 0] rfl ?_
  exact hk74 v4 (v5 + 1) r4 g21 h
set_option maxRecDepth 100000 in
set_option maxHeartbeats 4000000 in
theorem w_B_minute_L74 {X : zX} {G : zG} (C : zC X G b_B_minute "GateRoads$Backward" 6 (none) 3 70) {σ : zM} {v3 : Int} (hσ : zRM σ) (r3 : zR v3) {Q : zM → Prop} : ∀ (n : Nat) (v4 : Int) (v5 : Int) (r4 : zR v4) (r5 : zR v5), wp_B_minute_L74 σ v3 Q n v4 v5 → zJ X G (zQv X G Q) 6 74 [(0, .ref (gad G 70)), (1, .ref (gad G 0)), (3, .int (zI v3)), (4, .int (zI v4)), (5, .int (zI v5))] [] σ := by
  intro n
  induction n with
  | zero => intro v4 v5 r4 r5 h; exact False.elim h
  | succ n ih =>
    intro v4 v5 r4 r5 h
    rw [wp_B_minute_L74] at h
    refine j_iload C d_B_minute_74 4 rfl ?_
    refine j_bipush C d_B_minute_76 rfl ?_
    refine j_icmp_ge (tgt := 113) C d_B_minute_78 rfl r5 (zR_of (x := 8) rfl) (fun c => ?_) (fun c => ?_)
    · have h := h.1 c
      refine j_aload_n C d_B_minute_113 0 rfl rfl ?_
      refine j_getr (kf := 0) (m := 71) C d_B_minute_114 sh_70 rfl i_B rfl rfl fl_B_9 ?_
      refine j_iload_n C d_B_minute_117 2 rfl rfl ?_
      refine j_iload C d_B_minute_118 3 rfl ?_
      obtain ⟨g16, h⟩ := h
      refine j_iastore C d_B_minute_120 sh_71 g16 ?_
      refine j_mem (fun σ17 eσ17 => ?_)
      have h := h σ17 eσ17
      have hσ17 : zRM σ17 := by rw [eσ17]; exact zU_rg hσ _ _ r4
      exact j_vreturn C d_B_minute_121 hσ17 h
    · have h := h.2 c
      refine j_aload_n C d_B_minute_81 0 rfl rfl ?_
      refine j_getr (kf := 1) (m := 72) C d_B_minute_82 sh_70 rfl i_B rfl rfl fl_B_15 ?_
      refine j_iload C d_B_minute_85 4 rfl ?_
      obtain ⟨g18, h⟩ := h
      refine j_iaload C d_B_minute_87 sh_72 g18 ?_
      refine j_aload_n C d_B_minute_88 1 rfl rfl ?_
      refine j_iload C d_B_minute_89 4 rfl ?_
      refine j_iload_n C d_B_minute_91 2 rfl rfl ?_
      refine j_callV C d_B_minute_92 ml_B_47 mi_S_waitEnd (c_S_waitEnd (xl X) (gD G) (gad G) (gca G) (v1 := v5) (v2 := v3) hσ r5 r3 h) sh_0 rfl rfl rfl rfl rfl rfl rfl (fun z19 σ20 rz19 hσ20 h => ?_)
      obtain ⟨ez19, h⟩ := h; subst ez19
      refine j_icmp_gt (tgt := 107) C d_B_minute_95 rfl (hσ _ _) rz19 (fun c => ?_) (fun c => ?_)
      · have h := h.1 c
        refine w_B_minute_b107 C hσ r3 ih v4 v5 r4 r5 h
      · have h := h.2 c
        refine j_iload C d_B_minute_98 3 rfl ?_
        refine j_iconst C d_B_minute_100 ?_
        refine j_iload C d_B_minute_101 4 rfl ?_
        refine j_ishl C d_B_minute_103 ?_
        refine j_ior C d_B_minute_104 ?_
        refine j_istore (L' := [(4, .int (zI (zOr v4 (zShl 1 v5)))), (0, .ref (gad G 70)), (1, .ref (gad G 0)), (3, .int (zI v3)), (5, .int (zI v5))]) C d_B_minute_105 rfl rfl ?_
        refine j_sub (L' := [(0, .ref (gad G 70)), (1, .ref (gad G 0)), (3, .int (zI v3)), (4, .int (zI (zOr v4 (zShl 1 v5)))), (5, .int (zI v5))]) [1, 2, 3, 0, 4] rfl ?_
        refine w_B_minute_b107 C hσ r3 ih (zOr v4 (zShl 1 v5)) v5 (zOr_rg _ _) r5 h
set_option maxRecDepth 100000 in
set_option maxHeartbeats 4000000 in
theorem c_B_minute (l : Launch) (D : va_G) (ad : Nat → Nat) (ca : Nat → ClassId) {σ : zM} {v2 : Int} {v3 : Int} {Q : zM → Prop} (hσ : zRM σ) (r2 : zR v2) (r3 : zR v3) (h : wp_B_minute σ v2 v3 Q) : zCv l D ad ca y_B_minute b_B_minute 6 (zrm 3 70) [.ref (ad 70), .ref (ad 0), .int (zI v2), .int (zI v3)] σ Q := by
  refine zCv_of (by decide +kernel) (Nat.le_of_ble_eq_true rfl) ?_
  intro X G C hl hD had hca
  subst hl hD had hca
  have C : zC X G b_B_minute "GateRoads$Backward" 6 (none) 3 70 := C
  show zJ X G (zQv X G Q) 6 0 [(0, .ref (gad G 70)), (1, .ref (gad G 0)), (2, .int (zI v2)), (3, .int (zI v3))] [] σ
  unfold wp_B_minute at h
  refine j_iconst C d_B_minute_0 ?_
  refine j_istore (L' := [(4, .int (zI 0)), (0, .ref (gad G 70)), (1, .ref (gad G 0)), (2, .int (zI v2)), (3, .int (zI v3))]) C d_B_minute_1 rfl rfl ?_
  obtain ⟨n23, h⟩ := h
  refine j_sub (L' := [(0, .ref (gad G 70)), (1, .ref (gad G 0)), (2, .int (zI v2)), (3, .int (zI v3)), (4, .int (zI 0))]) [1, 2, 3, 4, 0] rfl ?_
  refine w_B_minute_L3 C r2 r3 ?_ n23 σ 0 hσ (zR_of (x := 0) rfl) h
  · intro σ15 hσ15 h
    refine j_iconst C d_B_minute_63 ?_
    refine j_aload_n C d_B_minute_64 0 rfl rfl ?_
    refine j_geti (kf := 2) (kI := 2) C d_B_minute_65 sh_70 rfl i_B rfl rfl rfl fl_B_24 ?_
    refine j_ishl C d_B_minute_68 ?_
    refine j_istore (L' := [(4, .int (zI (zShl 1 (σ15 70 2)))), (0, .ref (gad G 70)), (1, .ref (gad G 0)), (3, .int (zI v3))]) C d_B_minute_69 rfl rfl ?_
    refine j_iconst C d_B_minute_71 ?_
    refine j_istore (L' := [(5, .int (zI 0)), (4, .int (zI (zShl 1 (σ15 70 2)))), (0, .ref (gad G 70)), (1, .ref (gad G 0)), (3, .int (zI v3))]) C d_B_minute_72 rfl rfl ?_
    obtain ⟨n22, h⟩ := h
    refine j_sub (L' := [(0, .ref (gad G 70)), (1, .ref (gad G 0)), (3, .int (zI v3)), (4, .int (zI (zShl 1 (σ15 70 2)))), (5, .int (zI 0))]) [2, 3, 4, 1, 0] rfl ?_
    refine w_B_minute_L74 C hσ15 r3 n22 (zShl 1 (σ15 70 2)) 0 (zShl_rg _ _) (zR_of (x := 0) rfl) h
set_option maxRecDepth 100000 in
set_option maxHeartbeats 4000000 in
theorem w_X_latest_L60 {X : zX} {G : zG} (C : zC X G b_X_latest "GateRoads" 5 (some .int) 4 95) {v1 : Int} (r1 : zR v1) {Q : Int → zM → Prop} : ∀ (n : Nat) (σ : zM) (v4 : Int) (hσ : zRM σ) (r4 : zR v4), wp_X_latest_L60 v1 Q n σ v4 → zJ X G (zQi X G Q) 5 60 [(0, .ref (gad G 54)), (1, .int (zI v1)), (4, .int (zI v4))] [] σ := by
  intro n
  induction n with
  | zero => intro σ v4 hσ r4 h; exact False.elim h
  | succ n ih =>
    intro σ v4 hσ r4 h
    rw [wp_X_latest_L60] at h
    refine j_iload C d_X_latest_60 2 rfl ?_
    refine j_if_lt (tgt := 109) C d_X_latest_62 rfl r4 (fun c => ?_) (fun c => ?_)
    · have h := h.1 c
      refine j_bipush C d_X_latest_109 rfl ?_
      exact j_ireturn C d_X_latest_111 (zR_of (x := (-6)) rfl) hσ h
    · have h := h.2 c
      refine j_aload_n C d_X_latest_65 0 rfl rfl ?_
      refine j_getr (kf := 11) (m := 70) C d_X_latest_66 sh_54 rfl i_X rfl rfl fl_X_54 ?_
      refine j_aload_n C d_X_latest_69 0 rfl rfl ?_
      refine j_getr (kf := 0) (m := 0) C d_X_latest_70 sh_54 rfl i_X rfl rfl fl_X_12 ?_
      refine j_aload_n C d_X_latest_73 0 rfl rfl ?_
      refine j_getr (kf := 8) (m := 62) C d_X_latest_74 sh_54 rfl i_X rfl rfl fl_X_37 ?_
      refine j_iload C d_X_latest_77 2 rfl ?_
      refine j_callV C d_X_latest_79 ml_X_190 mi_G_at (c_G_at (xl X) (gD G) (gad G) (gca G) (v1 := v4) hσ r4 h) sh_62 rfl rfl rfl rfl rfl rfl rfl (fun z11 σ12 rz11 hσ12 h => ?_)
      obtain ⟨ez11, h⟩ := h; subst ez11
      refine j_iload C d_X_latest_82 2 rfl ?_
      refine j_callVv C d_X_latest_84 ml_X_193 mi_B_minute (c_B_minute (xl X) (gD G) (gad G) (gca G) (v2 := z11) (v3 := v4) hσ rz11 r4 h) sh_70 rfl rfl rfl rfl rfl rfl rfl (fun σ14 hσ14 h => ?_)
      refine j_aload_n C d_X_latest_87 0 rfl rfl ?_
      refine j_getr (kf := 11) (m := 70) C d_X_latest_88 sh_54 rfl i_X rfl rfl fl_X_54 ?_
      refine j_iload_n C d_X_latest_91 1 rfl rfl ?_
      refine j_iload C d_X_latest_92 2 rfl ?_
      refine j_callV C d_X_latest_94 ml_X_197 mi_B_leads (c_B_leads (xl X) (gD G) (gad G) (gca G) (v1 := v1) (v2 := v4) hσ14 r1 r4 h) sh_70 rfl rfl rfl rfl rfl rfl rfl (fun z15 σ16 rz15 hσ16 h => ?_)
      obtain ⟨ez15, h⟩ := h; subst ez15
      refine j_if_eq (tgt := 103) C d_X_latest_97 rfl rz15 (fun c => ?_) (fun c => ?_)
      · have h := h.1 c
        obtain ⟨g17, h⟩ := h
        refine j_iinc (L' := [(4, .int (zI (v4 + (-1)))), (0, .ref (gad G 54)), (1, .int (zI v1))]) C d_X_latest_103 2 rfl rfl rfl ?_
        refine j_goto (tgt := 60) C d_X_latest_106 rfl ?_
        refine j_sub (L' := [(0, .ref (gad G 54)), (1, .int (zI v1)), (4, .int (zI (v4 + (-1))))]) [1, 2, 0] rfl ?_
        exact ih σ14 (v4 + (-1)) hσ14 g17 h
      · have h := h.2 c
        refine j_iload C d_X_latest_100 2 rfl ?_
        exact j_ireturn C d_X_latest_102 r4 hσ14 h
set_option maxRecDepth 100000 in
set_option maxHeartbeats 4000000 in
theorem c_X_latest (l : Launch) (D : va_G) (ad : Nat → Nat) (ca : Nat → ClassId) {σ : zM} {v1 : Int} {v2 : Int} {v3 : Int} {Q : Int → zM → Prop} (hσ : zRM σ) (r1 : zR v1) (r2 : zR v2) (r3 : zR v3) (h : wp_X_latest σ v1 v2 v3 Q) : zCi l D ad ca y_X_latest b_X_latest 5 (some .int) (zrm 4 95) [.ref (ad 54), .int (zI v1), .int (zI v2), .int (zI v3)] σ Q := by
  refine zCi_of (by decide +kernel) (Nat.le_of_ble_eq_true rfl) ?_
  intro X G C hl hD had hca
  subst hl hD had hca
  have C : zC X G b_X_latest "GateRoads" 5 (some .int) 4 95 := C
  show zJ X G (zQi X G Q) 5 0 [(0, .ref (gad G 54)), (1, .int (zI v1)), (2, .int (zI v2)), (3, .int (zI v3))] [] σ
  unfold wp_X_latest at h
  refine j_iload_n C d_X_latest_0 1 rfl rfl ?_
  refine j_callS C d_X_latest_1 ml_X_65 ms_X_isPlace (c_X_isPlace (xl X) (gD G) (gad G) (gca G) (v0 := v1) hσ r1 h) rfl rfl rfl rfl rfl (fun z1 σ2 rz1 hσ2 h => ?_)
  obtain ⟨ez1, h⟩ := h; subst ez1
  refine j_if_eq (tgt := 14) C d_X_latest_4 rfl rz1 (fun c => ?_) (fun c => ?_)
  · have h := h.1 c
    refine j_iconst C d_X_latest_14 ?_
    exact j_ireturn C d_X_latest_15 (zR_of (x := (-1)) rfl) hσ h
  · have h := h.2 c
    refine j_iload_n C d_X_latest_7 2 rfl rfl ?_
    refine j_callS C d_X_latest_8 ml_X_65 ms_X_isPlace (c_X_isPlace (xl X) (gD G) (gad G) (gca G) (v0 := v2) hσ r2 h) rfl rfl rfl rfl rfl (fun z3 σ4 rz3 hσ4 h => ?_)
    obtain ⟨ez3, h⟩ := h; subst ez3
    refine j_if_ne (tgt := 16) C d_X_latest_11 rfl rz3 (fun c => ?_) (fun c => ?_)
    · have h := h.1 c
      refine j_iload_n C d_X_latest_16 3 rfl rfl ?_
      refine j_iconst C d_X_latest_17 ?_
      refine j_sipush C d_X_latest_18 rfl ?_
      refine j_callS C d_X_latest_21 ml_X_69 ms_X_within (c_X_within (xl X) (gD G) (gad G) (gca G) (v0 := v3) (v1 := 0) (v2 := 2880) hσ r3 (zR_of (x := 0) rfl) (zR_of (x := 2880) rfl) h) rfl rfl rfl rfl rfl (fun z5 σ6 rz5 hσ6 h => ?_)
      obtain ⟨ez5, h⟩ := h; subst ez5
      refine j_if_ne (tgt := 30) C d_X_latest_24 rfl rz5 (fun c => ?_) (fun c => ?_)
      · have h := h.1 c
        refine j_iload_n C d_X_latest_30 1 rfl rfl ?_
        refine j_iload_n C d_X_latest_31 2 rfl rfl ?_
        refine j_icmp_ne (tgt := 37) C d_X_latest_32 rfl r1 r2 (fun c => ?_) (fun c => ?_)
        · have h := h.1 c
          refine j_aload_n C d_X_latest_37 0 rfl rfl ?_
          refine j_getr (kf := 8) (m := 62) C d_X_latest_38 sh_54 rfl i_X rfl rfl fl_X_37 ?_
          refine j_aload_n C d_X_latest_41 0 rfl rfl ?_
          refine j_getr (kf := 0) (m := 0) C d_X_latest_42 sh_54 rfl i_X rfl rfl fl_X_12 ?_
          refine j_callVv C d_X_latest_45 ml_X_183 mi_G_prepare (c_G_prepare (xl X) (gD G) (gad G) (gca G)  hσ h) sh_62 rfl rfl rfl rfl rfl rfl rfl (fun σ8 hσ8 h => ?_)
          refine j_aload_n C d_X_latest_48 0 rfl rfl ?_
          refine j_getr (kf := 11) (m := 70) C d_X_latest_49 sh_54 rfl i_X rfl rfl fl_X_54 ?_
          refine j_iload_n C d_X_latest_52 2 rfl rfl ?_
          refine j_iload_n C d_X_latest_53 3 rfl rfl ?_
          refine j_callVv C d_X_latest_54 ml_X_187 mi_B_start (c_B_start (xl X) (gD G) (gad G) (gca G) (v1 := v2) (v2 := v3) hσ8 r2 r3 h) sh_70 rfl rfl rfl rfl rfl rfl rfl (fun σ10 hσ10 h => ?_)
          refine j_iload_n C d_X_latest_57 3 rfl rfl ?_
          refine j_istore (L' := [(4, .int (zI v3)), (0, .ref (gad G 54)), (1, .int (zI v1)), (2, .int (zI v2)), (3, .int (zI v3))]) C d_X_latest_58 rfl rfl ?_
          obtain ⟨n18, h⟩ := h
          refine j_sub (L' := [(0, .ref (gad G 54)), (1, .int (zI v1)), (4, .int (zI v3))]) [1, 2, 0] rfl ?_
          refine w_X_latest_L60 C r1 n18 σ10 v3 hσ10 r3 h
        · have h := h.2 c
          refine j_iload_n C d_X_latest_35 3 rfl rfl ?_
          exact j_ireturn C d_X_latest_36 r3 hσ h
      · have h := h.2 c
        refine j_bipush C d_X_latest_27 rfl ?_
        exact j_ireturn C d_X_latest_29 (zR_of (x := (-2)) rfl) hσ h
    · have h := h.2 c
      refine j_iconst C d_X_latest_14 ?_
      exact j_ireturn C d_X_latest_15 (zR_of (x := (-1)) rfl) hσ h
set_option maxRecDepth 100000 in
set_option maxHeartbeats 4000000 in
theorem c_F_cell (l : Launch) (D : va_G) (ad : Nat → Nat) (ca : Nat → ClassId) {σ : zM} {v0 : Int} {v1 : Int} {Q : Int → Prop} (hσ : zRM σ) (r0 : zR v0) (r1 : zR v1) (h : wp_F_cell σ v0 v1 Q) : zCi l D ad ca y_F_cell b_F_cell 2 (some .int) (zrm 0 0) [.int (zI v0), .int (zI v1)] σ (fun z u => σ = u ∧ Q z) := by
  refine zCi_of (by decide +kernel) (Nat.le_of_ble_eq_true rfl) ?_
  intro X G C hl hD had hca
  subst hl hD had hca
  have C : zC X G b_F_cell "GateRoads$Fewest" 2 (some .int) 0 0 := C
  show zJ X G (zQi X G (fun z u => σ = u ∧ Q z)) 2 0 [(0, .int (zI v0)), (1, .int (zI v1))] [] σ
  unfold wp_F_cell at h
  refine j_iload_n C d_F_cell_0 0 rfl rfl ?_
  refine j_sipush C d_F_cell_1 rfl ?_
  refine j_imul C d_F_cell_4 ?_
  refine j_iload_n C d_F_cell_5 1 rfl rfl ?_
  refine j_sipush C d_F_cell_6 rfl ?_
  refine j_iand C d_F_cell_9 ?_
  refine j_iadd C d_F_cell_10 ?_
  obtain ⟨g1, h⟩ := h
  exact j_ireturn C d_F_cell_11 g1 hσ ⟨rfl, h⟩
set_option maxRecDepth 100000 in
set_option maxHeartbeats 4000000 in
theorem w_F_push_L8 {X : zX} {G : zG} (C : zC X G b_F_push "GateRoads$Fewest" 5 (none) 1 21) {σ : zM} {v1 : Int} {v2 : Int} {v3 : Int} (hσ : zRM σ) (r1 : zR v1) (r2 : zR v2) (r3 : zR v3) {Q : zM → Prop} {k46 : Int → Prop} (hk46 : ∀ (v4 : Int), zR v4 → k46 v4 → zJ X G (zQv X G Q) 5 46 [(0, .ref (gad G 73)), (1, .int (zI v1)), (2, .int (zI v2)), (3, .int (zI v3)), (4, .int (zI v4))] [] σ) : ∀ (n : Nat) (v4 : Int) (r4 : zR v4), wp_F_push_L8 σ v1 v2 v3 k46 Q n v4 → zJ X G (zQv X G Q) 5 8 [(0, .ref (gad G 73)), (1, .int (zI v1)), (2, .int (zI v2)), (3, .int (zI v3)), (4, .int (zI v4))] [] σ := by
  intro n
  induction n with
  | zero => intro v4 r4 h; exact False.elim h
  | succ n ih =>
    intro v4 r4 h
    rw [wp_F_push_L8] at h
    refine j_iload C d_F_push_8 4 rfl ?_
    refine j_aload_n C d_F_push_10 0 rfl rfl ?_
    refine j_getr (kf := 2) (m := 76) C d_F_push_11 sh_73 rfl i_F rfl rfl fl_F_18 ?_
    refine j_iload_n C d_F_push_14 1 rfl rfl ?_
    obtain ⟨g2, h⟩ := h
    refine j_iaload C d_F_push_15 sh_76 g2 ?_
    refine j_icmp_le (tgt := 46) C d_F_push_16 rfl r4 (hσ _ _) (fun c => ?_) (fun c => ?_)
    · have h := h.1 c
      exact hk46 v4 r4 h
    · have h := h.2 c
      refine j_aload_n C d_F_push_19 0 rfl rfl ?_
      refine j_getr (kf := 1) (m := 75) C d_F_push_20 sh_73 rfl i_F rfl rfl fl_F_15 ?_
      refine j_iload_n C d_F_push_23 1 rfl rfl ?_
      refine j_iload C d_F_push_24 4 rfl ?_
      refine j_iconst C d_F_push_26 ?_
      refine j_isub C d_F_push_27 ?_
      obtain ⟨g3, h⟩ := h
      refine j_callS C d_F_push_28 ml_F_37 ms_F_cell (c_F_cell (xl X) (gD G) (gad G) (gca G) (v0 := v1) (v1 := v4 - 1) hσ r1 g3 h) rfl rfl rfl rfl rfl (fun z4 σ5 rz4 hσ5 h => ?_)
      obtain ⟨ez4, h⟩ := h; subst ez4
      obtain ⟨g6, h⟩ := h
      refine j_iaload C d_F_push_31 sh_75 g6 ?_
      refine j_sipush C d_F_push_32 rfl ?_
      obtain ⟨g7, h⟩ := h
      refine j_idiv C d_F_push_35 (hσ _ _) g7 (zR_of (x := 4096) rfl) (by decide) ?_
      refine j_iload_n C d_F_push_36 2 rfl rfl ?_
      refine j_icmp_lt (tgt := 46) C d_F_push_37 rfl (zDiv_rg (hσ _ _) g7 (zR_of (x := 4096) rfl) (by decide)) r2 (fun c => ?_) (fun c => ?_)
      · have h := h.1 c
        exact hk46 v4 r4 h
      · have h := h.2 c
        obtain ⟨g8, h⟩ := h
        refine j_iinc (L' := [(4, .int (zI (v4 + (-1)))), (0, .ref (gad G 73)), (1, .int (zI v1)), (2, .int (zI v2)), (3, .int (zI v3))]) C d_F_push_40 4 rfl rfl rfl ?_
        refine j_goto (tgt := 8) C d_F_push_43 rfl ?_
        refine j_sub (L' := [(0, .ref (gad G 73)), (1, .int (zI v1)), (2, .int (zI v2)), (3, .int (zI v3)), (4, .int (zI (v4 + (-1))))]) [1, 2, 3, 4, 0] rfl ?_
        exact ih (v4 + (-1)) g8 h
set_option maxRecDepth 100000 in
set_option maxHeartbeats 4000000 in
theorem w_F_push_b46 {X : zX} {G : zG} (C : zC X G b_F_push "GateRoads$Fewest" 5 (none) 1 21) {Q : zM → Prop} (σ : zM) (v1 : Int) (v2 : Int) (v3 : Int) (v4 : Int) (hσ : zRM σ) (r1 : zR v1) (r2 : zR v2) (r3 : zR v3) (r4 : zR v4) (h : wp_F_push_b46 Q σ v1 v2 v3 v4) : zJ X G (zQv X G Q) 5 46 [(0, .ref (gad G 73)), (1, .int (zI v1)), (2, .int (zI v2)), (3, .int (zI v3)), (4, .int (zI v4))] [] σ := by
  unfold wp_F_push_b46 at h
  refine j_aload_n C d_F_push_46 0 rfl rfl ?_
  refine j_getr (kf := 1) (m := 75) C d_F_push_47 sh_73 rfl i_F rfl rfl fl_F_15 ?_
  refine j_iload_n C d_F_push_50 1 rfl rfl ?_
  refine j_iload C d_F_push_51 4 rfl ?_
  refine j_callS C d_F_push_53 ml_F_37 ms_F_cell (c_F_cell (xl X) (gD G) (gad G) (gca G) (v0 := v1) (v1 := v4) hσ r1 r4 h) rfl rfl rfl rfl rfl (fun z10 σ11 rz10 hσ11 h => ?_)
  obtain ⟨ez10, h⟩ := h; subst ez10
  refine j_iload_n C d_F_push_56 2 rfl rfl ?_
  refine j_sipush C d_F_push_57 rfl ?_
  refine j_imul C d_F_push_60 ?_
  refine j_iload_n C d_F_push_61 3 rfl rfl ?_
  refine j_iadd C d_F_push_62 ?_
  obtain ⟨g12, h⟩ := h
  obtain ⟨g13, h⟩ := h
  refine j_iastore C d_F_push_63 sh_75 g12 ?_
  refine j_mem (fun σ14 eσ14 => ?_)
  have h := h σ14 eσ14
  have hσ14 : zRM σ14 := by rw [eσ14]; exact zU_rg hσ _ _ g13
  refine j_aload_n C d_F_push_64 0 rfl rfl ?_
  refine j_getr (kf := 3) (m := 77) C d_F_push_65 sh_73 rfl i_F rfl rfl fl_F_21 ?_
  refine j_iload_n C d_F_push_68 1 rfl rfl ?_
  refine j_iload C d_F_push_69 4 rfl ?_
  refine j_iconst C d_F_push_71 ?_
  refine j_iadd C d_F_push_72 ?_
  obtain ⟨g15, h⟩ := h
  obtain ⟨g16, h⟩ := h
  refine j_iastore C d_F_push_73 sh_77 g15 ?_
  refine j_mem (fun σ17 eσ17 => ?_)
  have h := h σ17 eσ17
  have hσ17 : zRM σ17 := by rw [eσ17]; exact zU_rg hσ14 _ _ g16
  exact j_vreturn C d_F_push_74 hσ17 h
set_option maxRecDepth 100000 in
set_option maxHeartbeats 4000000 in
theorem c_F_push (l : Launch) (D : va_G) (ad : Nat → Nat) (ca : Nat → ClassId) {σ : zM} {v1 : Int} {v2 : Int} {v3 : Int} {Q : zM → Prop} (hσ : zRM σ) (r1 : zR v1) (r2 : zR v2) (r3 : zR v3) (h : wp_F_push σ v1 v2 v3 Q) : zCv l D ad ca y_F_push b_F_push 5 (zrm 1 21) [.ref (ad 73), .int (zI v1), .int (zI v2), .int (zI v3)] σ Q := by
  refine zCv_of (by decide +kernel) (Nat.le_of_ble_eq_true rfl) ?_
  intro X G C hl hD had hca
  subst hl hD had hca
  have C : zC X G b_F_push "GateRoads$Fewest" 5 (none) 1 21 := C
  show zJ X G (zQv X G Q) 5 0 [(0, .ref (gad G 73)), (1, .int (zI v1)), (2, .int (zI v2)), (3, .int (zI v3))] [] σ
  unfold wp_F_push at h
  refine j_aload_n C d_F_push_0 0 rfl rfl ?_
  refine j_getr (kf := 3) (m := 77) C d_F_push_1 sh_73 rfl i_F rfl rfl fl_F_21 ?_
  refine j_iload_n C d_F_push_4 1 rfl rfl ?_
  obtain ⟨g1, h⟩ := h
  refine j_iaload C d_F_push_5 sh_77 g1 ?_
  refine j_istore (L' := [(4, .int (zI (σ 77 v1))), (0, .ref (gad G 73)), (1, .int (zI v1)), (2, .int (zI v2)), (3, .int (zI v3))]) C d_F_push_6 rfl rfl ?_
  obtain ⟨n18, h⟩ := h
  refine j_sub (L' := [(0, .ref (gad G 73)), (1, .int (zI v1)), (2, .int (zI v2)), (3, .int (zI v3)), (4, .int (zI (σ 77 v1)))]) [1, 2, 3, 4, 0] rfl ?_
  refine w_F_push_L8 C hσ r1 r2 r3 ?_ n18 (σ 77 v1) (hσ _ _) h
  · intro u9 ru9 h
    refine w_F_push_b46 C σ v1 v2 v3 u9 hσ r1 r2 r3 ru9 h
set_option maxRecDepth 100000 in
set_option maxHeartbeats 4000000 in
theorem c_F_start (l : Launch) (D : va_G) (ad : Nat → Nat) (ca : Nat → ClassId) {σ : zM} {v1 : Int} {v2 : Int} {Q : zM → Prop} (hσ : zRM σ) (r1 : zR v1) (r2 : zR v2) (h : wp_F_start σ v1 v2 Q) : zCv l D ad ca y_F_start b_F_start 3 (zrm 2 45) [.ref (ad 73), .int (zI v1), .int (zI v2)] σ Q := by
  refine zCv_of (by decide +kernel) (Nat.le_of_ble_eq_true rfl) ?_
  intro X G C hl hD had hca
  subst hl hD had hca
  have C : zC X G b_F_start "GateRoads$Fewest" 3 (none) 2 45 := C
  show zJ X G (zQv X G Q) 3 0 [(0, .ref (gad G 73)), (1, .int (zI v1)), (2, .int (zI v2))] [] σ
  unfold wp_F_start at h
  refine j_aload_n C d_F_start_0 0 rfl rfl ?_
  refine j_getr (kf := 0) (m := 74) C d_F_start_1 sh_73 rfl i_F rfl rfl fl_F_9 ?_
  refine j_iconst C d_F_start_4 ?_
  refine j_callSv C d_F_start_5 ml_F_27 ms_Ar_fill_0 (c_Ar_fill_0 (xl X) (gD G) (gad G) (gca G) hσ sh_74 (zR_of (x := 0) rfl)) rfl rfl rfl rfl rfl (fun σ1 hσ1 eσ1 => ?_)
  have h := h σ1 eσ1
  refine j_aload_n C d_F_start_8 0 rfl rfl ?_
  refine j_getr (kf := 2) (m := 76) C d_F_start_9 sh_73 rfl i_F rfl rfl fl_F_18 ?_
  refine j_iconst C d_F_start_12 ?_
  refine j_callSv C d_F_start_13 ml_F_27 ms_Ar_fill_0 (c_Ar_fill_0 (xl X) (gD G) (gad G) (gca G) hσ1 sh_76 (zR_of (x := 0) rfl)) rfl rfl rfl rfl rfl (fun σ2 hσ2 eσ2 => ?_)
  have h := h σ2 eσ2
  refine j_aload_n C d_F_start_16 0 rfl rfl ?_
  refine j_getr (kf := 3) (m := 77) C d_F_start_17 sh_73 rfl i_F rfl rfl fl_F_21 ?_
  refine j_iconst C d_F_start_20 ?_
  refine j_callSv C d_F_start_21 ml_F_27 ms_Ar_fill_0 (c_Ar_fill_0 (xl X) (gD G) (gad G) (gca G) hσ2 sh_77 (zR_of (x := 0) rfl)) rfl rfl rfl rfl rfl (fun σ3 hσ3 eσ3 => ?_)
  have h := h σ3 eσ3
  refine j_aload_n C d_F_start_24 0 rfl rfl ?_
  refine j_iload_n C d_F_start_25 1 rfl rfl ?_
  refine j_iconst C d_F_start_26 ?_
  refine j_iload_n C d_F_start_27 2 rfl rfl ?_
  refine j_callVv C d_F_start_28 ml_F_33 mi_F_push (c_F_push (xl X) (gD G) (gad G) (gca G) (v1 := v1) (v2 := 0) (v3 := v2) hσ3 r1 (zR_of (x := 0) rfl) r2 h) sh_73 rfl rfl rfl rfl rfl rfl rfl (fun σ5 hσ5 h => ?_)
  exact j_vreturn C d_F_start_31 hσ5 h
set_option maxRecDepth 100000 in
set_option maxHeartbeats 4000000 in
theorem w_F_bestAt_L7 {X : zX} {G : zG} (C : zC X G b_F_bestAt "GateRoads$Fewest" 4 (some .int) 1 21) {σ : zM} {v1 : Int} {v2 : Int} (hσ : zRM σ) (r1 : zR v1) (r2 : zR v2) {Q : Int → zM → Prop} {k41 : Int → Prop} (hk41 : ∀ (v3 : Int), zR v3 → k41 v3 → zJ X G (zQi X G Q) 4 41 [(0, .ref (gad G 73)), (1, .int (zI v1)), (3, .int (zI v3))] [] σ) : ∀ (n : Nat) (v3 : Int) (r3 : zR v3), wp_F_bestAt_L7 σ v1 v2 k41 Q n v3 → zJ X G (zQi X G Q) 4 7 [(0, .ref (gad G 73)), (1, .int (zI v1)), (2, .int (zI v2)), (3, .int (zI v3))] [] σ := by
  intro n
  induction n with
  | zero => intro v3 r3 h; exact False.elim h
  | succ n ih =>
    intro v3 r3 h
    rw [wp_F_bestAt_L7] at h
    refine j_iload_n C d_F_bestAt_7 3 rfl rfl ?_
    refine j_aload_n C d_F_bestAt_8 0 rfl rfl ?_
    refine j_getr (kf := 3) (m := 77) C d_F_bestAt_9 sh_73 rfl i_F rfl rfl fl_F_21 ?_
    refine j_iload_n C d_F_bestAt_12 1 rfl rfl ?_
    obtain ⟨g2, h⟩ := h
    refine j_iaload C d_F_bestAt_13 sh_77 g2 ?_
    refine j_icmp_ge (tgt := 41) C d_F_bestAt_14 rfl r3 (hσ _ _) (fun c => ?_) (fun c => ?_)
    · have h := h.1 c
      refine j_sub (L' := [(0, .ref (gad G 73)), (1, .int (zI v1)), (3, .int (zI v3))]) [0, 1, 3] rfl ?_
      exact hk41 v3 r3 h
    · have h := h.2 c
      refine j_aload_n C d_F_bestAt_17 0 rfl rfl ?_
      refine j_getr (kf := 1) (m := 75) C d_F_bestAt_18 sh_73 rfl i_F rfl rfl fl_F_15 ?_
      refine j_iload_n C d_F_bestAt_21 1 rfl rfl ?_
      refine j_iload_n C d_F_bestAt_22 3 rfl rfl ?_
      refine j_callS C d_F_bestAt_23 ml_F_37 ms_F_cell (c_F_cell (xl X) (gD G) (gad G) (gca G) (v0 := v1) (v1 := v3) hσ r1 r3 h) rfl rfl rfl rfl rfl (fun z3 σ4 rz3 hσ4 h => ?_)
      obtain ⟨ez3, h⟩ := h; subst ez3
      obtain ⟨g5, h⟩ := h
      refine j_iaload C d_F_bestAt_26 sh_75 g5 ?_
      refine j_sipush C d_F_bestAt_27 rfl ?_
      obtain ⟨g6, h⟩ := h
      refine j_irem C d_F_bestAt_30 (hσ _ _) g6 (zR_of (x := 4096) rfl) (by decide) ?_
      refine j_iload_n C d_F_bestAt_31 2 rfl rfl ?_
      refine j_icmp_ge (tgt := 41) C d_F_bestAt_32 rfl (zMod_rg (hσ _ _) g6 (zR_of (x := 4096) rfl) (by decide)) r2 (fun c => ?_) (fun c => ?_)
      · have h := h.1 c
        refine j_sub (L' := [(0, .ref (gad G 73)), (1, .int (zI v1)), (3, .int (zI v3))]) [0, 1, 3] rfl ?_
        exact hk41 v3 r3 h
      · have h := h.2 c
        obtain ⟨g7, h⟩ := h
        refine j_iinc (L' := [(3, .int (zI (v3 + 1))), (0, .ref (gad G 73)), (1, .int (zI v1)), (2, .int (zI v2))]) C d_F_bestAt_35 3 rfl rfl rfl ?_
        refine j_goto (tgt := 7) C d_F_bestAt_38 rfl ?_
        refine j_sub (L' := [(0, .ref (gad G 73)), (1, .int (zI v1)), (2, .int (zI v2)), (3, .int (zI (v3 + 1)))]) [1, 2, 3, 0] rfl ?_
        exact ih (v3 + 1) g7 h
set_option maxRecDepth 100000 in
set_option maxHeartbeats 4000000 in
theorem w_F_bestAt_b41 {X : zX} {G : zG} (C : zC X G b_F_bestAt "GateRoads$Fewest" 4 (some .int) 1 21) {Q : Int → zM → Prop} (σ : zM) (v1 : Int) (v3 : Int) (hσ : zRM σ) (r1 : zR v1) (r3 : zR v3) (h : wp_F_bestAt_b41 Q σ v1 v3) : zJ X G (zQi X G Q) 4 41 [(0, .ref (gad G 73)), (1, .int (zI v1)), (3, .int (zI v3))] [] σ := by
  unfold wp_F_bestAt_b41 at h
  refine j_aload_n C d_F_bestAt_41 0 rfl rfl ?_
  refine j_getr (kf := 2) (m := 76) C d_F_bestAt_42 sh_73 rfl i_F rfl rfl fl_F_18 ?_
  refine j_iload_n C d_F_bestAt_45 1 rfl rfl ?_
  refine j_iload_n C d_F_bestAt_46 2 rfl rfl ?_
  obtain ⟨g9, h⟩ := h
  refine j_iastore C d_F_bestAt_47 sh_76 g9 ?_
  refine j_mem (fun σ10 eσ10 => ?_)
  have h := h σ10 eσ10
  have hσ10 : zRM σ10 := by rw [eσ10]; exact zU_rg hσ _ _ r3
  refine j_iload_n C d_F_bestAt_48 2 rfl rfl ?_
  refine j_aload_n C d_F_bestAt_49 0 rfl rfl ?_
  refine j_getr (kf := 3) (m := 77) C d_F_bestAt_50 sh_73 rfl i_F rfl rfl fl_F_21 ?_
  refine j_iload_n C d_F_bestAt_53 1 rfl rfl ?_
  obtain ⟨g11, h⟩ := h
  refine j_iaload C d_F_bestAt_54 sh_77 g11 ?_
  refine j_icmp_ge (tgt := 75) C d_F_bestAt_55 rfl r3 (hσ10 _ _) (fun c => ?_) (fun c => ?_)
  · have h := h.1 c
    refine j_bipush C d_F_bestAt_75 rfl ?_
    exact j_ireturn C d_F_bestAt_77 (zR_of (x := (-6)) rfl) hσ10 h
  · have h := h.2 c
    refine j_aload_n C d_F_bestAt_58 0 rfl rfl ?_
    refine j_getr (kf := 1) (m := 75) C d_F_bestAt_59 sh_73 rfl i_F rfl rfl fl_F_15 ?_
    refine j_iload_n C d_F_bestAt_62 1 rfl rfl ?_
    refine j_iload_n C d_F_bestAt_63 2 rfl rfl ?_
    refine j_callS C d_F_bestAt_64 ml_F_37 ms_F_cell (c_F_cell (xl X) (gD G) (gad G) (gca G) (v0 := v1) (v1 := v3) hσ10 r1 r3 h) rfl rfl rfl rfl rfl (fun z12 σ13 rz12 hσ13 h => ?_)
    obtain ⟨ez12, h⟩ := h; subst ez12
    obtain ⟨g14, h⟩ := h
    refine j_iaload C d_F_bestAt_67 sh_75 g14 ?_
    refine j_sipush C d_F_bestAt_68 rfl ?_
    obtain ⟨g15, h⟩ := h
    refine j_idiv C d_F_bestAt_71 (hσ10 _ _) g15 (zR_of (x := 4096) rfl) (by decide) ?_
    refine j_goto (tgt := 77) C d_F_bestAt_72 rfl ?_
    exact j_ireturn C d_F_bestAt_77 (zDiv_rg (hσ10 _ _) g15 (zR_of (x := 4096) rfl) (by decide)) hσ10 h
set_option maxRecDepth 100000 in
set_option maxHeartbeats 4000000 in
theorem c_F_bestAt (l : Launch) (D : va_G) (ad : Nat → Nat) (ca : Nat → ClassId) {σ : zM} {v1 : Int} {v2 : Int} {Q : Int → zM → Prop} (hσ : zRM σ) (r1 : zR v1) (r2 : zR v2) (h : wp_F_bestAt σ v1 v2 Q) : zCi l D ad ca y_F_bestAt b_F_bestAt 4 (some .int) (zrm 1 21) [.ref (ad 73), .int (zI v1), .int (zI v2)] σ Q := by
  refine zCi_of (by decide +kernel) (Nat.le_of_ble_eq_true rfl) ?_
  intro X G C hl hD had hca
  subst hl hD had hca
  have C : zC X G b_F_bestAt "GateRoads$Fewest" 4 (some .int) 1 21 := C
  show zJ X G (zQi X G Q) 4 0 [(0, .ref (gad G 73)), (1, .int (zI v1)), (2, .int (zI v2))] [] σ
  unfold wp_F_bestAt at h
  refine j_aload_n C d_F_bestAt_0 0 rfl rfl ?_
  refine j_getr (kf := 2) (m := 76) C d_F_bestAt_1 sh_73 rfl i_F rfl rfl fl_F_18 ?_
  refine j_iload_n C d_F_bestAt_4 1 rfl rfl ?_
  obtain ⟨g1, h⟩ := h
  refine j_iaload C d_F_bestAt_5 sh_76 g1 ?_
  refine j_istore_n (L' := [(3, .int (zI (σ 76 v1))), (0, .ref (gad G 73)), (1, .int (zI v1)), (2, .int (zI v2))]) C d_F_bestAt_6 rfl rfl rfl ?_
  obtain ⟨n16, h⟩ := h
  refine j_sub (L' := [(0, .ref (gad G 73)), (1, .int (zI v1)), (2, .int (zI v2)), (3, .int (zI (σ 76 v1)))]) [1, 2, 3, 0] rfl ?_
  refine w_F_bestAt_L7 C hσ r1 r2 ?_ n16 (σ 76 v1) (hσ _ _) h
  · intro u8 ru8 h
    refine w_F_bestAt_b41 C σ v1 u8 hσ r1 ru8 h
set_option maxRecDepth 100000 in
set_option maxHeartbeats 4000000 in
theorem w_F_leave_b62 {X : zX} {G : zG} (C : zC X G b_F_leave "GateRoads$Fewest" 6 (none) 1 22) {Q : zM → Prop} (σ : zM) (v4 : Int) (v5 : Int) (hσ : zRM σ) (r4 : zR v4) (r5 : zR v5) (h : wp_F_leave_b62 Q σ v4 v5) : zJ X G (zQv X G Q) 6 62 [(0, .ref (gad G 73)), (4, .int (zI v4)), (5, .int (zI v5))] [] σ := by
  unfold wp_F_leave_b62 at h
  refine j_aload_n C d_F_leave_62 0 rfl rfl ?_
  refine j_getr (kf := 0) (m := 74) C d_F_leave_63 sh_73 rfl i_F rfl rfl fl_F_9 ?_
  refine j_iload C d_F_leave_66 2 rfl ?_
  refine j_iload C d_F_leave_68 1 rfl ?_
  obtain ⟨g13, h⟩ := h
  refine j_iastore C d_F_leave_70 sh_74 g13 ?_
  refine j_mem (fun σ14 eσ14 => ?_)
  have h := h σ14 eσ14
  have hσ14 : zRM σ14 := by rw [eσ14]; exact zU_rg hσ _ _ r4
  exact j_vreturn C d_F_leave_71 hσ14 h
set_option maxRecDepth 100000 in
set_option maxHeartbeats 4000000 in
theorem c_F_leave (l : Launch) (D : va_G) (ad : Nat → Nat) (ca : Nat → ClassId) {σ : zM} {v2 : Int} {v3 : Int} {Q : zM → Prop} (hσ : zRM σ) (r2 : zR v2) (r3 : zR v3) (h : wp_F_leave σ v2 v3 Q) : zCv l D ad ca y_F_leave b_F_leave 6 (zrm 1 22) [.ref (ad 73), .ref (ad 0), .int (zI v2), .int (zI v3)] σ Q := by
  refine zCv_of (by decide +kernel) (Nat.le_of_ble_eq_true rfl) ?_
  intro X G C hl hD had hca
  subst hl hD had hca
  have C : zC X G b_F_leave "GateRoads$Fewest" 6 (none) 1 22 := C
  show zJ X G (zQv X G Q) 6 0 [(0, .ref (gad G 73)), (1, .ref (gad G 0)), (2, .int (zI v2)), (3, .int (zI v3))] [] σ
  unfold wp_F_leave at h
  refine j_aload_n C d_F_leave_0 0 rfl rfl ?_
  refine j_getr (kf := 4) (m := 78) C d_F_leave_1 sh_73 rfl i_F rfl rfl fl_F_24 ?_
  refine j_aload_n C d_F_leave_4 1 rfl rfl ?_
  refine j_iload_n C d_F_leave_5 2 rfl rfl ?_
  refine j_iconst C d_F_leave_6 ?_
  refine j_callV C d_F_leave_7 ml_F_61 mi_S_ofRoads (c_S_ofRoads (xl X) (gD G) (gad G) (gca G) (v1 := v2) (v2 := 0) hσ r2 (zR_of (x := 0) rfl) h) sh_0 rfl rfl rfl rfl rfl rfl rfl (fun z1 σ2 rz1 hσ2 h => ?_)
  obtain ⟨ez1, h⟩ := h; subst ez1
  obtain ⟨g3, h⟩ := h
  refine j_iaload C d_F_leave_10 sh_78 g3 ?_
  refine j_iconst C d_F_leave_11 ?_
  refine j_iadd C d_F_leave_12 ?_
  obtain ⟨g4, h⟩ := h
  refine j_istore (L' := [(4, .int (zI ((σ 78 z1) + 1))), (0, .ref (gad G 73)), (1, .ref (gad G 0)), (2, .int (zI v2)), (3, .int (zI v3))]) C d_F_leave_13 rfl rfl ?_
  refine j_iload C d_F_leave_15 0 rfl ?_
  refine j_if_gt (tgt := 21) C d_F_leave_17 rfl g4 (fun c => ?_) (fun c => ?_)
  · have h := h.1 c
    refine j_aload_n C d_F_leave_21 2 rfl rfl ?_
    refine j_iload_n C d_F_leave_22 3 rfl rfl ?_
    refine j_iconst C d_F_leave_23 ?_
    refine j_callV C d_F_leave_24 ml_F_61 mi_S_ofRoads (c_S_ofRoads (xl X) (gD G) (gad G) (gca G) (v1 := v2) (v2 := 1) hσ r2 (zR_of (x := 1) rfl) h) sh_0 rfl rfl rfl rfl rfl rfl rfl (fun z5 σ6 rz5 hσ6 h => ?_)
    obtain ⟨ez5, h⟩ := h; subst ez5
    refine j_iload_n C d_F_leave_27 4 rfl rfl ?_
    refine j_aload_n C d_F_leave_28 2 rfl rfl ?_
    refine j_iload_n C d_F_leave_29 3 rfl rfl ?_
    refine j_iconst C d_F_leave_30 ?_
    refine j_callV C d_F_leave_31 ml_F_61 mi_S_ofRoads (c_S_ofRoads (xl X) (gD G) (gad G) (gca G) (v1 := v2) (v2 := 2) hσ r2 (zR_of (x := 2) rfl) h) sh_0 rfl rfl rfl rfl rfl rfl rfl (fun z7 σ8 rz7 hσ8 h => ?_)
    obtain ⟨ez7, h⟩ := h; subst ez7
    refine j_iadd C d_F_leave_34 ?_
    obtain ⟨g9, h⟩ := h
    refine j_callS C d_F_leave_35 ml_F_37 ms_F_cell (c_F_cell (xl X) (gD G) (gad G) (gca G) (v0 := z5) (v1 := v3 + z7) hσ rz5 g9 h) rfl rfl rfl rfl rfl (fun z10 σ11 rz10 hσ11 h => ?_)
    obtain ⟨ez10, h⟩ := h; subst ez10
    refine j_istore (L' := [(5, .int (zI z10)), (4, .int (zI ((σ 78 z1) + 1))), (0, .ref (gad G 73)), (1, .ref (gad G 0)), (2, .int (zI v2)), (3, .int (zI v3))]) C d_F_leave_38 rfl rfl ?_
    refine j_aload_n C d_F_leave_40 2 rfl rfl ?_
    refine j_getr (kf := 0) (m := 74) C d_F_leave_41 sh_73 rfl i_F rfl rfl fl_F_9 ?_
    refine j_iload C d_F_leave_44 0 rfl ?_
    obtain ⟨g12, h⟩ := h
    refine j_iaload C d_F_leave_46 sh_74 g12 ?_
    refine j_if_eq (tgt := 62) C d_F_leave_47 rfl (hσ _ _) (fun c => ?_) (fun c => ?_)
    · have h := h.1 c
      refine j_sub (L' := [(0, .ref (gad G 73)), (4, .int (zI ((σ 78 z1) + 1))), (5, .int (zI z10))]) [2, 1, 0] rfl ?_
      refine w_F_leave_b62 C σ ((σ 78 z1) + 1) z10 hσ g4 rz10 h
    · have h := h.2 c
      refine j_aload_n C d_F_leave_50 2 rfl rfl ?_
      refine j_getr (kf := 0) (m := 74) C d_F_leave_51 sh_73 rfl i_F rfl rfl fl_F_9 ?_
      refine j_iload C d_F_leave_54 0 rfl ?_
      obtain ⟨g15, h⟩ := h
      refine j_iaload C d_F_leave_56 sh_74 g15 ?_
      refine j_iload C d_F_leave_57 1 rfl ?_
      refine j_icmp_le (tgt := 71) C d_F_leave_59 rfl (hσ _ _) g4 (fun c => ?_) (fun c => ?_)
      · have h := h.1 c
        exact j_vreturn C d_F_leave_71 hσ h
      · have h := h.2 c
        refine j_sub (L' := [(0, .ref (gad G 73)), (4, .int (zI ((σ 78 z1) + 1))), (5, .int (zI z10))]) [2, 1, 0] rfl ?_
        refine w_F_leave_b62 C σ ((σ 78 z1) + 1) z10 hσ g4 rz10 h
  · have h := h.2 c
    exact j_vreturn C d_F_leave_20 hσ h
set_option maxRecDepth 100000 in
set_option maxHeartbeats 4000000 in
theorem w_F_minute_b56 {X : zX} {G : zG} (C : zC X G b_F_minute "GateRoads$Fewest" 6 (none) 3 70) {v2 : Int} {v3 : Int} (r2 : zR v2) (r3 : zR v3) {Q : zM → Prop} {k3 : zM → Int → Prop} (hk3 : ∀ (σ : zM) (v4 : Int), zRM σ → zR v4 → k3 σ v4 → zJ X G (zQv X G Q) 6 3 [(0, .ref (gad G 73)), (1, .ref (gad G 0)), (2, .int (zI v2)), (3, .int (zI v3)), (4, .int (zI v4))] [] σ) (σ : zM) (v4 : Int) (hσ : zRM σ) (r4 : zR v4) (h : wp_F_minute_b56 v2 v3 k3 Q σ v4) : zJ X G (zQv X G Q) 6 56 [(0, .ref (gad G 73)), (1, .ref (gad G 0)), (2, .int (zI v2)), (3, .int (zI v3)), (4, .int (zI v4))] [] σ := by
  unfold wp_F_minute_b56 at h
  refine j_aload_n C d_F_minute_56 0 rfl rfl ?_
  refine j_getr (kf := 4) (m := 78) C d_F_minute_57 sh_73 rfl i_F rfl rfl fl_F_24 ?_
  refine j_iload C d_F_minute_60 4 rfl ?_
  refine j_aload_n C d_F_minute_62 0 rfl rfl ?_
  refine j_iload C d_F_minute_63 4 rfl ?_
  refine j_iload_n C d_F_minute_65 3 rfl rfl ?_
  refine j_callV C d_F_minute_66 ml_F_46 mi_F_bestAt (c_F_bestAt (xl X) (gD G) (gad G) (gca G) (v1 := v4) (v2 := v3) hσ r4 r3 h) sh_73 rfl rfl rfl rfl rfl rfl rfl (fun z4 σ5 rz4 hσ5 h => ?_)
  obtain ⟨g6, h⟩ := h
  refine j_iastore C d_F_minute_69 sh_78 g6 ?_
  refine j_mem (fun σ7 eσ7 => ?_)
  have h := h σ7 eσ7
  have hσ7 : zRM σ7 := by rw [eσ7]; exact zU_rg hσ5 _ _ rz4
  obtain ⟨g8, h⟩ := h
  refine j_iinc (L' := [(4, .int (zI (v4 + 1))), (0, .ref (gad G 73)), (1, .ref (gad G 0)), (2, .int (zI v2)), (3, .int (zI v3))]) C d_F_minute_70 4 rfl rfl rfl ?_
  refine j_goto (tgt := 3) C d_F_minute_73 rfl ?_
  refine j_sub (L' := [(0, .ref (gad G 73)), (1, .ref (gad G 0)), (2, .int (zI v2)), (3, .int (zI v3)), (4, .int (zI (v4 + 1)))]) [1, 2, 3, 4, 0] rfl ?_
  exact hk3 σ7 (v4 + 1) hσ7 g8 h
set_option maxRecDepth 100000 in
set_option maxHeartbeats 4000000 in
theorem w_F_minute_L3 {X : zX} {G : zG} (C : zC X G b_F_minute "GateRoads$Fewest" 6 (none) 3 70) {v2 : Int} {v3 : Int} (r2 : zR v2) (r3 : zR v3) {Q : zM → Prop} {k76 : zM → Prop} (hk76 : ∀ (σ : zM), zRM σ → k76 σ → zJ X G (zQv X G Q) 6 76 [(0, .ref (gad G 73)), (1, .ref (gad G 0)), (2, .int (zI v2)), (3, .int (zI v3))] [] σ) : ∀ (n : Nat) (σ : zM) (v4 : Int) (hσ : zRM σ) (r4 : zR v4), wp_F_minute_L3 v2 v3 k76 Q n σ v4 → zJ X G (zQv X G Q) 6 3 [(0, .ref (gad G 73)), (1, .ref (gad G 0)), (2, .int (zI v2)), (3, .int (zI v3)), (4, .int (zI v4))] [] σ := by
  intro n
  induction n with
  | zero => intro σ v4 hσ r4 h; exact False.elim h
  | succ n ih =>
    intro σ v4 hσ r4 h
    rw [wp_F_minute_L3] at h
    refine j_iload C d_F_minute_3 4 rfl ?_
    refine j_bipush C d_F_minute_5 rfl ?_
    refine j_icmp_ge (tgt := 76) C d_F_minute_7 rfl r4 (zR_of (x := 8) rfl) (fun c => ?_) (fun c => ?_)
    · have h := h.1 c
      refine j_sub (L' := [(0, .ref (gad G 73)), (1, .ref (gad G 0)), (2, .int (zI v2)), (3, .int (zI v3))]) [0, 1, 2, 3] rfl ?_
      exact hk76 σ hσ h
    · have h := h.2 c
      refine j_iload C d_F_minute_10 4 rfl ?_
      refine j_iload_n C d_F_minute_12 3 rfl rfl ?_
      refine j_callS C d_F_minute_13 ml_F_37 ms_F_cell (c_F_cell (xl X) (gD G) (gad G) (gca G) (v0 := v4) (v1 := v3) hσ r4 r3 h) rfl rfl rfl rfl rfl (fun z1 σ2 rz1 hσ2 h => ?_)
      obtain ⟨ez1, h⟩ := h; subst ez1
      refine j_istore (L' := [(5, .int (zI z1)), (0, .ref (gad G 73)), (1, .ref (gad G 0)), (2, .int (zI v2)), (3, .int (zI v3)), (4, .int (zI v4))]) C d_F_minute_16 rfl rfl ?_
      refine j_aload_n C d_F_minute_18 1 rfl rfl ?_
      refine j_getr (kf := 0) (m := 74) C d_F_minute_19 sh_73 rfl i_F rfl rfl fl_F_9 ?_
      refine j_iload C d_F_minute_22 0 rfl ?_
      obtain ⟨g3, h⟩ := h
      refine j_iaload C d_F_minute_24 sh_74 g3 ?_
      refine j_if_le (tgt := 56) C d_F_minute_25 rfl (hσ _ _) (fun c => ?_) (fun c => ?_)
      · have h := h.1 c
        refine j_sub (L' := [(0, .ref (gad G 73)), (1, .ref (gad G 0)), (2, .int (zI v2)), (3, .int (zI v3)), (4, .int (zI v4))]) [1, 2, 3, 4, 5] rfl ?_
        refine w_F_minute_b56 C r2 r3 ih σ v4 hσ r4 h
      · have h := h.2 c
        refine j_aload_n C d_F_minute_28 1 rfl rfl ?_
        refine j_iload C d_F_minute_29 5 rfl ?_
        refine j_aload_n C d_F_minute_31 1 rfl rfl ?_
        refine j_getr (kf := 0) (m := 74) C d_F_minute_32 sh_73 rfl i_F rfl rfl fl_F_9 ?_
        refine j_iload C d_F_minute_35 0 rfl ?_
        obtain ⟨g9, h⟩ := h
        refine j_iaload C d_F_minute_37 sh_74 g9 ?_
        refine j_aload_n C d_F_minute_38 2 rfl rfl ?_
        refine j_iload C d_F_minute_39 5 rfl ?_
        refine j_iload_n C d_F_minute_41 4 rfl rfl ?_
        refine j_callV C d_F_minute_42 ml_F_41 mi_S_waitEnd (c_S_waitEnd (xl X) (gD G) (gad G) (gca G) (v1 := v4) (v2 := v3) hσ r4 r3 h) sh_0 rfl rfl rfl rfl rfl rfl rfl (fun z10 σ11 rz10 hσ11 h => ?_)
        obtain ⟨ez10, h⟩ := h; subst ez10
        refine j_callVv C d_F_minute_45 ml_F_33 mi_F_push (c_F_push (xl X) (gD G) (gad G) (gca G) (v1 := v4) (v2 := σ 74 z1) (v3 := z10) hσ r4 (hσ _ _) rz10 h) sh_73 rfl rfl rfl rfl rfl rfl rfl (fun σ13 hσ13 h => ?_)
        refine j_aload_n C d_F_minute_48 1 rfl rfl ?_
        refine j_getr (kf := 0) (m := 74) C d_F_minute_49 sh_73 rfl i_F rfl rfl fl_F_9 ?_
        refine j_iload C d_F_minute_52 0 rfl ?_
        refine j_iconst C d_F_minute_54 ?_
        obtain ⟨g14, h⟩ := h
        refine j_iastore C d_F_minute_55 sh_74 g14 ?_
        refine j_mem (fun σ15 eσ15 => ?_)
        have h := h σ15 eσ15
        have hσ15 : zRM σ15 := by rw [eσ15]; exact zU_rg hσ13 _ _ (zR_of (x := 0) rfl)
        refine j_sub (L' := [(0, .ref (gad G 73)), (1, .ref (gad G 0)), (2, .int (zI v2)), (3, .int (zI v3)), (4, .int (zI v4))]) [1, 2, 3, 4, 5] rfl ?_
        refine w_F_minute_b56 C r2 r3 ih σ15 v4 hσ15 r4 h
set_option maxRecDepth 100000 in
set_option maxHeartbeats 4000000 in
theorem w_F_minute_b105 {X : zX} {G : zG} (C : zC X G b_F_minute "GateRoads$Fewest" 6 (none) 3 70) {v2 : Int} {v3 : Int} (r2 : zR v2) (r3 : zR v3) {Q : zM → Prop} {k79 : zM → Int → Prop} (hk79 : ∀ (σ : zM) (v4 : Int), zRM σ → zR v4 → k79 σ v4 → zJ X G (zQv X G Q) 6 79 [(0, .ref (gad G 73)), (1, .ref (gad G 0)), (2, .int (zI v2)), (3, .int (zI v3)), (4, .int (zI v4))] [] σ) (σ : zM) (v4 : Int) (hσ : zRM σ) (r4 : zR v4) (h : wp_F_minute_b105 v2 v3 k79 Q σ v4) : zJ X G (zQv X G Q) 6 105 [(0, .ref (gad G 73)), (1, .ref (gad G 0)), (2, .int (zI v2)), (3, .int (zI v3)), (4, .int (zI v4))] [] σ := by
  unfold wp_F_minute_b105 at h
  obtain ⟨g19, h⟩ := h
  refine j_iinc (L' := [(4, .int (zI (v4 + 1))), (0, .ref (gad G 73)), (1, .ref (gad G 0)), (2, .int (zI v2)), (3, .int (zI v3))]) C d_F_minute_105 4 rfl rfl rfl ?_
  refine j_goto (tgt := 79) C d_F_minute_108 rfl ?_
  refine j_sub (L' := [(0, .ref (gad G 73)), (1, .ref (gad G 0)), (2, .int (zI v2)), (3, .int (zI v3)), (4, .int (zI (v4 + 1)))]) [1, 2, 3, 4, 0] rfl ?_
  exact hk79 σ (v4 + 1) hσ g19 h
set_option maxRecDepth 100000 in
set_option maxHeartbeats 4000000 in
theorem w_F_minute_L79 {X : zX} {G : zG} (C : zC X G b_F_minute "GateRoads$Fewest" 6 (none) 3 70) {v2 : Int} {v3 : Int} (r2 : zR v2) (r3 : zR v3) {Q : zM → Prop} : ∀ (n : Nat) (σ : zM) (v4 : Int) (hσ : zRM σ) (r4 : zR v4), wp_F_minute_L79 v2 v3 Q n σ v4 → zJ X G (zQv X G Q) 6 79 [(0, .ref (gad G 73)), (1, .ref (gad G 0)), (2, .int (zI v2)), (3, .int (zI v3)), (4, .int (zI v4))] [] σ := by
  intro n
  induction n with
  | zero => intro σ v4 hσ r4 h; exact False.elim h
  | succ n ih =>
    intro σ v4 hσ r4 h
    rw [wp_F_minute_L79] at h
    refine j_iload C d_F_minute_79 4 rfl ?_
    refine j_aload_n C d_F_minute_81 1 rfl rfl ?_
    refine j_geti (kf := 5) (kI := 5) C d_F_minute_82 sh_0 rfl i_S rfl rfl rfl fl_F_49 ?_
    refine j_icmp_ge (tgt := 111) C d_F_minute_85 rfl r4 (hσ _ _) (fun c => ?_) (fun c => ?_)
    · have h := h.1 c
      exact j_vreturn C d_F_minute_111 hσ h
    · have h := h.2 c
      refine j_iload_n C d_F_minute_88 2 rfl rfl ?_
      refine j_iload C d_F_minute_89 4 rfl ?_
      refine j_callSN (host := "GateRoads") C d_F_minute_91 (by decide) ms_X_has (c_X_has (xl X) (gD G) (gad G) (gca G) (v0 := v2) (v1 := v4) hσ r2 r4 h) rfl rfl rfl rfl rfl (fun z17 σ18 rz17 hσ18 h => ?_)
      obtain ⟨ez17, h⟩ := h; subst ez17
      refine j_if_eq (tgt := 105) C d_F_minute_94 rfl rz17 (fun c => ?_) (fun c => ?_)
      · have h := h.1 c
        refine w_F_minute_b105 C r2 r3 ih σ v4 hσ r4 h
      · have h := h.2 c
        refine j_aload_n C d_F_minute_97 0 rfl rfl ?_
        refine j_aload_n C d_F_minute_98 1 rfl rfl ?_
        refine j_iload C d_F_minute_99 4 rfl ?_
        refine j_iload_n C d_F_minute_101 3 rfl rfl ?_
        refine j_callVv C d_F_minute_102 ml_F_57 mi_F_leave (c_F_leave (xl X) (gD G) (gad G) (gca G) (v2 := v4) (v3 := v3) hσ r4 r3 h) sh_73 rfl rfl rfl rfl rfl rfl rfl (fun σ21 hσ21 h => ?_)
        refine w_F_minute_b105 C r2 r3 ih σ21 v4 hσ21 r4 h
set_option maxRecDepth 100000 in
set_option maxHeartbeats 4000000 in
theorem c_F_minute (l : Launch) (D : va_G) (ad : Nat → Nat) (ca : Nat → ClassId) {σ : zM} {v2 : Int} {v3 : Int} {Q : zM → Prop} (hσ : zRM σ) (r2 : zR v2) (r3 : zR v3) (h : wp_F_minute σ v2 v3 Q) : zCv l D ad ca y_F_minute b_F_minute 6 (zrm 3 70) [.ref (ad 73), .ref (ad 0), .int (zI v2), .int (zI v3)] σ Q := by
  refine zCv_of (by decide +kernel) (Nat.le_of_ble_eq_true rfl) ?_
  intro X G C hl hD had hca
  subst hl hD had hca
  have C : zC X G b_F_minute "GateRoads$Fewest" 6 (none) 3 70 := C
  show zJ X G (zQv X G Q) 6 0 [(0, .ref (gad G 73)), (1, .ref (gad G 0)), (2, .int (zI v2)), (3, .int (zI v3))] [] σ
  unfold wp_F_minute at h
  refine j_iconst C d_F_minute_0 ?_
  refine j_istore (L' := [(4, .int (zI 0)), (0, .ref (gad G 73)), (1, .ref (gad G 0)), (2, .int (zI v2)), (3, .int (zI v3))]) C d_F_minute_1 rfl rfl ?_
  obtain ⟨n23, h⟩ := h
  refine j_sub (L' := [(0, .ref (gad G 73)), (1, .ref (gad G 0)), (2, .int (zI v2)), (3, .int (zI v3)), (4, .int (zI 0))]) [1, 2, 3, 4, 0] rfl ?_
  refine w_F_minute_L3 C r2 r3 ?_ n23 σ 0 hσ (zR_of (x := 0) rfl) h
  · intro σ16 hσ16 h
    refine j_iconst C d_F_minute_76 ?_
    refine j_istore (L' := [(4, .int (zI 0)), (0, .ref (gad G 73)), (1, .ref (gad G 0)), (2, .int (zI v2)), (3, .int (zI v3))]) C d_F_minute_77 rfl rfl ?_
    obtain ⟨n22, h⟩ := h
    refine j_sub (L' := [(0, .ref (gad G 73)), (1, .ref (gad G 0)), (2, .int (zI v2)), (3, .int (zI v3)), (4, .int (zI 0))]) [1, 2, 3, 4, 0] rfl ?_
    refine w_F_minute_L79 C r2 r3 n22 σ16 0 hσ16 (zR_of (x := 0) rfl) h
set_option maxRecDepth 100000 in
set_option maxHeartbeats 4000000 in
theorem c_F_comingTo (l : Launch) (D : va_G) (ad : Nat → Nat) (ca : Nat → ClassId) {σ : zM} {v1 : Int} {v2 : Int} {Q : Int → Prop} (hσ : zRM σ) (r1 : zR v1) (r2 : zR v2) (h : wp_F_comingTo σ v1 v2 Q) : zCi l D ad ca y_F_comingTo b_F_comingTo 3 (some .int) (zrm 1 21) [.ref (ad 73), .int (zI v1), .int (zI v2)] σ (fun z u => σ = u ∧ Q z) := by
  refine zCi_of (by decide +kernel) (Nat.le_of_ble_eq_true rfl) ?_
  intro X G C hl hD had hca
  subst hl hD had hca
  have C : zC X G b_F_comingTo "GateRoads$Fewest" 3 (some .int) 1 21 := C
  show zJ X G (zQi X G (fun z u => σ = u ∧ Q z)) 3 0 [(0, .ref (gad G 73)), (1, .int (zI v1)), (2, .int (zI v2))] [] σ
  unfold wp_F_comingTo at h
  refine j_aload_n C d_F_comingTo_0 0 rfl rfl ?_
  refine j_getr (kf := 0) (m := 74) C d_F_comingTo_1 sh_73 rfl i_F rfl rfl fl_F_9 ?_
  refine j_iload_n C d_F_comingTo_4 1 rfl rfl ?_
  refine j_iload_n C d_F_comingTo_5 2 rfl rfl ?_
  refine j_callS C d_F_comingTo_6 ml_F_37 ms_F_cell (c_F_cell (xl X) (gD G) (gad G) (gca G) (v0 := v1) (v1 := v2) hσ r1 r2 h) rfl rfl rfl rfl rfl (fun z1 σ2 rz1 hσ2 h => ?_)
  obtain ⟨ez1, h⟩ := h; subst ez1
  obtain ⟨g3, h⟩ := h
  refine j_iaload C d_F_comingTo_9 sh_74 g3 ?_
  exact j_ireturn C d_F_comingTo_10 (hσ _ _) hσ ⟨rfl, h⟩
set_option maxRecDepth 100000 in
set_option maxHeartbeats 4000000 in
theorem w_X_fewestRoads_L20 {X : zX} {G : zG} (C : zC X G b_X_fewestRoads "GateRoads" 6 (some .int) 4 95) {v2 : Int} {v4 : Int} (r2 : zR v2) (r4 : zR v4) {Q : Int → zM → Prop} : ∀ (n : Nat) (σ : zM) (v5 : Int) (hσ : zRM σ) (r5 : zR v5), wp_X_fewestRoads_L20 v2 v4 Q n σ v5 → zJ X G (zQi X G Q) 6 20 [(0, .ref (gad G 54)), (2, .int (zI v2)), (4, .int (zI v4)), (5, .int (zI v5))] [] σ := by
  intro n
  induction n with
  | zero => intro σ v5 hσ r5 h; exact False.elim h
  | succ n ih =>
    intro σ v5 hσ r5 h
    rw [wp_X_fewestRoads_L20] at h
    refine j_iload C d_X_fewestRoads_20 3 rfl ?_
    refine j_iload C d_X_fewestRoads_22 2 rfl ?_
    refine j_icmp_ge (tgt := 55) C d_X_fewestRoads_24 rfl r5 r4 (fun c => ?_) (fun c => ?_)
    · have h := h.1 c
      refine j_aload_n C d_X_fewestRoads_55 0 rfl rfl ?_
      refine j_getr (kf := 12) (m := 73) C d_X_fewestRoads_56 sh_54 rfl i_X rfl rfl fl_X_61 ?_
      refine j_iload_n C d_X_fewestRoads_59 1 rfl rfl ?_
      refine j_iload C d_X_fewestRoads_60 2 rfl ?_
      refine j_callV C d_X_fewestRoads_62 ml_X_292 mi_F_comingTo (c_F_comingTo (xl X) (gD G) (gad G) (gca G) (v1 := v2) (v2 := v4) hσ r2 r4 h) sh_73 rfl rfl rfl rfl rfl rfl rfl (fun z5 σ6 rz5 hσ6 h => ?_)
      obtain ⟨ez5, h⟩ := h; subst ez5
      exact j_ireturn C d_X_fewestRoads_65 rz5 hσ h
    · have h := h.2 c
      refine j_aload_n C d_X_fewestRoads_27 0 rfl rfl ?_
      refine j_getr (kf := 12) (m := 73) C d_X_fewestRoads_28 sh_54 rfl i_X rfl rfl fl_X_61 ?_
      refine j_aload_n C d_X_fewestRoads_31 0 rfl rfl ?_
      refine j_getr (kf := 0) (m := 0) C d_X_fewestRoads_32 sh_54 rfl i_X rfl rfl fl_X_12 ?_
      refine j_aload_n C d_X_fewestRoads_35 0 rfl rfl ?_
      refine j_getr (kf := 8) (m := 62) C d_X_fewestRoads_36 sh_54 rfl i_X rfl rfl fl_X_37 ?_
      refine j_iload C d_X_fewestRoads_39 3 rfl ?_
      refine j_callV C d_X_fewestRoads_41 ml_X_190 mi_G_at (c_G_at (xl X) (gD G) (gad G) (gca G) (v1 := v5) hσ r5 h) sh_62 rfl rfl rfl rfl rfl rfl rfl (fun z7 σ8 rz7 hσ8 h => ?_)
      obtain ⟨ez7, h⟩ := h; subst ez7
      refine j_iload C d_X_fewestRoads_44 3 rfl ?_
      refine j_callVv C d_X_fewestRoads_46 ml_X_291 mi_F_minute (c_F_minute (xl X) (gD G) (gad G) (gca G) (v2 := z7) (v3 := v5) hσ rz7 r5 h) sh_73 rfl rfl rfl rfl rfl rfl rfl (fun σ10 hσ10 h => ?_)
      obtain ⟨g11, h⟩ := h
      refine j_iinc (L' := [(5, .int (zI (v5 + 1))), (0, .ref (gad G 54)), (2, .int (zI v2)), (4, .int (zI v4))]) C d_X_fewestRoads_49 3 rfl rfl rfl ?_
      refine j_goto (tgt := 20) C d_X_fewestRoads_52 rfl ?_
      refine j_sub (L' := [(0, .ref (gad G 54)), (2, .int (zI v2)), (4, .int (zI v4)), (5, .int (zI (v5 + 1)))]) [1, 2, 3, 0] rfl ?_
      exact ih σ10 (v5 + 1) hσ10 g11 h
set_option maxRecDepth 100000 in
set_option maxHeartbeats 4000000 in
theorem c_X_fewestRoads (l : Launch) (D : va_G) (ad : Nat → Nat) (ca : Nat → ClassId) {σ : zM} {v1 : Int} {v2 : Int} {v3 : Int} {v4 : Int} {Q : Int → zM → Prop} (hσ : zRM σ) (r1 : zR v1) (r2 : zR v2) (r3 : zR v3) (r4 : zR v4) (h : wp_X_fewestRoads σ v1 v2 v3 v4 Q) : zCi l D ad ca y_X_fewestRoads b_X_fewestRoads 6 (some .int) (zrm 4 95) [.ref (ad 54), .int (zI v1), .int (zI v2), .int (zI v3), .int (zI v4)] σ Q := by
  refine zCi_of (by decide +kernel) (Nat.le_of_ble_eq_true rfl) ?_
  intro X G C hl hD had hca
  subst hl hD had hca
  have C : zC X G b_X_fewestRoads "GateRoads" 6 (some .int) 4 95 := C
  show zJ X G (zQi X G Q) 6 0 [(0, .ref (gad G 54)), (1, .int (zI v1)), (2, .int (zI v2)), (3, .int (zI v3)), (4, .int (zI v4))] [] σ
  unfold wp_X_fewestRoads at h
  refine j_aload_n C d_X_fewestRoads_0 0 rfl rfl ?_
  refine j_getr (kf := 12) (m := 73) C d_X_fewestRoads_1 sh_54 rfl i_X rfl rfl fl_X_61 ?_
  refine j_iload_n C d_X_fewestRoads_4 1 rfl rfl ?_
  refine j_aload_n C d_X_fewestRoads_5 0 rfl rfl ?_
  refine j_getr (kf := 0) (m := 0) C d_X_fewestRoads_6 sh_54 rfl i_X rfl rfl fl_X_12 ?_
  refine j_iload_n C d_X_fewestRoads_9 1 rfl rfl ?_
  refine j_iload_n C d_X_fewestRoads_10 3 rfl rfl ?_
  refine j_callV C d_X_fewestRoads_11 ml_X_217 mi_S_waitEnd (c_S_waitEnd (xl X) (gD G) (gad G) (gca G) (v1 := v1) (v2 := v3) hσ r1 r3 h) sh_0 rfl rfl rfl rfl rfl rfl rfl (fun z1 σ2 rz1 hσ2 h => ?_)
  obtain ⟨ez1, h⟩ := h; subst ez1
  refine j_callVv C d_X_fewestRoads_14 ml_X_290 mi_F_start (c_F_start (xl X) (gD G) (gad G) (gca G) (v1 := v1) (v2 := z1) hσ r1 rz1 h) sh_73 rfl rfl rfl rfl rfl rfl rfl (fun σ4 hσ4 h => ?_)
  refine j_iload_n C d_X_fewestRoads_17 3 rfl rfl ?_
  refine j_istore (L' := [(5, .int (zI v3)), (0, .ref (gad G 54)), (1, .int (zI v1)), (2, .int (zI v2)), (3, .int (zI v3)), (4, .int (zI v4))]) C d_X_fewestRoads_18 rfl rfl ?_
  obtain ⟨n12, h⟩ := h
  refine j_sub (L' := [(0, .ref (gad G 54)), (2, .int (zI v2)), (4, .int (zI v4)), (5, .int (zI v3))]) [1, 3, 5, 0] rfl ?_
  refine w_X_fewestRoads_L20 C r2 r4 n12 σ4 v3 hσ4 r3 h
set_option maxRecDepth 100000 in
set_option maxHeartbeats 4000000 in
theorem w_X_lookBack_L23 {X : zX} {G : zG} (C : zC X G b_X_lookBack "GateRoads" 5 (none) 4 95) {v2 : Int} (r2 : zR v2) {Q : zM → Prop} : ∀ (n : Nat) (σ : zM) (v4 : Int) (hσ : zRM σ) (r4 : zR v4), wp_X_lookBack_L23 v2 Q n σ v4 → zJ X G (zQv X G Q) 5 23 [(0, .ref (gad G 54)), (2, .int (zI v2)), (4, .int (zI v4))] [] σ := by
  intro n
  induction n with
  | zero => intro σ v4 hσ r4 h; exact False.elim h
  | succ n ih =>
    intro σ v4 hσ r4 h
    rw [wp_X_lookBack_L23] at h
    refine j_iload C d_X_lookBack_23 2 rfl ?_
    refine j_iload_n C d_X_lookBack_25 1 rfl rfl ?_
    refine j_icmp_lt (tgt := 57) C d_X_lookBack_26 rfl r4 r2 (fun c => ?_) (fun c => ?_)
    · have h := h.1 c
      exact j_vreturn C d_X_lookBack_57 hσ h
    · have h := h.2 c
      refine j_aload_n C d_X_lookBack_29 0 rfl rfl ?_
      refine j_getr (kf := 11) (m := 70) C d_X_lookBack_30 sh_54 rfl i_X rfl rfl fl_X_54 ?_
      refine j_aload_n C d_X_lookBack_33 0 rfl rfl ?_
      refine j_getr (kf := 0) (m := 0) C d_X_lookBack_34 sh_54 rfl i_X rfl rfl fl_X_12 ?_
      refine j_aload_n C d_X_lookBack_37 0 rfl rfl ?_
      refine j_getr (kf := 8) (m := 62) C d_X_lookBack_38 sh_54 rfl i_X rfl rfl fl_X_37 ?_
      refine j_iload C d_X_lookBack_41 2 rfl ?_
      refine j_callV C d_X_lookBack_43 ml_X_190 mi_G_at (c_G_at (xl X) (gD G) (gad G) (gca G) (v1 := v4) hσ r4 h) sh_62 rfl rfl rfl rfl rfl rfl rfl (fun z5 σ6 rz5 hσ6 h => ?_)
      obtain ⟨ez5, h⟩ := h; subst ez5
      refine j_iload C d_X_lookBack_46 2 rfl ?_
      refine j_callVv C d_X_lookBack_48 ml_X_193 mi_B_minute (c_B_minute (xl X) (gD G) (gad G) (gca G) (v2 := z5) (v3 := v4) hσ rz5 r4 h) sh_70 rfl rfl rfl rfl rfl rfl rfl (fun σ8 hσ8 h => ?_)
      obtain ⟨g9, h⟩ := h
      refine j_iinc (L' := [(4, .int (zI (v4 + (-1)))), (0, .ref (gad G 54)), (2, .int (zI v2))]) C d_X_lookBack_51 2 rfl rfl rfl ?_
      refine j_goto (tgt := 23) C d_X_lookBack_54 rfl ?_
      refine j_sub (L' := [(0, .ref (gad G 54)), (2, .int (zI v2)), (4, .int (zI (v4 + (-1))))]) [1, 2, 0] rfl ?_
      exact ih σ8 (v4 + (-1)) hσ8 g9 h
set_option maxRecDepth 100000 in
set_option maxHeartbeats 4000000 in
theorem c_X_lookBack (l : Launch) (D : va_G) (ad : Nat → Nat) (ca : Nat → ClassId) {σ : zM} {v1 : Int} {v2 : Int} {v3 : Int} {Q : zM → Prop} (hσ : zRM σ) (r1 : zR v1) (r2 : zR v2) (r3 : zR v3) (h : wp_X_lookBack σ v1 v2 v3 Q) : zCv l D ad ca y_X_lookBack b_X_lookBack 5 (zrm 4 95) [.ref (ad 54), .int (zI v1), .int (zI v2), .int (zI v3)] σ Q := by
  refine zCv_of (by decide +kernel) (Nat.le_of_ble_eq_true rfl) ?_
  intro X G C hl hD had hca
  subst hl hD had hca
  have C : zC X G b_X_lookBack "GateRoads" 5 (none) 4 95 := C
  show zJ X G (zQv X G Q) 5 0 [(0, .ref (gad G 54)), (1, .int (zI v1)), (2, .int (zI v2)), (3, .int (zI v3))] [] σ
  unfold wp_X_lookBack at h
  refine j_aload_n C d_X_lookBack_0 0 rfl rfl ?_
  refine j_getr (kf := 8) (m := 62) C d_X_lookBack_1 sh_54 rfl i_X rfl rfl fl_X_37 ?_
  refine j_aload_n C d_X_lookBack_4 0 rfl rfl ?_
  refine j_getr (kf := 0) (m := 0) C d_X_lookBack_5 sh_54 rfl i_X rfl rfl fl_X_12 ?_
  refine j_callVv C d_X_lookBack_8 ml_X_183 mi_G_prepare (c_G_prepare (xl X) (gD G) (gad G) (gca G)  hσ h) sh_62 rfl rfl rfl rfl rfl rfl rfl (fun σ2 hσ2 h => ?_)
  refine j_aload_n C d_X_lookBack_11 0 rfl rfl ?_
  refine j_getr (kf := 11) (m := 70) C d_X_lookBack_12 sh_54 rfl i_X rfl rfl fl_X_54 ?_
  refine j_iload_n C d_X_lookBack_15 1 rfl rfl ?_
  refine j_iload_n C d_X_lookBack_16 3 rfl rfl ?_
  refine j_callVv C d_X_lookBack_17 ml_X_187 mi_B_start (c_B_start (xl X) (gD G) (gad G) (gca G) (v1 := v1) (v2 := v3) hσ2 r1 r3 h) sh_70 rfl rfl rfl rfl rfl rfl rfl (fun σ4 hσ4 h => ?_)
  refine j_iload_n C d_X_lookBack_20 3 rfl rfl ?_
  refine j_istore (L' := [(4, .int (zI v3)), (0, .ref (gad G 54)), (1, .int (zI v1)), (2, .int (zI v2)), (3, .int (zI v3))]) C d_X_lookBack_21 rfl rfl ?_
  obtain ⟨n10, h⟩ := h
  refine j_sub (L' := [(0, .ref (gad G 54)), (2, .int (zI v2)), (4, .int (zI v3))]) [1, 3, 0] rfl ?_
  refine w_X_lookBack_L23 C r2 n10 σ4 v3 hσ4 r3 h
set_option maxRecDepth 100000 in
set_option maxHeartbeats 4000000 in
theorem c_X_leadsOn (l : Launch) (D : va_G) (ad : Nat → Nat) (ca : Nat → ClassId) {σ : zM} {v1 : Int} {v2 : Int} {Q : Int → Prop} (hσ : zRM σ) (r1 : zR v1) (r2 : zR v2) (h : wp_X_leadsOn σ v1 v2 Q) : zCi l D ad ca y_X_leadsOn b_X_leadsOn 3 (some .boolean) (zrm 2 43) [.ref (ad 54), .int (zI v1), .int (zI v2)] σ (fun z u => σ = u ∧ Q z) := by
  refine zCi_of (by decide +kernel) (Nat.le_of_ble_eq_true rfl) ?_
  intro X G C hl hD had hca
  subst hl hD had hca
  have C : zC X G b_X_leadsOn "GateRoads" 3 (some .boolean) 2 43 := C
  show zJ X G (zQi X G (fun z u => σ = u ∧ Q z)) 3 0 [(0, .ref (gad G 54)), (1, .int (zI v1)), (2, .int (zI v2))] [] σ
  unfold wp_X_leadsOn at h
  refine j_aload_n C d_X_leadsOn_0 0 rfl rfl ?_
  refine j_getr (kf := 8) (m := 62) C d_X_leadsOn_1 sh_54 rfl i_X rfl rfl fl_X_37 ?_
  refine j_iload_n C d_X_leadsOn_4 2 rfl rfl ?_
  refine j_callV C d_X_leadsOn_5 ml_X_190 mi_G_at (c_G_at (xl X) (gD G) (gad G) (gca G) (v1 := v2) hσ r2 h) sh_62 rfl rfl rfl rfl rfl rfl rfl (fun z1 σ2 rz1 hσ2 h => ?_)
  obtain ⟨ez1, h⟩ := h; subst ez1
  refine j_iload_n C d_X_leadsOn_8 1 rfl rfl ?_
  refine j_callS C d_X_leadsOn_9 ml_X_230 ms_X_has (c_X_has (xl X) (gD G) (gad G) (gca G) (v0 := z1) (v1 := v1) hσ rz1 r1 h) rfl rfl rfl rfl rfl (fun z3 σ4 rz3 hσ4 h => ?_)
  obtain ⟨ez3, h⟩ := h; subst ez3
  refine j_if_eq (tgt := 49) C d_X_leadsOn_12 rfl rz3 (fun c => ?_) (fun c => ?_)
  · have h := h.1 c
    refine j_iconst C d_X_leadsOn_49 ?_
    exact j_zreturn C d_X_leadsOn_50 (by decide) hσ ⟨rfl, h⟩
  · have h := h.2 c
    refine j_aload_n C d_X_leadsOn_15 0 rfl rfl ?_
    refine j_getr (kf := 11) (m := 70) C d_X_leadsOn_16 sh_54 rfl i_X rfl rfl fl_X_54 ?_
    refine j_aload_n C d_X_leadsOn_19 0 rfl rfl ?_
    refine j_getr (kf := 0) (m := 0) C d_X_leadsOn_20 sh_54 rfl i_X rfl rfl fl_X_12 ?_
    refine j_iload_n C d_X_leadsOn_23 1 rfl rfl ?_
    refine j_iconst C d_X_leadsOn_24 ?_
    refine j_callV C d_X_leadsOn_25 ml_X_94 mi_S_ofRoads (c_S_ofRoads (xl X) (gD G) (gad G) (gca G) (v1 := v1) (v2 := 1) hσ r1 (zR_of (x := 1) rfl) h) sh_0 rfl rfl rfl rfl rfl rfl rfl (fun z5 σ6 rz5 hσ6 h => ?_)
    obtain ⟨ez5, h⟩ := h; subst ez5
    refine j_iload_n C d_X_leadsOn_28 2 rfl rfl ?_
    refine j_aload_n C d_X_leadsOn_29 0 rfl rfl ?_
    refine j_getr (kf := 0) (m := 0) C d_X_leadsOn_30 sh_54 rfl i_X rfl rfl fl_X_12 ?_
    refine j_iload_n C d_X_leadsOn_33 1 rfl rfl ?_
    refine j_iconst C d_X_leadsOn_34 ?_
    refine j_callV C d_X_leadsOn_35 ml_X_94 mi_S_ofRoads (c_S_ofRoads (xl X) (gD G) (gad G) (gca G) (v1 := v1) (v2 := 2) hσ r1 (zR_of (x := 2) rfl) h) sh_0 rfl rfl rfl rfl rfl rfl rfl (fun z7 σ8 rz7 hσ8 h => ?_)
    obtain ⟨ez7, h⟩ := h; subst ez7
    refine j_iadd C d_X_leadsOn_38 ?_
    obtain ⟨g9, h⟩ := h
    refine j_callV C d_X_leadsOn_39 ml_X_197 mi_B_leads (c_B_leads (xl X) (gD G) (gad G) (gca G) (v1 := z5) (v2 := v2 + z7) hσ rz5 g9 h) sh_70 rfl rfl rfl rfl rfl rfl rfl (fun z10 σ11 rz10 hσ11 h => ?_)
    obtain ⟨ez10, h⟩ := h; subst ez10
    refine j_if_eq (tgt := 49) C d_X_leadsOn_42 rfl rz10 (fun c => ?_) (fun c => ?_)
    · have h := h.1 c
      refine j_iconst C d_X_leadsOn_49 ?_
      exact j_zreturn C d_X_leadsOn_50 (by decide) hσ ⟨rfl, h⟩
    · have h := h.2 c
      refine j_iconst C d_X_leadsOn_45 ?_
      refine j_goto (tgt := 50) C d_X_leadsOn_46 rfl ?_
      exact j_zreturn C d_X_leadsOn_50 (by decide) hσ ⟨rfl, h⟩
set_option maxRecDepth 100000 in
set_option maxHeartbeats 4000000 in
theorem w_X_firstEntry_L21 {X : zX} {G : zG} (C : zC X G b_X_firstEntry "GateRoads" 5 (some .int) 3 70) {σ : zM} {v1 : Int} {v3 : Int} (hσ : zRM σ) (r1 : zR v1) (r3 : zR v3) {Q : Int → Prop} : ∀ (n : Nat) (v4 : Int) (r4 : zR v4), wp_X_firstEntry_L21 σ v1 v3 Q n v4 → zJ X G (zQi X G (fun z u => σ = u ∧ Q z)) 5 21 [(0, .ref (gad G 54)), (1, .int (zI v1)), (3, .int (zI v3)), (4, .int (zI v4))] [] σ := by
  intro n
  induction n with
  | zero => intro v4 r4 h; exact False.elim h
  | succ n ih =>
    intro v4 r4 h
    rw [wp_X_firstEntry_L21] at h
    refine j_iload C d_X_firstEntry_21 3 rfl ?_
    refine j_iload_n C d_X_firstEntry_23 2 rfl rfl ?_
    refine j_icmp_gt (tgt := 46) C d_X_firstEntry_24 rfl r4 r3 (fun c => ?_) (fun c => ?_)
    · have h := h.1 c
      refine j_bipush C d_X_firstEntry_46 rfl ?_
      exact j_ireturn C d_X_firstEntry_48 (zR_of (x := (-6)) rfl) hσ ⟨rfl, h⟩
    · have h := h.2 c
      refine j_aload_n C d_X_firstEntry_27 0 rfl rfl ?_
      refine j_iload_n C d_X_firstEntry_28 1 rfl rfl ?_
      refine j_iload C d_X_firstEntry_29 3 rfl ?_
      refine j_callV C d_X_firstEntry_31 ml_X_295 mi_X_leadsOn (c_X_leadsOn (xl X) (gD G) (gad G) (gca G) (v1 := v1) (v2 := v4) hσ r1 r4 h) sh_54 rfl rfl rfl rfl rfl rfl rfl (fun z5 σ6 rz5 hσ6 h => ?_)
      obtain ⟨ez5, h⟩ := h; subst ez5
      refine j_if_eq (tgt := 40) C d_X_firstEntry_34 rfl rz5 (fun c => ?_) (fun c => ?_)
      · have h := h.1 c
        obtain ⟨g7, h⟩ := h
        refine j_iinc (L' := [(4, .int (zI (v4 + 1))), (0, .ref (gad G 54)), (1, .int (zI v1)), (3, .int (zI v3))]) C d_X_firstEntry_40 3 rfl rfl rfl ?_
        refine j_goto (tgt := 21) C d_X_firstEntry_43 rfl ?_
        refine j_sub (L' := [(0, .ref (gad G 54)), (1, .int (zI v1)), (3, .int (zI v3)), (4, .int (zI (v4 + 1)))]) [1, 2, 3, 0] rfl ?_
        exact ih (v4 + 1) g7 h
      · have h := h.2 c
        refine j_iload C d_X_firstEntry_37 3 rfl ?_
        exact j_ireturn C d_X_firstEntry_39 r4 hσ ⟨rfl, h⟩
set_option maxRecDepth 100000 in
set_option maxHeartbeats 4000000 in
theorem c_X_firstEntry (l : Launch) (D : va_G) (ad : Nat → Nat) (ca : Nat → ClassId) {σ : zM} {v1 : Int} {v2 : Int} {Q : Int → Prop} (hσ : zRM σ) (r1 : zR v1) (r2 : zR v2) (h : wp_X_firstEntry σ v1 v2 Q) : zCi l D ad ca y_X_firstEntry b_X_firstEntry 5 (some .int) (zrm 3 70) [.ref (ad 54), .int (zI v1), .int (zI v2)] σ (fun z u => σ = u ∧ Q z) := by
  refine zCi_of (by decide +kernel) (Nat.le_of_ble_eq_true rfl) ?_
  intro X G C hl hD had hca
  subst hl hD had hca
  have C : zC X G b_X_firstEntry "GateRoads" 5 (some .int) 3 70 := C
  show zJ X G (zQi X G (fun z u => σ = u ∧ Q z)) 5 0 [(0, .ref (gad G 54)), (1, .int (zI v1)), (2, .int (zI v2))] [] σ
  unfold wp_X_firstEntry at h
  refine j_aload_n C d_X_firstEntry_0 0 rfl rfl ?_
  refine j_getr (kf := 0) (m := 0) C d_X_firstEntry_1 sh_54 rfl i_X rfl rfl fl_X_12 ?_
  refine j_aload_n C d_X_firstEntry_4 0 rfl rfl ?_
  refine j_getr (kf := 0) (m := 0) C d_X_firstEntry_5 sh_54 rfl i_X rfl rfl fl_X_12 ?_
  refine j_iload_n C d_X_firstEntry_8 1 rfl rfl ?_
  refine j_iconst C d_X_firstEntry_9 ?_
  refine j_callV C d_X_firstEntry_10 ml_X_94 mi_S_ofRoads (c_S_ofRoads (xl X) (gD G) (gad G) (gca G) (v1 := v1) (v2 := 0) hσ r1 (zR_of (x := 0) rfl) h) sh_0 rfl rfl rfl rfl rfl rfl rfl (fun z1 σ2 rz1 hσ2 h => ?_)
  obtain ⟨ez1, h⟩ := h; subst ez1
  refine j_iload_n C d_X_firstEntry_13 2 rfl rfl ?_
  refine j_callV C d_X_firstEntry_14 ml_X_217 mi_S_waitEnd (c_S_waitEnd (xl X) (gD G) (gad G) (gca G) (v1 := z1) (v2 := v2) hσ rz1 r2 h) sh_0 rfl rfl rfl rfl rfl rfl rfl (fun z3 σ4 rz3 hσ4 h => ?_)
  obtain ⟨ez3, h⟩ := h; subst ez3
  refine j_istore_n (L' := [(3, .int (zI z3)), (0, .ref (gad G 54)), (1, .int (zI v1)), (2, .int (zI v2))]) C d_X_firstEntry_17 rfl rfl rfl ?_
  refine j_iload_n C d_X_firstEntry_18 3 rfl rfl ?_
  refine j_istore (L' := [(4, .int (zI v2)), (3, .int (zI z3)), (0, .ref (gad G 54)), (1, .int (zI v1)), (2, .int (zI v2))]) C d_X_firstEntry_19 rfl rfl ?_
  obtain ⟨n8, h⟩ := h
  refine j_sub (L' := [(0, .ref (gad G 54)), (1, .int (zI v1)), (3, .int (zI z3)), (4, .int (zI v2))]) [2, 3, 1, 0] rfl ?_
  refine w_X_firstEntry_L21 C hσ r1 rz3 n8 v2 r2 h
