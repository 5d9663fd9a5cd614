set_option maxRecDepth 100000 in
set_option maxHeartbeats 4000000 in
theorem w_X_firstRoad_b39 {X : zX} {G : zG} (C : zC X G b_X_firstRoad "GateRoads" 4 (some .int) 4 94) {σ : zM} {v1 : Int} {v2 : Int} (hσ : zRM σ) (r1 : zR v1) (r2 : zR v2) {Q : Int → Prop} {k2 : Int → Prop} (hk2 : ∀ (v3 : Int), zR v3 → k2 v3 → zJ X G (zQi X G (fun z u => σ = u ∧ Q z)) 4 2 [(0, .ref (gad G 54)), (1, .int (zI v1)), (2, .int (zI v2)), (3, .int (zI v3))] [] σ) (v3 : Int) (r3 : zR v3) (h : wp_X_firstRoad_b39 σ v1 v2 k2 Q v3) : zJ X G (zQi X G (fun z u => σ = u ∧ Q z)) 4 39 [(0, .ref (gad G 54)), (1, .int (zI v1)), (2, .int (zI v2)), (3, .int (zI v3))] [] σ := by
  unfold wp_X_firstRoad_b39 at h
  obtain ⟨g3, h⟩ := h
  refine j_iinc (L' := [(3, .int (zI (v3 + 1))), (0, .ref (gad G 54)), (1, .int (zI v1)), (2, .int (zI v2))]) C d_X_firstRoad_39 3 rfl rfl rfl ?_
  refine j_goto (tgt := 2) C d_X_firstRoad_42 rfl ?_
  refine j_sub (L' := [(0, .ref (gad G 54)), (1, .int (zI v1)), (2, .int (zI v2)), (3, .int (zI (v3 + 1)))]) [1, 2, 3, 0] rfl ?_
  exact hk2 (v3 + 1) g3 h
set_option maxRecDepth 100000 in
set_option maxHeartbeats 4000000 in
theorem w_X_firstRoad_L2 {X : zX} {G : zG} (C : zC X G b_X_firstRoad "GateRoads" 4 (some .int) 4 94) {σ : zM} {v1 : Int} {v2 : Int} (hσ : zRM σ) (r1 : zR v1) (r2 : zR v2) {Q : Int → Prop} : ∀ (n : Nat) (v3 : Int) (r3 : zR v3), wp_X_firstRoad_L2 σ v1 v2 Q n v3 → zJ X G (zQi X G (fun z u => σ = u ∧ Q z)) 4 2 [(0, .ref (gad G 54)), (1, .int (zI v1)), (2, .int (zI v2)), (3, .int (zI v3))] [] σ := by
  intro n
  induction n with
  | zero => intro v3 r3 h; exact False.elim h
  | succ n ih =>
    intro v3 r3 h
    rw [wp_X_firstRoad_L2] at h
    refine j_iload_n C d_X_firstRoad_2 3 rfl rfl ?_
    refine j_aload_n C d_X_firstRoad_3 0 rfl rfl ?_
    refine j_getr (kf := 0) (m := 0) C d_X_firstRoad_4 sh_54 rfl i_X rfl rfl fl_X_12 ?_
    refine j_geti (kf := 5) (kI := 5) C d_X_firstRoad_7 sh_0 rfl i_S rfl rfl rfl fl_X_80 ?_
    refine j_icmp_ge (tgt := 45) C d_X_firstRoad_10 rfl r3 (hσ _ _) (fun c => ?_) (fun c => ?_)
    · have h := h.1 c
      refine j_bipush C d_X_firstRoad_45 rfl ?_
      exact j_ireturn C d_X_firstRoad_47 (zR_of (x := (-6)) rfl) hσ ⟨rfl, h⟩
    · have h := h.2 c
      refine j_aload_n C d_X_firstRoad_13 0 rfl rfl ?_
      refine j_getr (kf := 0) (m := 0) C d_X_firstRoad_14 sh_54 rfl i_X rfl rfl fl_X_12 ?_
      refine j_iload_n C d_X_firstRoad_17 3 rfl rfl ?_
      refine j_iconst C d_X_firstRoad_18 ?_
      refine j_callV C d_X_firstRoad_19 ml_X_94 mi_S_ofRoads (c_S_ofRoads (xl X) (gD G) (gad G) (gca G) (v1 := v3) (v2 := 0) hσ r3 (zR_of (x := 0) rfl) h) sh_0 rfl rfl rfl rfl rfl rfl rfl (fun z1 σ2 rz1 hσ2 h => ?_)
      obtain ⟨ez1, h⟩ := h; subst ez1
      refine j_iload_n C d_X_firstRoad_22 1 rfl rfl ?_
      refine j_icmp_ne (tgt := 39) C d_X_firstRoad_23 rfl rz1 r1 (fun c => ?_) (fun c => ?_)
      · have h := h.1 c
        refine w_X_firstRoad_b39 C hσ r1 r2 ih v3 r3 h
      · have h := h.2 c
        refine j_aload_n C d_X_firstRoad_26 0 rfl rfl ?_
        refine j_iload_n C d_X_firstRoad_27 3 rfl rfl ?_
        refine j_iload_n C d_X_firstRoad_28 2 rfl rfl ?_
        refine j_callV C d_X_firstRoad_29 ml_X_211 mi_X_firstEntry (c_X_firstEntry (xl X) (gD G) (gad G) (gca G) (v1 := v3) (v2 := v2) hσ r3 r2 h) sh_54 rfl rfl rfl rfl rfl rfl rfl (fun z4 σ5 rz4 hσ5 h => ?_)
        obtain ⟨ez4, h⟩ := h; subst ez4
        refine j_bipush C d_X_firstRoad_32 rfl ?_
        refine j_icmp_eq (tgt := 39) C d_X_firstRoad_34 rfl rz4 (zR_of (x := (-6)) rfl) (fun c => ?_) (fun c => ?_)
        · have h := h.1 c
          refine w_X_firstRoad_b39 C hσ r1 r2 ih v3 r3 h
        · have h := h.2 c
          refine j_iload_n C d_X_firstRoad_37 3 rfl rfl ?_
          exact j_ireturn C d_X_firstRoad_38 r3 hσ ⟨rfl, h⟩
set_option maxRecDepth 100000 in
set_option maxHeartbeats 4000000 in
theorem c_X_firstRoad (l : Launch) (D : va_G) (ad : Nat → Nat) (ca : Nat → ClassId) {σ : zM} {v1 : Int} {v2 : Int} {Q : Int → Prop} (hσ : zRM σ) (r1 : zR v1) (r2 : zR v2) (h : wp_X_firstRoad σ v1 v2 Q) : zCi l D ad ca y_X_firstRoad b_X_firstRoad 4 (some .int) (zrm 4 94) [.ref (ad 54), .int (zI v1), .int (zI v2)] σ (fun z u => σ = u ∧ Q z) := by
  refine zCi_of (by decide +kernel) (Nat.le_of_ble_eq_true rfl) ?_
  intro X G C hl hD had hca
  subst hl hD had hca
  have C : zC X G b_X_firstRoad "GateRoads" 4 (some .int) 4 94 := C
  show zJ X G (zQi X G (fun z u => σ = u ∧ Q z)) 4 0 [(0, .ref (gad G 54)), (1, .int (zI v1)), (2, .int (zI v2))] [] σ
  unfold wp_X_firstRoad at h
  refine j_iconst C d_X_firstRoad_0 ?_
  refine j_istore_n (L' := [(3, .int (zI 0)), (0, .ref (gad G 54)), (1, .int (zI v1)), (2, .int (zI v2))]) C d_X_firstRoad_1 rfl rfl rfl ?_
  obtain ⟨n6, h⟩ := h
  refine j_sub (L' := [(0, .ref (gad G 54)), (1, .int (zI v1)), (2, .int (zI v2)), (3, .int (zI 0))]) [1, 2, 3, 0] rfl ?_
  refine w_X_firstRoad_L2 C hσ r1 r2 n6 0 (zR_of (x := 0) rfl) h
set_option maxRecDepth 100000 in
set_option maxHeartbeats 4000000 in
theorem w_X_lastEntry_L21 {X : zX} {G : zG} (C : zC X G b_X_lastEntry "GateRoads" 5 (some .int) 3 70) {σ : zM} {v1 : Int} {v2 : Int} (hσ : zRM σ) (r1 : zR v1) (r2 : zR v2) {Q : Int → Prop} : ∀ (n : Nat) (v4 : Int) (r4 : zR v4), wp_X_lastEntry_L21 σ v1 v2 Q n v4 → zJ X G (zQi X G (fun z u => σ = u ∧ Q z)) 5 21 [(0, .ref (gad G 54)), (1, .int (zI v1)), (2, .int (zI v2)), (4, .int (zI v4))] [] σ := by
  intro n
  induction n with
  | zero => intro v4 r4 h; exact False.elim h
  | succ n ih =>
    intro v4 r4 h
    rw [wp_X_lastEntry_L21] at h
    refine j_iload C d_X_lastEntry_21 3 rfl ?_
    refine j_iload_n C d_X_lastEntry_23 2 rfl rfl ?_
    refine j_icmp_lt (tgt := 46) C d_X_lastEntry_24 rfl r4 r2 (fun c => ?_) (fun c => ?_)
    · have h := h.1 c
      refine j_bipush C d_X_lastEntry_46 rfl ?_
      exact j_ireturn C d_X_lastEntry_48 (zR_of (x := (-6)) rfl) hσ ⟨rfl, h⟩
    · have h := h.2 c
      refine j_aload_n C d_X_lastEntry_27 0 rfl rfl ?_
      refine j_iload_n C d_X_lastEntry_28 1 rfl rfl ?_
      refine j_iload C d_X_lastEntry_29 3 rfl ?_
      refine j_callV C d_X_lastEntry_31 ml_X_295 mi_X_leadsOn (c_X_leadsOn (xl X) (gD G) (gad G) (gca G) (v1 := v1) (v2 := v4) hσ r1 r4 h) sh_54 rfl rfl rfl rfl rfl rfl rfl (fun z5 σ6 rz5 hσ6 h => ?_)
      obtain ⟨ez5, h⟩ := h; subst ez5
      refine j_if_eq (tgt := 40) C d_X_lastEntry_34 rfl rz5 (fun c => ?_) (fun c => ?_)
      · have h := h.1 c
        obtain ⟨g7, h⟩ := h
        refine j_iinc (L' := [(4, .int (zI (v4 + (-1)))), (0, .ref (gad G 54)), (1, .int (zI v1)), (2, .int (zI v2))]) C d_X_lastEntry_40 3 rfl rfl rfl ?_
        refine j_goto (tgt := 21) C d_X_lastEntry_43 rfl ?_
        refine j_sub (L' := [(0, .ref (gad G 54)), (1, .int (zI v1)), (2, .int (zI v2)), (4, .int (zI (v4 + (-1))))]) [1, 2, 3, 0] rfl ?_
        exact ih (v4 + (-1)) g7 h
      · have h := h.2 c
        refine j_iload C d_X_lastEntry_37 3 rfl ?_
        exact j_ireturn C d_X_lastEntry_39 r4 hσ ⟨rfl, h⟩
set_option maxRecDepth 100000 in
set_option maxHeartbeats 4000000 in
theorem c_X_lastEntry (l : Launch) (D : va_G) (ad : Nat → Nat) (ca : Nat → ClassId) {σ : zM} {v1 : Int} {v2 : Int} {Q : Int → Prop} (hσ : zRM σ) (r1 : zR v1) (r2 : zR v2) (h : wp_X_lastEntry σ v1 v2 Q) : zCi l D ad ca y_X_lastEntry b_X_lastEntry 5 (some .int) (zrm 3 70) [.ref (ad 54), .int (zI v1), .int (zI v2)] σ (fun z u => σ = u ∧ Q z) := by
  refine zCi_of (by decide +kernel) (Nat.le_of_ble_eq_true rfl) ?_
  intro X G C hl hD had hca
  subst hl hD had hca
  have C : zC X G b_X_lastEntry "GateRoads" 5 (some .int) 3 70 := C
  show zJ X G (zQi X G (fun z u => σ = u ∧ Q z)) 5 0 [(0, .ref (gad G 54)), (1, .int (zI v1)), (2, .int (zI v2))] [] σ
  unfold wp_X_lastEntry at h
  refine j_aload_n C d_X_lastEntry_0 0 rfl rfl ?_
  refine j_getr (kf := 0) (m := 0) C d_X_lastEntry_1 sh_54 rfl i_X rfl rfl fl_X_12 ?_
  refine j_aload_n C d_X_lastEntry_4 0 rfl rfl ?_
  refine j_getr (kf := 0) (m := 0) C d_X_lastEntry_5 sh_54 rfl i_X rfl rfl fl_X_12 ?_
  refine j_iload_n C d_X_lastEntry_8 1 rfl rfl ?_
  refine j_iconst C d_X_lastEntry_9 ?_
  refine j_callV C d_X_lastEntry_10 ml_X_94 mi_S_ofRoads (c_S_ofRoads (xl X) (gD G) (gad G) (gca G) (v1 := v1) (v2 := 0) hσ r1 (zR_of (x := 0) rfl) h) sh_0 rfl rfl rfl rfl rfl rfl rfl (fun z1 σ2 rz1 hσ2 h => ?_)
  obtain ⟨ez1, h⟩ := h; subst ez1
  refine j_iload_n C d_X_lastEntry_13 2 rfl rfl ?_
  refine j_callV C d_X_lastEntry_14 ml_X_217 mi_S_waitEnd (c_S_waitEnd (xl X) (gD G) (gad G) (gca G) (v1 := z1) (v2 := v2) hσ rz1 r2 h) sh_0 rfl rfl rfl rfl rfl rfl rfl (fun z3 σ4 rz3 hσ4 h => ?_)
  obtain ⟨ez3, h⟩ := h; subst ez3
  refine j_istore_n (L' := [(3, .int (zI z3)), (0, .ref (gad G 54)), (1, .int (zI v1)), (2, .int (zI v2))]) C d_X_lastEntry_17 rfl rfl rfl ?_
  refine j_iload_n C d_X_lastEntry_18 0 rfl rfl ?_
  refine j_istore (L' := [(4, .int (zI z3)), (3, .int (zI z3)), (0, .ref (gad G 54)), (1, .int (zI v1)), (2, .int (zI v2))]) C d_X_lastEntry_19 rfl rfl ?_
  obtain ⟨n8, h⟩ := h
  refine j_sub (L' := [(0, .ref (gad G 54)), (1, .int (zI v1)), (2, .int (zI v2)), (4, .int (zI z3))]) [2, 3, 4, 0] rfl ?_
  refine w_X_lastEntry_L21 C hσ r1 r2 n8 z3 rz3 h
set_option maxRecDepth 100000 in
set_option maxHeartbeats 4000000 in
theorem c_X_way (l : Launch) (D : va_G) (ad : Nat → Nat) (ca : Nat → ClassId) {σ : zM} {v1 : Int} {v2 : Int} {v3 : Int} {v4 : Int} {Q : Int → zM → Prop} (hσ : zRM σ) (r1 : zR v1) (r2 : zR v2) (r3 : zR v3) (r4 : zR v4) (h : wp_X_way σ v1 v2 v3 v4 Q) : zCi l D ad ca y_X_way b_X_way 7 (some .int) (zrm 6 146) [.ref (ad 54), .int (zI v1), .int (zI v2), .int (zI v3), .int (zI v4)] σ Q := by
  refine zCi_of (by decide +kernel) (Nat.le_of_ble_eq_true rfl) ?_
  intro X G C hl hD had hca
  subst hl hD had hca
  have C : zC X G b_X_way "GateRoads" 7 (some .int) 6 146 := C
  show zJ X G (zQi X G Q) 7 0 [(0, .ref (gad G 54)), (1, .int (zI v1)), (2, .int (zI v2)), (3, .int (zI v3)), (4, .int (zI v4))] [] σ
  unfold wp_X_way at h
  refine j_iload_n C d_X_way_0 1 rfl rfl ?_
  refine j_callS C d_X_way_1 ml_X_65 ms_X_isPlace (c_X_isPlace (xl X) (gD G) (gad G) (gca G) (v0 := v1) hσ r1 h) rfl rfl rfl rfl rfl (fun z1 σ2 rz1 hσ2 h => ?_)
  obtain ⟨ez1, h⟩ := h; subst ez1
  refine j_if_eq (tgt := 14) C d_X_way_4 rfl rz1 (fun c => ?_) (fun c => ?_)
  · have h := h.1 c
    refine j_iconst C d_X_way_14 ?_
    exact j_ireturn C d_X_way_15 (zR_of (x := (-1)) rfl) hσ h
  · have h := h.2 c
    refine j_iload_n C d_X_way_7 2 rfl rfl ?_
    refine j_callS C d_X_way_8 ml_X_65 ms_X_isPlace (c_X_isPlace (xl X) (gD G) (gad G) (gca G) (v0 := v2) hσ r2 h) rfl rfl rfl rfl rfl (fun z3 σ4 rz3 hσ4 h => ?_)
    obtain ⟨ez3, h⟩ := h; subst ez3
    refine j_if_ne (tgt := 16) C d_X_way_11 rfl rz3 (fun c => ?_) (fun c => ?_)
    · have h := h.1 c
      refine j_iload_n C d_X_way_16 3 rfl rfl ?_
      refine j_iconst C d_X_way_17 ?_
      refine j_sipush C d_X_way_18 rfl ?_
      refine j_callS C d_X_way_21 ml_X_69 ms_X_within (c_X_within (xl X) (gD G) (gad G) (gca G) (v0 := v3) (v1 := 0) (v2 := 2880) hσ r3 (zR_of (x := 0) rfl) (zR_of (x := 2880) rfl) h) rfl rfl rfl rfl rfl (fun z5 σ6 rz5 hσ6 h => ?_)
      obtain ⟨ez5, h⟩ := h; subst ez5
      refine j_if_eq (tgt := 37) C d_X_way_24 rfl rz5 (fun c => ?_) (fun c => ?_)
      · have h := h.1 c
        refine j_bipush C d_X_way_37 rfl ?_
        exact j_ireturn C d_X_way_39 (zR_of (x := (-2)) rfl) hσ h
      · have h := h.2 c
        refine j_iload C d_X_way_27 4 rfl ?_
        refine j_iconst C d_X_way_29 ?_
        refine j_iconst C d_X_way_30 ?_
        refine j_callS C d_X_way_31 ml_X_69 ms_X_within (c_X_within (xl X) (gD G) (gad G) (gca G) (v0 := v4) (v1 := 0) (v2 := 3) hσ r4 (zR_of (x := 0) rfl) (zR_of (x := 3) rfl) h) rfl rfl rfl rfl rfl (fun z7 σ8 rz7 hσ8 h => ?_)
        obtain ⟨ez7, h⟩ := h; subst ez7
        refine j_if_ne (tgt := 40) C d_X_way_34 rfl rz7 (fun c => ?_) (fun c => ?_)
        · have h := h.1 c
          refine j_iload_n C d_X_way_40 1 rfl rfl ?_
          refine j_iload_n C d_X_way_41 2 rfl rfl ?_
          refine j_icmp_ne (tgt := 57) C d_X_way_42 rfl r1 r2 (fun c => ?_) (fun c => ?_)
          · have h := h.1 c
            refine j_aload_n C d_X_way_57 0 rfl rfl ?_
            refine j_iload_n C d_X_way_58 1 rfl rfl ?_
            refine j_iload_n C d_X_way_59 2 rfl rfl ?_
            refine j_iload_n C d_X_way_60 3 rfl rfl ?_
            refine j_callV C d_X_way_61 ml_X_180 mi_X_earliestTime (c_X_earliestTime (xl X) (gD G) (gad G) (gca G) (v1 := v1) (v2 := v2) (v3 := v3) hσ r1 r2 r3 h) sh_54 rfl rfl rfl rfl rfl rfl rfl (fun z9 σ10 rz9 hσ10 h => ?_)
            refine j_istore (L' := [(5, .int (zI z9)), (0, .ref (gad G 54)), (1, .int (zI v1)), (2, .int (zI v2)), (3, .int (zI v3)), (4, .int (zI v4))]) C d_X_way_64 rfl rfl ?_
            refine j_iload C d_X_way_66 0 rfl ?_
            refine j_bipush C d_X_way_68 rfl ?_
            refine j_icmp_ne (tgt := 76) C d_X_way_70 rfl rz9 (zR_of (x := (-6)) rfl) (fun c => ?_) (fun c => ?_)
            · have h := h.1 c
              refine j_iload C d_X_way_76 5 rfl ?_
              refine j_if_ne (tgt := 91) C d_X_way_78 rfl r4 (fun c => ?_) (fun c => ?_)
              · have h := h.1 c
                refine j_aload_n C d_X_way_91 1 rfl rfl ?_
                refine j_iload_n C d_X_way_92 3 rfl rfl ?_
                refine j_iload_n C d_X_way_93 4 rfl rfl ?_
                refine j_iload C d_X_way_94 0 rfl ?_
                refine j_callVv C d_X_way_96 ml_X_205 mi_X_lookBack (c_X_lookBack (xl X) (gD G) (gad G) (gca G) (v1 := v2) (v2 := v3) (v3 := z9) hσ10 r2 r3 rz9 h) sh_54 rfl rfl rfl rfl rfl rfl rfl (fun σ12 hσ12 h => ?_)
                refine j_aload_n C d_X_way_99 1 rfl rfl ?_
                refine j_iload_n C d_X_way_100 2 rfl rfl ?_
                refine j_iload_n C d_X_way_101 4 rfl rfl ?_
                refine j_callV C d_X_way_102 ml_X_208 mi_X_firstRoad (c_X_firstRoad (xl X) (gD G) (gad G) (gca G) (v1 := v1) (v2 := v3) hσ12 r1 r3 h) sh_54 rfl rfl rfl rfl rfl rfl rfl (fun z13 σ14 rz13 hσ14 h => ?_)
                obtain ⟨ez13, h⟩ := h; subst ez13
                refine j_istore (L' := [(6, .int (zI z13)), (5, .int (zI z9)), (0, .ref (gad G 54)), (1, .int (zI v1)), (2, .int (zI v2)), (3, .int (zI v3)), (4, .int (zI v4))]) C d_X_way_105 rfl rfl ?_
                refine j_iload C d_X_way_107 6 rfl ?_
                refine j_iconst C d_X_way_109 ?_
                refine j_icmp_eq (tgt := 120) C d_X_way_110 rfl r4 (zR_of (x := 1) rfl) (fun c => ?_) (fun c => ?_)
                · have h := h.1 c
                  refine j_iload C d_X_way_120 0 rfl ?_
                  exact j_ireturn C d_X_way_122 rz13 hσ12 h
                · have h := h.2 c
                  refine j_iload C d_X_way_113 0 rfl ?_
                  refine j_bipush C d_X_way_115 rfl ?_
                  refine j_icmp_ne (tgt := 123) C d_X_way_117 rfl rz13 (zR_of (x := (-6)) rfl) (fun c => ?_) (fun c => ?_)
                  · have h := h.1 c
                    refine j_iload C d_X_way_123 6 rfl ?_
                    refine j_iconst C d_X_way_125 ?_
                    refine j_icmp_ne (tgt := 139) C d_X_way_126 rfl r4 (zR_of (x := 2) rfl) (fun c => ?_) (fun c => ?_)
                    · have h := h.1 c
                      refine j_aload_n C d_X_way_139 2 rfl rfl ?_
                      refine j_iload C d_X_way_140 0 rfl ?_
                      refine j_iload_n C d_X_way_142 5 rfl rfl ?_
                      refine j_callV C d_X_way_143 ml_X_214 mi_X_lastEntry (c_X_lastEntry (xl X) (gD G) (gad G) (gca G) (v1 := z13) (v2 := v3) hσ12 rz13 r3 h) sh_54 rfl rfl rfl rfl rfl rfl rfl (fun z15 σ16 rz15 hσ16 h => ?_)
                      obtain ⟨ez15, h⟩ := h; subst ez15
                      exact j_ireturn C d_X_way_146 rz15 hσ12 h
                    · have h := h.2 c
                      refine j_aload_n C d_X_way_129 2 rfl rfl ?_
                      refine j_iload C d_X_way_130 0 rfl ?_
                      refine j_iload_n C d_X_way_132 5 rfl rfl ?_
                      refine j_callV C d_X_way_133 ml_X_211 mi_X_firstEntry (c_X_firstEntry (xl X) (gD G) (gad G) (gca G) (v1 := z13) (v2 := v3) hσ12 rz13 r3 h) sh_54 rfl rfl rfl rfl rfl rfl rfl (fun z17 σ18 rz17 hσ18 h => ?_)
                      obtain ⟨ez17, h⟩ := h; subst ez17
                      refine j_goto (tgt := 146) C d_X_way_136 rfl ?_
                      exact j_ireturn C d_X_way_146 rz17 hσ12 h
                  · have h := h.2 c
                    refine j_iload C d_X_way_120 0 rfl ?_
                    exact j_ireturn C d_X_way_122 rz13 hσ12 h
              · have h := h.2 c
                refine j_aload_n C d_X_way_81 1 rfl rfl ?_
                refine j_iload_n C d_X_way_82 2 rfl rfl ?_
                refine j_iload_n C d_X_way_83 3 rfl rfl ?_
                refine j_iload_n C d_X_way_84 4 rfl rfl ?_
                refine j_iload C d_X_way_85 0 rfl ?_
                refine j_callV C d_X_way_87 ml_X_201 mi_X_fewestRoads (c_X_fewestRoads (xl X) (gD G) (gad G) (gca G) (v1 := v1) (v2 := v2) (v3 := v3) (v4 := z9) hσ10 r1 r2 r3 rz9 h) sh_54 rfl rfl rfl rfl rfl rfl rfl (fun z19 σ20 rz19 hσ20 h => ?_)
                exact j_ireturn C d_X_way_90 rz19 hσ20 h
            · have h := h.2 c
              refine j_bipush C d_X_way_73 rfl ?_
              exact j_ireturn C d_X_way_75 (zR_of (x := (-6)) rfl) hσ10 h
          · have h := h.2 c
            refine j_iload C d_X_way_45 4 rfl ?_
            refine j_if_ne (tgt := 54) C d_X_way_47 rfl r4 (fun c => ?_) (fun c => ?_)
            · have h := h.1 c
              refine j_bipush C d_X_way_54 rfl ?_
              exact j_ireturn C d_X_way_56 (zR_of (x := (-6)) rfl) hσ h
            · have h := h.2 c
              refine j_iconst C d_X_way_50 ?_
              refine j_goto (tgt := 56) C d_X_way_51 rfl ?_
              exact j_ireturn C d_X_way_56 (zR_of (x := 0) rfl) hσ h
        · have h := h.2 c
          refine j_bipush C d_X_way_37 rfl ?_
          exact j_ireturn C d_X_way_39 (zR_of (x := (-2)) rfl) hσ h
    · have h := h.2 c
      refine j_iconst C d_X_way_14 ?_
      exact j_ireturn C d_X_way_15 (zR_of (x := (-1)) rfl) hσ h
set_option maxRecDepth 100000 in
set_option maxHeartbeats 4000000 in
theorem w_X_reach_L77 {X : zX} {G : zG} (C : zC X G b_X_reach "GateRoads" 6 (some .int) 4 96) {v3 : Int} (r3 : zR v3) {Q : Int → zM → Prop} : ∀ (n : Nat) (σ : zM) (v4 : Int) (v5 : Int) (hσ : zRM σ) (r4 : zR v4) (r5 : zR v5), wp_X_reach_L77 v3 Q n σ v4 v5 → zJ X G (zQi X G Q) 6 77 [(0, .ref (gad G 54)), (3, .int (zI v3)), (4, .int (zI v4)), (5, .int (zI v5))] [] σ := by
  intro n
  induction n with
  | zero => intro σ v4 v5 hσ r4 r5 h; exact False.elim h
  | succ n ih =>
    intro σ v4 v5 hσ r4 r5 h
    rw [wp_X_reach_L77] at h
    refine j_iload C d_X_reach_77 3 rfl ?_
    refine j_iload_n C d_X_reach_79 1 rfl rfl ?_
    refine j_icmp_gt (tgt := 126) C d_X_reach_80 rfl r5 r3 (fun c => ?_) (fun c => ?_)
    · have h := h.1 c
      refine j_iload C d_X_reach_126 2 rfl ?_
      exact j_ireturn C d_X_reach_128 r4 hσ h
    · have h := h.2 c
      refine j_iload C d_X_reach_83 2 rfl ?_
      refine j_aload_n C d_X_reach_85 0 rfl rfl ?_
      refine j_getr (kf := 9) (m := 64) C d_X_reach_86 sh_54 rfl i_X rfl rfl fl_X_44 ?_
      refine j_iload C d_X_reach_89 3 rfl ?_
      refine j_callV C d_X_reach_91 ml_X_221 mi_O_comersAt (c_O_comersAt (xl X) (gD G) (gad G) (gca G) (o := 64) (v1 := v5) hσ zOn64 r5 h) sh_64 rfl rfl rfl rfl rfl rfl rfl (fun z13 σ14 rz13 hσ14 h => ?_)
      obtain ⟨ez13, h⟩ := h; subst ez13
      refine j_ior C d_X_reach_94 ?_
      refine j_istore (L' := [(4, .int (zI (zOr v4 z13))), (0, .ref (gad G 54)), (3, .int (zI v3)), (5, .int (zI v5))]) C d_X_reach_95 rfl rfl ?_
      refine j_aload_n C d_X_reach_97 1 rfl rfl ?_
      refine j_getr (kf := 9) (m := 64) C d_X_reach_98 sh_54 rfl i_X rfl rfl fl_X_44 ?_
      refine j_aload_n C d_X_reach_101 1 rfl rfl ?_
      refine j_getr (kf := 0) (m := 0) C d_X_reach_102 sh_54 rfl i_X rfl rfl fl_X_12 ?_
      refine j_aload_n C d_X_reach_105 1 rfl rfl ?_
      refine j_getr (kf := 8) (m := 62) C d_X_reach_106 sh_54 rfl i_X rfl rfl fl_X_37 ?_
      refine j_iload C d_X_reach_109 3 rfl ?_
      refine j_callV C d_X_reach_111 ml_X_190 mi_G_at (c_G_at (xl X) (gD G) (gad G) (gca G) (v1 := v5) hσ r5 h) sh_62 rfl rfl rfl rfl rfl rfl rfl (fun z15 σ16 rz15 hσ16 h => ?_)
      obtain ⟨ez15, h⟩ := h; subst ez15
      refine j_iload C d_X_reach_114 3 rfl ?_
      refine j_callV C d_X_reach_116 ml_X_224 mi_O_minute (c_O_minute (xl X) (gD G) (gad G) (gca G) (o := 64) (v2 := z15) (v3 := v5) hσ zOn64 rz15 r5 h) sh_64 rfl rfl rfl rfl rfl rfl rfl (fun z17 σ18 rz17 hσ18 h => ?_)
      refine j_pop C d_X_reach_119 rfl ?_
      obtain ⟨g19, h⟩ := h
      refine j_iinc (L' := [(5, .int (zI (v5 + 1))), (4, .int (zI (zOr v4 z13))), (0, .ref (gad G 54)), (3, .int (zI v3))]) C d_X_reach_120 3 rfl rfl rfl ?_
      refine j_goto (tgt := 77) C d_X_reach_123 rfl ?_
      refine j_sub (L' := [(0, .ref (gad G 54)), (3, .int (zI v3)), (4, .int (zI (zOr v4 z13))), (5, .int (zI (v5 + 1)))]) [2, 3, 1, 0] rfl ?_
      exact ih σ18 (zOr v4 z13) (v5 + 1) hσ18 (zOr_rg _ _) g19 h
set_option maxRecDepth 100000 in
set_option maxHeartbeats 4000000 in
theorem c_X_reach (l : Launch) (D : va_G) (ad : Nat → Nat) (ca : Nat → ClassId) {σ : zM} {v1 : Int} {v2 : Int} {v3 : Int} {Q : Int → zM → Prop} (hσ : zRM σ) (r1 : zR v1) (r2 : zR v2) (r3 : zR v3) (h : wp_X_reach σ v1 v2 v3 Q) : zCi l D ad ca y_X_reach b_X_reach 6 (some .int) (zrm 4 96) [.ref (ad 54), .int (zI v1), .int (zI v2), .int (zI v3)] σ Q := by
  refine zCi_of (by decide +kernel) (Nat.le_of_ble_eq_true rfl) ?_
  intro X G C hl hD had hca
  subst hl hD had hca
  have C : zC X G b_X_reach "GateRoads" 6 (some .int) 4 96 := C
  show zJ X G (zQi X G Q) 6 0 [(0, .ref (gad G 54)), (1, .int (zI v1)), (2, .int (zI v2)), (3, .int (zI v3))] [] σ
  unfold wp_X_reach at h
  refine j_iload_n C d_X_reach_0 1 rfl rfl ?_
  refine j_callS C d_X_reach_1 ml_X_65 ms_X_isPlace (c_X_isPlace (xl X) (gD G) (gad G) (gca G) (v0 := v1) hσ r1 h) rfl rfl rfl rfl rfl (fun z1 σ2 rz1 hσ2 h => ?_)
  obtain ⟨ez1, h⟩ := h; subst ez1
  refine j_if_ne (tgt := 9) C d_X_reach_4 rfl rz1 (fun c => ?_) (fun c => ?_)
  · have h := h.1 c
    refine j_iload_n C d_X_reach_9 2 rfl rfl ?_
    refine j_iconst C d_X_reach_10 ?_
    refine j_sipush C d_X_reach_11 rfl ?_
    refine j_callS C d_X_reach_14 ml_X_69 ms_X_within (c_X_within (xl X) (gD G) (gad G) (gca G) (v0 := v2) (v1 := 0) (v2 := 2880) hσ r2 (zR_of (x := 0) rfl) (zR_of (x := 2880) rfl) h) rfl rfl rfl rfl rfl (fun z3 σ4 rz3 hσ4 h => ?_)
    obtain ⟨ez3, h⟩ := h; subst ez3
    refine j_if_eq (tgt := 31) C d_X_reach_17 rfl rz3 (fun c => ?_) (fun c => ?_)
    · have h := h.1 c
      refine j_bipush C d_X_reach_31 rfl ?_
      exact j_ireturn C d_X_reach_33 (zR_of (x := (-2)) rfl) hσ h
    · have h := h.2 c
      refine j_iload_n C d_X_reach_20 3 rfl rfl ?_
      refine j_iconst C d_X_reach_21 ?_
      refine j_sipush C d_X_reach_22 rfl ?_
      refine j_callS C d_X_reach_25 ml_X_69 ms_X_within (c_X_within (xl X) (gD G) (gad G) (gca G) (v0 := v3) (v1 := 0) (v2 := 2880) hσ r3 (zR_of (x := 0) rfl) (zR_of (x := 2880) rfl) h) rfl rfl rfl rfl rfl (fun z5 σ6 rz5 hσ6 h => ?_)
      obtain ⟨ez5, h⟩ := h; subst ez5
      refine j_if_ne (tgt := 34) C d_X_reach_28 rfl rz5 (fun c => ?_) (fun c => ?_)
      · have h := h.1 c
        refine j_iload_n C d_X_reach_34 3 rfl rfl ?_
        refine j_iload_n C d_X_reach_35 2 rfl rfl ?_
        refine j_icmp_ge (tgt := 41) C d_X_reach_36 rfl r3 r2 (fun c => ?_) (fun c => ?_)
        · have h := h.1 c
          refine j_aload_n C d_X_reach_41 0 rfl rfl ?_
          refine j_getr (kf := 8) (m := 62) C d_X_reach_42 sh_54 rfl i_X rfl rfl fl_X_37 ?_
          refine j_aload_n C d_X_reach_45 0 rfl rfl ?_
          refine j_getr (kf := 0) (m := 0) C d_X_reach_46 sh_54 rfl i_X rfl rfl fl_X_12 ?_
          refine j_callVv C d_X_reach_49 ml_X_183 mi_G_prepare (c_G_prepare (xl X) (gD G) (gad G) (gca G)  hσ h) sh_62 rfl rfl rfl rfl rfl rfl rfl (fun σ8 hσ8 h => ?_)
          refine j_aload_n C d_X_reach_52 0 rfl rfl ?_
          refine j_getr (kf := 9) (m := 64) C d_X_reach_53 sh_54 rfl i_X rfl rfl fl_X_44 ?_
          refine j_iload_n C d_X_reach_56 1 rfl rfl ?_
          refine j_aload_n C d_X_reach_57 0 rfl rfl ?_
          refine j_getr (kf := 0) (m := 0) C d_X_reach_58 sh_54 rfl i_X rfl rfl fl_X_12 ?_
          refine j_iload_n C d_X_reach_61 1 rfl rfl ?_
          refine j_iload_n C d_X_reach_62 2 rfl rfl ?_
          refine j_callV C d_X_reach_63 ml_X_217 mi_S_waitEnd (c_S_waitEnd (xl X) (gD G) (gad G) (gca G) (v1 := v1) (v2 := v2) hσ8 r1 r2 h) sh_0 rfl rfl rfl rfl rfl rfl rfl (fun z9 σ10 rz9 hσ10 h => ?_)
          obtain ⟨ez9, h⟩ := h; subst ez9
          refine j_callVv C d_X_reach_66 ml_X_220 mi_O_start (c_O_start (xl X) (gD G) (gad G) (gca G) (o := 64) (v1 := v1) (v2 := z9) hσ8 zOn64 r1 rz9 h) sh_64 rfl rfl rfl rfl rfl rfl rfl (fun σ12 hσ12 h => ?_)
          refine j_iconst C d_X_reach_69 ?_
          refine j_iload_n C d_X_reach_70 1 rfl rfl ?_
          refine j_ishl C d_X_reach_71 ?_
          refine j_istore (L' := [(4, .int (zI (zShl 1 v1))), (0, .ref (gad G 54)), (1, .int (zI v1)), (2, .int (zI v2)), (3, .int (zI v3))]) C d_X_reach_72 rfl rfl ?_
          refine j_iload_n C d_X_reach_74 3 rfl rfl ?_
          refine j_istore (L' := [(5, .int (zI v2)), (4, .int (zI (zShl 1 v1))), (0, .ref (gad G 54)), (1, .int (zI v1)), (2, .int (zI v2)), (3, .int (zI v3))]) C d_X_reach_75 rfl rfl ?_
          obtain ⟨n20, h⟩ := h
          refine j_sub (L' := [(0, .ref (gad G 54)), (3, .int (zI v3)), (4, .int (zI (zShl 1 v1))), (5, .int (zI v2))]) [2, 5, 1, 0] rfl ?_
          refine w_X_reach_L77 C r3 n20 σ12 (zShl 1 v1) v2 hσ12 (zShl_rg _ _) r2 h
        · have h := h.2 c
          refine j_iconst C d_X_reach_39 ?_
          exact j_ireturn C d_X_reach_40 (zR_of (x := 0) rfl) hσ h
      · have h := h.2 c
        refine j_bipush C d_X_reach_31 rfl ?_
        exact j_ireturn C d_X_reach_33 (zR_of (x := (-2)) rfl) hσ h
  · have h := h.2 c
    refine j_iconst C d_X_reach_7 ?_
    exact j_ireturn C d_X_reach_8 (zR_of (x := (-1)) rfl) hσ h
set_option maxRecDepth 100000 in
set_option maxHeartbeats 4000000 in
theorem w_X_roadLeadingOn_b37 {X : zX} {G : zG} (C : zC X G b_X_roadLeadingOn "GateRoads" 4 (some .int) 3 65) {σ : zM} {v1 : Int} {v2 : Int} (hσ : zRM σ) (r1 : zR v1) (r2 : zR v2) {Q : Int → Prop} {k2 : Int → Prop} (hk2 : ∀ (v3 : Int), zR v3 → k2 v3 → zJ X G (zQi X G (fun z u => σ = u ∧ Q z)) 4 2 [(0, .ref (gad G 54)), (1, .int (zI v1)), (2, .int (zI v2)), (3, .int (zI v3))] [] σ) (v3 : Int) (r3 : zR v3) (h : wp_X_roadLeadingOn_b37 σ v1 v2 k2 Q v3) : zJ X G (zQi X G (fun z u => σ = u ∧ Q z)) 4 37 [(0, .ref (gad G 54)), (1, .int (zI v1)), (2, .int (zI v2)), (3, .int (zI v3))] [] σ := by
  unfold wp_X_roadLeadingOn_b37 at h
  obtain ⟨g3, h⟩ := h
  refine j_iinc (L' := [(3, .int (zI (v3 + 1))), (0, .ref (gad G 54)), (1, .int (zI v1)), (2, .int (zI v2))]) C d_X_roadLeadingOn_37 3 rfl rfl rfl ?_
  refine j_goto (tgt := 2) C d_X_roadLeadingOn_40 rfl ?_
  refine j_sub (L' := [(0, .ref (gad G 54)), (1, .int (zI v1)), (2, .int (zI v2)), (3, .int (zI (v3 + 1)))]) [1, 2, 3, 0] rfl ?_
  exact hk2 (v3 + 1) g3 h
set_option maxRecDepth 100000 in
set_option maxHeartbeats 4000000 in
theorem w_X_roadLeadingOn_L2 {X : zX} {G : zG} (C : zC X G b_X_roadLeadingOn "GateRoads" 4 (some .int) 3 65) {σ : zM} {v1 : Int} {v2 : Int} (hσ : zRM σ) (r1 : zR v1) (r2 : zR v2) {Q : Int → Prop} : ∀ (n : Nat) (v3 : Int) (r3 : zR v3), wp_X_roadLeadingOn_L2 σ v1 v2 Q n v3 → zJ X G (zQi X G (fun z u => σ = u ∧ Q z)) 4 2 [(0, .ref (gad G 54)), (1, .int (zI v1)), (2, .int (zI v2)), (3, .int (zI v3))] [] σ := by
  intro n
  induction n with
  | zero => intro v3 r3 h; exact False.elim h
  | succ n ih =>
    intro v3 r3 h
    rw [wp_X_roadLeadingOn_L2] at h
    refine j_iload_n C d_X_roadLeadingOn_2 3 rfl rfl ?_
    refine j_aload_n C d_X_roadLeadingOn_3 0 rfl rfl ?_
    refine j_getr (kf := 0) (m := 0) C d_X_roadLeadingOn_4 sh_54 rfl i_X rfl rfl fl_X_12 ?_
    refine j_geti (kf := 5) (kI := 5) C d_X_roadLeadingOn_7 sh_0 rfl i_S rfl rfl rfl fl_X_80 ?_
    refine j_icmp_ge (tgt := 43) C d_X_roadLeadingOn_10 rfl r3 (hσ _ _) (fun c => ?_) (fun c => ?_)
    · have h := h.1 c
      refine j_bipush C d_X_roadLeadingOn_43 rfl ?_
      exact j_ireturn C d_X_roadLeadingOn_45 (zR_of (x := (-6)) rfl) hσ ⟨rfl, h⟩
    · have h := h.2 c
      refine j_aload_n C d_X_roadLeadingOn_13 0 rfl rfl ?_
      refine j_getr (kf := 0) (m := 0) C d_X_roadLeadingOn_14 sh_54 rfl i_X rfl rfl fl_X_12 ?_
      refine j_iload_n C d_X_roadLeadingOn_17 3 rfl rfl ?_
      refine j_iconst C d_X_roadLeadingOn_18 ?_
      refine j_callV C d_X_roadLeadingOn_19 ml_X_94 mi_S_ofRoads (c_S_ofRoads (xl X) (gD G) (gad G) (gca G) (v1 := v3) (v2 := 0) hσ r3 (zR_of (x := 0) rfl) h) sh_0 rfl rfl rfl rfl rfl rfl rfl (fun z1 σ2 rz1 hσ2 h => ?_)
      obtain ⟨ez1, h⟩ := h; subst ez1
      refine j_iload_n C d_X_roadLeadingOn_22 1 rfl rfl ?_
      refine j_icmp_ne (tgt := 37) C d_X_roadLeadingOn_23 rfl rz1 r1 (fun c => ?_) (fun c => ?_)
      · have h := h.1 c
        refine w_X_roadLeadingOn_b37 C hσ r1 r2 ih v3 r3 h
      · have h := h.2 c
        refine j_aload_n C d_X_roadLeadingOn_26 0 rfl rfl ?_
        refine j_iload_n C d_X_roadLeadingOn_27 3 rfl rfl ?_
        refine j_iload_n C d_X_roadLeadingOn_28 2 rfl rfl ?_
        refine j_callV C d_X_roadLeadingOn_29 ml_X_295 mi_X_leadsOn (c_X_leadsOn (xl X) (gD G) (gad G) (gca G) (v1 := v3) (v2 := v2) hσ r3 r2 h) sh_54 rfl rfl rfl rfl rfl rfl rfl (fun z4 σ5 rz4 hσ5 h => ?_)
        obtain ⟨ez4, h⟩ := h; subst ez4
        refine j_if_eq (tgt := 37) C d_X_roadLeadingOn_32 rfl rz4 (fun c => ?_) (fun c => ?_)
        · have h := h.1 c
          refine w_X_roadLeadingOn_b37 C hσ r1 r2 ih v3 r3 h
        · have h := h.2 c
          refine j_iload_n C d_X_roadLeadingOn_35 3 rfl rfl ?_
          exact j_ireturn C d_X_roadLeadingOn_36 r3 hσ ⟨rfl, h⟩
set_option maxRecDepth 100000 in
set_option maxHeartbeats 4000000 in
theorem c_X_roadLeadingOn (l : Launch) (D : va_G) (ad : Nat → Nat) (ca : Nat → ClassId) {σ : zM} {v1 : Int} {v2 : Int} {Q : Int → Prop} (hσ : zRM σ) (r1 : zR v1) (r2 : zR v2) (h : wp_X_roadLeadingOn σ v1 v2 Q) : zCi l D ad ca y_X_roadLeadingOn b_X_roadLeadingOn 4 (some .int) (zrm 3 65) [.ref (ad 54), .int (zI v1), .int (zI v2)] σ (fun z u => σ = u ∧ Q z) := by
  refine zCi_of (by decide +kernel) (Nat.le_of_ble_eq_true rfl) ?_
  intro X G C hl hD had hca
  subst hl hD had hca
  have C : zC X G b_X_roadLeadingOn "GateRoads" 4 (some .int) 3 65 := C
  show zJ X G (zQi X G (fun z u => σ = u ∧ Q z)) 4 0 [(0, .ref (gad G 54)), (1, .int (zI v1)), (2, .int (zI v2))] [] σ
  unfold wp_X_roadLeadingOn at h
  refine j_iconst C d_X_roadLeadingOn_0 ?_
  refine j_istore_n (L' := [(3, .int (zI 0)), (0, .ref (gad G 54)), (1, .int (zI v1)), (2, .int (zI v2))]) C d_X_roadLeadingOn_1 rfl rfl rfl ?_
  obtain ⟨n6, h⟩ := h
  refine j_sub (L' := [(0, .ref (gad G 54)), (1, .int (zI v1)), (2, .int (zI v2)), (3, .int (zI 0))]) [1, 2, 3, 0] rfl ?_
  refine w_X_roadLeadingOn_L2 C hσ r1 r2 n6 0 (zR_of (x := 0) rfl) h
set_option maxRecDepth 100000 in
set_option maxHeartbeats 4000000 in
theorem w_X_roadsOfOneWay_b78 {X : zX} {G : zG} (C : zC X G b_X_roadsOfOneWay "GateRoads" 8 (some .int) 4 88) {σ : zM} {v2 : Int} (hσ : zRM σ) (r2 : zR v2) {Q : Int → Prop} {k9 : Int → Int → Int → Prop} (hk9 : ∀ (v4 : Int) (v5 : Int) (v6 : Int), zR v4 → zR v5 → zR v6 → k9 v4 v5 v6 → zJ X G (zQi X G (fun z u => σ = u ∧ Q z)) 8 9 [(0, .ref (gad G 54)), (2, .int (zI v2)), (4, .int (zI v4)), (5, .int (zI v5)), (6, .int (zI v6))] [] σ) (v4 : Int) (v5 : Int) (v6 : Int) (r4 : zR v4) (r5 : zR v5) (r6 : zR v6) (h : wp_X_roadsOfOneWay_b78 σ v2 k9 Q v4 v5 v6) : zJ X G (zQi X G (fun z u => σ = u ∧ Q z)) 8 78 [(0, .ref (gad G 54)), (2, .int (zI v2)), (4, .int (zI v4)), (5, .int (zI v5)), (6, .int (zI v6))] [] σ := by
  unfold wp_X_roadsOfOneWay_b78 at h
  obtain ⟨g3, h⟩ := h
  refine j_iinc (L' := [(6, .int (zI (v6 + 1))), (0, .ref (gad G 54)), (2, .int (zI v2)), (4, .int (zI v4)), (5, .int (zI v5))]) C d_X_roadsOfOneWay_78 4 rfl rfl rfl ?_
  refine j_goto (tgt := 9) C d_X_roadsOfOneWay_81 rfl ?_
  refine j_sub (L' := [(0, .ref (gad G 54)), (2, .int (zI v2)), (4, .int (zI v4)), (5, .int (zI v5)), (6, .int (zI (v6 + 1)))]) [1, 2, 3, 4, 0] rfl ?_
  exact hk9 v4 v5 (v6 + 1) r4 r5 g3 h
set_option maxRecDepth 100000 in
set_option maxHeartbeats 4000000 in
theorem w_X_roadsOfOneWay_L9 {X : zX} {G : zG} (C : zC X G b_X_roadsOfOneWay "GateRoads" 8 (some .int) 4 88) {σ : zM} {v2 : Int} (hσ : zRM σ) (r2 : zR v2) {Q : Int → Prop} : ∀ (n : Nat) (v4 : Int) (v5 : Int) (v6 : Int) (r4 : zR v4) (r5 : zR v5) (r6 : zR v6), wp_X_roadsOfOneWay_L9 σ v2 Q n v4 v5 v6 → zJ X G (zQi X G (fun z u => σ = u ∧ Q z)) 8 9 [(0, .ref (gad G 54)), (2, .int (zI v2)), (4, .int (zI v4)), (5, .int (zI v5)), (6, .int (zI v6))] [] σ := by
  intro n
  induction n with
  | zero => intro v4 v5 v6 r4 r5 r6 h; exact False.elim h
  | succ n ih =>
    intro v4 v5 v6 r4 r5 r6 h
    rw [wp_X_roadsOfOneWay_L9] at h
    refine j_iload C d_X_roadsOfOneWay_9 4 rfl ?_
    refine j_sipush C d_X_roadsOfOneWay_11 rfl ?_
    refine j_icmp_gt (tgt := 84) C d_X_roadsOfOneWay_14 rfl r6 (zR_of (x := 2880) rfl) (fun c => ?_) (fun c => ?_)
    · have h := h.1 c
      refine j_iload C d_X_roadsOfOneWay_84 3 rfl ?_
      exact j_ireturn C d_X_roadsOfOneWay_86 r5 hσ ⟨rfl, h⟩
    · have h := h.2 c
      refine j_iload C d_X_roadsOfOneWay_17 2 rfl ?_
      refine j_iload_n C d_X_roadsOfOneWay_19 1 rfl rfl ?_
      refine j_icmp_eq (tgt := 84) C d_X_roadsOfOneWay_20 rfl r4 r2 (fun c => ?_) (fun c => ?_)
      · have h := h.1 c
        refine j_iload C d_X_roadsOfOneWay_84 3 rfl ?_
        exact j_ireturn C d_X_roadsOfOneWay_86 r5 hσ ⟨rfl, h⟩
      · have h := h.2 c
        refine j_aload_n C d_X_roadsOfOneWay_23 0 rfl rfl ?_
        refine j_iload C d_X_roadsOfOneWay_24 2 rfl ?_
        refine j_iload C d_X_roadsOfOneWay_26 4 rfl ?_
        refine j_callV C d_X_roadsOfOneWay_28 ml_X_298 mi_X_roadLeadingOn (c_X_roadLeadingOn (xl X) (gD G) (gad G) (gca G) (v1 := v4) (v2 := v6) hσ r4 r6 h) sh_54 rfl rfl rfl rfl rfl rfl rfl (fun z1 σ2 rz1 hσ2 h => ?_)
        obtain ⟨ez1, h⟩ := h; subst ez1
        refine j_istore (L' := [(7, .int (zI z1)), (0, .ref (gad G 54)), (2, .int (zI v2)), (4, .int (zI v4)), (5, .int (zI v5)), (6, .int (zI v6))]) C d_X_roadsOfOneWay_31 rfl rfl ?_
        refine j_iload C d_X_roadsOfOneWay_33 0 rfl ?_
        refine j_bipush C d_X_roadsOfOneWay_35 rfl ?_
        refine j_icmp_eq (tgt := 78) C d_X_roadsOfOneWay_37 rfl rz1 (zR_of (x := (-6)) rfl) (fun c => ?_) (fun c => ?_)
        · have h := h.1 c
          refine j_sub (L' := [(0, .ref (gad G 54)), (2, .int (zI v2)), (4, .int (zI v4)), (5, .int (zI v5)), (6, .int (zI v6))]) [1, 2, 3, 4, 5] rfl ?_
          refine w_X_roadsOfOneWay_b78 C hσ r2 ih v4 v5 v6 r4 r5 r6 h
        · have h := h.2 c
          refine j_iload C d_X_roadsOfOneWay_40 4 rfl ?_
          refine j_iconst C d_X_roadsOfOneWay_42 ?_
          refine j_iload C d_X_roadsOfOneWay_43 0 rfl ?_
          refine j_ishl C d_X_roadsOfOneWay_45 ?_
          refine j_ior C d_X_roadsOfOneWay_46 ?_
          refine j_istore (L' := [(5, .int (zI (zOr v5 (zShl 1 z1)))), (7, .int (zI z1)), (0, .ref (gad G 54)), (2, .int (zI v2)), (4, .int (zI v4)), (6, .int (zI v6))]) C d_X_roadsOfOneWay_47 rfl rfl ?_
          refine j_aload_n C d_X_roadsOfOneWay_49 2 rfl rfl ?_
          refine j_getr (kf := 0) (m := 0) C d_X_roadsOfOneWay_50 sh_54 rfl i_X rfl rfl fl_X_12 ?_
          refine j_iload C d_X_roadsOfOneWay_53 1 rfl ?_
          refine j_iconst C d_X_roadsOfOneWay_55 ?_
          refine j_callV C d_X_roadsOfOneWay_56 ml_X_94 mi_S_ofRoads (c_S_ofRoads (xl X) (gD G) (gad G) (gca G) (v1 := z1) (v2 := 1) hσ rz1 (zR_of (x := 1) rfl) h) sh_0 rfl rfl rfl rfl rfl rfl rfl (fun z4 σ5 rz4 hσ5 h => ?_)
          obtain ⟨ez4, h⟩ := h; subst ez4
          refine j_istore (L' := [(4, .int (zI z4)), (5, .int (zI (zOr v5 (zShl 1 z1)))), (7, .int (zI z1)), (0, .ref (gad G 54)), (2, .int (zI v2)), (6, .int (zI v6))]) C d_X_roadsOfOneWay_59 rfl rfl ?_
          refine j_iload C d_X_roadsOfOneWay_61 5 rfl ?_
          refine j_aload_n C d_X_roadsOfOneWay_63 3 rfl rfl ?_
          refine j_getr (kf := 0) (m := 0) C d_X_roadsOfOneWay_64 sh_54 rfl i_X rfl rfl fl_X_12 ?_
          refine j_iload C d_X_roadsOfOneWay_67 2 rfl ?_
          refine j_iconst C d_X_roadsOfOneWay_69 ?_
          refine j_callV C d_X_roadsOfOneWay_70 ml_X_94 mi_S_ofRoads (c_S_ofRoads (xl X) (gD G) (gad G) (gca G) (v1 := z1) (v2 := 2) hσ rz1 (zR_of (x := 2) rfl) h) sh_0 rfl rfl rfl rfl rfl rfl rfl (fun z6 σ7 rz6 hσ7 h => ?_)
          obtain ⟨ez6, h⟩ := h; subst ez6
          refine j_iconst C d_X_roadsOfOneWay_73 ?_
          refine j_isub C d_X_roadsOfOneWay_74 ?_
          refine j_iadd C d_X_roadsOfOneWay_75 ?_
          obtain ⟨g8, h⟩ := h
          refine j_istore (L' := [(6, .int (zI (v6 + (z6 - 1)))), (4, .int (zI z4)), (5, .int (zI (zOr v5 (zShl 1 z1)))), (7, .int (zI z1)), (0, .ref (gad G 54)), (2, .int (zI v2))]) C d_X_roadsOfOneWay_76 rfl rfl ?_
          refine j_sub (L' := [(0, .ref (gad G 54)), (2, .int (zI v2)), (4, .int (zI z4)), (5, .int (zI (zOr v5 (zShl 1 z1)))), (6, .int (zI (v6 + (z6 - 1))))]) [4, 5, 1, 2, 0] rfl ?_
          refine w_X_roadsOfOneWay_b78 C hσ r2 ih z4 (zOr v5 (zShl 1 z1)) (v6 + (z6 - 1)) rz4 (zOr_rg _ _) g8 h
set_option maxRecDepth 100000 in
set_option maxHeartbeats 4000000 in
theorem c_X_roadsOfOneWay (l : Launch) (D : va_G) (ad : Nat → Nat) (ca : Nat → ClassId) {σ : zM} {v1 : Int} {v2 : Int} {v3 : Int} {Q : Int → Prop} (hσ : zRM σ) (r1 : zR v1) (r2 : zR v2) (r3 : zR v3) (h : wp_X_roadsOfOneWay σ v1 v2 v3 Q) : zCi l D ad ca y_X_roadsOfOneWay b_X_roadsOfOneWay 8 (some .int) (zrm 4 88) [.ref (ad 54), .int (zI v1), .int (zI v2), .int (zI v3)] σ (fun z u => σ = u ∧ Q z) := by
  refine zCi_of (by decide +kernel) (Nat.le_of_ble_eq_true rfl) ?_
  intro X G C hl hD had hca
  subst hl hD had hca
  have C : zC X G b_X_roadsOfOneWay "GateRoads" 8 (some .int) 4 88 := C
  show zJ X G (zQi X G (fun z u => σ = u ∧ Q z)) 8 0 [(0, .ref (gad G 54)), (1, .int (zI v1)), (2, .int (zI v2)), (3, .int (zI v3))] [] σ
  unfold wp_X_roadsOfOneWay at h
  refine j_iload_n C d_X_roadsOfOneWay_0 1 rfl rfl ?_
  refine j_istore (L' := [(4, .int (zI v1)), (0, .ref (gad G 54)), (1, .int (zI v1)), (2, .int (zI v2)), (3, .int (zI v3))]) C d_X_roadsOfOneWay_1 rfl rfl ?_
  refine j_iconst C d_X_roadsOfOneWay_3 ?_
  refine j_istore (L' := [(5, .int (zI 0)), (4, .int (zI v1)), (0, .ref (gad G 54)), (1, .int (zI v1)), (2, .int (zI v2)), (3, .int (zI v3))]) C d_X_roadsOfOneWay_4 rfl rfl ?_
  refine j_iload_n C d_X_roadsOfOneWay_6 5 rfl rfl ?_
  refine j_istore (L' := [(6, .int (zI v3)), (5, .int (zI 0)), (4, .int (zI v1)), (0, .ref (gad G 54)), (1, .int (zI v1)), (2, .int (zI v2)), (3, .int (zI v3))]) C d_X_roadsOfOneWay_7 rfl rfl ?_
  obtain ⟨n9, h⟩ := h
  refine j_sub (L' := [(0, .ref (gad G 54)), (2, .int (zI v2)), (4, .int (zI v1)), (5, .int (zI 0)), (6, .int (zI v3))]) [3, 5, 2, 1, 0] rfl ?_
  refine w_X_roadsOfOneWay_L9 C hσ r2 n9 v1 0 v3 r1 (zR_of (x := 0) rfl) r3 h
set_option maxRecDepth 100000 in
set_option maxHeartbeats 4000000 in
theorem w_X_needed_b140 {X : zX} {G : zG} (C : zC X G b_X_needed "GateRoads" 9 (some .int) 6 146) {v1 : Int} {v2 : Int} {v3 : Int} {v4 : Int} {v5 : Int} {v6 : Int} (r1 : zR v1) (r2 : zR v2) (r3 : zR v3) (r4 : zR v4) (r5 : zR v5) (r6 : zR v6) {Q : Int → zM → Prop} {k89 : zM → Int → Int → Prop} (hk89 : ∀ (σ : zM) (v7 : Int) (v8 : Int), zRM σ → zR v7 → zR v8 → k89 σ v7 v8 → zJ X G (zQi X G Q) 9 89 [(0, .ref (gad G 54)), (1, .int (zI v1)), (2, .int (zI v2)), (3, .int (zI v3)), (4, .int (zI v4)), (5, .int (zI v5)), (6, .int (zI v6)), (7, .int (zI v7)), (8, .int (zI v8))] [] σ) (σ : zM) (v7 : Int) (v8 : Int) (hσ : zRM σ) (r7 : zR v7) (r8 : zR v8) (h : wp_X_needed_b140 v1 v2 v3 v4 v5 v6 k89 Q σ v7 v8) : zJ X G (zQi X G Q) 9 140 [(0, .ref (gad G 54)), (1, .int (zI v1)), (2, .int (zI v2)), (3, .int (zI v3)), (4, .int (zI v4)), (5, .int (zI v5)), (6, .int (zI v6)), (7, .int (zI v7)), (8, .int (zI v8))] [] σ := by
  unfold wp_X_needed_b140 at h
  obtain ⟨g17, h⟩ := h
  refine j_iinc (L' := [(8, .int (zI (v8 + 1))), (0, .ref (gad G 54)), (1, .int (zI v1)), (2, .int (zI v2)), (3, .int (zI v3)), (4, .int (zI v4)), (5, .int (zI v5)), (6, .int (zI v6)), (7, .int (zI v7))]) C d_X_needed_140 8 rfl rfl rfl ?_
  refine j_goto (tgt := 89) C d_X_needed_143 rfl ?_
  refine j_sub (L' := [(0, .ref (gad G 54)), (1, .int (zI v1)), (2, .int (zI v2)), (3, .int (zI v3)), (4, .int (zI v4)), (5, .int (zI v5)), (6, .int (zI v6)), (7, .int (zI v7)), (8, .int (zI (v8 + 1)))]) [1, 2, 3, 4, 5, 6, 7, 8, 0] rfl ?_
  exact hk89 σ v7 (v8 + 1) hσ r7 g17 h
set_option maxRecDepth 100000 in
set_option maxHeartbeats 4000000 in
theorem w_X_needed_L89 {X : zX} {G : zG} (C : zC X G b_X_needed "GateRoads" 9 (some .int) 6 146) {v1 : Int} {v2 : Int} {v3 : Int} {v4 : Int} {v5 : Int} {v6 : Int} (r1 : zR v1) (r2 : zR v2) (r3 : zR v3) (r4 : zR v4) (r5 : zR v5) (r6 : zR v6) {Q : Int → zM → Prop} : ∀ (n : Nat) (σ : zM) (v7 : Int) (v8 : Int) (hσ : zRM σ) (r7 : zR v7) (r8 : zR v8), wp_X_needed_L89 v1 v2 v3 v4 v5 v6 Q n σ v7 v8 → zJ X G (zQi X G Q) 9 89 [(0, .ref (gad G 54)), (1, .int (zI v1)), (2, .int (zI v2)), (3, .int (zI v3)), (4, .int (zI v4)), (5, .int (zI v5)), (6, .int (zI v6)), (7, .int (zI v7)), (8, .int (zI v8))] [] σ := by
  intro n
  induction n with
  | zero => intro σ v7 v8 hσ r7 r8 h; exact False.elim h
  | succ n ih =>
    intro σ v7 v8 hσ r7 r8 h
    rw [wp_X_needed_L89] at h
    refine j_iload C d_X_needed_89 8 rfl ?_
    refine j_aload_n C d_X_needed_91 0 rfl rfl ?_
    refine j_getr (kf := 0) (m := 0) C d_X_needed_92 sh_54 rfl i_X rfl rfl fl_X_12 ?_
    refine j_geti (kf := 5) (kI := 5) C d_X_needed_95 sh_0 rfl i_S rfl rfl rfl fl_X_80 ?_
    refine j_icmp_ge (tgt := 146) C d_X_needed_98 rfl r8 (hσ _ _) (fun c => ?_) (fun c => ?_)
    · have h := h.1 c
      refine j_iload C d_X_needed_146 7 rfl ?_
      exact j_ireturn C d_X_needed_148 r7 hσ h
    · have h := h.2 c
      refine j_iload C d_X_needed_101 5 rfl ?_
      refine j_iload C d_X_needed_103 8 rfl ?_
      refine j_callS C d_X_needed_105 ml_X_230 ms_X_has (c_X_has (xl X) (gD G) (gad G) (gca G) (v0 := v5) (v1 := v8) hσ r5 r8 h) rfl rfl rfl rfl rfl (fun z15 σ16 rz15 hσ16 h => ?_)
      obtain ⟨ez15, h⟩ := h; subst ez15
      refine j_if_eq (tgt := 140) C d_X_needed_108 rfl rz15 (fun c => ?_) (fun c => ?_)
      · have h := h.1 c
        refine w_X_needed_b140 C r1 r2 r3 r4 r5 r6 ih σ v7 v8 hσ r7 r8 h
      · have h := h.2 c
        refine j_aload_n C d_X_needed_111 0 rfl rfl ?_
        refine j_iload_n C d_X_needed_112 1 rfl rfl ?_
        refine j_iload_n C d_X_needed_113 3 rfl rfl ?_
        refine j_iload C d_X_needed_114 6 rfl ?_
        refine j_iload_n C d_X_needed_116 2 rfl rfl ?_
        refine j_iload C d_X_needed_117 4 rfl ?_
        refine j_iconst C d_X_needed_119 ?_
        refine j_iload C d_X_needed_120 8 rfl ?_
        refine j_ishl C d_X_needed_122 ?_
        refine j_callV C d_X_needed_123 ml_X_233 mi_X_firstComing (c_X_firstComing (xl X) (gD G) (gad G) (gca G) (v1 := v1) (v2 := v3) (v3 := v6) (v4 := v2) (v5 := v4) (v6 := zShl 1 v8) hσ r1 r3 r6 r2 r4 (zShl_rg _ _) h) sh_54 rfl rfl rfl rfl rfl rfl rfl (fun z18 σ19 rz18 hσ19 h => ?_)
        refine j_bipush C d_X_needed_126 rfl ?_
        refine j_icmp_ne (tgt := 140) C d_X_needed_128 rfl rz18 (zR_of (x := (-6)) rfl) (fun c => ?_) (fun c => ?_)
        · have h := h.1 c
          refine w_X_needed_b140 C r1 r2 r3 r4 r5 r6 ih σ19 v7 v8 hσ19 r7 r8 h
        · have h := h.2 c
          refine j_iload C d_X_needed_131 7 rfl ?_
          refine j_iconst C d_X_needed_133 ?_
          refine j_iload C d_X_needed_134 8 rfl ?_
          refine j_ishl C d_X_needed_136 ?_
          refine j_ior C d_X_needed_137 ?_
          refine j_istore (L' := [(7, .int (zI (zOr v7 (zShl 1 v8)))), (0, .ref (gad G 54)), (1, .int (zI v1)), (2, .int (zI v2)), (3, .int (zI v3)), (4, .int (zI v4)), (5, .int (zI v5)), (6, .int (zI v6)), (8, .int (zI v8))]) C d_X_needed_138 rfl rfl ?_
          refine j_sub (L' := [(0, .ref (gad G 54)), (1, .int (zI v1)), (2, .int (zI v2)), (3, .int (zI v3)), (4, .int (zI v4)), (5, .int (zI v5)), (6, .int (zI v6)), (7, .int (zI (zOr v7 (zShl 1 v8)))), (8, .int (zI v8))]) [1, 2, 3, 4, 5, 6, 7, 0, 8] rfl ?_
          refine w_X_needed_b140 C r1 r2 r3 r4 r5 r6 ih σ19 (zOr v7 (zShl 1 v8)) v8 hσ19 (zOr_rg _ _) r8 h
set_option maxRecDepth 100000 in
set_option maxHeartbeats 4000000 in
theorem c_X_needed (l : Launch) (D : va_G) (ad : Nat → Nat) (ca : Nat → ClassId) {σ : zM} {v1 : Int} {v2 : Int} {v3 : Int} {Q : Int → zM → Prop} (hσ : zRM σ) (r1 : zR v1) (r2 : zR v2) (r3 : zR v3) (h : wp_X_needed σ v1 v2 v3 Q) : zCi l D ad ca y_X_needed b_X_needed 9 (some .int) (zrm 6 146) [.ref (ad 54), .int (zI v1), .int (zI v2), .int (zI v3)] σ Q := by
  refine zCi_of (by decide +kernel) (Nat.le_of_ble_eq_true rfl) ?_
  intro X G C hl hD had hca
  subst hl hD had hca
  have C : zC X G b_X_needed "GateRoads" 9 (some .int) 6 146 := C
  show zJ X G (zQi X G Q) 9 0 [(0, .ref (gad G 54)), (1, .int (zI v1)), (2, .int (zI v2)), (3, .int (zI v3))] [] σ
  unfold wp_X_needed at h
  refine j_iload_n C d_X_needed_0 1 rfl rfl ?_
  refine j_callS C d_X_needed_1 ml_X_65 ms_X_isPlace (c_X_isPlace (xl X) (gD G) (gad G) (gca G) (v0 := v1) hσ r1 h) rfl rfl rfl rfl rfl (fun z1 σ2 rz1 hσ2 h => ?_)
  obtain ⟨ez1, h⟩ := h; subst ez1
  refine j_if_eq (tgt := 14) C d_X_needed_4 rfl rz1 (fun c => ?_) (fun c => ?_)
  · have h := h.1 c
    refine j_iconst C d_X_needed_14 ?_
    exact j_ireturn C d_X_needed_15 (zR_of (x := (-1)) rfl) hσ h
  · have h := h.2 c
    refine j_iload_n C d_X_needed_7 2 rfl rfl ?_
    refine j_callS C d_X_needed_8 ml_X_65 ms_X_isPlace (c_X_isPlace (xl X) (gD G) (gad G) (gca G) (v0 := v2) hσ r2 h) rfl rfl rfl rfl rfl (fun z3 σ4 rz3 hσ4 h => ?_)
    obtain ⟨ez3, h⟩ := h; subst ez3
    refine j_if_ne (tgt := 16) C d_X_needed_11 rfl rz3 (fun c => ?_) (fun c => ?_)
    · have h := h.1 c
      refine j_iload_n C d_X_needed_16 3 rfl rfl ?_
      refine j_iconst C d_X_needed_17 ?_
      refine j_sipush C d_X_needed_18 rfl ?_
      refine j_callS C d_X_needed_21 ml_X_69 ms_X_within (c_X_within (xl X) (gD G) (gad G) (gca G) (v0 := v3) (v1 := 0) (v2 := 2880) hσ r3 (zR_of (x := 0) rfl) (zR_of (x := 2880) rfl) h) rfl rfl rfl rfl rfl (fun z5 σ6 rz5 hσ6 h => ?_)
      obtain ⟨ez5, h⟩ := h; subst ez5
      refine j_if_ne (tgt := 30) C d_X_needed_24 rfl rz5 (fun c => ?_) (fun c => ?_)
      · have h := h.1 c
        refine j_iload_n C d_X_needed_30 1 rfl rfl ?_
        refine j_iload_n C d_X_needed_31 2 rfl rfl ?_
        refine j_icmp_ne (tgt := 37) C d_X_needed_32 rfl r1 r2 (fun c => ?_) (fun c => ?_)
        · have h := h.1 c
          refine j_aload_n C d_X_needed_37 0 rfl rfl ?_
          refine j_iload_n C d_X_needed_38 1 rfl rfl ?_
          refine j_iload_n C d_X_needed_39 2 rfl rfl ?_
          refine j_iload_n C d_X_needed_40 3 rfl rfl ?_
          refine j_callV C d_X_needed_41 ml_X_180 mi_X_earliestTime (c_X_earliestTime (xl X) (gD G) (gad G) (gca G) (v1 := v1) (v2 := v2) (v3 := v3) hσ r1 r2 r3 h) sh_54 rfl rfl rfl rfl rfl rfl rfl (fun z7 σ8 rz7 hσ8 h => ?_)
          refine j_istore (L' := [(4, .int (zI z7)), (0, .ref (gad G 54)), (1, .int (zI v1)), (2, .int (zI v2)), (3, .int (zI v3))]) C d_X_needed_44 rfl rfl ?_
          refine j_iload C d_X_needed_46 0 rfl ?_
          refine j_bipush C d_X_needed_48 rfl ?_
          refine j_icmp_ne (tgt := 55) C d_X_needed_50 rfl rz7 (zR_of (x := (-6)) rfl) (fun c => ?_) (fun c => ?_)
          · have h := h.1 c
            refine j_aload_n C d_X_needed_55 1 rfl rfl ?_
            refine j_iload_n C d_X_needed_56 3 rfl rfl ?_
            refine j_iload_n C d_X_needed_57 4 rfl rfl ?_
            refine j_iload C d_X_needed_58 0 rfl ?_
            refine j_callVv C d_X_needed_60 ml_X_205 mi_X_lookBack (c_X_lookBack (xl X) (gD G) (gad G) (gca G) (v1 := v2) (v2 := v3) (v3 := z7) hσ8 r2 r3 rz7 h) sh_54 rfl rfl rfl rfl rfl rfl rfl (fun σ10 hσ10 h => ?_)
            refine j_aload_n C d_X_needed_63 1 rfl rfl ?_
            refine j_iload_n C d_X_needed_64 2 rfl rfl ?_
            refine j_iload_n C d_X_needed_65 3 rfl rfl ?_
            refine j_iload_n C d_X_needed_66 4 rfl rfl ?_
            refine j_callV C d_X_needed_67 ml_X_227 mi_X_roadsOfOneWay (c_X_roadsOfOneWay (xl X) (gD G) (gad G) (gca G) (v1 := v1) (v2 := v2) (v3 := v3) hσ10 r1 r2 r3 h) sh_54 rfl rfl rfl rfl rfl rfl rfl (fun z11 σ12 rz11 hσ12 h => ?_)
            obtain ⟨ez11, h⟩ := h; subst ez11
            refine j_istore (L' := [(5, .int (zI z11)), (4, .int (zI z7)), (0, .ref (gad G 54)), (1, .int (zI v1)), (2, .int (zI v2)), (3, .int (zI v3))]) C d_X_needed_70 rfl rfl ?_
            refine j_aload_n C d_X_needed_72 2 rfl rfl ?_
            refine j_getr (kf := 0) (m := 0) C d_X_needed_73 sh_54 rfl i_X rfl rfl fl_X_12 ?_
            refine j_iload_n C d_X_needed_76 3 rfl rfl ?_
            refine j_iload_n C d_X_needed_77 5 rfl rfl ?_
            refine j_callV C d_X_needed_78 ml_X_217 mi_S_waitEnd (c_S_waitEnd (xl X) (gD G) (gad G) (gca G) (v1 := v1) (v2 := v3) hσ10 r1 r3 h) sh_0 rfl rfl rfl rfl rfl rfl rfl (fun z13 σ14 rz13 hσ14 h => ?_)
            obtain ⟨ez13, h⟩ := h; subst ez13
            refine j_istore (L' := [(6, .int (zI z13)), (5, .int (zI z11)), (4, .int (zI z7)), (0, .ref (gad G 54)), (1, .int (zI v1)), (2, .int (zI v2)), (3, .int (zI v3))]) C d_X_needed_81 rfl rfl ?_
            refine j_iconst C d_X_needed_83 ?_
            refine j_istore (L' := [(7, .int (zI 0)), (6, .int (zI z13)), (5, .int (zI z11)), (4, .int (zI z7)), (0, .ref (gad G 54)), (1, .int (zI v1)), (2, .int (zI v2)), (3, .int (zI v3))]) C d_X_needed_84 rfl rfl ?_
            refine j_iconst C d_X_needed_86 ?_
            refine j_istore (L' := [(8, .int (zI 0)), (7, .int (zI 0)), (6, .int (zI z13)), (5, .int (zI z11)), (4, .int (zI z7)), (0, .ref (gad G 54)), (1, .int (zI v1)), (2, .int (zI v2)), (3, .int (zI v3))]) C d_X_needed_87 rfl rfl ?_
            obtain ⟨n20, h⟩ := h
            refine j_sub (L' := [(0, .ref (gad G 54)), (1, .int (zI v1)), (2, .int (zI v2)), (3, .int (zI v3)), (4, .int (zI z7)), (5, .int (zI z11)), (6, .int (zI z13)), (7, .int (zI 0)), (8, .int (zI 0))]) [5, 6, 7, 8, 4, 3, 2, 1, 0] rfl ?_
            refine w_X_needed_L89 C r1 r2 r3 rz7 rz11 rz13 n20 σ10 0 0 hσ10 (zR_of (x := 0) rfl) (zR_of (x := 0) rfl) h
          · have h := h.2 c
            refine j_iconst C d_X_needed_53 ?_
            exact j_ireturn C d_X_needed_54 (zR_of (x := 0) rfl) hσ8 h
        · have h := h.2 c
          refine j_iconst C d_X_needed_35 ?_
          exact j_ireturn C d_X_needed_36 (zR_of (x := 0) rfl) hσ h
      · have h := h.2 c
        refine j_bipush C d_X_needed_27 rfl ?_
        exact j_ireturn C d_X_needed_29 (zR_of (x := (-2)) rfl) hσ h
    · have h := h.2 c
      refine j_iconst C d_X_needed_14 ?_
      exact j_ireturn C d_X_needed_15 (zR_of (x := (-1)) rfl) hσ h
set_option maxRecDepth 100000 in
set_option maxHeartbeats 4000000 in
theorem c_S_stayLeft (l : Launch) (D : va_G) (ad : Nat → Nat) (ca : Nat → ClassId) {σ : zM} {v1 : Int} {Q : Int → Prop} (hσ : zRM σ) (r1 : zR v1) (h : wp_S_stayLeft σ v1 Q) : zCi l D ad ca y_S_stayLeft b_S_stayLeft 6 (some .int) (zrm 2 47) [.ref (ad 0), .int (zI v1)] σ (fun z u => σ = u ∧ Q z) := by
  refine zCi_of (by decide +kernel) (Nat.le_of_ble_eq_true rfl) ?_
  intro X G C hl hD had hca
  subst hl hD had hca
  have C : zC X G b_S_stayLeft "GateRoads$State" 6 (some .int) 2 47 := C
  show zJ X G (zQi X G (fun z u => σ = u ∧ Q z)) 6 0 [(0, .ref (gad G 0)), (1, .int (zI v1))] [] σ
  unfold wp_S_stayLeft at h
  refine j_aload_n C d_S_stayLeft_0 0 rfl rfl ?_
  refine j_iload_n C d_S_stayLeft_1 1 rfl rfl ?_
  refine j_iconst C d_S_stayLeft_2 ?_
  refine j_callV C d_S_stayLeft_3 ml_S_67 mi_S_ofTravellers (c_S_ofTravellers (xl X) (gD G) (gad G) (gca G) (v1 := v1) (v2 := 0) hσ r1 (zR_of (x := 0) rfl) h) sh_0 rfl rfl rfl rfl rfl rfl rfl (fun z1 σ2 rz1 hσ2 h => ?_)
  obtain ⟨ez1, h⟩ := h; subst ez1
  refine j_istore_n (L' := [(2, .int (zI z1)), (0, .ref (gad G 0)), (1, .int (zI v1))]) C d_S_stayLeft_6 rfl rfl rfl ?_
  refine j_aload_n C d_S_stayLeft_7 1 rfl rfl ?_
  refine j_iload_n C d_S_stayLeft_8 2 rfl rfl ?_
  refine j_iconst C d_S_stayLeft_9 ?_
  refine j_callV C d_S_stayLeft_10 ml_S_67 mi_S_ofTravellers (c_S_ofTravellers (xl X) (gD G) (gad G) (gca G) (v1 := v1) (v2 := 1) hσ r1 (zR_of (x := 1) rfl) h) sh_0 rfl rfl rfl rfl rfl rfl rfl (fun z3 σ4 rz3 hσ4 h => ?_)
  obtain ⟨ez3, h⟩ := h; subst ez3
  refine j_istore_n (L' := [(3, .int (zI z3)), (2, .int (zI z1)), (0, .ref (gad G 0)), (1, .int (zI v1))]) C d_S_stayLeft_13 rfl rfl rfl ?_
  refine j_aload_n C d_S_stayLeft_14 2 rfl rfl ?_
  refine j_iload_n C d_S_stayLeft_15 3 rfl rfl ?_
  refine j_iconst C d_S_stayLeft_16 ?_
  refine j_callV C d_S_stayLeft_17 ml_S_67 mi_S_ofTravellers (c_S_ofTravellers (xl X) (gD G) (gad G) (gca G) (v1 := v1) (v2 := 2) hσ r1 (zR_of (x := 2) rfl) h) sh_0 rfl rfl rfl rfl rfl rfl rfl (fun z5 σ6 rz5 hσ6 h => ?_)
  obtain ⟨ez5, h⟩ := h; subst ez5
  refine j_aload_n C d_S_stayLeft_20 2 rfl rfl ?_
  refine j_iload_n C d_S_stayLeft_21 1 rfl rfl ?_
  refine j_iconst C d_S_stayLeft_22 ?_
  refine j_callV C d_S_stayLeft_23 ml_S_73 mi_S_ofRooms (c_S_ofRooms (xl X) (gD G) (gad G) (gca G) (v1 := z1) (v2 := 2) hσ rz1 (zR_of (x := 2) rfl) h) sh_0 rfl rfl rfl rfl rfl rfl rfl (fun z7 σ8 rz7 hσ8 h => ?_)
  obtain ⟨ez7, h⟩ := h; subst ez7
  refine j_iadd C d_S_stayLeft_26 ?_
  obtain ⟨g9, h⟩ := h
  refine j_istore (L' := [(4, .int (zI (z5 + z7))), (3, .int (zI z3)), (2, .int (zI z1)), (0, .ref (gad G 0)), (1, .int (zI v1))]) C d_S_stayLeft_27 rfl rfl ?_
  refine j_aload_n C d_S_stayLeft_29 3 rfl rfl ?_
  refine j_iload_n C d_S_stayLeft_30 2 rfl rfl ?_
  refine j_iload_n C d_S_stayLeft_31 1 rfl rfl ?_
  refine j_callV C d_S_stayLeft_32 ml_S_76 mi_S_openUntil (c_S_openUntil (xl X) (gD G) (gad G) (gca G) (v1 := z1) (v2 := z3) hσ rz1 rz3 h) sh_0 rfl rfl rfl rfl rfl rfl rfl (fun z10 σ11 rz10 hσ11 h => ?_)
  obtain ⟨ez10, h⟩ := h; subst ez10
  refine j_iload C d_S_stayLeft_35 0 rfl ?_
  refine j_min C d_S_stayLeft_37 ml_S_79 zs_min zi_Math zc_min rfl rfl rz10 g9 ?_
  refine j_sipush C d_S_stayLeft_40 rfl ?_
  refine j_min C d_S_stayLeft_43 ml_S_79 zs_min zi_Math zc_min rfl rfl (zMin_rg rz10 g9) (zR_of (x := 2880) rfl) ?_
  refine j_name (fun t12 et12 => ?_)
  have h := h t12 et12
  have rt12 : zR t12 := by rw [et12]; exact (zMin_rg (zMin_rg rz10 g9) (zR_of (x := 2880) rfl))
  refine j_istore (L' := [(5, .int (zI t12)), (4, .int (zI (z5 + z7))), (3, .int (zI z3)), (2, .int (zI z1)), (0, .ref (gad G 0)), (1, .int (zI v1))]) C d_S_stayLeft_46 rfl rfl ?_
  refine j_iload C d_S_stayLeft_48 0 rfl ?_
  refine j_iload_n C d_S_stayLeft_50 2 rfl rfl ?_
  refine j_isub C d_S_stayLeft_51 ?_
  refine j_iconst C d_S_stayLeft_52 ?_
  obtain ⟨g13, h⟩ := h
  refine j_max C d_S_stayLeft_53 ml_S_84 zs_max zi_Math zc_max rfl rfl g13 (zR_of (x := 0) rfl) ?_
  exact j_ireturn C d_S_stayLeft_56 (zMax_rg g13 (zR_of (x := 0) rfl)) hσ ⟨rfl, h⟩
set_option maxRecDepth 100000 in
set_option maxHeartbeats 4000000 in
theorem c_In_bitCount (l : Launch) (D : va_G) (ad : Nat → Nat) (ca : Nat → ClassId) {σ : zM} {v0 : Int} {Q : Int → Prop} (hσ : zRM σ) (r0 : zR v0) (h : wp_In_bitCount σ v0 Q) : zCi l D ad ca y_In_bitCount b_In_bitCount 1 (some .int) (zrm 0 0) [.int (zI v0)] σ (fun z u => σ = u ∧ Q z) := by
  refine zCi_of (by decide +kernel) (Nat.le_of_ble_eq_true rfl) ?_
  intro X G C hl hD had hca
  subst hl hD had hca
  have C : zC X G b_In_bitCount "java/lang/Integer" 1 (some .int) 0 0 := C
  show zJ X G (zQi X G (fun z u => σ = u ∧ Q z)) 1 0 [(0, .int (zI v0))] [] σ
  unfold wp_In_bitCount at h
  refine j_iload_n C d_In_bitCount_0 0 rfl rfl ?_
  refine j_iload_n C d_In_bitCount_1 0 rfl rfl ?_
  refine j_iconst C d_In_bitCount_2 ?_
  refine j_iushr C d_In_bitCount_3 ?_
  refine j_ldcw (n := 1431655765) C ck_In_265 rfl d_In_bitCount_4 ?_
  refine j_iand C d_In_bitCount_7 ?_
  refine j_isub C d_In_bitCount_8 ?_
  obtain ⟨g1, h⟩ := h
  refine j_name (fun t2 et2 => ?_)
  have h := h t2 et2
  have rt2 : zR t2 := by rw [et2]; exact g1
  refine j_istore_n (L' := [(0, .int (zI t2))]) C d_In_bitCount_9 rfl rfl rfl ?_
  refine j_iload_n C d_In_bitCount_10 0 rfl rfl ?_
  refine j_ldcw (n := 858993459) C ck_In_266 rfl d_In_bitCount_11 ?_
  refine j_iand C d_In_bitCount_14 ?_
  refine j_iload_n C d_In_bitCount_15 0 rfl rfl ?_
  refine j_iconst C d_In_bitCount_16 ?_
  refine j_iushr C d_In_bitCount_17 ?_
  refine j_ldcw (n := 858993459) C ck_In_266 rfl d_In_bitCount_18 ?_
  refine j_iand C d_In_bitCount_21 ?_
  refine j_iadd C d_In_bitCount_22 ?_
  obtain ⟨g3, h⟩ := h
  refine j_name (fun t4 et4 => ?_)
  have h := h t4 et4
  have rt4 : zR t4 := by rw [et4]; exact g3
  refine j_istore_n (L' := [(0, .int (zI t4))]) C d_In_bitCount_23 rfl rfl rfl ?_
  refine j_iload_n C d_In_bitCount_24 0 rfl rfl ?_
  refine j_iload_n C d_In_bitCount_25 0 rfl rfl ?_
  refine j_iconst C d_In_bitCount_26 ?_
  refine j_iushr C d_In_bitCount_27 ?_
  refine j_iadd C d_In_bitCount_28 ?_
  refine j_ldcw (n := 252645135) C ck_In_267 rfl d_In_bitCount_29 ?_
  refine j_iand C d_In_bitCount_32 ?_
  refine j_name (fun t5 et5 => ?_)
  have h := h t5 et5
  have rt5 : zR t5 := by rw [et5]; exact (zAnd_rg _ _)
  refine j_istore_n (L' := [(0, .int (zI t5))]) C d_In_bitCount_33 rfl rfl rfl ?_
  refine j_iload_n C d_In_bitCount_34 0 rfl rfl ?_
  refine j_iload_n C d_In_bitCount_35 0 rfl rfl ?_
  refine j_bipush C d_In_bitCount_36 rfl ?_
  refine j_iushr C d_In_bitCount_38 ?_
  refine j_iadd C d_In_bitCount_39 ?_
  obtain ⟨g6, h⟩ := h
  refine j_istore_n (L' := [(0, .int (zI (t5 + (zUshr t5 8))))]) C d_In_bitCount_40 rfl rfl rfl ?_
  refine j_iload_n C d_In_bitCount_41 0 rfl rfl ?_
  refine j_iload_n C d_In_bitCount_42 0 rfl rfl ?_
  refine j_bipush C d_In_bitCount_43 rfl ?_
  refine j_iushr C d_In_bitCount_45 ?_
  refine j_iadd C d_In_bitCount_46 ?_
  obtain ⟨g7, h⟩ := h
  refine j_name (fun t8 et8 => ?_)
  have h := h t8 et8
  have rt8 : zR t8 := by rw [et8]; exact g7
  refine j_istore_n (L' := [(0, .int (zI t8))]) C d_In_bitCount_47 rfl rfl rfl ?_
  refine j_iload_n C d_In_bitCount_48 0 rfl rfl ?_
  refine j_bipush C d_In_bitCount_49 rfl ?_
  refine j_iand C d_In_bitCount_51 ?_
  exact j_ireturn C d_In_bitCount_52 (zAnd_rg _ _) hσ ⟨rfl, h⟩
set_option maxRecDepth 100000 in
set_option maxHeartbeats 4000000 in
theorem c_X_lowest (l : Launch) (D : va_G) (ad : Nat → Nat) (ca : Nat → ClassId) {σ : zM} {v0 : Int} {Q : Int → Prop} (hσ : zRM σ) (r0 : zR v0) (h : wp_X_lowest σ v0 Q) : zCi l D ad ca y_X_lowest b_X_lowest 1 (some .int) (zrm 1 20) [.int (zI v0)] σ (fun z u => σ = u ∧ Q z) := by
  refine zCi_of (by decide +kernel) (Nat.le_of_ble_eq_true rfl) ?_
  intro X G C hl hD had hca
  subst hl hD had hca
  have C : zC X G b_X_lowest "GateRoads" 1 (some .int) 1 20 := C
  show zJ X G (zQi X G (fun z u => σ = u ∧ Q z)) 1 0 [(0, .int (zI v0))] [] σ
  unfold wp_X_lowest at h
  refine j_iload_n C d_X_lowest_0 0 rfl rfl ?_
  refine j_iload_n C d_X_lowest_1 0 rfl rfl ?_
  refine j_ineg C d_X_lowest_2 ?_
  refine j_iand C d_X_lowest_3 ?_
  refine j_iconst C d_X_lowest_4 ?_
  refine j_isub C d_X_lowest_5 ?_
  obtain ⟨g1, h⟩ := h
  refine j_callS C d_X_lowest_6 ml_X_285 ms_In_bitCount (c_In_bitCount (xl X) (gD G) (gad G) (gca G) (v0 := (zAnd v0 (-v0)) - 1) hσ g1 h) rfl rfl rfl rfl rfl (fun z2 σ3 rz2 hσ3 h => ?_)
  obtain ⟨ez2, h⟩ := h; subst ez2
  exact j_ireturn C d_X_lowest_9 rz2 hσ ⟨rfl, h⟩
set_option maxRecDepth 100000 in
set_option maxHeartbeats 4000000 in
theorem w_X_meet_b205 {X : zX} {G : zG} (C : zC X G b_X_meet "GateRoads" 10 (some .int) 4 96) {v3 : Int} {v4 : Int} {v5 : Int} (r3 : zR v3) (r4 : zR v4) (r5 : zR v5) {Q : Int → zM → Prop} {k132 : zM → Int → Prop} (hk132 : ∀ (σ : zM) (v6 : Int), zRM σ → zR v6 → k132 σ v6 → zJ X G (zQi X G Q) 10 132 [(0, .ref (gad G 54)), (3, .int (zI v3)), (4, .int (zI v4)), (5, .int (zI v5)), (6, .int (zI v6))] [] σ) (σ : zM) (v6 : Int) (v8 : Int) (s0 : Int) (hσ : zRM σ) (r6 : zR v6) (r8 : zR v8) (rs0 : zR s0) (h : wp_X_meet_b205 v3 v4 v5 k132 Q σ v6 v8 s0) : zJ X G (zQi X G Q) 10 205 [(0, .ref (gad G 54)), (3, .int (zI v3)), (4, .int (zI v4)), (5, .int (zI v5)), (6, .int (zI v6)), (8, .int (zI v8))] [.int (zI s0)] σ := by
  unfold wp_X_meet_b205 at h
  refine j_istore (L' := [(9, .int (zI s0)), (0, .ref (gad G 54)), (3, .int (zI v3)), (4, .int (zI v4)), (5, .int (zI v5)), (6, .int (zI v6)), (8, .int (zI v8))]) C d_X_meet_205 rfl rfl ?_
  refine j_iload C d_X_meet_207 6 rfl ?_
  refine j_iload C d_X_meet_209 0 rfl ?_
  refine j_iand C d_X_meet_211 ?_
  refine j_if_eq (tgt := 233) C d_X_meet_212 rfl (zAnd_rg _ _) (fun c => ?_) (fun c => ?_)
  · have h := h.1 c
    obtain ⟨g33, h⟩ := h
    refine j_iinc (L' := [(6, .int (zI (v6 + 1))), (9, .int (zI s0)), (0, .ref (gad G 54)), (3, .int (zI v3)), (4, .int (zI v4)), (5, .int (zI v5)), (8, .int (zI v8))]) C d_X_meet_233 5 rfl rfl rfl ?_
    refine j_goto (tgt := 132) C d_X_meet_236 rfl ?_
    refine j_sub (L' := [(0, .ref (gad G 54)), (3, .int (zI v3)), (4, .int (zI v4)), (5, .int (zI v5)), (6, .int (zI (v6 + 1)))]) [2, 3, 4, 5, 0] rfl ?_
    exact hk132 σ (v6 + 1) hσ g33 h
  · have h := h.2 c
    refine j_iload_n C d_X_meet_215 2 rfl rfl ?_
    refine j_if_ne (tgt := 224) C d_X_meet_216 rfl r3 (fun c => ?_) (fun c => ?_)
    · have h := h.1 c
      refine j_iload C d_X_meet_224 6 rfl ?_
      refine j_iload C d_X_meet_226 0 rfl ?_
      refine j_iand C d_X_meet_228 ?_
      refine j_callS C d_X_meet_229 ml_X_245 ms_X_lowest (c_X_lowest (xl X) (gD G) (gad G) (gca G) (v0 := zAnd v8 s0) hσ (zAnd_rg _ _) h) rfl rfl rfl rfl rfl (fun z34 σ35 rz34 hσ35 h => ?_)
      obtain ⟨ez34, h⟩ := h; subst ez34
      exact j_ireturn C d_X_meet_232 rz34 hσ h
    · have h := h.2 c
      refine j_iload C d_X_meet_219 5 rfl ?_
      refine j_goto (tgt := 232) C d_X_meet_221 rfl ?_
      exact j_ireturn C d_X_meet_232 r6 hσ h
set_option maxRecDepth 100000 in
set_option maxHeartbeats 4000000 in
theorem w_X_meet_b177 {X : zX} {G : zG} (C : zC X G b_X_meet "GateRoads" 10 (some .int) 4 96) {v3 : Int} {v4 : Int} {v5 : Int} (r3 : zR v3) (r4 : zR v4) (r5 : zR v5) {Q : Int → zM → Prop} {k132 : zM → Int → Prop} (hk132 : ∀ (σ : zM) (v6 : Int), zRM σ → zR v6 → k132 σ v6 → zJ X G (zQi X G Q) 10 132 [(0, .ref (gad G 54)), (3, .int (zI v3)), (4, .int (zI v4)), (5, .int (zI v5)), (6, .int (zI v6))] [] σ) (σ : zM) (v6 : Int) (v7 : Int) (s0 : Int) (hσ : zRM σ) (r6 : zR v6) (r7 : zR v7) (rs0 : zR s0) (h : wp_X_meet_b177 v3 v4 v5 k132 Q σ v6 v7 s0) : zJ X G (zQi X G Q) 10 177 [(0, .ref (gad G 54)), (3, .int (zI v3)), (4, .int (zI v4)), (5, .int (zI v5)), (6, .int (zI v6)), (7, .int (zI v7))] [.int (zI s0)] σ := by
  unfold wp_X_meet_b177 at h
  refine j_istore (L' := [(8, .int (zI s0)), (0, .ref (gad G 54)), (3, .int (zI v3)), (4, .int (zI v4)), (5, .int (zI v5)), (6, .int (zI v6)), (7, .int (zI v7))]) C d_X_meet_177 rfl rfl ?_
  refine j_iload C d_X_meet_179 5 rfl ?_
  refine j_iload C d_X_meet_181 4 rfl ?_
  refine j_icmp_ge (tgt := 190) C d_X_meet_183 rfl r6 r5 (fun c => ?_) (fun c => ?_)
  · have h := h.1 c
    refine j_aload_n C d_X_meet_190 1 rfl rfl ?_
    refine j_getr (kf := 10) (m := 67) C d_X_meet_191 sh_54 rfl i_X rfl rfl fl_X_48 ?_
    refine j_aload_n C d_X_meet_194 1 rfl rfl ?_
    refine j_getr (kf := 0) (m := 0) C d_X_meet_195 sh_54 rfl i_X rfl rfl fl_X_12 ?_
    refine j_iload C d_X_meet_198 6 rfl ?_
    refine j_iload C d_X_meet_200 5 rfl ?_
    refine j_callV C d_X_meet_202 ml_X_224 mi_O_minute (c_O_minute (xl X) (gD G) (gad G) (gca G) (o := 67) (v2 := v7) (v3 := v6) hσ zOn67 r7 r6 h) sh_67 rfl rfl rfl rfl rfl rfl rfl (fun z31 σ32 rz31 hσ32 h => ?_)
    refine j_sub (L' := [(0, .ref (gad G 54)), (3, .int (zI v3)), (4, .int (zI v4)), (5, .int (zI v5)), (6, .int (zI v6)), (8, .int (zI s0))]) [1, 2, 3, 4, 5, 0] rfl ?_
    refine w_X_meet_b205 C r3 r4 r5 hk132 σ32 v6 s0 z31 hσ32 r6 rs0 rz31 h
  · have h := h.2 c
    refine j_iconst C d_X_meet_186 ?_
    refine j_goto (tgt := 205) C d_X_meet_187 rfl ?_
    refine j_sub (L' := [(0, .ref (gad G 54)), (3, .int (zI v3)), (4, .int (zI v4)), (5, .int (zI v5)), (6, .int (zI v6)), (8, .int (zI s0))]) [1, 2, 3, 4, 5, 0] rfl ?_
    refine w_X_meet_b205 C r3 r4 r5 hk132 σ v6 s0 0 hσ r6 rs0 (zR_of (x := 0) rfl) h
set_option maxRecDepth 100000 in
set_option maxHeartbeats 4000000 in
theorem w_X_meet_L132 {X : zX} {G : zG} (C : zC X G b_X_meet "GateRoads" 10 (some .int) 4 96) {v3 : Int} {v4 : Int} {v5 : Int} (r3 : zR v3) (r4 : zR v4) (r5 : zR v5) {Q : Int → zM → Prop} : ∀ (n : Nat) (σ : zM) (v6 : Int) (hσ : zRM σ) (r6 : zR v6), wp_X_meet_L132 v3 v4 v5 Q n σ v6 → zJ X G (zQi X G Q) 10 132 [(0, .ref (gad G 54)), (3, .int (zI v3)), (4, .int (zI v4)), (5, .int (zI v5)), (6, .int (zI v6))] [] σ := by
  intro n
  induction n with
  | zero => intro σ v6 hσ r6 h; exact False.elim h
  | succ n ih =>
    intro σ v6 hσ r6 h
    rw [wp_X_meet_L132] at h
    refine j_iload C d_X_meet_132 4 rfl ?_
    refine j_sipush C d_X_meet_134 rfl ?_
    refine j_icmp_gt (tgt := 239) C d_X_meet_137 rfl r6 (zR_of (x := 2880) rfl) (fun c => ?_) (fun c => ?_)
    · have h := h.1 c
      refine j_bipush C d_X_meet_239 rfl ?_
      exact j_ireturn C d_X_meet_241 (zR_of (x := (-6)) rfl) hσ h
    · have h := h.2 c
      refine j_aload_n C d_X_meet_140 0 rfl rfl ?_
      refine j_getr (kf := 8) (m := 62) C d_X_meet_141 sh_54 rfl i_X rfl rfl fl_X_37 ?_
      refine j_iload C d_X_meet_144 4 rfl ?_
      refine j_callV C d_X_meet_146 ml_X_190 mi_G_at (c_G_at (xl X) (gD G) (gad G) (gca G) (v1 := v6) hσ r6 h) sh_62 rfl rfl rfl rfl rfl rfl rfl (fun z27 σ28 rz27 hσ28 h => ?_)
      obtain ⟨ez27, h⟩ := h; subst ez27
      refine j_istore (L' := [(7, .int (zI z27)), (0, .ref (gad G 54)), (3, .int (zI v3)), (4, .int (zI v4)), (5, .int (zI v5)), (6, .int (zI v6))]) C d_X_meet_149 rfl rfl ?_
      refine j_iload C d_X_meet_151 5 rfl ?_
      refine j_iload C d_X_meet_153 3 rfl ?_
      refine j_icmp_ge (tgt := 162) C d_X_meet_155 rfl r6 r4 (fun c => ?_) (fun c => ?_)
      · have h := h.1 c
        refine j_aload_n C d_X_meet_162 1 rfl rfl ?_
        refine j_getr (kf := 9) (m := 64) C d_X_meet_163 sh_54 rfl i_X rfl rfl fl_X_44 ?_
        refine j_aload_n C d_X_meet_166 1 rfl rfl ?_
        refine j_getr (kf := 0) (m := 0) C d_X_meet_167 sh_54 rfl i_X rfl rfl fl_X_12 ?_
        refine j_iload C d_X_meet_170 0 rfl ?_
        refine j_iload C d_X_meet_172 5 rfl ?_
        refine j_callV C d_X_meet_174 ml_X_224 mi_O_minute (c_O_minute (xl X) (gD G) (gad G) (gca G) (o := 64) (v2 := z27) (v3 := v6) hσ zOn64 rz27 r6 h) sh_64 rfl rfl rfl rfl rfl rfl rfl (fun z29 σ30 rz29 hσ30 h => ?_)
        refine j_sub (L' := [(0, .ref (gad G 54)), (3, .int (zI v3)), (4, .int (zI v4)), (5, .int (zI v5)), (6, .int (zI v6)), (7, .int (zI z27))]) [1, 2, 3, 4, 5, 0] rfl ?_
        refine w_X_meet_b177 C r3 r4 r5 ih σ30 v6 z27 z29 hσ30 r6 rz27 rz29 h
      · have h := h.2 c
        refine j_iconst C d_X_meet_158 ?_
        refine j_goto (tgt := 177) C d_X_meet_159 rfl ?_
        refine j_sub (L' := [(0, .ref (gad G 54)), (3, .int (zI v3)), (4, .int (zI v4)), (5, .int (zI v5)), (6, .int (zI v6)), (7, .int (zI z27))]) [1, 2, 3, 4, 5, 0] rfl ?_
        refine w_X_meet_b177 C r3 r4 r5 ih σ v6 z27 0 hσ r6 rz27 (zR_of (x := 0) rfl) h
set_option maxRecDepth 100000 in
set_option maxHeartbeats 4000000 in
theorem c_X_meet (l : Launch) (D : va_G) (ad : Nat → Nat) (ca : Nat → ClassId) {σ : zM} {v1 : Int} {v2 : Int} {v3 : Int} {Q : Int → zM → Prop} (hσ : zRM σ) (r1 : zR v1) (r2 : zR v2) (r3 : zR v3) (h : wp_X_meet σ v1 v2 v3 Q) : zCi l D ad ca y_X_meet b_X_meet 10 (some .int) (zrm 4 96) [.ref (ad 54), .int (zI v1), .int (zI v2), .int (zI v3)] σ Q := by
  refine zCi_of (by decide +kernel) (Nat.le_of_ble_eq_true rfl) ?_
  intro X G C hl hD had hca
  subst hl hD had hca
  have C : zC X G b_X_meet "GateRoads" 10 (some .int) 4 96 := C
  show zJ X G (zQi X G Q) 10 0 [(0, .ref (gad G 54)), (1, .int (zI v1)), (2, .int (zI v2)), (3, .int (zI v3))] [] σ
  unfold wp_X_meet at h
  refine j_aload_n C d_X_meet_0 0 rfl rfl ?_
  refine j_getr (kf := 0) (m := 0) C d_X_meet_1 sh_54 rfl i_X rfl rfl fl_X_12 ?_
  refine j_iload_n C d_X_meet_4 1 rfl rfl ?_
  refine j_callV C d_X_meet_5 ml_X_128 mi_S_hasTraveller (c_S_hasTraveller (xl X) (gD G) (gad G) (gca G) (v1 := v1) hσ r1 h) sh_0 rfl rfl rfl rfl rfl rfl rfl (fun z1 σ2 rz1 hσ2 h => ?_)
  obtain ⟨ez1, h⟩ := h; subst ez1
  refine j_if_eq (tgt := 22) C d_X_meet_8 rfl rz1 (fun c => ?_) (fun c => ?_)
  · have h := h.1 c
    refine j_iconst C d_X_meet_22 ?_
    exact j_ireturn C d_X_meet_23 (zR_of (x := (-1)) rfl) hσ h
  · have h := h.2 c
    refine j_aload_n C d_X_meet_11 0 rfl rfl ?_
    refine j_getr (kf := 0) (m := 0) C d_X_meet_12 sh_54 rfl i_X rfl rfl fl_X_12 ?_
    refine j_iload_n C d_X_meet_15 2 rfl rfl ?_
    refine j_callV C d_X_meet_16 ml_X_128 mi_S_hasTraveller (c_S_hasTraveller (xl X) (gD G) (gad G) (gca G) (v1 := v2) hσ r2 h) sh_0 rfl rfl rfl rfl rfl rfl rfl (fun z3 σ4 rz3 hσ4 h => ?_)
    obtain ⟨ez3, h⟩ := h; subst ez3
    refine j_if_ne (tgt := 24) C d_X_meet_19 rfl rz3 (fun c => ?_) (fun c => ?_)
    · have h := h.1 c
      refine j_iload_n C d_X_meet_24 3 rfl rfl ?_
      refine j_iconst C d_X_meet_25 ?_
      refine j_iconst C d_X_meet_26 ?_
      refine j_callS C d_X_meet_27 ml_X_69 ms_X_within (c_X_within (xl X) (gD G) (gad G) (gca G) (v0 := v3) (v1 := 0) (v2 := 1) hσ r3 (zR_of (x := 0) rfl) (zR_of (x := 1) rfl) h) rfl rfl rfl rfl rfl (fun z5 σ6 rz5 hσ6 h => ?_)
      obtain ⟨ez5, h⟩ := h; subst ez5
      refine j_if_ne (tgt := 36) C d_X_meet_30 rfl rz5 (fun c => ?_) (fun c => ?_)
      · have h := h.1 c
        refine j_aload_n C d_X_meet_36 0 rfl rfl ?_
        refine j_getr (kf := 8) (m := 62) C d_X_meet_37 sh_54 rfl i_X rfl rfl fl_X_37 ?_
        refine j_aload_n C d_X_meet_40 0 rfl rfl ?_
        refine j_getr (kf := 0) (m := 0) C d_X_meet_41 sh_54 rfl i_X rfl rfl fl_X_12 ?_
        refine j_callVv C d_X_meet_44 ml_X_183 mi_G_prepare (c_G_prepare (xl X) (gD G) (gad G) (gca G)  hσ h) sh_62 rfl rfl rfl rfl rfl rfl rfl (fun σ8 hσ8 h => ?_)
        refine j_aload_n C d_X_meet_47 0 rfl rfl ?_
        refine j_getr (kf := 0) (m := 0) C d_X_meet_48 sh_54 rfl i_X rfl rfl fl_X_12 ?_
        refine j_iload_n C d_X_meet_51 1 rfl rfl ?_
        refine j_iconst C d_X_meet_52 ?_
        refine j_callV C d_X_meet_53 ml_X_165 mi_S_ofTravellers (c_S_ofTravellers (xl X) (gD G) (gad G) (gca G) (v1 := v1) (v2 := 1) hσ8 r1 (zR_of (x := 1) rfl) h) sh_0 rfl rfl rfl rfl rfl rfl rfl (fun z9 σ10 rz9 hσ10 h => ?_)
        obtain ⟨ez9, h⟩ := h; subst ez9
        refine j_istore (L' := [(4, .int (zI z9)), (0, .ref (gad G 54)), (1, .int (zI v1)), (2, .int (zI v2)), (3, .int (zI v3))]) C d_X_meet_56 rfl rfl ?_
        refine j_aload_n C d_X_meet_58 1 rfl rfl ?_
        refine j_getr (kf := 0) (m := 0) C d_X_meet_59 sh_54 rfl i_X rfl rfl fl_X_12 ?_
        refine j_iload_n C d_X_meet_62 3 rfl rfl ?_
        refine j_iconst C d_X_meet_63 ?_
        refine j_callV C d_X_meet_64 ml_X_165 mi_S_ofTravellers (c_S_ofTravellers (xl X) (gD G) (gad G) (gca G) (v1 := v2) (v2 := 1) hσ8 r2 (zR_of (x := 1) rfl) h) sh_0 rfl rfl rfl rfl rfl rfl rfl (fun z11 σ12 rz11 hσ12 h => ?_)
        obtain ⟨ez11, h⟩ := h; subst ez11
        refine j_istore (L' := [(5, .int (zI z11)), (4, .int (zI z9)), (0, .ref (gad G 54)), (1, .int (zI v1)), (2, .int (zI v2)), (3, .int (zI v3))]) C d_X_meet_67 rfl rfl ?_
        refine j_aload_n C d_X_meet_69 2 rfl rfl ?_
        refine j_getr (kf := 9) (m := 64) C d_X_meet_70 sh_54 rfl i_X rfl rfl fl_X_44 ?_
        refine j_aload_n C d_X_meet_73 2 rfl rfl ?_
        refine j_getr (kf := 0) (m := 0) C d_X_meet_74 sh_54 rfl i_X rfl rfl fl_X_12 ?_
        refine j_iload_n C d_X_meet_77 3 rfl rfl ?_
        refine j_iconst C d_X_meet_78 ?_
        refine j_callV C d_X_meet_79 ml_X_165 mi_S_ofTravellers (c_S_ofTravellers (xl X) (gD G) (gad G) (gca G) (v1 := v1) (v2 := 0) hσ8 r1 (zR_of (x := 0) rfl) h) sh_0 rfl rfl rfl rfl rfl rfl rfl (fun z13 σ14 rz13 hσ14 h => ?_)
        obtain ⟨ez13, h⟩ := h; subst ez13
        refine j_iload C d_X_meet_82 1 rfl ?_
        refine j_aload_n C d_X_meet_84 2 rfl rfl ?_
        refine j_getr (kf := 0) (m := 0) C d_X_meet_85 sh_54 rfl i_X rfl rfl fl_X_12 ?_
        refine j_iload_n C d_X_meet_88 3 rfl rfl ?_
        refine j_callV C d_X_meet_89 ml_X_237 mi_S_stayLeft (c_S_stayLeft (xl X) (gD G) (gad G) (gca G) (v1 := v1) hσ8 r1 h) sh_0 rfl rfl rfl rfl rfl rfl rfl (fun z15 σ16 rz15 hσ16 h => ?_)
        obtain ⟨ez15, h⟩ := h; subst ez15
        refine j_iadd C d_X_meet_92 ?_
        obtain ⟨g17, h⟩ := h
        refine j_callVv C d_X_meet_93 ml_X_220 mi_O_start (c_O_start (xl X) (gD G) (gad G) (gca G) (o := 64) (v1 := z13) (v2 := z9 + z15) hσ8 zOn64 rz13 g17 h) sh_64 rfl rfl rfl rfl rfl rfl rfl (fun σ19 hσ19 h => ?_)
        refine j_aload_n C d_X_meet_96 2 rfl rfl ?_
        refine j_getr (kf := 10) (m := 67) C d_X_meet_97 sh_54 rfl i_X rfl rfl fl_X_48 ?_
        refine j_aload_n C d_X_meet_100 2 rfl rfl ?_
        refine j_getr (kf := 0) (m := 0) C d_X_meet_101 sh_54 rfl i_X rfl rfl fl_X_12 ?_
        refine j_iload_n C d_X_meet_104 4 rfl rfl ?_
        refine j_iconst C d_X_meet_105 ?_
        refine j_callV C d_X_meet_106 ml_X_165 mi_S_ofTravellers (c_S_ofTravellers (xl X) (gD G) (gad G) (gca G) (v1 := v2) (v2 := 0) hσ19 r2 (zR_of (x := 0) rfl) h) sh_0 rfl rfl rfl rfl rfl rfl rfl (fun z20 σ21 rz20 hσ21 h => ?_)
        obtain ⟨ez20, h⟩ := h; subst ez20
        refine j_iload C d_X_meet_109 0 rfl ?_
        refine j_aload_n C d_X_meet_111 2 rfl rfl ?_
        refine j_getr (kf := 0) (m := 0) C d_X_meet_112 sh_54 rfl i_X rfl rfl fl_X_12 ?_
        refine j_iload_n C d_X_meet_115 4 rfl rfl ?_
        refine j_callV C d_X_meet_116 ml_X_237 mi_S_stayLeft (c_S_stayLeft (xl X) (gD G) (gad G) (gca G) (v1 := v2) hσ19 r2 h) sh_0 rfl rfl rfl rfl rfl rfl rfl (fun z22 σ23 rz22 hσ23 h => ?_)
        obtain ⟨ez22, h⟩ := h; subst ez22
        refine j_iadd C d_X_meet_119 ?_
        obtain ⟨g24, h⟩ := h
        refine j_callVv C d_X_meet_120 ml_X_220 mi_O_start (c_O_start (xl X) (gD G) (gad G) (gca G) (o := 67) (v1 := z20) (v2 := z11 + z22) hσ19 zOn67 rz20 g24 h) sh_67 rfl rfl rfl rfl rfl rfl rfl (fun σ26 hσ26 h => ?_)
        refine j_iload C d_X_meet_123 1 rfl ?_
        refine j_iload C d_X_meet_125 0 rfl ?_
        refine j_min C d_X_meet_127 ml_X_240 zs_min zi_Math zc_min rfl rfl rz9 rz11 ?_
        refine j_istore (L' := [(6, .int (zI (min z9 z11))), (5, .int (zI z11)), (4, .int (zI z9)), (0, .ref (gad G 54)), (1, .int (zI v1)), (2, .int (zI v2)), (3, .int (zI v3))]) C d_X_meet_130 rfl rfl ?_
        obtain ⟨n36, h⟩ := h
        refine j_sub (L' := [(0, .ref (gad G 54)), (3, .int (zI v3)), (4, .int (zI z9)), (5, .int (zI z11)), (6, .int (zI (min z9 z11)))]) [3, 6, 2, 1, 0] rfl ?_
        refine w_X_meet_L132 C r3 rz9 rz11 n36 σ26 (min z9 z11) hσ26 (zMin_rg rz9 rz11) h
      · have h := h.2 c
        refine j_bipush C d_X_meet_33 rfl ?_
        exact j_ireturn C d_X_meet_35 (zR_of (x := (-2)) rfl) hσ h
    · have h := h.2 c
      refine j_iconst C d_X_meet_22 ?_
      exact j_ireturn C d_X_meet_23 (zR_of (x := (-1)) rfl) hσ h
set_option maxRecDepth 100000 in
set_option maxHeartbeats 4000000 in
theorem c_X_arrives (l : Launch) (D : va_G) (ad : Nat → Nat) (ca : Nat → ClassId) {σ : zM} {v1 : Int} {v2 : Int} {Q : Int → zM → Prop} (hσ : zRM σ) (r1 : zR v1) (r2 : zR v2) (h : wp_X_arrives σ v1 v2 Q) : zCi l D ad ca y_X_arrives b_X_arrives 5 (some .int) (zrm 5 123) [.ref (ad 54), .int (zI v1), .int (zI v2)] σ Q := by
  refine zCi_of (by decide +kernel) (Nat.le_of_ble_eq_true rfl) ?_
  intro X G C hl hD had hca
  subst hl hD had hca
  have C : zC X G b_X_arrives "GateRoads" 5 (some .int) 5 123 := C
  show zJ X G (zQi X G Q) 5 0 [(0, .ref (gad G 54)), (1, .int (zI v1)), (2, .int (zI v2))] [] σ
  unfold wp_X_arrives at h
  refine j_aload_n C d_X_arrives_0 0 rfl rfl ?_
  refine j_getr (kf := 0) (m := 0) C d_X_arrives_1 sh_54 rfl i_X rfl rfl fl_X_12 ?_
  refine j_iload_n C d_X_arrives_4 1 rfl rfl ?_
  refine j_callV C d_X_arrives_5 ml_X_128 mi_S_hasTraveller (c_S_hasTraveller (xl X) (gD G) (gad G) (gca G) (v1 := v1) hσ r1 h) sh_0 rfl rfl rfl rfl rfl rfl rfl (fun z1 σ2 rz1 hσ2 h => ?_)
  obtain ⟨ez1, h⟩ := h; subst ez1
  refine j_if_eq (tgt := 18) C d_X_arrives_8 rfl rz1 (fun c => ?_) (fun c => ?_)
  · have h := h.1 c
    refine j_iconst C d_X_arrives_18 ?_
    exact j_ireturn C d_X_arrives_19 (zR_of (x := (-1)) rfl) hσ h
  · have h := h.2 c
    refine j_iload_n C d_X_arrives_11 2 rfl rfl ?_
    refine j_callS C d_X_arrives_12 ml_X_65 ms_X_isPlace (c_X_isPlace (xl X) (gD G) (gad G) (gca G) (v0 := v2) hσ r2 h) rfl rfl rfl rfl rfl (fun z3 σ4 rz3 hσ4 h => ?_)
    obtain ⟨ez3, h⟩ := h; subst ez3
    refine j_if_ne (tgt := 20) C d_X_arrives_15 rfl rz3 (fun c => ?_) (fun c => ?_)
    · have h := h.1 c
      refine j_aload_n C d_X_arrives_20 0 rfl rfl ?_
      refine j_getr (kf := 0) (m := 0) C d_X_arrives_21 sh_54 rfl i_X rfl rfl fl_X_12 ?_
      refine j_iload_n C d_X_arrives_24 1 rfl rfl ?_
      refine j_iconst C d_X_arrives_25 ?_
      refine j_callV C d_X_arrives_26 ml_X_165 mi_S_ofTravellers (c_S_ofTravellers (xl X) (gD G) (gad G) (gca G) (v1 := v1) (v2 := 0) hσ r1 (zR_of (x := 0) rfl) h) sh_0 rfl rfl rfl rfl rfl rfl rfl (fun z5 σ6 rz5 hσ6 h => ?_)
      obtain ⟨ez5, h⟩ := h; subst ez5
      refine j_istore_n (L' := [(3, .int (zI z5)), (0, .ref (gad G 54)), (1, .int (zI v1)), (2, .int (zI v2))]) C d_X_arrives_29 rfl rfl rfl ?_
      refine j_aload_n C d_X_arrives_30 1 rfl rfl ?_
      refine j_getr (kf := 0) (m := 0) C d_X_arrives_31 sh_54 rfl i_X rfl rfl fl_X_12 ?_
      refine j_iload_n C d_X_arrives_34 2 rfl rfl ?_
      refine j_iconst C d_X_arrives_35 ?_
      refine j_callV C d_X_arrives_36 ml_X_165 mi_S_ofTravellers (c_S_ofTravellers (xl X) (gD G) (gad G) (gca G) (v1 := v1) (v2 := 1) hσ r1 (zR_of (x := 1) rfl) h) sh_0 rfl rfl rfl rfl rfl rfl rfl (fun z7 σ8 rz7 hσ8 h => ?_)
      obtain ⟨ez7, h⟩ := h; subst ez7
      refine j_istore (L' := [(4, .int (zI z7)), (3, .int (zI z5)), (0, .ref (gad G 54)), (1, .int (zI v1)), (2, .int (zI v2))]) C d_X_arrives_39 rfl rfl ?_
      refine j_iload_n C d_X_arrives_41 1 rfl rfl ?_
      refine j_iload_n C d_X_arrives_42 4 rfl rfl ?_
      refine j_icmp_ne (tgt := 49) C d_X_arrives_43 rfl rz5 r2 (fun c => ?_) (fun c => ?_)
      · have h := h.1 c
        refine j_aload_n C d_X_arrives_49 2 rfl rfl ?_
        refine j_iload_n C d_X_arrives_50 1 rfl rfl ?_
        refine j_iload C d_X_arrives_51 0 rfl ?_
        refine j_iload C d_X_arrives_53 0 rfl ?_
        refine j_aload_n C d_X_arrives_55 2 rfl rfl ?_
        refine j_getr (kf := 0) (m := 0) C d_X_arrives_56 sh_54 rfl i_X rfl rfl fl_X_12 ?_
        refine j_iload_n C d_X_arrives_59 3 rfl rfl ?_
        refine j_callV C d_X_arrives_60 ml_X_237 mi_S_stayLeft (c_S_stayLeft (xl X) (gD G) (gad G) (gca G) (v1 := v1) hσ r1 h) sh_0 rfl rfl rfl rfl rfl rfl rfl (fun z9 σ10 rz9 hσ10 h => ?_)
        obtain ⟨ez9, h⟩ := h; subst ez9
        refine j_iadd C d_X_arrives_63 ?_
        refine j_iload_n C d_X_arrives_64 4 rfl rfl ?_
        refine j_sipush C d_X_arrives_65 rfl ?_
        refine j_iconst C d_X_arrives_68 ?_
        obtain ⟨g11, h⟩ := h
        refine j_callV C d_X_arrives_69 ml_X_233 mi_X_firstComing (c_X_firstComing (xl X) (gD G) (gad G) (gca G) (v1 := z5) (v2 := z7) (v3 := z7 + z9) (v4 := v2) (v5 := 2880) (v6 := 0) hσ rz5 rz7 g11 r2 (zR_of (x := 2880) rfl) (zR_of (x := 0) rfl) h) sh_54 rfl rfl rfl rfl rfl rfl rfl (fun z12 σ13 rz12 hσ13 h => ?_)
        exact j_ireturn C d_X_arrives_72 rz12 hσ13 h
      · have h := h.2 c
        refine j_iload C d_X_arrives_46 0 rfl ?_
        exact j_ireturn C d_X_arrives_48 rz7 hσ h
    · have h := h.2 c
      refine j_iconst C d_X_arrives_18 ?_
      exact j_ireturn C d_X_arrives_19 (zR_of (x := (-1)) rfl) hσ h
set_option maxRecDepth 100000 in
set_option maxHeartbeats 4000000 in
theorem c_X_canStay (l : Launch) (D : va_G) (ad : Nat → Nat) (ca : Nat → ClassId) {σ : zM} {v1 : Int} {Q : Int → Prop} (hσ : zRM σ) (r1 : zR v1) (h : wp_X_canStay σ v1 Q) : zCi l D ad ca y_X_canStay b_X_canStay 2 (some .int) (zrm 3 72) [.ref (ad 54), .int (zI v1)] σ (fun z u => σ = u ∧ Q z) := by
  refine zCi_of (by decide +kernel) (Nat.le_of_ble_eq_true rfl) ?_
  intro X G C hl hD had hca
  subst hl hD had hca
  have C : zC X G b_X_canStay "GateRoads" 2 (some .int) 3 72 := C
  show zJ X G (zQi X G (fun z u => σ = u ∧ Q z)) 2 0 [(0, .ref (gad G 54)), (1, .int (zI v1))] [] σ
  unfold wp_X_canStay at h
  refine j_aload_n C d_X_canStay_0 0 rfl rfl ?_
  refine j_getr (kf := 0) (m := 0) C d_X_canStay_1 sh_54 rfl i_X rfl rfl fl_X_12 ?_
  refine j_iload_n C d_X_canStay_4 1 rfl rfl ?_
  refine j_callV C d_X_canStay_5 ml_X_128 mi_S_hasTraveller (c_S_hasTraveller (xl X) (gD G) (gad G) (gca G) (v1 := v1) hσ r1 h) sh_0 rfl rfl rfl rfl rfl rfl rfl (fun z1 σ2 rz1 hσ2 h => ?_)
  obtain ⟨ez1, h⟩ := h; subst ez1
  refine j_if_eq (tgt := 22) C d_X_canStay_8 rfl rz1 (fun c => ?_) (fun c => ?_)
  · have h := h.1 c
    refine j_iconst C d_X_canStay_22 ?_
    exact j_ireturn C d_X_canStay_23 (zR_of (x := (-1)) rfl) hσ ⟨rfl, h⟩
  · have h := h.2 c
    refine j_aload_n C d_X_canStay_11 0 rfl rfl ?_
    refine j_getr (kf := 0) (m := 0) C d_X_canStay_12 sh_54 rfl i_X rfl rfl fl_X_12 ?_
    refine j_iload_n C d_X_canStay_15 1 rfl rfl ?_
    refine j_callV C d_X_canStay_16 ml_X_237 mi_S_stayLeft (c_S_stayLeft (xl X) (gD G) (gad G) (gca G) (v1 := v1) hσ r1 h) sh_0 rfl rfl rfl rfl rfl rfl rfl (fun z3 σ4 rz3 hσ4 h => ?_)
    obtain ⟨ez3, h⟩ := h; subst ez3
    refine j_goto (tgt := 23) C d_X_canStay_19 rfl ?_
    exact j_ireturn C d_X_canStay_23 rz3 hσ ⟨rfl, h⟩
set_option maxRecDepth 100000 in
set_option maxHeartbeats 4000000 in
theorem w_X_charactersIn_L2 {X : zX} {G : zG} (C : zC X G b_X_charactersIn "GateRoads" 7 (some .int) 0 0) {σ : zM} {v0 : Int64} (hσ : zRM σ) {Q : Int → Prop} : ∀ (n : Nat) (v2 : Int) (r2 : zR v2), wp_X_charactersIn_L2 σ v0 Q n v2 → zJ X G (zQi X G (fun z u => σ = u ∧ Q z)) 7 2 [(0, .long v0), (2, .int (zI v2))] [] σ := by
  intro n
  induction n with
  | zero => intro v2 r2 h; exact False.elim h
  | succ n ih =>
    intro v2 r2 h
    rw [wp_X_charactersIn_L2] at h
    refine j_iload_n C d_X_charactersIn_2 1 rfl rfl ?_
    refine j_bipush C d_X_charactersIn_3 rfl ?_
    refine j_icmp_ge (tgt := 56) C d_X_charactersIn_5 rfl r2 (zR_of (x := 8) rfl) (fun c => ?_) (fun c => ?_)
    · have h := h.1 c
      refine j_bipush C d_X_charactersIn_56 rfl ?_
      exact j_ireturn C d_X_charactersIn_58 (zR_of (x := 8) rfl) hσ ⟨rfl, h⟩
    · have h := h.2 c
      refine j_lload_n C d_X_charactersIn_8 0 rfl rfl ?_
      refine j_bipush C d_X_charactersIn_9 rfl ?_
      refine j_iload_n C d_X_charactersIn_11 1 rfl rfl ?_
      refine j_imul C d_X_charactersIn_12 ?_
      refine j_lushr C d_X_charactersIn_13 ?_
      refine j_lstore_n (L' := [(3, .long (zLushr v0 (8 * v2))), (0, .long v0), (2, .int (zI v2))]) C d_X_charactersIn_14 rfl rfl rfl ?_
      refine j_lload_n C d_X_charactersIn_15 0 rfl rfl ?_
      refine j_lconst (v := 0) C d_X_charactersIn_16 rfl ?_
      refine j_lcmp C d_X_charactersIn_17 ?_
      refine j_if_ne (tgt := 23) C d_X_charactersIn_18 rfl (zLcmp_rg _ _) (fun c => ?_) (fun c => ?_)
      · have h := h.1 c
        refine j_lload_n C d_X_charactersIn_23 0 rfl rfl ?_
        refine j_ldc2 C cl_X_252 d_X_charactersIn_24 ?_
        refine j_land C d_X_charactersIn_27 ?_
        refine j_lstore (L' := [(5, .long (zLand (zLushr v0 (8 * v2)) (255 : Int64))), (3, .long (zLushr v0 (8 * v2))), (0, .long v0), (2, .int (zI v2))]) C d_X_charactersIn_28 rfl rfl ?_
        refine j_lload C d_X_charactersIn_30 0 rfl ?_
        refine j_ldc2 C cl_X_301 d_X_charactersIn_32 ?_
        refine j_lcmp C d_X_charactersIn_35 ?_
        refine j_if_lt (tgt := 48) C d_X_charactersIn_36 rfl (zLcmp_rg _ _) (fun c => ?_) (fun c => ?_)
        · have h := h.1 c
          refine j_iconst C d_X_charactersIn_48 ?_
          exact j_ireturn C d_X_charactersIn_49 (zR_of (x := 0) rfl) hσ ⟨rfl, h⟩
        · have h := h.2 c
          refine j_lload C d_X_charactersIn_39 0 rfl ?_
          refine j_ldc2 C cl_X_303 d_X_charactersIn_41 ?_
          refine j_lcmp C d_X_charactersIn_44 ?_
          refine j_if_le (tgt := 50) C d_X_charactersIn_45 rfl (zLcmp_rg _ _) (fun c => ?_) (fun c => ?_)
          · have h := h.1 c
            obtain ⟨g1, h⟩ := h
            refine j_iinc (L' := [(2, .int (zI (v2 + 1))), (5, .long (zLand (zLushr v0 (8 * v2)) (255 : Int64))), (3, .long (zLushr v0 (8 * v2))), (0, .long v0)]) C d_X_charactersIn_50 3 rfl rfl rfl ?_
            refine j_goto (tgt := 2) C d_X_charactersIn_53 rfl ?_
            refine j_sub (L' := [(0, .long v0), (2, .int (zI (v2 + 1)))]) [3, 0] rfl ?_
            exact ih (v2 + 1) g1 h
          · have h := h.2 c
            refine j_iconst C d_X_charactersIn_48 ?_
            exact j_ireturn C d_X_charactersIn_49 (zR_of (x := 0) rfl) hσ ⟨rfl, h⟩
      · have h := h.2 c
        refine j_iload_n C d_X_charactersIn_21 2 rfl rfl ?_
        exact j_ireturn C d_X_charactersIn_22 r2 hσ ⟨rfl, h⟩
set_option maxRecDepth 100000 in
set_option maxHeartbeats 4000000 in
theorem c_X_charactersIn (l : Launch) (D : va_G) (ad : Nat → Nat) (ca : Nat → ClassId) {σ : zM} {v0 : Int64} {Q : Int → Prop} (hσ : zRM σ) (h : wp_X_charactersIn σ v0 Q) : zCi l D ad ca y_X_charactersIn b_X_charactersIn 7 (some .int) (zrm 0 0) [.long v0] σ (fun z u => σ = u ∧ Q z) := by
  refine zCi_of (by decide +kernel) (Nat.le_of_ble_eq_true rfl) ?_
  intro X G C hl hD had hca
  subst hl hD had hca
  have C : zC X G b_X_charactersIn "GateRoads" 7 (some .int) 0 0 := C
  show zJ X G (zQi X G (fun z u => σ = u ∧ Q z)) 7 0 [(0, .long v0)] [] σ
  unfold wp_X_charactersIn at h
  refine j_iconst C d_X_charactersIn_0 ?_
  refine j_istore_n (L' := [(2, .int (zI 0)), (0, .long v0)]) C d_X_charactersIn_1 rfl rfl rfl ?_
  obtain ⟨n2, h⟩ := h
  refine j_sub (L' := [(0, .long v0), (2, .int (zI 0))]) [1, 0] rfl ?_
  refine w_X_charactersIn_L2 C hσ n2 0 (zR_of (x := 0) rfl) h
set_option maxRecDepth 100000 in
set_option maxHeartbeats 4000000 in
theorem c_P_append (l : Launch) (D : va_G) (ad : Nat → Nat) (ca : Nat → ClassId) {σ : zM} {v1 : Int} {Q : zM → Prop} (hσ : zRM σ) (r1 : zR v1) (h : wp_P_append σ v1 Q) : zCv l D ad ca y_P_append b_P_append 2 (zrm 0 0) [.ref (ad 58), .int (zI v1)] σ Q := by
  refine zCv_of (by decide +kernel) (Nat.le_of_ble_eq_true rfl) ?_
  intro X G C hl hD had hca
  subst hl hD had hca
  have C : zC X G b_P_append "GateRoads$Pad" 2 (none) 0 0 := C
  show zJ X G (zQv X G Q) 2 0 [(0, .ref (gad G 58)), (1, .int (zI v1))] [] σ
  unfold wp_P_append at h
  refine j_aload_n C d_P_append_0 0 rfl rfl ?_
  refine j_geti (kf := 1) (kI := 1) C d_P_append_1 sh_58 rfl i_P rfl rfl rfl fl_P_22 ?_
  refine j_bipush C d_P_append_4 rfl ?_
  refine j_icmp_ge (tgt := 29) C d_P_append_6 rfl (hσ _ _) (zR_of (x := 80) rfl) (fun c => ?_) (fun c => ?_)
  · have h := h.1 c
    exact j_vreturn C d_P_append_29 hσ h
  · have h := h.2 c
    refine j_aload_n C d_P_append_9 0 rfl rfl ?_
    refine j_getr (kf := 0) (m := 59) C d_P_append_10 sh_58 rfl i_P rfl rfl fl_P_9 ?_
    refine j_aload_n C d_P_append_13 0 rfl rfl ?_
    refine j_geti (kf := 1) (kI := 1) C d_P_append_14 sh_58 rfl i_P rfl rfl rfl fl_P_22 ?_
    refine j_iload_n C d_P_append_17 1 rfl rfl ?_
    obtain ⟨g1, h⟩ := h
    obtain ⟨g2, h⟩ := h
    refine j_castore C d_P_append_18 sh_59 g1 g2 ?_
    refine j_mem (fun σ3 eσ3 => ?_)
    have h := h σ3 eσ3
    have hσ3 : zRM σ3 := by rw [eσ3]; exact zU_rg hσ _ _ r1
    refine j_aload_n C d_P_append_19 0 rfl rfl ?_
    refine j_dup C d_P_append_20 rfl ?_
    refine j_geti (kf := 1) (kI := 1) C d_P_append_21 sh_58 rfl i_P rfl rfl rfl fl_P_22 ?_
    refine j_iconst C d_P_append_24 ?_
    refine j_iadd C d_P_append_25 ?_
    obtain ⟨g4, h⟩ := h
    refine j_puti (kf := 1) (kI := 1) C t_P d_P_append_26 sh_58 rfl i_P t_P_ok n_P rfl rfl rfl fl_P_22 rfl (Or.inl rfl) ?_
    refine j_mem (fun σ5 eσ5 => ?_)
    have h := h σ5 eσ5
    have hσ5 : zRM σ5 := by rw [eσ5]; exact zU_rg hσ3 _ _ g4
    exact j_vreturn C d_P_append_29 hσ5 h
set_option maxRecDepth 100000 in
set_option maxHeartbeats 4000000 in
theorem w_X_put_L34 {X : zX} {G : zG} (C : zC X G b_X_put "GateRoads" 5 (some .int) 1 26) {v1 : Int64} {Q : Int → zM → Prop} : ∀ (n : Nat) (σ : zM) (v4 : Int) (hσ : zRM σ) (r4 : zR v4), wp_X_put_L34 v1 Q n σ v4 → zJ X G (zQi X G Q) 5 34 [(0, .ref (gad G 54)), (1, .long v1), (4, .int (zI v4))] [] σ := by
  intro n
  induction n with
  | zero => intro σ v4 hσ r4 h; exact False.elim h
  | succ n ih =>
    intro σ v4 hσ r4 h
    rw [wp_X_put_L34] at h
    refine j_iload C d_X_put_34 2 rfl ?_
    refine j_if_lt (tgt := 65) C d_X_put_36 rfl r4 (fun c => ?_) (fun c => ?_)
    · have h := h.1 c
      refine j_aload_n C d_X_put_65 0 rfl rfl ?_
      refine j_getr (kf := 6) (m := 58) C d_X_put_66 sh_54 rfl i_X rfl rfl fl_X_30 ?_
      refine j_geti (kf := 1) (kI := 1) C d_X_put_69 sh_58 rfl i_P rfl rfl rfl fl_X_171 ?_
      exact j_ireturn C d_X_put_72 (hσ _ _) hσ h
    · have h := h.2 c
      refine j_aload_n C d_X_put_39 0 rfl rfl ?_
      refine j_getr (kf := 6) (m := 58) C d_X_put_40 sh_54 rfl i_X rfl rfl fl_X_30 ?_
      refine j_lload_n C d_X_put_43 1 rfl rfl ?_
      refine j_bipush C d_X_put_44 rfl ?_
      refine j_iload C d_X_put_46 2 rfl ?_
      refine j_imul C d_X_put_48 ?_
      refine j_lushr C d_X_put_49 ?_
      refine j_ldc2 C cl_X_252 d_X_put_50 ?_
      refine j_land C d_X_put_53 ?_
      refine j_l2i C d_X_put_54 ?_
      obtain ⟨g5, h⟩ := h
      refine j_i2c C d_X_put_55 g5.1 g5.2 ?_
      refine j_callVv C d_X_put_56 ml_X_254 mi_P_append (c_P_append (xl X) (gD G) (gad G) (gca G) (v1 := zL2i (zLand (zLushr v1 (8 * v4)) (255 : Int64))) hσ (zL2i_rg _) h) sh_58 rfl rfl rfl rfl rfl rfl rfl (fun σ7 hσ7 h => ?_)
      obtain ⟨g8, h⟩ := h
      refine j_iinc (L' := [(4, .int (zI (v4 + (-1)))), (0, .ref (gad G 54)), (1, .long v1)]) C d_X_put_59 2 rfl rfl rfl ?_
      refine j_goto (tgt := 34) C d_X_put_62 rfl ?_
      refine j_sub (L' := [(0, .ref (gad G 54)), (1, .long v1), (4, .int (zI (v4 + (-1))))]) [1, 2, 0] rfl ?_
      exact ih σ7 (v4 + (-1)) hσ7 g8 h
set_option maxRecDepth 100000 in
set_option maxHeartbeats 4000000 in
theorem c_X_put (l : Launch) (D : va_G) (ad : Nat → Nat) (ca : Nat → ClassId) {σ : zM} {v1 : Int64} {Q : Int → zM → Prop} (hσ : zRM σ) (h : wp_X_put σ v1 Q) : zCi l D ad ca y_X_put b_X_put 5 (some .int) (zrm 1 26) [.ref (ad 54), .long v1] σ Q := by
  refine zCi_of (by decide +kernel) (Nat.le_of_ble_eq_true rfl) ?_
  intro X G C hl hD had hca
  subst hl hD had hca
  have C : zC X G b_X_put "GateRoads" 5 (some .int) 1 26 := C
  show zJ X G (zQi X G Q) 5 0 [(0, .ref (gad G 54)), (1, .long v1)] [] σ
  unfold wp_X_put at h
  refine j_lload_n C d_X_put_0 1 rfl rfl ?_
  refine j_callS C d_X_put_1 ml_X_248 ms_X_charactersIn (c_X_charactersIn (xl X) (gD G) (gad G) (gca G) (v0 := v1) hσ h) rfl rfl rfl rfl rfl (fun z1 σ2 rz1 hσ2 h => ?_)
  obtain ⟨ez1, h⟩ := h; subst ez1
  refine j_istore_n (L' := [(3, .int (zI z1)), (0, .ref (gad G 54)), (1, .long v1)]) C d_X_put_4 rfl rfl rfl ?_
  refine j_iload_n C d_X_put_5 0 rfl rfl ?_
  refine j_if_ne (tgt := 12) C d_X_put_6 rfl rz1 (fun c => ?_) (fun c => ?_)
  · have h := h.1 c
    refine j_aload_n C d_X_put_12 1 rfl rfl ?_
    refine j_getr (kf := 6) (m := 58) C d_X_put_13 sh_54 rfl i_X rfl rfl fl_X_30 ?_
    refine j_geti (kf := 1) (kI := 1) C d_X_put_16 sh_58 rfl i_P rfl rfl rfl fl_X_171 ?_
    refine j_iload_n C d_X_put_19 0 rfl rfl ?_
    refine j_iadd C d_X_put_20 ?_
    refine j_bipush C d_X_put_21 rfl ?_
    obtain ⟨g3, h⟩ := h
    refine j_icmp_le (tgt := 29) C d_X_put_23 rfl g3 (zR_of (x := 80) rfl) (fun c => ?_) (fun c => ?_)
    · have h := h.1 c
      refine j_iload_n C d_X_put_29 0 rfl rfl ?_
      refine j_iconst C d_X_put_30 ?_
      refine j_isub C d_X_put_31 ?_
      obtain ⟨g4, h⟩ := h
      refine j_istore (L' := [(4, .int (zI (z1 - 1))), (3, .int (zI z1)), (0, .ref (gad G 54)), (1, .long v1)]) C d_X_put_32 rfl rfl ?_
      obtain ⟨n9, h⟩ := h
      refine j_sub (L' := [(0, .ref (gad G 54)), (1, .long v1), (4, .int (zI (z1 - 1)))]) [2, 3, 0] rfl ?_
      refine w_X_put_L34 C n9 σ (z1 - 1) hσ g4 h
    · have h := h.2 c
      refine j_bipush C d_X_put_26 rfl ?_
      exact j_ireturn C d_X_put_28 (zR_of (x := (-4)) rfl) hσ h
  · have h := h.2 c
    refine j_bipush C d_X_put_9 rfl ?_
    exact j_ireturn C d_X_put_11 (zR_of (x := (-2)) rfl) hσ h
set_option maxRecDepth 100000 in
set_option maxHeartbeats 4000000 in
theorem c_X_wipe (l : Launch) (D : va_G) (ad : Nat → Nat) (ca : Nat → ClassId) {σ : zM} {Q : Int → zM → Prop} (hσ : zRM σ) (h : wp_X_wipe σ Q) : zCi l D ad ca y_X_wipe b_X_wipe 2 (some .int) (zrm 0 0) [.ref (ad 54)] σ Q := by
  refine zCi_of (by decide +kernel) (Nat.le_of_ble_eq_true rfl) ?_
  intro X G C hl hD had hca
  subst hl hD had hca
  have C : zC X G b_X_wipe "GateRoads" 2 (some .int) 0 0 := C
  show zJ X G (zQi X G Q) 2 0 [(0, .ref (gad G 54))] [] σ
  unfold wp_X_wipe at h
  refine j_aload_n C d_X_wipe_0 0 rfl rfl ?_
  refine j_getr (kf := 6) (m := 58) C d_X_wipe_1 sh_54 rfl i_X rfl rfl fl_X_30 ?_
  refine j_geti (kf := 1) (kI := 1) C d_X_wipe_4 sh_58 rfl i_P rfl rfl rfl fl_X_171 ?_
  refine j_istore_n (L' := [(1, .int (zI (σ 58 1))), (0, .ref (gad G 54))]) C d_X_wipe_7 rfl rfl rfl ?_
  refine j_aload_n C d_X_wipe_8 1 rfl rfl ?_
  refine j_getr (kf := 6) (m := 58) C d_X_wipe_9 sh_54 rfl i_X rfl rfl fl_X_30 ?_
  refine j_iconst C d_X_wipe_12 ?_
  refine j_puti (kf := 1) (kI := 1) C t_P d_X_wipe_13 sh_58 rfl i_P t_P_ok n_P rfl rfl rfl fl_X_171 rfl (Or.inl rfl) ?_
  refine j_mem (fun σ1 eσ1 => ?_)
  have h := h σ1 eσ1
  have hσ1 : zRM σ1 := by rw [eσ1]; exact zU_rg hσ _ _ (zR_of (x := 0) rfl)
  refine j_iload_n C d_X_wipe_16 0 rfl rfl ?_
  exact j_ireturn C d_X_wipe_17 (hσ _ _) hσ1 h
set_option maxRecDepth 100000 in
set_option maxHeartbeats 4000000 in
theorem c_P_rewind (l : Launch) (D : va_G) (ad : Nat → Nat) (ca : Nat → ClassId) {σ : zM} {Q : zM → Prop} (hσ : zRM σ) (h : wp_P_rewind σ Q) : zCv l D ad ca y_P_rewind b_P_rewind 1 (zrm 0 0) [.ref (ad 58)] σ Q := by
  refine zCv_of (by decide +kernel) (Nat.le_of_ble_eq_true rfl) ?_
  intro X G C hl hD had hca
  subst hl hD had hca
  have C : zC X G b_P_rewind "GateRoads$Pad" 1 (none) 0 0 := C
  show zJ X G (zQv X G Q) 1 0 [(0, .ref (gad G 58))] [] σ
  unfold wp_P_rewind at h
  refine j_aload_n C d_P_rewind_0 0 rfl rfl ?_
  refine j_iconst C d_P_rewind_1 ?_
  refine j_puti (kf := 2) (kI := 2) C t_P d_P_rewind_2 sh_58 rfl i_P t_P_ok n_P rfl rfl rfl fl_P_26 rfl (Or.inl rfl) ?_
  refine j_mem (fun σ1 eσ1 => ?_)
  have h := h σ1 eσ1
  have hσ1 : zRM σ1 := by rw [eσ1]; exact zU_rg hσ _ _ (zR_of (x := 0) rfl)
  refine j_aload_n C d_P_rewind_5 0 rfl rfl ?_
  refine j_iconst C d_P_rewind_6 ?_
  refine j_puti (kf := 3) (kI := 3) C t_P d_P_rewind_7 sh_58 rfl i_P t_P_ok n_P rfl rfl rfl fl_P_29 rfl (Or.inr ⟨rfl, by decide⟩) ?_
  refine j_mem (fun σ2 eσ2 => ?_)
  have h := h σ2 eσ2
  have hσ2 : zRM σ2 := by rw [eσ2]; exact zU_rg hσ1 _ _ (zR_of (x := 0) rfl)
  exact j_vreturn C d_P_rewind_10 hσ2 h
set_option maxRecDepth 100000 in
set_option maxHeartbeats 4000000 in
theorem c_P_digitStands (l : Launch) (D : va_G) (ad : Nat → Nat) (ca : Nat → ClassId) {σ : zM} {v1 : Int} {Q : Int → Prop} (hσ : zRM σ) (r1 : zR v1) (h : wp_P_digitStands σ v1 Q) : zCi l D ad ca y_P_digitStands b_P_digitStands 2 (some .boolean) (zrm 0 0) [.ref (ad 58), .int (zI v1)] σ (fun z u => σ = u ∧ Q z) := by
  refine zCi_of (by decide +kernel) (Nat.le_of_ble_eq_true rfl) ?_
  intro X G C hl hD had hca
  subst hl hD had hca
  have C : zC X G b_P_digitStands "GateRoads$Pad" 2 (some .boolean) 0 0 := C
  show zJ X G (zQi X G (fun z u => σ = u ∧ Q z)) 2 0 [(0, .ref (gad G 58)), (1, .int (zI v1))] [] σ
  unfold wp_P_digitStands at h
  refine j_aload_n C d_P_digitStands_0 0 rfl rfl ?_
  refine j_geti (kf := 3) (kI := 3) C d_P_digitStands_1 sh_58 rfl i_P rfl rfl rfl fl_P_29 ?_
  refine j_if_ne (tgt := 52) C d_P_digitStands_4 rfl (hσ _ _) (fun c => ?_) (fun c => ?_)
  · have h := h.1 c
    refine j_iconst C d_P_digitStands_52 ?_
    exact j_zreturn C d_P_digitStands_53 (by decide) hσ ⟨rfl, h⟩
  · have h := h.2 c
    refine j_aload_n C d_P_digitStands_7 0 rfl rfl ?_
    refine j_geti (kf := 2) (kI := 2) C d_P_digitStands_8 sh_58 rfl i_P rfl rfl rfl fl_P_26 ?_
    refine j_aload_n C d_P_digitStands_11 0 rfl rfl ?_
    refine j_geti (kf := 1) (kI := 1) C d_P_digitStands_12 sh_58 rfl i_P rfl rfl rfl fl_P_22 ?_
    refine j_icmp_ge (tgt := 52) C d_P_digitStands_15 rfl (hσ _ _) (hσ _ _) (fun c => ?_) (fun c => ?_)
    · have h := h.1 c
      refine j_iconst C d_P_digitStands_52 ?_
      exact j_zreturn C d_P_digitStands_53 (by decide) hσ ⟨rfl, h⟩
    · have h := h.2 c
      refine j_aload_n C d_P_digitStands_18 0 rfl rfl ?_
      refine j_getr (kf := 0) (m := 59) C d_P_digitStands_19 sh_58 rfl i_P rfl rfl fl_P_9 ?_
      refine j_aload_n C d_P_digitStands_22 0 rfl rfl ?_
      refine j_geti (kf := 2) (kI := 2) C d_P_digitStands_23 sh_58 rfl i_P rfl rfl rfl fl_P_26 ?_
      obtain ⟨g1, h⟩ := h
      refine j_caload C d_P_digitStands_26 sh_59 g1 ?_
      refine j_bipush C d_P_digitStands_27 rfl ?_
      refine j_icmp_lt (tgt := 52) C d_P_digitStands_29 rfl (hσ _ _) (zR_of (x := 48) rfl) (fun c => ?_) (fun c => ?_)
      · have h := h.1 c
        refine j_iconst C d_P_digitStands_52 ?_
        exact j_zreturn C d_P_digitStands_53 (by decide) hσ ⟨rfl, h⟩
      · have h := h.2 c
        refine j_aload_n C d_P_digitStands_32 0 rfl rfl ?_
        refine j_getr (kf := 0) (m := 59) C d_P_digitStands_33 sh_58 rfl i_P rfl rfl fl_P_9 ?_
        refine j_aload_n C d_P_digitStands_36 0 rfl rfl ?_
        refine j_geti (kf := 2) (kI := 2) C d_P_digitStands_37 sh_58 rfl i_P rfl rfl rfl fl_P_26 ?_
        obtain ⟨g2, h⟩ := h
        refine j_caload C d_P_digitStands_40 sh_59 g2 ?_
        refine j_bipush C d_P_digitStands_41 rfl ?_
        refine j_iload_n C d_P_digitStands_43 1 rfl rfl ?_
        refine j_iadd C d_P_digitStands_44 ?_
        obtain ⟨g3, h⟩ := h
        refine j_icmp_gt (tgt := 52) C d_P_digitStands_45 rfl (hσ _ _) g3 (fun c => ?_) (fun c => ?_)
        · have h := h.1 c
          refine j_iconst C d_P_digitStands_52 ?_
          exact j_zreturn C d_P_digitStands_53 (by decide) hσ ⟨rfl, h⟩
        · have h := h.2 c
          refine j_iconst C d_P_digitStands_48 ?_
          refine j_goto (tgt := 53) C d_P_digitStands_49 rfl ?_
          exact j_zreturn C d_P_digitStands_53 (by decide) hσ ⟨rfl, h⟩
set_option maxRecDepth 100000 in
set_option maxHeartbeats 4000000 in
theorem c_P_readDigit (l : Launch) (D : va_G) (ad : Nat → Nat) (ca : Nat → ClassId) {σ : zM} {v1 : Int} {Q : Int → zM → Prop} (hσ : zRM σ) (r1 : zR v1) (h : wp_P_readDigit σ v1 Q) : zCi l D ad ca y_P_readDigit b_P_readDigit 2 (some .int) (zrm 1 21) [.ref (ad 58), .int (zI v1)] σ Q := by
  refine zCi_of (by decide +kernel) (Nat.le_of_ble_eq_true rfl) ?_
  intro X G C hl hD had hca
  subst hl hD had hca
  have C : zC X G b_P_readDigit "GateRoads$Pad" 2 (some .int) 1 21 := C
  show zJ X G (zQi X G Q) 2 0 [(0, .ref (gad G 58)), (1, .int (zI v1))] [] σ
  unfold wp_P_readDigit at h
  refine j_aload_n C d_P_readDigit_0 0 rfl rfl ?_
  refine j_iload_n C d_P_readDigit_1 1 rfl rfl ?_
  refine j_callV C d_P_readDigit_2 ml_P_50 mi_P_digitStands (c_P_digitStands (xl X) (gD G) (gad G) (gca G) (v1 := v1) hσ r1 h) sh_58 rfl rfl rfl rfl rfl rfl rfl (fun z1 σ2 rz1 hσ2 h => ?_)
  obtain ⟨ez1, h⟩ := h; subst ez1
  refine j_if_ne (tgt := 15) C d_P_readDigit_5 rfl rz1 (fun c => ?_) (fun c => ?_)
  · have h := h.1 c
    refine j_aload_n C d_P_readDigit_15 0 rfl rfl ?_
    refine j_dup C d_P_readDigit_16 rfl ?_
    refine j_geti (kf := 2) (kI := 2) C d_P_readDigit_17 sh_58 rfl i_P rfl rfl rfl fl_P_26 ?_
    refine j_iconst C d_P_readDigit_20 ?_
    refine j_iadd C d_P_readDigit_21 ?_
    obtain ⟨g3, h⟩ := h
    refine j_puti (kf := 2) (kI := 2) C t_P d_P_readDigit_22 sh_58 rfl i_P t_P_ok n_P rfl rfl rfl fl_P_26 rfl (Or.inl rfl) ?_
    refine j_mem (fun σ4 eσ4 => ?_)
    have h := h σ4 eσ4
    have hσ4 : zRM σ4 := by rw [eσ4]; exact zU_rg hσ _ _ g3
    refine j_aload_n C d_P_readDigit_25 0 rfl rfl ?_
    refine j_getr (kf := 0) (m := 59) C d_P_readDigit_26 sh_58 rfl i_P rfl rfl fl_P_9 ?_
    refine j_aload_n C d_P_readDigit_29 0 rfl rfl ?_
    refine j_geti (kf := 2) (kI := 2) C d_P_readDigit_30 sh_58 rfl i_P rfl rfl rfl fl_P_26 ?_
    refine j_iconst C d_P_readDigit_33 ?_
    refine j_isub C d_P_readDigit_34 ?_
    obtain ⟨g5, h⟩ := h
    refine j_caload C d_P_readDigit_35 sh_59 g5 ?_
    refine j_bipush C d_P_readDigit_36 rfl ?_
    refine j_isub C d_P_readDigit_38 ?_
    obtain ⟨g6, h⟩ := h
    exact j_ireturn C d_P_readDigit_39 g6 hσ4 h
  · have h := h.2 c
    refine j_aload_n C d_P_readDigit_8 0 rfl rfl ?_
    refine j_iconst C d_P_readDigit_9 ?_
    refine j_puti (kf := 3) (kI := 3) C t_P d_P_readDigit_10 sh_58 rfl i_P t_P_ok n_P rfl rfl rfl fl_P_29 rfl (Or.inr ⟨rfl, by decide⟩) ?_
    refine j_mem (fun σ7 eσ7 => ?_)
    have h := h σ7 eσ7
    have hσ7 : zRM σ7 := by rw [eσ7]; exact zU_rg hσ _ _ (zR_of (x := 1) rfl)
    refine j_iconst C d_P_readDigit_13 ?_
    exact j_ireturn C d_P_readDigit_14 (zR_of (x := 0) rfl) hσ7 h
set_option maxRecDepth 100000 in
set_option maxHeartbeats 4000000 in
theorem w_P_readNumber_L9 {X : zX} {G : zG} (C : zC X G b_P_readNumber "GateRoads$Pad" 4 (some .int) 2 42) {Q : Int → zM → Prop} : ∀ (n : Nat) (σ : zM) (v1 : Int) (v2 : Int) (hσ : zRM σ) (r1 : zR v1) (r2 : zR v2), wp_P_readNumber_L9 Q n σ v1 v2 → zJ X G (zQi X G Q) 4 9 [(0, .ref (gad G 58)), (1, .int (zI v1)), (2, .int (zI v2))] [] σ := by
  intro n
  induction n with
  | zero => intro σ v1 v2 hσ r1 r2 h; exact False.elim h
  | succ n ih =>
    intro σ v1 v2 hσ r1 r2 h
    rw [wp_P_readNumber_L9] at h
    refine j_iload_n C d_P_readNumber_9 2 rfl rfl ?_
    refine j_iconst C d_P_readNumber_10 ?_
    refine j_icmp_ge (tgt := 72) C d_P_readNumber_11 rfl r2 (zR_of (x := 4) rfl) (fun c => ?_) (fun c => ?_)
    · have h := h.1 c
      refine j_iload_n C d_P_readNumber_72 1 rfl rfl ?_
      exact j_ireturn C d_P_readNumber_73 r1 hσ h
    · have h := h.2 c
      refine j_iload_n C d_P_readNumber_14 1 rfl rfl ?_
      refine j_if_le (tgt := 72) C d_P_readNumber_15 rfl r1 (fun c => ?_) (fun c => ?_)
      · have h := h.1 c
        refine j_iload_n C d_P_readNumber_72 1 rfl rfl ?_
        exact j_ireturn C d_P_readNumber_73 r1 hσ h
      · have h := h.2 c
        refine j_aload_n C d_P_readNumber_18 0 rfl rfl ?_
        refine j_bipush C d_P_readNumber_19 rfl ?_
        refine j_callV C d_P_readNumber_21 ml_P_50 mi_P_digitStands (c_P_digitStands (xl X) (gD G) (gad G) (gca G) (v1 := 9) hσ (zR_of (x := 9) rfl) h) sh_58 rfl rfl rfl rfl rfl rfl rfl (fun z3 σ4 rz3 hσ4 h => ?_)
        obtain ⟨ez3, h⟩ := h; subst ez3
        refine j_if_eq (tgt := 72) C d_P_readNumber_24 rfl rz3 (fun c => ?_) (fun c => ?_)
        · have h := h.1 c
          refine j_iload_n C d_P_readNumber_72 1 rfl rfl ?_
          exact j_ireturn C d_P_readNumber_73 r1 hσ h
        · have h := h.2 c
          refine j_iload_n C d_P_readNumber_27 1 rfl rfl ?_
          refine j_bipush C d_P_readNumber_28 rfl ?_
          refine j_imul C d_P_readNumber_30 ?_
          refine j_aload_n C d_P_readNumber_31 0 rfl rfl ?_
          refine j_getr (kf := 0) (m := 59) C d_P_readNumber_32 sh_58 rfl i_P rfl rfl fl_P_9 ?_
          refine j_aload_n C d_P_readNumber_35 0 rfl rfl ?_
          refine j_geti (kf := 2) (kI := 2) C d_P_readNumber_36 sh_58 rfl i_P rfl rfl rfl fl_P_26 ?_
          obtain ⟨g5, h⟩ := h
          refine j_caload C d_P_readNumber_39 sh_59 g5 ?_
          refine j_iadd C d_P_readNumber_40 ?_
          refine j_bipush C d_P_readNumber_41 rfl ?_
          refine j_isub C d_P_readNumber_43 ?_
          obtain ⟨g6, h⟩ := h
          refine j_name (fun t7 et7 => ?_)
          have h := h t7 et7
          have rt7 : zR t7 := by rw [et7]; exact g6
          refine j_istore_n (L' := [(3, .int (zI t7)), (0, .ref (gad G 58)), (1, .int (zI v1)), (2, .int (zI v2))]) C d_P_readNumber_44 rfl rfl rfl ?_
          refine j_iload_n C d_P_readNumber_45 0 rfl rfl ?_
          refine j_sipush C d_P_readNumber_46 rfl ?_
          refine j_icmp_le (tgt := 54) C d_P_readNumber_49 rfl rt7 (zR_of (x := 2880) rfl) (fun c => ?_) (fun c => ?_)
          · have h := h.1 c
            refine j_iload_n C d_P_readNumber_54 0 rfl rfl ?_
            refine j_istore_n (L' := [(1, .int (zI t7)), (3, .int (zI t7)), (0, .ref (gad G 58)), (2, .int (zI v2))]) C d_P_readNumber_55 rfl rfl rfl ?_
            refine j_aload_n C d_P_readNumber_56 2 rfl rfl ?_
            refine j_dup C d_P_readNumber_57 rfl ?_
            refine j_geti (kf := 2) (kI := 2) C d_P_readNumber_58 sh_58 rfl i_P rfl rfl rfl fl_P_26 ?_
            refine j_iconst C d_P_readNumber_61 ?_
            refine j_iadd C d_P_readNumber_62 ?_
            obtain ⟨g8, h⟩ := h
            refine j_puti (kf := 2) (kI := 2) C t_P d_P_readNumber_63 sh_58 rfl i_P t_P_ok n_P rfl rfl rfl fl_P_26 rfl (Or.inl rfl) ?_
            refine j_mem (fun σ9 eσ9 => ?_)
            have h := h σ9 eσ9
            have hσ9 : zRM σ9 := by rw [eσ9]; exact zU_rg hσ _ _ g8
            obtain ⟨g10, h⟩ := h
            refine j_iinc (L' := [(2, .int (zI (v2 + 1))), (1, .int (zI t7)), (3, .int (zI t7)), (0, .ref (gad G 58))]) C d_P_readNumber_66 3 rfl rfl rfl ?_
            refine j_goto (tgt := 9) C d_P_readNumber_69 rfl ?_
            refine j_sub (L' := [(0, .ref (gad G 58)), (1, .int (zI t7)), (2, .int (zI (v2 + 1)))]) [3, 1, 0] rfl ?_
            exact ih σ9 t7 (v2 + 1) hσ9 rt7 g10 h
          · have h := h.2 c
            refine j_iload_n C d_P_readNumber_52 2 rfl rfl ?_
            exact j_ireturn C d_P_readNumber_53 r1 hσ h
set_option maxRecDepth 100000 in
set_option maxHeartbeats 4000000 in
theorem c_P_readNumber (l : Launch) (D : va_G) (ad : Nat → Nat) (ca : Nat → ClassId) {σ : zM} {Q : Int → zM → Prop} (hσ : zRM σ) (h : wp_P_readNumber σ Q) : zCi l D ad ca y_P_readNumber b_P_readNumber 4 (some .int) (zrm 2 42) [.ref (ad 58)] σ Q := by
  refine zCi_of (by decide +kernel) (Nat.le_of_ble_eq_true rfl) ?_
  intro X G C hl hD had hca
  subst hl hD had hca
  have C : zC X G b_P_readNumber "GateRoads$Pad" 4 (some .int) 2 42 := C
  show zJ X G (zQi X G Q) 4 0 [(0, .ref (gad G 58))] [] σ
  unfold wp_P_readNumber at h
  refine j_aload_n C d_P_readNumber_0 0 rfl rfl ?_
  refine j_bipush C d_P_readNumber_1 rfl ?_
  refine j_callV C d_P_readNumber_3 ml_P_54 mi_P_readDigit (c_P_readDigit (xl X) (gD G) (gad G) (gca G) (v1 := 9) hσ (zR_of (x := 9) rfl) h) sh_58 rfl rfl rfl rfl rfl rfl rfl (fun z1 σ2 rz1 hσ2 h => ?_)
  refine j_istore_n (L' := [(1, .int (zI z1)), (0, .ref (gad G 58))]) C d_P_readNumber_6 rfl rfl rfl ?_
  refine j_iconst C d_P_readNumber_7 ?_
  refine j_istore_n (L' := [(2, .int (zI 1)), (1, .int (zI z1)), (0, .ref (gad G 58))]) C d_P_readNumber_8 rfl rfl rfl ?_
  obtain ⟨n11, h⟩ := h
  refine j_sub (L' := [(0, .ref (gad G 58)), (1, .int (zI z1)), (2, .int (zI 1))]) [2, 1, 0] rfl ?_
  refine w_P_readNumber_L9 C n11 σ2 z1 1 hσ2 rz1 (zR_of (x := 1) rfl) h
set_option maxRecDepth 100000 in
set_option maxHeartbeats 4000000 in
theorem c_P_stands (l : Launch) (D : va_G) (ad : Nat → Nat) (ca : Nat → ClassId) {σ : zM} {v1 : Int} {Q : Int → Prop} (hσ : zRM σ) (r1 : zR v1) (h : wp_P_stands σ v1 Q) : zCi l D ad ca y_P_stands b_P_stands 2 (some .boolean) (zrm 0 0) [.ref (ad 58), .int (zI v1)] σ (fun z u => σ = u ∧ Q z) := by
  refine zCi_of (by decide +kernel) (Nat.le_of_ble_eq_true rfl) ?_
  intro X G C hl hD had hca
  subst hl hD had hca
  have C : zC X G b_P_stands "GateRoads$Pad" 2 (some .boolean) 0 0 := C
  show zJ X G (zQi X G (fun z u => σ = u ∧ Q z)) 2 0 [(0, .ref (gad G 58)), (1, .int (zI v1))] [] σ
  unfold wp_P_stands at h
  refine j_aload_n C d_P_stands_0 0 rfl rfl ?_
  refine j_geti (kf := 3) (kI := 3) C d_P_stands_1 sh_58 rfl i_P rfl rfl rfl fl_P_29 ?_
  refine j_if_ne (tgt := 35) C d_P_stands_4 rfl (hσ _ _) (fun c => ?_) (fun c => ?_)
  · have h := h.1 c
    refine j_iconst C d_P_stands_35 ?_
    exact j_zreturn C d_P_stands_36 (by decide) hσ ⟨rfl, h⟩
  · have h := h.2 c
    refine j_aload_n C d_P_stands_7 0 rfl rfl ?_
    refine j_geti (kf := 2) (kI := 2) C d_P_stands_8 sh_58 rfl i_P rfl rfl rfl fl_P_26 ?_
    refine j_aload_n C d_P_stands_11 0 rfl rfl ?_
    refine j_geti (kf := 1) (kI := 1) C d_P_stands_12 sh_58 rfl i_P rfl rfl rfl fl_P_22 ?_
    refine j_icmp_ge (tgt := 35) C d_P_stands_15 rfl (hσ _ _) (hσ _ _) (fun c => ?_) (fun c => ?_)
    · have h := h.1 c
      refine j_iconst C d_P_stands_35 ?_
      exact j_zreturn C d_P_stands_36 (by decide) hσ ⟨rfl, h⟩
    · have h := h.2 c
      refine j_aload_n C d_P_stands_18 0 rfl rfl ?_
      refine j_getr (kf := 0) (m := 59) C d_P_stands_19 sh_58 rfl i_P rfl rfl fl_P_9 ?_
      refine j_aload_n C d_P_stands_22 0 rfl rfl ?_
      refine j_geti (kf := 2) (kI := 2) C d_P_stands_23 sh_58 rfl i_P rfl rfl rfl fl_P_26 ?_
      obtain ⟨g1, h⟩ := h
      refine j_caload C d_P_stands_26 sh_59 g1 ?_
      refine j_iload_n C d_P_stands_27 1 rfl rfl ?_
      refine j_icmp_ne (tgt := 35) C d_P_stands_28 rfl (hσ _ _) r1 (fun c => ?_) (fun c => ?_)
      · have h := h.1 c
        refine j_iconst C d_P_stands_35 ?_
        exact j_zreturn C d_P_stands_36 (by decide) hσ ⟨rfl, h⟩
      · have h := h.2 c
        refine j_iconst C d_P_stands_31 ?_
        refine j_goto (tgt := 36) C d_P_stands_32 rfl ?_
        exact j_zreturn C d_P_stands_36 (by decide) hσ ⟨rfl, h⟩
set_option maxRecDepth 100000 in
set_option maxHeartbeats 4000000 in
theorem c_P_take (l : Launch) (D : va_G) (ad : Nat → Nat) (ca : Nat → ClassId) {σ : zM} {v1 : Int} {Q : Int → zM → Prop} (hσ : zRM σ) (r1 : zR v1) (h : wp_P_take σ v1 Q) : zCi l D ad ca y_P_take b_P_take 2 (some .boolean) (zrm 1 21) [.ref (ad 58), .int (zI v1)] σ Q := by
  refine zCi_of (by decide +kernel) (Nat.le_of_ble_eq_true rfl) ?_
  intro X G C hl hD had hca
  subst hl hD had hca
  have C : zC X G b_P_take "GateRoads$Pad" 2 (some .boolean) 1 21 := C
  show zJ X G (zQi X G Q) 2 0 [(0, .ref (gad G 58)), (1, .int (zI v1))] [] σ
  unfold wp_P_take at h
  refine j_aload_n C d_P_take_0 0 rfl rfl ?_
  refine j_iload_n C d_P_take_1 1 rfl rfl ?_
  refine j_callV C d_P_take_2 ml_P_43 mi_P_stands (c_P_stands (xl X) (gD G) (gad G) (gca G) (v1 := v1) hσ r1 h) sh_58 rfl rfl rfl rfl rfl rfl rfl (fun z1 σ2 rz1 hσ2 h => ?_)
  obtain ⟨ez1, h⟩ := h; subst ez1
  refine j_if_ne (tgt := 10) C d_P_take_5 rfl rz1 (fun c => ?_) (fun c => ?_)
  · have h := h.1 c
    refine j_aload_n C d_P_take_10 0 rfl rfl ?_
    refine j_dup C d_P_take_11 rfl ?_
    refine j_geti (kf := 2) (kI := 2) C d_P_take_12 sh_58 rfl i_P rfl rfl rfl fl_P_26 ?_
    refine j_iconst C d_P_take_15 ?_
    refine j_iadd C d_P_take_16 ?_
    obtain ⟨g3, h⟩ := h
    refine j_puti (kf := 2) (kI := 2) C t_P d_P_take_17 sh_58 rfl i_P t_P_ok n_P rfl rfl rfl fl_P_26 rfl (Or.inl rfl) ?_
    refine j_mem (fun σ4 eσ4 => ?_)
    have h := h σ4 eσ4
    have hσ4 : zRM σ4 := by rw [eσ4]; exact zU_rg hσ _ _ g3
    refine j_iconst C d_P_take_20 ?_
    exact j_zreturn C d_P_take_21 (by decide) hσ4 h
  · have h := h.2 c
    refine j_iconst C d_P_take_8 ?_
    exact j_zreturn C d_P_take_9 (by decide) hσ h
set_option maxRecDepth 100000 in
set_option maxHeartbeats 4000000 in
theorem c_P_expect (l : Launch) (D : va_G) (ad : Nat → Nat) (ca : Nat → ClassId) {σ : zM} {v1 : Int} {Q : zM → Prop} (hσ : zRM σ) (r1 : zR v1) (h : wp_P_expect σ v1 Q) : zCv l D ad ca y_P_expect b_P_expect 2 (zrm 2 42) [.ref (ad 58), .int (zI v1)] σ Q := by
  refine zCv_of (by decide +kernel) (Nat.le_of_ble_eq_true rfl) ?_
  intro X G C hl hD had hca
  subst hl hD had hca
  have C : zC X G b_P_expect "GateRoads$Pad" 2 (none) 2 42 := C
  show zJ X G (zQv X G Q) 2 0 [(0, .ref (gad G 58)), (1, .int (zI v1))] [] σ
  unfold wp_P_expect at h
  refine j_aload_n C d_P_expect_0 0 rfl rfl ?_
  refine j_iload_n C d_P_expect_1 1 rfl rfl ?_
  refine j_callV C d_P_expect_2 ml_P_47 mi_P_take (c_P_take (xl X) (gD G) (gad G) (gca G) (v1 := v1) hσ r1 h) sh_58 rfl rfl rfl rfl rfl rfl rfl (fun z1 σ2 rz1 hσ2 h => ?_)
  refine j_if_ne (tgt := 13) C d_P_expect_5 rfl rz1 (fun c => ?_) (fun c => ?_)
  · have h := h.1 c
    exact j_vreturn C d_P_expect_13 hσ2 h
  · have h := h.2 c
    refine j_aload_n C d_P_expect_8 0 rfl rfl ?_
    refine j_iconst C d_P_expect_9 ?_
    refine j_puti (kf := 3) (kI := 3) C t_P d_P_expect_10 sh_58 rfl i_P t_P_ok n_P rfl rfl rfl fl_P_29 rfl (Or.inr ⟨rfl, by decide⟩) ?_
    refine j_mem (fun σ3 eσ3 => ?_)
    have h := h σ3 eσ3
    have hσ3 : zRM σ3 := by rw [eσ3]; exact zU_rg hσ2 _ _ (zR_of (x := 1) rfl)
    exact j_vreturn C d_P_expect_13 hσ3 h
set_option maxRecDepth 100000 in
set_option maxHeartbeats 4000000 in
theorem w_P_readClock_b74 {X : zX} {G : zG} (C : zC X G b_P_readClock "GateRoads$Pad" 5 (some .int) 2 42) {Q : Int → zM → Prop} (σ : zM) (v2 : Int) (s0 : Int) (s2 : Int) (hσ : zRM σ) (r2 : zR v2) (rs0 : zR s0) (rs2 : zR s2) (h : wp_P_readClock_b74 Q σ v2 s0 s2) : zJ X G (zQi X G Q) 5 74 [(2, .int (zI v2))] [.int (zI s2), .ref (gad G 58), .int (zI s0)] σ := by
  unfold wp_P_readClock_b74 at h
  refine j_callV C d_P_readClock_74 ml_P_54 mi_P_readDigit (c_P_readDigit (xl X) (gD G) (gad G) (gca G) (v1 := s2) hσ rs2 h) sh_58 rfl rfl rfl rfl rfl rfl rfl (fun z10 σ11 rz10 hσ11 h => ?_)
  refine j_iadd C d_P_readClock_77 ?_
  obtain ⟨g12, h⟩ := h
  refine j_istore (L' := [(4, .int (zI (s0 + z10))), (2, .int (zI v2))]) C d_P_readClock_78 rfl rfl ?_
  refine j_iload_n C d_P_readClock_80 1 rfl rfl ?_
  refine j_bipush C d_P_readClock_81 rfl ?_
  refine j_imul C d_P_readClock_83 ?_
  refine j_iload C d_P_readClock_84 0 rfl ?_
  refine j_iadd C d_P_readClock_86 ?_
  obtain ⟨g13, h⟩ := h
  exact j_ireturn C d_P_readClock_87 g13 hσ11 h
set_option maxRecDepth 100000 in
set_option maxHeartbeats 4000000 in
theorem w_P_readClock_b53 {X : zX} {G : zG} (C : zC X G b_P_readClock "GateRoads$Pad" 5 (some .int) 2 42) {Q : Int → zM → Prop} (σ : zM) (v2 : Int) (v3 : Int) (s1 : Int) (hσ : zRM σ) (r2 : zR v2) (r3 : zR v3) (rs1 : zR s1) (h : wp_P_readClock_b53 Q σ v2 v3 s1) : zJ X G (zQi X G Q) 5 53 [(0, .ref (gad G 58)), (2, .int (zI v2)), (3, .int (zI v3))] [.int (zI s1), .ref (gad G 58)] σ := by
  unfold wp_P_readClock_b53 at h
  refine j_callV C d_P_readClock_53 ml_P_54 mi_P_readDigit (c_P_readDigit (xl X) (gD G) (gad G) (gca G) (v1 := s1) hσ rs1 h) sh_58 rfl rfl rfl rfl rfl rfl rfl (fun z7 σ8 rz7 hσ8 h => ?_)
  refine j_bipush C d_P_readClock_56 rfl ?_
  refine j_imul C d_P_readClock_58 ?_
  obtain ⟨g9, h⟩ := h
  refine j_istore (L' := [(4, .int (zI (z7 * 10))), (0, .ref (gad G 58)), (2, .int (zI v2)), (3, .int (zI v3))]) C d_P_readClock_59 rfl rfl ?_
  refine j_iload C d_P_readClock_61 0 rfl ?_
  refine j_aload_n C d_P_readClock_63 1 rfl rfl ?_
  refine j_iload_n C d_P_readClock_64 3 rfl rfl ?_
  refine j_if_eq (tgt := 72) C d_P_readClock_65 rfl r3 (fun c => ?_) (fun c => ?_)
  · have h := h.1 c
    refine j_bipush C d_P_readClock_72 rfl ?_
    refine j_sub (L' := [(2, .int (zI v2))]) [2] rfl ?_
    refine w_P_readClock_b74 C σ8 v2 (z7 * 10) 9 hσ8 r2 g9 (zR_of (x := 9) rfl) h
  · have h := h.2 c
    refine j_iconst C d_P_readClock_68 ?_
    refine j_goto (tgt := 74) C d_P_readClock_69 rfl ?_
    refine j_sub (L' := [(2, .int (zI v2))]) [2] rfl ?_
    refine w_P_readClock_b74 C σ8 v2 (z7 * 10) 0 hσ8 r2 g9 (zR_of (x := 0) rfl) h
set_option maxRecDepth 100000 in
set_option maxHeartbeats 4000000 in
theorem w_P_readClock_b42 {X : zX} {G : zG} (C : zC X G b_P_readClock "GateRoads$Pad" 5 (some .int) 2 42) {Q : Int → zM → Prop} (σ : zM) (v2 : Int) (s0 : Int) (hσ : zRM σ) (r2 : zR v2) (rs0 : zR s0) (h : wp_P_readClock_b42 Q σ v2 s0) : zJ X G (zQi X G Q) 5 42 [(0, .ref (gad G 58)), (2, .int (zI v2))] [.int (zI s0)] σ := by
  unfold wp_P_readClock_b42 at h
  refine j_istore_n (L' := [(3, .int (zI s0)), (0, .ref (gad G 58)), (2, .int (zI v2))]) C d_P_readClock_42 rfl rfl rfl ?_
  refine j_aload_n C d_P_readClock_43 1 rfl rfl ?_
  refine j_iload_n C d_P_readClock_44 0 rfl rfl ?_
  refine j_if_eq (tgt := 52) C d_P_readClock_45 rfl rs0 (fun c => ?_) (fun c => ?_)
  · have h := h.1 c
    refine j_iconst C d_P_readClock_52 ?_
    refine j_sub (L' := [(0, .ref (gad G 58)), (2, .int (zI v2)), (3, .int (zI s0))]) [1, 2, 0] rfl ?_
    refine w_P_readClock_b53 C σ v2 s0 5 hσ r2 rs0 (zR_of (x := 5) rfl) h
  · have h := h.2 c
    refine j_iconst C d_P_readClock_48 ?_
    refine j_goto (tgt := 53) C d_P_readClock_49 rfl ?_
    refine j_sub (L' := [(0, .ref (gad G 58)), (2, .int (zI v2)), (3, .int (zI s0))]) [1, 2, 0] rfl ?_
    refine w_P_readClock_b53 C σ v2 s0 0 hσ r2 rs0 (zR_of (x := 0) rfl) h
set_option maxRecDepth 100000 in
set_option maxHeartbeats 4000000 in
theorem w_P_readClock_b22 {X : zX} {G : zG} (C : zC X G b_P_readClock "GateRoads$Pad" 5 (some .int) 2 42) {Q : Int → zM → Prop} (σ : zM) (s0 : Int) (s2 : Int) (hσ : zRM σ) (rs0 : zR s0) (rs2 : zR s2) (h : wp_P_readClock_b22 Q σ s0 s2) : zJ X G (zQi X G Q) 5 22 [(0, .ref (gad G 58))] [.int (zI s2), .ref (gad G 58), .int (zI s0)] σ := by
  unfold wp_P_readClock_b22 at h
  refine j_callV C d_P_readClock_22 ml_P_54 mi_P_readDigit (c_P_readDigit (xl X) (gD G) (gad G) (gca G) (v1 := s2) hσ rs2 h) sh_58 rfl rfl rfl rfl rfl rfl rfl (fun z3 σ4 rz3 hσ4 h => ?_)
  refine j_iadd C d_P_readClock_25 ?_
  obtain ⟨g5, h⟩ := h
  refine j_istore_n (L' := [(2, .int (zI (s0 + z3))), (0, .ref (gad G 58))]) C d_P_readClock_26 rfl rfl rfl ?_
  refine j_iload_n C d_P_readClock_27 0 rfl rfl ?_
  refine j_bipush C d_P_readClock_28 rfl ?_
  refine j_imul C d_P_readClock_30 ?_
  refine j_sipush C d_P_readClock_31 rfl ?_
  obtain ⟨g6, h⟩ := h
  refine j_icmp_ne (tgt := 41) C d_P_readClock_34 rfl g6 (zR_of (x := 1440) rfl) (fun c => ?_) (fun c => ?_)
  · have h := h.1 c
    refine j_iconst C d_P_readClock_41 ?_
    refine j_sub (L' := [(0, .ref (gad G 58)), (2, .int (zI (s0 + z3)))]) [1, 0] rfl ?_
    refine w_P_readClock_b42 C σ4 (s0 + z3) 0 hσ4 g5 (zR_of (x := 0) rfl) h
  · have h := h.2 c
    refine j_iconst C d_P_readClock_37 ?_
    refine j_goto (tgt := 42) C d_P_readClock_38 rfl ?_
    refine j_sub (L' := [(0, .ref (gad G 58)), (2, .int (zI (s0 + z3)))]) [1, 0] rfl ?_
    refine w_P_readClock_b42 C σ4 (s0 + z3) 1 hσ4 g5 (zR_of (x := 1) rfl) h
set_option maxRecDepth 100000 in
set_option maxHeartbeats 4000000 in
theorem c_P_readClock (l : Launch) (D : va_G) (ad : Nat → Nat) (ca : Nat → ClassId) {σ : zM} {Q : Int → zM → Prop} (hσ : zRM σ) (h : wp_P_readClock σ Q) : zCi l D ad ca y_P_readClock b_P_readClock 5 (some .int) (zrm 2 42) [.ref (ad 58)] σ Q := by
  refine zCi_of (by decide +kernel) (Nat.le_of_ble_eq_true rfl) ?_
  intro X G C hl hD had hca
  subst hl hD had hca
  have C : zC X G b_P_readClock "GateRoads$Pad" 5 (some .int) 2 42 := C
  show zJ X G (zQi X G Q) 5 0 [(0, .ref (gad G 58))] [] σ
  unfold wp_P_readClock at h
  refine j_aload_n C d_P_readClock_0 0 rfl rfl ?_
  refine j_iconst C d_P_readClock_1 ?_
  refine j_callV C d_P_readClock_2 ml_P_54 mi_P_readDigit (c_P_readDigit (xl X) (gD G) (gad G) (gca G) (v1 := 2) hσ (zR_of (x := 2) rfl) h) sh_58 rfl rfl rfl rfl rfl rfl rfl (fun z1 σ2 rz1 hσ2 h => ?_)
  refine j_istore_n (L' := [(1, .int (zI z1)), (0, .ref (gad G 58))]) C d_P_readClock_5 rfl rfl rfl ?_
  refine j_iload_n C d_P_readClock_6 0 rfl rfl ?_
  refine j_bipush C d_P_readClock_7 rfl ?_
  refine j_imul C d_P_readClock_9 ?_
  refine j_aload_n C d_P_readClock_10 1 rfl rfl ?_
  refine j_iload_n C d_P_readClock_11 0 rfl rfl ?_
  refine j_iconst C d_P_readClock_12 ?_
  refine j_icmp_ne (tgt := 20) C d_P_readClock_13 rfl rz1 (zR_of (x := 2) rfl) (fun c => ?_) (fun c => ?_)
  · have h := h.1 c
    refine j_bipush C d_P_readClock_20 rfl ?_
    obtain ⟨g14, h⟩ := h
    refine j_sub (L' := [(0, .ref (gad G 58))]) [1] rfl ?_
    refine w_P_readClock_b22 C σ2 (z1 * 10) 9 hσ2 g14 (zR_of (x := 9) rfl) h
  · have h := h.2 c
    refine j_iconst C d_P_readClock_16 ?_
    refine j_goto (tgt := 22) C d_P_readClock_17 rfl ?_
    obtain ⟨g15, h⟩ := h
    refine j_sub (L' := [(0, .ref (gad G 58))]) [1] rfl ?_
    refine w_P_readClock_b22 C σ2 (z1 * 10) 4 hσ2 g15 (zR_of (x := 4) rfl) h
set_option maxRecDepth 100000 in
set_option maxHeartbeats 4000000 in
theorem w_P_readSpans_b105 {X : zX} {G : zG} (C : zC X G b_P_readSpans "GateRoads$Pad" 2 (none) 3 66) {Q : zM → Prop} {k23 : zM → Int → Prop} (hk23 : ∀ (σ : zM) (v1 : Int), zRM σ → zR v1 → k23 σ v1 → zJ X G (zQv X G Q) 2 23 [(0, .ref (gad G 58)), (1, .int (zI v1))] [] σ) (σ : zM) (s0 : Int) (hσ : zRM σ) (rs0 : zR s0) (h : wp_P_readSpans_b105 k23 Q σ s0) : zJ X G (zQv X G Q) 2 105 [(0, .ref (gad G 58))] [.int (zI s0)] σ := by
  unfold wp_P_readSpans_b105 at h
  refine j_istore_n (L' := [(1, .int (zI s0)), (0, .ref (gad G 58))]) C d_P_readSpans_105 rfl rfl rfl ?_
  refine j_goto (tgt := 23) C d_P_readSpans_106 rfl ?_
  refine j_sub (L' := [(0, .ref (gad G 58)), (1, .int (zI s0))]) [1, 0] rfl ?_
  exact hk23 σ s0 hσ rs0 h
set_option maxRecDepth 100000 in
set_option maxHeartbeats 4000000 in
theorem w_P_readSpans_b104 {X : zX} {G : zG} (C : zC X G b_P_readSpans "GateRoads$Pad" 2 (none) 3 66) {Q : zM → Prop} {k23 : zM → Int → Prop} (hk23 : ∀ (σ : zM) (v1 : Int), zRM σ → zR v1 → k23 σ v1 → zJ X G (zQv X G Q) 2 23 [(0, .ref (gad G 58)), (1, .int (zI v1))] [] σ) (σ : zM) (hσ : zRM σ) (h : wp_P_readSpans_b104 k23 Q σ) : zJ X G (zQv X G Q) 2 104 [(0, .ref (gad G 58))] [] σ := by
  unfold wp_P_readSpans_b104 at h
  refine j_iconst C d_P_readSpans_104 ?_
  refine w_P_readSpans_b105 C hk23 σ 0 hσ (zR_of (x := 0) rfl) h
set_option maxRecDepth 100000 in
set_option maxHeartbeats 4000000 in
theorem w_P_readSpans_L23 {X : zX} {G : zG} (C : zC X G b_P_readSpans "GateRoads$Pad" 2 (none) 3 66) {Q : zM → Prop} {k109 : zM → Prop} (hk109 : ∀ (σ : zM), zRM σ → k109 σ → zJ X G (zQv X G Q) 2 109 [(0, .ref (gad G 58))] [] σ) : ∀ (n : Nat) (σ : zM) (v1 : Int) (hσ : zRM σ) (r1 : zR v1), wp_P_readSpans_L23 k109 Q n σ v1 → zJ X G (zQv X G Q) 2 23 [(0, .ref (gad G 58)), (1, .int (zI v1))] [] σ := by
  intro n
  induction n with
  | zero => intro σ v1 hσ r1 h; exact False.elim h
  | succ n ih =>
    intro σ v1 hσ r1 h
    rw [wp_P_readSpans_L23] at h
    refine j_aload_n C d_P_readSpans_23 0 rfl rfl ?_
    refine j_geti (kf := 7) (kI := 7) C d_P_readSpans_24 sh_58 rfl i_P rfl rfl rfl fl_P_74 ?_
    refine j_iconst C d_P_readSpans_27 ?_
    refine j_icmp_ge (tgt := 109) C d_P_readSpans_28 rfl (hσ _ _) (zR_of (x := 3) rfl) (fun c => ?_) (fun c => ?_)
    · have h := h.1 c
      refine j_sub (L' := [(0, .ref (gad G 58))]) [0] rfl ?_
      exact hk109 σ hσ h
    · have h := h.2 c
      refine j_iload_n C d_P_readSpans_31 1 rfl rfl ?_
      refine j_if_eq (tgt := 109) C d_P_readSpans_32 rfl r1 (fun c => ?_) (fun c => ?_)
      · have h := h.1 c
        refine j_sub (L' := [(0, .ref (gad G 58))]) [0] rfl ?_
        exact hk109 σ hσ h
      · have h := h.2 c
        refine j_aload_n C d_P_readSpans_35 0 rfl rfl ?_
        refine j_getr (kf := 6) (m := 61) C d_P_readSpans_36 sh_58 rfl i_P rfl rfl fl_P_19 ?_
        refine j_iconst C d_P_readSpans_39 ?_
        refine j_aload_n C d_P_readSpans_40 0 rfl rfl ?_
        refine j_geti (kf := 7) (kI := 7) C d_P_readSpans_41 sh_58 rfl i_P rfl rfl rfl fl_P_74 ?_
        refine j_imul C d_P_readSpans_44 ?_
        refine j_aload_n C d_P_readSpans_45 0 rfl rfl ?_
        refine j_callV C d_P_readSpans_46 ml_P_77 mi_P_readClock (c_P_readClock (xl X) (gD G) (gad G) (gca G)  hσ h) sh_58 rfl rfl rfl rfl rfl rfl rfl (fun z7 σ8 rz7 hσ8 h => ?_)
        obtain ⟨g9, h⟩ := h
        refine j_iastore C d_P_readSpans_49 sh_61 g9 ?_
        refine j_mem (fun σ10 eσ10 => ?_)
        have h := h σ10 eσ10
        have hσ10 : zRM σ10 := by rw [eσ10]; exact zU_rg hσ8 _ _ rz7
        refine j_aload_n C d_P_readSpans_50 0 rfl rfl ?_
        refine j_bipush C d_P_readSpans_51 rfl ?_
        refine j_callVv C d_P_readSpans_53 ml_P_39 mi_P_expect (c_P_expect (xl X) (gD G) (gad G) (gca G) (v1 := 45) hσ10 (zR_of (x := 45) rfl) h) sh_58 rfl rfl rfl rfl rfl rfl rfl (fun σ12 hσ12 h => ?_)
        refine j_aload_n C d_P_readSpans_56 0 rfl rfl ?_
        refine j_getr (kf := 6) (m := 61) C d_P_readSpans_57 sh_58 rfl i_P rfl rfl fl_P_19 ?_
        refine j_iconst C d_P_readSpans_60 ?_
        refine j_aload_n C d_P_readSpans_61 0 rfl rfl ?_
        refine j_geti (kf := 7) (kI := 7) C d_P_readSpans_62 sh_58 rfl i_P rfl rfl rfl fl_P_74 ?_
        refine j_imul C d_P_readSpans_65 ?_
        refine j_iconst C d_P_readSpans_66 ?_
        refine j_iadd C d_P_readSpans_67 ?_
        refine j_aload_n C d_P_readSpans_68 0 rfl rfl ?_
        refine j_callV C d_P_readSpans_69 ml_P_77 mi_P_readClock (c_P_readClock (xl X) (gD G) (gad G) (gca G)  hσ12 h) sh_58 rfl rfl rfl rfl rfl rfl rfl (fun z13 σ14 rz13 hσ14 h => ?_)
        obtain ⟨g15, h⟩ := h
        refine j_iastore C d_P_readSpans_72 sh_61 g15 ?_
        refine j_mem (fun σ16 eσ16 => ?_)
        have h := h σ16 eσ16
        have hσ16 : zRM σ16 := by rw [eσ16]; exact zU_rg hσ14 _ _ rz13
        refine j_aload_n C d_P_readSpans_73 0 rfl rfl ?_
        refine j_dup C d_P_readSpans_74 rfl ?_
        refine j_geti (kf := 7) (kI := 7) C d_P_readSpans_75 sh_58 rfl i_P rfl rfl rfl fl_P_74 ?_
        refine j_iconst C d_P_readSpans_78 ?_
        refine j_iadd C d_P_readSpans_79 ?_
        obtain ⟨g17, h⟩ := h
        refine j_puti (kf := 7) (kI := 7) C t_P d_P_readSpans_80 sh_58 rfl i_P t_P_ok n_P rfl rfl rfl fl_P_74 rfl (Or.inl rfl) ?_
        refine j_mem (fun σ18 eσ18 => ?_)
        have h := h σ18 eσ18
        have hσ18 : zRM σ18 := by rw [eσ18]; exact zU_rg hσ16 _ _ g17
        refine j_aload_n C d_P_readSpans_83 0 rfl rfl ?_
        refine j_geti (kf := 7) (kI := 7) C d_P_readSpans_84 sh_58 rfl i_P rfl rfl rfl fl_P_74 ?_
        refine j_iconst C d_P_readSpans_87 ?_
        refine j_icmp_ge (tgt := 104) C d_P_readSpans_88 rfl (hσ18 _ _) (zR_of (x := 3) rfl) (fun c => ?_) (fun c => ?_)
        · have h := h.1 c
          refine j_sub (L' := [(0, .ref (gad G 58))]) [0] rfl ?_
          refine w_P_readSpans_b104 C ih σ18 hσ18 h
        · have h := h.2 c
          refine j_aload_n C d_P_readSpans_91 0 rfl rfl ?_
          refine j_bipush C d_P_readSpans_92 rfl ?_
          refine j_callV C d_P_readSpans_94 ml_P_47 mi_P_take (c_P_take (xl X) (gD G) (gad G) (gca G) (v1 := 44) hσ18 (zR_of (x := 44) rfl) h) sh_58 rfl rfl rfl rfl rfl rfl rfl (fun z19 σ20 rz19 hσ20 h => ?_)
          refine j_if_eq (tgt := 104) C d_P_readSpans_97 rfl rz19 (fun c => ?_) (fun c => ?_)
          · have h := h.1 c
            refine j_sub (L' := [(0, .ref (gad G 58))]) [0] rfl ?_
            refine w_P_readSpans_b104 C ih σ20 hσ20 h
          · have h := h.2 c
            refine j_iconst C d_P_readSpans_100 ?_
            refine j_goto (tgt := 105) C d_P_readSpans_101 rfl ?_
            refine j_sub (L' := [(0, .ref (gad G 58))]) [0] rfl ?_
            refine w_P_readSpans_b105 C ih σ20 1 hσ20 (zR_of (x := 1) rfl) h
set_option maxRecDepth 100000 in
set_option maxHeartbeats 4000000 in
theorem w_P_readSpans_b109 {X : zX} {G : zG} (C : zC X G b_P_readSpans "GateRoads$Pad" 2 (none) 3 66) {Q : zM → Prop} (σ : zM) (hσ : zRM σ) (h : wp_P_readSpans_b109 Q σ) : zJ X G (zQv X G Q) 2 109 [(0, .ref (gad G 58))] [] σ := by
  unfold wp_P_readSpans_b109 at h
  refine j_aload_n C d_P_readSpans_109 0 rfl rfl ?_
  refine j_aload_n C d_P_readSpans_110 0 rfl rfl ?_
  refine j_bipush C d_P_readSpans_111 rfl ?_
  refine j_callV C d_P_readSpans_113 ml_P_47 mi_P_take (c_P_take (xl X) (gD G) (gad G) (gca G) (v1 := 33) hσ (zR_of (x := 33) rfl) h) sh_58 rfl rfl rfl rfl rfl rfl rfl (fun z22 σ23 rz22 hσ23 h => ?_)
  refine j_if_eq (tgt := 123) C d_P_readSpans_116 rfl rz22 (fun c => ?_) (fun c => ?_)
  · have h := h.1 c
    refine j_iconst C d_P_readSpans_123 ?_
    refine j_puti (kf := 8) (kI := 8) C t_P d_P_readSpans_124 sh_58 rfl i_P t_P_ok n_P rfl rfl rfl fl_P_80 rfl (Or.inl rfl) ?_
    refine j_mem (fun σ24 eσ24 => ?_)
    have h := h σ24 eσ24
    have hσ24 : zRM σ24 := by rw [eσ24]; exact zU_rg hσ23 _ _ (zR_of (x := 0) rfl)
    exact j_vreturn C d_P_readSpans_127 hσ24 h
  · have h := h.2 c
    refine j_iconst C d_P_readSpans_119 ?_
    refine j_goto (tgt := 124) C d_P_readSpans_120 rfl ?_
    refine j_puti (kf := 8) (kI := 8) C t_P d_P_readSpans_124 sh_58 rfl i_P t_P_ok n_P rfl rfl rfl fl_P_80 rfl (Or.inl rfl) ?_
    refine j_mem (fun σ25 eσ25 => ?_)
    have h := h σ25 eσ25
    have hσ25 : zRM σ25 := by rw [eσ25]; exact zU_rg hσ23 _ _ (zR_of (x := 1) rfl)
    exact j_vreturn C d_P_readSpans_127 hσ25 h
set_option maxRecDepth 100000 in
set_option maxHeartbeats 4000000 in
theorem c_P_readSpans (l : Launch) (D : va_G) (ad : Nat → Nat) (ca : Nat → ClassId) {σ : zM} {Q : zM → Prop} (hσ : zRM σ) (h : wp_P_readSpans σ Q) : zCv l D ad ca y_P_readSpans b_P_readSpans 2 (zrm 3 66) [.ref (ad 58)] σ Q := by
  refine zCv_of (by decide +kernel) (Nat.le_of_ble_eq_true rfl) ?_
  intro X G C hl hD had hca
  subst hl hD had hca
  have C : zC X G b_P_readSpans "GateRoads$Pad" 2 (none) 3 66 := C
  show zJ X G (zQv X G Q) 2 0 [(0, .ref (gad G 58))] [] σ
  unfold wp_P_readSpans at h
  refine j_aload_n C d_P_readSpans_0 0 rfl rfl ?_
  refine j_getr (kf := 5) (m := 60) C d_P_readSpans_1 sh_58 rfl i_P rfl rfl fl_P_15 ?_
  refine j_iconst C d_P_readSpans_4 ?_
  refine j_aload_n C d_P_readSpans_5 0 rfl rfl ?_
  refine j_callV C d_P_readSpans_6 ml_P_70 mi_P_readNumber (c_P_readNumber (xl X) (gD G) (gad G) (gca G)  hσ h) sh_58 rfl rfl rfl rfl rfl rfl rfl (fun z1 σ2 rz1 hσ2 h => ?_)
  refine j_iastore C d_P_readSpans_9 sh_60 (zIx (i := 0) (n := 3) rfl) ?_
  refine j_mem (fun σ3 eσ3 => ?_)
  have h := h σ3 eσ3
  have hσ3 : zRM σ3 := by rw [eσ3]; exact zU_rg hσ2 _ _ rz1
  refine j_aload_n C d_P_readSpans_10 0 rfl rfl ?_
  refine j_bipush C d_P_readSpans_11 rfl ?_
  refine j_callVv C d_P_readSpans_13 ml_P_39 mi_P_expect (c_P_expect (xl X) (gD G) (gad G) (gca G) (v1 := 58) hσ3 (zR_of (x := 58) rfl) h) sh_58 rfl rfl rfl rfl rfl rfl rfl (fun σ5 hσ5 h => ?_)
  refine j_aload_n C d_P_readSpans_16 0 rfl rfl ?_
  refine j_iconst C d_P_readSpans_17 ?_
  refine j_puti (kf := 7) (kI := 7) C t_P d_P_readSpans_18 sh_58 rfl i_P t_P_ok n_P rfl rfl rfl fl_P_74 rfl (Or.inl rfl) ?_
  refine j_mem (fun σ6 eσ6 => ?_)
  have h := h σ6 eσ6
  have hσ6 : zRM σ6 := by rw [eσ6]; exact zU_rg hσ5 _ _ (zR_of (x := 0) rfl)
  refine j_iconst C d_P_readSpans_21 ?_
  refine j_istore_n (L' := [(1, .int (zI 1)), (0, .ref (gad G 58))]) C d_P_readSpans_22 rfl rfl rfl ?_
  obtain ⟨n26, h⟩ := h
  refine j_sub (L' := [(0, .ref (gad G 58)), (1, .int (zI 1))]) [1, 0] rfl ?_
  refine w_P_readSpans_L23 C ?_ n26 σ6 1 hσ6 (zR_of (x := 1) rfl) h
  · intro σ21 hσ21 h
    refine w_P_readSpans_b109 C σ21 hσ21 h
set_option maxRecDepth 100000 in
set_option maxHeartbeats 4000000 in
theorem c_P_readClosure (l : Launch) (D : va_G) (ad : Nat → Nat) (ca : Nat → ClassId) {σ : zM} {Q : zM → Prop} (hσ : zRM σ) (h : wp_P_readClosure σ Q) : zCv l D ad ca y_P_readClosure b_P_readClosure 1 (zrm 3 65) [.ref (ad 58)] σ Q := by
  refine zCv_of (by decide +kernel) (Nat.le_of_ble_eq_true rfl) ?_
  intro X G C hl hD had hca
  subst hl hD had hca
  have C : zC X G b_P_readClosure "GateRoads$Pad" 1 (none) 3 65 := C
  show zJ X G (zQv X G Q) 1 0 [(0, .ref (gad G 58))] [] σ
  unfold wp_P_readClosure at h
  refine j_aload_n C d_P_readClosure_0 0 rfl rfl ?_
  refine j_getr (kf := 5) (m := 60) C d_P_readClosure_1 sh_58 rfl i_P rfl rfl fl_P_15 ?_
  refine j_iconst C d_P_readClosure_4 ?_
  refine j_aload_n C d_P_readClosure_5 0 rfl rfl ?_
  refine j_callV C d_P_readClosure_6 ml_P_70 mi_P_readNumber (c_P_readNumber (xl X) (gD G) (gad G) (gca G)  hσ h) sh_58 rfl rfl rfl rfl rfl rfl rfl (fun z1 σ2 rz1 hσ2 h => ?_)
  refine j_iastore C d_P_readClosure_9 sh_60 (zIx (i := 0) (n := 3) rfl) ?_
  refine j_mem (fun σ3 eσ3 => ?_)
  have h := h σ3 eσ3
  have hσ3 : zRM σ3 := by rw [eσ3]; exact zU_rg hσ2 _ _ rz1
  refine j_aload_n C d_P_readClosure_10 0 rfl rfl ?_
  refine j_bipush C d_P_readClosure_11 rfl ?_
  refine j_callVv C d_P_readClosure_13 ml_P_39 mi_P_expect (c_P_expect (xl X) (gD G) (gad G) (gca G) (v1 := 58) hσ3 (zR_of (x := 58) rfl) h) sh_58 rfl rfl rfl rfl rfl rfl rfl (fun σ5 hσ5 h => ?_)
  refine j_aload_n C d_P_readClosure_16 0 rfl rfl ?_
  refine j_getr (kf := 5) (m := 60) C d_P_readClosure_17 sh_58 rfl i_P rfl rfl fl_P_15 ?_
  refine j_iconst C d_P_readClosure_20 ?_
  refine j_aload_n C d_P_readClosure_21 0 rfl rfl ?_
  refine j_callV C d_P_readClosure_22 ml_P_70 mi_P_readNumber (c_P_readNumber (xl X) (gD G) (gad G) (gca G)  hσ5 h) sh_58 rfl rfl rfl rfl rfl rfl rfl (fun z6 σ7 rz6 hσ7 h => ?_)
  refine j_iastore C d_P_readClosure_25 sh_60 (zIx (i := 1) (n := 3) rfl) ?_
  refine j_mem (fun σ8 eσ8 => ?_)
  have h := h σ8 eσ8
  have hσ8 : zRM σ8 := by rw [eσ8]; exact zU_rg hσ7 _ _ rz6
  refine j_aload_n C d_P_readClosure_26 0 rfl rfl ?_
  refine j_bipush C d_P_readClosure_27 rfl ?_
  refine j_callVv C d_P_readClosure_29 ml_P_39 mi_P_expect (c_P_expect (xl X) (gD G) (gad G) (gca G) (v1 := 45) hσ8 (zR_of (x := 45) rfl) h) sh_58 rfl rfl rfl rfl rfl rfl rfl (fun σ10 hσ10 h => ?_)
  refine j_aload_n C d_P_readClosure_32 0 rfl rfl ?_
  refine j_getr (kf := 5) (m := 60) C d_P_readClosure_33 sh_58 rfl i_P rfl rfl fl_P_15 ?_
  refine j_iconst C d_P_readClosure_36 ?_
  refine j_aload_n C d_P_readClosure_37 0 rfl rfl ?_
  refine j_callV C d_P_readClosure_38 ml_P_70 mi_P_readNumber (c_P_readNumber (xl X) (gD G) (gad G) (gca G)  hσ10 h) sh_58 rfl rfl rfl rfl rfl rfl rfl (fun z11 σ12 rz11 hσ12 h => ?_)
  refine j_iastore C d_P_readClosure_41 sh_60 (zIx (i := 2) (n := 3) rfl) ?_
  refine j_mem (fun σ13 eσ13 => ?_)
  have h := h σ13 eσ13
  have hσ13 : zRM σ13 := by rw [eσ13]; exact zU_rg hσ12 _ _ rz11
  exact j_vreturn C d_P_readClosure_42 hσ13 h
set_option maxRecDepth 100000 in
set_option maxHeartbeats 4000000 in
theorem c_P_readDigitAndNumber (l : Launch) (D : va_G) (ad : Nat → Nat) (ca : Nat → ClassId) {σ : zM} {v1 : Int} {Q : zM → Prop} (hσ : zRM σ) (r1 : zR v1) (h : wp_P_readDigitAndNumber σ v1 Q) : zCv l D ad ca y_P_readDigitAndNumber b_P_readDigitAndNumber 2 (zrm 3 65) [.ref (ad 58), .int (zI v1)] σ Q := by
  refine zCv_of (by decide +kernel) (Nat.le_of_ble_eq_true rfl) ?_
  intro X G C hl hD had hca
  subst hl hD had hca
  have C : zC X G b_P_readDigitAndNumber "GateRoads$Pad" 2 (none) 3 65 := C
  show zJ X G (zQv X G Q) 2 0 [(0, .ref (gad G 58)), (1, .int (zI v1))] [] σ
  unfold wp_P_readDigitAndNumber at h
  refine j_aload_n C d_P_readDigitAndNumber_0 0 rfl rfl ?_
  refine j_getr (kf := 5) (m := 60) C d_P_readDigitAndNumber_1 sh_58 rfl i_P rfl rfl fl_P_15 ?_
  refine j_iconst C d_P_readDigitAndNumber_4 ?_
  refine j_aload_n C d_P_readDigitAndNumber_5 0 rfl rfl ?_
  refine j_bipush C d_P_readDigitAndNumber_6 rfl ?_
  refine j_callV C d_P_readDigitAndNumber_8 ml_P_54 mi_P_readDigit (c_P_readDigit (xl X) (gD G) (gad G) (gca G) (v1 := 9) hσ (zR_of (x := 9) rfl) h) sh_58 rfl rfl rfl rfl rfl rfl rfl (fun z1 σ2 rz1 hσ2 h => ?_)
  refine j_iastore C d_P_readDigitAndNumber_11 sh_60 (zIx (i := 0) (n := 3) rfl) ?_
  refine j_mem (fun σ3 eσ3 => ?_)
  have h := h σ3 eσ3
  have hσ3 : zRM σ3 := by rw [eσ3]; exact zU_rg hσ2 _ _ rz1
  refine j_aload_n C d_P_readDigitAndNumber_12 0 rfl rfl ?_
  refine j_iload_n C d_P_readDigitAndNumber_13 1 rfl rfl ?_
  refine j_callVv C d_P_readDigitAndNumber_14 ml_P_39 mi_P_expect (c_P_expect (xl X) (gD G) (gad G) (gca G) (v1 := v1) hσ3 r1 h) sh_58 rfl rfl rfl rfl rfl rfl rfl (fun σ5 hσ5 h => ?_)
  refine j_aload_n C d_P_readDigitAndNumber_17 0 rfl rfl ?_
  refine j_getr (kf := 5) (m := 60) C d_P_readDigitAndNumber_18 sh_58 rfl i_P rfl rfl fl_P_15 ?_
  refine j_iconst C d_P_readDigitAndNumber_21 ?_
  refine j_aload_n C d_P_readDigitAndNumber_22 0 rfl rfl ?_
  refine j_callV C d_P_readDigitAndNumber_23 ml_P_70 mi_P_readNumber (c_P_readNumber (xl X) (gD G) (gad G) (gca G)  hσ5 h) sh_58 rfl rfl rfl rfl rfl rfl rfl (fun z6 σ7 rz6 hσ7 h => ?_)
  refine j_iastore C d_P_readDigitAndNumber_26 sh_60 (zIx (i := 1) (n := 3) rfl) ?_
  refine j_mem (fun σ8 eσ8 => ?_)
  have h := h σ8 eσ8
  have hσ8 : zRM σ8 := by rw [eσ8]; exact zU_rg hσ7 _ _ rz6
  exact j_vreturn C d_P_readDigitAndNumber_27 hσ8 h
set_option maxRecDepth 100000 in
set_option maxHeartbeats 4000000 in
theorem w_P_readOrder_b33 {X : zX} {G : zG} (C : zC X G b_P_readOrder "GateRoads$Pad" 1 (none) 4 87) {Q : zM → Prop} (σ : zM) (s1 : Int) (hσ : zRM σ) (rs1 : zR s1) (h : wp_P_readOrder_b33 Q σ s1) : zJ X G (zQv X G Q) 1 33 [(0, .ref (gad G 58))] [.int (zI s1), .ref (gad G 58)] σ := by
  unfold wp_P_readOrder_b33 at h
  refine j_puti (kf := 4) (kI := 4) C t_P d_P_readOrder_33 sh_58 rfl i_P t_P_ok n_P rfl rfl rfl fl_P_58 rfl (Or.inl rfl) ?_
  refine j_mem (fun σ1 eσ1 => ?_)
  have h := h σ1 eσ1
  have hσ1 : zRM σ1 := by rw [eσ1]; exact zU_rg hσ _ _ rs1
  refine j_aload_n C d_P_readOrder_36 0 rfl rfl ?_
  refine j_geti (kf := 4) (kI := 4) C d_P_readOrder_37 sh_58 rfl i_P rfl rfl rfl fl_P_58 ?_
  have hc : (σ1 58 4) = 103 ∨ (σ1 58 4) = 115 ∨ (σ1 58 4) = 119 ∨ (σ1 58 4) = 120 ∨ (¬ (σ1 58 4) = 103 ∧ ¬ (σ1 58 4) = 115 ∧ ¬ (σ1 58 4) = 119 ∧ ¬ (σ1 58 4) = 120) := by omega
  rcases hc with c | c | c | c | c
  · have h := h.1 c
    refine j_lookup (tgt := 118) (off := 78) C d_P_readOrder_40 (hσ1 _ _) rfl (by rw [c]; rfl) rfl ?_
    refine j_aload_n C d_P_readOrder_118 0 rfl rfl ?_
    refine j_dup C d_P_readOrder_119 rfl ?_
    refine j_geti (kf := 2) (kI := 2) C d_P_readOrder_120 sh_58 rfl i_P rfl rfl rfl fl_P_26 ?_
    refine j_iconst C d_P_readOrder_123 ?_
    refine j_iadd C d_P_readOrder_124 ?_
    obtain ⟨g2, h⟩ := h
    refine j_puti (kf := 2) (kI := 2) C t_P d_P_readOrder_125 sh_58 rfl i_P t_P_ok n_P rfl rfl rfl fl_P_26 rfl (Or.inl rfl) ?_
    refine j_mem (fun σ3 eσ3 => ?_)
    have h := h σ3 eσ3
    have hσ3 : zRM σ3 := by rw [eσ3]; exact zU_rg hσ1 _ _ g2
    refine j_aload_n C d_P_readOrder_128 0 rfl rfl ?_
    refine j_bipush C d_P_readOrder_129 rfl ?_
    refine j_callVv C d_P_readOrder_131 ml_P_67 mi_P_readDigitAndNumber (c_P_readDigitAndNumber (xl X) (gD G) (gad G) (gca G) (v1 := 62) hσ3 (zR_of (x := 62) rfl) h) sh_58 rfl rfl rfl rfl rfl rfl rfl (fun σ5 hσ5 h => ?_)
    refine j_goto (tgt := 161) C d_P_readOrder_134 rfl ?_
    exact j_vreturn C d_P_readOrder_161 hσ5 h
  · have h := h.2.1 c
    refine j_lookup (tgt := 84) (off := 44) C d_P_readOrder_40 (hσ1 _ _) rfl (by rw [c]; rfl) rfl ?_
    refine j_aload_n C d_P_readOrder_84 0 rfl rfl ?_
    refine j_dup C d_P_readOrder_85 rfl ?_
    refine j_geti (kf := 2) (kI := 2) C d_P_readOrder_86 sh_58 rfl i_P rfl rfl rfl fl_P_26 ?_
    refine j_iconst C d_P_readOrder_89 ?_
    refine j_iadd C d_P_readOrder_90 ?_
    obtain ⟨g6, h⟩ := h
    refine j_puti (kf := 2) (kI := 2) C t_P d_P_readOrder_91 sh_58 rfl i_P t_P_ok n_P rfl rfl rfl fl_P_26 rfl (Or.inl rfl) ?_
    refine j_mem (fun σ7 eσ7 => ?_)
    have h := h σ7 eσ7
    have hσ7 : zRM σ7 := by rw [eσ7]; exact zU_rg hσ1 _ _ g6
    refine j_aload_n C d_P_readOrder_94 0 rfl rfl ?_
    refine j_callVv C d_P_readOrder_95 ml_P_61 mi_P_readSpans (c_P_readSpans (xl X) (gD G) (gad G) (gca G)  hσ7 h) sh_58 rfl rfl rfl rfl rfl rfl rfl (fun σ9 hσ9 h => ?_)
    refine j_goto (tgt := 161) C d_P_readOrder_98 rfl ?_
    exact j_vreturn C d_P_readOrder_161 hσ9 h
  · have h := h.2.2.1 c
    refine j_lookup (tgt := 137) (off := 97) C d_P_readOrder_40 (hσ1 _ _) rfl (by rw [c]; rfl) rfl ?_
    refine j_aload_n C d_P_readOrder_137 0 rfl rfl ?_
    refine j_dup C d_P_readOrder_138 rfl ?_
    refine j_geti (kf := 2) (kI := 2) C d_P_readOrder_139 sh_58 rfl i_P rfl rfl rfl fl_P_26 ?_
    refine j_iconst C d_P_readOrder_142 ?_
    refine j_iadd C d_P_readOrder_143 ?_
    obtain ⟨g10, h⟩ := h
    refine j_puti (kf := 2) (kI := 2) C t_P d_P_readOrder_144 sh_58 rfl i_P t_P_ok n_P rfl rfl rfl fl_P_26 rfl (Or.inl rfl) ?_
    refine j_mem (fun σ11 eσ11 => ?_)
    have h := h σ11 eσ11
    have hσ11 : zRM σ11 := by rw [eσ11]; exact zU_rg hσ1 _ _ g10
    refine j_aload_n C d_P_readOrder_147 0 rfl rfl ?_
    refine j_bipush C d_P_readOrder_148 rfl ?_
    refine j_callVv C d_P_readOrder_150 ml_P_67 mi_P_readDigitAndNumber (c_P_readDigitAndNumber (xl X) (gD G) (gad G) (gca G) (v1 := 43) hσ11 (zR_of (x := 43) rfl) h) sh_58 rfl rfl rfl rfl rfl rfl rfl (fun σ13 hσ13 h => ?_)
    refine j_goto (tgt := 161) C d_P_readOrder_153 rfl ?_
    exact j_vreturn C d_P_readOrder_161 hσ13 h
  · have h := h.2.2.2.1 c
    refine j_lookup (tgt := 101) (off := 61) C d_P_readOrder_40 (hσ1 _ _) rfl (by rw [c]; rfl) rfl ?_
    refine j_aload_n C d_P_readOrder_101 0 rfl rfl ?_
    refine j_dup C d_P_readOrder_102 rfl ?_
    refine j_geti (kf := 2) (kI := 2) C d_P_readOrder_103 sh_58 rfl i_P rfl rfl rfl fl_P_26 ?_
    refine j_iconst C d_P_readOrder_106 ?_
    refine j_iadd C d_P_readOrder_107 ?_
    obtain ⟨g14, h⟩ := h
    refine j_puti (kf := 2) (kI := 2) C t_P d_P_readOrder_108 sh_58 rfl i_P t_P_ok n_P rfl rfl rfl fl_P_26 rfl (Or.inl rfl) ?_
    refine j_mem (fun σ15 eσ15 => ?_)
    have h := h σ15 eσ15
    have hσ15 : zRM σ15 := by rw [eσ15]; exact zU_rg hσ1 _ _ g14
    refine j_aload_n C d_P_readOrder_111 0 rfl rfl ?_
    refine j_callVv C d_P_readOrder_112 ml_P_64 mi_P_readClosure (c_P_readClosure (xl X) (gD G) (gad G) (gca G)  hσ15 h) sh_58 rfl rfl rfl rfl rfl rfl rfl (fun σ17 hσ17 h => ?_)
    refine j_goto (tgt := 161) C d_P_readOrder_115 rfl ?_
    exact j_vreturn C d_P_readOrder_161 hσ17 h
  · have h := h.2.2.2.2 c
    refine j_lookup (tgt := 156) (off := 116) C d_P_readOrder_40 (hσ1 _ _) rfl (zLk4 c) rfl ?_
    refine j_aload_n C d_P_readOrder_156 0 rfl rfl ?_
    refine j_iconst C d_P_readOrder_157 ?_
    refine j_puti (kf := 3) (kI := 3) C t_P d_P_readOrder_158 sh_58 rfl i_P t_P_ok n_P rfl rfl rfl fl_P_29 rfl (Or.inr ⟨rfl, by decide⟩) ?_
    refine j_mem (fun σ18 eσ18 => ?_)
    have h := h σ18 eσ18
    have hσ18 : zRM σ18 := by rw [eσ18]; exact zU_rg hσ1 _ _ (zR_of (x := 1) rfl)
    exact j_vreturn C d_P_readOrder_161 hσ18 h
set_option maxRecDepth 100000 in
set_option maxHeartbeats 4000000 in
theorem w_P_readOrder_b31 {X : zX} {G : zG} (C : zC X G b_P_readOrder "GateRoads$Pad" 1 (none) 4 87) {Q : zM → Prop} (σ : zM) (hσ : zRM σ) (h : wp_P_readOrder_b31 Q σ) : zJ X G (zQv X G Q) 1 31 [(0, .ref (gad G 58))] [.ref (gad G 58)] σ := by
  unfold wp_P_readOrder_b31 at h
  refine j_bipush C d_P_readOrder_31 rfl ?_
  refine w_P_readOrder_b33 C σ 59 hσ (zR_of (x := 59) rfl) h
set_option maxRecDepth 100000 in
set_option maxHeartbeats 4000000 in
theorem c_P_readOrder (l : Launch) (D : va_G) (ad : Nat → Nat) (ca : Nat → ClassId) {σ : zM} {Q : zM → Prop} (hσ : zRM σ) (h : wp_P_readOrder σ Q) : zCv l D ad ca y_P_readOrder b_P_readOrder 1 (zrm 4 87) [.ref (ad 58)] σ Q := by
  refine zCv_of (by decide +kernel) (Nat.le_of_ble_eq_true rfl) ?_
  intro X G C hl hD had hca
  subst hl hD had hca
  have C : zC X G b_P_readOrder "GateRoads$Pad" 1 (none) 4 87 := C
  show zJ X G (zQv X G Q) 1 0 [(0, .ref (gad G 58))] [] σ
  unfold wp_P_readOrder at h
  refine j_aload_n C d_P_readOrder_0 0 rfl rfl ?_
  refine j_aload_n C d_P_readOrder_1 0 rfl rfl ?_
  refine j_geti (kf := 3) (kI := 3) C d_P_readOrder_2 sh_58 rfl i_P rfl rfl rfl fl_P_29 ?_
  refine j_if_ne (tgt := 31) C d_P_readOrder_5 rfl (hσ _ _) (fun c => ?_) (fun c => ?_)
  · have h := h.1 c
    refine w_P_readOrder_b31 C σ hσ h
  · have h := h.2 c
    refine j_aload_n C d_P_readOrder_8 0 rfl rfl ?_
    refine j_geti (kf := 2) (kI := 2) C d_P_readOrder_9 sh_58 rfl i_P rfl rfl rfl fl_P_26 ?_
    refine j_aload_n C d_P_readOrder_12 0 rfl rfl ?_
    refine j_geti (kf := 1) (kI := 1) C d_P_readOrder_13 sh_58 rfl i_P rfl rfl rfl fl_P_22 ?_
    refine j_icmp_ge (tgt := 31) C d_P_readOrder_16 rfl (hσ _ _) (hσ _ _) (fun c => ?_) (fun c => ?_)
    · have h := h.1 c
      refine w_P_readOrder_b31 C σ hσ h
    · have h := h.2 c
      refine j_aload_n C d_P_readOrder_19 0 rfl rfl ?_
      refine j_getr (kf := 0) (m := 59) C d_P_readOrder_20 sh_58 rfl i_P rfl rfl fl_P_9 ?_
      refine j_aload_n C d_P_readOrder_23 0 rfl rfl ?_
      refine j_geti (kf := 2) (kI := 2) C d_P_readOrder_24 sh_58 rfl i_P rfl rfl rfl fl_P_26 ?_
      obtain ⟨g19, h⟩ := h
      refine j_caload C d_P_readOrder_27 sh_59 g19 ?_
      refine j_goto (tgt := 33) C d_P_readOrder_28 rfl ?_
      refine w_P_readOrder_b33 C σ (σ 59 (σ 58 2)) hσ (hσ _ _) h
set_option maxRecDepth 100000 in
set_option maxHeartbeats 4000000 in
theorem w_P_firstWrong_b56 {X : zX} {G : zG} (C : zC X G b_P_firstWrong "GateRoads$Pad" 3 (some .int) 5 107) {Q : Int → zM → Prop} {k8 : zM → Int → Int → Prop} (hk8 : ∀ (σ : zM) (v1 : Int) (v2 : Int), zRM σ → zR v1 → zR v2 → k8 σ v1 v2 → zJ X G (zQi X G Q) 3 8 [(0, .ref (gad G 58)), (1, .int (zI v1)), (2, .int (zI v2))] [] σ) (σ : zM) (v1 : Int) (v2 : Int) (hσ : zRM σ) (r1 : zR v1) (r2 : zR v2) (h : wp_P_firstWrong_b56 k8 Q σ v1 v2) : zJ X G (zQi X G Q) 3 56 [(0, .ref (gad G 58)), (1, .int (zI v1)), (2, .int (zI v2))] [] σ := by
  unfold wp_P_firstWrong_b56 at h
  obtain ⟨g5, h⟩ := h
  refine j_iinc (L' := [(2, .int (zI (v2 + 1))), (0, .ref (gad G 58)), (1, .int (zI v1))]) C d_P_firstWrong_56 2 rfl rfl rfl ?_
  refine j_goto (tgt := 8) C d_P_firstWrong_59 rfl ?_
  refine j_sub (L' := [(0, .ref (gad G 58)), (1, .int (zI v1)), (2, .int (zI (v2 + 1)))]) [1, 2, 0] rfl ?_
  exact hk8 σ v1 (v2 + 1) hσ r1 g5 h
set_option maxRecDepth 100000 in
set_option maxHeartbeats 4000000 in
theorem w_P_firstWrong_b45 {X : zX} {G : zG} (C : zC X G b_P_firstWrong "GateRoads$Pad" 3 (some .int) 5 107) {Q : Int → zM → Prop} {k8 : zM → Int → Int → Prop} (hk8 : ∀ (σ : zM) (v1 : Int) (v2 : Int), zRM σ → zR v1 → zR v2 → k8 σ v1 v2 → zJ X G (zQi X G Q) 3 8 [(0, .ref (gad G 58)), (1, .int (zI v1)), (2, .int (zI v2))] [] σ) (σ : zM) (v2 : Int) (s0 : Int) (hσ : zRM σ) (r2 : zR v2) (rs0 : zR s0) (h : wp_P_firstWrong_b45 k8 Q σ v2 s0) : zJ X G (zQi X G Q) 3 45 [(0, .ref (gad G 58)), (2, .int (zI v2))] [.int (zI s0)] σ := by
  unfold wp_P_firstWrong_b45 at h
  refine j_istore_n (L' := [(1, .int (zI s0)), (0, .ref (gad G 58)), (2, .int (zI v2))]) C d_P_firstWrong_45 rfl rfl rfl ?_
  refine j_iload_n C d_P_firstWrong_46 0 rfl rfl ?_
  refine j_if_eq (tgt := 56) C d_P_firstWrong_47 rfl rs0 (fun c => ?_) (fun c => ?_)
  · have h := h.1 c
    refine j_sub (L' := [(0, .ref (gad G 58)), (1, .int (zI s0)), (2, .int (zI v2))]) [1, 0, 2] rfl ?_
    refine w_P_firstWrong_b56 C hk8 σ s0 v2 hσ rs0 r2 h
  · have h := h.2 c
    refine j_aload_n C d_P_firstWrong_50 1 rfl rfl ?_
    refine j_bipush C d_P_firstWrong_51 rfl ?_
    refine j_callVv C d_P_firstWrong_53 ml_P_39 mi_P_expect (c_P_expect (xl X) (gD G) (gad G) (gca G) (v1 := 59) hσ (zR_of (x := 59) rfl) h) sh_58 rfl rfl rfl rfl rfl rfl rfl (fun σ7 hσ7 h => ?_)
    refine j_sub (L' := [(0, .ref (gad G 58)), (1, .int (zI s0)), (2, .int (zI v2))]) [1, 0, 2] rfl ?_
    refine w_P_firstWrong_b56 C hk8 σ7 s0 v2 hσ7 rs0 r2 h
set_option maxRecDepth 100000 in
set_option maxHeartbeats 4000000 in
theorem w_P_firstWrong_b44 {X : zX} {G : zG} (C : zC X G b_P_firstWrong "GateRoads$Pad" 3 (some .int) 5 107) {Q : Int → zM → Prop} {k8 : zM → Int → Int → Prop} (hk8 : ∀ (σ : zM) (v1 : Int) (v2 : Int), zRM σ → zR v1 → zR v2 → k8 σ v1 v2 → zJ X G (zQi X G Q) 3 8 [(0, .ref (gad G 58)), (1, .int (zI v1)), (2, .int (zI v2))] [] σ) (σ : zM) (v2 : Int) (hσ : zRM σ) (r2 : zR v2) (h : wp_P_firstWrong_b44 k8 Q σ v2) : zJ X G (zQi X G Q) 3 44 [(0, .ref (gad G 58)), (2, .int (zI v2))] [] σ := by
  unfold wp_P_firstWrong_b44 at h
  refine j_iconst C d_P_firstWrong_44 ?_
  refine w_P_firstWrong_b45 C hk8 σ v2 0 hσ r2 (zR_of (x := 0) rfl) h
set_option maxRecDepth 100000 in
set_option maxHeartbeats 4000000 in
theorem w_P_firstWrong_L8 {X : zX} {G : zG} (C : zC X G b_P_firstWrong "GateRoads$Pad" 3 (some .int) 5 107) {Q : Int → zM → Prop} {k62 : zM → Prop} (hk62 : ∀ (σ : zM), zRM σ → k62 σ → zJ X G (zQi X G Q) 3 62 [(0, .ref (gad G 58))] [] σ) : ∀ (n : Nat) (σ : zM) (v1 : Int) (v2 : Int) (hσ : zRM σ) (r1 : zR v1) (r2 : zR v2), wp_P_firstWrong_L8 k62 Q n σ v1 v2 → zJ X G (zQi X G Q) 3 8 [(0, .ref (gad G 58)), (1, .int (zI v1)), (2, .int (zI v2))] [] σ := by
  intro n
  induction n with
  | zero => intro σ v1 v2 hσ r1 r2 h; exact False.elim h
  | succ n ih =>
    intro σ v1 v2 hσ r1 r2 h
    rw [wp_P_firstWrong_L8] at h
    refine j_iload_n C d_P_firstWrong_8 2 rfl rfl ?_
    refine j_bipush C d_P_firstWrong_9 rfl ?_
    refine j_icmp_ge (tgt := 62) C d_P_firstWrong_11 rfl r2 (zR_of (x := 80) rfl) (fun c => ?_) (fun c => ?_)
    · have h := h.1 c
      refine j_sub (L' := [(0, .ref (gad G 58))]) [0] rfl ?_
      exact hk62 σ hσ h
    · have h := h.2 c
      refine j_iload_n C d_P_firstWrong_14 1 rfl rfl ?_
      refine j_if_eq (tgt := 62) C d_P_firstWrong_15 rfl r1 (fun c => ?_) (fun c => ?_)
      · have h := h.1 c
        refine j_sub (L' := [(0, .ref (gad G 58))]) [0] rfl ?_
        exact hk62 σ hσ h
      · have h := h.2 c
        refine j_aload_n C d_P_firstWrong_18 0 rfl rfl ?_
        refine j_callVv C d_P_firstWrong_19 ml_P_36 mi_P_readOrder (c_P_readOrder (xl X) (gD G) (gad G) (gca G)  hσ h) sh_58 rfl rfl rfl rfl rfl rfl rfl (fun σ4 hσ4 h => ?_)
        refine j_aload_n C d_P_firstWrong_22 0 rfl rfl ?_
        refine j_geti (kf := 3) (kI := 3) C d_P_firstWrong_23 sh_58 rfl i_P rfl rfl rfl fl_P_29 ?_
        refine j_if_ne (tgt := 44) C d_P_firstWrong_26 rfl (hσ4 _ _) (fun c => ?_) (fun c => ?_)
        · have h := h.1 c
          refine j_sub (L' := [(0, .ref (gad G 58)), (2, .int (zI v2))]) [0, 2] rfl ?_
          refine w_P_firstWrong_b44 C ih σ4 v2 hσ4 r2 h
        · have h := h.2 c
          refine j_aload_n C d_P_firstWrong_29 0 rfl rfl ?_
          refine j_geti (kf := 2) (kI := 2) C d_P_firstWrong_30 sh_58 rfl i_P rfl rfl rfl fl_P_26 ?_
          refine j_aload_n C d_P_firstWrong_33 0 rfl rfl ?_
          refine j_geti (kf := 1) (kI := 1) C d_P_firstWrong_34 sh_58 rfl i_P rfl rfl rfl fl_P_22 ?_
          refine j_icmp_ge (tgt := 44) C d_P_firstWrong_37 rfl (hσ4 _ _) (hσ4 _ _) (fun c => ?_) (fun c => ?_)
          · have h := h.1 c
            refine j_sub (L' := [(0, .ref (gad G 58)), (2, .int (zI v2))]) [0, 2] rfl ?_
            refine w_P_firstWrong_b44 C ih σ4 v2 hσ4 r2 h
          · have h := h.2 c
            refine j_iconst C d_P_firstWrong_40 ?_
            refine j_goto (tgt := 45) C d_P_firstWrong_41 rfl ?_
            refine j_sub (L' := [(0, .ref (gad G 58)), (2, .int (zI v2))]) [0, 2] rfl ?_
            refine w_P_firstWrong_b45 C ih σ4 v2 1 hσ4 r2 (zR_of (x := 1) rfl) h
set_option maxRecDepth 100000 in
set_option maxHeartbeats 4000000 in
theorem w_P_firstWrong_b62 {X : zX} {G : zG} (C : zC X G b_P_firstWrong "GateRoads$Pad" 3 (some .int) 5 107) {Q : Int → zM → Prop} (σ : zM) (hσ : zRM σ) (h : wp_P_firstWrong_b62 Q σ) : zJ X G (zQi X G Q) 3 62 [(0, .ref (gad G 58))] [] σ := by
  unfold wp_P_firstWrong_b62 at h
  refine j_aload_n C d_P_firstWrong_62 0 rfl rfl ?_
  refine j_geti (kf := 3) (kI := 3) C d_P_firstWrong_63 sh_58 rfl i_P rfl rfl rfl fl_P_29 ?_
  refine j_if_eq (tgt := 76) C d_P_firstWrong_66 rfl (hσ _ _) (fun c => ?_) (fun c => ?_)
  · have h := h.1 c
    refine j_bipush C d_P_firstWrong_76 rfl ?_
    exact j_ireturn C d_P_firstWrong_78 (zR_of (x := (-6)) rfl) hσ h
  · have h := h.2 c
    refine j_aload_n C d_P_firstWrong_69 0 rfl rfl ?_
    refine j_geti (kf := 2) (kI := 2) C d_P_firstWrong_70 sh_58 rfl i_P rfl rfl rfl fl_P_26 ?_
    refine j_goto (tgt := 78) C d_P_firstWrong_73 rfl ?_
    exact j_ireturn C d_P_firstWrong_78 (hσ _ _) hσ h
set_option maxRecDepth 100000 in
set_option maxHeartbeats 4000000 in
theorem c_P_firstWrong (l : Launch) (D : va_G) (ad : Nat → Nat) (ca : Nat → ClassId) {σ : zM} {Q : Int → zM → Prop} (hσ : zRM σ) (h : wp_P_firstWrong σ Q) : zCi l D ad ca y_P_firstWrong b_P_firstWrong 3 (some .int) (zrm 5 107) [.ref (ad 58)] σ Q := by
  refine zCi_of (by decide +kernel) (Nat.le_of_ble_eq_true rfl) ?_
  intro X G C hl hD had hca
  subst hl hD had hca
  have C : zC X G b_P_firstWrong "GateRoads$Pad" 3 (some .int) 5 107 := C
  show zJ X G (zQi X G Q) 3 0 [(0, .ref (gad G 58))] [] σ
  unfold wp_P_firstWrong at h
  refine j_aload_n C d_P_firstWrong_0 0 rfl rfl ?_
  refine j_callVv C d_P_firstWrong_1 ml_P_33 mi_P_rewind (c_P_rewind (xl X) (gD G) (gad G) (gca G)  hσ h) sh_58 rfl rfl rfl rfl rfl rfl rfl (fun σ2 hσ2 h => ?_)
  refine j_iconst C d_P_firstWrong_4 ?_
  refine j_istore_n (L' := [(1, .int (zI 1)), (0, .ref (gad G 58))]) C d_P_firstWrong_5 rfl rfl rfl ?_
  refine j_iconst C d_P_firstWrong_6 ?_
  refine j_istore_n (L' := [(2, .int (zI 0)), (1, .int (zI 1)), (0, .ref (gad G 58))]) C d_P_firstWrong_7 rfl rfl rfl ?_
  obtain ⟨n9, h⟩ := h
  refine j_sub (L' := [(0, .ref (gad G 58)), (1, .int (zI 1)), (2, .int (zI 0))]) [2, 1, 0] rfl ?_
  refine w_P_firstWrong_L8 C ?_ n9 σ2 1 0 hσ2 (zR_of (x := 1) rfl) (zR_of (x := 0) rfl) h
  · intro σ8 hσ8 h
    refine w_P_firstWrong_b62 C σ8 hσ8 h
