set_option maxRecDepth 100000 in
set_option maxHeartbeats 4000000 in
theorem c_X_fault (l : Launch) (D : va_G) (ad : Nat → Nat) (ca : Nat → ClassId) {σ : zM} {Q : Int → zM → Prop} (hσ : zRM σ) (h : wp_X_fault σ Q) : zCi l D ad ca y_X_fault b_X_fault 1 (some .int) (zrm 6 129) [.ref (ad 54)] σ Q := by
  refine zCi_of (by decide +kernel) (Nat.le_of_ble_eq_true rfl) ?_
  intro X G C hl hD had hca
  subst hl hD had hca
  have C : zC X G b_X_fault "GateRoads" 1 (some .int) 6 129 := C
  show zJ X G (zQi X G Q) 1 0 [(0, .ref (gad G 54))] [] σ
  unfold wp_X_fault at h
  refine j_aload_n C d_X_fault_0 0 rfl rfl ?_
  refine j_getr (kf := 6) (m := 58) C d_X_fault_1 sh_54 rfl i_X rfl rfl fl_X_30 ?_
  refine j_callV C d_X_fault_4 ml_X_258 mi_P_firstWrong (c_P_firstWrong (xl X) (gD G) (gad G) (gca G)  hσ h) sh_58 rfl rfl rfl rfl rfl rfl rfl (fun z1 σ2 rz1 hσ2 h => ?_)
  exact j_ireturn C d_X_fault_7 rz1 hσ2 h
set_option maxRecDepth 100000 in
set_option maxHeartbeats 4000000 in
theorem c_P_spanFrom (l : Launch) (D : va_G) (ad : Nat → Nat) (ca : Nat → ClassId) {σ : zM} {v1 : Int} {Q : Int → Prop} (hσ : zRM σ) (r1 : zR v1) (h : wp_P_spanFrom σ v1 Q) : zCi l D ad ca y_P_spanFrom b_P_spanFrom 2 (some .int) (zrm 0 0) [.ref (ad 58), .int (zI v1)] σ (fun z u => σ = u ∧ Q z) := by
  refine zCi_of (by decide +kernel) (Nat.le_of_ble_eq_true rfl) ?_
  intro X G C hl hD had hca
  subst hl hD had hca
  have C : zC X G b_P_spanFrom "GateRoads$Pad" 2 (some .int) 0 0 := C
  show zJ X G (zQi X G (fun z u => σ = u ∧ Q z)) 2 0 [(0, .ref (gad G 58)), (1, .int (zI v1))] [] σ
  unfold wp_P_spanFrom at h
  refine j_aload_n C d_P_spanFrom_0 0 rfl rfl ?_
  refine j_getr (kf := 6) (m := 61) C d_P_spanFrom_1 sh_58 rfl i_P rfl rfl fl_P_19 ?_
  refine j_iconst C d_P_spanFrom_4 ?_
  refine j_iload_n C d_P_spanFrom_5 1 rfl rfl ?_
  refine j_imul C d_P_spanFrom_6 ?_
  obtain ⟨g1, h⟩ := h
  refine j_iaload C d_P_spanFrom_7 sh_61 g1 ?_
  exact j_ireturn C d_P_spanFrom_8 (hσ _ _) hσ ⟨rfl, h⟩
set_option maxRecDepth 100000 in
set_option maxHeartbeats 4000000 in
theorem c_P_spanTo (l : Launch) (D : va_G) (ad : Nat → Nat) (ca : Nat → ClassId) {σ : zM} {v1 : Int} {Q : Int → Prop} (hσ : zRM σ) (r1 : zR v1) (h : wp_P_spanTo σ v1 Q) : zCi l D ad ca y_P_spanTo b_P_spanTo 2 (some .int) (zrm 0 0) [.ref (ad 58), .int (zI v1)] σ (fun z u => σ = u ∧ Q z) := by
  refine zCi_of (by decide +kernel) (Nat.le_of_ble_eq_true rfl) ?_
  intro X G C hl hD had hca
  subst hl hD had hca
  have C : zC X G b_P_spanTo "GateRoads$Pad" 2 (some .int) 0 0 := C
  show zJ X G (zQi X G (fun z u => σ = u ∧ Q z)) 2 0 [(0, .ref (gad G 58)), (1, .int (zI v1))] [] σ
  unfold wp_P_spanTo at h
  refine j_aload_n C d_P_spanTo_0 0 rfl rfl ?_
  refine j_getr (kf := 6) (m := 61) C d_P_spanTo_1 sh_58 rfl i_P rfl rfl fl_P_19 ?_
  refine j_iconst C d_P_spanTo_4 ?_
  refine j_iload_n C d_P_spanTo_5 1 rfl rfl ?_
  refine j_imul C d_P_spanTo_6 ?_
  refine j_iconst C d_P_spanTo_7 ?_
  refine j_iadd C d_P_spanTo_8 ?_
  obtain ⟨g1, h⟩ := h
  refine j_iaload C d_P_spanTo_9 sh_61 g1 ?_
  exact j_ireturn C d_P_spanTo_10 (hσ _ _) hσ ⟨rfl, h⟩
set_option maxRecDepth 100000 in
set_option maxHeartbeats 4000000 in
theorem w_P_spansStandApart_b60 {X : zX} {G : zG} (C : zC X G b_P_spansStandApart "GateRoads$Pad" 3 (some .boolean) 1 21) {σ : zM} {v1 : Int} (hσ : zRM σ) (r1 : zR v1) {Q : Int → Prop} {k27 : Int → Prop} (hk27 : ∀ (v2 : Int), zR v2 → k27 v2 → zJ X G (zQi X G (fun z u => σ = u ∧ Q z)) 3 27 [(0, .ref (gad G 58)), (1, .int (zI v1)), (2, .int (zI v2))] [] σ) (v2 : Int) (r2 : zR v2) (h : wp_P_spansStandApart_b60 σ v1 k27 Q v2) : zJ X G (zQi X G (fun z u => σ = u ∧ Q z)) 3 60 [(0, .ref (gad G 58)), (1, .int (zI v1)), (2, .int (zI v2))] [] σ := by
  unfold wp_P_spansStandApart_b60 at h
  obtain ⟨g9, h⟩ := h
  refine j_iinc (L' := [(2, .int (zI (v2 + 1))), (0, .ref (gad G 58)), (1, .int (zI v1))]) C d_P_spansStandApart_60 2 rfl rfl rfl ?_
  refine j_goto (tgt := 27) C d_P_spansStandApart_63 rfl ?_
  refine j_sub (L' := [(0, .ref (gad G 58)), (1, .int (zI v1)), (2, .int (zI (v2 + 1)))]) [1, 2, 0] rfl ?_
  exact hk27 (v2 + 1) g9 h
set_option maxRecDepth 100000 in
set_option maxHeartbeats 4000000 in
theorem w_P_spansStandApart_L27 {X : zX} {G : zG} (C : zC X G b_P_spansStandApart "GateRoads$Pad" 3 (some .boolean) 1 21) {σ : zM} {v1 : Int} (hσ : zRM σ) (r1 : zR v1) {Q : Int → Prop} {k66 : Prop} (hk66 : k66 → zJ X G (zQi X G (fun z u => σ = u ∧ Q z)) 3 66 [(0, .ref (gad G 58)), (1, .int (zI v1))] [] σ) : ∀ (n : Nat) (v2 : Int) (r2 : zR v2), wp_P_spansStandApart_L27 σ v1 k66 Q n v2 → zJ X G (zQi X G (fun z u => σ = u ∧ Q z)) 3 27 [(0, .ref (gad G 58)), (1, .int (zI v1)), (2, .int (zI v2))] [] σ := by
  intro n
  induction n with
  | zero => intro v2 r2 h; exact False.elim h
  | succ n ih =>
    intro v2 r2 h
    rw [wp_P_spansStandApart_L27] at h
    refine j_iload_n C d_P_spansStandApart_27 2 rfl rfl ?_
    refine j_iload_n C d_P_spansStandApart_28 1 rfl rfl ?_
    refine j_icmp_ge (tgt := 66) C d_P_spansStandApart_29 rfl r2 r1 (fun c => ?_) (fun c => ?_)
    · have h := h.1 c
      refine j_sub (L' := [(0, .ref (gad G 58)), (1, .int (zI v1))]) [0, 1] rfl ?_
      exact hk66 h
    · have h := h.2 c
      refine j_aload_n C d_P_spansStandApart_32 0 rfl rfl ?_
      refine j_iload_n C d_P_spansStandApart_33 1 rfl rfl ?_
      refine j_callV C d_P_spansStandApart_34 ml_P_83 mi_P_spanFrom (c_P_spanFrom (xl X) (gD G) (gad G) (gca G) (v1 := v1) hσ r1 h) sh_58 rfl rfl rfl rfl rfl rfl rfl (fun z5 σ6 rz5 hσ6 h => ?_)
      obtain ⟨ez5, h⟩ := h; subst ez5
      refine j_aload_n C d_P_spansStandApart_37 0 rfl rfl ?_
      refine j_iload_n C d_P_spansStandApart_38 2 rfl rfl ?_
      refine j_callV C d_P_spansStandApart_39 ml_P_86 mi_P_spanTo (c_P_spanTo (xl X) (gD G) (gad G) (gca G) (v1 := v2) hσ r2 h) sh_58 rfl rfl rfl rfl rfl rfl rfl (fun z7 σ8 rz7 hσ8 h => ?_)
      obtain ⟨ez7, h⟩ := h; subst ez7
      refine j_icmp_ge (tgt := 60) C d_P_spansStandApart_42 rfl rz5 rz7 (fun c => ?_) (fun c => ?_)
      · have h := h.1 c
        refine w_P_spansStandApart_b60 C hσ r1 ih v2 r2 h
      · have h := h.2 c
        refine j_aload_n C d_P_spansStandApart_45 0 rfl rfl ?_
        refine j_iload_n C d_P_spansStandApart_46 2 rfl rfl ?_
        refine j_callV C d_P_spansStandApart_47 ml_P_83 mi_P_spanFrom (c_P_spanFrom (xl X) (gD G) (gad G) (gca G) (v1 := v2) hσ r2 h) sh_58 rfl rfl rfl rfl rfl rfl rfl (fun z10 σ11 rz10 hσ11 h => ?_)
        obtain ⟨ez10, h⟩ := h; subst ez10
        refine j_aload_n C d_P_spansStandApart_50 0 rfl rfl ?_
        refine j_iload_n C d_P_spansStandApart_51 1 rfl rfl ?_
        refine j_callV C d_P_spansStandApart_52 ml_P_86 mi_P_spanTo (c_P_spanTo (xl X) (gD G) (gad G) (gca G) (v1 := v1) hσ r1 h) sh_58 rfl rfl rfl rfl rfl rfl rfl (fun z12 σ13 rz12 hσ13 h => ?_)
        obtain ⟨ez12, h⟩ := h; subst ez12
        refine j_icmp_ge (tgt := 60) C d_P_spansStandApart_55 rfl rz10 rz12 (fun c => ?_) (fun c => ?_)
        · have h := h.1 c
          refine w_P_spansStandApart_b60 C hσ r1 ih v2 r2 h
        · have h := h.2 c
          refine j_iconst C d_P_spansStandApart_58 ?_
          exact j_zreturn C d_P_spansStandApart_59 (by decide) hσ ⟨rfl, h⟩
set_option maxRecDepth 100000 in
set_option maxHeartbeats 4000000 in
theorem w_P_spansStandApart_L2 {X : zX} {G : zG} (C : zC X G b_P_spansStandApart "GateRoads$Pad" 3 (some .boolean) 1 21) {σ : zM} (hσ : zRM σ) {Q : Int → Prop} : ∀ (n : Nat) (v1 : Int) (r1 : zR v1), wp_P_spansStandApart_L2 σ Q n v1 → zJ X G (zQi X G (fun z u => σ = u ∧ Q z)) 3 2 [(0, .ref (gad G 58)), (1, .int (zI v1))] [] σ := by
  intro n
  induction n with
  | zero => intro v1 r1 h; exact False.elim h
  | succ n ih =>
    intro v1 r1 h
    rw [wp_P_spansStandApart_L2] at h
    refine j_iload_n C d_P_spansStandApart_2 1 rfl rfl ?_
    refine j_aload_n C d_P_spansStandApart_3 0 rfl rfl ?_
    refine j_geti (kf := 7) (kI := 7) C d_P_spansStandApart_4 sh_58 rfl i_P rfl rfl rfl fl_P_74 ?_
    refine j_icmp_ge (tgt := 72) C d_P_spansStandApart_7 rfl r1 (hσ _ _) (fun c => ?_) (fun c => ?_)
    · have h := h.1 c
      refine j_iconst C d_P_spansStandApart_72 ?_
      exact j_zreturn C d_P_spansStandApart_73 (by decide) hσ ⟨rfl, h⟩
    · have h := h.2 c
      refine j_aload_n C d_P_spansStandApart_10 0 rfl rfl ?_
      refine j_iload_n C d_P_spansStandApart_11 1 rfl rfl ?_
      refine j_callV C d_P_spansStandApart_12 ml_P_83 mi_P_spanFrom (c_P_spanFrom (xl X) (gD G) (gad G) (gca G) (v1 := v1) hσ r1 h) sh_58 rfl rfl rfl rfl rfl rfl rfl (fun z1 σ2 rz1 hσ2 h => ?_)
      obtain ⟨ez1, h⟩ := h; subst ez1
      refine j_aload_n C d_P_spansStandApart_15 0 rfl rfl ?_
      refine j_iload_n C d_P_spansStandApart_16 1 rfl rfl ?_
      refine j_callV C d_P_spansStandApart_17 ml_P_86 mi_P_spanTo (c_P_spanTo (xl X) (gD G) (gad G) (gca G) (v1 := v1) hσ r1 h) sh_58 rfl rfl rfl rfl rfl rfl rfl (fun z3 σ4 rz3 hσ4 h => ?_)
      obtain ⟨ez3, h⟩ := h; subst ez3
      refine j_icmp_lt (tgt := 25) C d_P_spansStandApart_20 rfl rz1 rz3 (fun c => ?_) (fun c => ?_)
      · have h := h.1 c
        refine j_iconst C d_P_spansStandApart_25 ?_
        refine j_istore_n (L' := [(2, .int (zI 0)), (0, .ref (gad G 58)), (1, .int (zI v1))]) C d_P_spansStandApart_26 rfl rfl rfl ?_
        obtain ⟨n15, h⟩ := h
        refine j_sub (L' := [(0, .ref (gad G 58)), (1, .int (zI v1)), (2, .int (zI 0))]) [1, 2, 0] rfl ?_
        refine w_P_spansStandApart_L27 C hσ r1 ?_ n15 0 (zR_of (x := 0) rfl) h
        · intro h
          obtain ⟨g14, h⟩ := h
          refine j_iinc (L' := [(1, .int (zI (v1 + 1))), (0, .ref (gad G 58))]) C d_P_spansStandApart_66 1 rfl rfl rfl ?_
          refine j_goto (tgt := 2) C d_P_spansStandApart_69 rfl ?_
          refine j_sub (L' := [(0, .ref (gad G 58)), (1, .int (zI (v1 + 1)))]) [1, 0] rfl ?_
          exact ih (v1 + 1) g14 h
      · have h := h.2 c
        refine j_iconst C d_P_spansStandApart_23 ?_
        exact j_zreturn C d_P_spansStandApart_24 (by decide) hσ ⟨rfl, h⟩
set_option maxRecDepth 100000 in
set_option maxHeartbeats 4000000 in
theorem c_P_spansStandApart (l : Launch) (D : va_G) (ad : Nat → Nat) (ca : Nat → ClassId) {σ : zM} {Q : Int → Prop} (hσ : zRM σ) (h : wp_P_spansStandApart σ Q) : zCi l D ad ca y_P_spansStandApart b_P_spansStandApart 3 (some .boolean) (zrm 1 21) [.ref (ad 58)] σ (fun z u => σ = u ∧ Q z) := by
  refine zCi_of (by decide +kernel) (Nat.le_of_ble_eq_true rfl) ?_
  intro X G C hl hD had hca
  subst hl hD had hca
  have C : zC X G b_P_spansStandApart "GateRoads$Pad" 3 (some .boolean) 1 21 := C
  show zJ X G (zQi X G (fun z u => σ = u ∧ Q z)) 3 0 [(0, .ref (gad G 58))] [] σ
  unfold wp_P_spansStandApart at h
  refine j_iconst C d_P_spansStandApart_0 ?_
  refine j_istore_n (L' := [(1, .int (zI 0)), (0, .ref (gad G 58))]) C d_P_spansStandApart_1 rfl rfl rfl ?_
  obtain ⟨n16, h⟩ := h
  refine j_sub (L' := [(0, .ref (gad G 58)), (1, .int (zI 0))]) [1, 0] rfl ?_
  refine w_P_spansStandApart_L2 C hσ n16 0 (zR_of (x := 0) rfl) h
set_option maxRecDepth 100000 in
set_option maxHeartbeats 4000000 in
theorem w_X_tellSpans_L43 {X : zX} {G : zG} (C : zC X G b_X_tellSpans "GateRoads" 3 (some .int) 3 69) {v1 : Int} (r1 : zR v1) {Q : Int → zM → Prop} : ∀ (n : Nat) (σ : zM) (v2 : Int) (hσ : zRM σ) (r2 : zR v2), wp_X_tellSpans_L43 v1 Q n σ v2 → zJ X G (zQi X G Q) 3 43 [(0, .ref (gad G 54)), (1, .int (zI v1)), (2, .int (zI v2))] [] σ := by
  intro n
  induction n with
  | zero => intro σ v2 hσ r2 h; exact False.elim h
  | succ n ih =>
    intro σ v2 hσ r2 h
    rw [wp_X_tellSpans_L43] at h
    refine j_iload_n C d_X_tellSpans_43 2 rfl rfl ?_
    refine j_aload_n C d_X_tellSpans_44 0 rfl rfl ?_
    refine j_getr (kf := 6) (m := 58) C d_X_tellSpans_45 sh_54 rfl i_X rfl rfl fl_X_30 ?_
    refine j_geti (kf := 7) (kI := 7) C d_X_tellSpans_48 sh_58 rfl i_P rfl rfl rfl fl_X_330 ?_
    refine j_icmp_ge (tgt := 84) C d_X_tellSpans_51 rfl r2 (hσ _ _) (fun c => ?_) (fun c => ?_)
    · have h := h.1 c
      refine j_iconst C d_X_tellSpans_84 ?_
      exact j_ireturn C d_X_tellSpans_85 (zR_of (x := 0) rfl) hσ h
    · have h := h.2 c
      refine j_aload_n C d_X_tellSpans_54 0 rfl rfl ?_
      refine j_getr (kf := 0) (m := 0) C d_X_tellSpans_55 sh_54 rfl i_X rfl rfl fl_X_12 ?_
      refine j_iload_n C d_X_tellSpans_58 1 rfl rfl ?_
      refine j_aload_n C d_X_tellSpans_59 0 rfl rfl ?_
      refine j_getr (kf := 6) (m := 58) C d_X_tellSpans_60 sh_54 rfl i_X rfl rfl fl_X_30 ?_
      refine j_iload_n C d_X_tellSpans_63 2 rfl rfl ?_
      refine j_callV C d_X_tellSpans_64 ml_X_333 mi_P_spanFrom (c_P_spanFrom (xl X) (gD G) (gad G) (gca G) (v1 := v2) hσ r2 h) sh_58 rfl rfl rfl rfl rfl rfl rfl (fun z7 σ8 rz7 hσ8 h => ?_)
      obtain ⟨ez7, h⟩ := h; subst ez7
      refine j_aload_n C d_X_tellSpans_67 0 rfl rfl ?_
      refine j_getr (kf := 6) (m := 58) C d_X_tellSpans_68 sh_54 rfl i_X rfl rfl fl_X_30 ?_
      refine j_iload_n C d_X_tellSpans_71 2 rfl rfl ?_
      refine j_callV C d_X_tellSpans_72 ml_X_336 mi_P_spanTo (c_P_spanTo (xl X) (gD G) (gad G) (gca G) (v1 := v2) hσ r2 h) sh_58 rfl rfl rfl rfl rfl rfl rfl (fun z9 σ10 rz9 hσ10 h => ?_)
      obtain ⟨ez9, h⟩ := h; subst ez9
      refine j_callVv C d_X_tellSpans_75 ml_X_102 mi_S_addSpan (c_S_addSpan (xl X) (gD G) (gad G) (gca G) (v1 := v1) (v2 := z7) (v3 := z9) hσ r1 rz7 rz9 h) sh_0 rfl rfl rfl rfl rfl rfl rfl (fun σ12 hσ12 h => ?_)
      obtain ⟨g13, h⟩ := h
      refine j_iinc (L' := [(2, .int (zI (v2 + 1))), (0, .ref (gad G 54)), (1, .int (zI v1))]) C d_X_tellSpans_78 2 rfl rfl rfl ?_
      refine j_goto (tgt := 43) C d_X_tellSpans_81 rfl ?_
      refine j_sub (L' := [(0, .ref (gad G 54)), (1, .int (zI v1)), (2, .int (zI (v2 + 1)))]) [1, 2, 0] rfl ?_
      exact ih σ12 (v2 + 1) hσ12 g13 h
set_option maxRecDepth 100000 in
set_option maxHeartbeats 4000000 in
theorem c_X_tellSpans (l : Launch) (D : va_G) (ad : Nat → Nat) (ca : Nat → ClassId) {σ : zM} {v1 : Int} {Q : Int → zM → Prop} (hσ : zRM σ) (r1 : zR v1) (h : wp_X_tellSpans σ v1 Q) : zCi l D ad ca y_X_tellSpans b_X_tellSpans 3 (some .int) (zrm 3 69) [.ref (ad 54), .int (zI v1)] σ Q := by
  refine zCi_of (by decide +kernel) (Nat.le_of_ble_eq_true rfl) ?_
  intro X G C hl hD had hca
  subst hl hD had hca
  have C : zC X G b_X_tellSpans "GateRoads" 3 (some .int) 3 69 := C
  show zJ X G (zQi X G Q) 3 0 [(0, .ref (gad G 54)), (1, .int (zI v1))] [] σ
  unfold wp_X_tellSpans at h
  refine j_aload_n C d_X_tellSpans_0 0 rfl rfl ?_
  refine j_getr (kf := 0) (m := 0) C d_X_tellSpans_1 sh_54 rfl i_X rfl rfl fl_X_12 ?_
  refine j_iload_n C d_X_tellSpans_4 1 rfl rfl ?_
  refine j_callV C d_X_tellSpans_5 ml_X_88 mi_S_hasRoad (c_S_hasRoad (xl X) (gD G) (gad G) (gca G) (v1 := v1) hσ r1 h) sh_0 rfl rfl rfl rfl rfl rfl rfl (fun z1 σ2 rz1 hσ2 h => ?_)
  obtain ⟨ez1, h⟩ := h; subst ez1
  refine j_if_ne (tgt := 13) C d_X_tellSpans_8 rfl rz1 (fun c => ?_) (fun c => ?_)
  · have h := h.1 c
    refine j_aload_n C d_X_tellSpans_13 0 rfl rfl ?_
    refine j_getr (kf := 6) (m := 58) C d_X_tellSpans_14 sh_54 rfl i_X rfl rfl fl_X_30 ?_
    refine j_callV C d_X_tellSpans_17 ml_X_323 mi_P_spansStandApart (c_P_spansStandApart (xl X) (gD G) (gad G) (gca G)  hσ h) sh_58 rfl rfl rfl rfl rfl rfl rfl (fun z3 σ4 rz3 hσ4 h => ?_)
    obtain ⟨ez3, h⟩ := h; subst ez3
    refine j_if_ne (tgt := 26) C d_X_tellSpans_20 rfl rz3 (fun c => ?_) (fun c => ?_)
    · have h := h.1 c
      refine j_aload_n C d_X_tellSpans_26 0 rfl rfl ?_
      refine j_getr (kf := 0) (m := 0) C d_X_tellSpans_27 sh_54 rfl i_X rfl rfl fl_X_12 ?_
      refine j_iload_n C d_X_tellSpans_30 1 rfl rfl ?_
      refine j_aload_n C d_X_tellSpans_31 0 rfl rfl ?_
      refine j_getr (kf := 6) (m := 58) C d_X_tellSpans_32 sh_54 rfl i_X rfl rfl fl_X_30 ?_
      refine j_geti (kf := 8) (kI := 8) C d_X_tellSpans_35 sh_58 rfl i_P rfl rfl rfl fl_X_327 ?_
      refine j_callVv C d_X_tellSpans_38 ml_X_98 mi_S_dropSpans (c_S_dropSpans (xl X) (gD G) (gad G) (gca G) (v1 := v1) (v2 := σ 58 8) hσ r1 (hσ _ _) h) sh_0 rfl rfl rfl rfl rfl rfl rfl (fun σ6 hσ6 h => ?_)
      refine j_iconst C d_X_tellSpans_41 ?_
      refine j_istore_n (L' := [(2, .int (zI 0)), (0, .ref (gad G 54)), (1, .int (zI v1))]) C d_X_tellSpans_42 rfl rfl rfl ?_
      obtain ⟨n14, h⟩ := h
      refine j_sub (L' := [(0, .ref (gad G 54)), (1, .int (zI v1)), (2, .int (zI 0))]) [1, 2, 0] rfl ?_
      refine w_X_tellSpans_L43 C r1 n14 σ6 0 hσ6 (zR_of (x := 0) rfl) h
    · have h := h.2 c
      refine j_bipush C d_X_tellSpans_23 rfl ?_
      exact j_ireturn C d_X_tellSpans_25 (zR_of (x := (-2)) rfl) hσ h
  · have h := h.2 c
    refine j_iconst C d_X_tellSpans_11 ?_
    exact j_ireturn C d_X_tellSpans_12 (zR_of (x := (-1)) rfl) hσ h
set_option maxRecDepth 100000 in
set_option maxHeartbeats 4000000 in
theorem c_X_carryOrder (l : Launch) (D : va_G) (ad : Nat → Nat) (ca : Nat → ClassId) {σ : zM} {Q : Int → zM → Prop} (hσ : zRM σ) (h : wp_X_carryOrder σ Q) : zCi l D ad ca y_X_carryOrder b_X_carryOrder 2 (some .int) (zrm 5 116) [.ref (ad 54)] σ Q := by
  refine zCi_of (by decide +kernel) (Nat.le_of_ble_eq_true rfl) ?_
  intro X G C hl hD had hca
  subst hl hD had hca
  have C : zC X G b_X_carryOrder "GateRoads" 2 (some .int) 5 116 := C
  show zJ X G (zQi X G Q) 2 0 [(0, .ref (gad G 54))] [] σ
  unfold wp_X_carryOrder at h
  refine j_aload_n C d_X_carryOrder_0 0 rfl rfl ?_
  refine j_getr (kf := 6) (m := 58) C d_X_carryOrder_1 sh_54 rfl i_X rfl rfl fl_X_30 ?_
  refine j_getr (kf := 5) (m := 60) C d_X_carryOrder_4 sh_58 rfl i_P rfl rfl fl_X_305 ?_
  refine j_astore_n (L' := [(1, .ref (gad G 60)), (0, .ref (gad G 54))]) C d_X_carryOrder_7 rfl rfl rfl ?_
  refine j_aload_n C d_X_carryOrder_8 1 rfl rfl ?_
  refine j_getr (kf := 6) (m := 58) C d_X_carryOrder_9 sh_54 rfl i_X rfl rfl fl_X_30 ?_
  refine j_geti (kf := 4) (kI := 4) C d_X_carryOrder_12 sh_58 rfl i_P rfl rfl rfl fl_X_308 ?_
  have hc : (σ 58 4) = 103 ∨ (σ 58 4) = 115 ∨ (σ 58 4) = 119 ∨ (σ 58 4) = 120 ∨ (¬ (σ 58 4) = 103 ∧ ¬ (σ 58 4) = 115 ∧ ¬ (σ 58 4) = 119 ∧ ¬ (σ 58 4) = 120) := by omega
  rcases hc with c | c | c | c | c
  · have h := h.1 c
    refine j_lookup (tgt := 78) (off := 63) C d_X_carryOrder_15 (hσ _ _) rfl (by rw [c]; rfl) rfl ?_
    refine j_aload_n C d_X_carryOrder_78 1 rfl rfl ?_
    refine j_aload_n C d_X_carryOrder_79 0 rfl rfl ?_
    refine j_iconst C d_X_carryOrder_80 ?_
    refine j_iaload C d_X_carryOrder_81 sh_60 (zIx (i := 0) (n := 3) rfl) ?_
    refine j_aload_n C d_X_carryOrder_82 0 rfl rfl ?_
    refine j_iconst C d_X_carryOrder_83 ?_
    refine j_iaload C d_X_carryOrder_84 sh_60 (zIx (i := 1) (n := 3) rfl) ?_
    refine j_callV C d_X_carryOrder_85 ml_X_317 mi_X_go (c_X_go (xl X) (gD G) (gad G) (gca G) (v1 := σ 60 0) (v2 := σ 60 1) hσ (hσ _ _) (hσ _ _) h) sh_54 rfl rfl rfl rfl rfl rfl rfl (fun z1 σ2 rz1 hσ2 h => ?_)
    exact j_ireturn C d_X_carryOrder_88 rz1 hσ2 h
  · have h := h.2.1 c
    refine j_lookup (tgt := 56) (off := 41) C d_X_carryOrder_15 (hσ _ _) rfl (by rw [c]; rfl) rfl ?_
    refine j_aload_n C d_X_carryOrder_56 1 rfl rfl ?_
    refine j_aload_n C d_X_carryOrder_57 0 rfl rfl ?_
    refine j_iconst C d_X_carryOrder_58 ?_
    refine j_iaload C d_X_carryOrder_59 sh_60 (zIx (i := 0) (n := 3) rfl) ?_
    refine j_callV C d_X_carryOrder_60 ml_X_311 mi_X_tellSpans (c_X_tellSpans (xl X) (gD G) (gad G) (gca G) (v1 := σ 60 0) hσ (hσ _ _) h) sh_54 rfl rfl rfl rfl rfl rfl rfl (fun z3 σ4 rz3 hσ4 h => ?_)
    exact j_ireturn C d_X_carryOrder_63 rz3 hσ4 h
  · have h := h.2.2.1 c
    refine j_lookup (tgt := 89) (off := 74) C d_X_carryOrder_15 (hσ _ _) rfl (by rw [c]; rfl) rfl ?_
    refine j_aload_n C d_X_carryOrder_89 1 rfl rfl ?_
    refine j_aload_n C d_X_carryOrder_90 0 rfl rfl ?_
    refine j_iconst C d_X_carryOrder_91 ?_
    refine j_iaload C d_X_carryOrder_92 sh_60 (zIx (i := 0) (n := 3) rfl) ?_
    refine j_aload_n C d_X_carryOrder_93 0 rfl rfl ?_
    refine j_iconst C d_X_carryOrder_94 ?_
    refine j_iaload C d_X_carryOrder_95 sh_60 (zIx (i := 1) (n := 3) rfl) ?_
    refine j_callV C d_X_carryOrder_96 ml_X_320 mi_X_stay (c_X_stay (xl X) (gD G) (gad G) (gca G) (v1 := σ 60 0) (v2 := σ 60 1) hσ (hσ _ _) (hσ _ _) h) sh_54 rfl rfl rfl rfl rfl rfl rfl (fun z5 σ6 rz5 hσ6 h => ?_)
    exact j_ireturn C d_X_carryOrder_99 rz5 hσ6 h
  · have h := h.2.2.2.1 c
    refine j_lookup (tgt := 64) (off := 49) C d_X_carryOrder_15 (hσ _ _) rfl (by rw [c]; rfl) rfl ?_
    refine j_aload_n C d_X_carryOrder_64 1 rfl rfl ?_
    refine j_aload_n C d_X_carryOrder_65 0 rfl rfl ?_
    refine j_iconst C d_X_carryOrder_66 ?_
    refine j_iaload C d_X_carryOrder_67 sh_60 (zIx (i := 0) (n := 3) rfl) ?_
    refine j_aload_n C d_X_carryOrder_68 0 rfl rfl ?_
    refine j_iconst C d_X_carryOrder_69 ?_
    refine j_iaload C d_X_carryOrder_70 sh_60 (zIx (i := 1) (n := 3) rfl) ?_
    refine j_aload_n C d_X_carryOrder_71 0 rfl rfl ?_
    refine j_iconst C d_X_carryOrder_72 ?_
    refine j_iaload C d_X_carryOrder_73 sh_60 (zIx (i := 2) (n := 3) rfl) ?_
    refine j_callV C d_X_carryOrder_74 ml_X_314 mi_X_close (c_X_close (xl X) (gD G) (gad G) (gca G) (v1 := σ 60 0) (v2 := σ 60 1) (v3 := σ 60 2) hσ (hσ _ _) (hσ _ _) (hσ _ _) h) sh_54 rfl rfl rfl rfl rfl rfl rfl (fun z7 σ8 rz7 hσ8 h => ?_)
    exact j_ireturn C d_X_carryOrder_77 rz7 hσ8 h
  · have h := h.2.2.2.2 c
    refine j_lookup (tgt := 100) (off := 85) C d_X_carryOrder_15 (hσ _ _) rfl (zLk4 c) rfl ?_
    refine j_bipush C d_X_carryOrder_100 rfl ?_
    exact j_ireturn C d_X_carryOrder_102 (zR_of (x := (-3)) rfl) hσ h
set_option maxRecDepth 100000 in
set_option maxHeartbeats 4000000 in
theorem w_X_carryOut_b84 {X : zX} {G : zG} (C : zC X G b_X_carryOut "GateRoads" 4 (some .int) 6 137) {Q : Int → zM → Prop} {k37 : zM → Int → Int → Int → Prop} (hk37 : ∀ (σ : zM) (v1 : Int) (v2 : Int) (v3 : Int), zRM σ → zR v1 → zR v2 → zR v3 → k37 σ v1 v2 v3 → zJ X G (zQi X G Q) 4 37 [(0, .ref (gad G 54)), (1, .int (zI v1)), (2, .int (zI v2)), (3, .int (zI v3))] [] σ) (σ : zM) (v1 : Int) (v2 : Int) (v3 : Int) (hσ : zRM σ) (r1 : zR v1) (r2 : zR v2) (r3 : zR v3) (h : wp_X_carryOut_b84 k37 Q σ v1 v2 v3) : zJ X G (zQi X G Q) 4 84 [(0, .ref (gad G 54)), (1, .int (zI v1)), (2, .int (zI v2)), (3, .int (zI v3))] [] σ := by
  unfold wp_X_carryOut_b84 at h
  obtain ⟨g12, h⟩ := h
  refine j_iinc (L' := [(3, .int (zI (v3 + 1))), (0, .ref (gad G 54)), (1, .int (zI v1)), (2, .int (zI v2))]) C d_X_carryOut_84 3 rfl rfl rfl ?_
  refine j_goto (tgt := 37) C d_X_carryOut_87 rfl ?_
  refine j_sub (L' := [(0, .ref (gad G 54)), (1, .int (zI v1)), (2, .int (zI v2)), (3, .int (zI (v3 + 1)))]) [1, 2, 3, 0] rfl ?_
  exact hk37 σ v1 v2 (v3 + 1) hσ r1 r2 g12 h
set_option maxRecDepth 100000 in
set_option maxHeartbeats 4000000 in
theorem w_X_carryOut_b66 {X : zX} {G : zG} (C : zC X G b_X_carryOut "GateRoads" 4 (some .int) 6 137) {Q : Int → zM → Prop} {k37 : zM → Int → Int → Int → Prop} (hk37 : ∀ (σ : zM) (v1 : Int) (v2 : Int) (v3 : Int), zRM σ → zR v1 → zR v2 → zR v3 → k37 σ v1 v2 v3 → zJ X G (zQi X G Q) 4 37 [(0, .ref (gad G 54)), (1, .int (zI v1)), (2, .int (zI v2)), (3, .int (zI v3))] [] σ) (σ : zM) (v1 : Int) (v3 : Int) (s0 : Int) (hσ : zRM σ) (r1 : zR v1) (r3 : zR v3) (rs0 : zR s0) (h : wp_X_carryOut_b66 k37 Q σ v1 v3 s0) : zJ X G (zQi X G Q) 4 66 [(0, .ref (gad G 54)), (1, .int (zI v1)), (3, .int (zI v3))] [.int (zI s0)] σ := by
  unfold wp_X_carryOut_b66 at h
  refine j_istore_n (L' := [(2, .int (zI s0)), (0, .ref (gad G 54)), (1, .int (zI v1)), (3, .int (zI v3))]) C d_X_carryOut_66 rfl rfl rfl ?_
  refine j_iload_n C d_X_carryOut_67 0 rfl rfl ?_
  refine j_if_eq (tgt := 84) C d_X_carryOut_68 rfl rs0 (fun c => ?_) (fun c => ?_)
  · have h := h.1 c
    refine j_sub (L' := [(0, .ref (gad G 54)), (1, .int (zI v1)), (2, .int (zI s0)), (3, .int (zI v3))]) [1, 2, 0, 3] rfl ?_
    refine w_X_carryOut_b84 C hk37 σ v1 s0 v3 hσ r1 rs0 r3 h
  · have h := h.2 c
    obtain ⟨g13, h⟩ := h
    refine j_iinc (L' := [(1, .int (zI (v1 + 1))), (2, .int (zI s0)), (0, .ref (gad G 54)), (3, .int (zI v3))]) C d_X_carryOut_71 2 rfl rfl rfl ?_
    refine j_aload_n C d_X_carryOut_74 2 rfl rfl ?_
    refine j_getr (kf := 6) (m := 58) C d_X_carryOut_75 sh_54 rfl i_X rfl rfl fl_X_30 ?_
    refine j_bipush C d_X_carryOut_78 rfl ?_
    refine j_callV C d_X_carryOut_80 ml_X_275 mi_P_take (c_P_take (xl X) (gD G) (gad G) (gca G) (v1 := 59) hσ (zR_of (x := 59) rfl) h) sh_58 rfl rfl rfl rfl rfl rfl rfl (fun z14 σ15 rz14 hσ15 h => ?_)
    refine j_istore_n (L' := [(2, .int (zI z14)), (1, .int (zI (v1 + 1))), (0, .ref (gad G 54)), (3, .int (zI v3))]) C d_X_carryOut_83 rfl rfl rfl ?_
    refine j_sub (L' := [(0, .ref (gad G 54)), (1, .int (zI (v1 + 1))), (2, .int (zI z14)), (3, .int (zI v3))]) [2, 1, 0, 3] rfl ?_
    refine w_X_carryOut_b84 C hk37 σ15 (v1 + 1) z14 v3 hσ15 g13 rz14 r3 h
set_option maxRecDepth 100000 in
set_option maxHeartbeats 4000000 in
theorem w_X_carryOut_L37 {X : zX} {G : zG} (C : zC X G b_X_carryOut "GateRoads" 4 (some .int) 6 137) {Q : Int → zM → Prop} {k90 : zM → Int → Prop} (hk90 : ∀ (σ : zM) (v1 : Int), zRM σ → zR v1 → k90 σ v1 → zJ X G (zQi X G Q) 4 90 [(0, .ref (gad G 54)), (1, .int (zI v1))] [] σ) : ∀ (n : Nat) (σ : zM) (v1 : Int) (v2 : Int) (v3 : Int) (hσ : zRM σ) (r1 : zR v1) (r2 : zR v2) (r3 : zR v3), wp_X_carryOut_L37 k90 Q n σ v1 v2 v3 → zJ X G (zQi X G Q) 4 37 [(0, .ref (gad G 54)), (1, .int (zI v1)), (2, .int (zI v2)), (3, .int (zI v3))] [] σ := by
  intro n
  induction n with
  | zero => intro σ v1 v2 v3 hσ r1 r2 r3 h; exact False.elim h
  | succ n ih =>
    intro σ v1 v2 v3 hσ r1 r2 r3 h
    rw [wp_X_carryOut_L37] at h
    refine j_iload_n C d_X_carryOut_37 3 rfl rfl ?_
    refine j_bipush C d_X_carryOut_38 rfl ?_
    refine j_icmp_ge (tgt := 90) C d_X_carryOut_40 rfl r3 (zR_of (x := 80) rfl) (fun c => ?_) (fun c => ?_)
    · have h := h.1 c
      refine j_sub (L' := [(0, .ref (gad G 54)), (1, .int (zI v1))]) [0, 1] rfl ?_
      exact hk90 σ v1 hσ r1 h
    · have h := h.2 c
      refine j_iload_n C d_X_carryOut_43 2 rfl rfl ?_
      refine j_if_eq (tgt := 90) C d_X_carryOut_44 rfl r2 (fun c => ?_) (fun c => ?_)
      · have h := h.1 c
        refine j_sub (L' := [(0, .ref (gad G 54)), (1, .int (zI v1))]) [0, 1] rfl ?_
        exact hk90 σ v1 hσ r1 h
      · have h := h.2 c
        refine j_aload_n C d_X_carryOut_47 0 rfl rfl ?_
        refine j_getr (kf := 6) (m := 58) C d_X_carryOut_48 sh_54 rfl i_X rfl rfl fl_X_30 ?_
        refine j_callVv C d_X_carryOut_51 ml_X_269 mi_P_readOrder (c_P_readOrder (xl X) (gD G) (gad G) (gca G)  hσ h) sh_58 rfl rfl rfl rfl rfl rfl rfl (fun σ9 hσ9 h => ?_)
        refine j_aload_n C d_X_carryOut_54 0 rfl rfl ?_
        refine j_callV C d_X_carryOut_55 ml_X_272 mi_X_carryOrder (c_X_carryOrder (xl X) (gD G) (gad G) (gca G)  hσ9 h) sh_54 rfl rfl rfl rfl rfl rfl rfl (fun z10 σ11 rz10 hσ11 h => ?_)
        refine j_if_lt (tgt := 65) C d_X_carryOut_58 rfl rz10 (fun c => ?_) (fun c => ?_)
        · have h := h.1 c
          refine j_iconst C d_X_carryOut_65 ?_
          refine j_sub (L' := [(0, .ref (gad G 54)), (1, .int (zI v1)), (3, .int (zI v3))]) [0, 1, 3] rfl ?_
          refine w_X_carryOut_b66 C ih σ11 v1 v3 0 hσ11 r1 r3 (zR_of (x := 0) rfl) h
        · have h := h.2 c
          refine j_iconst C d_X_carryOut_61 ?_
          refine j_goto (tgt := 66) C d_X_carryOut_62 rfl ?_
          refine j_sub (L' := [(0, .ref (gad G 54)), (1, .int (zI v1)), (3, .int (zI v3))]) [0, 1, 3] rfl ?_
          refine w_X_carryOut_b66 C ih σ11 v1 v3 1 hσ11 r1 r3 (zR_of (x := 1) rfl) h
set_option maxRecDepth 100000 in
set_option maxHeartbeats 4000000 in
theorem w_X_carryOut_b90 {X : zX} {G : zG} (C : zC X G b_X_carryOut "GateRoads" 4 (some .int) 6 137) {Q : Int → zM → Prop} (σ : zM) (v1 : Int) (hσ : zRM σ) (r1 : zR v1) (h : wp_X_carryOut_b90 Q σ v1) : zJ X G (zQi X G Q) 4 90 [(0, .ref (gad G 54)), (1, .int (zI v1))] [] σ := by
  unfold wp_X_carryOut_b90 at h
  refine j_aload_n C d_X_carryOut_90 0 rfl rfl ?_
  refine j_iconst C d_X_carryOut_91 ?_
  refine j_puti (kf := 7) (kI := 7) C t_X d_X_carryOut_92 sh_54 rfl i_X t_X_ok n_X rfl rfl rfl fl_X_262 rfl (Or.inr ⟨rfl, by decide⟩) ?_
  refine j_mem (fun σ18 eσ18 => ?_)
  have h := h σ18 eσ18
  have hσ18 : zRM σ18 := by rw [eσ18]; exact zU_rg hσ _ _ (zR_of (x := 0) rfl)
  refine j_aload_n C d_X_carryOut_95 0 rfl rfl ?_
  refine j_getr (kf := 6) (m := 58) C d_X_carryOut_96 sh_54 rfl i_X rfl rfl fl_X_30 ?_
  refine j_iconst C d_X_carryOut_99 ?_
  refine j_puti (kf := 1) (kI := 1) C t_P d_X_carryOut_100 sh_58 rfl i_P t_P_ok n_P rfl rfl rfl fl_X_171 rfl (Or.inl rfl) ?_
  refine j_mem (fun σ19 eσ19 => ?_)
  have h := h σ19 eσ19
  have hσ19 : zRM σ19 := by rw [eσ19]; exact zU_rg hσ18 _ _ (zR_of (x := 0) rfl)
  refine j_iload_n C d_X_carryOut_103 1 rfl rfl ?_
  exact j_ireturn C d_X_carryOut_104 r1 hσ19 h
set_option maxRecDepth 100000 in
set_option maxHeartbeats 4000000 in
theorem c_X_carryOut (l : Launch) (D : va_G) (ad : Nat → Nat) (ca : Nat → ClassId) {σ : zM} {Q : Int → zM → Prop} (hσ : zRM σ) (h : wp_X_carryOut σ Q) : zCi l D ad ca y_X_carryOut b_X_carryOut 4 (some .int) (zrm 6 137) [.ref (ad 54)] σ Q := by
  refine zCi_of (by decide +kernel) (Nat.le_of_ble_eq_true rfl) ?_
  intro X G C hl hD had hca
  subst hl hD had hca
  have C : zC X G b_X_carryOut "GateRoads" 4 (some .int) 6 137 := C
  show zJ X G (zQi X G Q) 4 0 [(0, .ref (gad G 54))] [] σ
  unfold wp_X_carryOut at h
  refine j_aload_n C d_X_carryOut_0 0 rfl rfl ?_
  refine j_getr (kf := 6) (m := 58) C d_X_carryOut_1 sh_54 rfl i_X rfl rfl fl_X_30 ?_
  refine j_callV C d_X_carryOut_4 ml_X_258 mi_P_firstWrong (c_P_firstWrong (xl X) (gD G) (gad G) (gca G)  hσ h) sh_58 rfl rfl rfl rfl rfl rfl rfl (fun z1 σ2 rz1 hσ2 h => ?_)
  refine j_bipush C d_X_carryOut_7 rfl ?_
  refine j_icmp_eq (tgt := 15) C d_X_carryOut_9 rfl rz1 (zR_of (x := (-6)) rfl) (fun c => ?_) (fun c => ?_)
  · have h := h.1 c
    refine j_aload_n C d_X_carryOut_15 0 rfl rfl ?_
    refine j_callVv C d_X_carryOut_16 ml_X_73 mi_X_remember (c_X_remember (xl X) (gD G) (gad G) (gca G)  hσ2 h) sh_54 rfl rfl rfl rfl rfl rfl rfl (fun σ4 hσ4 h => ?_)
    refine j_aload_n C d_X_carryOut_19 0 rfl rfl ?_
    refine j_iconst C d_X_carryOut_20 ?_
    refine j_puti (kf := 7) (kI := 7) C t_X d_X_carryOut_21 sh_54 rfl i_X t_X_ok n_X rfl rfl rfl fl_X_262 rfl (Or.inr ⟨rfl, by decide⟩) ?_
    refine j_mem (fun σ5 eσ5 => ?_)
    have h := h σ5 eσ5
    have hσ5 : zRM σ5 := by rw [eσ5]; exact zU_rg hσ4 _ _ (zR_of (x := 1) rfl)
    refine j_aload_n C d_X_carryOut_24 0 rfl rfl ?_
    refine j_getr (kf := 6) (m := 58) C d_X_carryOut_25 sh_54 rfl i_X rfl rfl fl_X_30 ?_
    refine j_callVv C d_X_carryOut_28 ml_X_266 mi_P_rewind (c_P_rewind (xl X) (gD G) (gad G) (gca G)  hσ5 h) sh_58 rfl rfl rfl rfl rfl rfl rfl (fun σ7 hσ7 h => ?_)
    refine j_iconst C d_X_carryOut_31 ?_
    refine j_istore_n (L' := [(1, .int (zI 0)), (0, .ref (gad G 54))]) C d_X_carryOut_32 rfl rfl rfl ?_
    refine j_iconst C d_X_carryOut_33 ?_
    refine j_istore_n (L' := [(2, .int (zI 1)), (1, .int (zI 0)), (0, .ref (gad G 54))]) C d_X_carryOut_34 rfl rfl rfl ?_
    refine j_iconst C d_X_carryOut_35 ?_
    refine j_istore_n (L' := [(3, .int (zI 0)), (2, .int (zI 1)), (1, .int (zI 0)), (0, .ref (gad G 54))]) C d_X_carryOut_36 rfl rfl rfl ?_
    obtain ⟨n20, h⟩ := h
    refine j_sub (L' := [(0, .ref (gad G 54)), (1, .int (zI 0)), (2, .int (zI 1)), (3, .int (zI 0))]) [3, 2, 1, 0] rfl ?_
    refine w_X_carryOut_L37 C ?_ n20 σ7 0 1 0 hσ7 (zR_of (x := 0) rfl) (zR_of (x := 1) rfl) (zR_of (x := 0) rfl) h
    · intro σ16 u17 hσ16 ru17 h
      refine w_X_carryOut_b90 C σ16 u17 hσ16 ru17 h
  · have h := h.2 c
    refine j_bipush C d_X_carryOut_12 rfl ?_
    exact j_ireturn C d_X_carryOut_14 (zR_of (x := (-3)) rfl) hσ2 h
set_option maxRecDepth 100000 in
set_option maxHeartbeats 4000000 in
theorem c_X_undo (l : Launch) (D : va_G) (ad : Nat → Nat) (ca : Nat → ClassId) {σ : zM} {Q : Int → zM → Prop} (hσ : zRM σ) (h : wp_X_undo σ Q) : zCi l D ad ca y_X_undo b_X_undo 1 (some .int) (zrm 2 47) [.ref (ad 54)] σ Q := by
  refine zCi_of (by decide +kernel) (Nat.le_of_ble_eq_true rfl) ?_
  intro X G C hl hD had hca
  subst hl hD had hca
  have C : zC X G b_X_undo "GateRoads" 1 (some .int) 2 47 := C
  show zJ X G (zQi X G Q) 1 0 [(0, .ref (gad G 54))] [] σ
  unfold wp_X_undo at h
  refine j_aload_n C d_X_undo_0 0 rfl rfl ?_
  refine j_geti (kf := 2) (kI := 2) C d_X_undo_1 sh_54 rfl i_X rfl rfl rfl fl_X_174 ?_
  refine j_if_gt (tgt := 10) C d_X_undo_4 rfl (hσ _ _) (fun c => ?_) (fun c => ?_)
  · have h := h.1 c
    refine j_aload_n C d_X_undo_10 0 rfl rfl ?_
    refine j_dup C d_X_undo_11 rfl ?_
    refine j_geti (kf := 2) (kI := 2) C d_X_undo_12 sh_54 rfl i_X rfl rfl rfl fl_X_174 ?_
    refine j_iconst C d_X_undo_15 ?_
    refine j_isub C d_X_undo_16 ?_
    obtain ⟨g1, h⟩ := h
    refine j_puti (kf := 2) (kI := 2) C t_X d_X_undo_17 sh_54 rfl i_X t_X_ok n_X rfl rfl rfl fl_X_174 rfl (Or.inl rfl) ?_
    refine j_mem (fun σ2 eσ2 => ?_)
    have h := h σ2 eσ2
    have hσ2 : zRM σ2 := by rw [eσ2]; exact zU_rg hσ _ _ g1
    refine j_aload_n C d_X_undo_20 0 rfl rfl ?_
    refine j_getr (kf := 0) (m := 0) C d_X_undo_21 sh_54 rfl i_X rfl rfl fl_X_12 ?_
    refine j_aload_n C d_X_undo_24 0 rfl rfl ?_
    refine j_getr (kf := 1) (m := 55) C d_X_undo_25 sh_54 rfl i_X rfl rfl fl_X_16 ?_
    refine j_aload_n C d_X_undo_28 0 rfl rfl ?_
    refine j_geti (kf := 2) (kI := 2) C d_X_undo_29 sh_54 rfl i_X rfl rfl rfl fl_X_174 ?_
    obtain ⟨g3, h⟩ := h
    obtain ⟨g4, h⟩ := h
    refine j_aaload C d_X_undo_32 sh_55 g3 ?_
    refine j_callVv C d_X_undo_33 ml_X_279 mi_S_copyFrom (c_S_copyFrom (xl X) (gD G) (gad G) (gca G) (a := 0) (b := (σ2 55 (σ2 54 2)).toNat) hσ2 (by decide) g4 h) sh_0 rfl rfl rfl rfl rfl rfl rfl (fun σ6 hσ6 h => ?_)
    refine j_aload_n C d_X_undo_36 0 rfl rfl ?_
    refine j_getr (kf := 8) (m := 62) C d_X_undo_37 sh_54 rfl i_X rfl rfl fl_X_37 ?_
    refine j_iconst C d_X_undo_40 ?_
    refine j_puti (kf := 1) (kI := 1) C t_G d_X_undo_41 sh_62 rfl i_G t_G_ok n_G rfl rfl rfl fl_X_282 rfl (Or.inr ⟨rfl, by decide⟩) ?_
    refine j_mem (fun σ7 eσ7 => ?_)
    have h := h σ7 eσ7
    have hσ7 : zRM σ7 := by rw [eσ7]; exact zU_rg hσ6 _ _ (zR_of (x := 0) rfl)
    refine j_aload_n C d_X_undo_44 0 rfl rfl ?_
    refine j_geti (kf := 2) (kI := 2) C d_X_undo_45 sh_54 rfl i_X rfl rfl rfl fl_X_174 ?_
    exact j_ireturn C d_X_undo_48 (hσ7 _ _) hσ7 h
  · have h := h.2 c
    refine j_bipush C d_X_undo_7 rfl ?_
    exact j_ireturn C d_X_undo_9 (zR_of (x := (-6)) rfl) hσ h
set_option maxRecDepth 100000 in
set_option maxHeartbeats 4000000 in
theorem c_X_save (l : Launch) (D : va_G) (ad : Nat → Nat) (ca : Nat → ClassId) {σ : zM} {v1 : Int} {Q : Int → zM → Prop} (hσ : zRM σ) (r1 : zR v1) (h : wp_X_save σ v1 Q) : zCi l D ad ca y_X_save b_X_save 2 (some .int) (zrm 2 47) [.ref (ad 54), .int (zI v1)] σ Q := by
  refine zCi_of (by decide +kernel) (Nat.le_of_ble_eq_true rfl) ?_
  intro X G C hl hD had hca
  subst hl hD had hca
  have C : zC X G b_X_save "GateRoads" 2 (some .int) 2 47 := C
  show zJ X G (zQi X G Q) 2 0 [(0, .ref (gad G 54)), (1, .int (zI v1))] [] σ
  unfold wp_X_save at h
  refine j_iload_n C d_X_save_0 1 rfl rfl ?_
  refine j_iconst C d_X_save_1 ?_
  refine j_iconst C d_X_save_2 ?_
  refine j_callS C d_X_save_3 ml_X_69 ms_X_within (c_X_within (xl X) (gD G) (gad G) (gca G) (v0 := v1) (v1 := 0) (v2 := 1) hσ r1 (zR_of (x := 0) rfl) (zR_of (x := 1) rfl) h) rfl rfl rfl rfl rfl (fun z1 σ2 rz1 hσ2 h => ?_)
  obtain ⟨ez1, h⟩ := h; subst ez1
  refine j_if_ne (tgt := 11) C d_X_save_6 rfl rz1 (fun c => ?_) (fun c => ?_)
  · have h := h.1 c
    refine j_aload_n C d_X_save_11 0 rfl rfl ?_
    refine j_getr (kf := 3) (m := 56) C d_X_save_12 sh_54 rfl i_X rfl rfl fl_X_20 ?_
    refine j_iload_n C d_X_save_15 1 rfl rfl ?_
    obtain ⟨g3, h⟩ := h
    obtain ⟨g4, h⟩ := h
    refine j_aaload C d_X_save_16 sh_56 g3 ?_
    refine j_aload_n C d_X_save_17 0 rfl rfl ?_
    refine j_getr (kf := 0) (m := 0) C d_X_save_18 sh_54 rfl i_X rfl rfl fl_X_12 ?_
    refine j_callVv C d_X_save_21 ml_X_279 mi_S_copyFrom (c_S_copyFrom (xl X) (gD G) (gad G) (gca G) (a := (σ 56 v1).toNat) (b := 0) hσ g4 (by decide) h) (zSt (σ 56 v1).toNat g4) rfl rfl rfl rfl rfl rfl rfl (fun σ6 hσ6 h => ?_)
    refine j_aload_n C d_X_save_24 0 rfl rfl ?_
    refine j_getr (kf := 4) (m := 57) C d_X_save_25 sh_54 rfl i_X rfl rfl fl_X_23 ?_
    refine j_iload_n C d_X_save_28 1 rfl rfl ?_
    refine j_iconst C d_X_save_29 ?_
    obtain ⟨g7, h⟩ := h
    refine j_bastore C d_X_save_30 sh_57 g7 (by decide) ?_
    refine j_mem (fun σ8 eσ8 => ?_)
    have h := h σ8 eσ8
    have hσ8 : zRM σ8 := by rw [eσ8]; exact zU_rg hσ6 _ _ (zR_of (x := 1) rfl)
    refine j_aload_n C d_X_save_31 0 rfl rfl ?_
    refine j_getr (kf := 0) (m := 0) C d_X_save_32 sh_54 rfl i_X rfl rfl fl_X_12 ?_
    refine j_geti (kf := 5) (kI := 5) C d_X_save_35 sh_0 rfl i_S rfl rfl rfl fl_X_80 ?_
    exact j_ireturn C d_X_save_38 (hσ8 _ _) hσ8 h
  · have h := h.2 c
    refine j_iconst C d_X_save_9 ?_
    exact j_ireturn C d_X_save_10 (zR_of (x := (-1)) rfl) hσ h
set_option maxRecDepth 100000 in
set_option maxHeartbeats 4000000 in
theorem c_X_restore (l : Launch) (D : va_G) (ad : Nat → Nat) (ca : Nat → ClassId) {σ : zM} {v1 : Int} {Q : Int → zM → Prop} (hσ : zRM σ) (r1 : zR v1) (h : wp_X_restore σ v1 Q) : zCi l D ad ca y_X_restore b_X_restore 2 (some .int) (zrm 3 69) [.ref (ad 54), .int (zI v1)] σ Q := by
  refine zCi_of (by decide +kernel) (Nat.le_of_ble_eq_true rfl) ?_
  intro X G C hl hD had hca
  subst hl hD had hca
  have C : zC X G b_X_restore "GateRoads" 2 (some .int) 3 69 := C
  show zJ X G (zQi X G Q) 2 0 [(0, .ref (gad G 54)), (1, .int (zI v1))] [] σ
  unfold wp_X_restore at h
  refine j_iload_n C d_X_restore_0 1 rfl rfl ?_
  refine j_iconst C d_X_restore_1 ?_
  refine j_iconst C d_X_restore_2 ?_
  refine j_callS C d_X_restore_3 ml_X_69 ms_X_within (c_X_within (xl X) (gD G) (gad G) (gca G) (v0 := v1) (v1 := 0) (v2 := 1) hσ r1 (zR_of (x := 0) rfl) (zR_of (x := 1) rfl) h) rfl rfl rfl rfl rfl (fun z1 σ2 rz1 hσ2 h => ?_)
  obtain ⟨ez1, h⟩ := h; subst ez1
  refine j_if_eq (tgt := 18) C d_X_restore_6 rfl rz1 (fun c => ?_) (fun c => ?_)
  · have h := h.1 c
    refine j_iconst C d_X_restore_18 ?_
    exact j_ireturn C d_X_restore_19 (zR_of (x := (-1)) rfl) hσ h
  · have h := h.2 c
    refine j_aload_n C d_X_restore_9 0 rfl rfl ?_
    refine j_getr (kf := 4) (m := 57) C d_X_restore_10 sh_54 rfl i_X rfl rfl fl_X_23 ?_
    refine j_iload_n C d_X_restore_13 1 rfl rfl ?_
    obtain ⟨g3, h⟩ := h
    refine j_baload C d_X_restore_14 sh_57 g3 ?_
    refine j_if_ne (tgt := 20) C d_X_restore_15 rfl (hσ _ _) (fun c => ?_) (fun c => ?_)
    · have h := h.1 c
      refine j_aload_n C d_X_restore_20 0 rfl rfl ?_
      refine j_callVv C d_X_restore_21 ml_X_73 mi_X_remember (c_X_remember (xl X) (gD G) (gad G) (gca G)  hσ h) sh_54 rfl rfl rfl rfl rfl rfl rfl (fun σ5 hσ5 h => ?_)
      refine j_aload_n C d_X_restore_24 0 rfl rfl ?_
      refine j_getr (kf := 0) (m := 0) C d_X_restore_25 sh_54 rfl i_X rfl rfl fl_X_12 ?_
      refine j_aload_n C d_X_restore_28 0 rfl rfl ?_
      refine j_getr (kf := 3) (m := 56) C d_X_restore_29 sh_54 rfl i_X rfl rfl fl_X_20 ?_
      refine j_iload_n C d_X_restore_32 1 rfl rfl ?_
      obtain ⟨g6, h⟩ := h
      obtain ⟨g7, h⟩ := h
      refine j_aaload C d_X_restore_33 sh_56 g6 ?_
      refine j_callVv C d_X_restore_34 ml_X_279 mi_S_copyFrom (c_S_copyFrom (xl X) (gD G) (gad G) (gca G) (a := 0) (b := (σ5 56 v1).toNat) hσ5 (by decide) g7 h) sh_0 rfl rfl rfl rfl rfl rfl rfl (fun σ9 hσ9 h => ?_)
      refine j_aload_n C d_X_restore_37 0 rfl rfl ?_
      refine j_getr (kf := 0) (m := 0) C d_X_restore_38 sh_54 rfl i_X rfl rfl fl_X_12 ?_
      refine j_geti (kf := 5) (kI := 5) C d_X_restore_41 sh_0 rfl i_S rfl rfl rfl fl_X_80 ?_
      exact j_ireturn C d_X_restore_44 (hσ9 _ _) hσ9 h
    · have h := h.2 c
      refine j_iconst C d_X_restore_18 ?_
      exact j_ireturn C d_X_restore_19 (zR_of (x := (-1)) rfl) hσ h
set_option maxRecDepth 100000 in
set_option maxHeartbeats 4000000 in
theorem w_M_undo_L22 {X : zX} {G : zG} (C : zC X G b_M_undo "GateRoadsModel" 2 (some .int) 0 0) {Q : Int → zM → Prop} : ∀ (n : Nat) (σ : zM) (v1 : Int) (hσ : zRM σ) (r1 : zR v1), wp_M_undo_L22 Q n σ v1 → zJ X G (zQi X G Q) 2 22 [(0, .ref (gad G 79)), (1, .int (zI v1))] [] σ := by
  intro n
  induction n with
  | zero => intro σ v1 hσ r1 h; exact False.elim h
  | succ n ih =>
    intro σ v1 hσ r1 h
    rw [wp_M_undo_L22] at h
    refine j_iload_n C d_M_undo_22 1 rfl rfl ?_
    refine j_sipush C d_M_undo_23 rfl ?_
    refine j_icmp_ge (tgt := 56) C d_M_undo_26 rfl r1 (zR_of (x := 455) rfl) (fun c => ?_) (fun c => ?_)
    · have h := h.1 c
      refine j_aload_n C d_M_undo_56 0 rfl rfl ?_
      refine j_geti (kf := 4) (kI := 4) C d_M_undo_57 sh_79 rfl i_M rfl rfl rfl fl_M_50 ?_
      exact j_ireturn C d_M_undo_60 (hσ _ _) hσ h
    · have h := h.2 c
      refine j_aload_n C d_M_undo_29 0 rfl rfl ?_
      refine j_getr (kf := 0) (m := 80) C d_M_undo_30 sh_79 rfl i_M rfl rfl fl_M_7 ?_
      refine j_iload_n C d_M_undo_33 1 rfl rfl ?_
      refine j_aload_n C d_M_undo_34 0 rfl rfl ?_
      refine j_getr (kf := 1) (m := 81) C d_M_undo_35 sh_79 rfl i_M rfl rfl fl_M_13 ?_
      refine j_aload_n C d_M_undo_38 0 rfl rfl ?_
      refine j_geti (kf := 4) (kI := 4) C d_M_undo_39 sh_79 rfl i_M rfl rfl rfl fl_M_50 ?_
      refine j_sipush C d_M_undo_42 rfl ?_
      refine j_imul C d_M_undo_45 ?_
      refine j_iload_n C d_M_undo_46 1 rfl rfl ?_
      refine j_iadd C d_M_undo_47 ?_
      obtain ⟨g3, h⟩ := h
      refine j_iaload C d_M_undo_48 sh_81 g3 ?_
      obtain ⟨g4, h⟩ := h
      refine j_iastore C d_M_undo_49 sh_80 g4 ?_
      refine j_mem (fun σ5 eσ5 => ?_)
      have h := h σ5 eσ5
      have hσ5 : zRM σ5 := by rw [eσ5]; exact zU_rg hσ _ _ (hσ _ _)
      obtain ⟨g6, h⟩ := h
      refine j_iinc (L' := [(1, .int (zI (v1 + 1))), (0, .ref (gad G 79))]) C d_M_undo_50 1 rfl rfl rfl ?_
      refine j_goto (tgt := 22) C d_M_undo_53 rfl ?_
      refine j_sub (L' := [(0, .ref (gad G 79)), (1, .int (zI (v1 + 1)))]) [1, 0] rfl ?_
      exact ih σ5 (v1 + 1) hσ5 g6 h
set_option maxRecDepth 100000 in
set_option maxHeartbeats 4000000 in
theorem c_M_undo (l : Launch) (D : va_G) (ad : Nat → Nat) (ca : Nat → ClassId) {σ : zM} {Q : Int → zM → Prop} (hσ : zRM σ) (h : wp_M_undo σ Q) : zCi l D ad ca y_M_undo b_M_undo 2 (some .int) (zrm 0 0) [.ref (ad 79)] σ Q := by
  refine zCi_of (by decide +kernel) (Nat.le_of_ble_eq_true rfl) ?_
  intro X G C hl hD had hca
  subst hl hD had hca
  have C : zC X G b_M_undo "GateRoadsModel" 2 (some .int) 0 0 := C
  show zJ X G (zQi X G Q) 2 0 [(0, .ref (gad G 79))] [] σ
  unfold wp_M_undo at h
  refine j_aload_n C d_M_undo_0 0 rfl rfl ?_
  refine j_geti (kf := 4) (kI := 4) C d_M_undo_1 sh_79 rfl i_M rfl rfl rfl fl_M_50 ?_
  refine j_if_ne (tgt := 10) C d_M_undo_4 rfl (hσ _ _) (fun c => ?_) (fun c => ?_)
  · have h := h.1 c
    refine j_aload_n C d_M_undo_10 0 rfl rfl ?_
    refine j_dup C d_M_undo_11 rfl ?_
    refine j_geti (kf := 4) (kI := 4) C d_M_undo_12 sh_79 rfl i_M rfl rfl rfl fl_M_50 ?_
    refine j_iconst C d_M_undo_15 ?_
    refine j_isub C d_M_undo_16 ?_
    obtain ⟨g1, h⟩ := h
    refine j_puti (kf := 4) (kI := 4) C t_M d_M_undo_17 sh_79 rfl i_M t_M_ok n_M rfl rfl rfl fl_M_50 rfl (Or.inl rfl) ?_
    refine j_mem (fun σ2 eσ2 => ?_)
    have h := h σ2 eσ2
    have hσ2 : zRM σ2 := by rw [eσ2]; exact zU_rg hσ _ _ g1
    refine j_iconst C d_M_undo_20 ?_
    refine j_istore_n (L' := [(1, .int (zI 0)), (0, .ref (gad G 79))]) C d_M_undo_21 rfl rfl rfl ?_
    obtain ⟨n7, h⟩ := h
    refine j_sub (L' := [(0, .ref (gad G 79)), (1, .int (zI 0))]) [1, 0] rfl ?_
    refine w_M_undo_L22 C n7 σ2 0 hσ2 (zR_of (x := 0) rfl) h
  · have h := h.2 c
    refine j_bipush C d_M_undo_7 rfl ?_
    exact j_ireturn C d_M_undo_9 (zR_of (x := (-6)) rfl) hσ h
set_option maxRecDepth 100000 in
set_option maxHeartbeats 4000000 in
theorem c_M_isIn (l : Launch) (D : va_G) (ad : Nat → Nat) (ca : Nat → ClassId) {σ : zM} {v0 : Int} {v1 : Int} {v2 : Int} {Q : Int → Prop} (hσ : zRM σ) (r0 : zR v0) (r1 : zR v1) (r2 : zR v2) (h : wp_M_isIn σ v0 v1 v2 Q) : zCi l D ad ca y_M_isIn b_M_isIn 3 (some .boolean) (zrm 0 0) [.int (zI v0), .int (zI v1), .int (zI v2)] σ (fun z u => σ = u ∧ Q z) := by
  refine zCi_of (by decide +kernel) (Nat.le_of_ble_eq_true rfl) ?_
  intro X G C hl hD had hca
  subst hl hD had hca
  have C : zC X G b_M_isIn "GateRoadsModel" 3 (some .boolean) 0 0 := C
  show zJ X G (zQi X G (fun z u => σ = u ∧ Q z)) 3 0 [(0, .int (zI v0)), (1, .int (zI v1)), (2, .int (zI v2))] [] σ
  unfold wp_M_isIn at h
  refine j_iload_n C d_M_isIn_0 0 rfl rfl ?_
  refine j_iload_n C d_M_isIn_1 1 rfl rfl ?_
  refine j_icmp_lt (tgt := 14) C d_M_isIn_2 rfl r0 r1 (fun c => ?_) (fun c => ?_)
  · have h := h.1 c
    refine j_iconst C d_M_isIn_14 ?_
    exact j_zreturn C d_M_isIn_15 (by decide) hσ ⟨rfl, h⟩
  · have h := h.2 c
    refine j_iload_n C d_M_isIn_5 0 rfl rfl ?_
    refine j_iload_n C d_M_isIn_6 2 rfl rfl ?_
    refine j_icmp_gt (tgt := 14) C d_M_isIn_7 rfl r0 r2 (fun c => ?_) (fun c => ?_)
    · have h := h.1 c
      refine j_iconst C d_M_isIn_14 ?_
      exact j_zreturn C d_M_isIn_15 (by decide) hσ ⟨rfl, h⟩
    · have h := h.2 c
      refine j_iconst C d_M_isIn_10 ?_
      refine j_goto (tgt := 15) C d_M_isIn_11 rfl ?_
      exact j_zreturn C d_M_isIn_15 (by decide) hσ ⟨rfl, h⟩
set_option maxRecDepth 100000 in
set_option maxHeartbeats 4000000 in
theorem w_M_save_L13 {X : zX} {G : zG} (C : zC X G b_M_save "GateRoadsModel" 3 (some .int) 1 22) {v1 : Int} (r1 : zR v1) {Q : Int → zM → Prop} : ∀ (n : Nat) (σ : zM) (v2 : Int) (hσ : zRM σ) (r2 : zR v2), wp_M_save_L13 v1 Q n σ v2 → zJ X G (zQi X G Q) 3 13 [(0, .ref (gad G 79)), (1, .int (zI v1)), (2, .int (zI v2))] [] σ := by
  intro n
  induction n with
  | zero => intro σ v2 hσ r2 h; exact False.elim h
  | succ n ih =>
    intro σ v2 hσ r2 h
    rw [wp_M_save_L13] at h
    refine j_iload_n C d_M_save_13 2 rfl rfl ?_
    refine j_sipush C d_M_save_14 rfl ?_
    refine j_icmp_ge (tgt := 44) C d_M_save_17 rfl r2 (zR_of (x := 455) rfl) (fun c => ?_) (fun c => ?_)
    · have h := h.1 c
      refine j_aload_n C d_M_save_44 0 rfl rfl ?_
      refine j_getr (kf := 3) (m := 83) C d_M_save_45 sh_79 rfl i_M rfl rfl fl_M_19 ?_
      refine j_iload_n C d_M_save_48 1 rfl rfl ?_
      refine j_iconst C d_M_save_49 ?_
      obtain ⟨g3, h⟩ := h
      refine j_iastore C d_M_save_50 sh_83 g3 ?_
      refine j_mem (fun σ4 eσ4 => ?_)
      have h := h σ4 eσ4
      have hσ4 : zRM σ4 := by rw [eσ4]; exact zU_rg hσ _ _ (zR_of (x := 1) rfl)
      refine j_aload_n C d_M_save_51 0 rfl rfl ?_
      refine j_getr (kf := 0) (m := 80) C d_M_save_52 sh_79 rfl i_M rfl rfl fl_M_7 ?_
      refine j_iconst C d_M_save_55 ?_
      refine j_iaload C d_M_save_56 sh_80 (zIx (i := 0) (n := 455) rfl) ?_
      exact j_ireturn C d_M_save_57 (hσ4 _ _) hσ4 h
    · have h := h.2 c
      refine j_aload_n C d_M_save_20 0 rfl rfl ?_
      refine j_getr (kf := 2) (m := 82) C d_M_save_21 sh_79 rfl i_M rfl rfl fl_M_16 ?_
      refine j_iload_n C d_M_save_24 1 rfl rfl ?_
      refine j_sipush C d_M_save_25 rfl ?_
      refine j_imul C d_M_save_28 ?_
      refine j_iload_n C d_M_save_29 2 rfl rfl ?_
      refine j_iadd C d_M_save_30 ?_
      refine j_aload_n C d_M_save_31 0 rfl rfl ?_
      refine j_getr (kf := 0) (m := 80) C d_M_save_32 sh_79 rfl i_M rfl rfl fl_M_7 ?_
      refine j_iload_n C d_M_save_35 2 rfl rfl ?_
      obtain ⟨g5, h⟩ := h
      refine j_iaload C d_M_save_36 sh_80 g5 ?_
      obtain ⟨g6, h⟩ := h
      refine j_iastore C d_M_save_37 sh_82 g6 ?_
      refine j_mem (fun σ7 eσ7 => ?_)
      have h := h σ7 eσ7
      have hσ7 : zRM σ7 := by rw [eσ7]; exact zU_rg hσ _ _ (hσ _ _)
      obtain ⟨g8, h⟩ := h
      refine j_iinc (L' := [(2, .int (zI (v2 + 1))), (0, .ref (gad G 79)), (1, .int (zI v1))]) C d_M_save_38 2 rfl rfl rfl ?_
      refine j_goto (tgt := 13) C d_M_save_41 rfl ?_
      refine j_sub (L' := [(0, .ref (gad G 79)), (1, .int (zI v1)), (2, .int (zI (v2 + 1)))]) [1, 2, 0] rfl ?_
      exact ih σ7 (v2 + 1) hσ7 g8 h
set_option maxRecDepth 100000 in
set_option maxHeartbeats 4000000 in
theorem c_M_save (l : Launch) (D : va_G) (ad : Nat → Nat) (ca : Nat → ClassId) {σ : zM} {v1 : Int} {Q : Int → zM → Prop} (hσ : zRM σ) (r1 : zR v1) (h : wp_M_save σ v1 Q) : zCi l D ad ca y_M_save b_M_save 3 (some .int) (zrm 1 22) [.ref (ad 79), .int (zI v1)] σ Q := by
  refine zCi_of (by decide +kernel) (Nat.le_of_ble_eq_true rfl) ?_
  intro X G C hl hD had hca
  subst hl hD had hca
  have C : zC X G b_M_save "GateRoadsModel" 3 (some .int) 1 22 := C
  show zJ X G (zQi X G Q) 3 0 [(0, .ref (gad G 79)), (1, .int (zI v1))] [] σ
  unfold wp_M_save at h
  refine j_iload_n C d_M_save_0 1 rfl rfl ?_
  refine j_iconst C d_M_save_1 ?_
  refine j_iconst C d_M_save_2 ?_
  refine j_callS C d_M_save_3 ml_M_46 ms_M_isIn (c_M_isIn (xl X) (gD G) (gad G) (gca G) (v0 := v1) (v1 := 0) (v2 := 1) hσ r1 (zR_of (x := 0) rfl) (zR_of (x := 1) rfl) h) rfl rfl rfl rfl rfl (fun z1 σ2 rz1 hσ2 h => ?_)
  obtain ⟨ez1, h⟩ := h; subst ez1
  refine j_if_ne (tgt := 11) C d_M_save_6 rfl rz1 (fun c => ?_) (fun c => ?_)
  · have h := h.1 c
    refine j_iconst C d_M_save_11 ?_
    refine j_istore_n (L' := [(2, .int (zI 0)), (0, .ref (gad G 79)), (1, .int (zI v1))]) C d_M_save_12 rfl rfl rfl ?_
    obtain ⟨n9, h⟩ := h
    refine j_sub (L' := [(0, .ref (gad G 79)), (1, .int (zI v1)), (2, .int (zI 0))]) [1, 2, 0] rfl ?_
    refine w_M_save_L13 C r1 n9 σ 0 hσ (zR_of (x := 0) rfl) h
  · have h := h.2 c
    refine j_iconst C d_M_save_9 ?_
    exact j_ireturn C d_M_save_10 (zR_of (x := (-1)) rfl) hσ h
set_option maxRecDepth 100000 in
set_option maxHeartbeats 4000000 in
theorem w_M_records_L52 {X : zX} {G : zG} (C : zC X G b_M_records "GateRoadsModel" 2 (none) 0 0) {Q : zM → Prop} : ∀ (n : Nat) (σ : zM) (v1 : Int) (hσ : zRM σ) (r1 : zR v1), wp_M_records_L52 Q n σ v1 → zJ X G (zQv X G Q) 2 52 [(0, .ref (gad G 79)), (1, .int (zI v1))] [] σ := by
  intro n
  induction n with
  | zero => intro σ v1 hσ r1 h; exact False.elim h
  | succ n ih =>
    intro σ v1 hσ r1 h
    rw [wp_M_records_L52] at h
    refine j_iload_n C d_M_records_52 1 rfl rfl ?_
    refine j_sipush C d_M_records_53 rfl ?_
    refine j_icmp_ge (tgt := 86) C d_M_records_56 rfl r1 (zR_of (x := 455) rfl) (fun c => ?_) (fun c => ?_)
    · have h := h.1 c
      refine j_aload_n C d_M_records_86 0 rfl rfl ?_
      refine j_dup C d_M_records_87 rfl ?_
      refine j_geti (kf := 4) (kI := 4) C d_M_records_88 sh_79 rfl i_M rfl rfl rfl fl_M_50 ?_
      refine j_iconst C d_M_records_91 ?_
      refine j_iadd C d_M_records_92 ?_
      obtain ⟨g1, h⟩ := h
      refine j_puti (kf := 4) (kI := 4) C t_M d_M_records_93 sh_79 rfl i_M t_M_ok n_M rfl rfl rfl fl_M_50 rfl (Or.inl rfl) ?_
      refine j_mem (fun σ2 eσ2 => ?_)
      have h := h σ2 eσ2
      have hσ2 : zRM σ2 := by rw [eσ2]; exact zU_rg hσ _ _ g1
      exact j_vreturn C d_M_records_96 hσ2 h
    · have h := h.2 c
      refine j_aload_n C d_M_records_59 0 rfl rfl ?_
      refine j_getr (kf := 1) (m := 81) C d_M_records_60 sh_79 rfl i_M rfl rfl fl_M_13 ?_
      refine j_aload_n C d_M_records_63 0 rfl rfl ?_
      refine j_geti (kf := 4) (kI := 4) C d_M_records_64 sh_79 rfl i_M rfl rfl rfl fl_M_50 ?_
      refine j_sipush C d_M_records_67 rfl ?_
      refine j_imul C d_M_records_70 ?_
      refine j_iload_n C d_M_records_71 1 rfl rfl ?_
      refine j_iadd C d_M_records_72 ?_
      refine j_aload_n C d_M_records_73 0 rfl rfl ?_
      refine j_getr (kf := 0) (m := 80) C d_M_records_74 sh_79 rfl i_M rfl rfl fl_M_7 ?_
      refine j_iload_n C d_M_records_77 1 rfl rfl ?_
      obtain ⟨g3, h⟩ := h
      refine j_iaload C d_M_records_78 sh_80 g3 ?_
      obtain ⟨g4, h⟩ := h
      refine j_iastore C d_M_records_79 sh_81 g4 ?_
      refine j_mem (fun σ5 eσ5 => ?_)
      have h := h σ5 eσ5
      have hσ5 : zRM σ5 := by rw [eσ5]; exact zU_rg hσ _ _ (hσ _ _)
      obtain ⟨g6, h⟩ := h
      refine j_iinc (L' := [(1, .int (zI (v1 + 1))), (0, .ref (gad G 79))]) C d_M_records_80 1 rfl rfl rfl ?_
      refine j_goto (tgt := 52) C d_M_records_83 rfl ?_
      refine j_sub (L' := [(0, .ref (gad G 79)), (1, .int (zI (v1 + 1)))]) [1, 0] rfl ?_
      exact ih σ5 (v1 + 1) hσ5 g6 h
set_option maxRecDepth 100000 in
set_option maxHeartbeats 4000000 in
theorem w_M_records_b50 {X : zX} {G : zG} (C : zC X G b_M_records "GateRoadsModel" 2 (none) 0 0) {Q : zM → Prop} (σ : zM) (hσ : zRM σ) (h : wp_M_records_b50 Q σ) : zJ X G (zQv X G Q) 2 50 [(0, .ref (gad G 79))] [] σ := by
  unfold wp_M_records_b50 at h
  refine j_iconst C d_M_records_50 ?_
  refine j_istore_n (L' := [(1, .int (zI 0)), (0, .ref (gad G 79))]) C d_M_records_51 rfl rfl rfl ?_
  obtain ⟨n7, h⟩ := h
  refine j_sub (L' := [(0, .ref (gad G 79)), (1, .int (zI 0))]) [1, 0] rfl ?_
  refine w_M_records_L52 C n7 σ 0 hσ (zR_of (x := 0) rfl) h
set_option maxRecDepth 100000 in
set_option maxHeartbeats 4000000 in
theorem w_M_records_L11 {X : zX} {G : zG} (C : zC X G b_M_records "GateRoadsModel" 2 (none) 0 0) {Q : zM → Prop} {k40 : zM → Prop} (hk40 : ∀ (σ : zM), zRM σ → k40 σ → zJ X G (zQv X G Q) 2 40 [(0, .ref (gad G 79))] [] σ) : ∀ (n : Nat) (σ : zM) (v1 : Int) (hσ : zRM σ) (r1 : zR v1), wp_M_records_L11 k40 Q n σ v1 → zJ X G (zQv X G Q) 2 11 [(0, .ref (gad G 79)), (1, .int (zI v1))] [] σ := by
  intro n
  induction n with
  | zero => intro σ v1 hσ r1 h; exact False.elim h
  | succ n ih =>
    intro σ v1 hσ r1 h
    rw [wp_M_records_L11] at h
    refine j_iload_n C d_M_records_11 1 rfl rfl ?_
    refine j_sipush C d_M_records_12 rfl ?_
    refine j_icmp_ge (tgt := 40) C d_M_records_15 rfl r1 (zR_of (x := 2275) rfl) (fun c => ?_) (fun c => ?_)
    · have h := h.1 c
      refine j_sub (L' := [(0, .ref (gad G 79))]) [0] rfl ?_
      exact hk40 σ hσ h
    · have h := h.2 c
      refine j_aload_n C d_M_records_18 0 rfl rfl ?_
      refine j_getr (kf := 1) (m := 81) C d_M_records_19 sh_79 rfl i_M rfl rfl fl_M_13 ?_
      refine j_iload_n C d_M_records_22 1 rfl rfl ?_
      refine j_aload_n C d_M_records_23 0 rfl rfl ?_
      refine j_getr (kf := 1) (m := 81) C d_M_records_24 sh_79 rfl i_M rfl rfl fl_M_13 ?_
      refine j_iload_n C d_M_records_27 1 rfl rfl ?_
      refine j_sipush C d_M_records_28 rfl ?_
      refine j_iadd C d_M_records_31 ?_
      obtain ⟨g8, h⟩ := h
      refine j_iaload C d_M_records_32 sh_81 g8 ?_
      obtain ⟨g9, h⟩ := h
      refine j_iastore C d_M_records_33 sh_81 g9 ?_
      refine j_mem (fun σ10 eσ10 => ?_)
      have h := h σ10 eσ10
      have hσ10 : zRM σ10 := by rw [eσ10]; exact zU_rg hσ _ _ (hσ _ _)
      obtain ⟨g11, h⟩ := h
      refine j_iinc (L' := [(1, .int (zI (v1 + 1))), (0, .ref (gad G 79))]) C d_M_records_34 1 rfl rfl rfl ?_
      refine j_goto (tgt := 11) C d_M_records_37 rfl ?_
      refine j_sub (L' := [(0, .ref (gad G 79)), (1, .int (zI (v1 + 1)))]) [1, 0] rfl ?_
      exact ih σ10 (v1 + 1) hσ10 g11 h
set_option maxRecDepth 100000 in
set_option maxHeartbeats 4000000 in
theorem c_M_records (l : Launch) (D : va_G) (ad : Nat → Nat) (ca : Nat → ClassId) {σ : zM} {Q : zM → Prop} (hσ : zRM σ) (h : wp_M_records σ Q) : zCv l D ad ca y_M_records b_M_records 2 (zrm 0 0) [.ref (ad 79)] σ Q := by
  refine zCv_of (by decide +kernel) (Nat.le_of_ble_eq_true rfl) ?_
  intro X G C hl hD had hca
  subst hl hD had hca
  have C : zC X G b_M_records "GateRoadsModel" 2 (none) 0 0 := C
  show zJ X G (zQv X G Q) 2 0 [(0, .ref (gad G 79))] [] σ
  unfold wp_M_records at h
  refine j_aload_n C d_M_records_0 0 rfl rfl ?_
  refine j_geti (kf := 4) (kI := 4) C d_M_records_1 sh_79 rfl i_M rfl rfl rfl fl_M_50 ?_
  refine j_bipush C d_M_records_4 rfl ?_
  refine j_icmp_ne (tgt := 50) C d_M_records_6 rfl (hσ _ _) (zR_of (x := 6) rfl) (fun c => ?_) (fun c => ?_)
  · have h := h.1 c
    refine w_M_records_b50 C σ hσ h
  · have h := h.2 c
    refine j_iconst C d_M_records_9 ?_
    refine j_istore_n (L' := [(1, .int (zI 0)), (0, .ref (gad G 79))]) C d_M_records_10 rfl rfl rfl ?_
    obtain ⟨n15, h⟩ := h
    refine j_sub (L' := [(0, .ref (gad G 79)), (1, .int (zI 0))]) [1, 0] rfl ?_
    refine w_M_records_L11 C ?_ n15 σ 0 hσ (zR_of (x := 0) rfl) h
    · intro σ12 hσ12 h
      refine j_aload_n C d_M_records_40 0 rfl rfl ?_
      refine j_dup C d_M_records_41 rfl ?_
      refine j_geti (kf := 4) (kI := 4) C d_M_records_42 sh_79 rfl i_M rfl rfl rfl fl_M_50 ?_
      refine j_iconst C d_M_records_45 ?_
      refine j_isub C d_M_records_46 ?_
      obtain ⟨g13, h⟩ := h
      refine j_puti (kf := 4) (kI := 4) C t_M d_M_records_47 sh_79 rfl i_M t_M_ok n_M rfl rfl rfl fl_M_50 rfl (Or.inl rfl) ?_
      refine j_mem (fun σ14 eσ14 => ?_)
      have h := h σ14 eσ14
      have hσ14 : zRM σ14 := by rw [eσ14]; exact zU_rg hσ12 _ _ g13
      refine w_M_records_b50 C σ14 hσ14 h
set_option maxRecDepth 100000 in
set_option maxHeartbeats 4000000 in
theorem w_M_restore_L26 {X : zX} {G : zG} (C : zC X G b_M_restore "GateRoadsModel" 3 (some .int) 1 22) {v1 : Int} (r1 : zR v1) {Q : Int → zM → Prop} : ∀ (n : Nat) (σ : zM) (v2 : Int) (hσ : zRM σ) (r2 : zR v2), wp_M_restore_L26 v1 Q n σ v2 → zJ X G (zQi X G Q) 3 26 [(0, .ref (gad G 79)), (1, .int (zI v1)), (2, .int (zI v2))] [] σ := by
  intro n
  induction n with
  | zero => intro σ v2 hσ r2 h; exact False.elim h
  | succ n ih =>
    intro σ v2 hσ r2 h
    rw [wp_M_restore_L26] at h
    refine j_iload_n C d_M_restore_26 2 rfl rfl ?_
    refine j_sipush C d_M_restore_27 rfl ?_
    refine j_icmp_ge (tgt := 57) C d_M_restore_30 rfl r2 (zR_of (x := 455) rfl) (fun c => ?_) (fun c => ?_)
    · have h := h.1 c
      refine j_aload_n C d_M_restore_57 0 rfl rfl ?_
      refine j_getr (kf := 0) (m := 80) C d_M_restore_58 sh_79 rfl i_M rfl rfl fl_M_7 ?_
      refine j_iconst C d_M_restore_61 ?_
      refine j_iaload C d_M_restore_62 sh_80 (zIx (i := 0) (n := 455) rfl) ?_
      exact j_ireturn C d_M_restore_63 (hσ _ _) hσ h
    · have h := h.2 c
      refine j_aload_n C d_M_restore_33 0 rfl rfl ?_
      refine j_getr (kf := 0) (m := 80) C d_M_restore_34 sh_79 rfl i_M rfl rfl fl_M_7 ?_
      refine j_iload_n C d_M_restore_37 2 rfl rfl ?_
      refine j_aload_n C d_M_restore_38 0 rfl rfl ?_
      refine j_getr (kf := 2) (m := 82) C d_M_restore_39 sh_79 rfl i_M rfl rfl fl_M_16 ?_
      refine j_iload_n C d_M_restore_42 1 rfl rfl ?_
      refine j_sipush C d_M_restore_43 rfl ?_
      refine j_imul C d_M_restore_46 ?_
      refine j_iload_n C d_M_restore_47 2 rfl rfl ?_
      refine j_iadd C d_M_restore_48 ?_
      obtain ⟨g6, h⟩ := h
      refine j_iaload C d_M_restore_49 sh_82 g6 ?_
      obtain ⟨g7, h⟩ := h
      refine j_iastore C d_M_restore_50 sh_80 g7 ?_
      refine j_mem (fun σ8 eσ8 => ?_)
      have h := h σ8 eσ8
      have hσ8 : zRM σ8 := by rw [eσ8]; exact zU_rg hσ _ _ (hσ _ _)
      obtain ⟨g9, h⟩ := h
      refine j_iinc (L' := [(2, .int (zI (v2 + 1))), (0, .ref (gad G 79)), (1, .int (zI v1))]) C d_M_restore_51 2 rfl rfl rfl ?_
      refine j_goto (tgt := 26) C d_M_restore_54 rfl ?_
      refine j_sub (L' := [(0, .ref (gad G 79)), (1, .int (zI v1)), (2, .int (zI (v2 + 1)))]) [1, 2, 0] rfl ?_
      exact ih σ8 (v2 + 1) hσ8 g9 h
set_option maxRecDepth 100000 in
set_option maxHeartbeats 4000000 in
theorem c_M_restore (l : Launch) (D : va_G) (ad : Nat → Nat) (ca : Nat → ClassId) {σ : zM} {v1 : Int} {Q : Int → zM → Prop} (hσ : zRM σ) (r1 : zR v1) (h : wp_M_restore σ v1 Q) : zCi l D ad ca y_M_restore b_M_restore 3 (some .int) (zrm 1 22) [.ref (ad 79), .int (zI v1)] σ Q := by
  refine zCi_of (by decide +kernel) (Nat.le_of_ble_eq_true rfl) ?_
  intro X G C hl hD had hca
  subst hl hD had hca
  have C : zC X G b_M_restore "GateRoadsModel" 3 (some .int) 1 22 := C
  show zJ X G (zQi X G Q) 3 0 [(0, .ref (gad G 79)), (1, .int (zI v1))] [] σ
  unfold wp_M_restore at h
  refine j_iload_n C d_M_restore_0 1 rfl rfl ?_
  refine j_iconst C d_M_restore_1 ?_
  refine j_iconst C d_M_restore_2 ?_
  refine j_callS C d_M_restore_3 ml_M_46 ms_M_isIn (c_M_isIn (xl X) (gD G) (gad G) (gca G) (v0 := v1) (v1 := 0) (v2 := 1) hσ r1 (zR_of (x := 0) rfl) (zR_of (x := 1) rfl) h) rfl rfl rfl rfl rfl (fun z1 σ2 rz1 hσ2 h => ?_)
  obtain ⟨ez1, h⟩ := h; subst ez1
  refine j_if_eq (tgt := 18) C d_M_restore_6 rfl rz1 (fun c => ?_) (fun c => ?_)
  · have h := h.1 c
    refine j_iconst C d_M_restore_18 ?_
    exact j_ireturn C d_M_restore_19 (zR_of (x := (-1)) rfl) hσ h
  · have h := h.2 c
    refine j_aload_n C d_M_restore_9 0 rfl rfl ?_
    refine j_getr (kf := 3) (m := 83) C d_M_restore_10 sh_79 rfl i_M rfl rfl fl_M_19 ?_
    refine j_iload_n C d_M_restore_13 1 rfl rfl ?_
    obtain ⟨g3, h⟩ := h
    refine j_iaload C d_M_restore_14 sh_83 g3 ?_
    refine j_if_ne (tgt := 20) C d_M_restore_15 rfl (hσ _ _) (fun c => ?_) (fun c => ?_)
    · have h := h.1 c
      refine j_aload_n C d_M_restore_20 0 rfl rfl ?_
      refine j_callVv C d_M_restore_21 ml_M_54 mi_M_records (c_M_records (xl X) (gD G) (gad G) (gca G)  hσ h) sh_79 rfl rfl rfl rfl rfl rfl rfl (fun σ5 hσ5 h => ?_)
      refine j_iconst C d_M_restore_24 ?_
      refine j_istore_n (L' := [(2, .int (zI 0)), (0, .ref (gad G 79)), (1, .int (zI v1))]) C d_M_restore_25 rfl rfl rfl ?_
      obtain ⟨n10, h⟩ := h
      refine j_sub (L' := [(0, .ref (gad G 79)), (1, .int (zI v1)), (2, .int (zI 0))]) [1, 2, 0] rfl ?_
      refine w_M_restore_L26 C r1 n10 σ5 0 hσ5 (zR_of (x := 0) rfl) h
    · have h := h.2 c
      refine j_iconst C d_M_restore_18 ?_
      exact j_ireturn C d_M_restore_19 (zR_of (x := (-1)) rfl) hσ h
set_option maxRecDepth 100000 in
set_option maxHeartbeats 4000000 in
theorem c_M_isPlace (l : Launch) (D : va_G) (ad : Nat → Nat) (ca : Nat → ClassId) {σ : zM} {v0 : Int} {Q : Int → Prop} (hσ : zRM σ) (r0 : zR v0) (h : wp_M_isPlace σ v0 Q) : zCi l D ad ca y_M_isPlace b_M_isPlace 1 (some .boolean) (zrm 1 22) [.int (zI v0)] σ (fun z u => σ = u ∧ Q z) := by
  refine zCi_of (by decide +kernel) (Nat.le_of_ble_eq_true rfl) ?_
  intro X G C hl hD had hca
  subst hl hD had hca
  have C : zC X G b_M_isPlace "GateRoadsModel" 1 (some .boolean) 1 22 := C
  show zJ X G (zQi X G (fun z u => σ = u ∧ Q z)) 1 0 [(0, .int (zI v0))] [] σ
  unfold wp_M_isPlace at h
  refine j_iload_n C d_M_isPlace_0 0 rfl rfl ?_
  refine j_iconst C d_M_isPlace_1 ?_
  refine j_bipush C d_M_isPlace_2 rfl ?_
  refine j_callS C d_M_isPlace_4 ml_M_46 ms_M_isIn (c_M_isIn (xl X) (gD G) (gad G) (gca G) (v0 := v0) (v1 := 0) (v2 := 7) hσ r0 (zR_of (x := 0) rfl) (zR_of (x := 7) rfl) h) rfl rfl rfl rfl rfl (fun z1 σ2 rz1 hσ2 h => ?_)
  obtain ⟨ez1, h⟩ := h; subst ez1
  obtain ⟨g3, h⟩ := h
  exact j_zreturn C d_M_isPlace_7 g3 hσ ⟨rfl, h⟩
set_option maxRecDepth 100000 in
set_option maxHeartbeats 4000000 in
theorem c_M_room (l : Launch) (D : va_G) (ad : Nat → Nat) (ca : Nat → ClassId) {σ : zM} {v1 : Int} {v2 : Int} {v3 : Int} {v4 : Int} {Q : Int → zM → Prop} (hσ : zRM σ) (r1 : zR v1) (r2 : zR v2) (r3 : zR v3) (r4 : zR v4) (h : wp_M_room σ v1 v2 v3 v4 Q) : zCi l D ad ca y_M_room b_M_room 6 (some .int) (zrm 2 42) [.ref (ad 79), .int (zI v1), .int (zI v2), .int (zI v3), .int (zI v4)] σ Q := by
  refine zCi_of (by decide +kernel) (Nat.le_of_ble_eq_true rfl) ?_
  intro X G C hl hD had hca
  subst hl hD had hca
  have C : zC X G b_M_room "GateRoadsModel" 6 (some .int) 2 42 := C
  show zJ X G (zQi X G Q) 6 0 [(0, .ref (gad G 79)), (1, .int (zI v1)), (2, .int (zI v2)), (3, .int (zI v3)), (4, .int (zI v4))] [] σ
  unfold wp_M_room at h
  refine j_iload_n C d_M_room_0 1 rfl rfl ?_
  refine j_callS C d_M_room_1 ml_M_57 ms_M_isPlace (c_M_isPlace (xl X) (gD G) (gad G) (gca G) (v0 := v1) hσ r1 h) rfl rfl rfl rfl rfl (fun z1 σ2 rz1 hσ2 h => ?_)
  obtain ⟨ez1, h⟩ := h; subst ez1
  refine j_if_ne (tgt := 9) C d_M_room_4 rfl rz1 (fun c => ?_) (fun c => ?_)
  · have h := h.1 c
    refine j_iload_n C d_M_room_9 2 rfl rfl ?_
    refine j_iconst C d_M_room_10 ?_
    refine j_sipush C d_M_room_11 rfl ?_
    refine j_callS C d_M_room_14 ml_M_46 ms_M_isIn (c_M_isIn (xl X) (gD G) (gad G) (gca G) (v0 := v2) (v1 := 0) (v2 := 1440) hσ r2 (zR_of (x := 0) rfl) (zR_of (x := 1440) rfl) h) rfl rfl rfl rfl rfl (fun z3 σ4 rz3 hσ4 h => ?_)
    obtain ⟨ez3, h⟩ := h; subst ez3
    refine j_if_eq (tgt := 43) C d_M_room_17 rfl rz3 (fun c => ?_) (fun c => ?_)
    · have h := h.1 c
      refine j_bipush C d_M_room_43 rfl ?_
      exact j_ireturn C d_M_room_45 (zR_of (x := (-2)) rfl) hσ h
    · have h := h.2 c
      refine j_iload_n C d_M_room_20 3 rfl rfl ?_
      refine j_iload_n C d_M_room_21 2 rfl rfl ?_
      refine j_sipush C d_M_room_22 rfl ?_
      refine j_callS C d_M_room_25 ml_M_46 ms_M_isIn (c_M_isIn (xl X) (gD G) (gad G) (gca G) (v0 := v3) (v1 := v2) (v2 := 1440) hσ r3 r2 (zR_of (x := 1440) rfl) h) rfl rfl rfl rfl rfl (fun z5 σ6 rz5 hσ6 h => ?_)
      obtain ⟨ez5, h⟩ := h; subst ez5
      refine j_if_eq (tgt := 43) C d_M_room_28 rfl rz5 (fun c => ?_) (fun c => ?_)
      · have h := h.1 c
        refine j_bipush C d_M_room_43 rfl ?_
        exact j_ireturn C d_M_room_45 (zR_of (x := (-2)) rfl) hσ h
      · have h := h.2 c
        refine j_iload C d_M_room_31 4 rfl ?_
        refine j_iconst C d_M_room_33 ?_
        refine j_sipush C d_M_room_34 rfl ?_
        refine j_callS C d_M_room_37 ml_M_46 ms_M_isIn (c_M_isIn (xl X) (gD G) (gad G) (gca G) (v0 := v4) (v1 := 0) (v2 := 1000) hσ r4 (zR_of (x := 0) rfl) (zR_of (x := 1000) rfl) h) rfl rfl rfl rfl rfl (fun z7 σ8 rz7 hσ8 h => ?_)
        obtain ⟨ez7, h⟩ := h; subst ez7
        refine j_if_ne (tgt := 46) C d_M_room_40 rfl rz7 (fun c => ?_) (fun c => ?_)
        · have h := h.1 c
          refine j_aload_n C d_M_room_46 0 rfl rfl ?_
          refine j_callVv C d_M_room_47 ml_M_54 mi_M_records (c_M_records (xl X) (gD G) (gad G) (gca G)  hσ h) sh_79 rfl rfl rfl rfl rfl rfl rfl (fun σ10 hσ10 h => ?_)
          refine j_aload_n C d_M_room_50 0 rfl rfl ?_
          refine j_getr (kf := 0) (m := 80) C d_M_room_51 sh_79 rfl i_M rfl rfl fl_M_7 ?_
          refine j_iconst C d_M_room_54 ?_
          refine j_iconst C d_M_room_55 ?_
          refine j_iload_n C d_M_room_56 1 rfl rfl ?_
          refine j_imul C d_M_room_57 ?_
          refine j_iadd C d_M_room_58 ?_
          refine j_iconst C d_M_room_59 ?_
          refine j_iadd C d_M_room_60 ?_
          obtain ⟨g11, h⟩ := h
          refine j_iaload C d_M_room_61 sh_80 g11 ?_
          refine j_name (fun t12 et12 => ?_)
          have h := h t12 et12
          have rt12 : zR t12 := by rw [et12]; exact (hσ10 _ _)
          refine j_istore (L' := [(5, .int (zI t12)), (0, .ref (gad G 79)), (1, .int (zI v1)), (2, .int (zI v2)), (3, .int (zI v3)), (4, .int (zI v4))]) C d_M_room_62 rfl rfl ?_
          refine j_aload_n C d_M_room_64 1 rfl rfl ?_
          refine j_getr (kf := 0) (m := 80) C d_M_room_65 sh_79 rfl i_M rfl rfl fl_M_7 ?_
          refine j_iconst C d_M_room_68 ?_
          refine j_iconst C d_M_room_69 ?_
          refine j_iload_n C d_M_room_70 2 rfl rfl ?_
          refine j_imul C d_M_room_71 ?_
          refine j_iadd C d_M_room_72 ?_
          refine j_iload_n C d_M_room_73 3 rfl rfl ?_
          obtain ⟨g13, h⟩ := h
          refine j_iastore C d_M_room_74 sh_80 g13 ?_
          refine j_mem (fun σ14 eσ14 => ?_)
          have h := h σ14 eσ14
          have hσ14 : zRM σ14 := by rw [eσ14]; exact zU_rg hσ10 _ _ r2
          refine j_aload_n C d_M_room_75 1 rfl rfl ?_
          refine j_getr (kf := 0) (m := 80) C d_M_room_76 sh_79 rfl i_M rfl rfl fl_M_7 ?_
          refine j_iconst C d_M_room_79 ?_
          refine j_iconst C d_M_room_80 ?_
          refine j_iload_n C d_M_room_81 2 rfl rfl ?_
          refine j_imul C d_M_room_82 ?_
          refine j_iadd C d_M_room_83 ?_
          refine j_iconst C d_M_room_84 ?_
          refine j_iadd C d_M_room_85 ?_
          refine j_iload_n C d_M_room_86 4 rfl rfl ?_
          obtain ⟨g15, h⟩ := h
          refine j_iastore C d_M_room_87 sh_80 g15 ?_
          refine j_mem (fun σ16 eσ16 => ?_)
          have h := h σ16 eσ16
          have hσ16 : zRM σ16 := by rw [eσ16]; exact zU_rg hσ14 _ _ r3
          refine j_aload_n C d_M_room_88 1 rfl rfl ?_
          refine j_getr (kf := 0) (m := 80) C d_M_room_89 sh_79 rfl i_M rfl rfl fl_M_7 ?_
          refine j_iconst C d_M_room_92 ?_
          refine j_iconst C d_M_room_93 ?_
          refine j_iload_n C d_M_room_94 2 rfl rfl ?_
          refine j_imul C d_M_room_95 ?_
          refine j_iadd C d_M_room_96 ?_
          refine j_iconst C d_M_room_97 ?_
          refine j_iadd C d_M_room_98 ?_
          refine j_iload C d_M_room_99 5 rfl ?_
          obtain ⟨g17, h⟩ := h
          refine j_iastore C d_M_room_101 sh_80 g17 ?_
          refine j_mem (fun σ18 eσ18 => ?_)
          have h := h σ18 eσ18
          have hσ18 : zRM σ18 := by rw [eσ18]; exact zU_rg hσ16 _ _ r4
          refine j_iload C d_M_room_102 0 rfl ?_
          exact j_ireturn C d_M_room_104 rt12 hσ18 h
        · have h := h.2 c
          refine j_bipush C d_M_room_43 rfl ?_
          exact j_ireturn C d_M_room_45 (zR_of (x := (-2)) rfl) hσ h
  · have h := h.2 c
    refine j_iconst C d_M_room_7 ?_
    exact j_ireturn C d_M_room_8 (zR_of (x := (-1)) rfl) hσ h
set_option maxRecDepth 100000 in
set_option maxHeartbeats 4000000 in
theorem c_M_road (l : Launch) (D : va_G) (ad : Nat → Nat) (ca : Nat → ClassId) {σ : zM} {v1 : Int} {v2 : Int} {v3 : Int} {Q : Int → zM → Prop} (hσ : zRM σ) (r1 : zR v1) (r2 : zR v2) (r3 : zR v3) (h : wp_M_road σ v1 v2 v3 Q) : zCi l D ad ca y_M_road b_M_road 5 (some .int) (zrm 2 42) [.ref (ad 79), .int (zI v1), .int (zI v2), .int (zI v3)] σ Q := by
  refine zCi_of (by decide +kernel) (Nat.le_of_ble_eq_true rfl) ?_
  intro X G C hl hD had hca
  subst hl hD had hca
  have C : zC X G b_M_road "GateRoadsModel" 5 (some .int) 2 42 := C
  show zJ X G (zQi X G Q) 5 0 [(0, .ref (gad G 79)), (1, .int (zI v1)), (2, .int (zI v2)), (3, .int (zI v3))] [] σ
  unfold wp_M_road at h
  refine j_iload_n C d_M_road_0 1 rfl rfl ?_
  refine j_callS C d_M_road_1 ml_M_57 ms_M_isPlace (c_M_isPlace (xl X) (gD G) (gad G) (gca G) (v0 := v1) hσ r1 h) rfl rfl rfl rfl rfl (fun z1 σ2 rz1 hσ2 h => ?_)
  obtain ⟨ez1, h⟩ := h; subst ez1
  refine j_if_eq (tgt := 19) C d_M_road_4 rfl rz1 (fun c => ?_) (fun c => ?_)
  · have h := h.1 c
    refine j_iconst C d_M_road_19 ?_
    exact j_ireturn C d_M_road_20 (zR_of (x := (-1)) rfl) hσ h
  · have h := h.2 c
    refine j_iload_n C d_M_road_7 2 rfl rfl ?_
    refine j_callS C d_M_road_8 ml_M_57 ms_M_isPlace (c_M_isPlace (xl X) (gD G) (gad G) (gca G) (v0 := v2) hσ r2 h) rfl rfl rfl rfl rfl (fun z3 σ4 rz3 hσ4 h => ?_)
    obtain ⟨ez3, h⟩ := h; subst ez3
    refine j_if_eq (tgt := 19) C d_M_road_11 rfl rz3 (fun c => ?_) (fun c => ?_)
    · have h := h.1 c
      refine j_iconst C d_M_road_19 ?_
      exact j_ireturn C d_M_road_20 (zR_of (x := (-1)) rfl) hσ h
    · have h := h.2 c
      refine j_iload_n C d_M_road_14 1 rfl rfl ?_
      refine j_iload_n C d_M_road_15 2 rfl rfl ?_
      refine j_icmp_ne (tgt := 21) C d_M_road_16 rfl r1 r2 (fun c => ?_) (fun c => ?_)
      · have h := h.1 c
        refine j_iload_n C d_M_road_21 3 rfl rfl ?_
        refine j_iconst C d_M_road_22 ?_
        refine j_sipush C d_M_road_23 rfl ?_
        refine j_callS C d_M_road_26 ml_M_46 ms_M_isIn (c_M_isIn (xl X) (gD G) (gad G) (gca G) (v0 := v3) (v1 := 1) (v2 := 600) hσ r3 (zR_of (x := 1) rfl) (zR_of (x := 600) rfl) h) rfl rfl rfl rfl rfl (fun z5 σ6 rz5 hσ6 h => ?_)
        obtain ⟨ez5, h⟩ := h; subst ez5
        refine j_if_ne (tgt := 35) C d_M_road_29 rfl rz5 (fun c => ?_) (fun c => ?_)
        · have h := h.1 c
          refine j_aload_n C d_M_road_35 0 rfl rfl ?_
          refine j_getr (kf := 0) (m := 80) C d_M_road_36 sh_79 rfl i_M rfl rfl fl_M_7 ?_
          refine j_iconst C d_M_road_39 ?_
          refine j_iaload C d_M_road_40 sh_80 (zIx (i := 0) (n := 455) rfl) ?_
          refine j_bipush C d_M_road_41 rfl ?_
          refine j_icmp_ne (tgt := 49) C d_M_road_43 rfl (hσ _ _) (zR_of (x := 24) rfl) (fun c => ?_) (fun c => ?_)
          · have h := h.1 c
            refine j_aload_n C d_M_road_49 0 rfl rfl ?_
            refine j_callVv C d_M_road_50 ml_M_54 mi_M_records (c_M_records (xl X) (gD G) (gad G) (gca G)  hσ h) sh_79 rfl rfl rfl rfl rfl rfl rfl (fun σ8 hσ8 h => ?_)
            refine j_bipush C d_M_road_53 rfl ?_
            refine j_bipush C d_M_road_55 rfl ?_
            refine j_aload_n C d_M_road_57 0 rfl rfl ?_
            refine j_getr (kf := 0) (m := 80) C d_M_road_58 sh_79 rfl i_M rfl rfl fl_M_7 ?_
            refine j_iconst C d_M_road_61 ?_
            refine j_iaload C d_M_road_62 sh_80 (zIx (i := 0) (n := 455) rfl) ?_
            refine j_imul C d_M_road_63 ?_
            refine j_iadd C d_M_road_64 ?_
            obtain ⟨g9, h⟩ := h
            refine j_istore (L' := [(4, .int (zI (27 + (12 * (σ8 80 0))))), (0, .ref (gad G 79)), (1, .int (zI v1)), (2, .int (zI v2)), (3, .int (zI v3))]) C d_M_road_65 rfl rfl ?_
            refine j_aload_n C d_M_road_67 1 rfl rfl ?_
            refine j_getr (kf := 0) (m := 80) C d_M_road_68 sh_79 rfl i_M rfl rfl fl_M_7 ?_
            refine j_iload C d_M_road_71 0 rfl ?_
            refine j_iconst C d_M_road_73 ?_
            refine j_iadd C d_M_road_74 ?_
            refine j_iload_n C d_M_road_75 2 rfl rfl ?_
            obtain ⟨g10, h⟩ := h
            refine j_iastore C d_M_road_76 sh_80 g10 ?_
            refine j_mem (fun σ11 eσ11 => ?_)
            have h := h σ11 eσ11
            have hσ11 : zRM σ11 := by rw [eσ11]; exact zU_rg hσ8 _ _ r1
            refine j_aload_n C d_M_road_77 1 rfl rfl ?_
            refine j_getr (kf := 0) (m := 80) C d_M_road_78 sh_79 rfl i_M rfl rfl fl_M_7 ?_
            refine j_iload C d_M_road_81 0 rfl ?_
            refine j_iconst C d_M_road_83 ?_
            refine j_iadd C d_M_road_84 ?_
            refine j_iload_n C d_M_road_85 3 rfl rfl ?_
            obtain ⟨g12, h⟩ := h
            refine j_iastore C d_M_road_86 sh_80 g12 ?_
            refine j_mem (fun σ13 eσ13 => ?_)
            have h := h σ13 eσ13
            have hσ13 : zRM σ13 := by rw [eσ13]; exact zU_rg hσ11 _ _ r2
            refine j_aload_n C d_M_road_87 1 rfl rfl ?_
            refine j_getr (kf := 0) (m := 80) C d_M_road_88 sh_79 rfl i_M rfl rfl fl_M_7 ?_
            refine j_iload C d_M_road_91 0 rfl ?_
            refine j_iconst C d_M_road_93 ?_
            refine j_iadd C d_M_road_94 ?_
            refine j_iload_n C d_M_road_95 4 rfl rfl ?_
            obtain ⟨g14, h⟩ := h
            refine j_iastore C d_M_road_96 sh_80 g14 ?_
            refine j_mem (fun σ15 eσ15 => ?_)
            have h := h σ15 eσ15
            have hσ15 : zRM σ15 := by rw [eσ15]; exact zU_rg hσ13 _ _ r3
            refine j_aload_n C d_M_road_97 1 rfl rfl ?_
            refine j_getr (kf := 0) (m := 80) C d_M_road_98 sh_79 rfl i_M rfl rfl fl_M_7 ?_
            refine j_iload C d_M_road_101 0 rfl ?_
            refine j_iconst C d_M_road_103 ?_
            refine j_iadd C d_M_road_104 ?_
            refine j_iconst C d_M_road_105 ?_
            obtain ⟨g16, h⟩ := h
            refine j_iastore C d_M_road_106 sh_80 g16 ?_
            refine j_mem (fun σ17 eσ17 => ?_)
            have h := h σ17 eσ17
            have hσ17 : zRM σ17 := by rw [eσ17]; exact zU_rg hσ15 _ _ (zR_of (x := 0) rfl)
            refine j_aload_n C d_M_road_107 1 rfl rfl ?_
            refine j_getr (kf := 0) (m := 80) C d_M_road_108 sh_79 rfl i_M rfl rfl fl_M_7 ?_
            refine j_iload C d_M_road_111 0 rfl ?_
            refine j_iconst C d_M_road_113 ?_
            refine j_iadd C d_M_road_114 ?_
            refine j_iconst C d_M_road_115 ?_
            obtain ⟨g18, h⟩ := h
            refine j_iastore C d_M_road_116 sh_80 g18 ?_
            refine j_mem (fun σ19 eσ19 => ?_)
            have h := h σ19 eσ19
            have hσ19 : zRM σ19 := by rw [eσ19]; exact zU_rg hσ17 _ _ (zR_of (x := 1) rfl)
            refine j_aload_n C d_M_road_117 1 rfl rfl ?_
            refine j_getr (kf := 0) (m := 80) C d_M_road_118 sh_79 rfl i_M rfl rfl fl_M_7 ?_
            refine j_iload C d_M_road_121 0 rfl ?_
            refine j_iconst C d_M_road_123 ?_
            refine j_iadd C d_M_road_124 ?_
            refine j_iconst C d_M_road_125 ?_
            obtain ⟨g20, h⟩ := h
            refine j_iastore C d_M_road_126 sh_80 g20 ?_
            refine j_mem (fun σ21 eσ21 => ?_)
            have h := h σ21 eσ21
            have hσ21 : zRM σ21 := by rw [eσ21]; exact zU_rg hσ19 _ _ (zR_of (x := 0) rfl)
            refine j_aload_n C d_M_road_127 1 rfl rfl ?_
            refine j_getr (kf := 0) (m := 80) C d_M_road_128 sh_79 rfl i_M rfl rfl fl_M_7 ?_
            refine j_iload C d_M_road_131 0 rfl ?_
            refine j_iconst C d_M_road_133 ?_
            refine j_iadd C d_M_road_134 ?_
            refine j_iconst C d_M_road_135 ?_
            refine j_iadd C d_M_road_136 ?_
            refine j_sipush C d_M_road_137 rfl ?_
            obtain ⟨g22, h⟩ := h
            refine j_iastore C d_M_road_140 sh_80 g22 ?_
            refine j_mem (fun σ23 eσ23 => ?_)
            have h := h σ23 eσ23
            have hσ23 : zRM σ23 := by rw [eσ23]; exact zU_rg hσ21 _ _ (zR_of (x := 1440) rfl)
            refine j_aload_n C d_M_road_141 1 rfl rfl ?_
            refine j_getr (kf := 0) (m := 80) C d_M_road_142 sh_79 rfl i_M rfl rfl fl_M_7 ?_
            refine j_iload C d_M_road_145 0 rfl ?_
            refine j_bipush C d_M_road_147 rfl ?_
            refine j_iadd C d_M_road_149 ?_
            refine j_iconst C d_M_road_150 ?_
            obtain ⟨g24, h⟩ := h
            refine j_iastore C d_M_road_151 sh_80 g24 ?_
            refine j_mem (fun σ25 eσ25 => ?_)
            have h := h σ25 eσ25
            have hσ25 : zRM σ25 := by rw [eσ25]; exact zU_rg hσ23 _ _ (zR_of (x := 0) rfl)
            refine j_aload_n C d_M_road_152 1 rfl rfl ?_
            refine j_getr (kf := 0) (m := 80) C d_M_road_153 sh_79 rfl i_M rfl rfl fl_M_7 ?_
            refine j_iconst C d_M_road_156 ?_
            refine j_dup2 C d_M_road_157 rfl rfl ?_
            refine j_iaload C d_M_road_158 sh_80 (zIx (i := 0) (n := 455) rfl) ?_
            refine j_iconst C d_M_road_159 ?_
            refine j_iadd C d_M_road_160 ?_
            obtain ⟨g26, h⟩ := h
            refine j_iastore C d_M_road_161 sh_80 (zIx (i := 0) (n := 455) rfl) ?_
            refine j_mem (fun σ27 eσ27 => ?_)
            have h := h σ27 eσ27
            have hσ27 : zRM σ27 := by rw [eσ27]; exact zU_rg hσ25 _ _ g26
            refine j_aload_n C d_M_road_162 1 rfl rfl ?_
            refine j_getr (kf := 0) (m := 80) C d_M_road_163 sh_79 rfl i_M rfl rfl fl_M_7 ?_
            refine j_iconst C d_M_road_166 ?_
            refine j_iaload C d_M_road_167 sh_80 (zIx (i := 0) (n := 455) rfl) ?_
            refine j_iconst C d_M_road_168 ?_
            refine j_isub C d_M_road_169 ?_
            obtain ⟨g28, h⟩ := h
            exact j_ireturn C d_M_road_170 g28 hσ27 h
          · have h := h.2 c
            refine j_bipush C d_M_road_46 rfl ?_
            exact j_ireturn C d_M_road_48 (zR_of (x := (-4)) rfl) hσ h
        · have h := h.2 c
          refine j_bipush C d_M_road_32 rfl ?_
          exact j_ireturn C d_M_road_34 (zR_of (x := (-2)) rfl) hσ h
      · have h := h.2 c
        refine j_iconst C d_M_road_19 ?_
        exact j_ireturn C d_M_road_20 (zR_of (x := (-1)) rfl) hσ h
set_option maxRecDepth 100000 in
set_option maxHeartbeats 4000000 in
theorem c_M_isRoad (l : Launch) (D : va_G) (ad : Nat → Nat) (ca : Nat → ClassId) {σ : zM} {v1 : Int} {Q : Int → Prop} (hσ : zRM σ) (r1 : zR v1) (h : wp_M_isRoad σ v1 Q) : zCi l D ad ca y_M_isRoad b_M_isRoad 2 (some .boolean) (zrm 1 22) [.ref (ad 79), .int (zI v1)] σ (fun z u => σ = u ∧ Q z) := by
  refine zCi_of (by decide +kernel) (Nat.le_of_ble_eq_true rfl) ?_
  intro X G C hl hD had hca
  subst hl hD had hca
  have C : zC X G b_M_isRoad "GateRoadsModel" 2 (some .boolean) 1 22 := C
  show zJ X G (zQi X G (fun z u => σ = u ∧ Q z)) 2 0 [(0, .ref (gad G 79)), (1, .int (zI v1))] [] σ
  unfold wp_M_isRoad at h
  refine j_iload_n C d_M_isRoad_0 1 rfl rfl ?_
  refine j_iconst C d_M_isRoad_1 ?_
  refine j_aload_n C d_M_isRoad_2 0 rfl rfl ?_
  refine j_getr (kf := 0) (m := 80) C d_M_isRoad_3 sh_79 rfl i_M rfl rfl fl_M_7 ?_
  refine j_iconst C d_M_isRoad_6 ?_
  refine j_iaload C d_M_isRoad_7 sh_80 (zIx (i := 0) (n := 455) rfl) ?_
  refine j_iconst C d_M_isRoad_8 ?_
  refine j_isub C d_M_isRoad_9 ?_
  obtain ⟨g1, h⟩ := h
  refine j_callS C d_M_isRoad_10 ml_M_46 ms_M_isIn (c_M_isIn (xl X) (gD G) (gad G) (gca G) (v0 := v1) (v1 := 0) (v2 := (σ 80 0) - 1) hσ r1 (zR_of (x := 0) rfl) g1 h) rfl rfl rfl rfl rfl (fun z2 σ3 rz2 hσ3 h => ?_)
  obtain ⟨ez2, h⟩ := h; subst ez2
  obtain ⟨g4, h⟩ := h
  exact j_zreturn C d_M_isRoad_13 g4 hσ ⟨rfl, h⟩
set_option maxRecDepth 100000 in
set_option maxHeartbeats 4000000 in
theorem c_M_isSpan (l : Launch) (D : va_G) (ad : Nat → Nat) (ca : Nat → ClassId) {σ : zM} {v0 : Int} {v1 : Int} {v2 : Int} {Q : Int → Prop} (hσ : zRM σ) (r0 : zR v0) (r1 : zR v1) (r2 : zR v2) (h : wp_M_isSpan σ v0 v1 v2 Q) : zCi l D ad ca y_M_isSpan b_M_isSpan 3 (some .boolean) (zrm 1 22) [.int (zI v0), .int (zI v1), .int (zI v2)] σ (fun z u => σ = u ∧ Q z) := by
  refine zCi_of (by decide +kernel) (Nat.le_of_ble_eq_true rfl) ?_
  intro X G C hl hD had hca
  subst hl hD had hca
  have C : zC X G b_M_isSpan "GateRoadsModel" 3 (some .boolean) 1 22 := C
  show zJ X G (zQi X G (fun z u => σ = u ∧ Q z)) 3 0 [(0, .int (zI v0)), (1, .int (zI v1)), (2, .int (zI v2))] [] σ
  unfold wp_M_isSpan at h
  refine j_iload_n C d_M_isSpan_0 0 rfl rfl ?_
  refine j_iconst C d_M_isSpan_1 ?_
  refine j_iload_n C d_M_isSpan_2 2 rfl rfl ?_
  refine j_iconst C d_M_isSpan_3 ?_
  refine j_isub C d_M_isSpan_4 ?_
  obtain ⟨g1, h⟩ := h
  refine j_callS C d_M_isSpan_5 ml_M_46 ms_M_isIn (c_M_isIn (xl X) (gD G) (gad G) (gca G) (v0 := v0) (v1 := 0) (v2 := v2 - 1) hσ r0 (zR_of (x := 0) rfl) g1 h) rfl rfl rfl rfl rfl (fun z2 σ3 rz2 hσ3 h => ?_)
  obtain ⟨ez2, h⟩ := h; subst ez2
  refine j_if_eq (tgt := 26) C d_M_isSpan_8 rfl rz2 (fun c => ?_) (fun c => ?_)
  · have h := h.1 c
    refine j_iconst C d_M_isSpan_26 ?_
    exact j_zreturn C d_M_isSpan_27 (by decide) hσ ⟨rfl, h⟩
  · have h := h.2 c
    refine j_iload_n C d_M_isSpan_11 1 rfl rfl ?_
    refine j_iload_n C d_M_isSpan_12 0 rfl rfl ?_
    refine j_iconst C d_M_isSpan_13 ?_
    refine j_iadd C d_M_isSpan_14 ?_
    refine j_iload_n C d_M_isSpan_15 2 rfl rfl ?_
    obtain ⟨g4, h⟩ := h
    refine j_callS C d_M_isSpan_16 ml_M_46 ms_M_isIn (c_M_isIn (xl X) (gD G) (gad G) (gca G) (v0 := v1) (v1 := v0 + 1) (v2 := v2) hσ r1 g4 r2 h) rfl rfl rfl rfl rfl (fun z5 σ6 rz5 hσ6 h => ?_)
    obtain ⟨ez5, h⟩ := h; subst ez5
    refine j_if_eq (tgt := 26) C d_M_isSpan_19 rfl rz5 (fun c => ?_) (fun c => ?_)
    · have h := h.1 c
      refine j_iconst C d_M_isSpan_26 ?_
      exact j_zreturn C d_M_isSpan_27 (by decide) hσ ⟨rfl, h⟩
    · have h := h.2 c
      refine j_iconst C d_M_isSpan_22 ?_
      refine j_goto (tgt := 27) C d_M_isSpan_23 rfl ?_
      exact j_zreturn C d_M_isSpan_27 (by decide) hσ ⟨rfl, h⟩
set_option maxRecDepth 100000 in
set_option maxHeartbeats 4000000 in
theorem c_M_open (l : Launch) (D : va_G) (ad : Nat → Nat) (ca : Nat → ClassId) {σ : zM} {v1 : Int} {v2 : Int} {v3 : Int} {v4 : Int} {Q : Int → zM → Prop} (hσ : zRM σ) (r1 : zR v1) (r2 : zR v2) (r3 : zR v3) (r4 : zR v4) (h : wp_M_open σ v1 v2 v3 v4 Q) : zCi l D ad ca y_M_open b_M_open 7 (some .int) (zrm 2 44) [.ref (ad 79), .int (zI v1), .int (zI v2), .int (zI v3), .int (zI v4)] σ Q := by
  refine zCi_of (by decide +kernel) (Nat.le_of_ble_eq_true rfl) ?_
  intro X G C hl hD had hca
  subst hl hD had hca
  have C : zC X G b_M_open "GateRoadsModel" 7 (some .int) 2 44 := C
  show zJ X G (zQi X G Q) 7 0 [(0, .ref (gad G 79)), (1, .int (zI v1)), (2, .int (zI v2)), (3, .int (zI v3)), (4, .int (zI v4))] [] σ
  unfold wp_M_open at h
  refine j_aload_n C d_M_open_0 0 rfl rfl ?_
  refine j_iload_n C d_M_open_1 1 rfl rfl ?_
  refine j_callV C d_M_open_2 ml_M_61 mi_M_isRoad (c_M_isRoad (xl X) (gD G) (gad G) (gca G) (v1 := v1) hσ r1 h) sh_79 rfl rfl rfl rfl rfl rfl rfl (fun z1 σ2 rz1 hσ2 h => ?_)
  obtain ⟨ez1, h⟩ := h; subst ez1
  refine j_if_ne (tgt := 10) C d_M_open_5 rfl rz1 (fun c => ?_) (fun c => ?_)
  · have h := h.1 c
    refine j_iload_n C d_M_open_10 2 rfl rfl ?_
    refine j_iload_n C d_M_open_11 3 rfl rfl ?_
    refine j_sipush C d_M_open_12 rfl ?_
    refine j_callS C d_M_open_15 ml_M_64 ms_M_isSpan (c_M_isSpan (xl X) (gD G) (gad G) (gca G) (v0 := v2) (v1 := v3) (v2 := 1440) hσ r2 r3 (zR_of (x := 1440) rfl) h) rfl rfl rfl rfl rfl (fun z3 σ4 rz3 hσ4 h => ?_)
    obtain ⟨ez3, h⟩ := h; subst ez3
    refine j_if_eq (tgt := 31) C d_M_open_18 rfl rz3 (fun c => ?_) (fun c => ?_)
    · have h := h.1 c
      refine j_bipush C d_M_open_31 rfl ?_
      exact j_ireturn C d_M_open_33 (zR_of (x := (-2)) rfl) hσ h
    · have h := h.2 c
      refine j_iload C d_M_open_21 4 rfl ?_
      refine j_iconst C d_M_open_23 ?_
      refine j_iconst C d_M_open_24 ?_
      refine j_callS C d_M_open_25 ml_M_46 ms_M_isIn (c_M_isIn (xl X) (gD G) (gad G) (gca G) (v0 := v4) (v1 := 0) (v2 := 1) hσ r4 (zR_of (x := 0) rfl) (zR_of (x := 1) rfl) h) rfl rfl rfl rfl rfl (fun z5 σ6 rz5 hσ6 h => ?_)
      obtain ⟨ez5, h⟩ := h; subst ez5
      refine j_if_ne (tgt := 34) C d_M_open_28 rfl rz5 (fun c => ?_) (fun c => ?_)
      · have h := h.1 c
        refine j_aload_n C d_M_open_34 0 rfl rfl ?_
        refine j_callVv C d_M_open_35 ml_M_54 mi_M_records (c_M_records (xl X) (gD G) (gad G) (gca G)  hσ h) sh_79 rfl rfl rfl rfl rfl rfl rfl (fun σ8 hσ8 h => ?_)
        refine j_bipush C d_M_open_38 rfl ?_
        refine j_bipush C d_M_open_40 rfl ?_
        refine j_iload_n C d_M_open_42 1 rfl rfl ?_
        refine j_imul C d_M_open_43 ?_
        refine j_iadd C d_M_open_44 ?_
        obtain ⟨g9, h⟩ := h
        refine j_istore (L' := [(5, .int (zI (27 + (12 * v1)))), (0, .ref (gad G 79)), (1, .int (zI v1)), (2, .int (zI v2)), (3, .int (zI v3)), (4, .int (zI v4))]) C d_M_open_45 rfl rfl ?_
        refine j_aload_n C d_M_open_47 1 rfl rfl ?_
        refine j_getr (kf := 0) (m := 80) C d_M_open_48 sh_79 rfl i_M rfl rfl fl_M_7 ?_
        refine j_iload C d_M_open_51 0 rfl ?_
        refine j_iconst C d_M_open_53 ?_
        refine j_iadd C d_M_open_54 ?_
        obtain ⟨g10, h⟩ := h
        refine j_iaload C d_M_open_55 sh_80 g10 ?_
        refine j_name (fun t11 et11 => ?_)
        have h := h t11 et11
        have rt11 : zR t11 := by rw [et11]; exact (hσ8 _ _)
        refine j_istore (L' := [(6, .int (zI t11)), (5, .int (zI (27 + (12 * v1)))), (0, .ref (gad G 79)), (1, .int (zI v1)), (2, .int (zI v2)), (3, .int (zI v3)), (4, .int (zI v4))]) C d_M_open_56 rfl rfl ?_
        refine j_aload_n C d_M_open_58 2 rfl rfl ?_
        refine j_getr (kf := 0) (m := 80) C d_M_open_59 sh_79 rfl i_M rfl rfl fl_M_7 ?_
        refine j_iload C d_M_open_62 1 rfl ?_
        refine j_iconst C d_M_open_64 ?_
        refine j_iadd C d_M_open_65 ?_
        refine j_iload C d_M_open_66 6 rfl ?_
        obtain ⟨g12, h⟩ := h
        refine j_iastore C d_M_open_68 sh_80 g12 ?_
        refine j_mem (fun σ13 eσ13 => ?_)
        have h := h σ13 eσ13
        have hσ13 : zRM σ13 := by rw [eσ13]; exact zU_rg hσ8 _ _ r4
        refine j_aload_n C d_M_open_69 2 rfl rfl ?_
        refine j_getr (kf := 0) (m := 80) C d_M_open_70 sh_79 rfl i_M rfl rfl fl_M_7 ?_
        refine j_iload C d_M_open_73 1 rfl ?_
        refine j_iconst C d_M_open_75 ?_
        refine j_iadd C d_M_open_76 ?_
        refine j_iconst C d_M_open_77 ?_
        obtain ⟨g14, h⟩ := h
        refine j_iastore C d_M_open_78 sh_80 g14 ?_
        refine j_mem (fun σ15 eσ15 => ?_)
        have h := h σ15 eσ15
        have hσ15 : zRM σ15 := by rw [eσ15]; exact zU_rg hσ13 _ _ (zR_of (x := 1) rfl)
        refine j_aload_n C d_M_open_79 2 rfl rfl ?_
        refine j_getr (kf := 0) (m := 80) C d_M_open_80 sh_79 rfl i_M rfl rfl fl_M_7 ?_
        refine j_iload C d_M_open_83 1 rfl ?_
        refine j_iconst C d_M_open_85 ?_
        refine j_iadd C d_M_open_86 ?_
        refine j_iload_n C d_M_open_87 4 rfl rfl ?_
        obtain ⟨g16, h⟩ := h
        refine j_iastore C d_M_open_88 sh_80 g16 ?_
        refine j_mem (fun σ17 eσ17 => ?_)
        have h := h σ17 eσ17
        have hσ17 : zRM σ17 := by rw [eσ17]; exact zU_rg hσ15 _ _ r2
        refine j_aload_n C d_M_open_89 2 rfl rfl ?_
        refine j_getr (kf := 0) (m := 80) C d_M_open_90 sh_79 rfl i_M rfl rfl fl_M_7 ?_
        refine j_iload C d_M_open_93 1 rfl ?_
        refine j_iconst C d_M_open_95 ?_
        refine j_iadd C d_M_open_96 ?_
        refine j_iconst C d_M_open_97 ?_
        refine j_iadd C d_M_open_98 ?_
        refine j_iload_n C d_M_open_99 5 rfl rfl ?_
        obtain ⟨g18, h⟩ := h
        refine j_iastore C d_M_open_100 sh_80 g18 ?_
        refine j_mem (fun σ19 eσ19 => ?_)
        have h := h σ19 eσ19
        have hσ19 : zRM σ19 := by rw [eσ19]; exact zU_rg hσ17 _ _ r3
        refine j_iload C d_M_open_101 0 rfl ?_
        exact j_ireturn C d_M_open_103 rt11 hσ19 h
      · have h := h.2 c
        refine j_bipush C d_M_open_31 rfl ?_
        exact j_ireturn C d_M_open_33 (zR_of (x := (-2)) rfl) hσ h
  · have h := h.2 c
    refine j_iconst C d_M_open_8 ?_
    exact j_ireturn C d_M_open_9 (zR_of (x := (-1)) rfl) hσ h
set_option maxRecDepth 100000 in
set_option maxHeartbeats 4000000 in
theorem c_M_ofR (l : Launch) (D : va_G) (ad : Nat → Nat) (ca : Nat → ClassId) {σ : zM} {v1 : Int} {v2 : Int} {Q : Int → Prop} (hσ : zRM σ) (r1 : zR v1) (r2 : zR v2) (h : wp_M_ofR σ v1 v2 Q) : zCi l D ad ca y_M_ofR b_M_ofR 3 (some .int) (zrm 0 0) [.ref (ad 79), .int (zI v1), .int (zI v2)] σ (fun z u => σ = u ∧ Q z) := by
  refine zCi_of (by decide +kernel) (Nat.le_of_ble_eq_true rfl) ?_
  intro X G C hl hD had hca
  subst hl hD had hca
  have C : zC X G b_M_ofR "GateRoadsModel" 3 (some .int) 0 0 := C
  show zJ X G (zQi X G (fun z u => σ = u ∧ Q z)) 3 0 [(0, .ref (gad G 79)), (1, .int (zI v1)), (2, .int (zI v2))] [] σ
  unfold wp_M_ofR at h
  refine j_aload_n C d_M_ofR_0 0 rfl rfl ?_
  refine j_getr (kf := 0) (m := 80) C d_M_ofR_1 sh_79 rfl i_M rfl rfl fl_M_7 ?_
  refine j_bipush C d_M_ofR_4 rfl ?_
  refine j_bipush C d_M_ofR_6 rfl ?_
  refine j_iload_n C d_M_ofR_8 1 rfl rfl ?_
  refine j_imul C d_M_ofR_9 ?_
  refine j_iadd C d_M_ofR_10 ?_
  refine j_iload_n C d_M_ofR_11 2 rfl rfl ?_
  refine j_iadd C d_M_ofR_12 ?_
  obtain ⟨g1, h⟩ := h
  refine j_iaload C d_M_ofR_13 sh_80 g1 ?_
  exact j_ireturn C d_M_ofR_14 (hσ _ _) hσ ⟨rfl, h⟩
set_option maxRecDepth 100000 in
set_option maxHeartbeats 4000000 in
theorem w_M_isTaken_b59 {X : zX} {G : zG} (C : zC X G b_M_isTaken "GateRoadsModel" 6 (some .boolean) 1 22) {σ : zM} {v1 : Int} {v2 : Int} {v3 : Int} (hσ : zRM σ) (r1 : zR v1) (r2 : zR v2) (r3 : zR v3) {Q : Int → Prop} {k6 : Int → Int → Prop} (hk6 : ∀ (v4 : Int) (v5 : Int), zR v4 → zR v5 → k6 v4 v5 → zJ X G (zQi X G (fun z u => σ = u ∧ Q z)) 6 6 [(0, .ref (gad G 79)), (1, .int (zI v1)), (2, .int (zI v2)), (3, .int (zI v3)), (4, .int (zI v4)), (5, .int (zI v5))] [] σ) (v5 : Int) (s0 : Int) (r5 : zR v5) (rs0 : zR s0) (h : wp_M_isTaken_b59 σ v1 v2 v3 k6 Q v5 s0) : zJ X G (zQi X G (fun z u => σ = u ∧ Q z)) 6 59 [(0, .ref (gad G 79)), (1, .int (zI v1)), (2, .int (zI v2)), (3, .int (zI v3)), (5, .int (zI v5))] [.int (zI s0)] σ := by
  unfold wp_M_isTaken_b59 at h
  refine j_istore (L' := [(4, .int (zI s0)), (0, .ref (gad G 79)), (1, .int (zI v1)), (2, .int (zI v2)), (3, .int (zI v3)), (5, .int (zI v5))]) C d_M_isTaken_59 rfl rfl ?_
  obtain ⟨g4, h⟩ := h
  refine j_iinc (L' := [(5, .int (zI (v5 + 1))), (4, .int (zI s0)), (0, .ref (gad G 79)), (1, .int (zI v1)), (2, .int (zI v2)), (3, .int (zI v3))]) C d_M_isTaken_61 5 rfl rfl rfl ?_
  refine j_goto (tgt := 6) C d_M_isTaken_64 rfl ?_
  refine j_sub (L' := [(0, .ref (gad G 79)), (1, .int (zI v1)), (2, .int (zI v2)), (3, .int (zI v3)), (4, .int (zI s0)), (5, .int (zI (v5 + 1)))]) [2, 3, 4, 5, 1, 0] rfl ?_
  exact hk6 s0 (v5 + 1) rs0 g4 h
set_option maxRecDepth 100000 in
set_option maxHeartbeats 4000000 in
theorem w_M_isTaken_b54 {X : zX} {G : zG} (C : zC X G b_M_isTaken "GateRoadsModel" 6 (some .boolean) 1 22) {σ : zM} {v1 : Int} {v2 : Int} {v3 : Int} (hσ : zRM σ) (r1 : zR v1) (r2 : zR v2) (r3 : zR v3) {Q : Int → Prop} {k6 : Int → Int → Prop} (hk6 : ∀ (v4 : Int) (v5 : Int), zR v4 → zR v5 → k6 v4 v5 → zJ X G (zQi X G (fun z u => σ = u ∧ Q z)) 6 6 [(0, .ref (gad G 79)), (1, .int (zI v1)), (2, .int (zI v2)), (3, .int (zI v3)), (4, .int (zI v4)), (5, .int (zI v5))] [] σ) (v5 : Int) (r5 : zR v5) (h : wp_M_isTaken_b54 σ v1 v2 v3 k6 Q v5) : zJ X G (zQi X G (fun z u => σ = u ∧ Q z)) 6 54 [(0, .ref (gad G 79)), (1, .int (zI v1)), (2, .int (zI v2)), (3, .int (zI v3)), (5, .int (zI v5))] [] σ := by
  unfold wp_M_isTaken_b54 at h
  refine j_iconst C d_M_isTaken_54 ?_
  refine j_goto (tgt := 59) C d_M_isTaken_55 rfl ?_
  refine w_M_isTaken_b59 C hσ r1 r2 r3 hk6 v5 1 r5 (zR_of (x := 1) rfl) h
set_option maxRecDepth 100000 in
set_option maxHeartbeats 4000000 in
theorem w_M_isTaken_b58 {X : zX} {G : zG} (C : zC X G b_M_isTaken "GateRoadsModel" 6 (some .boolean) 1 22) {σ : zM} {v1 : Int} {v2 : Int} {v3 : Int} (hσ : zRM σ) (r1 : zR v1) (r2 : zR v2) (r3 : zR v3) {Q : Int → Prop} {k6 : Int → Int → Prop} (hk6 : ∀ (v4 : Int) (v5 : Int), zR v4 → zR v5 → k6 v4 v5 → zJ X G (zQi X G (fun z u => σ = u ∧ Q z)) 6 6 [(0, .ref (gad G 79)), (1, .int (zI v1)), (2, .int (zI v2)), (3, .int (zI v3)), (4, .int (zI v4)), (5, .int (zI v5))] [] σ) (v5 : Int) (r5 : zR v5) (h : wp_M_isTaken_b58 σ v1 v2 v3 k6 Q v5) : zJ X G (zQi X G (fun z u => σ = u ∧ Q z)) 6 58 [(0, .ref (gad G 79)), (1, .int (zI v1)), (2, .int (zI v2)), (3, .int (zI v3)), (5, .int (zI v5))] [] σ := by
  unfold wp_M_isTaken_b58 at h
  refine j_iconst C d_M_isTaken_58 ?_
  refine w_M_isTaken_b59 C hσ r1 r2 r3 hk6 v5 0 r5 (zR_of (x := 0) rfl) h
set_option maxRecDepth 100000 in
set_option maxHeartbeats 4000000 in
theorem w_M_isTaken_L6 {X : zX} {G : zG} (C : zC X G b_M_isTaken "GateRoadsModel" 6 (some .boolean) 1 22) {σ : zM} {v1 : Int} {v2 : Int} {v3 : Int} (hσ : zRM σ) (r1 : zR v1) (r2 : zR v2) (r3 : zR v3) {Q : Int → Prop} : ∀ (n : Nat) (v4 : Int) (v5 : Int) (r4 : zR v4) (r5 : zR v5), wp_M_isTaken_L6 σ v1 v2 v3 Q n v4 v5 → zJ X G (zQi X G (fun z u => σ = u ∧ Q z)) 6 6 [(0, .ref (gad G 79)), (1, .int (zI v1)), (2, .int (zI v2)), (3, .int (zI v3)), (4, .int (zI v4)), (5, .int (zI v5))] [] σ := by
  intro n
  induction n with
  | zero => intro v4 v5 r4 r5 h; exact False.elim h
  | succ n ih =>
    intro v4 v5 r4 r5 h
    rw [wp_M_isTaken_L6] at h
    refine j_iload C d_M_isTaken_6 5 rfl ?_
    refine j_aload_n C d_M_isTaken_8 0 rfl rfl ?_
    refine j_iload_n C d_M_isTaken_9 1 rfl rfl ?_
    refine j_iconst C d_M_isTaken_10 ?_
    refine j_callV C d_M_isTaken_11 ml_M_67 mi_M_ofR (c_M_ofR (xl X) (gD G) (gad G) (gca G) (v1 := v1) (v2 := 4) hσ r1 (zR_of (x := 4) rfl) h) sh_79 rfl rfl rfl rfl rfl rfl rfl (fun z1 σ2 rz1 hσ2 h => ?_)
    obtain ⟨ez1, h⟩ := h; subst ez1
    refine j_icmp_ge (tgt := 67) C d_M_isTaken_14 rfl r5 rz1 (fun c => ?_) (fun c => ?_)
    · have h := h.1 c
      refine j_iload C d_M_isTaken_67 4 rfl ?_
      obtain ⟨g3, h⟩ := h
      exact j_zreturn C d_M_isTaken_69 g3 hσ ⟨rfl, h⟩
    · have h := h.2 c
      refine j_iload C d_M_isTaken_17 4 rfl ?_
      refine j_if_ne (tgt := 54) C d_M_isTaken_19 rfl r4 (fun c => ?_) (fun c => ?_)
      · have h := h.1 c
        refine j_sub (L' := [(0, .ref (gad G 79)), (1, .int (zI v1)), (2, .int (zI v2)), (3, .int (zI v3)), (5, .int (zI v5))]) [0, 1, 2, 3, 5] rfl ?_
        refine w_M_isTaken_b54 C hσ r1 r2 r3 ih v5 r5 h
      · have h := h.2 c
        refine j_iload_n C d_M_isTaken_22 2 rfl rfl ?_
        refine j_aload_n C d_M_isTaken_23 0 rfl rfl ?_
        refine j_iload_n C d_M_isTaken_24 1 rfl rfl ?_
        refine j_iconst C d_M_isTaken_25 ?_
        refine j_iconst C d_M_isTaken_26 ?_
        refine j_iload C d_M_isTaken_27 5 rfl ?_
        refine j_imul C d_M_isTaken_29 ?_
        refine j_iadd C d_M_isTaken_30 ?_
        refine j_iconst C d_M_isTaken_31 ?_
        refine j_iadd C d_M_isTaken_32 ?_
        obtain ⟨g5, h⟩ := h
        refine j_callV C d_M_isTaken_33 ml_M_67 mi_M_ofR (c_M_ofR (xl X) (gD G) (gad G) (gca G) (v1 := v1) (v2 := (5 + (2 * v5)) + 1) hσ r1 g5 h) sh_79 rfl rfl rfl rfl rfl rfl rfl (fun z6 σ7 rz6 hσ7 h => ?_)
        obtain ⟨ez6, h⟩ := h; subst ez6
        refine j_icmp_ge (tgt := 58) C d_M_isTaken_36 rfl r2 rz6 (fun c => ?_) (fun c => ?_)
        · have h := h.1 c
          refine j_sub (L' := [(0, .ref (gad G 79)), (1, .int (zI v1)), (2, .int (zI v2)), (3, .int (zI v3)), (5, .int (zI v5))]) [0, 1, 2, 3, 5] rfl ?_
          refine w_M_isTaken_b58 C hσ r1 r2 r3 ih v5 r5 h
        · have h := h.2 c
          refine j_aload_n C d_M_isTaken_39 0 rfl rfl ?_
          refine j_iload_n C d_M_isTaken_40 1 rfl rfl ?_
          refine j_iconst C d_M_isTaken_41 ?_
          refine j_iconst C d_M_isTaken_42 ?_
          refine j_iload C d_M_isTaken_43 5 rfl ?_
          refine j_imul C d_M_isTaken_45 ?_
          refine j_iadd C d_M_isTaken_46 ?_
          obtain ⟨g8, h⟩ := h
          refine j_callV C d_M_isTaken_47 ml_M_67 mi_M_ofR (c_M_ofR (xl X) (gD G) (gad G) (gca G) (v1 := v1) (v2 := 5 + (2 * v5)) hσ r1 g8 h) sh_79 rfl rfl rfl rfl rfl rfl rfl (fun z9 σ10 rz9 hσ10 h => ?_)
          obtain ⟨ez9, h⟩ := h; subst ez9
          refine j_iload_n C d_M_isTaken_50 3 rfl rfl ?_
          refine j_icmp_ge (tgt := 58) C d_M_isTaken_51 rfl rz9 r3 (fun c => ?_) (fun c => ?_)
          · have h := h.1 c
            refine j_sub (L' := [(0, .ref (gad G 79)), (1, .int (zI v1)), (2, .int (zI v2)), (3, .int (zI v3)), (5, .int (zI v5))]) [0, 1, 2, 3, 5] rfl ?_
            refine w_M_isTaken_b58 C hσ r1 r2 r3 ih v5 r5 h
          · have h := h.2 c
            refine j_sub (L' := [(0, .ref (gad G 79)), (1, .int (zI v1)), (2, .int (zI v2)), (3, .int (zI v3)), (5, .int (zI v5))]) [0, 1, 2, 3, 5] rfl ?_
            refine w_M_isTaken_b54 C hσ r1 r2 r3 ih v5 r5 h
set_option maxRecDepth 100000 in
set_option maxHeartbeats 4000000 in
theorem c_M_isTaken (l : Launch) (D : va_G) (ad : Nat → Nat) (ca : Nat → ClassId) {σ : zM} {v1 : Int} {v2 : Int} {v3 : Int} {Q : Int → Prop} (hσ : zRM σ) (r1 : zR v1) (r2 : zR v2) (r3 : zR v3) (h : wp_M_isTaken σ v1 v2 v3 Q) : zCi l D ad ca y_M_isTaken b_M_isTaken 6 (some .boolean) (zrm 1 22) [.ref (ad 79), .int (zI v1), .int (zI v2), .int (zI v3)] σ (fun z u => σ = u ∧ Q z) := by
  refine zCi_of (by decide +kernel) (Nat.le_of_ble_eq_true rfl) ?_
  intro X G C hl hD had hca
  subst hl hD had hca
  have C : zC X G b_M_isTaken "GateRoadsModel" 6 (some .boolean) 1 22 := C
  show zJ X G (zQi X G (fun z u => σ = u ∧ Q z)) 6 0 [(0, .ref (gad G 79)), (1, .int (zI v1)), (2, .int (zI v2)), (3, .int (zI v3))] [] σ
  unfold wp_M_isTaken at h
  refine j_iconst C d_M_isTaken_0 ?_
  refine j_istore (L' := [(4, .int (zI 0)), (0, .ref (gad G 79)), (1, .int (zI v1)), (2, .int (zI v2)), (3, .int (zI v3))]) C d_M_isTaken_1 rfl rfl ?_
  refine j_iconst C d_M_isTaken_3 ?_
  refine j_istore (L' := [(5, .int (zI 0)), (4, .int (zI 0)), (0, .ref (gad G 79)), (1, .int (zI v1)), (2, .int (zI v2)), (3, .int (zI v3))]) C d_M_isTaken_4 rfl rfl ?_
  obtain ⟨n11, h⟩ := h
  refine j_sub (L' := [(0, .ref (gad G 79)), (1, .int (zI v1)), (2, .int (zI v2)), (3, .int (zI v3)), (4, .int (zI 0)), (5, .int (zI 0))]) [2, 3, 4, 5, 1, 0] rfl ?_
  refine w_M_isTaken_L6 C hσ r1 r2 r3 n11 0 0 (zR_of (x := 0) rfl) (zR_of (x := 0) rfl) h
set_option maxRecDepth 100000 in
set_option maxHeartbeats 4000000 in
theorem w_M_adds_L20 {X : zX} {G : zG} (C : zC X G b_M_adds "GateRoadsModel" 6 (none) 0 0) {v2 : Int} {v3 : Int} {v4 : Int} (r2 : zR v2) (r3 : zR v3) (r4 : zR v4) {Q : zM → Prop} {k115 : zM → Int → Prop} (hk115 : ∀ (σ : zM) (v5 : Int), zRM σ → zR v5 → k115 σ v5 → zJ X G (zQv X G Q) 6 115 [(0, .ref (gad G 79)), (2, .int (zI v2)), (3, .int (zI v3)), (4, .int (zI v4)), (5, .int (zI v5))] [] σ) : ∀ (n : Nat) (σ : zM) (v5 : Int) (hσ : zRM σ) (r5 : zR v5), wp_M_adds_L20 v2 v3 v4 k115 Q n σ v5 → zJ X G (zQv X G Q) 6 20 [(0, .ref (gad G 79)), (2, .int (zI v2)), (3, .int (zI v3)), (4, .int (zI v4)), (5, .int (zI v5))] [] σ := by
  intro n
  induction n with
  | zero => intro σ v5 hσ r5 h; exact False.elim h
  | succ n ih =>
    intro σ v5 hσ r5 h
    rw [wp_M_adds_L20] at h
    refine j_iload C d_M_adds_20 4 rfl ?_
    refine j_if_le (tgt := 115) C d_M_adds_22 rfl r5 (fun c => ?_) (fun c => ?_)
    · have h := h.1 c
      exact hk115 σ v5 hσ r5 h
    · have h := h.2 c
      refine j_aload_n C d_M_adds_25 0 rfl rfl ?_
      refine j_getr (kf := 0) (m := 80) C d_M_adds_26 sh_79 rfl i_M rfl rfl fl_M_7 ?_
      refine j_iload C d_M_adds_29 3 rfl ?_
      refine j_iconst C d_M_adds_31 ?_
      refine j_iadd C d_M_adds_32 ?_
      refine j_iconst C d_M_adds_33 ?_
      refine j_iload C d_M_adds_34 4 rfl ?_
      refine j_iconst C d_M_adds_36 ?_
      refine j_isub C d_M_adds_37 ?_
      refine j_imul C d_M_adds_38 ?_
      refine j_iadd C d_M_adds_39 ?_
      obtain ⟨g4, h⟩ := h
      refine j_iaload C d_M_adds_40 sh_80 g4 ?_
      refine j_iload_n C d_M_adds_41 1 rfl rfl ?_
      refine j_icmp_le (tgt := 115) C d_M_adds_42 rfl (hσ _ _) r2 (fun c => ?_) (fun c => ?_)
      · have h := h.1 c
        exact hk115 σ v5 hσ r5 h
      · have h := h.2 c
        refine j_aload_n C d_M_adds_45 0 rfl rfl ?_
        refine j_getr (kf := 0) (m := 80) C d_M_adds_46 sh_79 rfl i_M rfl rfl fl_M_7 ?_
        refine j_iload C d_M_adds_49 3 rfl ?_
        refine j_iconst C d_M_adds_51 ?_
        refine j_iadd C d_M_adds_52 ?_
        refine j_iconst C d_M_adds_53 ?_
        refine j_iload C d_M_adds_54 4 rfl ?_
        refine j_imul C d_M_adds_56 ?_
        refine j_iadd C d_M_adds_57 ?_
        refine j_aload_n C d_M_adds_58 0 rfl rfl ?_
        refine j_getr (kf := 0) (m := 80) C d_M_adds_59 sh_79 rfl i_M rfl rfl fl_M_7 ?_
        refine j_iload C d_M_adds_62 3 rfl ?_
        refine j_iconst C d_M_adds_64 ?_
        refine j_iadd C d_M_adds_65 ?_
        refine j_iconst C d_M_adds_66 ?_
        refine j_iload C d_M_adds_67 4 rfl ?_
        refine j_iconst C d_M_adds_69 ?_
        refine j_isub C d_M_adds_70 ?_
        refine j_imul C d_M_adds_71 ?_
        refine j_iadd C d_M_adds_72 ?_
        obtain ⟨g5, h⟩ := h
        refine j_iaload C d_M_adds_73 sh_80 g5 ?_
        obtain ⟨g6, h⟩ := h
        refine j_iastore C d_M_adds_74 sh_80 g6 ?_
        refine j_mem (fun σ7 eσ7 => ?_)
        have h := h σ7 eσ7
        have hσ7 : zRM σ7 := by rw [eσ7]; exact zU_rg hσ _ _ (hσ _ _)
        refine j_aload_n C d_M_adds_75 0 rfl rfl ?_
        refine j_getr (kf := 0) (m := 80) C d_M_adds_76 sh_79 rfl i_M rfl rfl fl_M_7 ?_
        refine j_iload C d_M_adds_79 3 rfl ?_
        refine j_iconst C d_M_adds_81 ?_
        refine j_iadd C d_M_adds_82 ?_
        refine j_iconst C d_M_adds_83 ?_
        refine j_iload C d_M_adds_84 4 rfl ?_
        refine j_imul C d_M_adds_86 ?_
        refine j_iadd C d_M_adds_87 ?_
        refine j_iconst C d_M_adds_88 ?_
        refine j_iadd C d_M_adds_89 ?_
        refine j_aload_n C d_M_adds_90 0 rfl rfl ?_
        refine j_getr (kf := 0) (m := 80) C d_M_adds_91 sh_79 rfl i_M rfl rfl fl_M_7 ?_
        refine j_iload C d_M_adds_94 3 rfl ?_
        refine j_iconst C d_M_adds_96 ?_
        refine j_iadd C d_M_adds_97 ?_
        refine j_iconst C d_M_adds_98 ?_
        refine j_iload C d_M_adds_99 4 rfl ?_
        refine j_iconst C d_M_adds_101 ?_
        refine j_isub C d_M_adds_102 ?_
        refine j_imul C d_M_adds_103 ?_
        refine j_iadd C d_M_adds_104 ?_
        refine j_iconst C d_M_adds_105 ?_
        refine j_iadd C d_M_adds_106 ?_
        obtain ⟨g8, h⟩ := h
        refine j_iaload C d_M_adds_107 sh_80 g8 ?_
        obtain ⟨g9, h⟩ := h
        refine j_iastore C d_M_adds_108 sh_80 g9 ?_
        refine j_mem (fun σ10 eσ10 => ?_)
        have h := h σ10 eσ10
        have hσ10 : zRM σ10 := by rw [eσ10]; exact zU_rg hσ7 _ _ (hσ7 _ _)
        obtain ⟨g11, h⟩ := h
        refine j_iinc (L' := [(5, .int (zI (v5 + (-1)))), (0, .ref (gad G 79)), (2, .int (zI v2)), (3, .int (zI v3)), (4, .int (zI v4))]) C d_M_adds_109 4 rfl rfl rfl ?_
        refine j_goto (tgt := 20) C d_M_adds_112 rfl ?_
        refine j_sub (L' := [(0, .ref (gad G 79)), (2, .int (zI v2)), (3, .int (zI v3)), (4, .int (zI v4)), (5, .int (zI (v5 + (-1))))]) [1, 2, 3, 4, 0] rfl ?_
        exact ih σ10 (v5 + (-1)) hσ10 g11 h
set_option maxRecDepth 100000 in
set_option maxHeartbeats 4000000 in
theorem w_M_adds_b115 {X : zX} {G : zG} (C : zC X G b_M_adds "GateRoadsModel" 6 (none) 0 0) {Q : zM → Prop} (σ : zM) (v2 : Int) (v3 : Int) (v4 : Int) (v5 : Int) (hσ : zRM σ) (r2 : zR v2) (r3 : zR v3) (r4 : zR v4) (r5 : zR v5) (h : wp_M_adds_b115 Q σ v2 v3 v4 v5) : zJ X G (zQv X G Q) 6 115 [(0, .ref (gad G 79)), (2, .int (zI v2)), (3, .int (zI v3)), (4, .int (zI v4)), (5, .int (zI v5))] [] σ := by
  unfold wp_M_adds_b115 at h
  refine j_aload_n C d_M_adds_115 0 rfl rfl ?_
  refine j_getr (kf := 0) (m := 80) C d_M_adds_116 sh_79 rfl i_M rfl rfl fl_M_7 ?_
  refine j_iload C d_M_adds_119 3 rfl ?_
  refine j_iconst C d_M_adds_121 ?_
  refine j_iadd C d_M_adds_122 ?_
  refine j_iconst C d_M_adds_123 ?_
  refine j_iload C d_M_adds_124 4 rfl ?_
  refine j_imul C d_M_adds_126 ?_
  refine j_iadd C d_M_adds_127 ?_
  refine j_iload_n C d_M_adds_128 1 rfl rfl ?_
  obtain ⟨g14, h⟩ := h
  refine j_iastore C d_M_adds_129 sh_80 g14 ?_
  refine j_mem (fun σ15 eσ15 => ?_)
  have h := h σ15 eσ15
  have hσ15 : zRM σ15 := by rw [eσ15]; exact zU_rg hσ _ _ r2
  refine j_aload_n C d_M_adds_130 0 rfl rfl ?_
  refine j_getr (kf := 0) (m := 80) C d_M_adds_131 sh_79 rfl i_M rfl rfl fl_M_7 ?_
  refine j_iload C d_M_adds_134 3 rfl ?_
  refine j_iconst C d_M_adds_136 ?_
  refine j_iadd C d_M_adds_137 ?_
  refine j_iconst C d_M_adds_138 ?_
  refine j_iload C d_M_adds_139 4 rfl ?_
  refine j_imul C d_M_adds_141 ?_
  refine j_iadd C d_M_adds_142 ?_
  refine j_iconst C d_M_adds_143 ?_
  refine j_iadd C d_M_adds_144 ?_
  refine j_iload_n C d_M_adds_145 2 rfl rfl ?_
  obtain ⟨g16, h⟩ := h
  refine j_iastore C d_M_adds_146 sh_80 g16 ?_
  refine j_mem (fun σ17 eσ17 => ?_)
  have h := h σ17 eσ17
  have hσ17 : zRM σ17 := by rw [eσ17]; exact zU_rg hσ15 _ _ r3
  refine j_aload_n C d_M_adds_147 0 rfl rfl ?_
  refine j_getr (kf := 0) (m := 80) C d_M_adds_148 sh_79 rfl i_M rfl rfl fl_M_7 ?_
  refine j_iload C d_M_adds_151 3 rfl ?_
  refine j_iconst C d_M_adds_153 ?_
  refine j_iadd C d_M_adds_154 ?_
  refine j_dup2 C d_M_adds_155 rfl rfl ?_
  obtain ⟨g18, h⟩ := h
  refine j_iaload C d_M_adds_156 sh_80 g18 ?_
  refine j_iconst C d_M_adds_157 ?_
  refine j_iadd C d_M_adds_158 ?_
  obtain ⟨g19, h⟩ := h
  obtain ⟨g20, h⟩ := h
  refine j_iastore C d_M_adds_159 sh_80 g19 ?_
  refine j_mem (fun σ21 eσ21 => ?_)
  have h := h σ21 eσ21
  have hσ21 : zRM σ21 := by rw [eσ21]; exact zU_rg hσ17 _ _ g20
  exact j_vreturn C d_M_adds_160 hσ21 h
set_option maxRecDepth 100000 in
set_option maxHeartbeats 4000000 in
theorem c_M_adds (l : Launch) (D : va_G) (ad : Nat → Nat) (ca : Nat → ClassId) {σ : zM} {v1 : Int} {v2 : Int} {v3 : Int} {Q : zM → Prop} (hσ : zRM σ) (r1 : zR v1) (r2 : zR v2) (r3 : zR v3) (h : wp_M_adds σ v1 v2 v3 Q) : zCv l D ad ca y_M_adds b_M_adds 6 (zrm 0 0) [.ref (ad 79), .int (zI v1), .int (zI v2), .int (zI v3)] σ Q := by
  refine zCv_of (by decide +kernel) (Nat.le_of_ble_eq_true rfl) ?_
  intro X G C hl hD had hca
  subst hl hD had hca
  have C : zC X G b_M_adds "GateRoadsModel" 6 (none) 0 0 := C
  show zJ X G (zQv X G Q) 6 0 [(0, .ref (gad G 79)), (1, .int (zI v1)), (2, .int (zI v2)), (3, .int (zI v3))] [] σ
  unfold wp_M_adds at h
  refine j_bipush C d_M_adds_0 rfl ?_
  refine j_bipush C d_M_adds_2 rfl ?_
  refine j_iload_n C d_M_adds_4 1 rfl rfl ?_
  refine j_imul C d_M_adds_5 ?_
  refine j_iadd C d_M_adds_6 ?_
  obtain ⟨g1, h⟩ := h
  refine j_istore (L' := [(4, .int (zI (27 + (12 * v1)))), (0, .ref (gad G 79)), (1, .int (zI v1)), (2, .int (zI v2)), (3, .int (zI v3))]) C d_M_adds_7 rfl rfl ?_
  refine j_aload_n C d_M_adds_9 1 rfl rfl ?_
  refine j_getr (kf := 0) (m := 80) C d_M_adds_10 sh_79 rfl i_M rfl rfl fl_M_7 ?_
  refine j_iload C d_M_adds_13 0 rfl ?_
  refine j_iconst C d_M_adds_15 ?_
  refine j_iadd C d_M_adds_16 ?_
  obtain ⟨g2, h⟩ := h
  refine j_iaload C d_M_adds_17 sh_80 g2 ?_
  refine j_name (fun t3 et3 => ?_)
  have h := h t3 et3
  have rt3 : zR t3 := by rw [et3]; exact (hσ _ _)
  refine j_istore (L' := [(5, .int (zI t3)), (4, .int (zI (27 + (12 * v1)))), (0, .ref (gad G 79)), (1, .int (zI v1)), (2, .int (zI v2)), (3, .int (zI v3))]) C d_M_adds_18 rfl rfl ?_
  obtain ⟨n22, h⟩ := h
  refine j_sub (L' := [(0, .ref (gad G 79)), (2, .int (zI v2)), (3, .int (zI v3)), (4, .int (zI (27 + (12 * v1)))), (5, .int (zI t3))]) [2, 4, 5, 1, 0] rfl ?_
  refine w_M_adds_L20 C r2 r3 g1 ?_ n22 σ t3 hσ rt3 h
  · intro σ12 u13 hσ12 ru13 h
    refine w_M_adds_b115 C σ12 v2 v3 (27 + (12 * v1)) u13 hσ12 r2 r3 g1 ru13 h
set_option maxRecDepth 100000 in
set_option maxHeartbeats 4000000 in
theorem c_M_more (l : Launch) (D : va_G) (ad : Nat → Nat) (ca : Nat → ClassId) {σ : zM} {v1 : Int} {v2 : Int} {v3 : Int} {Q : Int → zM → Prop} (hσ : zRM σ) (r1 : zR v1) (r2 : zR v2) (r3 : zR v3) (h : wp_M_more σ v1 v2 v3 Q) : zCi l D ad ca y_M_more b_M_more 4 (some .int) (zrm 2 47) [.ref (ad 79), .int (zI v1), .int (zI v2), .int (zI v3)] σ Q := by
  refine zCi_of (by decide +kernel) (Nat.le_of_ble_eq_true rfl) ?_
  intro X G C hl hD had hca
  subst hl hD had hca
  have C : zC X G b_M_more "GateRoadsModel" 4 (some .int) 2 47 := C
  show zJ X G (zQi X G Q) 4 0 [(0, .ref (gad G 79)), (1, .int (zI v1)), (2, .int (zI v2)), (3, .int (zI v3))] [] σ
  unfold wp_M_more at h
  refine j_aload_n C d_M_more_0 0 rfl rfl ?_
  refine j_iload_n C d_M_more_1 1 rfl rfl ?_
  refine j_callV C d_M_more_2 ml_M_61 mi_M_isRoad (c_M_isRoad (xl X) (gD G) (gad G) (gca G) (v1 := v1) hσ r1 h) sh_79 rfl rfl rfl rfl rfl rfl rfl (fun z1 σ2 rz1 hσ2 h => ?_)
  obtain ⟨ez1, h⟩ := h; subst ez1
  refine j_if_ne (tgt := 10) C d_M_more_5 rfl rz1 (fun c => ?_) (fun c => ?_)
  · have h := h.1 c
    refine j_iload_n C d_M_more_10 2 rfl rfl ?_
    refine j_iload_n C d_M_more_11 3 rfl rfl ?_
    refine j_sipush C d_M_more_12 rfl ?_
    refine j_callS C d_M_more_15 ml_M_64 ms_M_isSpan (c_M_isSpan (xl X) (gD G) (gad G) (gca G) (v0 := v2) (v1 := v3) (v2 := 1440) hσ r2 r3 (zR_of (x := 1440) rfl) h) rfl rfl rfl rfl rfl (fun z3 σ4 rz3 hσ4 h => ?_)
    obtain ⟨ez3, h⟩ := h; subst ez3
    refine j_if_eq (tgt := 31) C d_M_more_18 rfl rz3 (fun c => ?_) (fun c => ?_)
    · have h := h.1 c
      refine j_bipush C d_M_more_31 rfl ?_
      exact j_ireturn C d_M_more_33 (zR_of (x := (-2)) rfl) hσ h
    · have h := h.2 c
      refine j_aload_n C d_M_more_21 0 rfl rfl ?_
      refine j_iload_n C d_M_more_22 1 rfl rfl ?_
      refine j_iload_n C d_M_more_23 2 rfl rfl ?_
      refine j_iload_n C d_M_more_24 3 rfl rfl ?_
      refine j_callV C d_M_more_25 ml_M_71 mi_M_isTaken (c_M_isTaken (xl X) (gD G) (gad G) (gca G) (v1 := v1) (v2 := v2) (v3 := v3) hσ r1 r2 r3 h) sh_79 rfl rfl rfl rfl rfl rfl rfl (fun z5 σ6 rz5 hσ6 h => ?_)
      obtain ⟨ez5, h⟩ := h; subst ez5
      refine j_if_eq (tgt := 34) C d_M_more_28 rfl rz5 (fun c => ?_) (fun c => ?_)
      · have h := h.1 c
        refine j_aload_n C d_M_more_34 0 rfl rfl ?_
        refine j_iload_n C d_M_more_35 1 rfl rfl ?_
        refine j_iconst C d_M_more_36 ?_
        refine j_callV C d_M_more_37 ml_M_67 mi_M_ofR (c_M_ofR (xl X) (gD G) (gad G) (gca G) (v1 := v1) (v2 := 4) hσ r1 (zR_of (x := 4) rfl) h) sh_79 rfl rfl rfl rfl rfl rfl rfl (fun z7 σ8 rz7 hσ8 h => ?_)
        obtain ⟨ez7, h⟩ := h; subst ez7
        refine j_iconst C d_M_more_40 ?_
        refine j_icmp_ne (tgt := 47) C d_M_more_41 rfl rz7 (zR_of (x := 3) rfl) (fun c => ?_) (fun c => ?_)
        · have h := h.1 c
          refine j_aload_n C d_M_more_47 0 rfl rfl ?_
          refine j_callVv C d_M_more_48 ml_M_54 mi_M_records (c_M_records (xl X) (gD G) (gad G) (gca G)  hσ h) sh_79 rfl rfl rfl rfl rfl rfl rfl (fun σ10 hσ10 h => ?_)
          refine j_aload_n C d_M_more_51 0 rfl rfl ?_
          refine j_iload_n C d_M_more_52 1 rfl rfl ?_
          refine j_iload_n C d_M_more_53 2 rfl rfl ?_
          refine j_iload_n C d_M_more_54 3 rfl rfl ?_
          refine j_callVv C d_M_more_55 ml_M_74 mi_M_adds (c_M_adds (xl X) (gD G) (gad G) (gca G) (v1 := v1) (v2 := v2) (v3 := v3) hσ10 r1 r2 r3 h) sh_79 rfl rfl rfl rfl rfl rfl rfl (fun σ12 hσ12 h => ?_)
          refine j_aload_n C d_M_more_58 0 rfl rfl ?_
          refine j_iload_n C d_M_more_59 1 rfl rfl ?_
          refine j_iconst C d_M_more_60 ?_
          refine j_callV C d_M_more_61 ml_M_67 mi_M_ofR (c_M_ofR (xl X) (gD G) (gad G) (gca G) (v1 := v1) (v2 := 4) hσ12 r1 (zR_of (x := 4) rfl) h) sh_79 rfl rfl rfl rfl rfl rfl rfl (fun z13 σ14 rz13 hσ14 h => ?_)
          obtain ⟨ez13, h⟩ := h; subst ez13
          exact j_ireturn C d_M_more_64 rz13 hσ12 h
        · have h := h.2 c
          refine j_bipush C d_M_more_44 rfl ?_
          exact j_ireturn C d_M_more_46 (zR_of (x := (-4)) rfl) hσ h
      · have h := h.2 c
        refine j_bipush C d_M_more_31 rfl ?_
        exact j_ireturn C d_M_more_33 (zR_of (x := (-2)) rfl) hσ h
  · have h := h.2 c
    refine j_iconst C d_M_more_8 ?_
    exact j_ireturn C d_M_more_9 (zR_of (x := (-1)) rfl) hσ h
set_option maxRecDepth 100000 in
set_option maxHeartbeats 4000000 in
theorem c_M_checksClosing (l : Launch) (D : va_G) (ad : Nat → Nat) (ca : Nat → ClassId) {σ : zM} {v1 : Int} {v2 : Int} {v3 : Int} {Q : Int → Prop} (hσ : zRM σ) (r1 : zR v1) (r2 : zR v2) (r3 : zR v3) (h : wp_M_checksClosing σ v1 v2 v3 Q) : zCi l D ad ca y_M_checksClosing b_M_checksClosing 4 (some .int) (zrm 2 44) [.ref (ad 79), .int (zI v1), .int (zI v2), .int (zI v3)] σ (fun z u => σ = u ∧ Q z) := by
  refine zCi_of (by decide +kernel) (Nat.le_of_ble_eq_true rfl) ?_
  intro X G C hl hD had hca
  subst hl hD had hca
  have C : zC X G b_M_checksClosing "GateRoadsModel" 4 (some .int) 2 44 := C
  show zJ X G (zQi X G (fun z u => σ = u ∧ Q z)) 4 0 [(0, .ref (gad G 79)), (1, .int (zI v1)), (2, .int (zI v2)), (3, .int (zI v3))] [] σ
  unfold wp_M_checksClosing at h
  refine j_aload_n C d_M_checksClosing_0 0 rfl rfl ?_
  refine j_iload_n C d_M_checksClosing_1 1 rfl rfl ?_
  refine j_callV C d_M_checksClosing_2 ml_M_61 mi_M_isRoad (c_M_isRoad (xl X) (gD G) (gad G) (gca G) (v1 := v1) hσ r1 h) sh_79 rfl rfl rfl rfl rfl rfl rfl (fun z1 σ2 rz1 hσ2 h => ?_)
  obtain ⟨ez1, h⟩ := h; subst ez1
  refine j_if_ne (tgt := 10) C d_M_checksClosing_5 rfl rz1 (fun c => ?_) (fun c => ?_)
  · have h := h.1 c
    refine j_iload_n C d_M_checksClosing_10 2 rfl rfl ?_
    refine j_iload_n C d_M_checksClosing_11 3 rfl rfl ?_
    refine j_sipush C d_M_checksClosing_12 rfl ?_
    refine j_callS C d_M_checksClosing_15 ml_M_64 ms_M_isSpan (c_M_isSpan (xl X) (gD G) (gad G) (gca G) (v0 := v2) (v1 := v3) (v2 := 2880) hσ r2 r3 (zR_of (x := 2880) rfl) h) rfl rfl rfl rfl rfl (fun z3 σ4 rz3 hσ4 h => ?_)
    obtain ⟨ez3, h⟩ := h; subst ez3
    refine j_if_ne (tgt := 24) C d_M_checksClosing_18 rfl rz3 (fun c => ?_) (fun c => ?_)
    · have h := h.1 c
      refine j_aload_n C d_M_checksClosing_24 0 rfl rfl ?_
      refine j_getr (kf := 0) (m := 80) C d_M_checksClosing_25 sh_79 rfl i_M rfl rfl fl_M_7 ?_
      refine j_iconst C d_M_checksClosing_28 ?_
      refine j_iaload C d_M_checksClosing_29 sh_80 (zIx (i := 1) (n := 455) rfl) ?_
      refine j_bipush C d_M_checksClosing_30 rfl ?_
      refine j_icmp_ne (tgt := 40) C d_M_checksClosing_32 rfl (hσ _ _) (zR_of (x := 20) rfl) (fun c => ?_) (fun c => ?_)
      · have h := h.1 c
        refine j_iconst C d_M_checksClosing_40 ?_
        exact j_ireturn C d_M_checksClosing_41 (zR_of (x := 0) rfl) hσ ⟨rfl, h⟩
      · have h := h.2 c
        refine j_bipush C d_M_checksClosing_35 rfl ?_
        refine j_goto (tgt := 41) C d_M_checksClosing_37 rfl ?_
        exact j_ireturn C d_M_checksClosing_41 (zR_of (x := (-4)) rfl) hσ ⟨rfl, h⟩
    · have h := h.2 c
      refine j_bipush C d_M_checksClosing_21 rfl ?_
      exact j_ireturn C d_M_checksClosing_23 (zR_of (x := (-2)) rfl) hσ ⟨rfl, h⟩
  · have h := h.2 c
    refine j_iconst C d_M_checksClosing_8 ?_
    exact j_ireturn C d_M_checksClosing_9 (zR_of (x := (-1)) rfl) hσ ⟨rfl, h⟩
set_option maxRecDepth 100000 in
set_option maxHeartbeats 4000000 in
theorem c_M_closes (l : Launch) (D : va_G) (ad : Nat → Nat) (ca : Nat → ClassId) {σ : zM} {v1 : Int} {v2 : Int} {v3 : Int} {Q : Int → zM → Prop} (hσ : zRM σ) (r1 : zR v1) (r2 : zR v2) (r3 : zR v3) (h : wp_M_closes σ v1 v2 v3 Q) : zCi l D ad ca y_M_closes b_M_closes 5 (some .int) (zrm 0 0) [.ref (ad 79), .int (zI v1), .int (zI v2), .int (zI v3)] σ Q := by
  refine zCi_of (by decide +kernel) (Nat.le_of_ble_eq_true rfl) ?_
  intro X G C hl hD had hca
  subst hl hD had hca
  have C : zC X G b_M_closes "GateRoadsModel" 5 (some .int) 0 0 := C
  show zJ X G (zQi X G Q) 5 0 [(0, .ref (gad G 79)), (1, .int (zI v1)), (2, .int (zI v2)), (3, .int (zI v3))] [] σ
  unfold wp_M_closes at h
  refine j_sipush C d_M_closes_0 rfl ?_
  refine j_iconst C d_M_closes_3 ?_
  refine j_aload_n C d_M_closes_4 0 rfl rfl ?_
  refine j_getr (kf := 0) (m := 80) C d_M_closes_5 sh_79 rfl i_M rfl rfl fl_M_7 ?_
  refine j_iconst C d_M_closes_8 ?_
  refine j_iaload C d_M_closes_9 sh_80 (zIx (i := 1) (n := 455) rfl) ?_
  refine j_imul C d_M_closes_10 ?_
  refine j_iadd C d_M_closes_11 ?_
  obtain ⟨g1, h⟩ := h
  refine j_istore (L' := [(4, .int (zI (315 + (3 * (σ 80 1))))), (0, .ref (gad G 79)), (1, .int (zI v1)), (2, .int (zI v2)), (3, .int (zI v3))]) C d_M_closes_12 rfl rfl ?_
  refine j_aload_n C d_M_closes_14 1 rfl rfl ?_
  refine j_getr (kf := 0) (m := 80) C d_M_closes_15 sh_79 rfl i_M rfl rfl fl_M_7 ?_
  refine j_iload C d_M_closes_18 0 rfl ?_
  refine j_iload_n C d_M_closes_20 2 rfl rfl ?_
  obtain ⟨g2, h⟩ := h
  refine j_iastore C d_M_closes_21 sh_80 g2 ?_
  refine j_mem (fun σ3 eσ3 => ?_)
  have h := h σ3 eσ3
  have hσ3 : zRM σ3 := by rw [eσ3]; exact zU_rg hσ _ _ r1
  refine j_aload_n C d_M_closes_22 1 rfl rfl ?_
  refine j_getr (kf := 0) (m := 80) C d_M_closes_23 sh_79 rfl i_M rfl rfl fl_M_7 ?_
  refine j_iload C d_M_closes_26 0 rfl ?_
  refine j_iconst C d_M_closes_28 ?_
  refine j_iadd C d_M_closes_29 ?_
  refine j_iload_n C d_M_closes_30 3 rfl rfl ?_
  obtain ⟨g4, h⟩ := h
  refine j_iastore C d_M_closes_31 sh_80 g4 ?_
  refine j_mem (fun σ5 eσ5 => ?_)
  have h := h σ5 eσ5
  have hσ5 : zRM σ5 := by rw [eσ5]; exact zU_rg hσ3 _ _ r2
  refine j_aload_n C d_M_closes_32 1 rfl rfl ?_
  refine j_getr (kf := 0) (m := 80) C d_M_closes_33 sh_79 rfl i_M rfl rfl fl_M_7 ?_
  refine j_iload C d_M_closes_36 0 rfl ?_
  refine j_iconst C d_M_closes_38 ?_
  refine j_iadd C d_M_closes_39 ?_
  refine j_iload_n C d_M_closes_40 4 rfl rfl ?_
  obtain ⟨g6, h⟩ := h
  refine j_iastore C d_M_closes_41 sh_80 g6 ?_
  refine j_mem (fun σ7 eσ7 => ?_)
  have h := h σ7 eσ7
  have hσ7 : zRM σ7 := by rw [eσ7]; exact zU_rg hσ5 _ _ r3
  refine j_aload_n C d_M_closes_42 1 rfl rfl ?_
  refine j_getr (kf := 0) (m := 80) C d_M_closes_43 sh_79 rfl i_M rfl rfl fl_M_7 ?_
  refine j_iconst C d_M_closes_46 ?_
  refine j_dup2 C d_M_closes_47 rfl rfl ?_
  refine j_iaload C d_M_closes_48 sh_80 (zIx (i := 1) (n := 455) rfl) ?_
  refine j_iconst C d_M_closes_49 ?_
  refine j_iadd C d_M_closes_50 ?_
  obtain ⟨g8, h⟩ := h
  refine j_iastore C d_M_closes_51 sh_80 (zIx (i := 1) (n := 455) rfl) ?_
  refine j_mem (fun σ9 eσ9 => ?_)
  have h := h σ9 eσ9
  have hσ9 : zRM σ9 := by rw [eσ9]; exact zU_rg hσ7 _ _ g8
  refine j_aload_n C d_M_closes_52 1 rfl rfl ?_
  refine j_getr (kf := 0) (m := 80) C d_M_closes_53 sh_79 rfl i_M rfl rfl fl_M_7 ?_
  refine j_iconst C d_M_closes_56 ?_
  refine j_iaload C d_M_closes_57 sh_80 (zIx (i := 1) (n := 455) rfl) ?_
  refine j_iconst C d_M_closes_58 ?_
  refine j_isub C d_M_closes_59 ?_
  obtain ⟨g10, h⟩ := h
  exact j_ireturn C d_M_closes_60 g10 hσ9 h
set_option maxRecDepth 100000 in
set_option maxHeartbeats 4000000 in
theorem c_M_close (l : Launch) (D : va_G) (ad : Nat → Nat) (ca : Nat → ClassId) {σ : zM} {v1 : Int} {v2 : Int} {v3 : Int} {Q : Int → zM → Prop} (hσ : zRM σ) (r1 : zR v1) (r2 : zR v2) (r3 : zR v3) (h : wp_M_close σ v1 v2 v3 Q) : zCi l D ad ca y_M_close b_M_close 5 (some .int) (zrm 3 67) [.ref (ad 79), .int (zI v1), .int (zI v2), .int (zI v3)] σ Q := by
  refine zCi_of (by decide +kernel) (Nat.le_of_ble_eq_true rfl) ?_
  intro X G C hl hD had hca
  subst hl hD had hca
  have C : zC X G b_M_close "GateRoadsModel" 5 (some .int) 3 67 := C
  show zJ X G (zQi X G Q) 5 0 [(0, .ref (gad G 79)), (1, .int (zI v1)), (2, .int (zI v2)), (3, .int (zI v3))] [] σ
  unfold wp_M_close at h
  refine j_aload_n C d_M_close_0 0 rfl rfl ?_
  refine j_iload_n C d_M_close_1 1 rfl rfl ?_
  refine j_iload_n C d_M_close_2 2 rfl rfl ?_
  refine j_iload_n C d_M_close_3 3 rfl rfl ?_
  refine j_callV C d_M_close_4 ml_M_78 mi_M_checksClosing (c_M_checksClosing (xl X) (gD G) (gad G) (gca G) (v1 := v1) (v2 := v2) (v3 := v3) hσ r1 r2 r3 h) sh_79 rfl rfl rfl rfl rfl rfl rfl (fun z1 σ2 rz1 hσ2 h => ?_)
  obtain ⟨ez1, h⟩ := h; subst ez1
  refine j_istore (L' := [(4, .int (zI z1)), (0, .ref (gad G 79)), (1, .int (zI v1)), (2, .int (zI v2)), (3, .int (zI v3))]) C d_M_close_7 rfl rfl ?_
  refine j_iload C d_M_close_9 0 rfl ?_
  refine j_if_eq (tgt := 17) C d_M_close_11 rfl rz1 (fun c => ?_) (fun c => ?_)
  · have h := h.1 c
    refine j_aload_n C d_M_close_17 1 rfl rfl ?_
    refine j_callVv C d_M_close_18 ml_M_54 mi_M_records (c_M_records (xl X) (gD G) (gad G) (gca G)  hσ h) sh_79 rfl rfl rfl rfl rfl rfl rfl (fun σ4 hσ4 h => ?_)
    refine j_aload_n C d_M_close_21 1 rfl rfl ?_
    refine j_iload_n C d_M_close_22 2 rfl rfl ?_
    refine j_iload_n C d_M_close_23 3 rfl rfl ?_
    refine j_iload_n C d_M_close_24 4 rfl rfl ?_
    refine j_callV C d_M_close_25 ml_M_82 mi_M_closes (c_M_closes (xl X) (gD G) (gad G) (gca G) (v1 := v1) (v2 := v2) (v3 := v3) hσ4 r1 r2 r3 h) sh_79 rfl rfl rfl rfl rfl rfl rfl (fun z5 σ6 rz5 hσ6 h => ?_)
    exact j_ireturn C d_M_close_28 rz5 hσ6 h
  · have h := h.2 c
    refine j_iload C d_M_close_14 0 rfl ?_
    exact j_ireturn C d_M_close_16 rz1 hσ h
set_option maxRecDepth 100000 in
set_option maxHeartbeats 4000000 in
theorem w_M_lift_L40 {X : zX} {G : zG} (C : zC X G b_M_lift "GateRoadsModel" 3 (some .int) 1 22) {Q : Int → zM → Prop} : ∀ (n : Nat) (σ : zM) (v2 : Int) (hσ : zRM σ) (r2 : zR v2), wp_M_lift_L40 Q n σ v2 → zJ X G (zQi X G Q) 3 40 [(0, .ref (gad G 79)), (2, .int (zI v2))] [] σ := by
  intro n
  induction n with
  | zero => intro σ v2 hσ r2 h; exact False.elim h
  | succ n ih =>
    intro σ v2 hσ r2 h
    rw [wp_M_lift_L40] at h
    refine j_iload_n C d_M_lift_40 1 rfl rfl ?_
    refine j_sipush C d_M_lift_41 rfl ?_
    refine j_iconst C d_M_lift_44 ?_
    refine j_aload_n C d_M_lift_45 0 rfl rfl ?_
    refine j_getr (kf := 0) (m := 80) C d_M_lift_46 sh_79 rfl i_M rfl rfl fl_M_7 ?_
    refine j_iconst C d_M_lift_49 ?_
    refine j_iaload C d_M_lift_50 sh_80 (zIx (i := 1) (n := 455) rfl) ?_
    refine j_imul C d_M_lift_51 ?_
    refine j_iadd C d_M_lift_52 ?_
    obtain ⟨g9, h⟩ := h
    refine j_icmp_ge (tgt := 76) C d_M_lift_53 rfl r2 g9 (fun c => ?_) (fun c => ?_)
    · have h := h.1 c
      refine j_aload_n C d_M_lift_76 0 rfl rfl ?_
      refine j_getr (kf := 0) (m := 80) C d_M_lift_77 sh_79 rfl i_M rfl rfl fl_M_7 ?_
      refine j_iconst C d_M_lift_80 ?_
      refine j_iaload C d_M_lift_81 sh_80 (zIx (i := 1) (n := 455) rfl) ?_
      exact j_ireturn C d_M_lift_82 (hσ _ _) hσ h
    · have h := h.2 c
      refine j_aload_n C d_M_lift_56 0 rfl rfl ?_
      refine j_getr (kf := 0) (m := 80) C d_M_lift_57 sh_79 rfl i_M rfl rfl fl_M_7 ?_
      refine j_iload_n C d_M_lift_60 1 rfl rfl ?_
      refine j_aload_n C d_M_lift_61 0 rfl rfl ?_
      refine j_getr (kf := 0) (m := 80) C d_M_lift_62 sh_79 rfl i_M rfl rfl fl_M_7 ?_
      refine j_iload_n C d_M_lift_65 1 rfl rfl ?_
      refine j_iconst C d_M_lift_66 ?_
      refine j_iadd C d_M_lift_67 ?_
      obtain ⟨g10, h⟩ := h
      refine j_iaload C d_M_lift_68 sh_80 g10 ?_
      obtain ⟨g11, h⟩ := h
      refine j_iastore C d_M_lift_69 sh_80 g11 ?_
      refine j_mem (fun σ12 eσ12 => ?_)
      have h := h σ12 eσ12
      have hσ12 : zRM σ12 := by rw [eσ12]; exact zU_rg hσ _ _ (hσ _ _)
      obtain ⟨g13, h⟩ := h
      refine j_iinc (L' := [(2, .int (zI (v2 + 1))), (0, .ref (gad G 79))]) C d_M_lift_70 1 rfl rfl rfl ?_
      refine j_goto (tgt := 40) C d_M_lift_73 rfl ?_
      refine j_sub (L' := [(0, .ref (gad G 79)), (2, .int (zI (v2 + 1)))]) [1, 0] rfl ?_
      exact ih σ12 (v2 + 1) hσ12 g13 h
set_option maxRecDepth 100000 in
set_option maxHeartbeats 4000000 in
theorem c_M_lift (l : Launch) (D : va_G) (ad : Nat → Nat) (ca : Nat → ClassId) {σ : zM} {v1 : Int} {Q : Int → zM → Prop} (hσ : zRM σ) (r1 : zR v1) (h : wp_M_lift σ v1 Q) : zCi l D ad ca y_M_lift b_M_lift 3 (some .int) (zrm 1 22) [.ref (ad 79), .int (zI v1)] σ Q := by
  refine zCi_of (by decide +kernel) (Nat.le_of_ble_eq_true rfl) ?_
  intro X G C hl hD had hca
  subst hl hD had hca
  have C : zC X G b_M_lift "GateRoadsModel" 3 (some .int) 1 22 := C
  show zJ X G (zQi X G Q) 3 0 [(0, .ref (gad G 79)), (1, .int (zI v1))] [] σ
  unfold wp_M_lift at h
  refine j_iload_n C d_M_lift_0 1 rfl rfl ?_
  refine j_iconst C d_M_lift_1 ?_
  refine j_aload_n C d_M_lift_2 0 rfl rfl ?_
  refine j_getr (kf := 0) (m := 80) C d_M_lift_3 sh_79 rfl i_M rfl rfl fl_M_7 ?_
  refine j_iconst C d_M_lift_6 ?_
  refine j_iaload C d_M_lift_7 sh_80 (zIx (i := 1) (n := 455) rfl) ?_
  refine j_iconst C d_M_lift_8 ?_
  refine j_isub C d_M_lift_9 ?_
  obtain ⟨g1, h⟩ := h
  refine j_callS C d_M_lift_10 ml_M_46 ms_M_isIn (c_M_isIn (xl X) (gD G) (gad G) (gca G) (v0 := v1) (v1 := 0) (v2 := (σ 80 1) - 1) hσ r1 (zR_of (x := 0) rfl) g1 h) rfl rfl rfl rfl rfl (fun z2 σ3 rz2 hσ3 h => ?_)
  obtain ⟨ez2, h⟩ := h; subst ez2
  refine j_if_ne (tgt := 18) C d_M_lift_13 rfl rz2 (fun c => ?_) (fun c => ?_)
  · have h := h.1 c
    refine j_aload_n C d_M_lift_18 0 rfl rfl ?_
    refine j_callVv C d_M_lift_19 ml_M_54 mi_M_records (c_M_records (xl X) (gD G) (gad G) (gca G)  hσ h) sh_79 rfl rfl rfl rfl rfl rfl rfl (fun σ5 hσ5 h => ?_)
    refine j_aload_n C d_M_lift_22 0 rfl rfl ?_
    refine j_getr (kf := 0) (m := 80) C d_M_lift_23 sh_79 rfl i_M rfl rfl fl_M_7 ?_
    refine j_iconst C d_M_lift_26 ?_
    refine j_dup2 C d_M_lift_27 rfl rfl ?_
    refine j_iaload C d_M_lift_28 sh_80 (zIx (i := 1) (n := 455) rfl) ?_
    refine j_iconst C d_M_lift_29 ?_
    refine j_isub C d_M_lift_30 ?_
    obtain ⟨g6, h⟩ := h
    refine j_iastore C d_M_lift_31 sh_80 (zIx (i := 1) (n := 455) rfl) ?_
    refine j_mem (fun σ7 eσ7 => ?_)
    have h := h σ7 eσ7
    have hσ7 : zRM σ7 := by rw [eσ7]; exact zU_rg hσ5 _ _ g6
    refine j_sipush C d_M_lift_32 rfl ?_
    refine j_iconst C d_M_lift_35 ?_
    refine j_iload_n C d_M_lift_36 1 rfl rfl ?_
    refine j_imul C d_M_lift_37 ?_
    refine j_iadd C d_M_lift_38 ?_
    obtain ⟨g8, h⟩ := h
    refine j_istore_n (L' := [(2, .int (zI (315 + (3 * v1)))), (0, .ref (gad G 79)), (1, .int (zI v1))]) C d_M_lift_39 rfl rfl rfl ?_
    obtain ⟨n14, h⟩ := h
    refine j_sub (L' := [(0, .ref (gad G 79)), (2, .int (zI (315 + (3 * v1))))]) [1, 0] rfl ?_
    refine w_M_lift_L40 C n14 σ7 (315 + (3 * v1)) hσ7 g8 h
  · have h := h.2 c
    refine j_iconst C d_M_lift_16 ?_
    exact j_ireturn C d_M_lift_17 (zR_of (x := (-1)) rfl) hσ h
set_option maxRecDepth 100000 in
set_option maxHeartbeats 4000000 in
theorem c_M_isTime (l : Launch) (D : va_G) (ad : Nat → Nat) (ca : Nat → ClassId) {σ : zM} {v0 : Int} {Q : Int → Prop} (hσ : zRM σ) (r0 : zR v0) (h : wp_M_isTime σ v0 Q) : zCi l D ad ca y_M_isTime b_M_isTime 1 (some .boolean) (zrm 1 22) [.int (zI v0)] σ (fun z u => σ = u ∧ Q z) := by
  refine zCi_of (by decide +kernel) (Nat.le_of_ble_eq_true rfl) ?_
  intro X G C hl hD had hca
  subst hl hD had hca
  have C : zC X G b_M_isTime "GateRoadsModel" 1 (some .boolean) 1 22 := C
  show zJ X G (zQi X G (fun z u => σ = u ∧ Q z)) 1 0 [(0, .int (zI v0))] [] σ
  unfold wp_M_isTime at h
  refine j_iload_n C d_M_isTime_0 0 rfl rfl ?_
  refine j_iconst C d_M_isTime_1 ?_
  refine j_sipush C d_M_isTime_2 rfl ?_
  refine j_callS C d_M_isTime_5 ml_M_46 ms_M_isIn (c_M_isIn (xl X) (gD G) (gad G) (gca G) (v0 := v0) (v1 := 0) (v2 := 2880) hσ r0 (zR_of (x := 0) rfl) (zR_of (x := 2880) rfl) h) rfl rfl rfl rfl rfl (fun z1 σ2 rz1 hσ2 h => ?_)
  obtain ⟨ez1, h⟩ := h; subst ez1
  obtain ⟨g3, h⟩ := h
  exact j_zreturn C d_M_isTime_8 g3 hσ ⟨rfl, h⟩
set_option maxRecDepth 100000 in
set_option maxHeartbeats 4000000 in
theorem w_M_spanEnd_b77 {X : zX} {G : zG} (C : zC X G b_M_spanEnd "GateRoadsModel" 6 (some .int) 1 22) {σ : zM} {v1 : Int} {v2 : Int} (hσ : zRM σ) (r1 : zR v1) (r2 : zR v2) {Q : Int → Prop} {k5 : Int → Int → Prop} (hk5 : ∀ (v3 : Int) (v4 : Int), zR v3 → zR v4 → k5 v3 v4 → zJ X G (zQi X G (fun z u => σ = u ∧ Q z)) 6 5 [(0, .ref (gad G 79)), (1, .int (zI v1)), (2, .int (zI v2)), (3, .int (zI v3)), (4, .int (zI v4))] [] σ) (v4 : Int) (s0 : Int) (r4 : zR v4) (rs0 : zR s0) (h : wp_M_spanEnd_b77 σ v1 v2 k5 Q v4 s0) : zJ X G (zQi X G (fun z u => σ = u ∧ Q z)) 6 77 [(0, .ref (gad G 79)), (1, .int (zI v1)), (2, .int (zI v2)), (4, .int (zI v4))] [.int (zI s0)] σ := by
  unfold wp_M_spanEnd_b77 at h
  refine j_istore_n (L' := [(3, .int (zI s0)), (0, .ref (gad G 79)), (1, .int (zI v1)), (2, .int (zI v2)), (4, .int (zI v4))]) C d_M_spanEnd_77 rfl rfl rfl ?_
  obtain ⟨g6, h⟩ := h
  refine j_iinc (L' := [(4, .int (zI (v4 + 1))), (3, .int (zI s0)), (0, .ref (gad G 79)), (1, .int (zI v1)), (2, .int (zI v2))]) C d_M_spanEnd_78 4 rfl rfl rfl ?_
  refine j_goto (tgt := 5) C d_M_spanEnd_81 rfl ?_
  refine j_sub (L' := [(0, .ref (gad G 79)), (1, .int (zI v1)), (2, .int (zI v2)), (3, .int (zI s0)), (4, .int (zI (v4 + 1)))]) [2, 3, 4, 1, 0] rfl ?_
  exact hk5 s0 (v4 + 1) rs0 g6 h
set_option maxRecDepth 100000 in
set_option maxHeartbeats 4000000 in
theorem w_M_spanEnd_b53 {X : zX} {G : zG} (C : zC X G b_M_spanEnd "GateRoadsModel" 6 (some .int) 1 22) {σ : zM} {v1 : Int} {v2 : Int} (hσ : zRM σ) (r1 : zR v1) (r2 : zR v2) {Q : Int → Prop} {k5 : Int → Int → Prop} (hk5 : ∀ (v3 : Int) (v4 : Int), zR v3 → zR v4 → k5 v3 v4 → zJ X G (zQi X G (fun z u => σ = u ∧ Q z)) 6 5 [(0, .ref (gad G 79)), (1, .int (zI v1)), (2, .int (zI v2)), (3, .int (zI v3)), (4, .int (zI v4))] [] σ) (v3 : Int) (v4 : Int) (s0 : Int) (r3 : zR v3) (r4 : zR v4) (rs0 : zR s0) (h : wp_M_spanEnd_b53 σ v1 v2 k5 Q v3 v4 s0) : zJ X G (zQi X G (fun z u => σ = u ∧ Q z)) 6 53 [(0, .ref (gad G 79)), (1, .int (zI v1)), (2, .int (zI v2)), (3, .int (zI v3)), (4, .int (zI v4))] [.int (zI s0)] σ := by
  unfold wp_M_spanEnd_b53 at h
  refine j_istore (L' := [(5, .int (zI s0)), (0, .ref (gad G 79)), (1, .int (zI v1)), (2, .int (zI v2)), (3, .int (zI v3)), (4, .int (zI v4))]) C d_M_spanEnd_53 rfl rfl ?_
  refine j_iload C d_M_spanEnd_55 0 rfl ?_
  refine j_if_eq (tgt := 76) C d_M_spanEnd_57 rfl rs0 (fun c => ?_) (fun c => ?_)
  · have h := h.1 c
    refine j_iload_n C d_M_spanEnd_76 4 rfl rfl ?_
    refine j_sub (L' := [(0, .ref (gad G 79)), (1, .int (zI v1)), (2, .int (zI v2)), (4, .int (zI v4))]) [1, 2, 3, 5] rfl ?_
    refine w_M_spanEnd_b77 C hσ r1 r2 hk5 v4 v3 r4 r3 h
  · have h := h.2 c
    refine j_aload_n C d_M_spanEnd_60 1 rfl rfl ?_
    refine j_iload_n C d_M_spanEnd_61 2 rfl rfl ?_
    refine j_iconst C d_M_spanEnd_62 ?_
    refine j_iconst C d_M_spanEnd_63 ?_
    refine j_iload C d_M_spanEnd_64 5 rfl ?_
    refine j_imul C d_M_spanEnd_66 ?_
    refine j_iadd C d_M_spanEnd_67 ?_
    refine j_iconst C d_M_spanEnd_68 ?_
    refine j_iadd C d_M_spanEnd_69 ?_
    obtain ⟨g7, h⟩ := h
    refine j_callV C d_M_spanEnd_70 ml_M_67 mi_M_ofR (c_M_ofR (xl X) (gD G) (gad G) (gca G) (v1 := v1) (v2 := (5 + (2 * v4)) + 1) hσ r1 g7 h) sh_79 rfl rfl rfl rfl rfl rfl rfl (fun z8 σ9 rz8 hσ9 h => ?_)
    obtain ⟨ez8, h⟩ := h; subst ez8
    refine j_goto (tgt := 77) C d_M_spanEnd_73 rfl ?_
    refine j_sub (L' := [(0, .ref (gad G 79)), (1, .int (zI v1)), (2, .int (zI v2)), (4, .int (zI v4))]) [1, 2, 3, 5] rfl ?_
    refine w_M_spanEnd_b77 C hσ r1 r2 hk5 v4 z8 r4 rz8 h
set_option maxRecDepth 100000 in
set_option maxHeartbeats 4000000 in
theorem w_M_spanEnd_b52 {X : zX} {G : zG} (C : zC X G b_M_spanEnd "GateRoadsModel" 6 (some .int) 1 22) {σ : zM} {v1 : Int} {v2 : Int} (hσ : zRM σ) (r1 : zR v1) (r2 : zR v2) {Q : Int → Prop} {k5 : Int → Int → Prop} (hk5 : ∀ (v3 : Int) (v4 : Int), zR v3 → zR v4 → k5 v3 v4 → zJ X G (zQi X G (fun z u => σ = u ∧ Q z)) 6 5 [(0, .ref (gad G 79)), (1, .int (zI v1)), (2, .int (zI v2)), (3, .int (zI v3)), (4, .int (zI v4))] [] σ) (v3 : Int) (v4 : Int) (r3 : zR v3) (r4 : zR v4) (h : wp_M_spanEnd_b52 σ v1 v2 k5 Q v3 v4) : zJ X G (zQi X G (fun z u => σ = u ∧ Q z)) 6 52 [(0, .ref (gad G 79)), (1, .int (zI v1)), (2, .int (zI v2)), (3, .int (zI v3)), (4, .int (zI v4))] [] σ := by
  unfold wp_M_spanEnd_b52 at h
  refine j_iconst C d_M_spanEnd_52 ?_
  refine w_M_spanEnd_b53 C hσ r1 r2 hk5 v3 v4 0 r3 r4 (zR_of (x := 0) rfl) h
set_option maxRecDepth 100000 in
set_option maxHeartbeats 4000000 in
theorem w_M_spanEnd_L5 {X : zX} {G : zG} (C : zC X G b_M_spanEnd "GateRoadsModel" 6 (some .int) 1 22) {σ : zM} {v1 : Int} {v2 : Int} (hσ : zRM σ) (r1 : zR v1) (r2 : zR v2) {Q : Int → Prop} : ∀ (n : Nat) (v3 : Int) (v4 : Int) (r3 : zR v3) (r4 : zR v4), wp_M_spanEnd_L5 σ v1 v2 Q n v3 v4 → zJ X G (zQi X G (fun z u => σ = u ∧ Q z)) 6 5 [(0, .ref (gad G 79)), (1, .int (zI v1)), (2, .int (zI v2)), (3, .int (zI v3)), (4, .int (zI v4))] [] σ := by
  intro n
  induction n with
  | zero => intro v3 v4 r3 r4 h; exact False.elim h
  | succ n ih =>
    intro v3 v4 r3 r4 h
    rw [wp_M_spanEnd_L5] at h
    refine j_iload C d_M_spanEnd_5 4 rfl ?_
    refine j_aload_n C d_M_spanEnd_7 0 rfl rfl ?_
    refine j_iload_n C d_M_spanEnd_8 1 rfl rfl ?_
    refine j_iconst C d_M_spanEnd_9 ?_
    refine j_callV C d_M_spanEnd_10 ml_M_67 mi_M_ofR (c_M_ofR (xl X) (gD G) (gad G) (gca G) (v1 := v1) (v2 := 4) hσ r1 (zR_of (x := 4) rfl) h) sh_79 rfl rfl rfl rfl rfl rfl rfl (fun z1 σ2 rz1 hσ2 h => ?_)
    obtain ⟨ez1, h⟩ := h; subst ez1
    refine j_icmp_ge (tgt := 84) C d_M_spanEnd_13 rfl r4 rz1 (fun c => ?_) (fun c => ?_)
    · have h := h.1 c
      refine j_iload_n C d_M_spanEnd_84 3 rfl rfl ?_
      exact j_ireturn C d_M_spanEnd_85 r3 hσ ⟨rfl, h⟩
    · have h := h.2 c
      refine j_iload_n C d_M_spanEnd_16 2 rfl rfl ?_
      refine j_aload_n C d_M_spanEnd_17 0 rfl rfl ?_
      refine j_iload_n C d_M_spanEnd_18 1 rfl rfl ?_
      refine j_iconst C d_M_spanEnd_19 ?_
      refine j_iconst C d_M_spanEnd_20 ?_
      refine j_iload C d_M_spanEnd_21 4 rfl ?_
      refine j_imul C d_M_spanEnd_23 ?_
      refine j_iadd C d_M_spanEnd_24 ?_
      obtain ⟨g3, h⟩ := h
      refine j_callV C d_M_spanEnd_25 ml_M_67 mi_M_ofR (c_M_ofR (xl X) (gD G) (gad G) (gca G) (v1 := v1) (v2 := 5 + (2 * v4)) hσ r1 g3 h) sh_79 rfl rfl rfl rfl rfl rfl rfl (fun z4 σ5 rz4 hσ5 h => ?_)
      obtain ⟨ez4, h⟩ := h; subst ez4
      refine j_icmp_lt (tgt := 52) C d_M_spanEnd_28 rfl r2 rz4 (fun c => ?_) (fun c => ?_)
      · have h := h.1 c
        refine w_M_spanEnd_b52 C hσ r1 r2 ih v3 v4 r3 r4 h
      · have h := h.2 c
        refine j_iload_n C d_M_spanEnd_31 2 rfl rfl ?_
        refine j_aload_n C d_M_spanEnd_32 0 rfl rfl ?_
        refine j_iload_n C d_M_spanEnd_33 1 rfl rfl ?_
        refine j_iconst C d_M_spanEnd_34 ?_
        refine j_iconst C d_M_spanEnd_35 ?_
        refine j_iload C d_M_spanEnd_36 4 rfl ?_
        refine j_imul C d_M_spanEnd_38 ?_
        refine j_iadd C d_M_spanEnd_39 ?_
        refine j_iconst C d_M_spanEnd_40 ?_
        refine j_iadd C d_M_spanEnd_41 ?_
        obtain ⟨g10, h⟩ := h
        refine j_callV C d_M_spanEnd_42 ml_M_67 mi_M_ofR (c_M_ofR (xl X) (gD G) (gad G) (gca G) (v1 := v1) (v2 := (5 + (2 * v4)) + 1) hσ r1 g10 h) sh_79 rfl rfl rfl rfl rfl rfl rfl (fun z11 σ12 rz11 hσ12 h => ?_)
        obtain ⟨ez11, h⟩ := h; subst ez11
        refine j_icmp_ge (tgt := 52) C d_M_spanEnd_45 rfl r2 rz11 (fun c => ?_) (fun c => ?_)
        · have h := h.1 c
          refine w_M_spanEnd_b52 C hσ r1 r2 ih v3 v4 r3 r4 h
        · have h := h.2 c
          refine j_iconst C d_M_spanEnd_48 ?_
          refine j_goto (tgt := 53) C d_M_spanEnd_49 rfl ?_
          refine w_M_spanEnd_b53 C hσ r1 r2 ih v3 v4 1 r3 r4 (zR_of (x := 1) rfl) h
set_option maxRecDepth 100000 in
set_option maxHeartbeats 4000000 in
theorem c_M_spanEnd (l : Launch) (D : va_G) (ad : Nat → Nat) (ca : Nat → ClassId) {σ : zM} {v1 : Int} {v2 : Int} {Q : Int → Prop} (hσ : zRM σ) (r1 : zR v1) (r2 : zR v2) (h : wp_M_spanEnd σ v1 v2 Q) : zCi l D ad ca y_M_spanEnd b_M_spanEnd 6 (some .int) (zrm 1 22) [.ref (ad 79), .int (zI v1), .int (zI v2)] σ (fun z u => σ = u ∧ Q z) := by
  refine zCi_of (by decide +kernel) (Nat.le_of_ble_eq_true rfl) ?_
  intro X G C hl hD had hca
  subst hl hD had hca
  have C : zC X G b_M_spanEnd "GateRoadsModel" 6 (some .int) 1 22 := C
  show zJ X G (zQi X G (fun z u => σ = u ∧ Q z)) 6 0 [(0, .ref (gad G 79)), (1, .int (zI v1)), (2, .int (zI v2))] [] σ
  unfold wp_M_spanEnd at h
  refine j_iconst C d_M_spanEnd_0 ?_
  refine j_istore_n (L' := [(3, .int (zI 0)), (0, .ref (gad G 79)), (1, .int (zI v1)), (2, .int (zI v2))]) C d_M_spanEnd_1 rfl rfl rfl ?_
  refine j_iconst C d_M_spanEnd_2 ?_
  refine j_istore (L' := [(4, .int (zI 0)), (3, .int (zI 0)), (0, .ref (gad G 79)), (1, .int (zI v1)), (2, .int (zI v2))]) C d_M_spanEnd_3 rfl rfl ?_
  obtain ⟨n13, h⟩ := h
  refine j_sub (L' := [(0, .ref (gad G 79)), (1, .int (zI v1)), (2, .int (zI v2)), (3, .int (zI 0)), (4, .int (zI 0))]) [2, 3, 4, 1, 0] rfl ?_
  refine w_M_spanEnd_L5 C hσ r1 r2 n13 0 0 (zR_of (x := 0) rfl) (zR_of (x := 0) rfl) h
set_option maxRecDepth 100000 in
set_option maxHeartbeats 4000000 in
theorem w_M_isClosed_b72 {X : zX} {G : zG} (C : zC X G b_M_isClosed "GateRoadsModel" 6 (some .boolean) 0 0) {σ : zM} {v1 : Int} {v2 : Int} (hσ : zRM σ) (r1 : zR v1) (r2 : zR v2) {Q : Int → Prop} {k5 : Int → Int → Prop} (hk5 : ∀ (v3 : Int) (v4 : Int), zR v3 → zR v4 → k5 v3 v4 → zJ X G (zQi X G (fun z u => σ = u ∧ Q z)) 6 5 [(0, .ref (gad G 79)), (1, .int (zI v1)), (2, .int (zI v2)), (3, .int (zI v3)), (4, .int (zI v4))] [] σ) (v4 : Int) (s0 : Int) (r4 : zR v4) (rs0 : zR s0) (h : wp_M_isClosed_b72 σ v1 v2 k5 Q v4 s0) : zJ X G (zQi X G (fun z u => σ = u ∧ Q z)) 6 72 [(0, .ref (gad G 79)), (1, .int (zI v1)), (2, .int (zI v2)), (4, .int (zI v4))] [.int (zI s0)] σ := by
  unfold wp_M_isClosed_b72 at h
  refine j_istore_n (L' := [(3, .int (zI s0)), (0, .ref (gad G 79)), (1, .int (zI v1)), (2, .int (zI v2)), (4, .int (zI v4))]) C d_M_isClosed_72 rfl rfl rfl ?_
  obtain ⟨g3, h⟩ := h
  refine j_iinc (L' := [(4, .int (zI (v4 + 1))), (3, .int (zI s0)), (0, .ref (gad G 79)), (1, .int (zI v1)), (2, .int (zI v2))]) C d_M_isClosed_73 4 rfl rfl rfl ?_
  refine j_goto (tgt := 5) C d_M_isClosed_76 rfl ?_
  refine j_sub (L' := [(0, .ref (gad G 79)), (1, .int (zI v1)), (2, .int (zI v2)), (3, .int (zI s0)), (4, .int (zI (v4 + 1)))]) [2, 3, 4, 1, 0] rfl ?_
  exact hk5 s0 (v4 + 1) rs0 g3 h
set_option maxRecDepth 100000 in
set_option maxHeartbeats 4000000 in
theorem w_M_isClosed_b67 {X : zX} {G : zG} (C : zC X G b_M_isClosed "GateRoadsModel" 6 (some .boolean) 0 0) {σ : zM} {v1 : Int} {v2 : Int} (hσ : zRM σ) (r1 : zR v1) (r2 : zR v2) {Q : Int → Prop} {k5 : Int → Int → Prop} (hk5 : ∀ (v3 : Int) (v4 : Int), zR v3 → zR v4 → k5 v3 v4 → zJ X G (zQi X G (fun z u => σ = u ∧ Q z)) 6 5 [(0, .ref (gad G 79)), (1, .int (zI v1)), (2, .int (zI v2)), (3, .int (zI v3)), (4, .int (zI v4))] [] σ) (v4 : Int) (r4 : zR v4) (h : wp_M_isClosed_b67 σ v1 v2 k5 Q v4) : zJ X G (zQi X G (fun z u => σ = u ∧ Q z)) 6 67 [(0, .ref (gad G 79)), (1, .int (zI v1)), (2, .int (zI v2)), (4, .int (zI v4))] [] σ := by
  unfold wp_M_isClosed_b67 at h
  refine j_iconst C d_M_isClosed_67 ?_
  refine j_goto (tgt := 72) C d_M_isClosed_68 rfl ?_
  refine w_M_isClosed_b72 C hσ r1 r2 hk5 v4 1 r4 (zR_of (x := 1) rfl) h
set_option maxRecDepth 100000 in
set_option maxHeartbeats 4000000 in
theorem w_M_isClosed_b71 {X : zX} {G : zG} (C : zC X G b_M_isClosed "GateRoadsModel" 6 (some .boolean) 0 0) {σ : zM} {v1 : Int} {v2 : Int} (hσ : zRM σ) (r1 : zR v1) (r2 : zR v2) {Q : Int → Prop} {k5 : Int → Int → Prop} (hk5 : ∀ (v3 : Int) (v4 : Int), zR v3 → zR v4 → k5 v3 v4 → zJ X G (zQi X G (fun z u => σ = u ∧ Q z)) 6 5 [(0, .ref (gad G 79)), (1, .int (zI v1)), (2, .int (zI v2)), (3, .int (zI v3)), (4, .int (zI v4))] [] σ) (v4 : Int) (r4 : zR v4) (h : wp_M_isClosed_b71 σ v1 v2 k5 Q v4) : zJ X G (zQi X G (fun z u => σ = u ∧ Q z)) 6 71 [(0, .ref (gad G 79)), (1, .int (zI v1)), (2, .int (zI v2)), (4, .int (zI v4))] [] σ := by
  unfold wp_M_isClosed_b71 at h
  refine j_iconst C d_M_isClosed_71 ?_
  refine w_M_isClosed_b72 C hσ r1 r2 hk5 v4 0 r4 (zR_of (x := 0) rfl) h
set_option maxRecDepth 100000 in
set_option maxHeartbeats 4000000 in
theorem w_M_isClosed_L5 {X : zX} {G : zG} (C : zC X G b_M_isClosed "GateRoadsModel" 6 (some .boolean) 0 0) {σ : zM} {v1 : Int} {v2 : Int} (hσ : zRM σ) (r1 : zR v1) (r2 : zR v2) {Q : Int → Prop} : ∀ (n : Nat) (v3 : Int) (v4 : Int) (r3 : zR v3) (r4 : zR v4), wp_M_isClosed_L5 σ v1 v2 Q n v3 v4 → zJ X G (zQi X G (fun z u => σ = u ∧ Q z)) 6 5 [(0, .ref (gad G 79)), (1, .int (zI v1)), (2, .int (zI v2)), (3, .int (zI v3)), (4, .int (zI v4))] [] σ := by
  intro n
  induction n with
  | zero => intro v3 v4 r3 r4 h; exact False.elim h
  | succ n ih =>
    intro v3 v4 r3 r4 h
    rw [wp_M_isClosed_L5] at h
    refine j_iload C d_M_isClosed_5 4 rfl ?_
    refine j_aload_n C d_M_isClosed_7 0 rfl rfl ?_
    refine j_getr (kf := 0) (m := 80) C d_M_isClosed_8 sh_79 rfl i_M rfl rfl fl_M_7 ?_
    refine j_iconst C d_M_isClosed_11 ?_
    refine j_iaload C d_M_isClosed_12 sh_80 (zIx (i := 1) (n := 455) rfl) ?_
    refine j_icmp_ge (tgt := 79) C d_M_isClosed_13 rfl r4 (hσ _ _) (fun c => ?_) (fun c => ?_)
    · have h := h.1 c
      refine j_iload_n C d_M_isClosed_79 3 rfl rfl ?_
      obtain ⟨g1, h⟩ := h
      exact j_zreturn C d_M_isClosed_80 g1 hσ ⟨rfl, h⟩
    · have h := h.2 c
      refine j_sipush C d_M_isClosed_16 rfl ?_
      refine j_iconst C d_M_isClosed_19 ?_
      refine j_iload C d_M_isClosed_20 4 rfl ?_
      refine j_imul C d_M_isClosed_22 ?_
      refine j_iadd C d_M_isClosed_23 ?_
      obtain ⟨g2, h⟩ := h
      refine j_istore (L' := [(5, .int (zI (315 + (3 * v4)))), (0, .ref (gad G 79)), (1, .int (zI v1)), (2, .int (zI v2)), (3, .int (zI v3)), (4, .int (zI v4))]) C d_M_isClosed_24 rfl rfl ?_
      refine j_iload_n C d_M_isClosed_26 4 rfl rfl ?_
      refine j_if_ne (tgt := 67) C d_M_isClosed_27 rfl r3 (fun c => ?_) (fun c => ?_)
      · have h := h.1 c
        refine j_sub (L' := [(0, .ref (gad G 79)), (1, .int (zI v1)), (2, .int (zI v2)), (4, .int (zI v4))]) [1, 2, 3, 5] rfl ?_
        refine w_M_isClosed_b67 C hσ r1 r2 ih v4 r4 h
      · have h := h.2 c
        refine j_aload_n C d_M_isClosed_30 1 rfl rfl ?_
        refine j_getr (kf := 0) (m := 80) C d_M_isClosed_31 sh_79 rfl i_M rfl rfl fl_M_7 ?_
        refine j_iload C d_M_isClosed_34 0 rfl ?_
        obtain ⟨g4, h⟩ := h
        refine j_iaload C d_M_isClosed_36 sh_80 g4 ?_
        refine j_iload_n C d_M_isClosed_37 2 rfl rfl ?_
        refine j_icmp_ne (tgt := 71) C d_M_isClosed_38 rfl (hσ _ _) r1 (fun c => ?_) (fun c => ?_)
        · have h := h.1 c
          refine j_sub (L' := [(0, .ref (gad G 79)), (1, .int (zI v1)), (2, .int (zI v2)), (4, .int (zI v4))]) [1, 2, 3, 5] rfl ?_
          refine w_M_isClosed_b71 C hσ r1 r2 ih v4 r4 h
        · have h := h.2 c
          refine j_iload_n C d_M_isClosed_41 3 rfl rfl ?_
          refine j_aload_n C d_M_isClosed_42 1 rfl rfl ?_
          refine j_getr (kf := 0) (m := 80) C d_M_isClosed_43 sh_79 rfl i_M rfl rfl fl_M_7 ?_
          refine j_iload C d_M_isClosed_46 0 rfl ?_
          refine j_iconst C d_M_isClosed_48 ?_
          refine j_iadd C d_M_isClosed_49 ?_
          obtain ⟨g5, h⟩ := h
          refine j_iaload C d_M_isClosed_50 sh_80 g5 ?_
          refine j_icmp_lt (tgt := 71) C d_M_isClosed_51 rfl r2 (hσ _ _) (fun c => ?_) (fun c => ?_)
          · have h := h.1 c
            refine j_sub (L' := [(0, .ref (gad G 79)), (1, .int (zI v1)), (2, .int (zI v2)), (4, .int (zI v4))]) [1, 2, 3, 5] rfl ?_
            refine w_M_isClosed_b71 C hσ r1 r2 ih v4 r4 h
          · have h := h.2 c
            refine j_iload_n C d_M_isClosed_54 3 rfl rfl ?_
            refine j_aload_n C d_M_isClosed_55 1 rfl rfl ?_
            refine j_getr (kf := 0) (m := 80) C d_M_isClosed_56 sh_79 rfl i_M rfl rfl fl_M_7 ?_
            refine j_iload C d_M_isClosed_59 0 rfl ?_
            refine j_iconst C d_M_isClosed_61 ?_
            refine j_iadd C d_M_isClosed_62 ?_
            obtain ⟨g6, h⟩ := h
            refine j_iaload C d_M_isClosed_63 sh_80 g6 ?_
            refine j_icmp_ge (tgt := 71) C d_M_isClosed_64 rfl r2 (hσ _ _) (fun c => ?_) (fun c => ?_)
            · have h := h.1 c
              refine j_sub (L' := [(0, .ref (gad G 79)), (1, .int (zI v1)), (2, .int (zI v2)), (4, .int (zI v4))]) [1, 2, 3, 5] rfl ?_
              refine w_M_isClosed_b71 C hσ r1 r2 ih v4 r4 h
            · have h := h.2 c
              refine j_sub (L' := [(0, .ref (gad G 79)), (1, .int (zI v1)), (2, .int (zI v2)), (4, .int (zI v4))]) [1, 2, 3, 5] rfl ?_
              refine w_M_isClosed_b67 C hσ r1 r2 ih v4 r4 h
set_option maxRecDepth 100000 in
set_option maxHeartbeats 4000000 in
theorem c_M_isClosed (l : Launch) (D : va_G) (ad : Nat → Nat) (ca : Nat → ClassId) {σ : zM} {v1 : Int} {v2 : Int} {Q : Int → Prop} (hσ : zRM σ) (r1 : zR v1) (r2 : zR v2) (h : wp_M_isClosed σ v1 v2 Q) : zCi l D ad ca y_M_isClosed b_M_isClosed 6 (some .boolean) (zrm 0 0) [.ref (ad 79), .int (zI v1), .int (zI v2)] σ (fun z u => σ = u ∧ Q z) := by
  refine zCi_of (by decide +kernel) (Nat.le_of_ble_eq_true rfl) ?_
  intro X G C hl hD had hca
  subst hl hD had hca
  have C : zC X G b_M_isClosed "GateRoadsModel" 6 (some .boolean) 0 0 := C
  show zJ X G (zQi X G (fun z u => σ = u ∧ Q z)) 6 0 [(0, .ref (gad G 79)), (1, .int (zI v1)), (2, .int (zI v2))] [] σ
  unfold wp_M_isClosed at h
  refine j_iconst C d_M_isClosed_0 ?_
  refine j_istore_n (L' := [(3, .int (zI 0)), (0, .ref (gad G 79)), (1, .int (zI v1)), (2, .int (zI v2))]) C d_M_isClosed_1 rfl rfl rfl ?_
  refine j_iconst C d_M_isClosed_2 ?_
  refine j_istore (L' := [(4, .int (zI 0)), (3, .int (zI 0)), (0, .ref (gad G 79)), (1, .int (zI v1)), (2, .int (zI v2))]) C d_M_isClosed_3 rfl rfl ?_
  obtain ⟨n7, h⟩ := h
  refine j_sub (L' := [(0, .ref (gad G 79)), (1, .int (zI v1)), (2, .int (zI v2)), (3, .int (zI 0)), (4, .int (zI 0))]) [2, 3, 4, 1, 0] rfl ?_
  refine w_M_isClosed_L5 C hσ r1 r2 n7 0 0 (zR_of (x := 0) rfl) (zR_of (x := 0) rfl) h
set_option maxRecDepth 100000 in
set_option maxHeartbeats 4000000 in
theorem w_M_whyNot_b46 {X : zX} {G : zG} (C : zC X G b_M_whyNot "GateRoadsModel" 5 (some .int) 2 47) {σ : zM} (hσ : zRM σ) {Q : Int → Prop} (v1 : Int) (v2 : Int) (r1 : zR v1) (r2 : zR v2) (h : wp_M_whyNot_b46 σ Q v1 v2) : zJ X G (zQi X G (fun z u => σ = u ∧ Q z)) 5 46 [(0, .ref (gad G 79)), (1, .int (zI v1)), (2, .int (zI v2))] [] σ := by
  unfold wp_M_whyNot_b46 at h
  refine j_aload_n C d_M_whyNot_46 0 rfl rfl ?_
  refine j_iload_n C d_M_whyNot_47 1 rfl rfl ?_
  refine j_iload_n C d_M_whyNot_48 2 rfl rfl ?_
  refine j_callV C d_M_whyNot_49 ml_M_88 mi_M_isClosed (c_M_isClosed (xl X) (gD G) (gad G) (gca G) (v1 := v1) (v2 := v2) hσ r1 r2 h) sh_79 rfl rfl rfl rfl rfl rfl rfl (fun z6 σ7 rz6 hσ7 h => ?_)
  obtain ⟨ez6, h⟩ := h; subst ez6
  refine j_if_eq (tgt := 57) C d_M_whyNot_52 rfl rz6 (fun c => ?_) (fun c => ?_)
  · have h := h.1 c
    refine j_iload_n C d_M_whyNot_57 2 rfl rfl ?_
    refine j_aload_n C d_M_whyNot_58 0 rfl rfl ?_
    refine j_iload_n C d_M_whyNot_59 1 rfl rfl ?_
    refine j_iconst C d_M_whyNot_60 ?_
    refine j_callV C d_M_whyNot_61 ml_M_67 mi_M_ofR (c_M_ofR (xl X) (gD G) (gad G) (gca G) (v1 := v1) (v2 := 2) hσ r1 (zR_of (x := 2) rfl) h) sh_79 rfl rfl rfl rfl rfl rfl rfl (fun z8 σ9 rz8 hσ9 h => ?_)
    obtain ⟨ez8, h⟩ := h; subst ez8
    refine j_iadd C d_M_whyNot_64 ?_
    refine j_sipush C d_M_whyNot_65 rfl ?_
    obtain ⟨g10, h⟩ := h
    refine j_icmp_le (tgt := 75) C d_M_whyNot_68 rfl g10 (zR_of (x := 2880) rfl) (fun c => ?_) (fun c => ?_)
    · have h := h.1 c
      refine j_iconst C d_M_whyNot_75 ?_
      exact j_ireturn C d_M_whyNot_76 (zR_of (x := 0) rfl) hσ ⟨rfl, h⟩
    · have h := h.2 c
      refine j_iconst C d_M_whyNot_71 ?_
      refine j_goto (tgt := 76) C d_M_whyNot_72 rfl ?_
      exact j_ireturn C d_M_whyNot_76 (zR_of (x := 5) rfl) hσ ⟨rfl, h⟩
  · have h := h.2 c
    refine j_iconst C d_M_whyNot_55 ?_
    exact j_ireturn C d_M_whyNot_56 (zR_of (x := 4) rfl) hσ ⟨rfl, h⟩
set_option maxRecDepth 100000 in
set_option maxHeartbeats 4000000 in
theorem c_M_whyNot (l : Launch) (D : va_G) (ad : Nat → Nat) (ca : Nat → ClassId) {σ : zM} {v1 : Int} {v2 : Int} {Q : Int → Prop} (hσ : zRM σ) (r1 : zR v1) (r2 : zR v2) (h : wp_M_whyNot σ v1 v2 Q) : zCi l D ad ca y_M_whyNot b_M_whyNot 5 (some .int) (zrm 2 47) [.ref (ad 79), .int (zI v1), .int (zI v2)] σ (fun z u => σ = u ∧ Q z) := by
  refine zCi_of (by decide +kernel) (Nat.le_of_ble_eq_true rfl) ?_
  intro X G C hl hD had hca
  subst hl hD had hca
  have C : zC X G b_M_whyNot "GateRoadsModel" 5 (some .int) 2 47 := C
  show zJ X G (zQi X G (fun z u => σ = u ∧ Q z)) 5 0 [(0, .ref (gad G 79)), (1, .int (zI v1)), (2, .int (zI v2))] [] σ
  unfold wp_M_whyNot at h
  refine j_iload_n C d_M_whyNot_0 2 rfl rfl ?_
  refine j_sipush C d_M_whyNot_1 rfl ?_
  obtain ⟨g1, h⟩ := h
  refine j_irem C d_M_whyNot_4 r2 g1 (zR_of (x := 1440) rfl) (by decide) ?_
  refine j_istore_n (L' := [(3, .int (zI (v2 % 1440))), (0, .ref (gad G 79)), (1, .int (zI v1)), (2, .int (zI v2))]) C d_M_whyNot_5 rfl rfl rfl ?_
  refine j_aload_n C d_M_whyNot_6 1 rfl rfl ?_
  refine j_iload_n C d_M_whyNot_7 2 rfl rfl ?_
  refine j_iload_n C d_M_whyNot_8 0 rfl rfl ?_
  refine j_callV C d_M_whyNot_9 ml_M_85 mi_M_spanEnd (c_M_spanEnd (xl X) (gD G) (gad G) (gca G) (v1 := v1) (v2 := v2 % 1440) hσ r1 (zMod_rg r2 g1 (zR_of (x := 1440) rfl) (by decide)) h) sh_79 rfl rfl rfl rfl rfl rfl rfl (fun z2 σ3 rz2 hσ3 h => ?_)
  obtain ⟨ez2, h⟩ := h; subst ez2
  refine j_istore (L' := [(4, .int (zI z2)), (3, .int (zI (v2 % 1440))), (0, .ref (gad G 79)), (1, .int (zI v1)), (2, .int (zI v2))]) C d_M_whyNot_12 rfl rfl ?_
  refine j_iload C d_M_whyNot_14 0 rfl ?_
  refine j_if_ne (tgt := 21) C d_M_whyNot_16 rfl rz2 (fun c => ?_) (fun c => ?_)
  · have h := h.1 c
    refine j_aload_n C d_M_whyNot_21 2 rfl rfl ?_
    refine j_iload_n C d_M_whyNot_22 3 rfl rfl ?_
    refine j_iconst C d_M_whyNot_23 ?_
    refine j_callV C d_M_whyNot_24 ml_M_67 mi_M_ofR (c_M_ofR (xl X) (gD G) (gad G) (gca G) (v1 := v1) (v2 := 3) hσ r1 (zR_of (x := 3) rfl) h) sh_79 rfl rfl rfl rfl rfl rfl rfl (fun z4 σ5 rz4 hσ5 h => ?_)
    obtain ⟨ez4, h⟩ := h; subst ez4
    refine j_iconst C d_M_whyNot_27 ?_
    refine j_icmp_ne (tgt := 46) C d_M_whyNot_28 rfl rz4 (zR_of (x := 1) rfl) (fun c => ?_) (fun c => ?_)
    · have h := h.1 c
      refine j_sub (L' := [(0, .ref (gad G 79)), (1, .int (zI v1)), (2, .int (zI v2))]) [2, 3, 4] rfl ?_
      refine w_M_whyNot_b46 C hσ v1 v2 r1 r2 h
    · have h := h.2 c
      refine j_iload_n C d_M_whyNot_31 1 rfl rfl ?_
      refine j_aload_n C d_M_whyNot_32 2 rfl rfl ?_
      refine j_iload_n C d_M_whyNot_33 3 rfl rfl ?_
      refine j_iconst C d_M_whyNot_34 ?_
      refine j_callV C d_M_whyNot_35 ml_M_67 mi_M_ofR (c_M_ofR (xl X) (gD G) (gad G) (gca G) (v1 := v1) (v2 := 2) hσ r1 (zR_of (x := 2) rfl) h) sh_79 rfl rfl rfl rfl rfl rfl rfl (fun z11 σ12 rz11 hσ12 h => ?_)
      obtain ⟨ez11, h⟩ := h; subst ez11
      refine j_iadd C d_M_whyNot_38 ?_
      refine j_iload C d_M_whyNot_39 0 rfl ?_
      obtain ⟨g13, h⟩ := h
      refine j_icmp_le (tgt := 46) C d_M_whyNot_41 rfl g13 rz2 (fun c => ?_) (fun c => ?_)
      · have h := h.1 c
        refine j_sub (L' := [(0, .ref (gad G 79)), (1, .int (zI v1)), (2, .int (zI v2))]) [2, 3, 4] rfl ?_
        refine w_M_whyNot_b46 C hσ v1 v2 r1 r2 h
      · have h := h.2 c
        refine j_iconst C d_M_whyNot_44 ?_
        exact j_ireturn C d_M_whyNot_45 (zR_of (x := 3) rfl) hσ ⟨rfl, h⟩
  · have h := h.2 c
    refine j_iconst C d_M_whyNot_19 ?_
    exact j_ireturn C d_M_whyNot_20 (zR_of (x := 2) rfl) hσ ⟨rfl, h⟩
