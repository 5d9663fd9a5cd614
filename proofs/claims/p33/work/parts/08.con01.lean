set_option maxRecDepth 100000 in
set_option maxHeartbeats 4000000 in
theorem c_X_count (l : Launch) (D : va_G) (ad : Nat → Nat) (ca : Nat → ClassId) {σ : zM} {v1 : Int} {Q : Int → Prop} (hσ : zRM σ) (r1 : zR v1) (h : wp_X_count σ v1 Q) : zCi l D ad ca y_X_count b_X_count 2 (some .int) (zrm 0 0) [.ref (ad 54), .int (zI v1)] σ (fun z u => σ = u ∧ Q z) := by
  refine zCi_of (by decide +kernel) (Nat.le_of_ble_eq_true rfl) ?_
  intro X G C hl hD had hca
  subst hl hD had hca
  have C : zC X G b_X_count "GateRoads" 2 (some .int) 0 0 := C
  show zJ X G (zQi X G (fun z u => σ = u ∧ Q z)) 2 0 [(0, .ref (gad G 54)), (1, .int (zI v1))] [] σ
  unfold wp_X_count at h
  refine j_iload_n C d_X_count_0 1 rfl rfl ?_
  have hc : v1 = 0 ∨ v1 = 1 ∨ v1 = 2 ∨ v1 = 3 ∨ v1 = 4 ∨ v1 = 5 ∨ (v1 < 0 ∨ 5 < v1) := by omega
  rcases hc with c | c | c | c | c | c | c
  · have h := h.1 c
    refine j_tableIn (tgt := 40) C d_X_count_1 r1 0 c rfl rfl rfl ?_
    refine j_aload_n C d_X_count_40 0 rfl rfl ?_
    refine j_getr (kf := 0) (m := 0) C d_X_count_41 sh_54 rfl i_X rfl rfl fl_X_12 ?_
    refine j_geti (kf := 5) (kI := 5) C d_X_count_44 sh_0 rfl i_S rfl rfl rfl fl_X_80 ?_
    exact j_ireturn C d_X_count_47 (hσ _ _) hσ ⟨rfl, h⟩
  · have h := h.2.1 c
    refine j_tableIn (tgt := 48) C d_X_count_1 r1 1 c rfl rfl rfl ?_
    refine j_aload_n C d_X_count_48 0 rfl rfl ?_
    refine j_getr (kf := 0) (m := 0) C d_X_count_49 sh_54 rfl i_X rfl rfl fl_X_12 ?_
    refine j_geti (kf := 6) (kI := 6) C d_X_count_52 sh_0 rfl i_S rfl rfl rfl fl_X_109 ?_
    exact j_ireturn C d_X_count_55 (hσ _ _) hσ ⟨rfl, h⟩
  · have h := h.2.2.1 c
    refine j_tableIn (tgt := 56) C d_X_count_1 r1 2 c rfl rfl rfl ?_
    refine j_aload_n C d_X_count_56 0 rfl rfl ?_
    refine j_getr (kf := 0) (m := 0) C d_X_count_57 sh_54 rfl i_X rfl rfl fl_X_12 ?_
    refine j_geti (kf := 7) (kI := 7) C d_X_count_60 sh_0 rfl i_S rfl rfl rfl fl_X_122 ?_
    exact j_ireturn C d_X_count_63 (hσ _ _) hσ ⟨rfl, h⟩
  · have h := h.2.2.2.1 c
    refine j_tableIn (tgt := 64) C d_X_count_1 r1 3 c rfl rfl rfl ?_
    refine j_aload_n C d_X_count_64 0 rfl rfl ?_
    refine j_geti (kf := 5) (kI := 5) C d_X_count_65 sh_54 rfl i_X rfl rfl rfl fl_X_168 ?_
    exact j_ireturn C d_X_count_68 (hσ _ _) hσ ⟨rfl, h⟩
  · have h := h.2.2.2.2.1 c
    refine j_tableIn (tgt := 69) C d_X_count_1 r1 4 c rfl rfl rfl ?_
    refine j_aload_n C d_X_count_69 0 rfl rfl ?_
    refine j_getr (kf := 6) (m := 58) C d_X_count_70 sh_54 rfl i_X rfl rfl fl_X_30 ?_
    refine j_geti (kf := 1) (kI := 1) C d_X_count_73 sh_58 rfl i_P rfl rfl rfl fl_X_171 ?_
    exact j_ireturn C d_X_count_76 (hσ _ _) hσ ⟨rfl, h⟩
  · have h := h.2.2.2.2.2.1 c
    refine j_tableIn (tgt := 77) C d_X_count_1 r1 5 c rfl rfl rfl ?_
    refine j_aload_n C d_X_count_77 0 rfl rfl ?_
    refine j_geti (kf := 2) (kI := 2) C d_X_count_78 sh_54 rfl i_X rfl rfl rfl fl_X_174 ?_
    exact j_ireturn C d_X_count_81 (hσ _ _) hσ ⟨rfl, h⟩
  · have h := h.2.2.2.2.2.2 c
    refine j_tableOut (tgt := 82) C d_X_count_1 r1 c rfl ?_
    refine j_bipush C d_X_count_82 rfl ?_
    exact j_ireturn C d_X_count_84 (zR_of (x := (-2)) rfl) hσ ⟨rfl, h⟩
set_option maxRecDepth 100000 in
set_option maxHeartbeats 4000000 in
theorem c_X_within (l : Launch) (D : va_G) (ad : Nat → Nat) (ca : Nat → ClassId) {σ : zM} {v0 : Int} {v1 : Int} {v2 : Int} {Q : Int → Prop} (hσ : zRM σ) (r0 : zR v0) (r1 : zR v1) (r2 : zR v2) (h : wp_X_within σ v0 v1 v2 Q) : zCi l D ad ca y_X_within b_X_within 3 (some .boolean) (zrm 0 0) [.int (zI v0), .int (zI v1), .int (zI v2)] σ (fun z u => σ = u ∧ Q z) := by
  refine zCi_of (by decide +kernel) (Nat.le_of_ble_eq_true rfl) ?_
  intro X G C hl hD had hca
  subst hl hD had hca
  have C : zC X G b_X_within "GateRoads" 3 (some .boolean) 0 0 := C
  show zJ X G (zQi X G (fun z u => σ = u ∧ Q z)) 3 0 [(0, .int (zI v0)), (1, .int (zI v1)), (2, .int (zI v2))] [] σ
  unfold wp_X_within at h
  refine j_iload_n C d_X_within_0 0 rfl rfl ?_
  refine j_iload_n C d_X_within_1 1 rfl rfl ?_
  refine j_icmp_lt (tgt := 14) C d_X_within_2 rfl r0 r1 (fun c => ?_) (fun c => ?_)
  · have h := h.1 c
    refine j_iconst C d_X_within_14 ?_
    exact j_zreturn C d_X_within_15 (by decide) hσ ⟨rfl, h⟩
  · have h := h.2 c
    refine j_iload_n C d_X_within_5 0 rfl rfl ?_
    refine j_iload_n C d_X_within_6 2 rfl rfl ?_
    refine j_icmp_gt (tgt := 14) C d_X_within_7 rfl r0 r2 (fun c => ?_) (fun c => ?_)
    · have h := h.1 c
      refine j_iconst C d_X_within_14 ?_
      exact j_zreturn C d_X_within_15 (by decide) hσ ⟨rfl, h⟩
    · have h := h.2 c
      refine j_iconst C d_X_within_10 ?_
      refine j_goto (tgt := 15) C d_X_within_11 rfl ?_
      exact j_zreturn C d_X_within_15 (by decide) hσ ⟨rfl, h⟩
set_option maxRecDepth 100000 in
set_option maxHeartbeats 4000000 in
theorem c_X_isPlace (l : Launch) (D : va_G) (ad : Nat → Nat) (ca : Nat → ClassId) {σ : zM} {v0 : Int} {Q : Int → Prop} (hσ : zRM σ) (r0 : zR v0) (h : wp_X_isPlace σ v0 Q) : zCi l D ad ca y_X_isPlace b_X_isPlace 1 (some .boolean) (zrm 1 22) [.int (zI v0)] σ (fun z u => σ = u ∧ Q z) := by
  refine zCi_of (by decide +kernel) (Nat.le_of_ble_eq_true rfl) ?_
  intro X G C hl hD had hca
  subst hl hD had hca
  have C : zC X G b_X_isPlace "GateRoads" 1 (some .boolean) 1 22 := C
  show zJ X G (zQi X G (fun z u => σ = u ∧ Q z)) 1 0 [(0, .int (zI v0))] [] σ
  unfold wp_X_isPlace at h
  refine j_iload_n C d_X_isPlace_0 0 rfl rfl ?_
  refine j_iconst C d_X_isPlace_1 ?_
  refine j_bipush C d_X_isPlace_2 rfl ?_
  refine j_callS C d_X_isPlace_4 ml_X_69 ms_X_within (c_X_within (xl X) (gD G) (gad G) (gca G) (v0 := v0) (v1 := 0) (v2 := 7) hσ r0 (zR_of (x := 0) rfl) (zR_of (x := 7) rfl) h) rfl rfl rfl rfl rfl (fun z1 σ2 rz1 hσ2 h => ?_)
  obtain ⟨ez1, h⟩ := h; subst ez1
  obtain ⟨g3, h⟩ := h
  exact j_zreturn C d_X_isPlace_7 g3 hσ ⟨rfl, h⟩
set_option maxRecDepth 100000 in
set_option maxHeartbeats 4000000 in
theorem c_S_ofRoads (l : Launch) (D : va_G) (ad : Nat → Nat) (ca : Nat → ClassId) {σ : zM} {v1 : Int} {v2 : Int} {Q : Int → Prop} (hσ : zRM σ) (r1 : zR v1) (r2 : zR v2) (h : wp_S_ofRoads σ v1 v2 Q) : zCi l D ad ca y_S_ofRoads b_S_ofRoads 3 (some .int) (zrm 0 0) [.ref (ad 0), .int (zI v1), .int (zI v2)] σ (fun z u => σ = u ∧ Q z) := by
  refine zCi_of (by decide +kernel) (Nat.le_of_ble_eq_true rfl) ?_
  intro X G C hl hD had hca
  subst hl hD had hca
  have C : zC X G b_S_ofRoads "GateRoads$State" 3 (some .int) 0 0 := C
  show zJ X G (zQi X G (fun z u => σ = u ∧ Q z)) 3 0 [(0, .ref (gad G 0)), (1, .int (zI v1)), (2, .int (zI v2))] [] σ
  unfold wp_S_ofRoads at h
  refine j_aload_n C d_S_ofRoads_0 0 rfl rfl ?_
  refine j_getr (kf := 1) (m := 2) C d_S_ofRoads_1 sh_0 rfl i_S rfl rfl fl_S_15 ?_
  refine j_iload_n C d_S_ofRoads_4 1 rfl rfl ?_
  refine j_bipush C d_S_ofRoads_5 rfl ?_
  refine j_imul C d_S_ofRoads_7 ?_
  refine j_iload_n C d_S_ofRoads_8 2 rfl rfl ?_
  refine j_iadd C d_S_ofRoads_9 ?_
  obtain ⟨g1, h⟩ := h
  refine j_iaload C d_S_ofRoads_10 sh_2 g1 ?_
  exact j_ireturn C d_S_ofRoads_11 (hσ _ _) hσ ⟨rfl, h⟩
set_option maxRecDepth 100000 in
set_option maxHeartbeats 4000000 in
theorem w_S_roadsWith_b32 {X : zX} {G : zG} (C : zC X G b_S_roadsWith "GateRoads$State" 5 (some .int) 1 22) {σ : zM} {v1 : Int} {v2 : Int} (hσ : zRM σ) (r1 : zR v1) (r2 : zR v2) {Q : Int → Prop} {k5 : Int → Int → Prop} (hk5 : ∀ (v3 : Int) (v4 : Int), zR v3 → zR v4 → k5 v3 v4 → zJ X G (zQi X G (fun z u => σ = u ∧ Q z)) 5 5 [(0, .ref (gad G 0)), (1, .int (zI v1)), (2, .int (zI v2)), (3, .int (zI v3)), (4, .int (zI v4))] [] σ) (v3 : Int) (v4 : Int) (r3 : zR v3) (r4 : zR v4) (h : wp_S_roadsWith_b32 σ v1 v2 k5 Q v3 v4) : zJ X G (zQi X G (fun z u => σ = u ∧ Q z)) 5 32 [(0, .ref (gad G 0)), (1, .int (zI v1)), (2, .int (zI v2)), (3, .int (zI v3)), (4, .int (zI v4))] [] σ := by
  unfold wp_S_roadsWith_b32 at h
  obtain ⟨g3, h⟩ := h
  refine j_iinc (L' := [(4, .int (zI (v4 + 1))), (0, .ref (gad G 0)), (1, .int (zI v1)), (2, .int (zI v2)), (3, .int (zI v3))]) C d_S_roadsWith_32 4 rfl rfl rfl ?_
  refine j_goto (tgt := 5) C d_S_roadsWith_35 rfl ?_
  refine j_sub (L' := [(0, .ref (gad G 0)), (1, .int (zI v1)), (2, .int (zI v2)), (3, .int (zI v3)), (4, .int (zI (v4 + 1)))]) [1, 2, 3, 4, 0] rfl ?_
  exact hk5 v3 (v4 + 1) r3 g3 h
set_option maxRecDepth 100000 in
set_option maxHeartbeats 4000000 in
theorem w_S_roadsWith_L5 {X : zX} {G : zG} (C : zC X G b_S_roadsWith "GateRoads$State" 5 (some .int) 1 22) {σ : zM} {v1 : Int} {v2 : Int} (hσ : zRM σ) (r1 : zR v1) (r2 : zR v2) {Q : Int → Prop} : ∀ (n : Nat) (v3 : Int) (v4 : Int) (r3 : zR v3) (r4 : zR v4), wp_S_roadsWith_L5 σ v1 v2 Q n v3 v4 → zJ X G (zQi X G (fun z u => σ = u ∧ Q z)) 5 5 [(0, .ref (gad G 0)), (1, .int (zI v1)), (2, .int (zI v2)), (3, .int (zI v3)), (4, .int (zI v4))] [] σ := by
  intro n
  induction n with
  | zero => intro v3 v4 r3 r4 h; exact False.elim h
  | succ n ih =>
    intro v3 v4 r3 r4 h
    rw [wp_S_roadsWith_L5] at h
    refine j_iload C d_S_roadsWith_5 4 rfl ?_
    refine j_aload_n C d_S_roadsWith_7 0 rfl rfl ?_
    refine j_geti (kf := 5) (kI := 5) C d_S_roadsWith_8 sh_0 rfl i_S rfl rfl rfl fl_S_33 ?_
    refine j_icmp_ge (tgt := 38) C d_S_roadsWith_11 rfl r4 (hσ _ _) (fun c => ?_) (fun c => ?_)
    · have h := h.1 c
      refine j_iload_n C d_S_roadsWith_38 3 rfl rfl ?_
      exact j_ireturn C d_S_roadsWith_39 r3 hσ ⟨rfl, h⟩
    · have h := h.2 c
      refine j_aload_n C d_S_roadsWith_14 0 rfl rfl ?_
      refine j_iload C d_S_roadsWith_15 4 rfl ?_
      refine j_iload_n C d_S_roadsWith_17 1 rfl rfl ?_
      refine j_callV C d_S_roadsWith_18 ml_S_57 mi_S_ofRoads (c_S_ofRoads (xl X) (gD G) (gad G) (gca G) (v1 := v4) (v2 := v1) hσ r4 r1 h) sh_0 rfl rfl rfl rfl rfl rfl rfl (fun z1 σ2 rz1 hσ2 h => ?_)
      obtain ⟨ez1, h⟩ := h; subst ez1
      refine j_iload_n C d_S_roadsWith_21 2 rfl rfl ?_
      refine j_icmp_ne (tgt := 32) C d_S_roadsWith_22 rfl rz1 r2 (fun c => ?_) (fun c => ?_)
      · have h := h.1 c
        refine w_S_roadsWith_b32 C hσ r1 r2 ih v3 v4 r3 r4 h
      · have h := h.2 c
        refine j_iload_n C d_S_roadsWith_25 3 rfl rfl ?_
        refine j_iconst C d_S_roadsWith_26 ?_
        refine j_iload C d_S_roadsWith_27 4 rfl ?_
        refine j_ishl C d_S_roadsWith_29 ?_
        refine j_ior C d_S_roadsWith_30 ?_
        refine j_istore_n (L' := [(3, .int (zI (zOr v3 (zShl 1 v4)))), (0, .ref (gad G 0)), (1, .int (zI v1)), (2, .int (zI v2)), (4, .int (zI v4))]) C d_S_roadsWith_31 rfl rfl rfl ?_
        refine j_sub (L' := [(0, .ref (gad G 0)), (1, .int (zI v1)), (2, .int (zI v2)), (3, .int (zI (zOr v3 (zShl 1 v4)))), (4, .int (zI v4))]) [1, 2, 3, 0, 4] rfl ?_
        refine w_S_roadsWith_b32 C hσ r1 r2 ih (zOr v3 (zShl 1 v4)) v4 (zOr_rg _ _) r4 h
set_option maxRecDepth 100000 in
set_option maxHeartbeats 4000000 in
theorem c_S_roadsWith (l : Launch) (D : va_G) (ad : Nat → Nat) (ca : Nat → ClassId) {σ : zM} {v1 : Int} {v2 : Int} {Q : Int → Prop} (hσ : zRM σ) (r1 : zR v1) (r2 : zR v2) (h : wp_S_roadsWith σ v1 v2 Q) : zCi l D ad ca y_S_roadsWith b_S_roadsWith 5 (some .int) (zrm 1 22) [.ref (ad 0), .int (zI v1), .int (zI v2)] σ (fun z u => σ = u ∧ Q z) := by
  refine zCi_of (by decide +kernel) (Nat.le_of_ble_eq_true rfl) ?_
  intro X G C hl hD had hca
  subst hl hD had hca
  have C : zC X G b_S_roadsWith "GateRoads$State" 5 (some .int) 1 22 := C
  show zJ X G (zQi X G (fun z u => σ = u ∧ Q z)) 5 0 [(0, .ref (gad G 0)), (1, .int (zI v1)), (2, .int (zI v2))] [] σ
  unfold wp_S_roadsWith at h
  refine j_iconst C d_S_roadsWith_0 ?_
  refine j_istore_n (L' := [(3, .int (zI 0)), (0, .ref (gad G 0)), (1, .int (zI v1)), (2, .int (zI v2))]) C d_S_roadsWith_1 rfl rfl rfl ?_
  refine j_iconst C d_S_roadsWith_2 ?_
  refine j_istore (L' := [(4, .int (zI 0)), (3, .int (zI 0)), (0, .ref (gad G 0)), (1, .int (zI v1)), (2, .int (zI v2))]) C d_S_roadsWith_3 rfl rfl ?_
  obtain ⟨n4, h⟩ := h
  refine j_sub (L' := [(0, .ref (gad G 0)), (1, .int (zI v1)), (2, .int (zI v2)), (3, .int (zI 0)), (4, .int (zI 0))]) [2, 3, 4, 1, 0] rfl ?_
  refine w_S_roadsWith_L5 C hσ r1 r2 n4 0 0 (zR_of (x := 0) rfl) (zR_of (x := 0) rfl) h
set_option maxRecDepth 100000 in
set_option maxHeartbeats 4000000 in
theorem c_S_ofTravellers (l : Launch) (D : va_G) (ad : Nat → Nat) (ca : Nat → ClassId) {σ : zM} {v1 : Int} {v2 : Int} {Q : Int → Prop} (hσ : zRM σ) (r1 : zR v1) (r2 : zR v2) (h : wp_S_ofTravellers σ v1 v2 Q) : zCi l D ad ca y_S_ofTravellers b_S_ofTravellers 3 (some .int) (zrm 0 0) [.ref (ad 0), .int (zI v1), .int (zI v2)] σ (fun z u => σ = u ∧ Q z) := by
  refine zCi_of (by decide +kernel) (Nat.le_of_ble_eq_true rfl) ?_
  intro X G C hl hD had hca
  subst hl hD had hca
  have C : zC X G b_S_ofTravellers "GateRoads$State" 3 (some .int) 0 0 := C
  show zJ X G (zQi X G (fun z u => σ = u ∧ Q z)) 3 0 [(0, .ref (gad G 0)), (1, .int (zI v1)), (2, .int (zI v2))] [] σ
  unfold wp_S_ofTravellers at h
  refine j_aload_n C d_S_ofTravellers_0 0 rfl rfl ?_
  refine j_getr (kf := 4) (m := 5) C d_S_ofTravellers_1 sh_0 rfl i_S rfl rfl fl_S_24 ?_
  refine j_iload_n C d_S_ofTravellers_4 1 rfl rfl ?_
  refine j_bipush C d_S_ofTravellers_5 rfl ?_
  refine j_imul C d_S_ofTravellers_7 ?_
  refine j_iload_n C d_S_ofTravellers_8 2 rfl rfl ?_
  refine j_iadd C d_S_ofTravellers_9 ?_
  obtain ⟨g1, h⟩ := h
  refine j_iaload C d_S_ofTravellers_10 sh_5 g1 ?_
  exact j_ireturn C d_S_ofTravellers_11 (hσ _ _) hσ ⟨rfl, h⟩
set_option maxRecDepth 100000 in
set_option maxHeartbeats 4000000 in
theorem w_S_travellersAt_b28 {X : zX} {G : zG} (C : zC X G b_S_travellersAt "GateRoads$State" 4 (some .int) 1 22) {σ : zM} {v1 : Int} (hσ : zRM σ) (r1 : zR v1) {Q : Int → Prop} {k4 : Int → Int → Prop} (hk4 : ∀ (v2 : Int) (v3 : Int), zR v2 → zR v3 → k4 v2 v3 → zJ X G (zQi X G (fun z u => σ = u ∧ Q z)) 4 4 [(0, .ref (gad G 0)), (1, .int (zI v1)), (2, .int (zI v2)), (3, .int (zI v3))] [] σ) (v2 : Int) (v3 : Int) (r2 : zR v2) (r3 : zR v3) (h : wp_S_travellersAt_b28 σ v1 k4 Q v2 v3) : zJ X G (zQi X G (fun z u => σ = u ∧ Q z)) 4 28 [(0, .ref (gad G 0)), (1, .int (zI v1)), (2, .int (zI v2)), (3, .int (zI v3))] [] σ := by
  unfold wp_S_travellersAt_b28 at h
  obtain ⟨g3, h⟩ := h
  refine j_iinc (L' := [(3, .int (zI (v3 + 1))), (0, .ref (gad G 0)), (1, .int (zI v1)), (2, .int (zI v2))]) C d_S_travellersAt_28 3 rfl rfl rfl ?_
  refine j_goto (tgt := 4) C d_S_travellersAt_31 rfl ?_
  refine j_sub (L' := [(0, .ref (gad G 0)), (1, .int (zI v1)), (2, .int (zI v2)), (3, .int (zI (v3 + 1)))]) [1, 2, 3, 0] rfl ?_
  exact hk4 v2 (v3 + 1) r2 g3 h
set_option maxRecDepth 100000 in
set_option maxHeartbeats 4000000 in
theorem w_S_travellersAt_L4 {X : zX} {G : zG} (C : zC X G b_S_travellersAt "GateRoads$State" 4 (some .int) 1 22) {σ : zM} {v1 : Int} (hσ : zRM σ) (r1 : zR v1) {Q : Int → Prop} : ∀ (n : Nat) (v2 : Int) (v3 : Int) (r2 : zR v2) (r3 : zR v3), wp_S_travellersAt_L4 σ v1 Q n v2 v3 → zJ X G (zQi X G (fun z u => σ = u ∧ Q z)) 4 4 [(0, .ref (gad G 0)), (1, .int (zI v1)), (2, .int (zI v2)), (3, .int (zI v3))] [] σ := by
  intro n
  induction n with
  | zero => intro v2 v3 r2 r3 h; exact False.elim h
  | succ n ih =>
    intro v2 v3 r2 r3 h
    rw [wp_S_travellersAt_L4] at h
    refine j_iload_n C d_S_travellersAt_4 3 rfl rfl ?_
    refine j_aload_n C d_S_travellersAt_5 0 rfl rfl ?_
    refine j_geti (kf := 7) (kI := 7) C d_S_travellersAt_6 sh_0 rfl i_S rfl rfl rfl fl_S_40 ?_
    refine j_icmp_ge (tgt := 34) C d_S_travellersAt_9 rfl r3 (hσ _ _) (fun c => ?_) (fun c => ?_)
    · have h := h.1 c
      refine j_iload_n C d_S_travellersAt_34 2 rfl rfl ?_
      exact j_ireturn C d_S_travellersAt_35 r2 hσ ⟨rfl, h⟩
    · have h := h.2 c
      refine j_aload_n C d_S_travellersAt_12 0 rfl rfl ?_
      refine j_iload_n C d_S_travellersAt_13 3 rfl rfl ?_
      refine j_iconst C d_S_travellersAt_14 ?_
      refine j_callV C d_S_travellersAt_15 ml_S_67 mi_S_ofTravellers (c_S_ofTravellers (xl X) (gD G) (gad G) (gca G) (v1 := v3) (v2 := 0) hσ r3 (zR_of (x := 0) rfl) h) sh_0 rfl rfl rfl rfl rfl rfl rfl (fun z1 σ2 rz1 hσ2 h => ?_)
      obtain ⟨ez1, h⟩ := h; subst ez1
      refine j_iload_n C d_S_travellersAt_18 1 rfl rfl ?_
      refine j_icmp_ne (tgt := 28) C d_S_travellersAt_19 rfl rz1 r1 (fun c => ?_) (fun c => ?_)
      · have h := h.1 c
        refine w_S_travellersAt_b28 C hσ r1 ih v2 v3 r2 r3 h
      · have h := h.2 c
        refine j_iload_n C d_S_travellersAt_22 2 rfl rfl ?_
        refine j_iconst C d_S_travellersAt_23 ?_
        refine j_iload_n C d_S_travellersAt_24 3 rfl rfl ?_
        refine j_ishl C d_S_travellersAt_25 ?_
        refine j_ior C d_S_travellersAt_26 ?_
        refine j_istore_n (L' := [(2, .int (zI (zOr v2 (zShl 1 v3)))), (0, .ref (gad G 0)), (1, .int (zI v1)), (3, .int (zI v3))]) C d_S_travellersAt_27 rfl rfl rfl ?_
        refine j_sub (L' := [(0, .ref (gad G 0)), (1, .int (zI v1)), (2, .int (zI (zOr v2 (zShl 1 v3)))), (3, .int (zI v3))]) [1, 2, 0, 3] rfl ?_
        refine w_S_travellersAt_b28 C hσ r1 ih (zOr v2 (zShl 1 v3)) v3 (zOr_rg _ _) r3 h
set_option maxRecDepth 100000 in
set_option maxHeartbeats 4000000 in
theorem c_S_travellersAt (l : Launch) (D : va_G) (ad : Nat → Nat) (ca : Nat → ClassId) {σ : zM} {v1 : Int} {Q : Int → Prop} (hσ : zRM σ) (r1 : zR v1) (h : wp_S_travellersAt σ v1 Q) : zCi l D ad ca y_S_travellersAt b_S_travellersAt 4 (some .int) (zrm 1 22) [.ref (ad 0), .int (zI v1)] σ (fun z u => σ = u ∧ Q z) := by
  refine zCi_of (by decide +kernel) (Nat.le_of_ble_eq_true rfl) ?_
  intro X G C hl hD had hca
  subst hl hD had hca
  have C : zC X G b_S_travellersAt "GateRoads$State" 4 (some .int) 1 22 := C
  show zJ X G (zQi X G (fun z u => σ = u ∧ Q z)) 4 0 [(0, .ref (gad G 0)), (1, .int (zI v1))] [] σ
  unfold wp_S_travellersAt at h
  refine j_iconst C d_S_travellersAt_0 ?_
  refine j_istore_n (L' := [(2, .int (zI 0)), (0, .ref (gad G 0)), (1, .int (zI v1))]) C d_S_travellersAt_1 rfl rfl rfl ?_
  refine j_iconst C d_S_travellersAt_2 ?_
  refine j_istore_n (L' := [(3, .int (zI 0)), (2, .int (zI 0)), (0, .ref (gad G 0)), (1, .int (zI v1))]) C d_S_travellersAt_3 rfl rfl rfl ?_
  obtain ⟨n4, h⟩ := h
  refine j_sub (L' := [(0, .ref (gad G 0)), (1, .int (zI v1)), (2, .int (zI 0)), (3, .int (zI 0))]) [2, 3, 1, 0] rfl ?_
  refine w_S_travellersAt_L4 C hσ r1 n4 0 0 (zR_of (x := 0) rfl) (zR_of (x := 0) rfl) h
set_option maxRecDepth 100000 in
set_option maxHeartbeats 4000000 in
theorem c_S_ofRooms (l : Launch) (D : va_G) (ad : Nat → Nat) (ca : Nat → ClassId) {σ : zM} {v1 : Int} {v2 : Int} {Q : Int → Prop} (hσ : zRM σ) (r1 : zR v1) (r2 : zR v2) (h : wp_S_ofRooms σ v1 v2 Q) : zCi l D ad ca y_S_ofRooms b_S_ofRooms 3 (some .int) (zrm 0 0) [.ref (ad 0), .int (zI v1), .int (zI v2)] σ (fun z u => σ = u ∧ Q z) := by
  refine zCi_of (by decide +kernel) (Nat.le_of_ble_eq_true rfl) ?_
  intro X G C hl hD had hca
  subst hl hD had hca
  have C : zC X G b_S_ofRooms "GateRoads$State" 3 (some .int) 0 0 := C
  show zJ X G (zQi X G (fun z u => σ = u ∧ Q z)) 3 0 [(0, .ref (gad G 0)), (1, .int (zI v1)), (2, .int (zI v2))] [] σ
  unfold wp_S_ofRooms at h
  refine j_aload_n C d_S_ofRooms_0 0 rfl rfl ?_
  refine j_getr (kf := 0) (m := 1) C d_S_ofRooms_1 sh_0 rfl i_S rfl rfl fl_S_9 ?_
  refine j_iload_n C d_S_ofRooms_4 1 rfl rfl ?_
  refine j_iconst C d_S_ofRooms_5 ?_
  refine j_imul C d_S_ofRooms_6 ?_
  refine j_iload_n C d_S_ofRooms_7 2 rfl rfl ?_
  refine j_iadd C d_S_ofRooms_8 ?_
  obtain ⟨g1, h⟩ := h
  refine j_iaload C d_S_ofRooms_9 sh_1 g1 ?_
  exact j_ireturn C d_S_ofRooms_10 (hσ _ _) hσ ⟨rfl, h⟩
set_option maxRecDepth 100000 in
set_option maxHeartbeats 4000000 in
theorem c_X_ofPlace (l : Launch) (D : va_G) (ad : Nat → Nat) (ca : Nat → ClassId) {σ : zM} {v1 : Int} {v2 : Int} {Q : Int → Prop} (hσ : zRM σ) (r1 : zR v1) (r2 : zR v2) (h : wp_X_ofPlace σ v1 v2 Q) : zCi l D ad ca y_X_ofPlace b_X_ofPlace 3 (some .int) (zrm 2 46) [.ref (ad 54), .int (zI v1), .int (zI v2)] σ (fun z u => σ = u ∧ Q z) := by
  refine zCi_of (by decide +kernel) (Nat.le_of_ble_eq_true rfl) ?_
  intro X G C hl hD had hca
  subst hl hD had hca
  have C : zC X G b_X_ofPlace "GateRoads" 3 (some .int) 2 46 := C
  show zJ X G (zQi X G (fun z u => σ = u ∧ Q z)) 3 0 [(0, .ref (gad G 54)), (1, .int (zI v1)), (2, .int (zI v2))] [] σ
  unfold wp_X_ofPlace at h
  refine j_iload_n C d_X_ofPlace_0 1 rfl rfl ?_
  refine j_callS C d_X_ofPlace_1 ml_X_65 ms_X_isPlace (c_X_isPlace (xl X) (gD G) (gad G) (gca G) (v0 := v1) hσ r1 h) rfl rfl rfl rfl rfl (fun z1 σ2 rz1 hσ2 h => ?_)
  obtain ⟨ez1, h⟩ := h; subst ez1
  refine j_if_ne (tgt := 9) C d_X_ofPlace_4 rfl rz1 (fun c => ?_) (fun c => ?_)
  · have h := h.1 c
    refine j_iload_n C d_X_ofPlace_9 2 rfl rfl ?_
    refine j_iconst C d_X_ofPlace_10 ?_
    refine j_iconst C d_X_ofPlace_11 ?_
    refine j_callS C d_X_ofPlace_12 ml_X_69 ms_X_within (c_X_within (xl X) (gD G) (gad G) (gca G) (v0 := v2) (v1 := 0) (v2 := 5) hσ r2 (zR_of (x := 0) rfl) (zR_of (x := 5) rfl) h) rfl rfl rfl rfl rfl (fun z3 σ4 rz3 hσ4 h => ?_)
    obtain ⟨ez3, h⟩ := h; subst ez3
    refine j_if_ne (tgt := 21) C d_X_ofPlace_15 rfl rz3 (fun c => ?_) (fun c => ?_)
    · have h := h.1 c
      refine j_iload_n C d_X_ofPlace_21 2 rfl rfl ?_
      refine j_iconst C d_X_ofPlace_22 ?_
      refine j_icmp_ne (tgt := 36) C d_X_ofPlace_23 rfl r2 (zR_of (x := 3) rfl) (fun c => ?_) (fun c => ?_)
      · have h := h.1 c
        refine j_iload_n C d_X_ofPlace_36 2 rfl rfl ?_
        refine j_iconst C d_X_ofPlace_37 ?_
        refine j_icmp_ne (tgt := 51) C d_X_ofPlace_38 rfl r2 (zR_of (x := 4) rfl) (fun c => ?_) (fun c => ?_)
        · have h := h.1 c
          refine j_iload_n C d_X_ofPlace_51 2 rfl rfl ?_
          refine j_iconst C d_X_ofPlace_52 ?_
          refine j_icmp_ne (tgt := 65) C d_X_ofPlace_53 rfl r2 (zR_of (x := 5) rfl) (fun c => ?_) (fun c => ?_)
          · have h := h.1 c
            refine j_aload_n C d_X_ofPlace_65 0 rfl rfl ?_
            refine j_getr (kf := 0) (m := 0) C d_X_ofPlace_66 sh_54 rfl i_X rfl rfl fl_X_12 ?_
            refine j_iload_n C d_X_ofPlace_69 1 rfl rfl ?_
            refine j_iload_n C d_X_ofPlace_70 2 rfl rfl ?_
            refine j_callV C d_X_ofPlace_71 ml_X_153 mi_S_ofRooms (c_S_ofRooms (xl X) (gD G) (gad G) (gca G) (v1 := v1) (v2 := v2) hσ r1 r2 h) sh_0 rfl rfl rfl rfl rfl rfl rfl (fun z5 σ6 rz5 hσ6 h => ?_)
            obtain ⟨ez5, h⟩ := h; subst ez5
            exact j_ireturn C d_X_ofPlace_74 rz5 hσ ⟨rfl, h⟩
          · have h := h.2 c
            refine j_aload_n C d_X_ofPlace_56 0 rfl rfl ?_
            refine j_getr (kf := 0) (m := 0) C d_X_ofPlace_57 sh_54 rfl i_X rfl rfl fl_X_12 ?_
            refine j_iload_n C d_X_ofPlace_60 1 rfl rfl ?_
            refine j_callV C d_X_ofPlace_61 ml_X_150 mi_S_travellersAt (c_S_travellersAt (xl X) (gD G) (gad G) (gca G) (v1 := v1) hσ r1 h) sh_0 rfl rfl rfl rfl rfl rfl rfl (fun z7 σ8 rz7 hσ8 h => ?_)
            obtain ⟨ez7, h⟩ := h; subst ez7
            exact j_ireturn C d_X_ofPlace_64 rz7 hσ ⟨rfl, h⟩
        · have h := h.2 c
          refine j_aload_n C d_X_ofPlace_41 0 rfl rfl ?_
          refine j_getr (kf := 0) (m := 0) C d_X_ofPlace_42 sh_54 rfl i_X rfl rfl fl_X_12 ?_
          refine j_iconst C d_X_ofPlace_45 ?_
          refine j_iload_n C d_X_ofPlace_46 1 rfl rfl ?_
          refine j_callV C d_X_ofPlace_47 ml_X_147 mi_S_roadsWith (c_S_roadsWith (xl X) (gD G) (gad G) (gca G) (v1 := 1) (v2 := v1) hσ (zR_of (x := 1) rfl) r1 h) sh_0 rfl rfl rfl rfl rfl rfl rfl (fun z9 σ10 rz9 hσ10 h => ?_)
          obtain ⟨ez9, h⟩ := h; subst ez9
          exact j_ireturn C d_X_ofPlace_50 rz9 hσ ⟨rfl, h⟩
      · have h := h.2 c
        refine j_aload_n C d_X_ofPlace_26 0 rfl rfl ?_
        refine j_getr (kf := 0) (m := 0) C d_X_ofPlace_27 sh_54 rfl i_X rfl rfl fl_X_12 ?_
        refine j_iconst C d_X_ofPlace_30 ?_
        refine j_iload_n C d_X_ofPlace_31 1 rfl rfl ?_
        refine j_callV C d_X_ofPlace_32 ml_X_147 mi_S_roadsWith (c_S_roadsWith (xl X) (gD G) (gad G) (gca G) (v1 := 0) (v2 := v1) hσ (zR_of (x := 0) rfl) r1 h) sh_0 rfl rfl rfl rfl rfl rfl rfl (fun z11 σ12 rz11 hσ12 h => ?_)
        obtain ⟨ez11, h⟩ := h; subst ez11
        exact j_ireturn C d_X_ofPlace_35 rz11 hσ ⟨rfl, h⟩
    · have h := h.2 c
      refine j_bipush C d_X_ofPlace_18 rfl ?_
      exact j_ireturn C d_X_ofPlace_20 (zR_of (x := (-2)) rfl) hσ ⟨rfl, h⟩
  · have h := h.2 c
    refine j_iconst C d_X_ofPlace_7 ?_
    exact j_ireturn C d_X_ofPlace_8 (zR_of (x := (-1)) rfl) hσ ⟨rfl, h⟩
set_option maxRecDepth 100000 in
set_option maxHeartbeats 4000000 in
theorem c_S_hasRoad (l : Launch) (D : va_G) (ad : Nat → Nat) (ca : Nat → ClassId) {σ : zM} {v1 : Int} {Q : Int → Prop} (hσ : zRM σ) (r1 : zR v1) (h : wp_S_hasRoad σ v1 Q) : zCi l D ad ca y_S_hasRoad b_S_hasRoad 2 (some .boolean) (zrm 0 0) [.ref (ad 0), .int (zI v1)] σ (fun z u => σ = u ∧ Q z) := by
  refine zCi_of (by decide +kernel) (Nat.le_of_ble_eq_true rfl) ?_
  intro X G C hl hD had hca
  subst hl hD had hca
  have C : zC X G b_S_hasRoad "GateRoads$State" 2 (some .boolean) 0 0 := C
  show zJ X G (zQi X G (fun z u => σ = u ∧ Q z)) 2 0 [(0, .ref (gad G 0)), (1, .int (zI v1))] [] σ
  unfold wp_S_hasRoad at h
  refine j_iload_n C d_S_hasRoad_0 1 rfl rfl ?_
  refine j_if_lt (tgt := 16) C d_S_hasRoad_1 rfl r1 (fun c => ?_) (fun c => ?_)
  · have h := h.1 c
    refine j_iconst C d_S_hasRoad_16 ?_
    exact j_zreturn C d_S_hasRoad_17 (by decide) hσ ⟨rfl, h⟩
  · have h := h.2 c
    refine j_iload_n C d_S_hasRoad_4 1 rfl rfl ?_
    refine j_aload_n C d_S_hasRoad_5 0 rfl rfl ?_
    refine j_geti (kf := 5) (kI := 5) C d_S_hasRoad_6 sh_0 rfl i_S rfl rfl rfl fl_S_33 ?_
    refine j_icmp_ge (tgt := 16) C d_S_hasRoad_9 rfl r1 (hσ _ _) (fun c => ?_) (fun c => ?_)
    · have h := h.1 c
      refine j_iconst C d_S_hasRoad_16 ?_
      exact j_zreturn C d_S_hasRoad_17 (by decide) hσ ⟨rfl, h⟩
    · have h := h.2 c
      refine j_iconst C d_S_hasRoad_12 ?_
      refine j_goto (tgt := 17) C d_S_hasRoad_13 rfl ?_
      exact j_zreturn C d_S_hasRoad_17 (by decide) hσ ⟨rfl, h⟩
set_option maxRecDepth 100000 in
set_option maxHeartbeats 4000000 in
theorem c_S_ofClosures (l : Launch) (D : va_G) (ad : Nat → Nat) (ca : Nat → ClassId) {σ : zM} {v1 : Int} {v2 : Int} {Q : Int → Prop} (hσ : zRM σ) (r1 : zR v1) (r2 : zR v2) (h : wp_S_ofClosures σ v1 v2 Q) : zCi l D ad ca y_S_ofClosures b_S_ofClosures 3 (some .int) (zrm 0 0) [.ref (ad 0), .int (zI v1), .int (zI v2)] σ (fun z u => σ = u ∧ Q z) := by
  refine zCi_of (by decide +kernel) (Nat.le_of_ble_eq_true rfl) ?_
  intro X G C hl hD had hca
  subst hl hD had hca
  have C : zC X G b_S_ofClosures "GateRoads$State" 3 (some .int) 0 0 := C
  show zJ X G (zQi X G (fun z u => σ = u ∧ Q z)) 3 0 [(0, .ref (gad G 0)), (1, .int (zI v1)), (2, .int (zI v2))] [] σ
  unfold wp_S_ofClosures at h
  refine j_aload_n C d_S_ofClosures_0 0 rfl rfl ?_
  refine j_getr (kf := 3) (m := 4) C d_S_ofClosures_1 sh_0 rfl i_S rfl rfl fl_S_21 ?_
  refine j_iload_n C d_S_ofClosures_4 1 rfl rfl ?_
  refine j_iconst C d_S_ofClosures_5 ?_
  refine j_imul C d_S_ofClosures_6 ?_
  refine j_iload_n C d_S_ofClosures_7 2 rfl rfl ?_
  refine j_iadd C d_S_ofClosures_8 ?_
  obtain ⟨g1, h⟩ := h
  refine j_iaload C d_S_ofClosures_9 sh_4 g1 ?_
  exact j_ireturn C d_S_ofClosures_10 (hσ _ _) hσ ⟨rfl, h⟩
set_option maxRecDepth 100000 in
set_option maxHeartbeats 4000000 in
theorem w_S_closuresOf_b25 {X : zX} {G : zG} (C : zC X G b_S_closuresOf "GateRoads$State" 4 (some .int) 1 22) {σ : zM} {v1 : Int} (hσ : zRM σ) (r1 : zR v1) {Q : Int → Prop} {k4 : Int → Int → Prop} (hk4 : ∀ (v2 : Int) (v3 : Int), zR v2 → zR v3 → k4 v2 v3 → zJ X G (zQi X G (fun z u => σ = u ∧ Q z)) 4 4 [(0, .ref (gad G 0)), (1, .int (zI v1)), (2, .int (zI v2)), (3, .int (zI v3))] [] σ) (v2 : Int) (v3 : Int) (r2 : zR v2) (r3 : zR v3) (h : wp_S_closuresOf_b25 σ v1 k4 Q v2 v3) : zJ X G (zQi X G (fun z u => σ = u ∧ Q z)) 4 25 [(0, .ref (gad G 0)), (1, .int (zI v1)), (2, .int (zI v2)), (3, .int (zI v3))] [] σ := by
  unfold wp_S_closuresOf_b25 at h
  obtain ⟨g3, h⟩ := h
  refine j_iinc (L' := [(3, .int (zI (v3 + 1))), (0, .ref (gad G 0)), (1, .int (zI v1)), (2, .int (zI v2))]) C d_S_closuresOf_25 3 rfl rfl rfl ?_
  refine j_goto (tgt := 4) C d_S_closuresOf_28 rfl ?_
  refine j_sub (L' := [(0, .ref (gad G 0)), (1, .int (zI v1)), (2, .int (zI v2)), (3, .int (zI (v3 + 1)))]) [1, 2, 3, 0] rfl ?_
  exact hk4 v2 (v3 + 1) r2 g3 h
set_option maxRecDepth 100000 in
set_option maxHeartbeats 4000000 in
theorem w_S_closuresOf_L4 {X : zX} {G : zG} (C : zC X G b_S_closuresOf "GateRoads$State" 4 (some .int) 1 22) {σ : zM} {v1 : Int} (hσ : zRM σ) (r1 : zR v1) {Q : Int → Prop} : ∀ (n : Nat) (v2 : Int) (v3 : Int) (r2 : zR v2) (r3 : zR v3), wp_S_closuresOf_L4 σ v1 Q n v2 v3 → zJ X G (zQi X G (fun z u => σ = u ∧ Q z)) 4 4 [(0, .ref (gad G 0)), (1, .int (zI v1)), (2, .int (zI v2)), (3, .int (zI v3))] [] σ := by
  intro n
  induction n with
  | zero => intro v2 v3 r2 r3 h; exact False.elim h
  | succ n ih =>
    intro v2 v3 r2 r3 h
    rw [wp_S_closuresOf_L4] at h
    refine j_iload_n C d_S_closuresOf_4 3 rfl rfl ?_
    refine j_aload_n C d_S_closuresOf_5 0 rfl rfl ?_
    refine j_geti (kf := 6) (kI := 6) C d_S_closuresOf_6 sh_0 rfl i_S rfl rfl rfl fl_S_37 ?_
    refine j_icmp_ge (tgt := 31) C d_S_closuresOf_9 rfl r3 (hσ _ _) (fun c => ?_) (fun c => ?_)
    · have h := h.1 c
      refine j_iload_n C d_S_closuresOf_31 2 rfl rfl ?_
      exact j_ireturn C d_S_closuresOf_32 r2 hσ ⟨rfl, h⟩
    · have h := h.2 c
      refine j_aload_n C d_S_closuresOf_12 0 rfl rfl ?_
      refine j_iload_n C d_S_closuresOf_13 3 rfl rfl ?_
      refine j_iconst C d_S_closuresOf_14 ?_
      refine j_callV C d_S_closuresOf_15 ml_S_70 mi_S_ofClosures (c_S_ofClosures (xl X) (gD G) (gad G) (gca G) (v1 := v3) (v2 := 0) hσ r3 (zR_of (x := 0) rfl) h) sh_0 rfl rfl rfl rfl rfl rfl rfl (fun z1 σ2 rz1 hσ2 h => ?_)
      obtain ⟨ez1, h⟩ := h; subst ez1
      refine j_iload_n C d_S_closuresOf_18 1 rfl rfl ?_
      refine j_icmp_ne (tgt := 25) C d_S_closuresOf_19 rfl rz1 r1 (fun c => ?_) (fun c => ?_)
      · have h := h.1 c
        refine w_S_closuresOf_b25 C hσ r1 ih v2 v3 r2 r3 h
      · have h := h.2 c
        obtain ⟨g4, h⟩ := h
        refine j_iinc (L' := [(2, .int (zI (v2 + 1))), (0, .ref (gad G 0)), (1, .int (zI v1)), (3, .int (zI v3))]) C d_S_closuresOf_22 2 rfl rfl rfl ?_
        refine j_sub (L' := [(0, .ref (gad G 0)), (1, .int (zI v1)), (2, .int (zI (v2 + 1))), (3, .int (zI v3))]) [1, 2, 0, 3] rfl ?_
        refine w_S_closuresOf_b25 C hσ r1 ih (v2 + 1) v3 g4 r3 h
set_option maxRecDepth 100000 in
set_option maxHeartbeats 4000000 in
theorem c_S_closuresOf (l : Launch) (D : va_G) (ad : Nat → Nat) (ca : Nat → ClassId) {σ : zM} {v1 : Int} {Q : Int → Prop} (hσ : zRM σ) (r1 : zR v1) (h : wp_S_closuresOf σ v1 Q) : zCi l D ad ca y_S_closuresOf b_S_closuresOf 4 (some .int) (zrm 1 22) [.ref (ad 0), .int (zI v1)] σ (fun z u => σ = u ∧ Q z) := by
  refine zCi_of (by decide +kernel) (Nat.le_of_ble_eq_true rfl) ?_
  intro X G C hl hD had hca
  subst hl hD had hca
  have C : zC X G b_S_closuresOf "GateRoads$State" 4 (some .int) 1 22 := C
  show zJ X G (zQi X G (fun z u => σ = u ∧ Q z)) 4 0 [(0, .ref (gad G 0)), (1, .int (zI v1))] [] σ
  unfold wp_S_closuresOf at h
  refine j_iconst C d_S_closuresOf_0 ?_
  refine j_istore_n (L' := [(2, .int (zI 0)), (0, .ref (gad G 0)), (1, .int (zI v1))]) C d_S_closuresOf_1 rfl rfl rfl ?_
  refine j_iconst C d_S_closuresOf_2 ?_
  refine j_istore_n (L' := [(3, .int (zI 0)), (2, .int (zI 0)), (0, .ref (gad G 0)), (1, .int (zI v1))]) C d_S_closuresOf_3 rfl rfl rfl ?_
  obtain ⟨n5, h⟩ := h
  refine j_sub (L' := [(0, .ref (gad G 0)), (1, .int (zI v1)), (2, .int (zI 0)), (3, .int (zI 0))]) [2, 3, 1, 0] rfl ?_
  refine w_S_closuresOf_L4 C hσ r1 n5 0 0 (zR_of (x := 0) rfl) (zR_of (x := 0) rfl) h
set_option maxRecDepth 100000 in
set_option maxHeartbeats 4000000 in
theorem c_X_ofRoad (l : Launch) (D : va_G) (ad : Nat → Nat) (ca : Nat → ClassId) {σ : zM} {v1 : Int} {v2 : Int} {Q : Int → Prop} (hσ : zRM σ) (r1 : zR v1) (r2 : zR v2) (h : wp_X_ofRoad σ v1 v2 Q) : zCi l D ad ca y_X_ofRoad b_X_ofRoad 3 (some .int) (zrm 2 45) [.ref (ad 54), .int (zI v1), .int (zI v2)] σ (fun z u => σ = u ∧ Q z) := by
  refine zCi_of (by decide +kernel) (Nat.le_of_ble_eq_true rfl) ?_
  intro X G C hl hD had hca
  subst hl hD had hca
  have C : zC X G b_X_ofRoad "GateRoads" 3 (some .int) 2 45 := C
  show zJ X G (zQi X G (fun z u => σ = u ∧ Q z)) 3 0 [(0, .ref (gad G 54)), (1, .int (zI v1)), (2, .int (zI v2))] [] σ
  unfold wp_X_ofRoad at h
  refine j_aload_n C d_X_ofRoad_0 0 rfl rfl ?_
  refine j_getr (kf := 0) (m := 0) C d_X_ofRoad_1 sh_54 rfl i_X rfl rfl fl_X_12 ?_
  refine j_iload_n C d_X_ofRoad_4 1 rfl rfl ?_
  refine j_callV C d_X_ofRoad_5 ml_X_88 mi_S_hasRoad (c_S_hasRoad (xl X) (gD G) (gad G) (gca G) (v1 := v1) hσ r1 h) sh_0 rfl rfl rfl rfl rfl rfl rfl (fun z1 σ2 rz1 hσ2 h => ?_)
  obtain ⟨ez1, h⟩ := h; subst ez1
  refine j_if_ne (tgt := 13) C d_X_ofRoad_8 rfl rz1 (fun c => ?_) (fun c => ?_)
  · have h := h.1 c
    refine j_iload_n C d_X_ofRoad_13 2 rfl rfl ?_
    refine j_iconst C d_X_ofRoad_14 ?_
    refine j_bipush C d_X_ofRoad_15 rfl ?_
    refine j_callS C d_X_ofRoad_17 ml_X_69 ms_X_within (c_X_within (xl X) (gD G) (gad G) (gca G) (v0 := v2) (v1 := 0) (v2 := 12) hσ r2 (zR_of (x := 0) rfl) (zR_of (x := 12) rfl) h) rfl rfl rfl rfl rfl (fun z3 σ4 rz3 hσ4 h => ?_)
    obtain ⟨ez3, h⟩ := h; subst ez3
    refine j_if_ne (tgt := 26) C d_X_ofRoad_20 rfl rz3 (fun c => ?_) (fun c => ?_)
    · have h := h.1 c
      refine j_iload_n C d_X_ofRoad_26 2 rfl rfl ?_
      refine j_bipush C d_X_ofRoad_27 rfl ?_
      refine j_icmp_ne (tgt := 41) C d_X_ofRoad_29 rfl r2 (zR_of (x := 11) rfl) (fun c => ?_) (fun c => ?_)
      · have h := h.1 c
        refine j_iload_n C d_X_ofRoad_41 2 rfl rfl ?_
        refine j_bipush C d_X_ofRoad_42 rfl ?_
        refine j_icmp_ne (tgt := 57) C d_X_ofRoad_44 rfl r2 (zR_of (x := 12) rfl) (fun c => ?_) (fun c => ?_)
        · have h := h.1 c
          refine j_aload_n C d_X_ofRoad_57 0 rfl rfl ?_
          refine j_getr (kf := 0) (m := 0) C d_X_ofRoad_58 sh_54 rfl i_X rfl rfl fl_X_12 ?_
          refine j_iload_n C d_X_ofRoad_61 1 rfl rfl ?_
          refine j_iload_n C d_X_ofRoad_62 2 rfl rfl ?_
          refine j_callV C d_X_ofRoad_63 ml_X_94 mi_S_ofRoads (c_S_ofRoads (xl X) (gD G) (gad G) (gca G) (v1 := v1) (v2 := v2) hσ r1 r2 h) sh_0 rfl rfl rfl rfl rfl rfl rfl (fun z5 σ6 rz5 hσ6 h => ?_)
          obtain ⟨ez5, h⟩ := h; subst ez5
          exact j_ireturn C d_X_ofRoad_66 rz5 hσ ⟨rfl, h⟩
        · have h := h.2 c
          refine j_aload_n C d_X_ofRoad_47 0 rfl rfl ?_
          refine j_getr (kf := 0) (m := 0) C d_X_ofRoad_48 sh_54 rfl i_X rfl rfl fl_X_12 ?_
          refine j_getr (kf := 2) (m := 3) C d_X_ofRoad_51 sh_0 rfl i_S rfl rfl fl_X_159 ?_
          refine j_iload_n C d_X_ofRoad_54 1 rfl rfl ?_
          obtain ⟨g7, h⟩ := h
          refine j_iaload C d_X_ofRoad_55 sh_3 g7 ?_
          exact j_ireturn C d_X_ofRoad_56 (hσ _ _) hσ ⟨rfl, h⟩
      · have h := h.2 c
        refine j_aload_n C d_X_ofRoad_32 0 rfl rfl ?_
        refine j_getr (kf := 0) (m := 0) C d_X_ofRoad_33 sh_54 rfl i_X rfl rfl fl_X_12 ?_
        refine j_iload_n C d_X_ofRoad_36 1 rfl rfl ?_
        refine j_callV C d_X_ofRoad_37 ml_X_156 mi_S_closuresOf (c_S_closuresOf (xl X) (gD G) (gad G) (gca G) (v1 := v1) hσ r1 h) sh_0 rfl rfl rfl rfl rfl rfl rfl (fun z8 σ9 rz8 hσ9 h => ?_)
        obtain ⟨ez8, h⟩ := h; subst ez8
        exact j_ireturn C d_X_ofRoad_40 rz8 hσ ⟨rfl, h⟩
    · have h := h.2 c
      refine j_bipush C d_X_ofRoad_23 rfl ?_
      exact j_ireturn C d_X_ofRoad_25 (zR_of (x := (-2)) rfl) hσ ⟨rfl, h⟩
  · have h := h.2 c
    refine j_iconst C d_X_ofRoad_11 ?_
    exact j_ireturn C d_X_ofRoad_12 (zR_of (x := (-1)) rfl) hσ ⟨rfl, h⟩
set_option maxRecDepth 100000 in
set_option maxHeartbeats 4000000 in
theorem c_S_hasClosure (l : Launch) (D : va_G) (ad : Nat → Nat) (ca : Nat → ClassId) {σ : zM} {v1 : Int} {Q : Int → Prop} (hσ : zRM σ) (r1 : zR v1) (h : wp_S_hasClosure σ v1 Q) : zCi l D ad ca y_S_hasClosure b_S_hasClosure 2 (some .boolean) (zrm 0 0) [.ref (ad 0), .int (zI v1)] σ (fun z u => σ = u ∧ Q z) := by
  refine zCi_of (by decide +kernel) (Nat.le_of_ble_eq_true rfl) ?_
  intro X G C hl hD had hca
  subst hl hD had hca
  have C : zC X G b_S_hasClosure "GateRoads$State" 2 (some .boolean) 0 0 := C
  show zJ X G (zQi X G (fun z u => σ = u ∧ Q z)) 2 0 [(0, .ref (gad G 0)), (1, .int (zI v1))] [] σ
  unfold wp_S_hasClosure at h
  refine j_iload_n C d_S_hasClosure_0 1 rfl rfl ?_
  refine j_if_lt (tgt := 16) C d_S_hasClosure_1 rfl r1 (fun c => ?_) (fun c => ?_)
  · have h := h.1 c
    refine j_iconst C d_S_hasClosure_16 ?_
    exact j_zreturn C d_S_hasClosure_17 (by decide) hσ ⟨rfl, h⟩
  · have h := h.2 c
    refine j_iload_n C d_S_hasClosure_4 1 rfl rfl ?_
    refine j_aload_n C d_S_hasClosure_5 0 rfl rfl ?_
    refine j_geti (kf := 6) (kI := 6) C d_S_hasClosure_6 sh_0 rfl i_S rfl rfl rfl fl_S_37 ?_
    refine j_icmp_ge (tgt := 16) C d_S_hasClosure_9 rfl r1 (hσ _ _) (fun c => ?_) (fun c => ?_)
    · have h := h.1 c
      refine j_iconst C d_S_hasClosure_16 ?_
      exact j_zreturn C d_S_hasClosure_17 (by decide) hσ ⟨rfl, h⟩
    · have h := h.2 c
      refine j_iconst C d_S_hasClosure_12 ?_
      refine j_goto (tgt := 17) C d_S_hasClosure_13 rfl ?_
      exact j_zreturn C d_S_hasClosure_17 (by decide) hσ ⟨rfl, h⟩
set_option maxRecDepth 100000 in
set_option maxHeartbeats 4000000 in
theorem c_X_ofClosure (l : Launch) (D : va_G) (ad : Nat → Nat) (ca : Nat → ClassId) {σ : zM} {v1 : Int} {v2 : Int} {Q : Int → Prop} (hσ : zRM σ) (r1 : zR v1) (r2 : zR v2) (h : wp_X_ofClosure σ v1 v2 Q) : zCi l D ad ca y_X_ofClosure b_X_ofClosure 3 (some .int) (zrm 1 22) [.ref (ad 54), .int (zI v1), .int (zI v2)] σ (fun z u => σ = u ∧ Q z) := by
  refine zCi_of (by decide +kernel) (Nat.le_of_ble_eq_true rfl) ?_
  intro X G C hl hD had hca
  subst hl hD had hca
  have C : zC X G b_X_ofClosure "GateRoads" 3 (some .int) 1 22 := C
  show zJ X G (zQi X G (fun z u => σ = u ∧ Q z)) 3 0 [(0, .ref (gad G 54)), (1, .int (zI v1)), (2, .int (zI v2))] [] σ
  unfold wp_X_ofClosure at h
  refine j_aload_n C d_X_ofClosure_0 0 rfl rfl ?_
  refine j_getr (kf := 0) (m := 0) C d_X_ofClosure_1 sh_54 rfl i_X rfl rfl fl_X_12 ?_
  refine j_iload_n C d_X_ofClosure_4 1 rfl rfl ?_
  refine j_callV C d_X_ofClosure_5 ml_X_115 mi_S_hasClosure (c_S_hasClosure (xl X) (gD G) (gad G) (gca G) (v1 := v1) hσ r1 h) sh_0 rfl rfl rfl rfl rfl rfl rfl (fun z1 σ2 rz1 hσ2 h => ?_)
  obtain ⟨ez1, h⟩ := h; subst ez1
  refine j_if_ne (tgt := 13) C d_X_ofClosure_8 rfl rz1 (fun c => ?_) (fun c => ?_)
  · have h := h.1 c
    refine j_iload_n C d_X_ofClosure_13 2 rfl rfl ?_
    refine j_iconst C d_X_ofClosure_14 ?_
    refine j_iconst C d_X_ofClosure_15 ?_
    refine j_callS C d_X_ofClosure_16 ml_X_69 ms_X_within (c_X_within (xl X) (gD G) (gad G) (gca G) (v0 := v2) (v1 := 0) (v2 := 2) hσ r2 (zR_of (x := 0) rfl) (zR_of (x := 2) rfl) h) rfl rfl rfl rfl rfl (fun z3 σ4 rz3 hσ4 h => ?_)
    obtain ⟨ez3, h⟩ := h; subst ez3
    refine j_if_ne (tgt := 25) C d_X_ofClosure_19 rfl rz3 (fun c => ?_) (fun c => ?_)
    · have h := h.1 c
      refine j_aload_n C d_X_ofClosure_25 0 rfl rfl ?_
      refine j_getr (kf := 0) (m := 0) C d_X_ofClosure_26 sh_54 rfl i_X rfl rfl fl_X_12 ?_
      refine j_iload_n C d_X_ofClosure_29 1 rfl rfl ?_
      refine j_iload_n C d_X_ofClosure_30 2 rfl rfl ?_
      refine j_callV C d_X_ofClosure_31 ml_X_162 mi_S_ofClosures (c_S_ofClosures (xl X) (gD G) (gad G) (gca G) (v1 := v1) (v2 := v2) hσ r1 r2 h) sh_0 rfl rfl rfl rfl rfl rfl rfl (fun z5 σ6 rz5 hσ6 h => ?_)
      obtain ⟨ez5, h⟩ := h; subst ez5
      exact j_ireturn C d_X_ofClosure_34 rz5 hσ ⟨rfl, h⟩
    · have h := h.2 c
      refine j_bipush C d_X_ofClosure_22 rfl ?_
      exact j_ireturn C d_X_ofClosure_24 (zR_of (x := (-2)) rfl) hσ ⟨rfl, h⟩
  · have h := h.2 c
    refine j_iconst C d_X_ofClosure_11 ?_
    exact j_ireturn C d_X_ofClosure_12 (zR_of (x := (-1)) rfl) hσ ⟨rfl, h⟩
set_option maxRecDepth 100000 in
set_option maxHeartbeats 4000000 in
theorem c_S_hasTraveller (l : Launch) (D : va_G) (ad : Nat → Nat) (ca : Nat → ClassId) {σ : zM} {v1 : Int} {Q : Int → Prop} (hσ : zRM σ) (r1 : zR v1) (h : wp_S_hasTraveller σ v1 Q) : zCi l D ad ca y_S_hasTraveller b_S_hasTraveller 2 (some .boolean) (zrm 0 0) [.ref (ad 0), .int (zI v1)] σ (fun z u => σ = u ∧ Q z) := by
  refine zCi_of (by decide +kernel) (Nat.le_of_ble_eq_true rfl) ?_
  intro X G C hl hD had hca
  subst hl hD had hca
  have C : zC X G b_S_hasTraveller "GateRoads$State" 2 (some .boolean) 0 0 := C
  show zJ X G (zQi X G (fun z u => σ = u ∧ Q z)) 2 0 [(0, .ref (gad G 0)), (1, .int (zI v1))] [] σ
  unfold wp_S_hasTraveller at h
  refine j_iload_n C d_S_hasTraveller_0 1 rfl rfl ?_
  refine j_if_lt (tgt := 16) C d_S_hasTraveller_1 rfl r1 (fun c => ?_) (fun c => ?_)
  · have h := h.1 c
    refine j_iconst C d_S_hasTraveller_16 ?_
    exact j_zreturn C d_S_hasTraveller_17 (by decide) hσ ⟨rfl, h⟩
  · have h := h.2 c
    refine j_iload_n C d_S_hasTraveller_4 1 rfl rfl ?_
    refine j_aload_n C d_S_hasTraveller_5 0 rfl rfl ?_
    refine j_geti (kf := 7) (kI := 7) C d_S_hasTraveller_6 sh_0 rfl i_S rfl rfl rfl fl_S_40 ?_
    refine j_icmp_ge (tgt := 16) C d_S_hasTraveller_9 rfl r1 (hσ _ _) (fun c => ?_) (fun c => ?_)
    · have h := h.1 c
      refine j_iconst C d_S_hasTraveller_16 ?_
      exact j_zreturn C d_S_hasTraveller_17 (by decide) hσ ⟨rfl, h⟩
    · have h := h.2 c
      refine j_iconst C d_S_hasTraveller_12 ?_
      refine j_goto (tgt := 17) C d_S_hasTraveller_13 rfl ?_
      exact j_zreturn C d_S_hasTraveller_17 (by decide) hσ ⟨rfl, h⟩
set_option maxRecDepth 100000 in
set_option maxHeartbeats 4000000 in
theorem c_X_ofTraveller (l : Launch) (D : va_G) (ad : Nat → Nat) (ca : Nat → ClassId) {σ : zM} {v1 : Int} {v2 : Int} {Q : Int → Prop} (hσ : zRM σ) (r1 : zR v1) (r2 : zR v2) (h : wp_X_ofTraveller σ v1 v2 Q) : zCi l D ad ca y_X_ofTraveller b_X_ofTraveller 3 (some .int) (zrm 1 22) [.ref (ad 54), .int (zI v1), .int (zI v2)] σ (fun z u => σ = u ∧ Q z) := by
  refine zCi_of (by decide +kernel) (Nat.le_of_ble_eq_true rfl) ?_
  intro X G C hl hD had hca
  subst hl hD had hca
  have C : zC X G b_X_ofTraveller "GateRoads" 3 (some .int) 1 22 := C
  show zJ X G (zQi X G (fun z u => σ = u ∧ Q z)) 3 0 [(0, .ref (gad G 54)), (1, .int (zI v1)), (2, .int (zI v2))] [] σ
  unfold wp_X_ofTraveller at h
  refine j_aload_n C d_X_ofTraveller_0 0 rfl rfl ?_
  refine j_getr (kf := 0) (m := 0) C d_X_ofTraveller_1 sh_54 rfl i_X rfl rfl fl_X_12 ?_
  refine j_iload_n C d_X_ofTraveller_4 1 rfl rfl ?_
  refine j_callV C d_X_ofTraveller_5 ml_X_128 mi_S_hasTraveller (c_S_hasTraveller (xl X) (gD G) (gad G) (gca G) (v1 := v1) hσ r1 h) sh_0 rfl rfl rfl rfl rfl rfl rfl (fun z1 σ2 rz1 hσ2 h => ?_)
  obtain ⟨ez1, h⟩ := h; subst ez1
  refine j_if_ne (tgt := 13) C d_X_ofTraveller_8 rfl rz1 (fun c => ?_) (fun c => ?_)
  · have h := h.1 c
    refine j_iload_n C d_X_ofTraveller_13 2 rfl rfl ?_
    refine j_iconst C d_X_ofTraveller_14 ?_
    refine j_bipush C d_X_ofTraveller_15 rfl ?_
    refine j_callS C d_X_ofTraveller_17 ml_X_69 ms_X_within (c_X_within (xl X) (gD G) (gad G) (gca G) (v0 := v2) (v1 := 0) (v2 := 7) hσ r2 (zR_of (x := 0) rfl) (zR_of (x := 7) rfl) h) rfl rfl rfl rfl rfl (fun z3 σ4 rz3 hσ4 h => ?_)
    obtain ⟨ez3, h⟩ := h; subst ez3
    refine j_if_ne (tgt := 26) C d_X_ofTraveller_20 rfl rz3 (fun c => ?_) (fun c => ?_)
    · have h := h.1 c
      refine j_aload_n C d_X_ofTraveller_26 0 rfl rfl ?_
      refine j_getr (kf := 0) (m := 0) C d_X_ofTraveller_27 sh_54 rfl i_X rfl rfl fl_X_12 ?_
      refine j_iload_n C d_X_ofTraveller_30 1 rfl rfl ?_
      refine j_iload_n C d_X_ofTraveller_31 2 rfl rfl ?_
      refine j_callV C d_X_ofTraveller_32 ml_X_165 mi_S_ofTravellers (c_S_ofTravellers (xl X) (gD G) (gad G) (gca G) (v1 := v1) (v2 := v2) hσ r1 r2 h) sh_0 rfl rfl rfl rfl rfl rfl rfl (fun z5 σ6 rz5 hσ6 h => ?_)
      obtain ⟨ez5, h⟩ := h; subst ez5
      exact j_ireturn C d_X_ofTraveller_35 rz5 hσ ⟨rfl, h⟩
    · have h := h.2 c
      refine j_bipush C d_X_ofTraveller_23 rfl ?_
      exact j_ireturn C d_X_ofTraveller_25 (zR_of (x := (-2)) rfl) hσ ⟨rfl, h⟩
  · have h := h.2 c
    refine j_iconst C d_X_ofTraveller_11 ?_
    exact j_ireturn C d_X_ofTraveller_12 (zR_of (x := (-1)) rfl) hσ ⟨rfl, h⟩
set_option maxRecDepth 100000 in
set_option maxHeartbeats 4000000 in
theorem c_S_copyFrom (l : Launch) (D : va_G) (ad : Nat → Nat) (ca : Nat → ClassId) {σ : zM} {a : Nat} {b : Nat} {Q : zM → Prop} (hσ : zRM σ) (ha : a < 9) (hb : b < 9) (h : wp_S_copyFrom σ a b Q) : zCv l D ad ca y_S_copyFrom b_S_copyFrom 2 (zrm 1 26) [.ref (ad (6 * a)), .ref (ad (6 * b))] σ Q := by
  refine zCv_of (by decide +kernel) (Nat.le_of_ble_eq_true rfl) ?_
  intro X G C hl hD had hca
  subst hl hD had hca
  have C : zC X G b_S_copyFrom "GateRoads$State" 2 (none) 1 26 := C
  show zJ X G (zQv X G Q) 2 0 [(0, .ref (gad G (6 * a))), (1, .ref (gad G (6 * b)))] [] σ
  unfold wp_S_copyFrom at h
  refine j_aload_n C d_S_copyFrom_0 1 rfl rfl ?_
  refine j_getr (kf := 0) (m := 6 * b + 1) C d_S_copyFrom_1 (zSt b hb) rfl i_S rfl rfl fl_S_9 ?_
  refine j_iconst C d_S_copyFrom_4 ?_
  refine j_aload_n C d_S_copyFrom_5 0 rfl rfl ?_
  refine j_getr (kf := 0) (m := 6 * a + 1) C d_S_copyFrom_6 (zSt a ha) rfl i_S rfl rfl fl_S_9 ?_
  refine j_iconst C d_S_copyFrom_9 ?_
  refine j_aload_n C d_S_copyFrom_10 0 rfl rfl ?_
  refine j_getr (kf := 0) (m := 6 * a + 1) C d_S_copyFrom_11 (zSt a ha) rfl i_S rfl rfl fl_S_9 ?_
  refine j_alen C d_S_copyFrom_14 (zSt1 a ha) ?_
  obtain ⟨g1, h⟩ := h
  refine j_copy C d_S_copyFrom_15 ml_S_27 zn_copy zs_copy zi_Sys rfl rfl (zSt1 b hb) (zSt1 a ha) g1 ?_
  refine j_mem (fun σ2 eσ2 => ?_)
  have h := h σ2 eσ2
  have hσ2 : zRM σ2 := by rw [eσ2]; exact zCp_rg hσ _ _ _ _ _
  refine j_aload_n C d_S_copyFrom_18 1 rfl rfl ?_
  refine j_getr (kf := 1) (m := 6 * b + 2) C d_S_copyFrom_19 (zSt b hb) rfl i_S rfl rfl fl_S_15 ?_
  refine j_iconst C d_S_copyFrom_22 ?_
  refine j_aload_n C d_S_copyFrom_23 0 rfl rfl ?_
  refine j_getr (kf := 1) (m := 6 * a + 2) C d_S_copyFrom_24 (zSt a ha) rfl i_S rfl rfl fl_S_15 ?_
  refine j_iconst C d_S_copyFrom_27 ?_
  refine j_aload_n C d_S_copyFrom_28 0 rfl rfl ?_
  refine j_getr (kf := 1) (m := 6 * a + 2) C d_S_copyFrom_29 (zSt a ha) rfl i_S rfl rfl fl_S_15 ?_
  refine j_alen C d_S_copyFrom_32 (zSt2 a ha) ?_
  obtain ⟨g3, h⟩ := h
  refine j_copy C d_S_copyFrom_33 ml_S_27 zn_copy zs_copy zi_Sys rfl rfl (zSt2 b hb) (zSt2 a ha) g3 ?_
  refine j_mem (fun σ4 eσ4 => ?_)
  have h := h σ4 eσ4
  have hσ4 : zRM σ4 := by rw [eσ4]; exact zCp_rg hσ2 _ _ _ _ _
  refine j_aload_n C d_S_copyFrom_36 1 rfl rfl ?_
  refine j_getr (kf := 2) (m := 6 * b + 3) C d_S_copyFrom_37 (zSt b hb) rfl i_S rfl rfl fl_S_18 ?_
  refine j_iconst C d_S_copyFrom_40 ?_
  refine j_aload_n C d_S_copyFrom_41 0 rfl rfl ?_
  refine j_getr (kf := 2) (m := 6 * a + 3) C d_S_copyFrom_42 (zSt a ha) rfl i_S rfl rfl fl_S_18 ?_
  refine j_iconst C d_S_copyFrom_45 ?_
  refine j_aload_n C d_S_copyFrom_46 0 rfl rfl ?_
  refine j_getr (kf := 2) (m := 6 * a + 3) C d_S_copyFrom_47 (zSt a ha) rfl i_S rfl rfl fl_S_18 ?_
  refine j_alen C d_S_copyFrom_50 (zSt3 a ha) ?_
  obtain ⟨g5, h⟩ := h
  refine j_copy C d_S_copyFrom_51 ml_S_27 zn_copy zs_copy zi_Sys rfl rfl (zSt3 b hb) (zSt3 a ha) g5 ?_
  refine j_mem (fun σ6 eσ6 => ?_)
  have h := h σ6 eσ6
  have hσ6 : zRM σ6 := by rw [eσ6]; exact zCp_rg hσ4 _ _ _ _ _
  refine j_aload_n C d_S_copyFrom_54 1 rfl rfl ?_
  refine j_getr (kf := 3) (m := 6 * b + 4) C d_S_copyFrom_55 (zSt b hb) rfl i_S rfl rfl fl_S_21 ?_
  refine j_iconst C d_S_copyFrom_58 ?_
  refine j_aload_n C d_S_copyFrom_59 0 rfl rfl ?_
  refine j_getr (kf := 3) (m := 6 * a + 4) C d_S_copyFrom_60 (zSt a ha) rfl i_S rfl rfl fl_S_21 ?_
  refine j_iconst C d_S_copyFrom_63 ?_
  refine j_aload_n C d_S_copyFrom_64 0 rfl rfl ?_
  refine j_getr (kf := 3) (m := 6 * a + 4) C d_S_copyFrom_65 (zSt a ha) rfl i_S rfl rfl fl_S_21 ?_
  refine j_alen C d_S_copyFrom_68 (zSt4 a ha) ?_
  obtain ⟨g7, h⟩ := h
  refine j_copy C d_S_copyFrom_69 ml_S_27 zn_copy zs_copy zi_Sys rfl rfl (zSt4 b hb) (zSt4 a ha) g7 ?_
  refine j_mem (fun σ8 eσ8 => ?_)
  have h := h σ8 eσ8
  have hσ8 : zRM σ8 := by rw [eσ8]; exact zCp_rg hσ6 _ _ _ _ _
  refine j_aload_n C d_S_copyFrom_72 1 rfl rfl ?_
  refine j_getr (kf := 4) (m := 6 * b + 5) C d_S_copyFrom_73 (zSt b hb) rfl i_S rfl rfl fl_S_24 ?_
  refine j_iconst C d_S_copyFrom_76 ?_
  refine j_aload_n C d_S_copyFrom_77 0 rfl rfl ?_
  refine j_getr (kf := 4) (m := 6 * a + 5) C d_S_copyFrom_78 (zSt a ha) rfl i_S rfl rfl fl_S_24 ?_
  refine j_iconst C d_S_copyFrom_81 ?_
  refine j_aload_n C d_S_copyFrom_82 0 rfl rfl ?_
  refine j_getr (kf := 4) (m := 6 * a + 5) C d_S_copyFrom_83 (zSt a ha) rfl i_S rfl rfl fl_S_24 ?_
  refine j_alen C d_S_copyFrom_86 (zSt5 a ha) ?_
  obtain ⟨g9, h⟩ := h
  refine j_copy C d_S_copyFrom_87 ml_S_27 zn_copy zs_copy zi_Sys rfl rfl (zSt5 b hb) (zSt5 a ha) g9 ?_
  refine j_mem (fun σ10 eσ10 => ?_)
  have h := h σ10 eσ10
  have hσ10 : zRM σ10 := by rw [eσ10]; exact zCp_rg hσ8 _ _ _ _ _
  refine j_aload_n C d_S_copyFrom_90 0 rfl rfl ?_
  refine j_aload_n C d_S_copyFrom_91 1 rfl rfl ?_
  refine j_geti (kf := 5) (kI := 5) C d_S_copyFrom_92 (zSt b hb) rfl i_S rfl rfl rfl fl_S_33 ?_
  refine j_puti (kf := 5) (kI := 5) C t_S d_S_copyFrom_95 (zSt a ha) rfl i_S t_S_ok n_S rfl rfl rfl fl_S_33 rfl (Or.inl rfl) ?_
  refine j_mem (fun σ11 eσ11 => ?_)
  have h := h σ11 eσ11
  have hσ11 : zRM σ11 := by rw [eσ11]; exact zU_rg hσ10 _ _ (hσ10 _ _)
  refine j_aload_n C d_S_copyFrom_98 0 rfl rfl ?_
  refine j_aload_n C d_S_copyFrom_99 1 rfl rfl ?_
  refine j_geti (kf := 6) (kI := 6) C d_S_copyFrom_100 (zSt b hb) rfl i_S rfl rfl rfl fl_S_37 ?_
  refine j_puti (kf := 6) (kI := 6) C t_S d_S_copyFrom_103 (zSt a ha) rfl i_S t_S_ok n_S rfl rfl rfl fl_S_37 rfl (Or.inl rfl) ?_
  refine j_mem (fun σ12 eσ12 => ?_)
  have h := h σ12 eσ12
  have hσ12 : zRM σ12 := by rw [eσ12]; exact zU_rg hσ11 _ _ (hσ11 _ _)
  refine j_aload_n C d_S_copyFrom_106 0 rfl rfl ?_
  refine j_aload_n C d_S_copyFrom_107 1 rfl rfl ?_
  refine j_geti (kf := 7) (kI := 7) C d_S_copyFrom_108 (zSt b hb) rfl i_S rfl rfl rfl fl_S_40 ?_
  refine j_puti (kf := 7) (kI := 7) C t_S d_S_copyFrom_111 (zSt a ha) rfl i_S t_S_ok n_S rfl rfl rfl fl_S_40 rfl (Or.inl rfl) ?_
  refine j_mem (fun σ13 eσ13 => ?_)
  have h := h σ13 eσ13
  have hσ13 : zRM σ13 := by rw [eσ13]; exact zU_rg hσ12 _ _ (hσ12 _ _)
  exact j_vreturn C d_S_copyFrom_114 hσ13 h
set_option maxRecDepth 100000 in
set_option maxHeartbeats 4000000 in
theorem w_X_remember_b72 {X : zX} {G : zG} (C : zC X G b_X_remember "GateRoads" 3 (none) 2 47) {Q : zM → Prop} (σ : zM) (hσ : zRM σ) (h : wp_X_remember_b72 Q σ) : zJ X G (zQv X G Q) 3 72 [(0, .ref (gad G 54))] [] σ := by
  unfold wp_X_remember_b72 at h
  refine j_aload_n C d_X_remember_72 0 rfl rfl ?_
  refine j_getr (kf := 1) (m := 55) C d_X_remember_73 sh_54 rfl i_X rfl rfl fl_X_16 ?_
  refine j_aload_n C d_X_remember_76 0 rfl rfl ?_
  refine j_geti (kf := 2) (kI := 2) C d_X_remember_77 sh_54 rfl i_X rfl rfl rfl fl_X_174 ?_
  obtain ⟨g2, h⟩ := h
  obtain ⟨g3, h⟩ := h
  refine j_aaload C d_X_remember_80 sh_55 g2 ?_
  refine j_aload_n C d_X_remember_81 0 rfl rfl ?_
  refine j_getr (kf := 0) (m := 0) C d_X_remember_82 sh_54 rfl i_X rfl rfl fl_X_12 ?_
  refine j_callVv C d_X_remember_85 ml_X_279 mi_S_copyFrom (c_S_copyFrom (xl X) (gD G) (gad G) (gca G) (a := (σ 55 (σ 54 2)).toNat) (b := 0) hσ g3 (by decide) h) (zSt (σ 55 (σ 54 2)).toNat g3) rfl rfl rfl rfl rfl rfl rfl (fun σ5 hσ5 h => ?_)
  refine j_aload_n C d_X_remember_88 0 rfl rfl ?_
  refine j_dup C d_X_remember_89 rfl ?_
  refine j_geti (kf := 2) (kI := 2) C d_X_remember_90 sh_54 rfl i_X rfl rfl rfl fl_X_174 ?_
  refine j_iconst C d_X_remember_93 ?_
  refine j_iadd C d_X_remember_94 ?_
  obtain ⟨g6, h⟩ := h
  refine j_puti (kf := 2) (kI := 2) C t_X d_X_remember_95 sh_54 rfl i_X t_X_ok n_X rfl rfl rfl fl_X_174 rfl (Or.inl rfl) ?_
  refine j_mem (fun σ7 eσ7 => ?_)
  have h := h σ7 eσ7
  have hσ7 : zRM σ7 := by rw [eσ7]; exact zU_rg hσ5 _ _ g6
  exact j_vreturn C d_X_remember_98 hσ7 h
set_option maxRecDepth 100000 in
set_option maxHeartbeats 4000000 in
theorem w_X_remember_L34 {X : zX} {G : zG} (C : zC X G b_X_remember "GateRoads" 3 (none) 2 47) {w1 : Nat} (q1 : w1 < 9) {Q : zM → Prop} : ∀ (n : Nat) (σ : zM) (v2 : Int) (hσ : zRM σ) (r2 : zR v2), wp_X_remember_L34 w1 Q n σ v2 → zJ X G (zQv X G Q) 3 34 [(0, .ref (gad G 54)), (1, .ref (gad G (6 * w1))), (2, .int (zI v2))] [] σ := by
  intro n
  induction n with
  | zero => intro σ v2 hσ r2 h; exact False.elim h
  | succ n ih =>
    intro σ v2 hσ r2 h
    rw [wp_X_remember_L34] at h
    refine j_iload_n C d_X_remember_34 2 rfl rfl ?_
    refine j_bipush C d_X_remember_35 rfl ?_
    refine j_icmp_ge (tgt := 60) C d_X_remember_37 rfl r2 (zR_of (x := 6) rfl) (fun c => ?_) (fun c => ?_)
    · have h := h.1 c
      refine j_aload_n C d_X_remember_60 0 rfl rfl ?_
      refine j_getr (kf := 1) (m := 55) C d_X_remember_61 sh_54 rfl i_X rfl rfl fl_X_16 ?_
      refine j_iconst C d_X_remember_64 ?_
      refine j_aload_n C d_X_remember_65 1 rfl rfl ?_
      refine j_aastore (a := w1) C d_X_remember_66 sh_55 (zIx (i := 5) (n := 6) rfl) q1 ?_
      refine j_mem (fun σ9 eσ9 => ?_)
      have h := h σ9 eσ9
      have hσ9 : zRM σ9 := by rw [eσ9]; exact zU_rg hσ _ _ (zR_nat q1)
      refine j_aload_n C d_X_remember_67 0 rfl rfl ?_
      refine j_iconst C d_X_remember_68 ?_
      refine j_puti (kf := 2) (kI := 2) C t_X d_X_remember_69 sh_54 rfl i_X t_X_ok n_X rfl rfl rfl fl_X_174 rfl (Or.inl rfl) ?_
      refine j_mem (fun σ10 eσ10 => ?_)
      have h := h σ10 eσ10
      have hσ10 : zRM σ10 := by rw [eσ10]; exact zU_rg hσ9 _ _ (zR_of (x := 5) rfl)
      refine j_sub (L' := [(0, .ref (gad G 54))]) [0] rfl ?_
      refine w_X_remember_b72 C σ10 hσ10 h
    · have h := h.2 c
      refine j_aload_n C d_X_remember_40 0 rfl rfl ?_
      refine j_getr (kf := 1) (m := 55) C d_X_remember_41 sh_54 rfl i_X rfl rfl fl_X_16 ?_
      refine j_iload_n C d_X_remember_44 2 rfl rfl ?_
      refine j_iconst C d_X_remember_45 ?_
      refine j_isub C d_X_remember_46 ?_
      refine j_aload_n C d_X_remember_47 0 rfl rfl ?_
      refine j_getr (kf := 1) (m := 55) C d_X_remember_48 sh_54 rfl i_X rfl rfl fl_X_16 ?_
      refine j_iload_n C d_X_remember_51 2 rfl rfl ?_
      obtain ⟨g11, h⟩ := h
      obtain ⟨g12, h⟩ := h
      refine j_aaload C d_X_remember_52 sh_55 g11 ?_
      obtain ⟨g13, h⟩ := h
      refine j_aastore (a := (σ 55 v2).toNat) C d_X_remember_53 sh_55 g13 g12 ?_
      refine j_mem (fun σ14 eσ14 => ?_)
      have h := h σ14 eσ14
      have hσ14 : zRM σ14 := by rw [eσ14]; exact zU_rg hσ _ _ (zR_nat g12)
      obtain ⟨g15, h⟩ := h
      refine j_iinc (L' := [(2, .int (zI (v2 + 1))), (0, .ref (gad G 54)), (1, .ref (gad G (6 * w1)))]) C d_X_remember_54 2 rfl rfl rfl ?_
      refine j_goto (tgt := 34) C d_X_remember_57 rfl ?_
      refine j_sub (L' := [(0, .ref (gad G 54)), (1, .ref (gad G (6 * w1))), (2, .int (zI (v2 + 1)))]) [1, 2, 0] rfl ?_
      exact ih σ14 (v2 + 1) hσ14 g15 h
set_option maxRecDepth 100000 in
set_option maxHeartbeats 4000000 in
theorem c_X_remember (l : Launch) (D : va_G) (ad : Nat → Nat) (ca : Nat → ClassId) {σ : zM} {Q : zM → Prop} (hσ : zRM σ) (h : wp_X_remember σ Q) : zCv l D ad ca y_X_remember b_X_remember 3 (zrm 2 47) [.ref (ad 54)] σ Q := by
  refine zCv_of (by decide +kernel) (Nat.le_of_ble_eq_true rfl) ?_
  intro X G C hl hD had hca
  subst hl hD had hca
  have C : zC X G b_X_remember "GateRoads" 3 (none) 2 47 := C
  show zJ X G (zQv X G Q) 3 0 [(0, .ref (gad G 54))] [] σ
  unfold wp_X_remember at h
  refine j_aload_n C d_X_remember_0 0 rfl rfl ?_
  refine j_getr (kf := 8) (m := 62) C d_X_remember_1 sh_54 rfl i_X rfl rfl fl_X_37 ?_
  refine j_iconst C d_X_remember_4 ?_
  refine j_puti (kf := 1) (kI := 1) C t_G d_X_remember_5 sh_62 rfl i_G t_G_ok n_G rfl rfl rfl fl_X_282 rfl (Or.inr ⟨rfl, by decide⟩) ?_
  refine j_mem (fun σ1 eσ1 => ?_)
  have h := h σ1 eσ1
  have hσ1 : zRM σ1 := by rw [eσ1]; exact zU_rg hσ _ _ (zR_of (x := 0) rfl)
  refine j_aload_n C d_X_remember_8 0 rfl rfl ?_
  refine j_geti (kf := 7) (kI := 7) C d_X_remember_9 sh_54 rfl i_X rfl rfl rfl fl_X_262 ?_
  refine j_if_eq (tgt := 16) C d_X_remember_12 rfl (hσ1 _ _) (fun c => ?_) (fun c => ?_)
  · have h := h.1 c
    refine j_aload_n C d_X_remember_16 0 rfl rfl ?_
    refine j_geti (kf := 2) (kI := 2) C d_X_remember_17 sh_54 rfl i_X rfl rfl rfl fl_X_174 ?_
    refine j_bipush C d_X_remember_20 rfl ?_
    refine j_icmp_lt (tgt := 72) C d_X_remember_22 rfl (hσ1 _ _) (zR_of (x := 6) rfl) (fun c => ?_) (fun c => ?_)
    · have h := h.1 c
      refine w_X_remember_b72 C σ1 hσ1 h
    · have h := h.2 c
      refine j_aload_n C d_X_remember_25 0 rfl rfl ?_
      refine j_getr (kf := 1) (m := 55) C d_X_remember_26 sh_54 rfl i_X rfl rfl fl_X_16 ?_
      refine j_iconst C d_X_remember_29 ?_
      obtain ⟨g8, h⟩ := h
      refine j_aaload C d_X_remember_30 sh_55 (zIx (i := 0) (n := 6) rfl) ?_
      refine j_astore_n (L' := [(1, .ref (gad G (6 * (σ1 55 0).toNat))), (0, .ref (gad G 54))]) C d_X_remember_31 rfl rfl rfl ?_
      refine j_iconst C d_X_remember_32 ?_
      refine j_istore_n (L' := [(2, .int (zI 1)), (1, .ref (gad G (6 * (σ1 55 0).toNat))), (0, .ref (gad G 54))]) C d_X_remember_33 rfl rfl rfl ?_
      obtain ⟨n16, h⟩ := h
      refine j_sub (L' := [(0, .ref (gad G 54)), (1, .ref (gad G (6 * (σ1 55 0).toNat))), (2, .int (zI 1))]) [2, 1, 0] rfl ?_
      refine w_X_remember_L34 C g8 n16 σ1 1 hσ1 (zR_of (x := 1) rfl) h
  · have h := h.2 c
    exact j_vreturn C d_X_remember_15 hσ1 h
set_option maxRecDepth 100000 in
set_option maxHeartbeats 4000000 in
theorem c_X_room (l : Launch) (D : va_G) (ad : Nat → Nat) (ca : Nat → ClassId) {σ : zM} {v1 : Int} {v2 : Int} {v3 : Int} {v4 : Int} {Q : Int → zM → Prop} (hσ : zRM σ) (r1 : zR v1) (r2 : zR v2) (r3 : zR v3) (r4 : zR v4) (h : wp_X_room σ v1 v2 v3 v4 Q) : zCi l D ad ca y_X_room b_X_room 7 (some .int) (zrm 3 69) [.ref (ad 54), .int (zI v1), .int (zI v2), .int (zI v3), .int (zI v4)] σ Q := by
  refine zCi_of (by decide +kernel) (Nat.le_of_ble_eq_true rfl) ?_
  intro X G C hl hD had hca
  subst hl hD had hca
  have C : zC X G b_X_room "GateRoads" 7 (some .int) 3 69 := C
  show zJ X G (zQi X G Q) 7 0 [(0, .ref (gad G 54)), (1, .int (zI v1)), (2, .int (zI v2)), (3, .int (zI v3)), (4, .int (zI v4))] [] σ
  unfold wp_X_room at h
  refine j_iload_n C d_X_room_0 1 rfl rfl ?_
  refine j_callS C d_X_room_1 ml_X_65 ms_X_isPlace (c_X_isPlace (xl X) (gD G) (gad G) (gca G) (v0 := v1) hσ r1 h) rfl rfl rfl rfl rfl (fun z1 σ2 rz1 hσ2 h => ?_)
  obtain ⟨ez1, h⟩ := h; subst ez1
  refine j_if_ne (tgt := 9) C d_X_room_4 rfl rz1 (fun c => ?_) (fun c => ?_)
  · have h := h.1 c
    refine j_iload_n C d_X_room_9 2 rfl rfl ?_
    refine j_iconst C d_X_room_10 ?_
    refine j_sipush C d_X_room_11 rfl ?_
    refine j_callS C d_X_room_14 ml_X_69 ms_X_within (c_X_within (xl X) (gD G) (gad G) (gca G) (v0 := v2) (v1 := 0) (v2 := 1440) hσ r2 (zR_of (x := 0) rfl) (zR_of (x := 1440) rfl) h) rfl rfl rfl rfl rfl (fun z3 σ4 rz3 hσ4 h => ?_)
    obtain ⟨ez3, h⟩ := h; subst ez3
    refine j_if_eq (tgt := 43) C d_X_room_17 rfl rz3 (fun c => ?_) (fun c => ?_)
    · have h := h.1 c
      refine j_bipush C d_X_room_43 rfl ?_
      exact j_ireturn C d_X_room_45 (zR_of (x := (-2)) rfl) hσ h
    · have h := h.2 c
      refine j_iload_n C d_X_room_20 3 rfl rfl ?_
      refine j_iload_n C d_X_room_21 2 rfl rfl ?_
      refine j_sipush C d_X_room_22 rfl ?_
      refine j_callS C d_X_room_25 ml_X_69 ms_X_within (c_X_within (xl X) (gD G) (gad G) (gca G) (v0 := v3) (v1 := v2) (v2 := 1440) hσ r3 r2 (zR_of (x := 1440) rfl) h) rfl rfl rfl rfl rfl (fun z5 σ6 rz5 hσ6 h => ?_)
      obtain ⟨ez5, h⟩ := h; subst ez5
      refine j_if_eq (tgt := 43) C d_X_room_28 rfl rz5 (fun c => ?_) (fun c => ?_)
      · have h := h.1 c
        refine j_bipush C d_X_room_43 rfl ?_
        exact j_ireturn C d_X_room_45 (zR_of (x := (-2)) rfl) hσ h
      · have h := h.2 c
        refine j_iload C d_X_room_31 4 rfl ?_
        refine j_iconst C d_X_room_33 ?_
        refine j_sipush C d_X_room_34 rfl ?_
        refine j_callS C d_X_room_37 ml_X_69 ms_X_within (c_X_within (xl X) (gD G) (gad G) (gca G) (v0 := v4) (v1 := 0) (v2 := 1000) hσ r4 (zR_of (x := 0) rfl) (zR_of (x := 1000) rfl) h) rfl rfl rfl rfl rfl (fun z7 σ8 rz7 hσ8 h => ?_)
        obtain ⟨ez7, h⟩ := h; subst ez7
        refine j_if_ne (tgt := 46) C d_X_room_40 rfl rz7 (fun c => ?_) (fun c => ?_)
        · have h := h.1 c
          refine j_aload_n C d_X_room_46 0 rfl rfl ?_
          refine j_callVv C d_X_room_47 ml_X_73 mi_X_remember (c_X_remember (xl X) (gD G) (gad G) (gca G)  hσ h) sh_54 rfl rfl rfl rfl rfl rfl rfl (fun σ10 hσ10 h => ?_)
          refine j_iload_n C d_X_room_50 1 rfl rfl ?_
          refine j_iconst C d_X_room_51 ?_
          refine j_imul C d_X_room_52 ?_
          obtain ⟨g11, h⟩ := h
          refine j_istore (L' := [(5, .int (zI (v1 * 3))), (0, .ref (gad G 54)), (1, .int (zI v1)), (2, .int (zI v2)), (3, .int (zI v3)), (4, .int (zI v4))]) C d_X_room_53 rfl rfl ?_
          refine j_aload_n C d_X_room_55 1 rfl rfl ?_
          refine j_getr (kf := 0) (m := 0) C d_X_room_56 sh_54 rfl i_X rfl rfl fl_X_12 ?_
          refine j_getr (kf := 0) (m := 1) C d_X_room_59 sh_0 rfl i_S rfl rfl fl_X_76 ?_
          refine j_iload C d_X_room_62 0 rfl ?_
          refine j_iconst C d_X_room_64 ?_
          refine j_iadd C d_X_room_65 ?_
          obtain ⟨g12, h⟩ := h
          refine j_iaload C d_X_room_66 sh_1 g12 ?_
          refine j_istore (L' := [(6, .int (zI (σ10 1 ((v1 * 3) + 2)))), (5, .int (zI (v1 * 3))), (0, .ref (gad G 54)), (1, .int (zI v1)), (2, .int (zI v2)), (3, .int (zI v3)), (4, .int (zI v4))]) C d_X_room_67 rfl rfl ?_
          refine j_aload_n C d_X_room_69 2 rfl rfl ?_
          refine j_getr (kf := 0) (m := 0) C d_X_room_70 sh_54 rfl i_X rfl rfl fl_X_12 ?_
          refine j_getr (kf := 0) (m := 1) C d_X_room_73 sh_0 rfl i_S rfl rfl fl_X_76 ?_
          refine j_iload C d_X_room_76 1 rfl ?_
          refine j_iconst C d_X_room_78 ?_
          refine j_iadd C d_X_room_79 ?_
          refine j_iload_n C d_X_room_80 4 rfl rfl ?_
          obtain ⟨g13, h⟩ := h
          refine j_iastore C d_X_room_81 sh_1 g13 ?_
          refine j_mem (fun σ14 eσ14 => ?_)
          have h := h σ14 eσ14
          have hσ14 : zRM σ14 := by rw [eσ14]; exact zU_rg hσ10 _ _ r2
          refine j_aload_n C d_X_room_82 2 rfl rfl ?_
          refine j_getr (kf := 0) (m := 0) C d_X_room_83 sh_54 rfl i_X rfl rfl fl_X_12 ?_
          refine j_getr (kf := 0) (m := 1) C d_X_room_86 sh_0 rfl i_S rfl rfl fl_X_76 ?_
          refine j_iload C d_X_room_89 1 rfl ?_
          refine j_iconst C d_X_room_91 ?_
          refine j_iadd C d_X_room_92 ?_
          refine j_iload_n C d_X_room_93 5 rfl rfl ?_
          obtain ⟨g15, h⟩ := h
          refine j_iastore C d_X_room_94 sh_1 g15 ?_
          refine j_mem (fun σ16 eσ16 => ?_)
          have h := h σ16 eσ16
          have hσ16 : zRM σ16 := by rw [eσ16]; exact zU_rg hσ14 _ _ r3
          refine j_aload_n C d_X_room_95 2 rfl rfl ?_
          refine j_getr (kf := 0) (m := 0) C d_X_room_96 sh_54 rfl i_X rfl rfl fl_X_12 ?_
          refine j_getr (kf := 0) (m := 1) C d_X_room_99 sh_0 rfl i_S rfl rfl fl_X_76 ?_
          refine j_iload C d_X_room_102 1 rfl ?_
          refine j_iconst C d_X_room_104 ?_
          refine j_iadd C d_X_room_105 ?_
          refine j_iload C d_X_room_106 6 rfl ?_
          obtain ⟨g17, h⟩ := h
          refine j_iastore C d_X_room_108 sh_1 g17 ?_
          refine j_mem (fun σ18 eσ18 => ?_)
          have h := h σ18 eσ18
          have hσ18 : zRM σ18 := by rw [eσ18]; exact zU_rg hσ16 _ _ r4
          refine j_iload C d_X_room_109 0 rfl ?_
          exact j_ireturn C d_X_room_111 (hσ10 _ _) hσ18 h
        · have h := h.2 c
          refine j_bipush C d_X_room_43 rfl ?_
          exact j_ireturn C d_X_room_45 (zR_of (x := (-2)) rfl) hσ h
  · have h := h.2 c
    refine j_iconst C d_X_room_7 ?_
    exact j_ireturn C d_X_room_8 (zR_of (x := (-1)) rfl) hσ h
set_option maxRecDepth 100000 in
set_option maxHeartbeats 4000000 in
theorem c_S_dropSpans (l : Launch) (D : va_G) (ad : Nat → Nat) (ca : Nat → ClassId) {σ : zM} {v1 : Int} {v2 : Int} {Q : zM → Prop} (hσ : zRM σ) (r1 : zR v1) (r2 : zR v2) (h : wp_S_dropSpans σ v1 v2 Q) : zCv l D ad ca y_S_dropSpans b_S_dropSpans 4 (zrm 2 46) [.ref (ad 0), .int (zI v1), .int (zI v2)] σ Q := by
  refine zCv_of (by decide +kernel) (Nat.le_of_ble_eq_true rfl) ?_
  intro X G C hl hD had hca
  subst hl hD had hca
  have C : zC X G b_S_dropSpans "GateRoads$State" 4 (none) 2 46 := C
  show zJ X G (zQv X G Q) 4 0 [(0, .ref (gad G 0)), (1, .int (zI v1)), (2, .int (zI v2))] [] σ
  unfold wp_S_dropSpans at h
  refine j_iload_n C d_S_dropSpans_0 1 rfl rfl ?_
  refine j_bipush C d_S_dropSpans_1 rfl ?_
  refine j_imul C d_S_dropSpans_3 ?_
  obtain ⟨g1, h⟩ := h
  refine j_istore_n (L' := [(3, .int (zI (v1 * 11))), (0, .ref (gad G 0)), (1, .int (zI v1)), (2, .int (zI v2))]) C d_S_dropSpans_4 rfl rfl rfl ?_
  refine j_aload_n C d_S_dropSpans_5 1 rfl rfl ?_
  refine j_getr (kf := 1) (m := 2) C d_S_dropSpans_6 sh_0 rfl i_S rfl rfl fl_S_15 ?_
  refine j_iload_n C d_S_dropSpans_9 0 rfl rfl ?_
  refine j_iconst C d_S_dropSpans_10 ?_
  refine j_iadd C d_S_dropSpans_11 ?_
  refine j_iload_n C d_S_dropSpans_12 3 rfl rfl ?_
  obtain ⟨g2, h⟩ := h
  refine j_iastore C d_S_dropSpans_13 sh_2 g2 ?_
  refine j_mem (fun σ3 eσ3 => ?_)
  have h := h σ3 eσ3
  have hσ3 : zRM σ3 := by rw [eσ3]; exact zU_rg hσ _ _ r2
  refine j_aload_n C d_S_dropSpans_14 1 rfl rfl ?_
  refine j_getr (kf := 1) (m := 2) C d_S_dropSpans_15 sh_0 rfl i_S rfl rfl fl_S_15 ?_
  refine j_iload_n C d_S_dropSpans_18 0 rfl rfl ?_
  refine j_iconst C d_S_dropSpans_19 ?_
  refine j_iadd C d_S_dropSpans_20 ?_
  refine j_iconst C d_S_dropSpans_21 ?_
  obtain ⟨g4, h⟩ := h
  refine j_iastore C d_S_dropSpans_22 sh_2 g4 ?_
  refine j_mem (fun σ5 eσ5 => ?_)
  have h := h σ5 eσ5
  have hσ5 : zRM σ5 := by rw [eσ5]; exact zU_rg hσ3 _ _ (zR_of (x := 0) rfl)
  refine j_aload_n C d_S_dropSpans_23 1 rfl rfl ?_
  refine j_getr (kf := 1) (m := 2) C d_S_dropSpans_24 sh_0 rfl i_S rfl rfl fl_S_15 ?_
  refine j_iload_n C d_S_dropSpans_27 0 rfl rfl ?_
  refine j_iconst C d_S_dropSpans_28 ?_
  refine j_iadd C d_S_dropSpans_29 ?_
  refine j_iload_n C d_S_dropSpans_30 0 rfl rfl ?_
  refine j_bipush C d_S_dropSpans_31 rfl ?_
  refine j_iadd C d_S_dropSpans_33 ?_
  refine j_bipush C d_S_dropSpans_34 rfl ?_
  obtain ⟨g6, h⟩ := h
  obtain ⟨g7, h⟩ := h
  obtain ⟨g8, h⟩ := h
  refine j_callSv C d_S_dropSpans_36 ml_S_51 ms_Ar_fill_1 (c_Ar_fill_1 (xl X) (gD G) (gad G) (gca G) hσ5 sh_2 (zR_of (x := (-6)) rfl) g8) rfl rfl rfl rfl rfl (fun σ9 hσ9 eσ9 => ?_)
  have h := h σ9 eσ9
  exact j_vreturn C d_S_dropSpans_39 hσ9 h
set_option maxRecDepth 100000 in
set_option maxHeartbeats 4000000 in
theorem c_S_spanFrom (l : Launch) (D : va_G) (ad : Nat → Nat) (ca : Nat → ClassId) {σ : zM} {v1 : Int} {v2 : Int} {Q : Int → Prop} (hσ : zRM σ) (r1 : zR v1) (r2 : zR v2) (h : wp_S_spanFrom σ v1 v2 Q) : zCi l D ad ca y_S_spanFrom b_S_spanFrom 3 (some .int) (zrm 0 0) [.ref (ad 0), .int (zI v1), .int (zI v2)] σ (fun z u => σ = u ∧ Q z) := by
  refine zCi_of (by decide +kernel) (Nat.le_of_ble_eq_true rfl) ?_
  intro X G C hl hD had hca
  subst hl hD had hca
  have C : zC X G b_S_spanFrom "GateRoads$State" 3 (some .int) 0 0 := C
  show zJ X G (zQi X G (fun z u => σ = u ∧ Q z)) 3 0 [(0, .ref (gad G 0)), (1, .int (zI v1)), (2, .int (zI v2))] [] σ
  unfold wp_S_spanFrom at h
  refine j_aload_n C d_S_spanFrom_0 0 rfl rfl ?_
  refine j_getr (kf := 1) (m := 2) C d_S_spanFrom_1 sh_0 rfl i_S rfl rfl fl_S_15 ?_
  refine j_iload_n C d_S_spanFrom_4 1 rfl rfl ?_
  refine j_bipush C d_S_spanFrom_5 rfl ?_
  refine j_imul C d_S_spanFrom_7 ?_
  refine j_iconst C d_S_spanFrom_8 ?_
  refine j_iadd C d_S_spanFrom_9 ?_
  refine j_iconst C d_S_spanFrom_10 ?_
  refine j_iload_n C d_S_spanFrom_11 2 rfl rfl ?_
  refine j_imul C d_S_spanFrom_12 ?_
  refine j_iadd C d_S_spanFrom_13 ?_
  obtain ⟨g1, h⟩ := h
  refine j_iaload C d_S_spanFrom_14 sh_2 g1 ?_
  exact j_ireturn C d_S_spanFrom_15 (hσ _ _) hσ ⟨rfl, h⟩
set_option maxRecDepth 100000 in
set_option maxHeartbeats 4000000 in
theorem c_S_spanTo (l : Launch) (D : va_G) (ad : Nat → Nat) (ca : Nat → ClassId) {σ : zM} {v1 : Int} {v2 : Int} {Q : Int → Prop} (hσ : zRM σ) (r1 : zR v1) (r2 : zR v2) (h : wp_S_spanTo σ v1 v2 Q) : zCi l D ad ca y_S_spanTo b_S_spanTo 3 (some .int) (zrm 0 0) [.ref (ad 0), .int (zI v1), .int (zI v2)] σ (fun z u => σ = u ∧ Q z) := by
  refine zCi_of (by decide +kernel) (Nat.le_of_ble_eq_true rfl) ?_
  intro X G C hl hD had hca
  subst hl hD had hca
  have C : zC X G b_S_spanTo "GateRoads$State" 3 (some .int) 0 0 := C
  show zJ X G (zQi X G (fun z u => σ = u ∧ Q z)) 3 0 [(0, .ref (gad G 0)), (1, .int (zI v1)), (2, .int (zI v2))] [] σ
  unfold wp_S_spanTo at h
  refine j_aload_n C d_S_spanTo_0 0 rfl rfl ?_
  refine j_getr (kf := 1) (m := 2) C d_S_spanTo_1 sh_0 rfl i_S rfl rfl fl_S_15 ?_
  refine j_iload_n C d_S_spanTo_4 1 rfl rfl ?_
  refine j_bipush C d_S_spanTo_5 rfl ?_
  refine j_imul C d_S_spanTo_7 ?_
  refine j_iconst C d_S_spanTo_8 ?_
  refine j_iadd C d_S_spanTo_9 ?_
  refine j_iconst C d_S_spanTo_10 ?_
  refine j_iload_n C d_S_spanTo_11 2 rfl rfl ?_
  refine j_imul C d_S_spanTo_12 ?_
  refine j_iadd C d_S_spanTo_13 ?_
  refine j_iconst C d_S_spanTo_14 ?_
  refine j_iadd C d_S_spanTo_15 ?_
  obtain ⟨g1, h⟩ := h
  refine j_iaload C d_S_spanTo_16 sh_2 g1 ?_
  exact j_ireturn C d_S_spanTo_17 (hσ _ _) hσ ⟨rfl, h⟩
set_option maxRecDepth 100000 in
set_option maxHeartbeats 4000000 in
theorem w_S_addSpan_L27 {X : zX} {G : zG} (C : zC X G b_S_addSpan "GateRoads$State" 7 (none) 1 22) {v1 : Int} {v2 : Int} {v3 : Int} {v4 : Int} {v5 : Int} (r1 : zR v1) (r2 : zR v2) (r3 : zR v3) (r4 : zR v4) (r5 : zR v5) {Q : zM → Prop} {k95 : zM → Int → Prop} (hk95 : ∀ (σ : zM) (v6 : Int), zRM σ → zR v6 → k95 σ v6 → zJ X G (zQv X G Q) 7 95 [(0, .ref (gad G 0)), (1, .int (zI v1)), (2, .int (zI v2)), (3, .int (zI v3)), (4, .int (zI v4)), (5, .int (zI v5)), (6, .int (zI v6))] [] σ) : ∀ (n : Nat) (σ : zM) (v6 : Int) (hσ : zRM σ) (r6 : zR v6), wp_S_addSpan_L27 v1 v2 v3 v4 v5 k95 Q n σ v6 → zJ X G (zQv X G Q) 7 27 [(0, .ref (gad G 0)), (1, .int (zI v1)), (2, .int (zI v2)), (3, .int (zI v3)), (4, .int (zI v4)), (5, .int (zI v5)), (6, .int (zI v6))] [] σ := by
  intro n
  induction n with
  | zero => intro σ v6 hσ r6 h; exact False.elim h
  | succ n ih =>
    intro σ v6 hσ r6 h
    rw [wp_S_addSpan_L27] at h
    refine j_iload C d_S_addSpan_27 6 rfl ?_
    refine j_if_le (tgt := 95) C d_S_addSpan_29 rfl r6 (fun c => ?_) (fun c => ?_)
    · have h := h.1 c
      exact hk95 σ v6 hσ r6 h
    · have h := h.2 c
      refine j_aload_n C d_S_addSpan_32 0 rfl rfl ?_
      refine j_iload_n C d_S_addSpan_33 1 rfl rfl ?_
      refine j_iload C d_S_addSpan_34 6 rfl ?_
      refine j_iconst C d_S_addSpan_36 ?_
      refine j_isub C d_S_addSpan_37 ?_
      obtain ⟨g4, h⟩ := h
      refine j_callV C d_S_addSpan_38 ml_S_64 mi_S_spanFrom (c_S_spanFrom (xl X) (gD G) (gad G) (gca G) (v1 := v1) (v2 := v6 - 1) hσ r1 g4 h) sh_0 rfl rfl rfl rfl rfl rfl rfl (fun z5 σ6 rz5 hσ6 h => ?_)
      obtain ⟨ez5, h⟩ := h; subst ez5
      refine j_iload_n C d_S_addSpan_41 2 rfl rfl ?_
      refine j_icmp_le (tgt := 95) C d_S_addSpan_42 rfl rz5 r2 (fun c => ?_) (fun c => ?_)
      · have h := h.1 c
        exact hk95 σ v6 hσ r6 h
      · have h := h.2 c
        refine j_aload_n C d_S_addSpan_45 0 rfl rfl ?_
        refine j_getr (kf := 1) (m := 2) C d_S_addSpan_46 sh_0 rfl i_S rfl rfl fl_S_15 ?_
        refine j_iload C d_S_addSpan_49 5 rfl ?_
        refine j_iconst C d_S_addSpan_51 ?_
        refine j_iload C d_S_addSpan_52 6 rfl ?_
        refine j_imul C d_S_addSpan_54 ?_
        refine j_iadd C d_S_addSpan_55 ?_
        refine j_aload_n C d_S_addSpan_56 0 rfl rfl ?_
        refine j_iload_n C d_S_addSpan_57 1 rfl rfl ?_
        refine j_iload C d_S_addSpan_58 6 rfl ?_
        refine j_iconst C d_S_addSpan_60 ?_
        refine j_isub C d_S_addSpan_61 ?_
        obtain ⟨g7, h⟩ := h
        refine j_callV C d_S_addSpan_62 ml_S_64 mi_S_spanFrom (c_S_spanFrom (xl X) (gD G) (gad G) (gca G) (v1 := v1) (v2 := v6 - 1) hσ r1 g7 h) sh_0 rfl rfl rfl rfl rfl rfl rfl (fun z8 σ9 rz8 hσ9 h => ?_)
        obtain ⟨ez8, h⟩ := h; subst ez8
        obtain ⟨g10, h⟩ := h
        refine j_iastore C d_S_addSpan_65 sh_2 g10 ?_
        refine j_mem (fun σ11 eσ11 => ?_)
        have h := h σ11 eσ11
        have hσ11 : zRM σ11 := by rw [eσ11]; exact zU_rg hσ _ _ rz8
        refine j_aload_n C d_S_addSpan_66 0 rfl rfl ?_
        refine j_getr (kf := 1) (m := 2) C d_S_addSpan_67 sh_0 rfl i_S rfl rfl fl_S_15 ?_
        refine j_iload C d_S_addSpan_70 5 rfl ?_
        refine j_iconst C d_S_addSpan_72 ?_
        refine j_iload C d_S_addSpan_73 6 rfl ?_
        refine j_imul C d_S_addSpan_75 ?_
        refine j_iadd C d_S_addSpan_76 ?_
        refine j_iconst C d_S_addSpan_77 ?_
        refine j_iadd C d_S_addSpan_78 ?_
        refine j_aload_n C d_S_addSpan_79 0 rfl rfl ?_
        refine j_iload_n C d_S_addSpan_80 1 rfl rfl ?_
        refine j_iload C d_S_addSpan_81 6 rfl ?_
        refine j_iconst C d_S_addSpan_83 ?_
        refine j_isub C d_S_addSpan_84 ?_
        obtain ⟨g12, h⟩ := h
        refine j_callV C d_S_addSpan_85 ml_S_61 mi_S_spanTo (c_S_spanTo (xl X) (gD G) (gad G) (gca G) (v1 := v1) (v2 := v6 - 1) hσ11 r1 g12 h) sh_0 rfl rfl rfl rfl rfl rfl rfl (fun z13 σ14 rz13 hσ14 h => ?_)
        obtain ⟨ez13, h⟩ := h; subst ez13
        obtain ⟨g15, h⟩ := h
        refine j_iastore C d_S_addSpan_88 sh_2 g15 ?_
        refine j_mem (fun σ16 eσ16 => ?_)
        have h := h σ16 eσ16
        have hσ16 : zRM σ16 := by rw [eσ16]; exact zU_rg hσ11 _ _ rz13
        obtain ⟨g17, h⟩ := h
        refine j_iinc (L' := [(6, .int (zI (v6 + (-1)))), (0, .ref (gad G 0)), (1, .int (zI v1)), (2, .int (zI v2)), (3, .int (zI v3)), (4, .int (zI v4)), (5, .int (zI v5))]) C d_S_addSpan_89 6 rfl rfl rfl ?_
        refine j_goto (tgt := 27) C d_S_addSpan_92 rfl ?_
        refine j_sub (L' := [(0, .ref (gad G 0)), (1, .int (zI v1)), (2, .int (zI v2)), (3, .int (zI v3)), (4, .int (zI v4)), (5, .int (zI v5)), (6, .int (zI (v6 + (-1))))]) [1, 2, 3, 4, 5, 6, 0] rfl ?_
        exact ih σ16 (v6 + (-1)) hσ16 g17 h
set_option maxRecDepth 100000 in
set_option maxHeartbeats 4000000 in
theorem w_S_addSpan_b95 {X : zX} {G : zG} (C : zC X G b_S_addSpan "GateRoads$State" 7 (none) 1 22) {Q : zM → Prop} (σ : zM) (v1 : Int) (v2 : Int) (v3 : Int) (v4 : Int) (v5 : Int) (v6 : Int) (hσ : zRM σ) (r1 : zR v1) (r2 : zR v2) (r3 : zR v3) (r4 : zR v4) (r5 : zR v5) (r6 : zR v6) (h : wp_S_addSpan_b95 Q σ v1 v2 v3 v4 v5 v6) : zJ X G (zQv X G Q) 7 95 [(0, .ref (gad G 0)), (1, .int (zI v1)), (2, .int (zI v2)), (3, .int (zI v3)), (4, .int (zI v4)), (5, .int (zI v5)), (6, .int (zI v6))] [] σ := by
  unfold wp_S_addSpan_b95 at h
  refine j_aload_n C d_S_addSpan_95 0 rfl rfl ?_
  refine j_getr (kf := 1) (m := 2) C d_S_addSpan_96 sh_0 rfl i_S rfl rfl fl_S_15 ?_
  refine j_iload C d_S_addSpan_99 5 rfl ?_
  refine j_iconst C d_S_addSpan_101 ?_
  refine j_iload C d_S_addSpan_102 6 rfl ?_
  refine j_imul C d_S_addSpan_104 ?_
  refine j_iadd C d_S_addSpan_105 ?_
  refine j_iload_n C d_S_addSpan_106 2 rfl rfl ?_
  obtain ⟨g20, h⟩ := h
  refine j_iastore C d_S_addSpan_107 sh_2 g20 ?_
  refine j_mem (fun σ21 eσ21 => ?_)
  have h := h σ21 eσ21
  have hσ21 : zRM σ21 := by rw [eσ21]; exact zU_rg hσ _ _ r2
  refine j_aload_n C d_S_addSpan_108 0 rfl rfl ?_
  refine j_getr (kf := 1) (m := 2) C d_S_addSpan_109 sh_0 rfl i_S rfl rfl fl_S_15 ?_
  refine j_iload C d_S_addSpan_112 5 rfl ?_
  refine j_iconst C d_S_addSpan_114 ?_
  refine j_iload C d_S_addSpan_115 6 rfl ?_
  refine j_imul C d_S_addSpan_117 ?_
  refine j_iadd C d_S_addSpan_118 ?_
  refine j_iconst C d_S_addSpan_119 ?_
  refine j_iadd C d_S_addSpan_120 ?_
  refine j_iload_n C d_S_addSpan_121 3 rfl rfl ?_
  obtain ⟨g22, h⟩ := h
  refine j_iastore C d_S_addSpan_122 sh_2 g22 ?_
  refine j_mem (fun σ23 eσ23 => ?_)
  have h := h σ23 eσ23
  have hσ23 : zRM σ23 := by rw [eσ23]; exact zU_rg hσ21 _ _ r3
  refine j_aload_n C d_S_addSpan_123 0 rfl rfl ?_
  refine j_getr (kf := 1) (m := 2) C d_S_addSpan_124 sh_0 rfl i_S rfl rfl fl_S_15 ?_
  refine j_iload_n C d_S_addSpan_127 1 rfl rfl ?_
  refine j_bipush C d_S_addSpan_128 rfl ?_
  refine j_imul C d_S_addSpan_130 ?_
  refine j_iconst C d_S_addSpan_131 ?_
  refine j_iadd C d_S_addSpan_132 ?_
  refine j_iload C d_S_addSpan_133 4 rfl ?_
  refine j_iconst C d_S_addSpan_135 ?_
  refine j_iadd C d_S_addSpan_136 ?_
  obtain ⟨g24, h⟩ := h
  obtain ⟨g25, h⟩ := h
  refine j_iastore C d_S_addSpan_137 sh_2 g24 ?_
  refine j_mem (fun σ26 eσ26 => ?_)
  have h := h σ26 eσ26
  have hσ26 : zRM σ26 := by rw [eσ26]; exact zU_rg hσ23 _ _ g25
  exact j_vreturn C d_S_addSpan_138 hσ26 h
set_option maxRecDepth 100000 in
set_option maxHeartbeats 4000000 in
theorem c_S_addSpan (l : Launch) (D : va_G) (ad : Nat → Nat) (ca : Nat → ClassId) {σ : zM} {v1 : Int} {v2 : Int} {v3 : Int} {Q : zM → Prop} (hσ : zRM σ) (r1 : zR v1) (r2 : zR v2) (r3 : zR v3) (h : wp_S_addSpan σ v1 v2 v3 Q) : zCv l D ad ca y_S_addSpan b_S_addSpan 7 (zrm 1 22) [.ref (ad 0), .int (zI v1), .int (zI v2), .int (zI v3)] σ Q := by
  refine zCv_of (by decide +kernel) (Nat.le_of_ble_eq_true rfl) ?_
  intro X G C hl hD had hca
  subst hl hD had hca
  have C : zC X G b_S_addSpan "GateRoads$State" 7 (none) 1 22 := C
  show zJ X G (zQv X G Q) 7 0 [(0, .ref (gad G 0)), (1, .int (zI v1)), (2, .int (zI v2)), (3, .int (zI v3))] [] σ
  unfold wp_S_addSpan at h
  refine j_aload_n C d_S_addSpan_0 0 rfl rfl ?_
  refine j_iload_n C d_S_addSpan_1 1 rfl rfl ?_
  refine j_iconst C d_S_addSpan_2 ?_
  refine j_callV C d_S_addSpan_3 ml_S_57 mi_S_ofRoads (c_S_ofRoads (xl X) (gD G) (gad G) (gca G) (v1 := v1) (v2 := 4) hσ r1 (zR_of (x := 4) rfl) h) sh_0 rfl rfl rfl rfl rfl rfl rfl (fun z1 σ2 rz1 hσ2 h => ?_)
  obtain ⟨ez1, h⟩ := h; subst ez1
  refine j_istore (L' := [(4, .int (zI z1)), (0, .ref (gad G 0)), (1, .int (zI v1)), (2, .int (zI v2)), (3, .int (zI v3))]) C d_S_addSpan_6 rfl rfl ?_
  refine j_iload C d_S_addSpan_8 0 rfl ?_
  refine j_iconst C d_S_addSpan_10 ?_
  refine j_icmp_lt (tgt := 15) C d_S_addSpan_11 rfl rz1 (zR_of (x := 3) rfl) (fun c => ?_) (fun c => ?_)
  · have h := h.1 c
    refine j_iload_n C d_S_addSpan_15 2 rfl rfl ?_
    refine j_bipush C d_S_addSpan_16 rfl ?_
    refine j_imul C d_S_addSpan_18 ?_
    refine j_iconst C d_S_addSpan_19 ?_
    refine j_iadd C d_S_addSpan_20 ?_
    obtain ⟨g3, h⟩ := h
    refine j_istore (L' := [(5, .int (zI ((v1 * 11) + 5))), (4, .int (zI z1)), (0, .ref (gad G 0)), (1, .int (zI v1)), (2, .int (zI v2)), (3, .int (zI v3))]) C d_S_addSpan_21 rfl rfl ?_
    refine j_iload C d_S_addSpan_23 1 rfl ?_
    refine j_istore (L' := [(6, .int (zI z1)), (5, .int (zI ((v1 * 11) + 5))), (4, .int (zI z1)), (0, .ref (gad G 0)), (1, .int (zI v1)), (2, .int (zI v2)), (3, .int (zI v3))]) C d_S_addSpan_25 rfl rfl ?_
    obtain ⟨n27, h⟩ := h
    refine j_sub (L' := [(0, .ref (gad G 0)), (1, .int (zI v1)), (2, .int (zI v2)), (3, .int (zI v3)), (4, .int (zI z1)), (5, .int (zI ((v1 * 11) + 5))), (6, .int (zI z1))]) [3, 4, 5, 6, 2, 1, 0] rfl ?_
    refine w_S_addSpan_L27 C r1 r2 r3 rz1 g3 ?_ n27 σ z1 hσ rz1 h
    · intro σ18 u19 hσ18 ru19 h
      refine w_S_addSpan_b95 C σ18 v1 v2 v3 z1 ((v1 * 11) + 5) u19 hσ18 r1 r2 r3 rz1 g3 ru19 h
  · have h := h.2 c
    exact j_vreturn C d_S_addSpan_14 hσ h
set_option maxRecDepth 100000 in
set_option maxHeartbeats 4000000 in
theorem c_S_addRoad (l : Launch) (D : va_G) (ad : Nat → Nat) (ca : Nat → ClassId) {σ : zM} {v1 : Int} {v2 : Int} {v3 : Int} {Q : Int → zM → Prop} (hσ : zRM σ) (r1 : zR v1) (r2 : zR v2) (r3 : zR v3) (h : wp_S_addRoad σ v1 v2 v3 Q) : zCi l D ad ca y_S_addRoad b_S_addRoad 6 (some .int) (zrm 3 69) [.ref (ad 0), .int (zI v1), .int (zI v2), .int (zI v3)] σ Q := by
  refine zCi_of (by decide +kernel) (Nat.le_of_ble_eq_true rfl) ?_
  intro X G C hl hD had hca
  subst hl hD had hca
  have C : zC X G b_S_addRoad "GateRoads$State" 6 (some .int) 3 69 := C
  show zJ X G (zQi X G Q) 6 0 [(0, .ref (gad G 0)), (1, .int (zI v1)), (2, .int (zI v2)), (3, .int (zI v3))] [] σ
  unfold wp_S_addRoad at h
  refine j_aload_n C d_S_addRoad_0 0 rfl rfl ?_
  refine j_geti (kf := 5) (kI := 5) C d_S_addRoad_1 sh_0 rfl i_S rfl rfl rfl fl_S_33 ?_
  refine j_istore (L' := [(4, .int (zI (σ 0 5))), (0, .ref (gad G 0)), (1, .int (zI v1)), (2, .int (zI v2)), (3, .int (zI v3))]) C d_S_addRoad_4 rfl rfl ?_
  refine j_iload C d_S_addRoad_6 0 rfl ?_
  refine j_bipush C d_S_addRoad_8 rfl ?_
  refine j_imul C d_S_addRoad_10 ?_
  obtain ⟨g1, h⟩ := h
  refine j_istore (L' := [(5, .int (zI ((σ 0 5) * 11))), (4, .int (zI (σ 0 5))), (0, .ref (gad G 0)), (1, .int (zI v1)), (2, .int (zI v2)), (3, .int (zI v3))]) C d_S_addRoad_11 rfl rfl ?_
  refine j_aload_n C d_S_addRoad_13 2 rfl rfl ?_
  refine j_getr (kf := 1) (m := 2) C d_S_addRoad_14 sh_0 rfl i_S rfl rfl fl_S_15 ?_
  refine j_iload C d_S_addRoad_17 0 rfl ?_
  refine j_iconst C d_S_addRoad_19 ?_
  refine j_iadd C d_S_addRoad_20 ?_
  refine j_iload_n C d_S_addRoad_21 3 rfl rfl ?_
  obtain ⟨g2, h⟩ := h
  refine j_iastore C d_S_addRoad_22 sh_2 g2 ?_
  refine j_mem (fun σ3 eσ3 => ?_)
  have h := h σ3 eσ3
  have hσ3 : zRM σ3 := by rw [eσ3]; exact zU_rg hσ _ _ r1
  refine j_aload_n C d_S_addRoad_23 2 rfl rfl ?_
  refine j_getr (kf := 1) (m := 2) C d_S_addRoad_24 sh_0 rfl i_S rfl rfl fl_S_15 ?_
  refine j_iload C d_S_addRoad_27 0 rfl ?_
  refine j_iconst C d_S_addRoad_29 ?_
  refine j_iadd C d_S_addRoad_30 ?_
  refine j_iload_n C d_S_addRoad_31 4 rfl rfl ?_
  obtain ⟨g4, h⟩ := h
  refine j_iastore C d_S_addRoad_32 sh_2 g4 ?_
  refine j_mem (fun σ5 eσ5 => ?_)
  have h := h σ5 eσ5
  have hσ5 : zRM σ5 := by rw [eσ5]; exact zU_rg hσ3 _ _ r2
  refine j_aload_n C d_S_addRoad_33 2 rfl rfl ?_
  refine j_getr (kf := 1) (m := 2) C d_S_addRoad_34 sh_0 rfl i_S rfl rfl fl_S_15 ?_
  refine j_iload C d_S_addRoad_37 0 rfl ?_
  refine j_iconst C d_S_addRoad_39 ?_
  refine j_iadd C d_S_addRoad_40 ?_
  refine j_iload_n C d_S_addRoad_41 5 rfl rfl ?_
  obtain ⟨g6, h⟩ := h
  refine j_iastore C d_S_addRoad_42 sh_2 g6 ?_
  refine j_mem (fun σ7 eσ7 => ?_)
  have h := h σ7 eσ7
  have hσ7 : zRM σ7 := by rw [eσ7]; exact zU_rg hσ5 _ _ r3
  refine j_aload_n C d_S_addRoad_43 2 rfl rfl ?_
  refine j_getr (kf := 2) (m := 3) C d_S_addRoad_44 sh_0 rfl i_S rfl rfl fl_S_18 ?_
  refine j_iload C d_S_addRoad_47 1 rfl ?_
  refine j_iconst C d_S_addRoad_49 ?_
  obtain ⟨g8, h⟩ := h
  refine j_iastore C d_S_addRoad_50 sh_3 g8 ?_
  refine j_mem (fun σ9 eσ9 => ?_)
  have h := h σ9 eσ9
  have hσ9 : zRM σ9 := by rw [eσ9]; exact zU_rg hσ7 _ _ (zR_of (x := 0) rfl)
  refine j_aload_n C d_S_addRoad_51 2 rfl rfl ?_
  refine j_dup C d_S_addRoad_52 rfl ?_
  refine j_geti (kf := 5) (kI := 5) C d_S_addRoad_53 sh_0 rfl i_S rfl rfl rfl fl_S_33 ?_
  refine j_iconst C d_S_addRoad_56 ?_
  refine j_iadd C d_S_addRoad_57 ?_
  obtain ⟨g10, h⟩ := h
  refine j_puti (kf := 5) (kI := 5) C t_S d_S_addRoad_58 sh_0 rfl i_S t_S_ok n_S rfl rfl rfl fl_S_33 rfl (Or.inl rfl) ?_
  refine j_mem (fun σ11 eσ11 => ?_)
  have h := h σ11 eσ11
  have hσ11 : zRM σ11 := by rw [eσ11]; exact zU_rg hσ9 _ _ g10
  refine j_aload_n C d_S_addRoad_61 2 rfl rfl ?_
  refine j_iload C d_S_addRoad_62 1 rfl ?_
  refine j_iconst C d_S_addRoad_64 ?_
  refine j_callVv C d_S_addRoad_65 ml_S_43 mi_S_dropSpans (c_S_dropSpans (xl X) (gD G) (gad G) (gca G) (v1 := σ 0 5) (v2 := 0) hσ11 (hσ _ _) (zR_of (x := 0) rfl) h) sh_0 rfl rfl rfl rfl rfl rfl rfl (fun σ13 hσ13 h => ?_)
  refine j_aload_n C d_S_addRoad_68 2 rfl rfl ?_
  refine j_iload C d_S_addRoad_69 1 rfl ?_
  refine j_iconst C d_S_addRoad_71 ?_
  refine j_sipush C d_S_addRoad_72 rfl ?_
  refine j_callVv C d_S_addRoad_75 ml_S_47 mi_S_addSpan (c_S_addSpan (xl X) (gD G) (gad G) (gca G) (v1 := σ 0 5) (v2 := 0) (v3 := 1440) hσ13 (hσ _ _) (zR_of (x := 0) rfl) (zR_of (x := 1440) rfl) h) sh_0 rfl rfl rfl rfl rfl rfl rfl (fun σ15 hσ15 h => ?_)
  refine j_iload C d_S_addRoad_78 1 rfl ?_
  exact j_ireturn C d_S_addRoad_80 (hσ _ _) hσ15 h
set_option maxRecDepth 100000 in
set_option maxHeartbeats 4000000 in
theorem c_X_road (l : Launch) (D : va_G) (ad : Nat → Nat) (ca : Nat → ClassId) {σ : zM} {v1 : Int} {v2 : Int} {v3 : Int} {Q : Int → zM → Prop} (hσ : zRM σ) (r1 : zR v1) (r2 : zR v2) (r3 : zR v3) (h : wp_X_road σ v1 v2 v3 Q) : zCi l D ad ca y_X_road b_X_road 4 (some .int) (zrm 4 94) [.ref (ad 54), .int (zI v1), .int (zI v2), .int (zI v3)] σ Q := by
  refine zCi_of (by decide +kernel) (Nat.le_of_ble_eq_true rfl) ?_
  intro X G C hl hD had hca
  subst hl hD had hca
  have C : zC X G b_X_road "GateRoads" 4 (some .int) 4 94 := C
  show zJ X G (zQi X G Q) 4 0 [(0, .ref (gad G 54)), (1, .int (zI v1)), (2, .int (zI v2)), (3, .int (zI v3))] [] σ
  unfold wp_X_road at h
  refine j_iload_n C d_X_road_0 1 rfl rfl ?_
  refine j_callS C d_X_road_1 ml_X_65 ms_X_isPlace (c_X_isPlace (xl X) (gD G) (gad G) (gca G) (v0 := v1) hσ r1 h) rfl rfl rfl rfl rfl (fun z1 σ2 rz1 hσ2 h => ?_)
  obtain ⟨ez1, h⟩ := h; subst ez1
  refine j_if_eq (tgt := 19) C d_X_road_4 rfl rz1 (fun c => ?_) (fun c => ?_)
  · have h := h.1 c
    refine j_iconst C d_X_road_19 ?_
    exact j_ireturn C d_X_road_20 (zR_of (x := (-1)) rfl) hσ h
  · have h := h.2 c
    refine j_iload_n C d_X_road_7 2 rfl rfl ?_
    refine j_callS C d_X_road_8 ml_X_65 ms_X_isPlace (c_X_isPlace (xl X) (gD G) (gad G) (gca G) (v0 := v2) hσ r2 h) rfl rfl rfl rfl rfl (fun z3 σ4 rz3 hσ4 h => ?_)
    obtain ⟨ez3, h⟩ := h; subst ez3
    refine j_if_eq (tgt := 19) C d_X_road_11 rfl rz3 (fun c => ?_) (fun c => ?_)
    · have h := h.1 c
      refine j_iconst C d_X_road_19 ?_
      exact j_ireturn C d_X_road_20 (zR_of (x := (-1)) rfl) hσ h
    · have h := h.2 c
      refine j_iload_n C d_X_road_14 1 rfl rfl ?_
      refine j_iload_n C d_X_road_15 2 rfl rfl ?_
      refine j_icmp_ne (tgt := 21) C d_X_road_16 rfl r1 r2 (fun c => ?_) (fun c => ?_)
      · have h := h.1 c
        refine j_iload_n C d_X_road_21 3 rfl rfl ?_
        refine j_iconst C d_X_road_22 ?_
        refine j_sipush C d_X_road_23 rfl ?_
        refine j_callS C d_X_road_26 ml_X_69 ms_X_within (c_X_within (xl X) (gD G) (gad G) (gca G) (v0 := v3) (v1 := 1) (v2 := 600) hσ r3 (zR_of (x := 1) rfl) (zR_of (x := 600) rfl) h) rfl rfl rfl rfl rfl (fun z5 σ6 rz5 hσ6 h => ?_)
        obtain ⟨ez5, h⟩ := h; subst ez5
        refine j_if_ne (tgt := 35) C d_X_road_29 rfl rz5 (fun c => ?_) (fun c => ?_)
        · have h := h.1 c
          refine j_aload_n C d_X_road_35 0 rfl rfl ?_
          refine j_getr (kf := 0) (m := 0) C d_X_road_36 sh_54 rfl i_X rfl rfl fl_X_12 ?_
          refine j_geti (kf := 5) (kI := 5) C d_X_road_39 sh_0 rfl i_S rfl rfl rfl fl_X_80 ?_
          refine j_bipush C d_X_road_42 rfl ?_
          refine j_icmp_lt (tgt := 50) C d_X_road_44 rfl (hσ _ _) (zR_of (x := 24) rfl) (fun c => ?_) (fun c => ?_)
          · have h := h.1 c
            refine j_aload_n C d_X_road_50 0 rfl rfl ?_
            refine j_callVv C d_X_road_51 ml_X_73 mi_X_remember (c_X_remember (xl X) (gD G) (gad G) (gca G)  hσ h) sh_54 rfl rfl rfl rfl rfl rfl rfl (fun σ8 hσ8 h => ?_)
            refine j_aload_n C d_X_road_54 0 rfl rfl ?_
            refine j_getr (kf := 0) (m := 0) C d_X_road_55 sh_54 rfl i_X rfl rfl fl_X_12 ?_
            refine j_iload_n C d_X_road_58 1 rfl rfl ?_
            refine j_iload_n C d_X_road_59 2 rfl rfl ?_
            refine j_iload_n C d_X_road_60 3 rfl rfl ?_
            refine j_callV C d_X_road_61 ml_X_84 mi_S_addRoad (c_S_addRoad (xl X) (gD G) (gad G) (gca G) (v1 := v1) (v2 := v2) (v3 := v3) hσ8 r1 r2 r3 h) sh_0 rfl rfl rfl rfl rfl rfl rfl (fun z9 σ10 rz9 hσ10 h => ?_)
            exact j_ireturn C d_X_road_64 rz9 hσ10 h
          · have h := h.2 c
            refine j_bipush C d_X_road_47 rfl ?_
            exact j_ireturn C d_X_road_49 (zR_of (x := (-4)) rfl) hσ h
        · have h := h.2 c
          refine j_bipush C d_X_road_32 rfl ?_
          exact j_ireturn C d_X_road_34 (zR_of (x := (-2)) rfl) hσ h
      · have h := h.2 c
        refine j_iconst C d_X_road_19 ?_
        exact j_ireturn C d_X_road_20 (zR_of (x := (-1)) rfl) hσ h
set_option maxRecDepth 100000 in
set_option maxHeartbeats 4000000 in
theorem c_X_isSpan (l : Launch) (D : va_G) (ad : Nat → Nat) (ca : Nat → ClassId) {σ : zM} {v0 : Int} {v1 : Int} {v2 : Int} {Q : Int → Prop} (hσ : zRM σ) (r0 : zR v0) (r1 : zR v1) (r2 : zR v2) (h : wp_X_isSpan σ v0 v1 v2 Q) : zCi l D ad ca y_X_isSpan b_X_isSpan 3 (some .boolean) (zrm 1 22) [.int (zI v0), .int (zI v1), .int (zI v2)] σ (fun z u => σ = u ∧ Q z) := by
  refine zCi_of (by decide +kernel) (Nat.le_of_ble_eq_true rfl) ?_
  intro X G C hl hD had hca
  subst hl hD had hca
  have C : zC X G b_X_isSpan "GateRoads" 3 (some .boolean) 1 22 := C
  show zJ X G (zQi X G (fun z u => σ = u ∧ Q z)) 3 0 [(0, .int (zI v0)), (1, .int (zI v1)), (2, .int (zI v2))] [] σ
  unfold wp_X_isSpan at h
  refine j_iload_n C d_X_isSpan_0 0 rfl rfl ?_
  refine j_iconst C d_X_isSpan_1 ?_
  refine j_iload_n C d_X_isSpan_2 2 rfl rfl ?_
  refine j_iconst C d_X_isSpan_3 ?_
  refine j_isub C d_X_isSpan_4 ?_
  obtain ⟨g1, h⟩ := h
  refine j_callS C d_X_isSpan_5 ml_X_69 ms_X_within (c_X_within (xl X) (gD G) (gad G) (gca G) (v0 := v0) (v1 := 0) (v2 := v2 - 1) hσ r0 (zR_of (x := 0) rfl) g1 h) rfl rfl rfl rfl rfl (fun z2 σ3 rz2 hσ3 h => ?_)
  obtain ⟨ez2, h⟩ := h; subst ez2
  refine j_if_eq (tgt := 26) C d_X_isSpan_8 rfl rz2 (fun c => ?_) (fun c => ?_)
  · have h := h.1 c
    refine j_iconst C d_X_isSpan_26 ?_
    exact j_zreturn C d_X_isSpan_27 (by decide) hσ ⟨rfl, h⟩
  · have h := h.2 c
    refine j_iload_n C d_X_isSpan_11 1 rfl rfl ?_
    refine j_iload_n C d_X_isSpan_12 0 rfl rfl ?_
    refine j_iconst C d_X_isSpan_13 ?_
    refine j_iadd C d_X_isSpan_14 ?_
    refine j_iload_n C d_X_isSpan_15 2 rfl rfl ?_
    obtain ⟨g4, h⟩ := h
    refine j_callS C d_X_isSpan_16 ml_X_69 ms_X_within (c_X_within (xl X) (gD G) (gad G) (gca G) (v0 := v1) (v1 := v0 + 1) (v2 := v2) hσ r1 g4 r2 h) rfl rfl rfl rfl rfl (fun z5 σ6 rz5 hσ6 h => ?_)
    obtain ⟨ez5, h⟩ := h; subst ez5
    refine j_if_eq (tgt := 26) C d_X_isSpan_19 rfl rz5 (fun c => ?_) (fun c => ?_)
    · have h := h.1 c
      refine j_iconst C d_X_isSpan_26 ?_
      exact j_zreturn C d_X_isSpan_27 (by decide) hσ ⟨rfl, h⟩
    · have h := h.2 c
      refine j_iconst C d_X_isSpan_22 ?_
      refine j_goto (tgt := 27) C d_X_isSpan_23 rfl ?_
      exact j_zreturn C d_X_isSpan_27 (by decide) hσ ⟨rfl, h⟩
set_option maxRecDepth 100000 in
set_option maxHeartbeats 4000000 in
theorem c_X_open (l : Launch) (D : va_G) (ad : Nat → Nat) (ca : Nat → ClassId) {σ : zM} {v1 : Int} {v2 : Int} {v3 : Int} {v4 : Int} {Q : Int → zM → Prop} (hσ : zRM σ) (r1 : zR v1) (r2 : zR v2) (r3 : zR v3) (r4 : zR v4) (h : wp_X_open σ v1 v2 v3 v4 Q) : zCi l D ad ca y_X_open b_X_open 6 (some .int) (zrm 3 69) [.ref (ad 54), .int (zI v1), .int (zI v2), .int (zI v3), .int (zI v4)] σ Q := by
  refine zCi_of (by decide +kernel) (Nat.le_of_ble_eq_true rfl) ?_
  intro X G C hl hD had hca
  subst hl hD had hca
  have C : zC X G b_X_open "GateRoads" 6 (some .int) 3 69 := C
  show zJ X G (zQi X G Q) 6 0 [(0, .ref (gad G 54)), (1, .int (zI v1)), (2, .int (zI v2)), (3, .int (zI v3)), (4, .int (zI v4))] [] σ
  unfold wp_X_open at h
  refine j_aload_n C d_X_open_0 0 rfl rfl ?_
  refine j_getr (kf := 0) (m := 0) C d_X_open_1 sh_54 rfl i_X rfl rfl fl_X_12 ?_
  refine j_iload_n C d_X_open_4 1 rfl rfl ?_
  refine j_callV C d_X_open_5 ml_X_88 mi_S_hasRoad (c_S_hasRoad (xl X) (gD G) (gad G) (gca G) (v1 := v1) hσ r1 h) sh_0 rfl rfl rfl rfl rfl rfl rfl (fun z1 σ2 rz1 hσ2 h => ?_)
  obtain ⟨ez1, h⟩ := h; subst ez1
  refine j_if_ne (tgt := 13) C d_X_open_8 rfl rz1 (fun c => ?_) (fun c => ?_)
  · have h := h.1 c
    refine j_iload_n C d_X_open_13 2 rfl rfl ?_
    refine j_iload_n C d_X_open_14 3 rfl rfl ?_
    refine j_sipush C d_X_open_15 rfl ?_
    refine j_callS C d_X_open_18 ml_X_91 ms_X_isSpan (c_X_isSpan (xl X) (gD G) (gad G) (gca G) (v0 := v2) (v1 := v3) (v2 := 1440) hσ r2 r3 (zR_of (x := 1440) rfl) h) rfl rfl rfl rfl rfl (fun z3 σ4 rz3 hσ4 h => ?_)
    obtain ⟨ez3, h⟩ := h; subst ez3
    refine j_if_eq (tgt := 34) C d_X_open_21 rfl rz3 (fun c => ?_) (fun c => ?_)
    · have h := h.1 c
      refine j_bipush C d_X_open_34 rfl ?_
      exact j_ireturn C d_X_open_36 (zR_of (x := (-2)) rfl) hσ h
    · have h := h.2 c
      refine j_iload C d_X_open_24 4 rfl ?_
      refine j_iconst C d_X_open_26 ?_
      refine j_iconst C d_X_open_27 ?_
      refine j_callS C d_X_open_28 ml_X_69 ms_X_within (c_X_within (xl X) (gD G) (gad G) (gca G) (v0 := v4) (v1 := 0) (v2 := 1) hσ r4 (zR_of (x := 0) rfl) (zR_of (x := 1) rfl) h) rfl rfl rfl rfl rfl (fun z5 σ6 rz5 hσ6 h => ?_)
      obtain ⟨ez5, h⟩ := h; subst ez5
      refine j_if_ne (tgt := 37) C d_X_open_31 rfl rz5 (fun c => ?_) (fun c => ?_)
      · have h := h.1 c
        refine j_aload_n C d_X_open_37 0 rfl rfl ?_
        refine j_callVv C d_X_open_38 ml_X_73 mi_X_remember (c_X_remember (xl X) (gD G) (gad G) (gca G)  hσ h) sh_54 rfl rfl rfl rfl rfl rfl rfl (fun σ8 hσ8 h => ?_)
        refine j_aload_n C d_X_open_41 0 rfl rfl ?_
        refine j_getr (kf := 0) (m := 0) C d_X_open_42 sh_54 rfl i_X rfl rfl fl_X_12 ?_
        refine j_iload_n C d_X_open_45 1 rfl rfl ?_
        refine j_iconst C d_X_open_46 ?_
        refine j_callV C d_X_open_47 ml_X_94 mi_S_ofRoads (c_S_ofRoads (xl X) (gD G) (gad G) (gca G) (v1 := v1) (v2 := 4) hσ8 r1 (zR_of (x := 4) rfl) h) sh_0 rfl rfl rfl rfl rfl rfl rfl (fun z9 σ10 rz9 hσ10 h => ?_)
        obtain ⟨ez9, h⟩ := h; subst ez9
        refine j_istore (L' := [(5, .int (zI z9)), (0, .ref (gad G 54)), (1, .int (zI v1)), (2, .int (zI v2)), (3, .int (zI v3)), (4, .int (zI v4))]) C d_X_open_50 rfl rfl ?_
        refine j_aload_n C d_X_open_52 1 rfl rfl ?_
        refine j_getr (kf := 0) (m := 0) C d_X_open_53 sh_54 rfl i_X rfl rfl fl_X_12 ?_
        refine j_iload_n C d_X_open_56 2 rfl rfl ?_
        refine j_iload C d_X_open_57 5 rfl ?_
        refine j_callVv C d_X_open_59 ml_X_98 mi_S_dropSpans (c_S_dropSpans (xl X) (gD G) (gad G) (gca G) (v1 := v1) (v2 := v4) hσ8 r1 r4 h) sh_0 rfl rfl rfl rfl rfl rfl rfl (fun σ12 hσ12 h => ?_)
        refine j_aload_n C d_X_open_62 1 rfl rfl ?_
        refine j_getr (kf := 0) (m := 0) C d_X_open_63 sh_54 rfl i_X rfl rfl fl_X_12 ?_
        refine j_iload_n C d_X_open_66 2 rfl rfl ?_
        refine j_iload_n C d_X_open_67 3 rfl rfl ?_
        refine j_iload_n C d_X_open_68 4 rfl rfl ?_
        refine j_callVv C d_X_open_69 ml_X_102 mi_S_addSpan (c_S_addSpan (xl X) (gD G) (gad G) (gca G) (v1 := v1) (v2 := v2) (v3 := v3) hσ12 r1 r2 r3 h) sh_0 rfl rfl rfl rfl rfl rfl rfl (fun σ14 hσ14 h => ?_)
        refine j_iload C d_X_open_72 0 rfl ?_
        exact j_ireturn C d_X_open_74 rz9 hσ14 h
      · have h := h.2 c
        refine j_bipush C d_X_open_34 rfl ?_
        exact j_ireturn C d_X_open_36 (zR_of (x := (-2)) rfl) hσ h
  · have h := h.2 c
    refine j_iconst C d_X_open_11 ?_
    exact j_ireturn C d_X_open_12 (zR_of (x := (-1)) rfl) hσ h
set_option maxRecDepth 100000 in
set_option maxHeartbeats 4000000 in
theorem w_S_meetsSpan_b42 {X : zX} {G : zG} (C : zC X G b_S_meetsSpan "GateRoads$State" 6 (some .boolean) 1 22) {σ : zM} {v1 : Int} {v2 : Int} {v3 : Int} {v4 : Int} (hσ : zRM σ) (r1 : zR v1) (r2 : zR v2) (r3 : zR v3) (r4 : zR v4) {Q : Int → Prop} {k11 : Int → Prop} (hk11 : ∀ (v5 : Int), zR v5 → k11 v5 → zJ X G (zQi X G (fun z u => σ = u ∧ Q z)) 6 11 [(0, .ref (gad G 0)), (1, .int (zI v1)), (2, .int (zI v2)), (3, .int (zI v3)), (4, .int (zI v4)), (5, .int (zI v5))] [] σ) (v5 : Int) (r5 : zR v5) (h : wp_S_meetsSpan_b42 σ v1 v2 v3 v4 k11 Q v5) : zJ X G (zQi X G (fun z u => σ = u ∧ Q z)) 6 42 [(0, .ref (gad G 0)), (1, .int (zI v1)), (2, .int (zI v2)), (3, .int (zI v3)), (4, .int (zI v4)), (5, .int (zI v5))] [] σ := by
  unfold wp_S_meetsSpan_b42 at h
  obtain ⟨g5, h⟩ := h
  refine j_iinc (L' := [(5, .int (zI (v5 + 1))), (0, .ref (gad G 0)), (1, .int (zI v1)), (2, .int (zI v2)), (3, .int (zI v3)), (4, .int (zI v4))]) C d_S_meetsSpan_42 5 rfl rfl rfl ?_
  refine j_goto (tgt := 11) C d_S_meetsSpan_45 rfl ?_
  refine j_sub (L' := [(0, .ref (gad G 0)), (1, .int (zI v1)), (2, .int (zI v2)), (3, .int (zI v3)), (4, .int (zI v4)), (5, .int (zI (v5 + 1)))]) [1, 2, 3, 4, 5, 0] rfl ?_
  exact hk11 (v5 + 1) g5 h
set_option maxRecDepth 100000 in
set_option maxHeartbeats 4000000 in
theorem w_S_meetsSpan_L11 {X : zX} {G : zG} (C : zC X G b_S_meetsSpan "GateRoads$State" 6 (some .boolean) 1 22) {σ : zM} {v1 : Int} {v2 : Int} {v3 : Int} {v4 : Int} (hσ : zRM σ) (r1 : zR v1) (r2 : zR v2) (r3 : zR v3) (r4 : zR v4) {Q : Int → Prop} : ∀ (n : Nat) (v5 : Int) (r5 : zR v5), wp_S_meetsSpan_L11 σ v1 v2 v3 v4 Q n v5 → zJ X G (zQi X G (fun z u => σ = u ∧ Q z)) 6 11 [(0, .ref (gad G 0)), (1, .int (zI v1)), (2, .int (zI v2)), (3, .int (zI v3)), (4, .int (zI v4)), (5, .int (zI v5))] [] σ := by
  intro n
  induction n with
  | zero => intro v5 r5 h; exact False.elim h
  | succ n ih =>
    intro v5 r5 h
    rw [wp_S_meetsSpan_L11] at h
    refine j_iload C d_S_meetsSpan_11 5 rfl ?_
    refine j_iload C d_S_meetsSpan_13 4 rfl ?_
    refine j_icmp_ge (tgt := 48) C d_S_meetsSpan_15 rfl r5 r4 (fun c => ?_) (fun c => ?_)
    · have h := h.1 c
      refine j_iconst C d_S_meetsSpan_48 ?_
      exact j_zreturn C d_S_meetsSpan_49 (by decide) hσ ⟨rfl, h⟩
    · have h := h.2 c
      refine j_iload_n C d_S_meetsSpan_18 2 rfl rfl ?_
      refine j_aload_n C d_S_meetsSpan_19 0 rfl rfl ?_
      refine j_iload_n C d_S_meetsSpan_20 1 rfl rfl ?_
      refine j_iload C d_S_meetsSpan_21 5 rfl ?_
      refine j_callV C d_S_meetsSpan_23 ml_S_61 mi_S_spanTo (c_S_spanTo (xl X) (gD G) (gad G) (gca G) (v1 := v1) (v2 := v5) hσ r1 r5 h) sh_0 rfl rfl rfl rfl rfl rfl rfl (fun z3 σ4 rz3 hσ4 h => ?_)
      obtain ⟨ez3, h⟩ := h; subst ez3
      refine j_icmp_ge (tgt := 42) C d_S_meetsSpan_26 rfl r2 rz3 (fun c => ?_) (fun c => ?_)
      · have h := h.1 c
        refine w_S_meetsSpan_b42 C hσ r1 r2 r3 r4 ih v5 r5 h
      · have h := h.2 c
        refine j_aload_n C d_S_meetsSpan_29 0 rfl rfl ?_
        refine j_iload_n C d_S_meetsSpan_30 1 rfl rfl ?_
        refine j_iload C d_S_meetsSpan_31 5 rfl ?_
        refine j_callV C d_S_meetsSpan_33 ml_S_64 mi_S_spanFrom (c_S_spanFrom (xl X) (gD G) (gad G) (gca G) (v1 := v1) (v2 := v5) hσ r1 r5 h) sh_0 rfl rfl rfl rfl rfl rfl rfl (fun z6 σ7 rz6 hσ7 h => ?_)
        obtain ⟨ez6, h⟩ := h; subst ez6
        refine j_iload_n C d_S_meetsSpan_36 3 rfl rfl ?_
        refine j_icmp_ge (tgt := 42) C d_S_meetsSpan_37 rfl rz6 r3 (fun c => ?_) (fun c => ?_)
        · have h := h.1 c
          refine w_S_meetsSpan_b42 C hσ r1 r2 r3 r4 ih v5 r5 h
        · have h := h.2 c
          refine j_iconst C d_S_meetsSpan_40 ?_
          exact j_zreturn C d_S_meetsSpan_41 (by decide) hσ ⟨rfl, h⟩
set_option maxRecDepth 100000 in
set_option maxHeartbeats 4000000 in
theorem c_S_meetsSpan (l : Launch) (D : va_G) (ad : Nat → Nat) (ca : Nat → ClassId) {σ : zM} {v1 : Int} {v2 : Int} {v3 : Int} {Q : Int → Prop} (hσ : zRM σ) (r1 : zR v1) (r2 : zR v2) (r3 : zR v3) (h : wp_S_meetsSpan σ v1 v2 v3 Q) : zCi l D ad ca y_S_meetsSpan b_S_meetsSpan 6 (some .boolean) (zrm 1 22) [.ref (ad 0), .int (zI v1), .int (zI v2), .int (zI v3)] σ (fun z u => σ = u ∧ Q z) := by
  refine zCi_of (by decide +kernel) (Nat.le_of_ble_eq_true rfl) ?_
  intro X G C hl hD had hca
  subst hl hD had hca
  have C : zC X G b_S_meetsSpan "GateRoads$State" 6 (some .boolean) 1 22 := C
  show zJ X G (zQi X G (fun z u => σ = u ∧ Q z)) 6 0 [(0, .ref (gad G 0)), (1, .int (zI v1)), (2, .int (zI v2)), (3, .int (zI v3))] [] σ
  unfold wp_S_meetsSpan at h
  refine j_aload_n C d_S_meetsSpan_0 0 rfl rfl ?_
  refine j_iload_n C d_S_meetsSpan_1 1 rfl rfl ?_
  refine j_iconst C d_S_meetsSpan_2 ?_
  refine j_callV C d_S_meetsSpan_3 ml_S_57 mi_S_ofRoads (c_S_ofRoads (xl X) (gD G) (gad G) (gca G) (v1 := v1) (v2 := 4) hσ r1 (zR_of (x := 4) rfl) h) sh_0 rfl rfl rfl rfl rfl rfl rfl (fun z1 σ2 rz1 hσ2 h => ?_)
  obtain ⟨ez1, h⟩ := h; subst ez1
  refine j_istore (L' := [(4, .int (zI z1)), (0, .ref (gad G 0)), (1, .int (zI v1)), (2, .int (zI v2)), (3, .int (zI v3))]) C d_S_meetsSpan_6 rfl rfl ?_
  refine j_iconst C d_S_meetsSpan_8 ?_
  refine j_istore (L' := [(5, .int (zI 0)), (4, .int (zI z1)), (0, .ref (gad G 0)), (1, .int (zI v1)), (2, .int (zI v2)), (3, .int (zI v3))]) C d_S_meetsSpan_9 rfl rfl ?_
  obtain ⟨n8, h⟩ := h
  refine j_sub (L' := [(0, .ref (gad G 0)), (1, .int (zI v1)), (2, .int (zI v2)), (3, .int (zI v3)), (4, .int (zI z1)), (5, .int (zI 0))]) [2, 3, 4, 5, 1, 0] rfl ?_
  refine w_S_meetsSpan_L11 C hσ r1 r2 r3 rz1 n8 0 (zR_of (x := 0) rfl) h
set_option maxRecDepth 100000 in
set_option maxHeartbeats 4000000 in
theorem c_X_more (l : Launch) (D : va_G) (ad : Nat → Nat) (ca : Nat → ClassId) {σ : zM} {v1 : Int} {v2 : Int} {v3 : Int} {Q : Int → zM → Prop} (hσ : zRM σ) (r1 : zR v1) (r2 : zR v2) (r3 : zR v3) (h : wp_X_more σ v1 v2 v3 Q) : zCi l D ad ca y_X_more b_X_more 4 (some .int) (zrm 3 69) [.ref (ad 54), .int (zI v1), .int (zI v2), .int (zI v3)] σ Q := by
  refine zCi_of (by decide +kernel) (Nat.le_of_ble_eq_true rfl) ?_
  intro X G C hl hD had hca
  subst hl hD had hca
  have C : zC X G b_X_more "GateRoads" 4 (some .int) 3 69 := C
  show zJ X G (zQi X G Q) 4 0 [(0, .ref (gad G 54)), (1, .int (zI v1)), (2, .int (zI v2)), (3, .int (zI v3))] [] σ
  unfold wp_X_more at h
  refine j_aload_n C d_X_more_0 0 rfl rfl ?_
  refine j_getr (kf := 0) (m := 0) C d_X_more_1 sh_54 rfl i_X rfl rfl fl_X_12 ?_
  refine j_iload_n C d_X_more_4 1 rfl rfl ?_
  refine j_callV C d_X_more_5 ml_X_88 mi_S_hasRoad (c_S_hasRoad (xl X) (gD G) (gad G) (gca G) (v1 := v1) hσ r1 h) sh_0 rfl rfl rfl rfl rfl rfl rfl (fun z1 σ2 rz1 hσ2 h => ?_)
  obtain ⟨ez1, h⟩ := h; subst ez1
  refine j_if_ne (tgt := 13) C d_X_more_8 rfl rz1 (fun c => ?_) (fun c => ?_)
  · have h := h.1 c
    refine j_iload_n C d_X_more_13 2 rfl rfl ?_
    refine j_iload_n C d_X_more_14 3 rfl rfl ?_
    refine j_sipush C d_X_more_15 rfl ?_
    refine j_callS C d_X_more_18 ml_X_91 ms_X_isSpan (c_X_isSpan (xl X) (gD G) (gad G) (gca G) (v0 := v2) (v1 := v3) (v2 := 1440) hσ r2 r3 (zR_of (x := 1440) rfl) h) rfl rfl rfl rfl rfl (fun z3 σ4 rz3 hσ4 h => ?_)
    obtain ⟨ez3, h⟩ := h; subst ez3
    refine j_if_eq (tgt := 37) C d_X_more_21 rfl rz3 (fun c => ?_) (fun c => ?_)
    · have h := h.1 c
      refine j_bipush C d_X_more_37 rfl ?_
      exact j_ireturn C d_X_more_39 (zR_of (x := (-2)) rfl) hσ h
    · have h := h.2 c
      refine j_aload_n C d_X_more_24 0 rfl rfl ?_
      refine j_getr (kf := 0) (m := 0) C d_X_more_25 sh_54 rfl i_X rfl rfl fl_X_12 ?_
      refine j_iload_n C d_X_more_28 1 rfl rfl ?_
      refine j_iload_n C d_X_more_29 2 rfl rfl ?_
      refine j_iload_n C d_X_more_30 3 rfl rfl ?_
      refine j_callV C d_X_more_31 ml_X_106 mi_S_meetsSpan (c_S_meetsSpan (xl X) (gD G) (gad G) (gca G) (v1 := v1) (v2 := v2) (v3 := v3) hσ r1 r2 r3 h) sh_0 rfl rfl rfl rfl rfl rfl rfl (fun z5 σ6 rz5 hσ6 h => ?_)
      obtain ⟨ez5, h⟩ := h; subst ez5
      refine j_if_eq (tgt := 40) C d_X_more_34 rfl rz5 (fun c => ?_) (fun c => ?_)
      · have h := h.1 c
        refine j_aload_n C d_X_more_40 0 rfl rfl ?_
        refine j_getr (kf := 0) (m := 0) C d_X_more_41 sh_54 rfl i_X rfl rfl fl_X_12 ?_
        refine j_iload_n C d_X_more_44 1 rfl rfl ?_
        refine j_iconst C d_X_more_45 ?_
        refine j_callV C d_X_more_46 ml_X_94 mi_S_ofRoads (c_S_ofRoads (xl X) (gD G) (gad G) (gca G) (v1 := v1) (v2 := 4) hσ r1 (zR_of (x := 4) rfl) h) sh_0 rfl rfl rfl rfl rfl rfl rfl (fun z7 σ8 rz7 hσ8 h => ?_)
        obtain ⟨ez7, h⟩ := h; subst ez7
        refine j_iconst C d_X_more_49 ?_
        refine j_icmp_lt (tgt := 56) C d_X_more_50 rfl rz7 (zR_of (x := 3) rfl) (fun c => ?_) (fun c => ?_)
        · have h := h.1 c
          refine j_aload_n C d_X_more_56 0 rfl rfl ?_
          refine j_callVv C d_X_more_57 ml_X_73 mi_X_remember (c_X_remember (xl X) (gD G) (gad G) (gca G)  hσ h) sh_54 rfl rfl rfl rfl rfl rfl rfl (fun σ10 hσ10 h => ?_)
          refine j_aload_n C d_X_more_60 0 rfl rfl ?_
          refine j_getr (kf := 0) (m := 0) C d_X_more_61 sh_54 rfl i_X rfl rfl fl_X_12 ?_
          refine j_iload_n C d_X_more_64 1 rfl rfl ?_
          refine j_iload_n C d_X_more_65 2 rfl rfl ?_
          refine j_iload_n C d_X_more_66 3 rfl rfl ?_
          refine j_callVv C d_X_more_67 ml_X_102 mi_S_addSpan (c_S_addSpan (xl X) (gD G) (gad G) (gca G) (v1 := v1) (v2 := v2) (v3 := v3) hσ10 r1 r2 r3 h) sh_0 rfl rfl rfl rfl rfl rfl rfl (fun σ12 hσ12 h => ?_)
          refine j_aload_n C d_X_more_70 0 rfl rfl ?_
          refine j_getr (kf := 0) (m := 0) C d_X_more_71 sh_54 rfl i_X rfl rfl fl_X_12 ?_
          refine j_iload_n C d_X_more_74 1 rfl rfl ?_
          refine j_iconst C d_X_more_75 ?_
          refine j_callV C d_X_more_76 ml_X_94 mi_S_ofRoads (c_S_ofRoads (xl X) (gD G) (gad G) (gca G) (v1 := v1) (v2 := 4) hσ12 r1 (zR_of (x := 4) rfl) h) sh_0 rfl rfl rfl rfl rfl rfl rfl (fun z13 σ14 rz13 hσ14 h => ?_)
          obtain ⟨ez13, h⟩ := h; subst ez13
          exact j_ireturn C d_X_more_79 rz13 hσ12 h
        · have h := h.2 c
          refine j_bipush C d_X_more_53 rfl ?_
          exact j_ireturn C d_X_more_55 (zR_of (x := (-4)) rfl) hσ h
      · have h := h.2 c
        refine j_bipush C d_X_more_37 rfl ?_
        exact j_ireturn C d_X_more_39 (zR_of (x := (-2)) rfl) hσ h
  · have h := h.2 c
    refine j_iconst C d_X_more_11 ?_
    exact j_ireturn C d_X_more_12 (zR_of (x := (-1)) rfl) hσ h
set_option maxRecDepth 100000 in
set_option maxHeartbeats 4000000 in
theorem c_S_addClosure (l : Launch) (D : va_G) (ad : Nat → Nat) (ca : Nat → ClassId) {σ : zM} {v1 : Int} {v2 : Int} {v3 : Int} {Q : Int → zM → Prop} (hσ : zRM σ) (r1 : zR v1) (r2 : zR v2) (r3 : zR v3) (h : wp_S_addClosure σ v1 v2 v3 Q) : zCi l D ad ca y_S_addClosure b_S_addClosure 5 (some .int) (zrm 0 0) [.ref (ad 0), .int (zI v1), .int (zI v2), .int (zI v3)] σ Q := by
  refine zCi_of (by decide +kernel) (Nat.le_of_ble_eq_true rfl) ?_
  intro X G C hl hD had hca
  subst hl hD had hca
  have C : zC X G b_S_addClosure "GateRoads$State" 5 (some .int) 0 0 := C
  show zJ X G (zQi X G Q) 5 0 [(0, .ref (gad G 0)), (1, .int (zI v1)), (2, .int (zI v2)), (3, .int (zI v3))] [] σ
  unfold wp_S_addClosure at h
  refine j_aload_n C d_S_addClosure_0 0 rfl rfl ?_
  refine j_geti (kf := 6) (kI := 6) C d_S_addClosure_1 sh_0 rfl i_S rfl rfl rfl fl_S_37 ?_
  refine j_iconst C d_S_addClosure_4 ?_
  refine j_imul C d_S_addClosure_5 ?_
  obtain ⟨g1, h⟩ := h
  refine j_istore (L' := [(4, .int (zI ((σ 0 6) * 3))), (0, .ref (gad G 0)), (1, .int (zI v1)), (2, .int (zI v2)), (3, .int (zI v3))]) C d_S_addClosure_6 rfl rfl ?_
  refine j_aload_n C d_S_addClosure_8 1 rfl rfl ?_
  refine j_getr (kf := 3) (m := 4) C d_S_addClosure_9 sh_0 rfl i_S rfl rfl fl_S_21 ?_
  refine j_iload C d_S_addClosure_12 0 rfl ?_
  refine j_iconst C d_S_addClosure_14 ?_
  refine j_iadd C d_S_addClosure_15 ?_
  refine j_iload_n C d_S_addClosure_16 2 rfl rfl ?_
  obtain ⟨g2, h⟩ := h
  refine j_iastore C d_S_addClosure_17 sh_4 g2 ?_
  refine j_mem (fun σ3 eσ3 => ?_)
  have h := h σ3 eσ3
  have hσ3 : zRM σ3 := by rw [eσ3]; exact zU_rg hσ _ _ r1
  refine j_aload_n C d_S_addClosure_18 1 rfl rfl ?_
  refine j_getr (kf := 3) (m := 4) C d_S_addClosure_19 sh_0 rfl i_S rfl rfl fl_S_21 ?_
  refine j_iload C d_S_addClosure_22 0 rfl ?_
  refine j_iconst C d_S_addClosure_24 ?_
  refine j_iadd C d_S_addClosure_25 ?_
  refine j_iload_n C d_S_addClosure_26 3 rfl rfl ?_
  obtain ⟨g4, h⟩ := h
  refine j_iastore C d_S_addClosure_27 sh_4 g4 ?_
  refine j_mem (fun σ5 eσ5 => ?_)
  have h := h σ5 eσ5
  have hσ5 : zRM σ5 := by rw [eσ5]; exact zU_rg hσ3 _ _ r2
  refine j_aload_n C d_S_addClosure_28 1 rfl rfl ?_
  refine j_getr (kf := 3) (m := 4) C d_S_addClosure_29 sh_0 rfl i_S rfl rfl fl_S_21 ?_
  refine j_iload C d_S_addClosure_32 0 rfl ?_
  refine j_iconst C d_S_addClosure_34 ?_
  refine j_iadd C d_S_addClosure_35 ?_
  refine j_iload_n C d_S_addClosure_36 4 rfl rfl ?_
  obtain ⟨g6, h⟩ := h
  refine j_iastore C d_S_addClosure_37 sh_4 g6 ?_
  refine j_mem (fun σ7 eσ7 => ?_)
  have h := h σ7 eσ7
  have hσ7 : zRM σ7 := by rw [eσ7]; exact zU_rg hσ5 _ _ r3
  refine j_aload_n C d_S_addClosure_38 1 rfl rfl ?_
  refine j_dup C d_S_addClosure_39 rfl ?_
  refine j_geti (kf := 6) (kI := 6) C d_S_addClosure_40 sh_0 rfl i_S rfl rfl rfl fl_S_37 ?_
  refine j_iconst C d_S_addClosure_43 ?_
  refine j_iadd C d_S_addClosure_44 ?_
  obtain ⟨g8, h⟩ := h
  refine j_puti (kf := 6) (kI := 6) C t_S d_S_addClosure_45 sh_0 rfl i_S t_S_ok n_S rfl rfl rfl fl_S_37 rfl (Or.inl rfl) ?_
  refine j_mem (fun σ9 eσ9 => ?_)
  have h := h σ9 eσ9
  have hσ9 : zRM σ9 := by rw [eσ9]; exact zU_rg hσ7 _ _ g8
  refine j_aload_n C d_S_addClosure_48 1 rfl rfl ?_
  refine j_geti (kf := 6) (kI := 6) C d_S_addClosure_49 sh_0 rfl i_S rfl rfl rfl fl_S_37 ?_
  refine j_iconst C d_S_addClosure_52 ?_
  refine j_isub C d_S_addClosure_53 ?_
  obtain ⟨g10, h⟩ := h
  exact j_ireturn C d_S_addClosure_54 g10 hσ9 h
set_option maxRecDepth 100000 in
set_option maxHeartbeats 4000000 in
theorem c_X_close (l : Launch) (D : va_G) (ad : Nat → Nat) (ca : Nat → ClassId) {σ : zM} {v1 : Int} {v2 : Int} {v3 : Int} {Q : Int → zM → Prop} (hσ : zRM σ) (r1 : zR v1) (r2 : zR v2) (r3 : zR v3) (h : wp_X_close σ v1 v2 v3 Q) : zCi l D ad ca y_X_close b_X_close 4 (some .int) (zrm 3 69) [.ref (ad 54), .int (zI v1), .int (zI v2), .int (zI v3)] σ Q := by
  refine zCi_of (by decide +kernel) (Nat.le_of_ble_eq_true rfl) ?_
  intro X G C hl hD had hca
  subst hl hD had hca
  have C : zC X G b_X_close "GateRoads" 4 (some .int) 3 69 := C
  show zJ X G (zQi X G Q) 4 0 [(0, .ref (gad G 54)), (1, .int (zI v1)), (2, .int (zI v2)), (3, .int (zI v3))] [] σ
  unfold wp_X_close at h
  refine j_aload_n C d_X_close_0 0 rfl rfl ?_
  refine j_getr (kf := 0) (m := 0) C d_X_close_1 sh_54 rfl i_X rfl rfl fl_X_12 ?_
  refine j_iload_n C d_X_close_4 1 rfl rfl ?_
  refine j_callV C d_X_close_5 ml_X_88 mi_S_hasRoad (c_S_hasRoad (xl X) (gD G) (gad G) (gca G) (v1 := v1) hσ r1 h) sh_0 rfl rfl rfl rfl rfl rfl rfl (fun z1 σ2 rz1 hσ2 h => ?_)
  obtain ⟨ez1, h⟩ := h; subst ez1
  refine j_if_ne (tgt := 13) C d_X_close_8 rfl rz1 (fun c => ?_) (fun c => ?_)
  · have h := h.1 c
    refine j_iload_n C d_X_close_13 2 rfl rfl ?_
    refine j_iload_n C d_X_close_14 3 rfl rfl ?_
    refine j_sipush C d_X_close_15 rfl ?_
    refine j_callS C d_X_close_18 ml_X_91 ms_X_isSpan (c_X_isSpan (xl X) (gD G) (gad G) (gca G) (v0 := v2) (v1 := v3) (v2 := 2880) hσ r2 r3 (zR_of (x := 2880) rfl) h) rfl rfl rfl rfl rfl (fun z3 σ4 rz3 hσ4 h => ?_)
    obtain ⟨ez3, h⟩ := h; subst ez3
    refine j_if_ne (tgt := 27) C d_X_close_21 rfl rz3 (fun c => ?_) (fun c => ?_)
    · have h := h.1 c
      refine j_aload_n C d_X_close_27 0 rfl rfl ?_
      refine j_getr (kf := 0) (m := 0) C d_X_close_28 sh_54 rfl i_X rfl rfl fl_X_12 ?_
      refine j_geti (kf := 6) (kI := 6) C d_X_close_31 sh_0 rfl i_S rfl rfl rfl fl_X_109 ?_
      refine j_bipush C d_X_close_34 rfl ?_
      refine j_icmp_lt (tgt := 42) C d_X_close_36 rfl (hσ _ _) (zR_of (x := 20) rfl) (fun c => ?_) (fun c => ?_)
      · have h := h.1 c
        refine j_aload_n C d_X_close_42 0 rfl rfl ?_
        refine j_callVv C d_X_close_43 ml_X_73 mi_X_remember (c_X_remember (xl X) (gD G) (gad G) (gca G)  hσ h) sh_54 rfl rfl rfl rfl rfl rfl rfl (fun σ6 hσ6 h => ?_)
        refine j_aload_n C d_X_close_46 0 rfl rfl ?_
        refine j_getr (kf := 0) (m := 0) C d_X_close_47 sh_54 rfl i_X rfl rfl fl_X_12 ?_
        refine j_iload_n C d_X_close_50 1 rfl rfl ?_
        refine j_iload_n C d_X_close_51 2 rfl rfl ?_
        refine j_iload_n C d_X_close_52 3 rfl rfl ?_
        refine j_callV C d_X_close_53 ml_X_112 mi_S_addClosure (c_S_addClosure (xl X) (gD G) (gad G) (gca G) (v1 := v1) (v2 := v2) (v3 := v3) hσ6 r1 r2 r3 h) sh_0 rfl rfl rfl rfl rfl rfl rfl (fun z7 σ8 rz7 hσ8 h => ?_)
        exact j_ireturn C d_X_close_56 rz7 hσ8 h
      · have h := h.2 c
        refine j_bipush C d_X_close_39 rfl ?_
        exact j_ireturn C d_X_close_41 (zR_of (x := (-4)) rfl) hσ h
    · have h := h.2 c
      refine j_bipush C d_X_close_24 rfl ?_
      exact j_ireturn C d_X_close_26 (zR_of (x := (-2)) rfl) hσ h
  · have h := h.2 c
    refine j_iconst C d_X_close_11 ?_
    exact j_ireturn C d_X_close_12 (zR_of (x := (-1)) rfl) hσ h
set_option maxRecDepth 100000 in
set_option maxHeartbeats 4000000 in
theorem c_S_dropClosure (l : Launch) (D : va_G) (ad : Nat → Nat) (ca : Nat → ClassId) {σ : zM} {v1 : Int} {Q : zM → Prop} (hσ : zRM σ) (r1 : zR v1) (h : wp_S_dropClosure σ v1 Q) : zCv l D ad ca y_S_dropClosure b_S_dropClosure 3 (zrm 1 26) [.ref (ad 0), .int (zI v1)] σ Q := by
  refine zCv_of (by decide +kernel) (Nat.le_of_ble_eq_true rfl) ?_
  intro X G C hl hD had hca
  subst hl hD had hca
  have C : zC X G b_S_dropClosure "GateRoads$State" 3 (none) 1 26 := C
  show zJ X G (zQv X G Q) 3 0 [(0, .ref (gad G 0)), (1, .int (zI v1))] [] σ
  unfold wp_S_dropClosure at h
  refine j_iload_n C d_S_dropClosure_0 1 rfl rfl ?_
  refine j_iconst C d_S_dropClosure_1 ?_
  refine j_iadd C d_S_dropClosure_2 ?_
  refine j_iconst C d_S_dropClosure_3 ?_
  refine j_imul C d_S_dropClosure_4 ?_
  obtain ⟨g1, h⟩ := h
  refine j_istore_n (L' := [(2, .int (zI ((v1 + 1) * 3))), (0, .ref (gad G 0)), (1, .int (zI v1))]) C d_S_dropClosure_5 rfl rfl rfl ?_
  refine j_aload_n C d_S_dropClosure_6 1 rfl rfl ?_
  refine j_getr (kf := 3) (m := 4) C d_S_dropClosure_7 sh_0 rfl i_S rfl rfl fl_S_21 ?_
  refine j_iload_n C d_S_dropClosure_10 0 rfl rfl ?_
  refine j_aload_n C d_S_dropClosure_11 1 rfl rfl ?_
  refine j_getr (kf := 3) (m := 4) C d_S_dropClosure_12 sh_0 rfl i_S rfl rfl fl_S_21 ?_
  refine j_iload_n C d_S_dropClosure_15 0 rfl rfl ?_
  refine j_iconst C d_S_dropClosure_16 ?_
  refine j_isub C d_S_dropClosure_17 ?_
  refine j_aload_n C d_S_dropClosure_18 1 rfl rfl ?_
  refine j_geti (kf := 6) (kI := 6) C d_S_dropClosure_19 sh_0 rfl i_S rfl rfl rfl fl_S_37 ?_
  refine j_iconst C d_S_dropClosure_22 ?_
  refine j_imul C d_S_dropClosure_23 ?_
  refine j_iload_n C d_S_dropClosure_24 0 rfl rfl ?_
  refine j_isub C d_S_dropClosure_25 ?_
  obtain ⟨g2, h⟩ := h
  refine j_copy C d_S_dropClosure_26 ml_S_27 zn_copy zs_copy zi_Sys rfl rfl sh_4 sh_4 g2 ?_
  refine j_mem (fun σ3 eσ3 => ?_)
  have h := h σ3 eσ3
  have hσ3 : zRM σ3 := by rw [eσ3]; exact zCp_rg hσ _ _ _ _ _
  refine j_aload_n C d_S_dropClosure_29 1 rfl rfl ?_
  refine j_dup C d_S_dropClosure_30 rfl ?_
  refine j_geti (kf := 6) (kI := 6) C d_S_dropClosure_31 sh_0 rfl i_S rfl rfl rfl fl_S_37 ?_
  refine j_iconst C d_S_dropClosure_34 ?_
  refine j_isub C d_S_dropClosure_35 ?_
  obtain ⟨g4, h⟩ := h
  refine j_puti (kf := 6) (kI := 6) C t_S d_S_dropClosure_36 sh_0 rfl i_S t_S_ok n_S rfl rfl rfl fl_S_37 rfl (Or.inl rfl) ?_
  refine j_mem (fun σ5 eσ5 => ?_)
  have h := h σ5 eσ5
  have hσ5 : zRM σ5 := by rw [eσ5]; exact zU_rg hσ3 _ _ g4
  exact j_vreturn C d_S_dropClosure_39 hσ5 h
set_option maxRecDepth 100000 in
set_option maxHeartbeats 4000000 in
theorem c_X_lift (l : Launch) (D : va_G) (ad : Nat → Nat) (ca : Nat → ClassId) {σ : zM} {v1 : Int} {Q : Int → zM → Prop} (hσ : zRM σ) (r1 : zR v1) (h : wp_X_lift σ v1 Q) : zCi l D ad ca y_X_lift b_X_lift 2 (some .int) (zrm 3 69) [.ref (ad 54), .int (zI v1)] σ Q := by
  refine zCi_of (by decide +kernel) (Nat.le_of_ble_eq_true rfl) ?_
  intro X G C hl hD had hca
  subst hl hD had hca
  have C : zC X G b_X_lift "GateRoads" 2 (some .int) 3 69 := C
  show zJ X G (zQi X G Q) 2 0 [(0, .ref (gad G 54)), (1, .int (zI v1))] [] σ
  unfold wp_X_lift at h
  refine j_aload_n C d_X_lift_0 0 rfl rfl ?_
  refine j_getr (kf := 0) (m := 0) C d_X_lift_1 sh_54 rfl i_X rfl rfl fl_X_12 ?_
  refine j_iload_n C d_X_lift_4 1 rfl rfl ?_
  refine j_callV C d_X_lift_5 ml_X_115 mi_S_hasClosure (c_S_hasClosure (xl X) (gD G) (gad G) (gca G) (v1 := v1) hσ r1 h) sh_0 rfl rfl rfl rfl rfl rfl rfl (fun z1 σ2 rz1 hσ2 h => ?_)
  obtain ⟨ez1, h⟩ := h; subst ez1
  refine j_if_ne (tgt := 13) C d_X_lift_8 rfl rz1 (fun c => ?_) (fun c => ?_)
  · have h := h.1 c
    refine j_aload_n C d_X_lift_13 0 rfl rfl ?_
    refine j_callVv C d_X_lift_14 ml_X_73 mi_X_remember (c_X_remember (xl X) (gD G) (gad G) (gca G)  hσ h) sh_54 rfl rfl rfl rfl rfl rfl rfl (fun σ4 hσ4 h => ?_)
    refine j_aload_n C d_X_lift_17 0 rfl rfl ?_
    refine j_getr (kf := 0) (m := 0) C d_X_lift_18 sh_54 rfl i_X rfl rfl fl_X_12 ?_
    refine j_iload_n C d_X_lift_21 1 rfl rfl ?_
    refine j_callVv C d_X_lift_22 ml_X_118 mi_S_dropClosure (c_S_dropClosure (xl X) (gD G) (gad G) (gca G) (v1 := v1) hσ4 r1 h) sh_0 rfl rfl rfl rfl rfl rfl rfl (fun σ6 hσ6 h => ?_)
    refine j_aload_n C d_X_lift_25 0 rfl rfl ?_
    refine j_getr (kf := 0) (m := 0) C d_X_lift_26 sh_54 rfl i_X rfl rfl fl_X_12 ?_
    refine j_geti (kf := 6) (kI := 6) C d_X_lift_29 sh_0 rfl i_S rfl rfl rfl fl_X_109 ?_
    exact j_ireturn C d_X_lift_32 (hσ6 _ _) hσ6 h
  · have h := h.2 c
    refine j_iconst C d_X_lift_11 ?_
    exact j_ireturn C d_X_lift_12 (zR_of (x := (-1)) rfl) hσ h
set_option maxRecDepth 100000 in
set_option maxHeartbeats 4000000 in
theorem c_S_addTraveller (l : Launch) (D : va_G) (ad : Nat → Nat) (ca : Nat → ClassId) {σ : zM} {v1 : Int} {v2 : Int} {Q : Int → zM → Prop} (hσ : zRM σ) (r1 : zR v1) (r2 : zR v2) (h : wp_S_addTraveller σ v1 v2 Q) : zCi l D ad ca y_S_addTraveller b_S_addTraveller 4 (some .int) (zrm 2 46) [.ref (ad 0), .int (zI v1), .int (zI v2)] σ Q := by
  refine zCi_of (by decide +kernel) (Nat.le_of_ble_eq_true rfl) ?_
  intro X G C hl hD had hca
  subst hl hD had hca
  have C : zC X G b_S_addTraveller "GateRoads$State" 4 (some .int) 2 46 := C
  show zJ X G (zQi X G Q) 4 0 [(0, .ref (gad G 0)), (1, .int (zI v1)), (2, .int (zI v2))] [] σ
  unfold wp_S_addTraveller at h
  refine j_aload_n C d_S_addTraveller_0 0 rfl rfl ?_
  refine j_geti (kf := 7) (kI := 7) C d_S_addTraveller_1 sh_0 rfl i_S rfl rfl rfl fl_S_40 ?_
  refine j_bipush C d_S_addTraveller_4 rfl ?_
  refine j_imul C d_S_addTraveller_6 ?_
  obtain ⟨g1, h⟩ := h
  refine j_istore_n (L' := [(3, .int (zI ((σ 0 7) * 8))), (0, .ref (gad G 0)), (1, .int (zI v1)), (2, .int (zI v2))]) C d_S_addTraveller_7 rfl rfl rfl ?_
  refine j_aload_n C d_S_addTraveller_8 1 rfl rfl ?_
  refine j_getr (kf := 4) (m := 5) C d_S_addTraveller_9 sh_0 rfl i_S rfl rfl fl_S_24 ?_
  refine j_iload_n C d_S_addTraveller_12 0 rfl rfl ?_
  refine j_iload_n C d_S_addTraveller_13 0 rfl rfl ?_
  refine j_bipush C d_S_addTraveller_14 rfl ?_
  refine j_iadd C d_S_addTraveller_16 ?_
  refine j_iconst C d_S_addTraveller_17 ?_
  obtain ⟨g2, h⟩ := h
  obtain ⟨g3, h⟩ := h
  refine j_callSv C d_S_addTraveller_18 ml_S_51 ms_Ar_fill_1 (c_Ar_fill_1 (xl X) (gD G) (gad G) (gca G) hσ sh_5 (zR_of (x := 0) rfl) g3) rfl rfl rfl rfl rfl (fun σ4 hσ4 eσ4 => ?_)
  have h := h σ4 eσ4
  refine j_aload_n C d_S_addTraveller_21 1 rfl rfl ?_
  refine j_getr (kf := 4) (m := 5) C d_S_addTraveller_22 sh_0 rfl i_S rfl rfl fl_S_24 ?_
  refine j_iload_n C d_S_addTraveller_25 0 rfl rfl ?_
  refine j_iconst C d_S_addTraveller_26 ?_
  refine j_iadd C d_S_addTraveller_27 ?_
  refine j_iload_n C d_S_addTraveller_28 2 rfl rfl ?_
  obtain ⟨g5, h⟩ := h
  refine j_iastore C d_S_addTraveller_29 sh_5 g5 ?_
  refine j_mem (fun σ6 eσ6 => ?_)
  have h := h σ6 eσ6
  have hσ6 : zRM σ6 := by rw [eσ6]; exact zU_rg hσ4 _ _ r1
  refine j_aload_n C d_S_addTraveller_30 1 rfl rfl ?_
  refine j_getr (kf := 4) (m := 5) C d_S_addTraveller_31 sh_0 rfl i_S rfl rfl fl_S_24 ?_
  refine j_iload_n C d_S_addTraveller_34 0 rfl rfl ?_
  refine j_iconst C d_S_addTraveller_35 ?_
  refine j_iadd C d_S_addTraveller_36 ?_
  refine j_iload_n C d_S_addTraveller_37 3 rfl rfl ?_
  obtain ⟨g7, h⟩ := h
  refine j_iastore C d_S_addTraveller_38 sh_5 g7 ?_
  refine j_mem (fun σ8 eσ8 => ?_)
  have h := h σ8 eσ8
  have hσ8 : zRM σ8 := by rw [eσ8]; exact zU_rg hσ6 _ _ r2
  refine j_aload_n C d_S_addTraveller_39 1 rfl rfl ?_
  refine j_getr (kf := 4) (m := 5) C d_S_addTraveller_40 sh_0 rfl i_S rfl rfl fl_S_24 ?_
  refine j_iload_n C d_S_addTraveller_43 0 rfl rfl ?_
  refine j_iconst C d_S_addTraveller_44 ?_
  refine j_iadd C d_S_addTraveller_45 ?_
  refine j_iload_n C d_S_addTraveller_46 3 rfl rfl ?_
  obtain ⟨g9, h⟩ := h
  refine j_iastore C d_S_addTraveller_47 sh_5 g9 ?_
  refine j_mem (fun σ10 eσ10 => ?_)
  have h := h σ10 eσ10
  have hσ10 : zRM σ10 := by rw [eσ10]; exact zU_rg hσ8 _ _ r2
  refine j_aload_n C d_S_addTraveller_48 1 rfl rfl ?_
  refine j_getr (kf := 4) (m := 5) C d_S_addTraveller_49 sh_0 rfl i_S rfl rfl fl_S_24 ?_
  refine j_iload_n C d_S_addTraveller_52 0 rfl rfl ?_
  refine j_bipush C d_S_addTraveller_53 rfl ?_
  refine j_iadd C d_S_addTraveller_55 ?_
  refine j_iload_n C d_S_addTraveller_56 2 rfl rfl ?_
  obtain ⟨g11, h⟩ := h
  refine j_iastore C d_S_addTraveller_57 sh_5 g11 ?_
  refine j_mem (fun σ12 eσ12 => ?_)
  have h := h σ12 eσ12
  have hσ12 : zRM σ12 := by rw [eσ12]; exact zU_rg hσ10 _ _ r1
  refine j_aload_n C d_S_addTraveller_58 1 rfl rfl ?_
  refine j_getr (kf := 4) (m := 5) C d_S_addTraveller_59 sh_0 rfl i_S rfl rfl fl_S_24 ?_
  refine j_iload_n C d_S_addTraveller_62 0 rfl rfl ?_
  refine j_bipush C d_S_addTraveller_63 rfl ?_
  refine j_iadd C d_S_addTraveller_65 ?_
  refine j_iload_n C d_S_addTraveller_66 3 rfl rfl ?_
  obtain ⟨g13, h⟩ := h
  refine j_iastore C d_S_addTraveller_67 sh_5 g13 ?_
  refine j_mem (fun σ14 eσ14 => ?_)
  have h := h σ14 eσ14
  have hσ14 : zRM σ14 := by rw [eσ14]; exact zU_rg hσ12 _ _ r2
  refine j_aload_n C d_S_addTraveller_68 1 rfl rfl ?_
  refine j_dup C d_S_addTraveller_69 rfl ?_
  refine j_geti (kf := 7) (kI := 7) C d_S_addTraveller_70 sh_0 rfl i_S rfl rfl rfl fl_S_40 ?_
  refine j_iconst C d_S_addTraveller_73 ?_
  refine j_iadd C d_S_addTraveller_74 ?_
  obtain ⟨g15, h⟩ := h
  refine j_puti (kf := 7) (kI := 7) C t_S d_S_addTraveller_75 sh_0 rfl i_S t_S_ok n_S rfl rfl rfl fl_S_40 rfl (Or.inl rfl) ?_
  refine j_mem (fun σ16 eσ16 => ?_)
  have h := h σ16 eσ16
  have hσ16 : zRM σ16 := by rw [eσ16]; exact zU_rg hσ14 _ _ g15
  refine j_aload_n C d_S_addTraveller_78 1 rfl rfl ?_
  refine j_geti (kf := 7) (kI := 7) C d_S_addTraveller_79 sh_0 rfl i_S rfl rfl rfl fl_S_40 ?_
  refine j_iconst C d_S_addTraveller_82 ?_
  refine j_isub C d_S_addTraveller_83 ?_
  obtain ⟨g17, h⟩ := h
  exact j_ireturn C d_S_addTraveller_84 g17 hσ16 h
set_option maxRecDepth 100000 in
set_option maxHeartbeats 4000000 in
theorem c_X_traveller (l : Launch) (D : va_G) (ad : Nat → Nat) (ca : Nat → ClassId) {σ : zM} {v1 : Int} {v2 : Int} {Q : Int → zM → Prop} (hσ : zRM σ) (r1 : zR v1) (r2 : zR v2) (h : wp_X_traveller σ v1 v2 Q) : zCi l D ad ca y_X_traveller b_X_traveller 3 (some .int) (zrm 3 69) [.ref (ad 54), .int (zI v1), .int (zI v2)] σ Q := by
  refine zCi_of (by decide +kernel) (Nat.le_of_ble_eq_true rfl) ?_
  intro X G C hl hD had hca
  subst hl hD had hca
  have C : zC X G b_X_traveller "GateRoads" 3 (some .int) 3 69 := C
  show zJ X G (zQi X G Q) 3 0 [(0, .ref (gad G 54)), (1, .int (zI v1)), (2, .int (zI v2))] [] σ
  unfold wp_X_traveller at h
  refine j_iload_n C d_X_traveller_0 1 rfl rfl ?_
  refine j_callS C d_X_traveller_1 ml_X_65 ms_X_isPlace (c_X_isPlace (xl X) (gD G) (gad G) (gca G) (v0 := v1) hσ r1 h) rfl rfl rfl rfl rfl (fun z1 σ2 rz1 hσ2 h => ?_)
  obtain ⟨ez1, h⟩ := h; subst ez1
  refine j_if_ne (tgt := 9) C d_X_traveller_4 rfl rz1 (fun c => ?_) (fun c => ?_)
  · have h := h.1 c
    refine j_iload_n C d_X_traveller_9 2 rfl rfl ?_
    refine j_iconst C d_X_traveller_10 ?_
    refine j_sipush C d_X_traveller_11 rfl ?_
    refine j_callS C d_X_traveller_14 ml_X_69 ms_X_within (c_X_within (xl X) (gD G) (gad G) (gca G) (v0 := v2) (v1 := 0) (v2 := 2880) hσ r2 (zR_of (x := 0) rfl) (zR_of (x := 2880) rfl) h) rfl rfl rfl rfl rfl (fun z3 σ4 rz3 hσ4 h => ?_)
    obtain ⟨ez3, h⟩ := h; subst ez3
    refine j_if_ne (tgt := 23) C d_X_traveller_17 rfl rz3 (fun c => ?_) (fun c => ?_)
    · have h := h.1 c
      refine j_aload_n C d_X_traveller_23 0 rfl rfl ?_
      refine j_getr (kf := 0) (m := 0) C d_X_traveller_24 sh_54 rfl i_X rfl rfl fl_X_12 ?_
      refine j_geti (kf := 7) (kI := 7) C d_X_traveller_27 sh_0 rfl i_S rfl rfl rfl fl_X_122 ?_
      refine j_bipush C d_X_traveller_30 rfl ?_
      refine j_icmp_lt (tgt := 38) C d_X_traveller_32 rfl (hσ _ _) (zR_of (x := 10) rfl) (fun c => ?_) (fun c => ?_)
      · have h := h.1 c
        refine j_aload_n C d_X_traveller_38 0 rfl rfl ?_
        refine j_callVv C d_X_traveller_39 ml_X_73 mi_X_remember (c_X_remember (xl X) (gD G) (gad G) (gca G)  hσ h) sh_54 rfl rfl rfl rfl rfl rfl rfl (fun σ6 hσ6 h => ?_)
        refine j_aload_n C d_X_traveller_42 0 rfl rfl ?_
        refine j_getr (kf := 0) (m := 0) C d_X_traveller_43 sh_54 rfl i_X rfl rfl fl_X_12 ?_
        refine j_iload_n C d_X_traveller_46 1 rfl rfl ?_
        refine j_iload_n C d_X_traveller_47 2 rfl rfl ?_
        refine j_callV C d_X_traveller_48 ml_X_125 mi_S_addTraveller (c_S_addTraveller (xl X) (gD G) (gad G) (gca G) (v1 := v1) (v2 := v2) hσ6 r1 r2 h) sh_0 rfl rfl rfl rfl rfl rfl rfl (fun z7 σ8 rz7 hσ8 h => ?_)
        exact j_ireturn C d_X_traveller_51 rz7 hσ8 h
      · have h := h.2 c
        refine j_bipush C d_X_traveller_35 rfl ?_
        exact j_ireturn C d_X_traveller_37 (zR_of (x := (-4)) rfl) hσ h
    · have h := h.2 c
      refine j_bipush C d_X_traveller_20 rfl ?_
      exact j_ireturn C d_X_traveller_22 (zR_of (x := (-2)) rfl) hσ h
  · have h := h.2 c
    refine j_iconst C d_X_traveller_7 ?_
    exact j_ireturn C d_X_traveller_8 (zR_of (x := (-1)) rfl) hσ h
set_option maxRecDepth 100000 in
set_option maxHeartbeats 4000000 in
theorem w_S_spanEnd_b46 {X : zX} {G : zG} (C : zC X G b_S_spanEnd "GateRoads$State" 5 (some .int) 1 22) {σ : zM} {v1 : Int} {v2 : Int} {v3 : Int} (hσ : zRM σ) (r1 : zR v1) (r2 : zR v2) (r3 : zR v3) {Q : Int → Prop} {k10 : Int → Prop} (hk10 : ∀ (v4 : Int), zR v4 → k10 v4 → zJ X G (zQi X G (fun z u => σ = u ∧ Q z)) 5 10 [(0, .ref (gad G 0)), (1, .int (zI v1)), (2, .int (zI v2)), (3, .int (zI v3)), (4, .int (zI v4))] [] σ) (v4 : Int) (r4 : zR v4) (h : wp_S_spanEnd_b46 σ v1 v2 v3 k10 Q v4) : zJ X G (zQi X G (fun z u => σ = u ∧ Q z)) 5 46 [(0, .ref (gad G 0)), (1, .int (zI v1)), (2, .int (zI v2)), (3, .int (zI v3)), (4, .int (zI v4))] [] σ := by
  unfold wp_S_spanEnd_b46 at h
  obtain ⟨g5, h⟩ := h
  refine j_iinc (L' := [(4, .int (zI (v4 + 1))), (0, .ref (gad G 0)), (1, .int (zI v1)), (2, .int (zI v2)), (3, .int (zI v3))]) C d_S_spanEnd_46 4 rfl rfl rfl ?_
  refine j_goto (tgt := 10) C d_S_spanEnd_49 rfl ?_
  refine j_sub (L' := [(0, .ref (gad G 0)), (1, .int (zI v1)), (2, .int (zI v2)), (3, .int (zI v3)), (4, .int (zI (v4 + 1)))]) [1, 2, 3, 4, 0] rfl ?_
  exact hk10 (v4 + 1) g5 h
set_option maxRecDepth 100000 in
set_option maxHeartbeats 4000000 in
theorem w_S_spanEnd_L10 {X : zX} {G : zG} (C : zC X G b_S_spanEnd "GateRoads$State" 5 (some .int) 1 22) {σ : zM} {v1 : Int} {v2 : Int} {v3 : Int} (hσ : zRM σ) (r1 : zR v1) (r2 : zR v2) (r3 : zR v3) {Q : Int → Prop} : ∀ (n : Nat) (v4 : Int) (r4 : zR v4), wp_S_spanEnd_L10 σ v1 v2 v3 Q n v4 → zJ X G (zQi X G (fun z u => σ = u ∧ Q z)) 5 10 [(0, .ref (gad G 0)), (1, .int (zI v1)), (2, .int (zI v2)), (3, .int (zI v3)), (4, .int (zI v4))] [] σ := by
  intro n
  induction n with
  | zero => intro v4 r4 h; exact False.elim h
  | succ n ih =>
    intro v4 r4 h
    rw [wp_S_spanEnd_L10] at h
    refine j_iload C d_S_spanEnd_10 4 rfl ?_
    refine j_iload_n C d_S_spanEnd_12 3 rfl rfl ?_
    refine j_icmp_ge (tgt := 52) C d_S_spanEnd_13 rfl r4 r3 (fun c => ?_) (fun c => ?_)
    · have h := h.1 c
      refine j_bipush C d_S_spanEnd_52 rfl ?_
      exact j_ireturn C d_S_spanEnd_54 (zR_of (x := (-6)) rfl) hσ ⟨rfl, h⟩
    · have h := h.2 c
      refine j_iload_n C d_S_spanEnd_16 2 rfl rfl ?_
      refine j_aload_n C d_S_spanEnd_17 0 rfl rfl ?_
      refine j_iload_n C d_S_spanEnd_18 1 rfl rfl ?_
      refine j_iload C d_S_spanEnd_19 4 rfl ?_
      refine j_callV C d_S_spanEnd_21 ml_S_64 mi_S_spanFrom (c_S_spanFrom (xl X) (gD G) (gad G) (gca G) (v1 := v1) (v2 := v4) hσ r1 r4 h) sh_0 rfl rfl rfl rfl rfl rfl rfl (fun z3 σ4 rz3 hσ4 h => ?_)
      obtain ⟨ez3, h⟩ := h; subst ez3
      refine j_icmp_lt (tgt := 46) C d_S_spanEnd_24 rfl r2 rz3 (fun c => ?_) (fun c => ?_)
      · have h := h.1 c
        refine w_S_spanEnd_b46 C hσ r1 r2 r3 ih v4 r4 h
      · have h := h.2 c
        refine j_iload_n C d_S_spanEnd_27 2 rfl rfl ?_
        refine j_aload_n C d_S_spanEnd_28 0 rfl rfl ?_
        refine j_iload_n C d_S_spanEnd_29 1 rfl rfl ?_
        refine j_iload C d_S_spanEnd_30 4 rfl ?_
        refine j_callV C d_S_spanEnd_32 ml_S_61 mi_S_spanTo (c_S_spanTo (xl X) (gD G) (gad G) (gca G) (v1 := v1) (v2 := v4) hσ r1 r4 h) sh_0 rfl rfl rfl rfl rfl rfl rfl (fun z6 σ7 rz6 hσ7 h => ?_)
        obtain ⟨ez6, h⟩ := h; subst ez6
        refine j_icmp_ge (tgt := 46) C d_S_spanEnd_35 rfl r2 rz6 (fun c => ?_) (fun c => ?_)
        · have h := h.1 c
          refine w_S_spanEnd_b46 C hσ r1 r2 r3 ih v4 r4 h
        · have h := h.2 c
          refine j_aload_n C d_S_spanEnd_38 0 rfl rfl ?_
          refine j_iload_n C d_S_spanEnd_39 1 rfl rfl ?_
          refine j_iload C d_S_spanEnd_40 4 rfl ?_
          refine j_callV C d_S_spanEnd_42 ml_S_61 mi_S_spanTo (c_S_spanTo (xl X) (gD G) (gad G) (gca G) (v1 := v1) (v2 := v4) hσ r1 r4 h) sh_0 rfl rfl rfl rfl rfl rfl rfl (fun z8 σ9 rz8 hσ9 h => ?_)
          obtain ⟨ez8, h⟩ := h; subst ez8
          exact j_ireturn C d_S_spanEnd_45 rz8 hσ ⟨rfl, h⟩
set_option maxRecDepth 100000 in
set_option maxHeartbeats 4000000 in
theorem c_S_spanEnd (l : Launch) (D : va_G) (ad : Nat → Nat) (ca : Nat → ClassId) {σ : zM} {v1 : Int} {v2 : Int} {Q : Int → Prop} (hσ : zRM σ) (r1 : zR v1) (r2 : zR v2) (h : wp_S_spanEnd σ v1 v2 Q) : zCi l D ad ca y_S_spanEnd b_S_spanEnd 5 (some .int) (zrm 1 22) [.ref (ad 0), .int (zI v1), .int (zI v2)] σ (fun z u => σ = u ∧ Q z) := by
  refine zCi_of (by decide +kernel) (Nat.le_of_ble_eq_true rfl) ?_
  intro X G C hl hD had hca
  subst hl hD had hca
  have C : zC X G b_S_spanEnd "GateRoads$State" 5 (some .int) 1 22 := C
  show zJ X G (zQi X G (fun z u => σ = u ∧ Q z)) 5 0 [(0, .ref (gad G 0)), (1, .int (zI v1)), (2, .int (zI v2))] [] σ
  unfold wp_S_spanEnd at h
  refine j_aload_n C d_S_spanEnd_0 0 rfl rfl ?_
  refine j_iload_n C d_S_spanEnd_1 1 rfl rfl ?_
  refine j_iconst C d_S_spanEnd_2 ?_
  refine j_callV C d_S_spanEnd_3 ml_S_57 mi_S_ofRoads (c_S_ofRoads (xl X) (gD G) (gad G) (gca G) (v1 := v1) (v2 := 4) hσ r1 (zR_of (x := 4) rfl) h) sh_0 rfl rfl rfl rfl rfl rfl rfl (fun z1 σ2 rz1 hσ2 h => ?_)
  obtain ⟨ez1, h⟩ := h; subst ez1
  refine j_istore_n (L' := [(3, .int (zI z1)), (0, .ref (gad G 0)), (1, .int (zI v1)), (2, .int (zI v2))]) C d_S_spanEnd_6 rfl rfl rfl ?_
  refine j_iconst C d_S_spanEnd_7 ?_
  refine j_istore (L' := [(4, .int (zI 0)), (3, .int (zI z1)), (0, .ref (gad G 0)), (1, .int (zI v1)), (2, .int (zI v2))]) C d_S_spanEnd_8 rfl rfl ?_
  obtain ⟨n10, h⟩ := h
  refine j_sub (L' := [(0, .ref (gad G 0)), (1, .int (zI v1)), (2, .int (zI v2)), (3, .int (zI z1)), (4, .int (zI 0))]) [2, 3, 4, 1, 0] rfl ?_
  refine w_S_spanEnd_L10 C hσ r1 r2 rz1 n10 0 (zR_of (x := 0) rfl) h
set_option maxRecDepth 100000 in
set_option maxHeartbeats 4000000 in
theorem w_S_closedAt_b42 {X : zX} {G : zG} (C : zC X G b_S_closedAt "GateRoads$State" 4 (some .boolean) 1 22) {σ : zM} {v1 : Int} {v2 : Int} (hσ : zRM σ) (r1 : zR v1) (r2 : zR v2) {Q : Int → Prop} {k2 : Int → Prop} (hk2 : ∀ (v3 : Int), zR v3 → k2 v3 → zJ X G (zQi X G (fun z u => σ = u ∧ Q z)) 4 2 [(0, .ref (gad G 0)), (1, .int (zI v1)), (2, .int (zI v2)), (3, .int (zI v3))] [] σ) (v3 : Int) (r3 : zR v3) (h : wp_S_closedAt_b42 σ v1 v2 k2 Q v3) : zJ X G (zQi X G (fun z u => σ = u ∧ Q z)) 4 42 [(0, .ref (gad G 0)), (1, .int (zI v1)), (2, .int (zI v2)), (3, .int (zI v3))] [] σ := by
  unfold wp_S_closedAt_b42 at h
  obtain ⟨g3, h⟩ := h
  refine j_iinc (L' := [(3, .int (zI (v3 + 1))), (0, .ref (gad G 0)), (1, .int (zI v1)), (2, .int (zI v2))]) C d_S_closedAt_42 3 rfl rfl rfl ?_
  refine j_goto (tgt := 2) C d_S_closedAt_45 rfl ?_
  refine j_sub (L' := [(0, .ref (gad G 0)), (1, .int (zI v1)), (2, .int (zI v2)), (3, .int (zI (v3 + 1)))]) [1, 2, 3, 0] rfl ?_
  exact hk2 (v3 + 1) g3 h
set_option maxRecDepth 100000 in
set_option maxHeartbeats 4000000 in
theorem w_S_closedAt_L2 {X : zX} {G : zG} (C : zC X G b_S_closedAt "GateRoads$State" 4 (some .boolean) 1 22) {σ : zM} {v1 : Int} {v2 : Int} (hσ : zRM σ) (r1 : zR v1) (r2 : zR v2) {Q : Int → Prop} : ∀ (n : Nat) (v3 : Int) (r3 : zR v3), wp_S_closedAt_L2 σ v1 v2 Q n v3 → zJ X G (zQi X G (fun z u => σ = u ∧ Q z)) 4 2 [(0, .ref (gad G 0)), (1, .int (zI v1)), (2, .int (zI v2)), (3, .int (zI v3))] [] σ := by
  intro n
  induction n with
  | zero => intro v3 r3 h; exact False.elim h
  | succ n ih =>
    intro v3 r3 h
    rw [wp_S_closedAt_L2] at h
    refine j_iload_n C d_S_closedAt_2 3 rfl rfl ?_
    refine j_aload_n C d_S_closedAt_3 0 rfl rfl ?_
    refine j_geti (kf := 6) (kI := 6) C d_S_closedAt_4 sh_0 rfl i_S rfl rfl rfl fl_S_37 ?_
    refine j_icmp_ge (tgt := 48) C d_S_closedAt_7 rfl r3 (hσ _ _) (fun c => ?_) (fun c => ?_)
    · have h := h.1 c
      refine j_iconst C d_S_closedAt_48 ?_
      exact j_zreturn C d_S_closedAt_49 (by decide) hσ ⟨rfl, h⟩
    · have h := h.2 c
      refine j_aload_n C d_S_closedAt_10 0 rfl rfl ?_
      refine j_iload_n C d_S_closedAt_11 3 rfl rfl ?_
      refine j_iconst C d_S_closedAt_12 ?_
      refine j_callV C d_S_closedAt_13 ml_S_70 mi_S_ofClosures (c_S_ofClosures (xl X) (gD G) (gad G) (gca G) (v1 := v3) (v2 := 0) hσ r3 (zR_of (x := 0) rfl) h) sh_0 rfl rfl rfl rfl rfl rfl rfl (fun z1 σ2 rz1 hσ2 h => ?_)
      obtain ⟨ez1, h⟩ := h; subst ez1
      refine j_iload_n C d_S_closedAt_16 1 rfl rfl ?_
      refine j_icmp_ne (tgt := 42) C d_S_closedAt_17 rfl rz1 r1 (fun c => ?_) (fun c => ?_)
      · have h := h.1 c
        refine w_S_closedAt_b42 C hσ r1 r2 ih v3 r3 h
      · have h := h.2 c
        refine j_iload_n C d_S_closedAt_20 2 rfl rfl ?_
        refine j_aload_n C d_S_closedAt_21 0 rfl rfl ?_
        refine j_iload_n C d_S_closedAt_22 3 rfl rfl ?_
        refine j_iconst C d_S_closedAt_23 ?_
        refine j_callV C d_S_closedAt_24 ml_S_70 mi_S_ofClosures (c_S_ofClosures (xl X) (gD G) (gad G) (gca G) (v1 := v3) (v2 := 1) hσ r3 (zR_of (x := 1) rfl) h) sh_0 rfl rfl rfl rfl rfl rfl rfl (fun z4 σ5 rz4 hσ5 h => ?_)
        obtain ⟨ez4, h⟩ := h; subst ez4
        refine j_icmp_lt (tgt := 42) C d_S_closedAt_27 rfl r2 rz4 (fun c => ?_) (fun c => ?_)
        · have h := h.1 c
          refine w_S_closedAt_b42 C hσ r1 r2 ih v3 r3 h
        · have h := h.2 c
          refine j_iload_n C d_S_closedAt_30 2 rfl rfl ?_
          refine j_aload_n C d_S_closedAt_31 0 rfl rfl ?_
          refine j_iload_n C d_S_closedAt_32 3 rfl rfl ?_
          refine j_iconst C d_S_closedAt_33 ?_
          refine j_callV C d_S_closedAt_34 ml_S_70 mi_S_ofClosures (c_S_ofClosures (xl X) (gD G) (gad G) (gca G) (v1 := v3) (v2 := 2) hσ r3 (zR_of (x := 2) rfl) h) sh_0 rfl rfl rfl rfl rfl rfl rfl (fun z6 σ7 rz6 hσ7 h => ?_)
          obtain ⟨ez6, h⟩ := h; subst ez6
          refine j_icmp_ge (tgt := 42) C d_S_closedAt_37 rfl r2 rz6 (fun c => ?_) (fun c => ?_)
          · have h := h.1 c
            refine w_S_closedAt_b42 C hσ r1 r2 ih v3 r3 h
          · have h := h.2 c
            refine j_iconst C d_S_closedAt_40 ?_
            exact j_zreturn C d_S_closedAt_41 (by decide) hσ ⟨rfl, h⟩
set_option maxRecDepth 100000 in
set_option maxHeartbeats 4000000 in
theorem c_S_closedAt (l : Launch) (D : va_G) (ad : Nat → Nat) (ca : Nat → ClassId) {σ : zM} {v1 : Int} {v2 : Int} {Q : Int → Prop} (hσ : zRM σ) (r1 : zR v1) (r2 : zR v2) (h : wp_S_closedAt σ v1 v2 Q) : zCi l D ad ca y_S_closedAt b_S_closedAt 4 (some .boolean) (zrm 1 22) [.ref (ad 0), .int (zI v1), .int (zI v2)] σ (fun z u => σ = u ∧ Q z) := by
  refine zCi_of (by decide +kernel) (Nat.le_of_ble_eq_true rfl) ?_
  intro X G C hl hD had hca
  subst hl hD had hca
  have C : zC X G b_S_closedAt "GateRoads$State" 4 (some .boolean) 1 22 := C
  show zJ X G (zQi X G (fun z u => σ = u ∧ Q z)) 4 0 [(0, .ref (gad G 0)), (1, .int (zI v1)), (2, .int (zI v2))] [] σ
  unfold wp_S_closedAt at h
  refine j_iconst C d_S_closedAt_0 ?_
  refine j_istore_n (L' := [(3, .int (zI 0)), (0, .ref (gad G 0)), (1, .int (zI v1)), (2, .int (zI v2))]) C d_S_closedAt_1 rfl rfl rfl ?_
  obtain ⟨n8, h⟩ := h
  refine j_sub (L' := [(0, .ref (gad G 0)), (1, .int (zI v1)), (2, .int (zI v2)), (3, .int (zI 0))]) [1, 2, 3, 0] rfl ?_
  refine w_S_closedAt_L2 C hσ r1 r2 n8 0 (zR_of (x := 0) rfl) h
set_option maxRecDepth 100000 in
set_option maxHeartbeats 4000000 in
theorem w_S_whyNoEntry_b51 {X : zX} {G : zG} (C : zC X G b_S_whyNoEntry "GateRoads$State" 6 (some .int) 2 46) {σ : zM} (hσ : zRM σ) {Q : Int → Prop} (v1 : Int) (v2 : Int) (v5 : Int) (r1 : zR v1) (r2 : zR v2) (r5 : zR v5) (h : wp_S_whyNoEntry_b51 σ Q v1 v2 v5) : zJ X G (zQi X G (fun z u => σ = u ∧ Q z)) 6 51 [(0, .ref (gad G 0)), (1, .int (zI v1)), (2, .int (zI v2)), (5, .int (zI v5))] [] σ := by
  unfold wp_S_whyNoEntry_b51 at h
  refine j_aload_n C d_S_whyNoEntry_51 0 rfl rfl ?_
  refine j_iload_n C d_S_whyNoEntry_52 1 rfl rfl ?_
  refine j_iload_n C d_S_whyNoEntry_53 2 rfl rfl ?_
  refine j_callV C d_S_whyNoEntry_54 ml_S_93 mi_S_closedAt (c_S_closedAt (xl X) (gD G) (gad G) (gca G) (v1 := v1) (v2 := v2) hσ r1 r2 h) sh_0 rfl rfl rfl rfl rfl rfl rfl (fun z8 σ9 rz8 hσ9 h => ?_)
  obtain ⟨ez8, h⟩ := h; subst ez8
  refine j_if_eq (tgt := 62) C d_S_whyNoEntry_57 rfl rz8 (fun c => ?_) (fun c => ?_)
  · have h := h.1 c
    refine j_iload_n C d_S_whyNoEntry_62 2 rfl rfl ?_
    refine j_iload C d_S_whyNoEntry_63 3 rfl ?_
    refine j_iadd C d_S_whyNoEntry_65 ?_
    refine j_sipush C d_S_whyNoEntry_66 rfl ?_
    obtain ⟨g10, h⟩ := h
    refine j_icmp_le (tgt := 76) C d_S_whyNoEntry_69 rfl g10 (zR_of (x := 2880) rfl) (fun c => ?_) (fun c => ?_)
    · have h := h.1 c
      refine j_iconst C d_S_whyNoEntry_76 ?_
      exact j_ireturn C d_S_whyNoEntry_77 (zR_of (x := 0) rfl) hσ ⟨rfl, h⟩
    · have h := h.2 c
      refine j_iconst C d_S_whyNoEntry_72 ?_
      refine j_goto (tgt := 77) C d_S_whyNoEntry_73 rfl ?_
      exact j_ireturn C d_S_whyNoEntry_77 (zR_of (x := 5) rfl) hσ ⟨rfl, h⟩
  · have h := h.2 c
    refine j_iconst C d_S_whyNoEntry_60 ?_
    exact j_ireturn C d_S_whyNoEntry_61 (zR_of (x := 4) rfl) hσ ⟨rfl, h⟩
set_option maxRecDepth 100000 in
set_option maxHeartbeats 4000000 in
theorem c_S_whyNoEntry (l : Launch) (D : va_G) (ad : Nat → Nat) (ca : Nat → ClassId) {σ : zM} {v1 : Int} {v2 : Int} {Q : Int → Prop} (hσ : zRM σ) (r1 : zR v1) (r2 : zR v2) (h : wp_S_whyNoEntry σ v1 v2 Q) : zCi l D ad ca y_S_whyNoEntry b_S_whyNoEntry 6 (some .int) (zrm 2 46) [.ref (ad 0), .int (zI v1), .int (zI v2)] σ (fun z u => σ = u ∧ Q z) := by
  refine zCi_of (by decide +kernel) (Nat.le_of_ble_eq_true rfl) ?_
  intro X G C hl hD had hca
  subst hl hD had hca
  have C : zC X G b_S_whyNoEntry "GateRoads$State" 6 (some .int) 2 46 := C
  show zJ X G (zQi X G (fun z u => σ = u ∧ Q z)) 6 0 [(0, .ref (gad G 0)), (1, .int (zI v1)), (2, .int (zI v2))] [] σ
  unfold wp_S_whyNoEntry at h
  refine j_iload_n C d_S_whyNoEntry_0 2 rfl rfl ?_
  refine j_sipush C d_S_whyNoEntry_1 rfl ?_
  obtain ⟨g1, h⟩ := h
  refine j_irem C d_S_whyNoEntry_4 r2 g1 (zR_of (x := 1440) rfl) (by decide) ?_
  refine j_istore_n (L' := [(3, .int (zI (v2 % 1440))), (0, .ref (gad G 0)), (1, .int (zI v1)), (2, .int (zI v2))]) C d_S_whyNoEntry_5 rfl rfl rfl ?_
  refine j_aload_n C d_S_whyNoEntry_6 1 rfl rfl ?_
  refine j_iload_n C d_S_whyNoEntry_7 2 rfl rfl ?_
  refine j_iload_n C d_S_whyNoEntry_8 0 rfl rfl ?_
  refine j_callV C d_S_whyNoEntry_9 ml_S_90 mi_S_spanEnd (c_S_spanEnd (xl X) (gD G) (gad G) (gca G) (v1 := v1) (v2 := v2 % 1440) hσ r1 (zMod_rg r2 g1 (zR_of (x := 1440) rfl) (by decide)) h) sh_0 rfl rfl rfl rfl rfl rfl rfl (fun z2 σ3 rz2 hσ3 h => ?_)
  obtain ⟨ez2, h⟩ := h; subst ez2
  refine j_istore (L' := [(4, .int (zI z2)), (3, .int (zI (v2 % 1440))), (0, .ref (gad G 0)), (1, .int (zI v1)), (2, .int (zI v2))]) C d_S_whyNoEntry_12 rfl rfl ?_
  refine j_iload C d_S_whyNoEntry_14 0 rfl ?_
  refine j_bipush C d_S_whyNoEntry_16 rfl ?_
  refine j_icmp_ne (tgt := 23) C d_S_whyNoEntry_18 rfl rz2 (zR_of (x := (-6)) rfl) (fun c => ?_) (fun c => ?_)
  · have h := h.1 c
    refine j_aload_n C d_S_whyNoEntry_23 2 rfl rfl ?_
    refine j_iload_n C d_S_whyNoEntry_24 3 rfl rfl ?_
    refine j_iconst C d_S_whyNoEntry_25 ?_
    refine j_callV C d_S_whyNoEntry_26 ml_S_57 mi_S_ofRoads (c_S_ofRoads (xl X) (gD G) (gad G) (gca G) (v1 := v1) (v2 := 2) hσ r1 (zR_of (x := 2) rfl) h) sh_0 rfl rfl rfl rfl rfl rfl rfl (fun z4 σ5 rz4 hσ5 h => ?_)
    obtain ⟨ez4, h⟩ := h; subst ez4
    refine j_istore (L' := [(5, .int (zI z4)), (4, .int (zI z2)), (3, .int (zI (v2 % 1440))), (0, .ref (gad G 0)), (1, .int (zI v1)), (2, .int (zI v2))]) C d_S_whyNoEntry_29 rfl rfl ?_
    refine j_aload_n C d_S_whyNoEntry_31 3 rfl rfl ?_
    refine j_iload_n C d_S_whyNoEntry_32 4 rfl rfl ?_
    refine j_iconst C d_S_whyNoEntry_33 ?_
    refine j_callV C d_S_whyNoEntry_34 ml_S_57 mi_S_ofRoads (c_S_ofRoads (xl X) (gD G) (gad G) (gca G) (v1 := v1) (v2 := 3) hσ r1 (zR_of (x := 3) rfl) h) sh_0 rfl rfl rfl rfl rfl rfl rfl (fun z6 σ7 rz6 hσ7 h => ?_)
    obtain ⟨ez6, h⟩ := h; subst ez6
    refine j_if_eq (tgt := 51) C d_S_whyNoEntry_37 rfl rz6 (fun c => ?_) (fun c => ?_)
    · have h := h.1 c
      refine j_sub (L' := [(0, .ref (gad G 0)), (1, .int (zI v1)), (2, .int (zI v2)), (5, .int (zI z4))]) [3, 4, 5, 0] rfl ?_
      refine w_S_whyNoEntry_b51 C hσ v1 v2 z4 r1 r2 rz4 h
    · have h := h.2 c
      refine j_iload_n C d_S_whyNoEntry_40 2 rfl rfl ?_
      refine j_iload C d_S_whyNoEntry_41 0 rfl ?_
      refine j_iadd C d_S_whyNoEntry_43 ?_
      refine j_iload C d_S_whyNoEntry_44 1 rfl ?_
      obtain ⟨g11, h⟩ := h
      refine j_icmp_le (tgt := 51) C d_S_whyNoEntry_46 rfl g11 rz2 (fun c => ?_) (fun c => ?_)
      · have h := h.1 c
        refine j_sub (L' := [(0, .ref (gad G 0)), (1, .int (zI v1)), (2, .int (zI v2)), (5, .int (zI z4))]) [3, 4, 5, 0] rfl ?_
        refine w_S_whyNoEntry_b51 C hσ v1 v2 z4 r1 r2 rz4 h
      · have h := h.2 c
        refine j_iconst C d_S_whyNoEntry_49 ?_
        exact j_ireturn C d_S_whyNoEntry_50 (zR_of (x := 3) rfl) hσ ⟨rfl, h⟩
  · have h := h.2 c
    refine j_iconst C d_S_whyNoEntry_21 ?_
    exact j_ireturn C d_S_whyNoEntry_22 (zR_of (x := 2) rfl) hσ ⟨rfl, h⟩
set_option maxRecDepth 100000 in
set_option maxHeartbeats 4000000 in
theorem c_S_whyNoGoing (l : Launch) (D : va_G) (ad : Nat → Nat) (ca : Nat → ClassId) {σ : zM} {v1 : Int} {v2 : Int} {Q : Int → Prop} (hσ : zRM σ) (r1 : zR v1) (r2 : zR v2) (h : wp_S_whyNoGoing σ v1 v2 Q) : zCi l D ad ca y_S_whyNoGoing b_S_whyNoGoing 3 (some .int) (zrm 3 71) [.ref (ad 0), .int (zI v1), .int (zI v2)] σ (fun z u => σ = u ∧ Q z) := by
  refine zCi_of (by decide +kernel) (Nat.le_of_ble_eq_true rfl) ?_
  intro X G C hl hD had hca
  subst hl hD had hca
  have C : zC X G b_S_whyNoGoing "GateRoads$State" 3 (some .int) 3 71 := C
  show zJ X G (zQi X G (fun z u => σ = u ∧ Q z)) 3 0 [(0, .ref (gad G 0)), (1, .int (zI v1)), (2, .int (zI v2))] [] σ
  unfold wp_S_whyNoGoing at h
  refine j_aload_n C d_S_whyNoGoing_0 0 rfl rfl ?_
  refine j_iload_n C d_S_whyNoGoing_1 2 rfl rfl ?_
  refine j_iconst C d_S_whyNoGoing_2 ?_
  refine j_callV C d_S_whyNoGoing_3 ml_S_57 mi_S_ofRoads (c_S_ofRoads (xl X) (gD G) (gad G) (gca G) (v1 := v2) (v2 := 0) hσ r2 (zR_of (x := 0) rfl) h) sh_0 rfl rfl rfl rfl rfl rfl rfl (fun z1 σ2 rz1 hσ2 h => ?_)
  obtain ⟨ez1, h⟩ := h; subst ez1
  refine j_aload_n C d_S_whyNoGoing_6 0 rfl rfl ?_
  refine j_iload_n C d_S_whyNoGoing_7 1 rfl rfl ?_
  refine j_iconst C d_S_whyNoGoing_8 ?_
  refine j_callV C d_S_whyNoGoing_9 ml_S_67 mi_S_ofTravellers (c_S_ofTravellers (xl X) (gD G) (gad G) (gca G) (v1 := v1) (v2 := 0) hσ r1 (zR_of (x := 0) rfl) h) sh_0 rfl rfl rfl rfl rfl rfl rfl (fun z3 σ4 rz3 hσ4 h => ?_)
  obtain ⟨ez3, h⟩ := h; subst ez3
  refine j_icmp_eq (tgt := 17) C d_S_whyNoGoing_12 rfl rz1 rz3 (fun c => ?_) (fun c => ?_)
  · have h := h.1 c
    refine j_aload_n C d_S_whyNoGoing_17 0 rfl rfl ?_
    refine j_iload_n C d_S_whyNoGoing_18 2 rfl rfl ?_
    refine j_aload_n C d_S_whyNoGoing_19 0 rfl rfl ?_
    refine j_iload_n C d_S_whyNoGoing_20 1 rfl rfl ?_
    refine j_iconst C d_S_whyNoGoing_21 ?_
    refine j_callV C d_S_whyNoGoing_22 ml_S_67 mi_S_ofTravellers (c_S_ofTravellers (xl X) (gD G) (gad G) (gca G) (v1 := v1) (v2 := 1) hσ r1 (zR_of (x := 1) rfl) h) sh_0 rfl rfl rfl rfl rfl rfl rfl (fun z5 σ6 rz5 hσ6 h => ?_)
    obtain ⟨ez5, h⟩ := h; subst ez5
    refine j_callV C d_S_whyNoGoing_25 ml_S_87 mi_S_whyNoEntry (c_S_whyNoEntry (xl X) (gD G) (gad G) (gca G) (v1 := v2) (v2 := z5) hσ r2 rz5 h) sh_0 rfl rfl rfl rfl rfl rfl rfl (fun z7 σ8 rz7 hσ8 h => ?_)
    obtain ⟨ez7, h⟩ := h; subst ez7
    exact j_ireturn C d_S_whyNoGoing_28 rz7 hσ ⟨rfl, h⟩
  · have h := h.2 c
    refine j_iconst C d_S_whyNoGoing_15 ?_
    exact j_ireturn C d_S_whyNoGoing_16 (zR_of (x := 1) rfl) hσ ⟨rfl, h⟩
set_option maxRecDepth 100000 in
set_option maxHeartbeats 4000000 in
theorem c_X_refuse (l : Launch) (D : va_G) (ad : Nat → Nat) (ca : Nat → ClassId) {σ : zM} {v1 : Int} {Q : Int → zM → Prop} (hσ : zRM σ) (r1 : zR v1) (h : wp_X_refuse σ v1 Q) : zCi l D ad ca y_X_refuse b_X_refuse 2 (some .int) (zrm 0 0) [.ref (ad 54), .int (zI v1)] σ Q := by
  refine zCi_of (by decide +kernel) (Nat.le_of_ble_eq_true rfl) ?_
  intro X G C hl hD had hca
  subst hl hD had hca
  have C : zC X G b_X_refuse "GateRoads" 2 (some .int) 0 0 := C
  show zJ X G (zQi X G Q) 2 0 [(0, .ref (gad G 54)), (1, .int (zI v1))] [] σ
  unfold wp_X_refuse at h
  refine j_aload_n C d_X_refuse_0 0 rfl rfl ?_
  refine j_iload_n C d_X_refuse_1 1 rfl rfl ?_
  refine j_puti (kf := 5) (kI := 5) C t_X d_X_refuse_2 sh_54 rfl i_X t_X_ok n_X rfl rfl rfl fl_X_168 rfl (Or.inl rfl) ?_
  refine j_mem (fun σ1 eσ1 => ?_)
  have h := h σ1 eσ1
  have hσ1 : zRM σ1 := by rw [eσ1]; exact zU_rg hσ _ _ r1
  refine j_bipush C d_X_refuse_5 rfl ?_
  exact j_ireturn C d_X_refuse_7 (zR_of (x := (-5)) rfl) hσ1 h
set_option maxRecDepth 100000 in
set_option maxHeartbeats 4000000 in
theorem c_S_enter (l : Launch) (D : va_G) (ad : Nat → Nat) (ca : Nat → ClassId) {σ : zM} {v1 : Int} {v2 : Int} {Q : Int → zM → Prop} (hσ : zRM σ) (r1 : zR v1) (r2 : zR v2) (h : wp_S_enter σ v1 v2 Q) : zCi l D ad ca y_S_enter b_S_enter 6 (some .int) (zrm 1 22) [.ref (ad 0), .int (zI v1), .int (zI v2)] σ Q := by
  refine zCi_of (by decide +kernel) (Nat.le_of_ble_eq_true rfl) ?_
  intro X G C hl hD had hca
  subst hl hD had hca
  have C : zC X G b_S_enter "GateRoads$State" 6 (some .int) 1 22 := C
  show zJ X G (zQi X G Q) 6 0 [(0, .ref (gad G 0)), (1, .int (zI v1)), (2, .int (zI v2))] [] σ
  unfold wp_S_enter at h
  refine j_iload_n C d_S_enter_0 1 rfl rfl ?_
  refine j_bipush C d_S_enter_1 rfl ?_
  refine j_imul C d_S_enter_3 ?_
  obtain ⟨g1, h⟩ := h
  refine j_istore_n (L' := [(3, .int (zI (v1 * 8))), (0, .ref (gad G 0)), (1, .int (zI v1)), (2, .int (zI v2))]) C d_S_enter_4 rfl rfl rfl ?_
  refine j_aload_n C d_S_enter_5 1 rfl rfl ?_
  refine j_iload_n C d_S_enter_6 3 rfl rfl ?_
  refine j_iconst C d_S_enter_7 ?_
  refine j_callV C d_S_enter_8 ml_S_57 mi_S_ofRoads (c_S_ofRoads (xl X) (gD G) (gad G) (gca G) (v1 := v2) (v2 := 2) hσ r2 (zR_of (x := 2) rfl) h) sh_0 rfl rfl rfl rfl rfl rfl rfl (fun z2 σ3 rz2 hσ3 h => ?_)
  obtain ⟨ez2, h⟩ := h; subst ez2
  refine j_istore (L' := [(4, .int (zI z2)), (3, .int (zI (v1 * 8))), (0, .ref (gad G 0)), (1, .int (zI v1)), (2, .int (zI v2))]) C d_S_enter_11 rfl rfl ?_
  refine j_aload_n C d_S_enter_13 2 rfl rfl ?_
  refine j_getr (kf := 4) (m := 5) C d_S_enter_14 sh_0 rfl i_S rfl rfl fl_S_24 ?_
  refine j_iload_n C d_S_enter_17 1 rfl rfl ?_
  refine j_iconst C d_S_enter_18 ?_
  refine j_iadd C d_S_enter_19 ?_
  obtain ⟨g4, h⟩ := h
  refine j_iaload C d_S_enter_20 sh_5 g4 ?_
  refine j_iload C d_S_enter_21 0 rfl ?_
  refine j_iadd C d_S_enter_23 ?_
  obtain ⟨g5, h⟩ := h
  refine j_istore (L' := [(5, .int (zI ((σ 5 ((v1 * 8) + 1)) + z2))), (4, .int (zI z2)), (3, .int (zI (v1 * 8))), (0, .ref (gad G 0)), (1, .int (zI v1)), (2, .int (zI v2))]) C d_S_enter_24 rfl rfl ?_
  refine j_aload_n C d_S_enter_26 3 rfl rfl ?_
  refine j_getr (kf := 4) (m := 5) C d_S_enter_27 sh_0 rfl i_S rfl rfl fl_S_24 ?_
  refine j_iload_n C d_S_enter_30 2 rfl rfl ?_
  refine j_iconst C d_S_enter_31 ?_
  refine j_iadd C d_S_enter_32 ?_
  refine j_aload_n C d_S_enter_33 3 rfl rfl ?_
  refine j_iload_n C d_S_enter_34 5 rfl rfl ?_
  refine j_iconst C d_S_enter_35 ?_
  refine j_callV C d_S_enter_36 ml_S_57 mi_S_ofRoads (c_S_ofRoads (xl X) (gD G) (gad G) (gca G) (v1 := v2) (v2 := 1) hσ r2 (zR_of (x := 1) rfl) h) sh_0 rfl rfl rfl rfl rfl rfl rfl (fun z6 σ7 rz6 hσ7 h => ?_)
  obtain ⟨ez6, h⟩ := h; subst ez6
  obtain ⟨g8, h⟩ := h
  refine j_iastore C d_S_enter_39 sh_5 g8 ?_
  refine j_mem (fun σ9 eσ9 => ?_)
  have h := h σ9 eσ9
  have hσ9 : zRM σ9 := by rw [eσ9]; exact zU_rg hσ _ _ rz6
  refine j_aload_n C d_S_enter_40 3 rfl rfl ?_
  refine j_getr (kf := 4) (m := 5) C d_S_enter_41 sh_0 rfl i_S rfl rfl fl_S_24 ?_
  refine j_iload_n C d_S_enter_44 2 rfl rfl ?_
  refine j_iconst C d_S_enter_45 ?_
  refine j_iadd C d_S_enter_46 ?_
  refine j_iload C d_S_enter_47 0 rfl ?_
  obtain ⟨g10, h⟩ := h
  refine j_iastore C d_S_enter_49 sh_5 g10 ?_
  refine j_mem (fun σ11 eσ11 => ?_)
  have h := h σ11 eσ11
  have hσ11 : zRM σ11 := by rw [eσ11]; exact zU_rg hσ9 _ _ g5
  refine j_aload_n C d_S_enter_50 3 rfl rfl ?_
  refine j_getr (kf := 4) (m := 5) C d_S_enter_51 sh_0 rfl i_S rfl rfl fl_S_24 ?_
  refine j_iload_n C d_S_enter_54 2 rfl rfl ?_
  refine j_iconst C d_S_enter_55 ?_
  refine j_iadd C d_S_enter_56 ?_
  refine j_iload C d_S_enter_57 0 rfl ?_
  obtain ⟨g12, h⟩ := h
  refine j_iastore C d_S_enter_59 sh_5 g12 ?_
  refine j_mem (fun σ13 eσ13 => ?_)
  have h := h σ13 eσ13
  have hσ13 : zRM σ13 := by rw [eσ13]; exact zU_rg hσ11 _ _ g5
  refine j_aload_n C d_S_enter_60 3 rfl rfl ?_
  refine j_getr (kf := 4) (m := 5) C d_S_enter_61 sh_0 rfl i_S rfl rfl fl_S_24 ?_
  refine j_iload_n C d_S_enter_64 2 rfl rfl ?_
  refine j_iconst C d_S_enter_65 ?_
  refine j_iadd C d_S_enter_66 ?_
  refine j_dup2 C d_S_enter_67 rfl rfl ?_
  obtain ⟨g14, h⟩ := h
  refine j_iaload C d_S_enter_68 sh_5 g14 ?_
  refine j_iconst C d_S_enter_69 ?_
  refine j_iadd C d_S_enter_70 ?_
  obtain ⟨g15, h⟩ := h
  obtain ⟨g16, h⟩ := h
  refine j_iastore C d_S_enter_71 sh_5 g15 ?_
  refine j_mem (fun σ17 eσ17 => ?_)
  have h := h σ17 eσ17
  have hσ17 : zRM σ17 := by rw [eσ17]; exact zU_rg hσ13 _ _ g16
  refine j_aload_n C d_S_enter_72 3 rfl rfl ?_
  refine j_getr (kf := 4) (m := 5) C d_S_enter_73 sh_0 rfl i_S rfl rfl fl_S_24 ?_
  refine j_iload_n C d_S_enter_76 2 rfl rfl ?_
  refine j_iconst C d_S_enter_77 ?_
  refine j_iadd C d_S_enter_78 ?_
  refine j_dup2 C d_S_enter_79 rfl rfl ?_
  obtain ⟨g18, h⟩ := h
  refine j_iaload C d_S_enter_80 sh_5 g18 ?_
  refine j_iload C d_S_enter_81 1 rfl ?_
  refine j_iadd C d_S_enter_83 ?_
  obtain ⟨g19, h⟩ := h
  obtain ⟨g20, h⟩ := h
  refine j_iastore C d_S_enter_84 sh_5 g19 ?_
  refine j_mem (fun σ21 eσ21 => ?_)
  have h := h σ21 eσ21
  have hσ21 : zRM σ21 := by rw [eσ21]; exact zU_rg hσ17 _ _ g20
  refine j_aload_n C d_S_enter_85 3 rfl rfl ?_
  refine j_getr (kf := 2) (m := 3) C d_S_enter_86 sh_0 rfl i_S rfl rfl fl_S_18 ?_
  refine j_iload_n C d_S_enter_89 5 rfl rfl ?_
  refine j_dup2 C d_S_enter_90 rfl rfl ?_
  obtain ⟨g22, h⟩ := h
  refine j_iaload C d_S_enter_91 sh_3 g22 ?_
  refine j_iconst C d_S_enter_92 ?_
  refine j_iadd C d_S_enter_93 ?_
  obtain ⟨g23, h⟩ := h
  obtain ⟨g24, h⟩ := h
  refine j_iastore C d_S_enter_94 sh_3 g23 ?_
  refine j_mem (fun σ25 eσ25 => ?_)
  have h := h σ25 eσ25
  have hσ25 : zRM σ25 := by rw [eσ25]; exact zU_rg hσ21 _ _ g24
  refine j_iload C d_S_enter_95 0 rfl ?_
  exact j_ireturn C d_S_enter_97 g5 hσ25 h
