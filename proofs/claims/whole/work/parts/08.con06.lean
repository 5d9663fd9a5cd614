set_option maxRecDepth 100000 in
set_option maxHeartbeats 4000000 in
theorem w_M_fewestRoads_L7 {X : zX} {G : zG} (C : zC X G b_M_fewestRoads "GateRoadsModel" 11 (some .int) 3 71) {v1 : Int} {v2 : Int} {v3 : Int} {v4 : Int} {v5 : Int} (r1 : zR v1) (r2 : zR v2) (r3 : zR v3) (r4 : zR v4) (r5 : zR v5) {Q : Int → zM → Prop} {k30 : zM → Prop} (hk30 : ∀ (σ : zM), zRM σ → k30 σ → zJ X G (zQi X G Q) 11 30 [(0, .ref (gad G 79)), (1, .int (zI v1)), (2, .int (zI v2)), (3, .int (zI v3)), (4, .int (zI v4)), (5, .int (zI v5))] [] σ) : ∀ (n : Nat) (σ : zM) (v6 : Int) (hσ : zRM σ) (r6 : zR v6), wp_M_fewestRoads_L7 v1 v2 v3 v4 v5 k30 Q n σ v6 → zJ X G (zQi X G Q) 11 7 [(0, .ref (gad G 79)), (1, .int (zI v1)), (2, .int (zI v2)), (3, .int (zI v3)), (4, .int (zI v4)), (5, .int (zI v5)), (6, .int (zI v6))] [] σ := by
  intro n
  induction n with
  | zero => intro σ v6 hσ r6 h; exact False.elim h
  | succ n ih =>
    intro σ v6 hσ r6 h
    rw [wp_M_fewestRoads_L7] at h
    refine j_iload C d_M_fewestRoads_7 6 rfl ?_
    refine j_sipush C d_M_fewestRoads_9 rfl ?_
    refine j_icmp_ge (tgt := 30) C d_M_fewestRoads_12 rfl r6 (zR_of (x := 23048) rfl) (fun c => ?_) (fun c => ?_)
    · have h := h.1 c
      refine j_sub (L' := [(0, .ref (gad G 79)), (1, .int (zI v1)), (2, .int (zI v2)), (3, .int (zI v3)), (4, .int (zI v4)), (5, .int (zI v5))]) [0, 1, 2, 3, 4, 5] rfl ?_
      exact hk30 σ hσ h
    · have h := h.2 c
      refine j_aload_n C d_M_fewestRoads_15 0 rfl rfl ?_
      refine j_getr (kf := 13) (m := 90) C d_M_fewestRoads_16 sh_79 rfl i_M rfl rfl fl_M_40 ?_
      refine j_iload C d_M_fewestRoads_19 6 rfl ?_
      refine j_iload C d_M_fewestRoads_21 5 rfl ?_
      obtain ⟨g1, h⟩ := h
      refine j_iastore C d_M_fewestRoads_23 sh_90 g1 ?_
      refine j_mem (fun σ2 eσ2 => ?_)
      have h := h σ2 eσ2
      have hσ2 : zRM σ2 := by rw [eσ2]; exact zU_rg hσ _ _ r5
      obtain ⟨g3, h⟩ := h
      refine j_iinc (L' := [(6, .int (zI (v6 + 1))), (0, .ref (gad G 79)), (1, .int (zI v1)), (2, .int (zI v2)), (3, .int (zI v3)), (4, .int (zI v4)), (5, .int (zI v5))]) C d_M_fewestRoads_24 6 rfl rfl rfl ?_
      refine j_goto (tgt := 7) C d_M_fewestRoads_27 rfl ?_
      refine j_sub (L' := [(0, .ref (gad G 79)), (1, .int (zI v1)), (2, .int (zI v2)), (3, .int (zI v3)), (4, .int (zI v4)), (5, .int (zI v5)), (6, .int (zI (v6 + 1)))]) [1, 2, 3, 4, 5, 6, 0] rfl ?_
      exact ih σ2 (v6 + 1) hσ2 g3 h
set_option maxRecDepth 100000 in
set_option maxHeartbeats 4000000 in
theorem w_M_fewestRoads_b175 {X : zX} {G : zG} (C : zC X G b_M_fewestRoads "GateRoadsModel" 11 (some .int) 3 71) {v2 : Int} {v3 : Int} {v4 : Int} {v5 : Int} {v6 : Int} {v7 : Int} {v8 : Int} (r2 : zR v2) (r3 : zR v3) (r4 : zR v4) (r5 : zR v5) (r6 : zR v6) (r7 : zR v7) (r8 : zR v8) {Q : Int → zM → Prop} {k76 : zM → Int → Prop} (hk76 : ∀ (σ : zM) (v9 : Int), zRM σ → zR v9 → k76 σ v9 → zJ X G (zQi X G Q) 11 76 [(0, .ref (gad G 79)), (2, .int (zI v2)), (3, .int (zI v3)), (4, .int (zI v4)), (5, .int (zI v5)), (6, .int (zI v6)), (7, .int (zI v7)), (8, .int (zI v8)), (9, .int (zI v9))] [] σ) (σ : zM) (v9 : Int) (hσ : zRM σ) (r9 : zR v9) (h : wp_M_fewestRoads_b175 v2 v3 v4 v5 v6 v7 v8 k76 Q σ v9) : zJ X G (zQi X G Q) 11 175 [(0, .ref (gad G 79)), (2, .int (zI v2)), (3, .int (zI v3)), (4, .int (zI v4)), (5, .int (zI v5)), (6, .int (zI v6)), (7, .int (zI v7)), (8, .int (zI v8)), (9, .int (zI v9))] [] σ := by
  unfold wp_M_fewestRoads_b175 at h
  obtain ⟨g12, h⟩ := h
  refine j_iinc (L' := [(9, .int (zI (v9 + 1))), (0, .ref (gad G 79)), (2, .int (zI v2)), (3, .int (zI v3)), (4, .int (zI v4)), (5, .int (zI v5)), (6, .int (zI v6)), (7, .int (zI v7)), (8, .int (zI v8))]) C d_M_fewestRoads_175 8 rfl rfl rfl ?_
  refine j_goto (tgt := 76) C d_M_fewestRoads_178 rfl ?_
  refine j_sub (L' := [(0, .ref (gad G 79)), (2, .int (zI v2)), (3, .int (zI v3)), (4, .int (zI v4)), (5, .int (zI v5)), (6, .int (zI v6)), (7, .int (zI v7)), (8, .int (zI v8)), (9, .int (zI (v9 + 1)))]) [1, 2, 3, 4, 5, 6, 7, 8, 0] rfl ?_
  exact hk76 σ (v9 + 1) hσ g12 h
set_option maxRecDepth 100000 in
set_option maxHeartbeats 4000000 in
theorem w_M_fewestRoads_b174 {X : zX} {G : zG} (C : zC X G b_M_fewestRoads "GateRoadsModel" 11 (some .int) 3 71) {v2 : Int} {v3 : Int} {v4 : Int} {v5 : Int} {v6 : Int} {v7 : Int} {v8 : Int} (r2 : zR v2) (r3 : zR v3) (r4 : zR v4) (r5 : zR v5) (r6 : zR v6) (r7 : zR v7) (r8 : zR v8) {Q : Int → zM → Prop} {k76 : zM → Int → Prop} (hk76 : ∀ (σ : zM) (v9 : Int), zRM σ → zR v9 → k76 σ v9 → zJ X G (zQi X G Q) 11 76 [(0, .ref (gad G 79)), (2, .int (zI v2)), (3, .int (zI v3)), (4, .int (zI v4)), (5, .int (zI v5)), (6, .int (zI v6)), (7, .int (zI v7)), (8, .int (zI v8)), (9, .int (zI v9))] [] σ) (σ : zM) (v9 : Int) (s1 : Int) (s2 : Int) (hσ : zRM σ) (r9 : zR v9) (rs1 : zR s1) (rs2 : zR s2) (h : wp_M_fewestRoads_b174 v2 v3 v4 v5 v6 v7 v8 k76 Q σ v9 s1 s2) : zJ X G (zQi X G Q) 11 174 [(0, .ref (gad G 79)), (2, .int (zI v2)), (3, .int (zI v3)), (4, .int (zI v4)), (5, .int (zI v5)), (6, .int (zI v6)), (7, .int (zI v7)), (8, .int (zI v8)), (9, .int (zI v9))] [.int (zI s2), .int (zI s1), .ref (gad G 90)] σ := by
  unfold wp_M_fewestRoads_b174 at h
  obtain ⟨g23, h⟩ := h
  refine j_iastore C d_M_fewestRoads_174 sh_90 g23 ?_
  refine j_mem (fun σ24 eσ24 => ?_)
  have h := h σ24 eσ24
  have hσ24 : zRM σ24 := by rw [eσ24]; exact zU_rg hσ _ _ rs2
  refine w_M_fewestRoads_b175 C r2 r3 r4 r5 r6 r7 r8 hk76 σ24 v9 hσ24 r9 h
set_option maxRecDepth 100000 in
set_option maxHeartbeats 4000000 in
theorem w_M_fewestRoads_L76 {X : zX} {G : zG} (C : zC X G b_M_fewestRoads "GateRoadsModel" 11 (some .int) 3 71) {v2 : Int} {v3 : Int} {v4 : Int} {v5 : Int} {v6 : Int} {v7 : Int} {v8 : Int} (r2 : zR v2) (r3 : zR v3) (r4 : zR v4) (r5 : zR v5) (r6 : zR v6) (r7 : zR v7) (r8 : zR v8) {Q : Int → zM → Prop} {k181 : zM → Prop} (hk181 : ∀ (σ : zM), zRM σ → k181 σ → zJ X G (zQi X G Q) 11 181 [(0, .ref (gad G 79)), (2, .int (zI v2)), (3, .int (zI v3)), (4, .int (zI v4)), (5, .int (zI v5)), (6, .int (zI v6)), (7, .int (zI v7))] [] σ) : ∀ (n : Nat) (σ : zM) (v9 : Int) (hσ : zRM σ) (r9 : zR v9), wp_M_fewestRoads_L76 v2 v3 v4 v5 v6 v7 v8 k181 Q n σ v9 → zJ X G (zQi X G Q) 11 76 [(0, .ref (gad G 79)), (2, .int (zI v2)), (3, .int (zI v3)), (4, .int (zI v4)), (5, .int (zI v5)), (6, .int (zI v6)), (7, .int (zI v7)), (8, .int (zI v8)), (9, .int (zI v9))] [] σ := by
  intro n
  induction n with
  | zero => intro σ v9 hσ r9 h; exact False.elim h
  | succ n ih =>
    intro σ v9 hσ r9 h
    rw [wp_M_fewestRoads_L76] at h
    refine j_iload C d_M_fewestRoads_76 8 rfl ?_
    refine j_aload_n C d_M_fewestRoads_78 0 rfl rfl ?_
    refine j_getr (kf := 0) (m := 80) C d_M_fewestRoads_79 sh_79 rfl i_M rfl rfl fl_M_7 ?_
    refine j_iconst C d_M_fewestRoads_82 ?_
    refine j_iaload C d_M_fewestRoads_83 sh_80 (zIx (i := 0) (n := 455) rfl) ?_
    refine j_icmp_ge (tgt := 181) C d_M_fewestRoads_84 rfl r9 (hσ _ _) (fun c => ?_) (fun c => ?_)
    · have h := h.1 c
      refine j_sub (L' := [(0, .ref (gad G 79)), (2, .int (zI v2)), (3, .int (zI v3)), (4, .int (zI v4)), (5, .int (zI v5)), (6, .int (zI v6)), (7, .int (zI v7))]) [0, 1, 2, 3, 4, 5, 6] rfl ?_
      exact hk181 σ hσ h
    · have h := h.2 c
      refine j_iload C d_M_fewestRoads_87 7 rfl ?_
      refine j_iload C d_M_fewestRoads_89 4 rfl ?_
      refine j_icmp_ge (tgt := 181) C d_M_fewestRoads_91 rfl r8 r5 (fun c => ?_) (fun c => ?_)
      · have h := h.1 c
        refine j_sub (L' := [(0, .ref (gad G 79)), (2, .int (zI v2)), (3, .int (zI v3)), (4, .int (zI v4)), (5, .int (zI v5)), (6, .int (zI v6)), (7, .int (zI v7))]) [0, 1, 2, 3, 4, 5, 6] rfl ?_
        exact hk181 σ hσ h
      · have h := h.2 c
        refine j_aload_n C d_M_fewestRoads_94 0 rfl rfl ?_
        refine j_iload C d_M_fewestRoads_95 8 rfl ?_
        refine j_iconst C d_M_fewestRoads_97 ?_
        refine j_callV C d_M_fewestRoads_98 ml_M_67 mi_M_ofR (c_M_ofR (xl X) (gD G) (gad G) (gca G) (v1 := v9) (v2 := 0) hσ r9 (zR_of (x := 0) rfl) h) sh_79 rfl rfl rfl rfl rfl rfl rfl (fun z10 σ11 rz10 hσ11 h => ?_)
        obtain ⟨ez10, h⟩ := h; subst ez10
        refine j_iload C d_M_fewestRoads_101 6 rfl ?_
        refine j_icmp_ne (tgt := 175) C d_M_fewestRoads_103 rfl rz10 r7 (fun c => ?_) (fun c => ?_)
        · have h := h.1 c
          refine w_M_fewestRoads_b175 C r2 r3 r4 r5 r6 r7 r8 ih σ v9 hσ r9 h
        · have h := h.2 c
          refine j_aload_n C d_M_fewestRoads_106 0 rfl rfl ?_
          refine j_iload C d_M_fewestRoads_107 8 rfl ?_
          refine j_iload C d_M_fewestRoads_109 5 rfl ?_
          refine j_callV C d_M_fewestRoads_111 ml_M_95 mi_M_whyNot (c_M_whyNot (xl X) (gD G) (gad G) (gca G) (v1 := v9) (v2 := v6) hσ r9 r6 h) sh_79 rfl rfl rfl rfl rfl rfl rfl (fun z13 σ14 rz13 hσ14 h => ?_)
          obtain ⟨ez13, h⟩ := h; subst ez13
          refine j_if_ne (tgt := 175) C d_M_fewestRoads_114 rfl rz13 (fun c => ?_) (fun c => ?_)
          · have h := h.1 c
            refine w_M_fewestRoads_b175 C r2 r3 r4 r5 r6 r7 r8 ih σ v9 hσ r9 h
          · have h := h.2 c
            refine j_bipush C d_M_fewestRoads_117 rfl ?_
            refine j_iload C d_M_fewestRoads_119 5 rfl ?_
            refine j_aload_n C d_M_fewestRoads_121 0 rfl rfl ?_
            refine j_iload C d_M_fewestRoads_122 8 rfl ?_
            refine j_iconst C d_M_fewestRoads_124 ?_
            refine j_callV C d_M_fewestRoads_125 ml_M_67 mi_M_ofR (c_M_ofR (xl X) (gD G) (gad G) (gca G) (v1 := v9) (v2 := 2) hσ r9 (zR_of (x := 2) rfl) h) sh_79 rfl rfl rfl rfl rfl rfl rfl (fun z15 σ16 rz15 hσ16 h => ?_)
            obtain ⟨ez15, h⟩ := h; subst ez15
            refine j_iadd C d_M_fewestRoads_128 ?_
            refine j_imul C d_M_fewestRoads_129 ?_
            refine j_aload_n C d_M_fewestRoads_130 0 rfl rfl ?_
            refine j_iload C d_M_fewestRoads_131 8 rfl ?_
            refine j_iconst C d_M_fewestRoads_133 ?_
            refine j_callV C d_M_fewestRoads_134 ml_M_67 mi_M_ofR (c_M_ofR (xl X) (gD G) (gad G) (gca G) (v1 := v9) (v2 := 1) hσ r9 (zR_of (x := 1) rfl) h) sh_79 rfl rfl rfl rfl rfl rfl rfl (fun z17 σ18 rz17 hσ18 h => ?_)
            obtain ⟨ez17, h⟩ := h; subst ez17
            refine j_iadd C d_M_fewestRoads_137 ?_
            obtain ⟨g19, h⟩ := h
            refine j_istore (L' := [(10, .int (zI ((8 * (v6 + z15)) + z17))), (0, .ref (gad G 79)), (2, .int (zI v2)), (3, .int (zI v3)), (4, .int (zI v4)), (5, .int (zI v5)), (6, .int (zI v6)), (7, .int (zI v7)), (8, .int (zI v8)), (9, .int (zI v9))]) C d_M_fewestRoads_138 rfl rfl ?_
            refine j_aload_n C d_M_fewestRoads_140 1 rfl rfl ?_
            refine j_getr (kf := 13) (m := 90) C d_M_fewestRoads_141 sh_79 rfl i_M rfl rfl fl_M_40 ?_
            refine j_iload C d_M_fewestRoads_144 0 rfl ?_
            refine j_iload C d_M_fewestRoads_146 8 rfl ?_
            refine j_iconst C d_M_fewestRoads_148 ?_
            refine j_iadd C d_M_fewestRoads_149 ?_
            refine j_aload_n C d_M_fewestRoads_150 1 rfl rfl ?_
            refine j_getr (kf := 13) (m := 90) C d_M_fewestRoads_151 sh_79 rfl i_M rfl rfl fl_M_40 ?_
            refine j_iload C d_M_fewestRoads_154 0 rfl ?_
            obtain ⟨g20, h⟩ := h
            refine j_iaload C d_M_fewestRoads_156 sh_90 g20 ?_
            obtain ⟨g21, h⟩ := h
            refine j_icmp_ge (tgt := 167) C d_M_fewestRoads_157 rfl g21 (hσ _ _) (fun c => ?_) (fun c => ?_)
            · have h := h.1 c
              refine j_aload_n C d_M_fewestRoads_167 1 rfl rfl ?_
              refine j_getr (kf := 13) (m := 90) C d_M_fewestRoads_168 sh_79 rfl i_M rfl rfl fl_M_40 ?_
              refine j_iload C d_M_fewestRoads_171 0 rfl ?_
              obtain ⟨g22, h⟩ := h
              refine j_iaload C d_M_fewestRoads_173 sh_90 g22 ?_
              refine j_sub (L' := [(0, .ref (gad G 79)), (2, .int (zI v2)), (3, .int (zI v3)), (4, .int (zI v4)), (5, .int (zI v5)), (6, .int (zI v6)), (7, .int (zI v7)), (8, .int (zI v8)), (9, .int (zI v9))]) [1, 2, 3, 4, 5, 6, 7, 8, 9] rfl ?_
              refine w_M_fewestRoads_b174 C r2 r3 r4 r5 r6 r7 r8 ih σ v9 ((8 * (v6 + z15)) + z17) (σ 90 ((8 * (v6 + z15)) + z17)) hσ r9 g19 (hσ _ _) h
            · have h := h.2 c
              refine j_iload C d_M_fewestRoads_160 8 rfl ?_
              refine j_iconst C d_M_fewestRoads_162 ?_
              refine j_iadd C d_M_fewestRoads_163 ?_
              refine j_goto (tgt := 174) C d_M_fewestRoads_164 rfl ?_
              obtain ⟨g25, h⟩ := h
              refine j_sub (L' := [(0, .ref (gad G 79)), (2, .int (zI v2)), (3, .int (zI v3)), (4, .int (zI v4)), (5, .int (zI v5)), (6, .int (zI v6)), (7, .int (zI v7)), (8, .int (zI v8)), (9, .int (zI v9))]) [1, 2, 3, 4, 5, 6, 7, 8, 9] rfl ?_
              refine w_M_fewestRoads_b174 C r2 r3 r4 r5 r6 r7 r8 ih σ v9 ((8 * (v6 + z15)) + z17) (v8 + 1) hσ r9 g19 g25 h
set_option maxRecDepth 100000 in
set_option maxHeartbeats 4000000 in
theorem w_M_fewestRoads_b181 {X : zX} {G : zG} (C : zC X G b_M_fewestRoads "GateRoadsModel" 11 (some .int) 3 71) {v2 : Int} {v3 : Int} {v4 : Int} {v5 : Int} {v6 : Int} (r2 : zR v2) (r3 : zR v3) (r4 : zR v4) (r5 : zR v5) (r6 : zR v6) {Q : Int → zM → Prop} {k55 : zM → Int → Prop} (hk55 : ∀ (σ : zM) (v7 : Int), zRM σ → zR v7 → k55 σ v7 → zJ X G (zQi X G Q) 11 55 [(0, .ref (gad G 79)), (2, .int (zI v2)), (3, .int (zI v3)), (4, .int (zI v4)), (5, .int (zI v5)), (6, .int (zI v6)), (7, .int (zI v7))] [] σ) (σ : zM) (v7 : Int) (hσ : zRM σ) (r7 : zR v7) (h : wp_M_fewestRoads_b181 v2 v3 v4 v5 v6 k55 Q σ v7) : zJ X G (zQi X G Q) 11 181 [(0, .ref (gad G 79)), (2, .int (zI v2)), (3, .int (zI v3)), (4, .int (zI v4)), (5, .int (zI v5)), (6, .int (zI v6)), (7, .int (zI v7))] [] σ := by
  unfold wp_M_fewestRoads_b181 at h
  obtain ⟨g27, h⟩ := h
  refine j_iinc (L' := [(7, .int (zI (v7 + 1))), (0, .ref (gad G 79)), (2, .int (zI v2)), (3, .int (zI v3)), (4, .int (zI v4)), (5, .int (zI v5)), (6, .int (zI v6))]) C d_M_fewestRoads_181 6 rfl rfl rfl ?_
  refine j_goto (tgt := 55) C d_M_fewestRoads_184 rfl ?_
  refine j_sub (L' := [(0, .ref (gad G 79)), (2, .int (zI v2)), (3, .int (zI v3)), (4, .int (zI v4)), (5, .int (zI v5)), (6, .int (zI v6)), (7, .int (zI (v7 + 1)))]) [1, 2, 3, 4, 5, 6, 0] rfl ?_
  exact hk55 σ (v7 + 1) hσ g27 h
set_option maxRecDepth 100000 in
set_option maxHeartbeats 4000000 in
theorem w_M_fewestRoads_L55 {X : zX} {G : zG} (C : zC X G b_M_fewestRoads "GateRoadsModel" 11 (some .int) 3 71) {v2 : Int} {v3 : Int} {v4 : Int} {v5 : Int} {v6 : Int} (r2 : zR v2) (r3 : zR v3) (r4 : zR v4) (r5 : zR v5) (r6 : zR v6) {Q : Int → zM → Prop} {k187 : zM → Prop} (hk187 : ∀ (σ : zM), zRM σ → k187 σ → zJ X G (zQi X G Q) 11 187 [(0, .ref (gad G 79)), (2, .int (zI v2)), (3, .int (zI v3)), (4, .int (zI v4)), (5, .int (zI v5)), (6, .int (zI v6))] [] σ) : ∀ (n : Nat) (σ : zM) (v7 : Int) (hσ : zRM σ) (r7 : zR v7), wp_M_fewestRoads_L55 v2 v3 v4 v5 v6 k187 Q n σ v7 → zJ X G (zQi X G Q) 11 55 [(0, .ref (gad G 79)), (2, .int (zI v2)), (3, .int (zI v3)), (4, .int (zI v4)), (5, .int (zI v5)), (6, .int (zI v6)), (7, .int (zI v7))] [] σ := by
  intro n
  induction n with
  | zero => intro σ v7 hσ r7 h; exact False.elim h
  | succ n ih =>
    intro σ v7 hσ r7 h
    rw [wp_M_fewestRoads_L55] at h
    refine j_iload C d_M_fewestRoads_55 6 rfl ?_
    refine j_bipush C d_M_fewestRoads_57 rfl ?_
    refine j_icmp_ge (tgt := 187) C d_M_fewestRoads_59 rfl r7 (zR_of (x := 8) rfl) (fun c => ?_) (fun c => ?_)
    · have h := h.1 c
      refine j_sub (L' := [(0, .ref (gad G 79)), (2, .int (zI v2)), (3, .int (zI v3)), (4, .int (zI v4)), (5, .int (zI v5)), (6, .int (zI v6))]) [0, 1, 2, 3, 4, 5] rfl ?_
      exact hk187 σ hσ h
    · have h := h.2 c
      refine j_aload_n C d_M_fewestRoads_62 0 rfl rfl ?_
      refine j_iload C d_M_fewestRoads_63 6 rfl ?_
      refine j_iload C d_M_fewestRoads_65 5 rfl ?_
      refine j_iload_n C d_M_fewestRoads_67 2 rfl rfl ?_
      refine j_callV C d_M_fewestRoads_68 ml_M_156 mi_M_fewestAt (c_M_fewestAt (xl X) (gD G) (gad G) (gca G) (v1 := v7) (v2 := v6) (v3 := v3) hσ r7 r6 r3 h) sh_79 rfl rfl rfl rfl rfl rfl rfl (fun z8 σ9 rz8 hσ9 h => ?_)
      obtain ⟨ez8, h⟩ := h; subst ez8
      refine j_istore (L' := [(8, .int (zI z8)), (0, .ref (gad G 79)), (2, .int (zI v2)), (3, .int (zI v3)), (4, .int (zI v4)), (5, .int (zI v5)), (6, .int (zI v6)), (7, .int (zI v7))]) C d_M_fewestRoads_71 rfl rfl ?_
      refine j_iconst C d_M_fewestRoads_73 ?_
      refine j_istore (L' := [(9, .int (zI 0)), (8, .int (zI z8)), (0, .ref (gad G 79)), (2, .int (zI v2)), (3, .int (zI v3)), (4, .int (zI v4)), (5, .int (zI v5)), (6, .int (zI v6)), (7, .int (zI v7))]) C d_M_fewestRoads_74 rfl rfl ?_
      obtain ⟨n28, h⟩ := h
      refine j_sub (L' := [(0, .ref (gad G 79)), (2, .int (zI v2)), (3, .int (zI v3)), (4, .int (zI v4)), (5, .int (zI v5)), (6, .int (zI v6)), (7, .int (zI v7)), (8, .int (zI z8)), (9, .int (zI 0))]) [2, 3, 4, 5, 6, 7, 8, 1, 0] rfl ?_
      refine w_M_fewestRoads_L76 C r2 r3 r4 r5 r6 r7 rz8 ?_ n28 σ 0 hσ (zR_of (x := 0) rfl) h
      · intro σ26 hσ26 h
        refine w_M_fewestRoads_b181 C r2 r3 r4 r5 r6 ih σ26 v7 hσ26 r7 h
set_option maxRecDepth 100000 in
set_option maxHeartbeats 4000000 in
theorem w_M_fewestRoads_L45 {X : zX} {G : zG} (C : zC X G b_M_fewestRoads "GateRoadsModel" 11 (some .int) 3 71) {v2 : Int} {v3 : Int} {v4 : Int} {v5 : Int} (r2 : zR v2) (r3 : zR v3) (r4 : zR v4) (r5 : zR v5) {Q : Int → zM → Prop} : ∀ (n : Nat) (σ : zM) (v6 : Int) (hσ : zRM σ) (r6 : zR v6), wp_M_fewestRoads_L45 v2 v3 v4 v5 Q n σ v6 → zJ X G (zQi X G Q) 11 45 [(0, .ref (gad G 79)), (2, .int (zI v2)), (3, .int (zI v3)), (4, .int (zI v4)), (5, .int (zI v5)), (6, .int (zI v6))] [] σ := by
  intro n
  induction n with
  | zero => intro σ v6 hσ r6 h; exact False.elim h
  | succ n ih =>
    intro σ v6 hσ r6 h
    rw [wp_M_fewestRoads_L45] at h
    refine j_iload C d_M_fewestRoads_45 5 rfl ?_
    refine j_iload C d_M_fewestRoads_47 3 rfl ?_
    refine j_icmp_gt (tgt := 193) C d_M_fewestRoads_49 rfl r6 r4 (fun c => ?_) (fun c => ?_)
    · have h := h.1 c
      refine j_aload_n C d_M_fewestRoads_193 0 rfl rfl ?_
      refine j_getr (kf := 13) (m := 90) C d_M_fewestRoads_194 sh_79 rfl i_M rfl rfl fl_M_40 ?_
      refine j_bipush C d_M_fewestRoads_197 rfl ?_
      refine j_iload C d_M_fewestRoads_199 3 rfl ?_
      refine j_imul C d_M_fewestRoads_201 ?_
      refine j_iload_n C d_M_fewestRoads_202 1 rfl rfl ?_
      refine j_iadd C d_M_fewestRoads_203 ?_
      obtain ⟨g7, h⟩ := h
      refine j_iaload C d_M_fewestRoads_204 sh_90 g7 ?_
      exact j_ireturn C d_M_fewestRoads_205 (hσ _ _) hσ h
    · have h := h.2 c
      refine j_iconst C d_M_fewestRoads_52 ?_
      refine j_istore (L' := [(7, .int (zI 0)), (0, .ref (gad G 79)), (2, .int (zI v2)), (3, .int (zI v3)), (4, .int (zI v4)), (5, .int (zI v5)), (6, .int (zI v6))]) C d_M_fewestRoads_53 rfl rfl ?_
      obtain ⟨n31, h⟩ := h
      refine j_sub (L' := [(0, .ref (gad G 79)), (2, .int (zI v2)), (3, .int (zI v3)), (4, .int (zI v4)), (5, .int (zI v5)), (6, .int (zI v6)), (7, .int (zI 0))]) [1, 2, 3, 4, 5, 6, 0] rfl ?_
      refine w_M_fewestRoads_L55 C r2 r3 r4 r5 r6 ?_ n31 σ 0 hσ (zR_of (x := 0) rfl) h
      · intro σ29 hσ29 h
        obtain ⟨g30, h⟩ := h
        refine j_iinc (L' := [(6, .int (zI (v6 + 1))), (0, .ref (gad G 79)), (2, .int (zI v2)), (3, .int (zI v3)), (4, .int (zI v4)), (5, .int (zI v5))]) C d_M_fewestRoads_187 5 rfl rfl rfl ?_
        refine j_goto (tgt := 45) C d_M_fewestRoads_190 rfl ?_
        refine j_sub (L' := [(0, .ref (gad G 79)), (2, .int (zI v2)), (3, .int (zI v3)), (4, .int (zI v4)), (5, .int (zI v5)), (6, .int (zI (v6 + 1)))]) [1, 2, 3, 4, 5, 0] rfl ?_
        exact ih σ29 (v6 + 1) hσ29 g30 h
set_option maxRecDepth 100000 in
set_option maxHeartbeats 4000000 in
theorem c_M_fewestRoads (l : Launch) (D : va_G) (ad : Nat → Nat) (ca : Nat → ClassId) {σ : zM} {v1 : Int} {v2 : Int} {v3 : Int} {v4 : Int} {Q : Int → zM → Prop} (hσ : zRM σ) (r1 : zR v1) (r2 : zR v2) (r3 : zR v3) (r4 : zR v4) (h : wp_M_fewestRoads σ v1 v2 v3 v4 Q) : zCi l D ad ca y_M_fewestRoads b_M_fewestRoads 11 (some .int) (zrm 3 71) [.ref (ad 79), .int (zI v1), .int (zI v2), .int (zI v3), .int (zI v4)] σ Q := by
  refine zCi_of (by decide +kernel) (Nat.le_of_ble_eq_true rfl) ?_
  intro X G C hl hD had hca
  subst hl hD had hca
  have C : zC X G b_M_fewestRoads "GateRoadsModel" 11 (some .int) 3 71 := C
  show zJ X G (zQi X G Q) 11 0 [(0, .ref (gad G 79)), (1, .int (zI v1)), (2, .int (zI v2)), (3, .int (zI v3)), (4, .int (zI v4))] [] σ
  unfold wp_M_fewestRoads at h
  refine j_ldc (n := 69120) C ck_M_155 rfl d_M_fewestRoads_0 ?_
  refine j_istore (L' := [(5, .int (zI 69120)), (0, .ref (gad G 79)), (1, .int (zI v1)), (2, .int (zI v2)), (3, .int (zI v3)), (4, .int (zI v4))]) C d_M_fewestRoads_2 rfl rfl ?_
  refine j_iconst C d_M_fewestRoads_4 ?_
  refine j_istore (L' := [(6, .int (zI 0)), (5, .int (zI 69120)), (0, .ref (gad G 79)), (1, .int (zI v1)), (2, .int (zI v2)), (3, .int (zI v3)), (4, .int (zI v4))]) C d_M_fewestRoads_5 rfl rfl ?_
  obtain ⟨n33, h⟩ := h
  refine j_sub (L' := [(0, .ref (gad G 79)), (1, .int (zI v1)), (2, .int (zI v2)), (3, .int (zI v3)), (4, .int (zI v4)), (5, .int (zI 69120)), (6, .int (zI 0))]) [2, 3, 4, 5, 6, 1, 0] rfl ?_
  refine w_M_fewestRoads_L7 C r1 r2 r3 r4 (zR_of (x := 69120) rfl) ?_ n33 σ 0 hσ (zR_of (x := 0) rfl) h
  · intro σ4 hσ4 h
    refine j_aload_n C d_M_fewestRoads_30 0 rfl rfl ?_
    refine j_getr (kf := 13) (m := 90) C d_M_fewestRoads_31 sh_79 rfl i_M rfl rfl fl_M_40 ?_
    refine j_bipush C d_M_fewestRoads_34 rfl ?_
    refine j_iload_n C d_M_fewestRoads_36 3 rfl rfl ?_
    refine j_imul C d_M_fewestRoads_37 ?_
    refine j_iload_n C d_M_fewestRoads_38 1 rfl rfl ?_
    refine j_iadd C d_M_fewestRoads_39 ?_
    refine j_iconst C d_M_fewestRoads_40 ?_
    obtain ⟨g5, h⟩ := h
    refine j_iastore C d_M_fewestRoads_41 sh_90 g5 ?_
    refine j_mem (fun σ6 eσ6 => ?_)
    have h := h σ6 eσ6
    have hσ6 : zRM σ6 := by rw [eσ6]; exact zU_rg hσ4 _ _ (zR_of (x := 0) rfl)
    refine j_iload_n C d_M_fewestRoads_42 3 rfl rfl ?_
    refine j_istore (L' := [(6, .int (zI v3)), (0, .ref (gad G 79)), (1, .int (zI v1)), (2, .int (zI v2)), (3, .int (zI v3)), (4, .int (zI v4)), (5, .int (zI 69120))]) C d_M_fewestRoads_43 rfl rfl ?_
    obtain ⟨n32, h⟩ := h
    refine j_sub (L' := [(0, .ref (gad G 79)), (2, .int (zI v2)), (3, .int (zI v3)), (4, .int (zI v4)), (5, .int (zI 69120)), (6, .int (zI v3))]) [1, 3, 4, 5, 6, 0] rfl ?_
    refine w_M_fewestRoads_L45 C r2 r3 r4 (zR_of (x := 69120) rfl) n32 σ6 v3 hσ6 r3 h
set_option maxRecDepth 100000 in
set_option maxHeartbeats 4000000 in
theorem w_M_beginsAt_b133 {X : zX} {G : zG} (C : zC X G b_M_beginsAt "GateRoadsModel" 10 (some .int) 3 71) {σ : zM} {v1 : Int} {v2 : Int} {v3 : Int} {v4 : Int} {v5 : Int} (hσ : zRM σ) (r1 : zR v1) (r2 : zR v2) (r3 : zR v3) (r4 : zR v4) (r5 : zR v5) {Q : Int → Prop} {k15 : Int → Int → Prop} (hk15 : ∀ (v6 : Int) (v7 : Int), zR v6 → zR v7 → k15 v6 v7 → zJ X G (zQi X G (fun z u => σ = u ∧ Q z)) 10 15 [(0, .ref (gad G 79)), (1, .int (zI v1)), (2, .int (zI v2)), (3, .int (zI v3)), (4, .int (zI v4)), (5, .int (zI v5)), (6, .int (zI v6)), (7, .int (zI v7))] [] σ) (v7 : Int) (s0 : Int) (r7 : zR v7) (rs0 : zR s0) (h : wp_M_beginsAt_b133 σ v1 v2 v3 v4 v5 k15 Q v7 s0) : zJ X G (zQi X G (fun z u => σ = u ∧ Q z)) 10 133 [(0, .ref (gad G 79)), (1, .int (zI v1)), (2, .int (zI v2)), (3, .int (zI v3)), (4, .int (zI v4)), (5, .int (zI v5)), (7, .int (zI v7))] [.int (zI s0)] σ := by
  unfold wp_M_beginsAt_b133 at h
  refine j_istore (L' := [(6, .int (zI s0)), (0, .ref (gad G 79)), (1, .int (zI v1)), (2, .int (zI v2)), (3, .int (zI v3)), (4, .int (zI v4)), (5, .int (zI v5)), (7, .int (zI v7))]) C d_M_beginsAt_133 rfl rfl ?_
  obtain ⟨g9, h⟩ := h
  refine j_iinc (L' := [(7, .int (zI (v7 + 1))), (6, .int (zI s0)), (0, .ref (gad G 79)), (1, .int (zI v1)), (2, .int (zI v2)), (3, .int (zI v3)), (4, .int (zI v4)), (5, .int (zI v5))]) C d_M_beginsAt_135 7 rfl rfl rfl ?_
  refine j_goto (tgt := 15) C d_M_beginsAt_138 rfl ?_
  refine j_sub (L' := [(0, .ref (gad G 79)), (1, .int (zI v1)), (2, .int (zI v2)), (3, .int (zI v3)), (4, .int (zI v4)), (5, .int (zI v5)), (6, .int (zI s0)), (7, .int (zI (v7 + 1)))]) [2, 3, 4, 5, 6, 7, 1, 0] rfl ?_
  exact hk15 s0 (v7 + 1) rs0 g9 h
set_option maxRecDepth 100000 in
set_option maxHeartbeats 4000000 in
theorem w_M_beginsAt_b131 {X : zX} {G : zG} (C : zC X G b_M_beginsAt "GateRoadsModel" 10 (some .int) 3 71) {σ : zM} {v1 : Int} {v2 : Int} {v3 : Int} {v4 : Int} {v5 : Int} (hσ : zRM σ) (r1 : zR v1) (r2 : zR v2) (r3 : zR v3) (r4 : zR v4) (r5 : zR v5) {Q : Int → Prop} {k15 : Int → Int → Prop} (hk15 : ∀ (v6 : Int) (v7 : Int), zR v6 → zR v7 → k15 v6 v7 → zJ X G (zQi X G (fun z u => σ = u ∧ Q z)) 10 15 [(0, .ref (gad G 79)), (1, .int (zI v1)), (2, .int (zI v2)), (3, .int (zI v3)), (4, .int (zI v4)), (5, .int (zI v5)), (6, .int (zI v6)), (7, .int (zI v7))] [] σ) (v6 : Int) (v7 : Int) (r6 : zR v6) (r7 : zR v7) (h : wp_M_beginsAt_b131 σ v1 v2 v3 v4 v5 k15 Q v6 v7) : zJ X G (zQi X G (fun z u => σ = u ∧ Q z)) 10 131 [(0, .ref (gad G 79)), (1, .int (zI v1)), (2, .int (zI v2)), (3, .int (zI v3)), (4, .int (zI v4)), (5, .int (zI v5)), (6, .int (zI v6)), (7, .int (zI v7))] [] σ := by
  unfold wp_M_beginsAt_b131 at h
  refine j_iload C d_M_beginsAt_131 6 rfl ?_
  refine j_sub (L' := [(0, .ref (gad G 79)), (1, .int (zI v1)), (2, .int (zI v2)), (3, .int (zI v3)), (4, .int (zI v4)), (5, .int (zI v5)), (7, .int (zI v7))]) [0, 1, 2, 3, 4, 5, 7] rfl ?_
  refine w_M_beginsAt_b133 C hσ r1 r2 r3 r4 r5 hk15 v7 v6 r7 r6 h
set_option maxRecDepth 100000 in
set_option maxHeartbeats 4000000 in
theorem w_M_beginsAt_b126 {X : zX} {G : zG} (C : zC X G b_M_beginsAt "GateRoadsModel" 10 (some .int) 3 71) {σ : zM} {v1 : Int} {v2 : Int} {v3 : Int} {v4 : Int} {v5 : Int} (hσ : zRM σ) (r1 : zR v1) (r2 : zR v2) (r3 : zR v3) (r4 : zR v4) (r5 : zR v5) {Q : Int → Prop} {k15 : Int → Int → Prop} (hk15 : ∀ (v6 : Int) (v7 : Int), zR v6 → zR v7 → k15 v6 v7 → zJ X G (zQi X G (fun z u => σ = u ∧ Q z)) 10 15 [(0, .ref (gad G 79)), (1, .int (zI v1)), (2, .int (zI v2)), (3, .int (zI v3)), (4, .int (zI v4)), (5, .int (zI v5)), (6, .int (zI v6)), (7, .int (zI v7))] [] σ) (v7 : Int) (r7 : zR v7) (h : wp_M_beginsAt_b126 σ v1 v2 v3 v4 v5 k15 Q v7) : zJ X G (zQi X G (fun z u => σ = u ∧ Q z)) 10 126 [(0, .ref (gad G 79)), (1, .int (zI v1)), (2, .int (zI v2)), (3, .int (zI v3)), (4, .int (zI v4)), (5, .int (zI v5)), (7, .int (zI v7))] [] σ := by
  unfold wp_M_beginsAt_b126 at h
  refine j_iload C d_M_beginsAt_126 6 rfl ?_
  refine j_goto (tgt := 133) C d_M_beginsAt_128 rfl ?_
  refine w_M_beginsAt_b133 C hσ r1 r2 r3 r4 r5 hk15 v7 v7 r7 r7 h
set_option maxRecDepth 100000 in
set_option maxHeartbeats 4000000 in
theorem w_M_beginsAt_b107 {X : zX} {G : zG} (C : zC X G b_M_beginsAt "GateRoadsModel" 10 (some .int) 3 71) {σ : zM} {v1 : Int} {v2 : Int} {v3 : Int} {v4 : Int} {v5 : Int} (hσ : zRM σ) (r1 : zR v1) (r2 : zR v2) (r3 : zR v3) (r4 : zR v4) (r5 : zR v5) {Q : Int → Prop} {k15 : Int → Int → Prop} (hk15 : ∀ (v6 : Int) (v7 : Int), zR v6 → zR v7 → k15 v6 v7 → zJ X G (zQi X G (fun z u => σ = u ∧ Q z)) 10 15 [(0, .ref (gad G 79)), (1, .int (zI v1)), (2, .int (zI v2)), (3, .int (zI v3)), (4, .int (zI v4)), (5, .int (zI v5)), (6, .int (zI v6)), (7, .int (zI v7))] [] σ) (v6 : Int) (v7 : Int) (s0 : Int) (r6 : zR v6) (r7 : zR v7) (rs0 : zR s0) (h : wp_M_beginsAt_b107 σ v1 v2 v3 v4 v5 k15 Q v6 v7 s0) : zJ X G (zQi X G (fun z u => σ = u ∧ Q z)) 10 107 [(0, .ref (gad G 79)), (1, .int (zI v1)), (2, .int (zI v2)), (3, .int (zI v3)), (4, .int (zI v4)), (5, .int (zI v5)), (6, .int (zI v6)), (7, .int (zI v7))] [.int (zI s0)] σ := by
  unfold wp_M_beginsAt_b107 at h
  refine j_istore (L' := [(9, .int (zI s0)), (0, .ref (gad G 79)), (1, .int (zI v1)), (2, .int (zI v2)), (3, .int (zI v3)), (4, .int (zI v4)), (5, .int (zI v5)), (6, .int (zI v6)), (7, .int (zI v7))]) C d_M_beginsAt_107 rfl rfl ?_
  refine j_iload C d_M_beginsAt_109 0 rfl ?_
  refine j_if_eq (tgt := 131) C d_M_beginsAt_111 rfl rs0 (fun c => ?_) (fun c => ?_)
  · have h := h.1 c
    refine j_sub (L' := [(0, .ref (gad G 79)), (1, .int (zI v1)), (2, .int (zI v2)), (3, .int (zI v3)), (4, .int (zI v4)), (5, .int (zI v5)), (6, .int (zI v6)), (7, .int (zI v7))]) [1, 2, 3, 4, 5, 6, 7, 8] rfl ?_
    refine w_M_beginsAt_b131 C hσ r1 r2 r3 r4 r5 hk15 v6 v7 r6 r7 h
  · have h := h.2 c
    refine j_iload C d_M_beginsAt_114 5 rfl ?_
    refine j_if_ne (tgt := 126) C d_M_beginsAt_116 rfl r4 (fun c => ?_) (fun c => ?_)
    · have h := h.1 c
      refine j_sub (L' := [(0, .ref (gad G 79)), (1, .int (zI v1)), (2, .int (zI v2)), (3, .int (zI v3)), (4, .int (zI v4)), (5, .int (zI v5)), (7, .int (zI v7))]) [1, 2, 3, 4, 5, 6, 8] rfl ?_
      refine w_M_beginsAt_b126 C hσ r1 r2 r3 r4 r5 hk15 v7 r7 h
    · have h := h.2 c
      refine j_iload C d_M_beginsAt_119 7 rfl ?_
      refine j_bipush C d_M_beginsAt_121 rfl ?_
      refine j_icmp_ne (tgt := 131) C d_M_beginsAt_123 rfl r6 (zR_of (x := (-6)) rfl) (fun c => ?_) (fun c => ?_)
      · have h := h.1 c
        refine j_sub (L' := [(0, .ref (gad G 79)), (1, .int (zI v1)), (2, .int (zI v2)), (3, .int (zI v3)), (4, .int (zI v4)), (5, .int (zI v5)), (6, .int (zI v6)), (7, .int (zI v7))]) [1, 2, 3, 4, 5, 6, 7, 8] rfl ?_
        refine w_M_beginsAt_b131 C hσ r1 r2 r3 r4 r5 hk15 v6 v7 r6 r7 h
      · have h := h.2 c
        refine j_sub (L' := [(0, .ref (gad G 79)), (1, .int (zI v1)), (2, .int (zI v2)), (3, .int (zI v3)), (4, .int (zI v4)), (5, .int (zI v5)), (7, .int (zI v7))]) [1, 2, 3, 4, 5, 6, 8] rfl ?_
        refine w_M_beginsAt_b126 C hσ r1 r2 r3 r4 r5 hk15 v7 r7 h
set_option maxRecDepth 100000 in
set_option maxHeartbeats 4000000 in
theorem w_M_beginsAt_b106 {X : zX} {G : zG} (C : zC X G b_M_beginsAt "GateRoadsModel" 10 (some .int) 3 71) {σ : zM} {v1 : Int} {v2 : Int} {v3 : Int} {v4 : Int} {v5 : Int} (hσ : zRM σ) (r1 : zR v1) (r2 : zR v2) (r3 : zR v3) (r4 : zR v4) (r5 : zR v5) {Q : Int → Prop} {k15 : Int → Int → Prop} (hk15 : ∀ (v6 : Int) (v7 : Int), zR v6 → zR v7 → k15 v6 v7 → zJ X G (zQi X G (fun z u => σ = u ∧ Q z)) 10 15 [(0, .ref (gad G 79)), (1, .int (zI v1)), (2, .int (zI v2)), (3, .int (zI v3)), (4, .int (zI v4)), (5, .int (zI v5)), (6, .int (zI v6)), (7, .int (zI v7))] [] σ) (v6 : Int) (v7 : Int) (r6 : zR v6) (r7 : zR v7) (h : wp_M_beginsAt_b106 σ v1 v2 v3 v4 v5 k15 Q v6 v7) : zJ X G (zQi X G (fun z u => σ = u ∧ Q z)) 10 106 [(0, .ref (gad G 79)), (1, .int (zI v1)), (2, .int (zI v2)), (3, .int (zI v3)), (4, .int (zI v4)), (5, .int (zI v5)), (6, .int (zI v6)), (7, .int (zI v7))] [] σ := by
  unfold wp_M_beginsAt_b106 at h
  refine j_iconst C d_M_beginsAt_106 ?_
  refine w_M_beginsAt_b107 C hσ r1 r2 r3 r4 r5 hk15 v6 v7 0 r6 r7 (zR_of (x := 0) rfl) h
set_option maxRecDepth 100000 in
set_option maxHeartbeats 4000000 in
theorem w_M_beginsAt_b56 {X : zX} {G : zG} (C : zC X G b_M_beginsAt "GateRoadsModel" 10 (some .int) 3 71) {σ : zM} {v1 : Int} {v2 : Int} {v3 : Int} {v4 : Int} {v5 : Int} (hσ : zRM σ) (r1 : zR v1) (r2 : zR v2) (r3 : zR v3) (r4 : zR v4) (r5 : zR v5) {Q : Int → Prop} {k15 : Int → Int → Prop} (hk15 : ∀ (v6 : Int) (v7 : Int), zR v6 → zR v7 → k15 v6 v7 → zJ X G (zQi X G (fun z u => σ = u ∧ Q z)) 10 15 [(0, .ref (gad G 79)), (1, .int (zI v1)), (2, .int (zI v2)), (3, .int (zI v3)), (4, .int (zI v4)), (5, .int (zI v5)), (6, .int (zI v6)), (7, .int (zI v7))] [] σ) (v6 : Int) (v7 : Int) (r6 : zR v6) (r7 : zR v7) (h : wp_M_beginsAt_b56 σ v1 v2 v3 v4 v5 k15 Q v6 v7) : zJ X G (zQi X G (fun z u => σ = u ∧ Q z)) 10 56 [(0, .ref (gad G 79)), (1, .int (zI v1)), (2, .int (zI v2)), (3, .int (zI v3)), (4, .int (zI v4)), (5, .int (zI v5)), (6, .int (zI v6)), (7, .int (zI v7))] [] σ := by
  unfold wp_M_beginsAt_b56 at h
  refine j_iload C d_M_beginsAt_56 7 rfl ?_
  refine j_aload_n C d_M_beginsAt_58 0 rfl rfl ?_
  refine j_iload_n C d_M_beginsAt_59 1 rfl rfl ?_
  refine j_iconst C d_M_beginsAt_60 ?_
  refine j_callV C d_M_beginsAt_61 ml_M_67 mi_M_ofR (c_M_ofR (xl X) (gD G) (gad G) (gca G) (v1 := v1) (v2 := 2) hσ r1 (zR_of (x := 2) rfl) h) sh_79 rfl rfl rfl rfl rfl rfl rfl (fun z6 σ7 rz6 hσ7 h => ?_)
  obtain ⟨ez6, h⟩ := h; subst ez6
  refine j_iadd C d_M_beginsAt_64 ?_
  obtain ⟨g8, h⟩ := h
  refine j_istore (L' := [(8, .int (zI (v7 + z6))), (0, .ref (gad G 79)), (1, .int (zI v1)), (2, .int (zI v2)), (3, .int (zI v3)), (4, .int (zI v4)), (5, .int (zI v5)), (6, .int (zI v6)), (7, .int (zI v7))]) C d_M_beginsAt_65 rfl rfl ?_
  refine j_iload C d_M_beginsAt_67 0 rfl ?_
  refine j_iload_n C d_M_beginsAt_69 4 rfl rfl ?_
  refine j_icmp_gt (tgt := 106) C d_M_beginsAt_70 rfl g8 r3 (fun c => ?_) (fun c => ?_)
  · have h := h.1 c
    refine j_sub (L' := [(0, .ref (gad G 79)), (1, .int (zI v1)), (2, .int (zI v2)), (3, .int (zI v3)), (4, .int (zI v4)), (5, .int (zI v5)), (6, .int (zI v6)), (7, .int (zI v7))]) [1, 2, 3, 4, 5, 6, 7, 8] rfl ?_
    refine w_M_beginsAt_b106 C hσ r1 r2 r3 r4 r5 hk15 v6 v7 r6 r7 h
  · have h := h.2 c
    refine j_aload_n C d_M_beginsAt_73 1 rfl rfl ?_
    refine j_getr (kf := 11) (m := 88) C d_M_beginsAt_74 sh_79 rfl i_M rfl rfl fl_M_34 ?_
    refine j_iload C d_M_beginsAt_77 0 rfl ?_
    obtain ⟨g10, h⟩ := h
    refine j_iaload C d_M_beginsAt_79 sh_88 g10 ?_
    refine j_aload_n C d_M_beginsAt_80 1 rfl rfl ?_
    refine j_iload_n C d_M_beginsAt_81 2 rfl rfl ?_
    refine j_iconst C d_M_beginsAt_82 ?_
    refine j_callV C d_M_beginsAt_83 ml_M_67 mi_M_ofR (c_M_ofR (xl X) (gD G) (gad G) (gca G) (v1 := v1) (v2 := 1) hσ r1 (zR_of (x := 1) rfl) h) sh_79 rfl rfl rfl rfl rfl rfl rfl (fun z11 σ12 rz11 hσ12 h => ?_)
    obtain ⟨ez11, h⟩ := h; subst ez11
    refine j_callS C d_M_beginsAt_86 ml_M_135 ms_M_has (c_M_has (xl X) (gD G) (gad G) (gca G) (v0 := σ 88 (v7 + z6)) (v1 := z11) hσ (hσ _ _) rz11 h) rfl rfl rfl rfl rfl (fun z13 σ14 rz13 hσ14 h => ?_)
    obtain ⟨ez13, h⟩ := h; subst ez13
    refine j_if_eq (tgt := 106) C d_M_beginsAt_89 rfl rz13 (fun c => ?_) (fun c => ?_)
    · have h := h.1 c
      refine j_sub (L' := [(0, .ref (gad G 79)), (1, .int (zI v1)), (2, .int (zI v2)), (3, .int (zI v3)), (4, .int (zI v4)), (5, .int (zI v5)), (6, .int (zI v6)), (7, .int (zI v7))]) [1, 2, 3, 4, 5, 6, 7, 8] rfl ?_
      refine w_M_beginsAt_b106 C hσ r1 r2 r3 r4 r5 hk15 v6 v7 r6 r7 h
    · have h := h.2 c
      refine j_aload_n C d_M_beginsAt_92 1 rfl rfl ?_
      refine j_iload_n C d_M_beginsAt_93 2 rfl rfl ?_
      refine j_iload C d_M_beginsAt_94 8 rfl ?_
      refine j_callV C d_M_beginsAt_96 ml_M_95 mi_M_whyNot (c_M_whyNot (xl X) (gD G) (gad G) (gca G) (v1 := v1) (v2 := v7) hσ r1 r7 h) sh_79 rfl rfl rfl rfl rfl rfl rfl (fun z15 σ16 rz15 hσ16 h => ?_)
      obtain ⟨ez15, h⟩ := h; subst ez15
      refine j_if_ne (tgt := 106) C d_M_beginsAt_99 rfl rz15 (fun c => ?_) (fun c => ?_)
      · have h := h.1 c
        refine j_sub (L' := [(0, .ref (gad G 79)), (1, .int (zI v1)), (2, .int (zI v2)), (3, .int (zI v3)), (4, .int (zI v4)), (5, .int (zI v5)), (6, .int (zI v6)), (7, .int (zI v7))]) [1, 2, 3, 4, 5, 6, 7, 8] rfl ?_
        refine w_M_beginsAt_b106 C hσ r1 r2 r3 r4 r5 hk15 v6 v7 r6 r7 h
      · have h := h.2 c
        refine j_iconst C d_M_beginsAt_102 ?_
        refine j_goto (tgt := 107) C d_M_beginsAt_103 rfl ?_
        refine j_sub (L' := [(0, .ref (gad G 79)), (1, .int (zI v1)), (2, .int (zI v2)), (3, .int (zI v3)), (4, .int (zI v4)), (5, .int (zI v5)), (6, .int (zI v6)), (7, .int (zI v7))]) [1, 2, 3, 4, 5, 6, 7, 8] rfl ?_
        refine w_M_beginsAt_b107 C hσ r1 r2 r3 r4 r5 hk15 v6 v7 1 r6 r7 (zR_of (x := 1) rfl) h
set_option maxRecDepth 100000 in
set_option maxHeartbeats 4000000 in
theorem w_M_beginsAt_L15 {X : zX} {G : zG} (C : zC X G b_M_beginsAt "GateRoadsModel" 10 (some .int) 3 71) {σ : zM} {v1 : Int} {v2 : Int} {v3 : Int} {v4 : Int} {v5 : Int} (hσ : zRM σ) (r1 : zR v1) (r2 : zR v2) (r3 : zR v3) (r4 : zR v4) (r5 : zR v5) {Q : Int → Prop} : ∀ (n : Nat) (v6 : Int) (v7 : Int) (r6 : zR v6) (r7 : zR v7), wp_M_beginsAt_L15 σ v1 v2 v3 v4 v5 Q n v6 v7 → zJ X G (zQi X G (fun z u => σ = u ∧ Q z)) 10 15 [(0, .ref (gad G 79)), (1, .int (zI v1)), (2, .int (zI v2)), (3, .int (zI v3)), (4, .int (zI v4)), (5, .int (zI v5)), (6, .int (zI v6)), (7, .int (zI v7))] [] σ := by
  intro n
  induction n with
  | zero => intro v6 v7 r6 r7 h; exact False.elim h
  | succ n ih =>
    intro v6 v7 r6 r7 h
    rw [wp_M_beginsAt_L15] at h
    refine j_iload C d_M_beginsAt_15 7 rfl ?_
    refine j_iload_n C d_M_beginsAt_17 3 rfl rfl ?_
    refine j_icmp_gt (tgt := 141) C d_M_beginsAt_18 rfl r7 r3 (fun c => ?_) (fun c => ?_)
    · have h := h.1 c
      refine j_iload C d_M_beginsAt_141 6 rfl ?_
      exact j_ireturn C d_M_beginsAt_143 r6 hσ ⟨rfl, h⟩
    · have h := h.2 c
      refine j_iload C d_M_beginsAt_21 7 rfl ?_
      refine j_iload_n C d_M_beginsAt_23 2 rfl rfl ?_
      refine j_isub C d_M_beginsAt_24 ?_
      refine j_aload_n C d_M_beginsAt_25 0 rfl rfl ?_
      refine j_iload C d_M_beginsAt_26 5 rfl ?_
      refine j_callV C d_M_beginsAt_28 ml_M_120 mi_M_limitOf (c_M_limitOf (xl X) (gD G) (gad G) (gca G) (v1 := v5) hσ r5 h) sh_79 rfl rfl rfl rfl rfl rfl rfl (fun z3 σ4 rz3 hσ4 h => ?_)
      obtain ⟨ez3, h⟩ := h; subst ez3
      obtain ⟨g5, h⟩ := h
      refine j_icmp_gt (tgt := 141) C d_M_beginsAt_31 rfl g5 rz3 (fun c => ?_) (fun c => ?_)
      · have h := h.1 c
        refine j_iload C d_M_beginsAt_141 6 rfl ?_
        exact j_ireturn C d_M_beginsAt_143 r6 hσ ⟨rfl, h⟩
      · have h := h.2 c
        refine j_iload C d_M_beginsAt_34 7 rfl ?_
        refine j_iload_n C d_M_beginsAt_36 2 rfl rfl ?_
        refine j_icmp_le (tgt := 56) C d_M_beginsAt_37 rfl r7 r2 (fun c => ?_) (fun c => ?_)
        · have h := h.1 c
          refine w_M_beginsAt_b56 C hσ r1 r2 r3 r4 r5 ih v6 v7 r6 r7 h
        · have h := h.2 c
          refine j_aload_n C d_M_beginsAt_40 0 rfl rfl ?_
          refine j_iload C d_M_beginsAt_41 5 rfl ?_
          refine j_iload C d_M_beginsAt_43 7 rfl ?_
          refine j_iconst C d_M_beginsAt_45 ?_
          refine j_isub C d_M_beginsAt_46 ?_
          obtain ⟨g17, h⟩ := h
          refine j_callV C d_M_beginsAt_47 ml_M_117 mi_M_isRoomOpen (c_M_isRoomOpen (xl X) (gD G) (gad G) (gca G) (v1 := v5) (v2 := v7 - 1) hσ r5 g17 h) sh_79 rfl rfl rfl rfl rfl rfl rfl (fun z18 σ19 rz18 hσ19 h => ?_)
          obtain ⟨ez18, h⟩ := h; subst ez18
          refine j_if_ne (tgt := 56) C d_M_beginsAt_50 rfl rz18 (fun c => ?_) (fun c => ?_)
          · have h := h.1 c
            refine w_M_beginsAt_b56 C hσ r1 r2 r3 r4 r5 ih v6 v7 r6 r7 h
          · have h := h.2 c
            refine j_iload C d_M_beginsAt_53 6 rfl ?_
            exact j_ireturn C d_M_beginsAt_55 r6 hσ ⟨rfl, h⟩
set_option maxRecDepth 100000 in
set_option maxHeartbeats 4000000 in
theorem c_M_beginsAt (l : Launch) (D : va_G) (ad : Nat → Nat) (ca : Nat → ClassId) {σ : zM} {v1 : Int} {v2 : Int} {v3 : Int} {v4 : Int} {Q : Int → Prop} (hσ : zRM σ) (r1 : zR v1) (r2 : zR v2) (r3 : zR v3) (r4 : zR v4) (h : wp_M_beginsAt σ v1 v2 v3 v4 Q) : zCi l D ad ca y_M_beginsAt b_M_beginsAt 10 (some .int) (zrm 3 71) [.ref (ad 79), .int (zI v1), .int (zI v2), .int (zI v3), .int (zI v4)] σ (fun z u => σ = u ∧ Q z) := by
  refine zCi_of (by decide +kernel) (Nat.le_of_ble_eq_true rfl) ?_
  intro X G C hl hD had hca
  subst hl hD had hca
  have C : zC X G b_M_beginsAt "GateRoadsModel" 10 (some .int) 3 71 := C
  show zJ X G (zQi X G (fun z u => σ = u ∧ Q z)) 10 0 [(0, .ref (gad G 79)), (1, .int (zI v1)), (2, .int (zI v2)), (3, .int (zI v3)), (4, .int (zI v4))] [] σ
  unfold wp_M_beginsAt at h
  refine j_aload_n C d_M_beginsAt_0 0 rfl rfl ?_
  refine j_iload_n C d_M_beginsAt_1 1 rfl rfl ?_
  refine j_iconst C d_M_beginsAt_2 ?_
  refine j_callV C d_M_beginsAt_3 ml_M_67 mi_M_ofR (c_M_ofR (xl X) (gD G) (gad G) (gca G) (v1 := v1) (v2 := 0) hσ r1 (zR_of (x := 0) rfl) h) sh_79 rfl rfl rfl rfl rfl rfl rfl (fun z1 σ2 rz1 hσ2 h => ?_)
  obtain ⟨ez1, h⟩ := h; subst ez1
  refine j_istore (L' := [(5, .int (zI z1)), (0, .ref (gad G 79)), (1, .int (zI v1)), (2, .int (zI v2)), (3, .int (zI v3)), (4, .int (zI v4))]) C d_M_beginsAt_6 rfl rfl ?_
  refine j_bipush C d_M_beginsAt_8 rfl ?_
  refine j_istore (L' := [(6, .int (zI (-6))), (5, .int (zI z1)), (0, .ref (gad G 79)), (1, .int (zI v1)), (2, .int (zI v2)), (3, .int (zI v3)), (4, .int (zI v4))]) C d_M_beginsAt_10 rfl rfl ?_
  refine j_iload_n C d_M_beginsAt_12 4 rfl rfl ?_
  refine j_istore (L' := [(7, .int (zI v2)), (6, .int (zI (-6))), (5, .int (zI z1)), (0, .ref (gad G 79)), (1, .int (zI v1)), (2, .int (zI v2)), (3, .int (zI v3)), (4, .int (zI v4))]) C d_M_beginsAt_13 rfl rfl ?_
  obtain ⟨n20, h⟩ := h
  refine j_sub (L' := [(0, .ref (gad G 79)), (1, .int (zI v1)), (2, .int (zI v2)), (3, .int (zI v3)), (4, .int (zI v4)), (5, .int (zI z1)), (6, .int (zI (-6))), (7, .int (zI v2))]) [3, 4, 5, 6, 7, 2, 1, 0] rfl ?_
  refine w_M_beginsAt_L15 C hσ r1 r2 r3 r4 rz1 n20 (-6) v2 (zR_of (x := (-6)) rfl) r2 h
set_option maxRecDepth 100000 in
set_option maxHeartbeats 4000000 in
theorem w_M_way_b144 {X : zX} {G : zG} (C : zC X G b_M_way "GateRoadsModel" 8 (some .int) 5 122) {σ : zM} {v1 : Int} {v3 : Int} {v4 : Int} {v5 : Int} (hσ : zRM σ) (r1 : zR v1) (r3 : zR v3) (r4 : zR v4) (r5 : zR v5) {Q : Int → zM → Prop} {k97 : Int → Prop} (hk97 : ∀ (v6 : Int), zR v6 → k97 v6 → zJ X G (zQi X G Q) 8 97 [(0, .ref (gad G 79)), (1, .int (zI v1)), (3, .int (zI v3)), (4, .int (zI v4)), (5, .int (zI v5)), (6, .int (zI v6))] [] σ) (v6 : Int) (s0 : Int) (r6 : zR v6) (rs0 : zR s0) (h : wp_M_way_b144 σ v1 v3 v4 v5 k97 Q v6 s0) : zJ X G (zQi X G Q) 8 144 [(0, .ref (gad G 79)), (1, .int (zI v1)), (3, .int (zI v3)), (4, .int (zI v4)), (5, .int (zI v5)), (6, .int (zI v6))] [.int (zI s0)] σ := by
  unfold wp_M_way_b144 at h
  refine j_istore (L' := [(7, .int (zI s0)), (0, .ref (gad G 79)), (1, .int (zI v1)), (3, .int (zI v3)), (4, .int (zI v4)), (5, .int (zI v5)), (6, .int (zI v6))]) C d_M_way_144 rfl rfl ?_
  refine j_iload C d_M_way_146 0 rfl ?_
  refine j_bipush C d_M_way_148 rfl ?_
  refine j_icmp_eq (tgt := 167) C d_M_way_150 rfl rs0 (zR_of (x := (-6)) rfl) (fun c => ?_) (fun c => ?_)
  · have h := h.1 c
    obtain ⟨g15, h⟩ := h
    refine j_iinc (L' := [(6, .int (zI (v6 + 1))), (7, .int (zI s0)), (0, .ref (gad G 79)), (1, .int (zI v1)), (3, .int (zI v3)), (4, .int (zI v4)), (5, .int (zI v5))]) C d_M_way_167 6 rfl rfl rfl ?_
    refine j_goto (tgt := 97) C d_M_way_170 rfl ?_
    refine j_sub (L' := [(0, .ref (gad G 79)), (1, .int (zI v1)), (3, .int (zI v3)), (4, .int (zI v4)), (5, .int (zI v5)), (6, .int (zI (v6 + 1)))]) [2, 3, 4, 5, 6, 0] rfl ?_
    exact hk97 (v6 + 1) g15 h
  · have h := h.2 c
    refine j_iload C d_M_way_153 4 rfl ?_
    refine j_iconst C d_M_way_155 ?_
    refine j_icmp_ne (tgt := 164) C d_M_way_156 rfl r4 (zR_of (x := 1) rfl) (fun c => ?_) (fun c => ?_)
    · have h := h.1 c
      refine j_iload C d_M_way_164 0 rfl ?_
      exact j_ireturn C d_M_way_166 rs0 hσ h
    · have h := h.2 c
      refine j_iload C d_M_way_159 6 rfl ?_
      refine j_goto (tgt := 166) C d_M_way_161 rfl ?_
      exact j_ireturn C d_M_way_166 r6 hσ h
set_option maxRecDepth 100000 in
set_option maxHeartbeats 4000000 in
theorem w_M_way_b136 {X : zX} {G : zG} (C : zC X G b_M_way "GateRoadsModel" 8 (some .int) 5 122) {σ : zM} {v1 : Int} {v3 : Int} {v4 : Int} {v5 : Int} (hσ : zRM σ) (r1 : zR v1) (r3 : zR v3) (r4 : zR v4) (r5 : zR v5) {Q : Int → zM → Prop} {k97 : Int → Prop} (hk97 : ∀ (v6 : Int), zR v6 → k97 v6 → zJ X G (zQi X G Q) 8 97 [(0, .ref (gad G 79)), (1, .int (zI v1)), (3, .int (zI v3)), (4, .int (zI v4)), (5, .int (zI v5)), (6, .int (zI v6))] [] σ) (v6 : Int) (s1 : Int) (s2 : Int) (s3 : Int) (s4 : Int) (r6 : zR v6) (rs1 : zR s1) (rs2 : zR s2) (rs3 : zR s3) (rs4 : zR s4) (h : wp_M_way_b136 σ v1 v3 v4 v5 k97 Q v6 s1 s2 s3 s4) : zJ X G (zQi X G Q) 8 136 [(0, .ref (gad G 79)), (1, .int (zI v1)), (3, .int (zI v3)), (4, .int (zI v4)), (5, .int (zI v5)), (6, .int (zI v6))] [.int (zI s4), .int (zI s3), .int (zI s2), .int (zI s1), .ref (gad G 79)] σ := by
  unfold wp_M_way_b136 at h
  refine j_callV C d_M_way_136 ml_M_163 mi_M_beginsAt (c_M_beginsAt (xl X) (gD G) (gad G) (gca G) (v1 := s1) (v2 := s2) (v3 := s3) (v4 := s4) hσ rs1 rs2 rs3 rs4 h) sh_79 rfl rfl rfl rfl rfl rfl rfl (fun z16 σ17 rz16 hσ17 h => ?_)
  obtain ⟨ez16, h⟩ := h; subst ez16
  refine j_goto (tgt := 144) C d_M_way_139 rfl ?_
  refine w_M_way_b144 C hσ r1 r3 r4 r5 hk97 v6 z16 r6 rz16 h
set_option maxRecDepth 100000 in
set_option maxHeartbeats 4000000 in
theorem w_M_way_L97 {X : zX} {G : zG} (C : zC X G b_M_way "GateRoadsModel" 8 (some .int) 5 122) {σ : zM} {v1 : Int} {v3 : Int} {v4 : Int} {v5 : Int} (hσ : zRM σ) (r1 : zR v1) (r3 : zR v3) (r4 : zR v4) (r5 : zR v5) {Q : Int → zM → Prop} : ∀ (n : Nat) (v6 : Int) (r6 : zR v6), wp_M_way_L97 σ v1 v3 v4 v5 Q n v6 → zJ X G (zQi X G Q) 8 97 [(0, .ref (gad G 79)), (1, .int (zI v1)), (3, .int (zI v3)), (4, .int (zI v4)), (5, .int (zI v5)), (6, .int (zI v6))] [] σ := by
  intro n
  induction n with
  | zero => intro v6 r6 h; exact False.elim h
  | succ n ih =>
    intro v6 r6 h
    rw [wp_M_way_L97] at h
    refine j_iload C d_M_way_97 5 rfl ?_
    refine j_aload_n C d_M_way_99 0 rfl rfl ?_
    refine j_getr (kf := 0) (m := 80) C d_M_way_100 sh_79 rfl i_M rfl rfl fl_M_7 ?_
    refine j_iconst C d_M_way_103 ?_
    refine j_iaload C d_M_way_104 sh_80 (zIx (i := 0) (n := 455) rfl) ?_
    refine j_icmp_ge (tgt := 173) C d_M_way_105 rfl r6 (hσ _ _) (fun c => ?_) (fun c => ?_)
    · have h := h.1 c
      refine j_bipush C d_M_way_173 rfl ?_
      exact j_ireturn C d_M_way_175 (zR_of (x := (-6)) rfl) hσ h
    · have h := h.2 c
      refine j_aload_n C d_M_way_108 0 rfl rfl ?_
      refine j_iload C d_M_way_109 5 rfl ?_
      refine j_iconst C d_M_way_111 ?_
      refine j_callV C d_M_way_112 ml_M_67 mi_M_ofR (c_M_ofR (xl X) (gD G) (gad G) (gca G) (v1 := v6) (v2 := 0) hσ r6 (zR_of (x := 0) rfl) h) sh_79 rfl rfl rfl rfl rfl rfl rfl (fun z13 σ14 rz13 hσ14 h => ?_)
      obtain ⟨ez13, h⟩ := h; subst ez13
      refine j_iload_n C d_M_way_115 1 rfl rfl ?_
      refine j_icmp_ne (tgt := 142) C d_M_way_116 rfl rz13 r1 (fun c => ?_) (fun c => ?_)
      · have h := h.1 c
        refine j_bipush C d_M_way_142 rfl ?_
        refine w_M_way_b144 C hσ r1 r3 r4 r5 ih v6 (-6) r6 (zR_of (x := (-6)) rfl) h
      · have h := h.2 c
        refine j_aload_n C d_M_way_119 0 rfl rfl ?_
        refine j_iload C d_M_way_120 5 rfl ?_
        refine j_iload_n C d_M_way_122 2 rfl rfl ?_
        refine j_iload C d_M_way_123 4 rfl ?_
        refine j_iload C d_M_way_125 3 rfl ?_
        refine j_iconst C d_M_way_127 ?_
        refine j_icmp_ne (tgt := 135) C d_M_way_128 rfl r4 (zR_of (x := 3) rfl) (fun c => ?_) (fun c => ?_)
        · have h := h.1 c
          refine j_iconst C d_M_way_135 ?_
          refine w_M_way_b136 C hσ r1 r3 r4 r5 ih v6 v6 v3 v5 0 r6 r6 r3 r5 (zR_of (x := 0) rfl) h
        · have h := h.2 c
          refine j_iconst C d_M_way_131 ?_
          refine j_goto (tgt := 136) C d_M_way_132 rfl ?_
          refine w_M_way_b136 C hσ r1 r3 r4 r5 ih v6 v6 v3 v5 1 r6 r6 r3 r5 (zR_of (x := 1) rfl) h
set_option maxRecDepth 100000 in
set_option maxHeartbeats 4000000 in
theorem c_M_way (l : Launch) (D : va_G) (ad : Nat → Nat) (ca : Nat → ClassId) {σ : zM} {v1 : Int} {v2 : Int} {v3 : Int} {v4 : Int} {Q : Int → zM → Prop} (hσ : zRM σ) (r1 : zR v1) (r2 : zR v2) (r3 : zR v3) (r4 : zR v4) (h : wp_M_way σ v1 v2 v3 v4 Q) : zCi l D ad ca y_M_way b_M_way 8 (some .int) (zrm 5 122) [.ref (ad 79), .int (zI v1), .int (zI v2), .int (zI v3), .int (zI v4)] σ Q := by
  refine zCi_of (by decide +kernel) (Nat.le_of_ble_eq_true rfl) ?_
  intro X G C hl hD had hca
  subst hl hD had hca
  have C : zC X G b_M_way "GateRoadsModel" 8 (some .int) 5 122 := C
  show zJ X G (zQi X G Q) 8 0 [(0, .ref (gad G 79)), (1, .int (zI v1)), (2, .int (zI v2)), (3, .int (zI v3)), (4, .int (zI v4))] [] σ
  unfold wp_M_way at h
  refine j_iload_n C d_M_way_0 1 rfl rfl ?_
  refine j_callS C d_M_way_1 ml_M_57 ms_M_isPlace (c_M_isPlace (xl X) (gD G) (gad G) (gca G) (v0 := v1) hσ r1 h) rfl rfl rfl rfl rfl (fun z1 σ2 rz1 hσ2 h => ?_)
  obtain ⟨ez1, h⟩ := h; subst ez1
  refine j_if_eq (tgt := 14) C d_M_way_4 rfl rz1 (fun c => ?_) (fun c => ?_)
  · have h := h.1 c
    refine j_iconst C d_M_way_14 ?_
    exact j_ireturn C d_M_way_15 (zR_of (x := (-1)) rfl) hσ h
  · have h := h.2 c
    refine j_iload_n C d_M_way_7 2 rfl rfl ?_
    refine j_callS C d_M_way_8 ml_M_57 ms_M_isPlace (c_M_isPlace (xl X) (gD G) (gad G) (gca G) (v0 := v2) hσ r2 h) rfl rfl rfl rfl rfl (fun z3 σ4 rz3 hσ4 h => ?_)
    obtain ⟨ez3, h⟩ := h; subst ez3
    refine j_if_ne (tgt := 16) C d_M_way_11 rfl rz3 (fun c => ?_) (fun c => ?_)
    · have h := h.1 c
      refine j_iload_n C d_M_way_16 3 rfl rfl ?_
      refine j_callS C d_M_way_17 ml_M_92 ms_M_isTime (c_M_isTime (xl X) (gD G) (gad G) (gca G) (v0 := v3) hσ r3 h) rfl rfl rfl rfl rfl (fun z5 σ6 rz5 hσ6 h => ?_)
      obtain ⟨ez5, h⟩ := h; subst ez5
      refine j_if_eq (tgt := 33) C d_M_way_20 rfl rz5 (fun c => ?_) (fun c => ?_)
      · have h := h.1 c
        refine j_bipush C d_M_way_33 rfl ?_
        exact j_ireturn C d_M_way_35 (zR_of (x := (-2)) rfl) hσ h
      · have h := h.2 c
        refine j_iload C d_M_way_23 4 rfl ?_
        refine j_iconst C d_M_way_25 ?_
        refine j_iconst C d_M_way_26 ?_
        refine j_callS C d_M_way_27 ml_M_46 ms_M_isIn (c_M_isIn (xl X) (gD G) (gad G) (gca G) (v0 := v4) (v1 := 0) (v2 := 3) hσ r4 (zR_of (x := 0) rfl) (zR_of (x := 3) rfl) h) rfl rfl rfl rfl rfl (fun z7 σ8 rz7 hσ8 h => ?_)
        obtain ⟨ez7, h⟩ := h; subst ez7
        refine j_if_ne (tgt := 36) C d_M_way_30 rfl rz7 (fun c => ?_) (fun c => ?_)
        · have h := h.1 c
          refine j_iload_n C d_M_way_36 1 rfl rfl ?_
          refine j_iload_n C d_M_way_37 2 rfl rfl ?_
          refine j_icmp_ne (tgt := 53) C d_M_way_38 rfl r1 r2 (fun c => ?_) (fun c => ?_)
          · have h := h.1 c
            refine j_aload_n C d_M_way_53 0 rfl rfl ?_
            refine j_iload_n C d_M_way_54 1 rfl rfl ?_
            refine j_iload_n C d_M_way_55 2 rfl rfl ?_
            refine j_iload_n C d_M_way_56 3 rfl rfl ?_
            refine j_callV C d_M_way_57 ml_M_145 mi_M_earliestOf (c_M_earliestOf (xl X) (gD G) (gad G) (gca G) (v1 := v1) (v2 := v2) (v3 := v3) hσ r1 r2 r3 h) sh_79 rfl rfl rfl rfl rfl rfl rfl (fun z9 σ10 rz9 hσ10 h => ?_)
            refine j_istore (L' := [(5, .int (zI z9)), (0, .ref (gad G 79)), (1, .int (zI v1)), (2, .int (zI v2)), (3, .int (zI v3)), (4, .int (zI v4))]) C d_M_way_60 rfl rfl ?_
            refine j_iload C d_M_way_62 0 rfl ?_
            refine j_bipush C d_M_way_64 rfl ?_
            refine j_icmp_ne (tgt := 72) C d_M_way_66 rfl rz9 (zR_of (x := (-6)) rfl) (fun c => ?_) (fun c => ?_)
            · have h := h.1 c
              refine j_iload C d_M_way_72 5 rfl ?_
              refine j_if_ne (tgt := 87) C d_M_way_74 rfl r4 (fun c => ?_) (fun c => ?_)
              · have h := h.1 c
                refine j_aload_n C d_M_way_87 1 rfl rfl ?_
                refine j_iload_n C d_M_way_88 3 rfl rfl ?_
                refine j_iload C d_M_way_89 0 rfl ?_
                refine j_callVv C d_M_way_91 ml_M_151 mi_M_goesBack (c_M_goesBack (xl X) (gD G) (gad G) (gca G) (v1 := v2) (v2 := z9) hσ10 r2 rz9 h) sh_79 rfl rfl rfl rfl rfl rfl rfl (fun σ12 hσ12 h => ?_)
                refine j_iconst C d_M_way_94 ?_
                refine j_istore (L' := [(6, .int (zI 0)), (5, .int (zI z9)), (0, .ref (gad G 79)), (1, .int (zI v1)), (2, .int (zI v2)), (3, .int (zI v3)), (4, .int (zI v4))]) C d_M_way_95 rfl rfl ?_
                obtain ⟨n18, h⟩ := h
                refine j_sub (L' := [(0, .ref (gad G 79)), (1, .int (zI v1)), (3, .int (zI v3)), (4, .int (zI v4)), (5, .int (zI z9)), (6, .int (zI 0))]) [2, 3, 5, 6, 1, 0] rfl ?_
                refine w_M_way_L97 C hσ12 r1 r3 r4 rz9 n18 0 (zR_of (x := 0) rfl) h
              · have h := h.2 c
                refine j_aload_n C d_M_way_77 1 rfl rfl ?_
                refine j_iload_n C d_M_way_78 2 rfl rfl ?_
                refine j_iload_n C d_M_way_79 3 rfl rfl ?_
                refine j_iload_n C d_M_way_80 4 rfl rfl ?_
                refine j_iload C d_M_way_81 0 rfl ?_
                refine j_callV C d_M_way_83 ml_M_159 mi_M_fewestRoads (c_M_fewestRoads (xl X) (gD G) (gad G) (gca G) (v1 := v1) (v2 := v2) (v3 := v3) (v4 := z9) hσ10 r1 r2 r3 rz9 h) sh_79 rfl rfl rfl rfl rfl rfl rfl (fun z19 σ20 rz19 hσ20 h => ?_)
                exact j_ireturn C d_M_way_86 rz19 hσ20 h
            · have h := h.2 c
              refine j_bipush C d_M_way_69 rfl ?_
              exact j_ireturn C d_M_way_71 (zR_of (x := (-6)) rfl) hσ10 h
          · have h := h.2 c
            refine j_iload C d_M_way_41 4 rfl ?_
            refine j_if_ne (tgt := 50) C d_M_way_43 rfl r4 (fun c => ?_) (fun c => ?_)
            · have h := h.1 c
              refine j_bipush C d_M_way_50 rfl ?_
              exact j_ireturn C d_M_way_52 (zR_of (x := (-6)) rfl) hσ h
            · have h := h.2 c
              refine j_iconst C d_M_way_46 ?_
              refine j_goto (tgt := 52) C d_M_way_47 rfl ?_
              exact j_ireturn C d_M_way_52 (zR_of (x := 0) rfl) hσ h
        · have h := h.2 c
          refine j_bipush C d_M_way_33 rfl ?_
          exact j_ireturn C d_M_way_35 (zR_of (x := (-2)) rfl) hσ h
    · have h := h.2 c
      refine j_iconst C d_M_way_14 ?_
      exact j_ireturn C d_M_way_15 (zR_of (x := (-1)) rfl) hσ h
set_option maxRecDepth 100000 in
set_option maxHeartbeats 4000000 in
theorem w_M_reach_L52 {X : zX} {G : zG} (C : zC X G b_M_reach "GateRoadsModel" 6 (some .int) 4 97) {σ : zM} {v3 : Int} (hσ : zRM σ) (r3 : zR v3) {Q : Int → zM → Prop} : ∀ (n : Nat) (v4 : Int) (v5 : Int) (r4 : zR v4) (r5 : zR v5), wp_M_reach_L52 σ v3 Q n v4 v5 → zJ X G (zQi X G Q) 6 52 [(0, .ref (gad G 79)), (3, .int (zI v3)), (4, .int (zI v4)), (5, .int (zI v5))] [] σ := by
  intro n
  induction n with
  | zero => intro v4 v5 r4 r5 h; exact False.elim h
  | succ n ih =>
    intro v4 v5 r4 r5 h
    rw [wp_M_reach_L52] at h
    refine j_iload C d_M_reach_52 3 rfl ?_
    refine j_iload_n C d_M_reach_54 1 rfl rfl ?_
    refine j_icmp_gt (tgt := 76) C d_M_reach_55 rfl r5 r3 (fun c => ?_) (fun c => ?_)
    · have h := h.1 c
      refine j_iload C d_M_reach_76 2 rfl ?_
      exact j_ireturn C d_M_reach_78 r4 hσ h
    · have h := h.2 c
      refine j_iload C d_M_reach_58 2 rfl ?_
      refine j_aload_n C d_M_reach_60 0 rfl rfl ?_
      refine j_getr (kf := 8) (m := 85) C d_M_reach_61 sh_79 rfl i_M rfl rfl fl_M_25 ?_
      refine j_iload C d_M_reach_64 3 rfl ?_
      obtain ⟨g9, h⟩ := h
      refine j_iaload C d_M_reach_66 sh_85 g9 ?_
      refine j_ior C d_M_reach_67 ?_
      refine j_istore (L' := [(4, .int (zI (zOr v4 (σ 85 v5)))), (0, .ref (gad G 79)), (3, .int (zI v3)), (5, .int (zI v5))]) C d_M_reach_68 rfl rfl ?_
      obtain ⟨g10, h⟩ := h
      refine j_iinc (L' := [(5, .int (zI (v5 + 1))), (4, .int (zI (zOr v4 (σ 85 v5)))), (0, .ref (gad G 79)), (3, .int (zI v3))]) C d_M_reach_70 3 rfl rfl rfl ?_
      refine j_goto (tgt := 52) C d_M_reach_73 rfl ?_
      refine j_sub (L' := [(0, .ref (gad G 79)), (3, .int (zI v3)), (4, .int (zI (zOr v4 (σ 85 v5)))), (5, .int (zI (v5 + 1)))]) [2, 3, 1, 0] rfl ?_
      exact ih (zOr v4 (σ 85 v5)) (v5 + 1) (zOr_rg _ _) g10 h
set_option maxRecDepth 100000 in
set_option maxHeartbeats 4000000 in
theorem w_M_reach_b47 {X : zX} {G : zG} (C : zC X G b_M_reach "GateRoadsModel" 6 (some .int) 4 97) {Q : Int → zM → Prop} (σ : zM) (v3 : Int) (s0 : Int) (hσ : zRM σ) (r3 : zR v3) (rs0 : zR s0) (h : wp_M_reach_b47 Q σ v3 s0) : zJ X G (zQi X G Q) 6 47 [(0, .ref (gad G 79)), (3, .int (zI v3))] [.int (zI s0)] σ := by
  unfold wp_M_reach_b47 at h
  refine j_istore (L' := [(4, .int (zI s0)), (0, .ref (gad G 79)), (3, .int (zI v3))]) C d_M_reach_47 rfl rfl ?_
  refine j_iconst C d_M_reach_49 ?_
  refine j_istore (L' := [(5, .int (zI 0)), (4, .int (zI s0)), (0, .ref (gad G 79)), (3, .int (zI v3))]) C d_M_reach_50 rfl rfl ?_
  obtain ⟨n11, h⟩ := h
  refine j_sub (L' := [(0, .ref (gad G 79)), (3, .int (zI v3)), (4, .int (zI s0)), (5, .int (zI 0))]) [2, 3, 1, 0] rfl ?_
  refine w_M_reach_L52 C hσ r3 n11 s0 0 rs0 (zR_of (x := 0) rfl) h
set_option maxRecDepth 100000 in
set_option maxHeartbeats 4000000 in
theorem c_M_reach (l : Launch) (D : va_G) (ad : Nat → Nat) (ca : Nat → ClassId) {σ : zM} {v1 : Int} {v2 : Int} {v3 : Int} {Q : Int → zM → Prop} (hσ : zRM σ) (r1 : zR v1) (r2 : zR v2) (r3 : zR v3) (h : wp_M_reach σ v1 v2 v3 Q) : zCi l D ad ca y_M_reach b_M_reach 6 (some .int) (zrm 4 97) [.ref (ad 79), .int (zI v1), .int (zI v2), .int (zI v3)] σ Q := by
  refine zCi_of (by decide +kernel) (Nat.le_of_ble_eq_true rfl) ?_
  intro X G C hl hD had hca
  subst hl hD had hca
  have C : zC X G b_M_reach "GateRoadsModel" 6 (some .int) 4 97 := C
  show zJ X G (zQi X G Q) 6 0 [(0, .ref (gad G 79)), (1, .int (zI v1)), (2, .int (zI v2)), (3, .int (zI v3))] [] σ
  unfold wp_M_reach at h
  refine j_iload_n C d_M_reach_0 1 rfl rfl ?_
  refine j_callS C d_M_reach_1 ml_M_57 ms_M_isPlace (c_M_isPlace (xl X) (gD G) (gad G) (gca G) (v0 := v1) hσ r1 h) rfl rfl rfl rfl rfl (fun z1 σ2 rz1 hσ2 h => ?_)
  obtain ⟨ez1, h⟩ := h; subst ez1
  refine j_if_ne (tgt := 9) C d_M_reach_4 rfl rz1 (fun c => ?_) (fun c => ?_)
  · have h := h.1 c
    refine j_iload_n C d_M_reach_9 2 rfl rfl ?_
    refine j_callS C d_M_reach_10 ml_M_92 ms_M_isTime (c_M_isTime (xl X) (gD G) (gad G) (gca G) (v0 := v2) hσ r2 h) rfl rfl rfl rfl rfl (fun z3 σ4 rz3 hσ4 h => ?_)
    obtain ⟨ez3, h⟩ := h; subst ez3
    refine j_if_eq (tgt := 23) C d_M_reach_13 rfl rz3 (fun c => ?_) (fun c => ?_)
    · have h := h.1 c
      refine j_bipush C d_M_reach_23 rfl ?_
      exact j_ireturn C d_M_reach_25 (zR_of (x := (-2)) rfl) hσ h
    · have h := h.2 c
      refine j_iload_n C d_M_reach_16 3 rfl rfl ?_
      refine j_callS C d_M_reach_17 ml_M_92 ms_M_isTime (c_M_isTime (xl X) (gD G) (gad G) (gca G) (v0 := v3) hσ r3 h) rfl rfl rfl rfl rfl (fun z5 σ6 rz5 hσ6 h => ?_)
      obtain ⟨ez5, h⟩ := h; subst ez5
      refine j_if_ne (tgt := 26) C d_M_reach_20 rfl rz5 (fun c => ?_) (fun c => ?_)
      · have h := h.1 c
        refine j_aload_n C d_M_reach_26 0 rfl rfl ?_
        refine j_iload_n C d_M_reach_27 1 rfl rfl ?_
        refine j_iload_n C d_M_reach_28 2 rfl rfl ?_
        refine j_iload_n C d_M_reach_29 2 rfl rfl ?_
        refine j_bipush C d_M_reach_30 rfl ?_
        refine j_callVv C d_M_reach_32 ml_M_138 mi_M_spreads (c_M_spreads (xl X) (gD G) (gad G) (gca G) (v1 := v1) (v2 := v2) (v3 := v2) (v4 := (-6)) hσ r1 r2 r2 (zR_of (x := (-6)) rfl) h) sh_79 rfl rfl rfl rfl rfl rfl rfl (fun σ8 hσ8 h => ?_)
        refine j_iload_n C d_M_reach_35 3 rfl rfl ?_
        refine j_iload_n C d_M_reach_36 2 rfl rfl ?_
        refine j_icmp_lt (tgt := 46) C d_M_reach_37 rfl r3 r2 (fun c => ?_) (fun c => ?_)
        · have h := h.1 c
          refine j_iconst C d_M_reach_46 ?_
          refine j_sub (L' := [(0, .ref (gad G 79)), (3, .int (zI v3))]) [0, 3] rfl ?_
          refine w_M_reach_b47 C σ8 v3 0 hσ8 r3 (zR_of (x := 0) rfl) h
        · have h := h.2 c
          refine j_iconst C d_M_reach_40 ?_
          refine j_iload_n C d_M_reach_41 1 rfl rfl ?_
          refine j_ishl C d_M_reach_42 ?_
          refine j_goto (tgt := 47) C d_M_reach_43 rfl ?_
          refine j_sub (L' := [(0, .ref (gad G 79)), (3, .int (zI v3))]) [0, 3] rfl ?_
          refine w_M_reach_b47 C σ8 v3 (zShl 1 v1) hσ8 r3 (zShl_rg _ _) h
      · have h := h.2 c
        refine j_bipush C d_M_reach_23 rfl ?_
        exact j_ireturn C d_M_reach_25 (zR_of (x := (-2)) rfl) hσ h
  · have h := h.2 c
    refine j_iconst C d_M_reach_7 ?_
    exact j_ireturn C d_M_reach_8 (zR_of (x := (-1)) rfl) hσ h
set_option maxRecDepth 100000 in
set_option maxHeartbeats 4000000 in
theorem w_M_needed_b93 {X : zX} {G : zG} (C : zC X G b_M_needed "GateRoadsModel" 7 (some .int) 5 120) {v1 : Int} {v2 : Int} {v3 : Int} {v4 : Int} (r1 : zR v1) (r2 : zR v2) (r3 : zR v3) (r4 : zR v4) {Q : Int → zM → Prop} {k41 : zM → Int → Int → Prop} (hk41 : ∀ (σ : zM) (v5 : Int) (v6 : Int), zRM σ → zR v5 → zR v6 → k41 σ v5 v6 → zJ X G (zQi X G Q) 7 41 [(0, .ref (gad G 79)), (1, .int (zI v1)), (2, .int (zI v2)), (3, .int (zI v3)), (4, .int (zI v4)), (5, .int (zI v5)), (6, .int (zI v6))] [] σ) (σ : zM) (v6 : Int) (s0 : Int) (s1 : Int) (hσ : zRM σ) (r6 : zR v6) (rs0 : zR s0) (rs1 : zR s1) (h : wp_M_needed_b93 v1 v2 v3 v4 k41 Q σ v6 s0 s1) : zJ X G (zQi X G Q) 7 93 [(0, .ref (gad G 79)), (1, .int (zI v1)), (2, .int (zI v2)), (3, .int (zI v3)), (4, .int (zI v4)), (6, .int (zI v6))] [.int (zI s1), .int (zI s0)] σ := by
  unfold wp_M_needed_b93 at h
  refine j_ior C d_M_needed_93 ?_
  refine j_istore (L' := [(5, .int (zI (zOr s0 s1))), (0, .ref (gad G 79)), (1, .int (zI v1)), (2, .int (zI v2)), (3, .int (zI v3)), (4, .int (zI v4)), (6, .int (zI v6))]) C d_M_needed_94 rfl rfl ?_
  obtain ⟨g13, h⟩ := h
  refine j_iinc (L' := [(6, .int (zI (v6 + 1))), (5, .int (zI (zOr s0 s1))), (0, .ref (gad G 79)), (1, .int (zI v1)), (2, .int (zI v2)), (3, .int (zI v3)), (4, .int (zI v4))]) C d_M_needed_96 6 rfl rfl rfl ?_
  refine j_goto (tgt := 41) C d_M_needed_99 rfl ?_
  refine j_sub (L' := [(0, .ref (gad G 79)), (1, .int (zI v1)), (2, .int (zI v2)), (3, .int (zI v3)), (4, .int (zI v4)), (5, .int (zI (zOr s0 s1))), (6, .int (zI (v6 + 1)))]) [2, 3, 4, 5, 6, 1, 0] rfl ?_
  exact hk41 σ (zOr s0 s1) (v6 + 1) hσ (zOr_rg _ _) g13 h
set_option maxRecDepth 100000 in
set_option maxHeartbeats 4000000 in
theorem w_M_needed_L41 {X : zX} {G : zG} (C : zC X G b_M_needed "GateRoadsModel" 7 (some .int) 5 120) {v1 : Int} {v2 : Int} {v3 : Int} {v4 : Int} (r1 : zR v1) (r2 : zR v2) (r3 : zR v3) (r4 : zR v4) {Q : Int → zM → Prop} : ∀ (n : Nat) (σ : zM) (v5 : Int) (v6 : Int) (hσ : zRM σ) (r5 : zR v5) (r6 : zR v6), wp_M_needed_L41 v1 v2 v3 v4 Q n σ v5 v6 → zJ X G (zQi X G Q) 7 41 [(0, .ref (gad G 79)), (1, .int (zI v1)), (2, .int (zI v2)), (3, .int (zI v3)), (4, .int (zI v4)), (5, .int (zI v5)), (6, .int (zI v6))] [] σ := by
  intro n
  induction n with
  | zero => intro σ v5 v6 hσ r5 r6 h; exact False.elim h
  | succ n ih =>
    intro σ v5 v6 hσ r5 r6 h
    rw [wp_M_needed_L41] at h
    refine j_iload C d_M_needed_41 6 rfl ?_
    refine j_aload_n C d_M_needed_43 0 rfl rfl ?_
    refine j_getr (kf := 0) (m := 80) C d_M_needed_44 sh_79 rfl i_M rfl rfl fl_M_7 ?_
    refine j_iconst C d_M_needed_47 ?_
    refine j_iaload C d_M_needed_48 sh_80 (zIx (i := 0) (n := 455) rfl) ?_
    refine j_icmp_ge (tgt := 102) C d_M_needed_49 rfl r6 (hσ _ _) (fun c => ?_) (fun c => ?_)
    · have h := h.1 c
      refine j_iload C d_M_needed_102 5 rfl ?_
      exact j_ireturn C d_M_needed_104 r5 hσ h
    · have h := h.2 c
      refine j_iload_n C d_M_needed_52 1 rfl rfl ?_
      refine j_iload_n C d_M_needed_53 2 rfl rfl ?_
      refine j_icmp_eq (tgt := 102) C d_M_needed_54 rfl r1 r2 (fun c => ?_) (fun c => ?_)
      · have h := h.1 c
        refine j_iload C d_M_needed_102 5 rfl ?_
        exact j_ireturn C d_M_needed_104 r5 hσ h
      · have h := h.2 c
        refine j_iload C d_M_needed_57 4 rfl ?_
        refine j_bipush C d_M_needed_59 rfl ?_
        refine j_icmp_eq (tgt := 102) C d_M_needed_61 rfl r4 (zR_of (x := (-6)) rfl) (fun c => ?_) (fun c => ?_)
        · have h := h.1 c
          refine j_iload C d_M_needed_102 5 rfl ?_
          exact j_ireturn C d_M_needed_104 r5 hσ h
        · have h := h.2 c
          refine j_aload_n C d_M_needed_64 0 rfl rfl ?_
          refine j_iload_n C d_M_needed_65 1 rfl rfl ?_
          refine j_iload_n C d_M_needed_66 3 rfl rfl ?_
          refine j_iload_n C d_M_needed_67 3 rfl rfl ?_
          refine j_iload C d_M_needed_68 6 rfl ?_
          refine j_callVv C d_M_needed_70 ml_M_138 mi_M_spreads (c_M_spreads (xl X) (gD G) (gad G) (gca G) (v1 := v1) (v2 := v3) (v3 := v3) (v4 := v6) hσ r1 r3 r3 r6 h) sh_79 rfl rfl rfl rfl rfl rfl rfl (fun σ10 hσ10 h => ?_)
          refine j_iload C d_M_needed_73 5 rfl ?_
          refine j_aload_n C d_M_needed_75 0 rfl rfl ?_
          refine j_iload_n C d_M_needed_76 2 rfl rfl ?_
          refine j_callV C d_M_needed_77 ml_M_142 mi_M_firstAt (c_M_firstAt (xl X) (gD G) (gad G) (gca G) (v1 := v2) hσ10 r2 h) sh_79 rfl rfl rfl rfl rfl rfl rfl (fun z11 σ12 rz11 hσ12 h => ?_)
          obtain ⟨ez11, h⟩ := h; subst ez11
          refine j_iload C d_M_needed_80 4 rfl ?_
          refine j_icmp_eq (tgt := 92) C d_M_needed_82 rfl rz11 r4 (fun c => ?_) (fun c => ?_)
          · have h := h.1 c
            refine j_iconst C d_M_needed_92 ?_
            refine j_sub (L' := [(0, .ref (gad G 79)), (1, .int (zI v1)), (2, .int (zI v2)), (3, .int (zI v3)), (4, .int (zI v4)), (6, .int (zI v6))]) [0, 1, 2, 3, 4, 6] rfl ?_
            refine w_M_needed_b93 C r1 r2 r3 r4 ih σ10 v6 v5 0 hσ10 r6 r5 (zR_of (x := 0) rfl) h
          · have h := h.2 c
            refine j_iconst C d_M_needed_85 ?_
            refine j_iload C d_M_needed_86 6 rfl ?_
            refine j_ishl C d_M_needed_88 ?_
            refine j_goto (tgt := 93) C d_M_needed_89 rfl ?_
            refine j_sub (L' := [(0, .ref (gad G 79)), (1, .int (zI v1)), (2, .int (zI v2)), (3, .int (zI v3)), (4, .int (zI v4)), (6, .int (zI v6))]) [0, 1, 2, 3, 4, 6] rfl ?_
            refine w_M_needed_b93 C r1 r2 r3 r4 ih σ10 v6 v5 (zShl 1 v6) hσ10 r6 r5 (zShl_rg _ _) h
set_option maxRecDepth 100000 in
set_option maxHeartbeats 4000000 in
theorem c_M_needed (l : Launch) (D : va_G) (ad : Nat → Nat) (ca : Nat → ClassId) {σ : zM} {v1 : Int} {v2 : Int} {v3 : Int} {Q : Int → zM → Prop} (hσ : zRM σ) (r1 : zR v1) (r2 : zR v2) (r3 : zR v3) (h : wp_M_needed σ v1 v2 v3 Q) : zCi l D ad ca y_M_needed b_M_needed 7 (some .int) (zrm 5 120) [.ref (ad 79), .int (zI v1), .int (zI v2), .int (zI v3)] σ Q := by
  refine zCi_of (by decide +kernel) (Nat.le_of_ble_eq_true rfl) ?_
  intro X G C hl hD had hca
  subst hl hD had hca
  have C : zC X G b_M_needed "GateRoadsModel" 7 (some .int) 5 120 := C
  show zJ X G (zQi X G Q) 7 0 [(0, .ref (gad G 79)), (1, .int (zI v1)), (2, .int (zI v2)), (3, .int (zI v3))] [] σ
  unfold wp_M_needed at h
  refine j_iload_n C d_M_needed_0 1 rfl rfl ?_
  refine j_callS C d_M_needed_1 ml_M_57 ms_M_isPlace (c_M_isPlace (xl X) (gD G) (gad G) (gca G) (v0 := v1) hσ r1 h) rfl rfl rfl rfl rfl (fun z1 σ2 rz1 hσ2 h => ?_)
  obtain ⟨ez1, h⟩ := h; subst ez1
  refine j_if_eq (tgt := 14) C d_M_needed_4 rfl rz1 (fun c => ?_) (fun c => ?_)
  · have h := h.1 c
    refine j_iconst C d_M_needed_14 ?_
    exact j_ireturn C d_M_needed_15 (zR_of (x := (-1)) rfl) hσ h
  · have h := h.2 c
    refine j_iload_n C d_M_needed_7 2 rfl rfl ?_
    refine j_callS C d_M_needed_8 ml_M_57 ms_M_isPlace (c_M_isPlace (xl X) (gD G) (gad G) (gca G) (v0 := v2) hσ r2 h) rfl rfl rfl rfl rfl (fun z3 σ4 rz3 hσ4 h => ?_)
    obtain ⟨ez3, h⟩ := h; subst ez3
    refine j_if_ne (tgt := 16) C d_M_needed_11 rfl rz3 (fun c => ?_) (fun c => ?_)
    · have h := h.1 c
      refine j_iload_n C d_M_needed_16 3 rfl rfl ?_
      refine j_callS C d_M_needed_17 ml_M_92 ms_M_isTime (c_M_isTime (xl X) (gD G) (gad G) (gca G) (v0 := v3) hσ r3 h) rfl rfl rfl rfl rfl (fun z5 σ6 rz5 hσ6 h => ?_)
      obtain ⟨ez5, h⟩ := h; subst ez5
      refine j_if_ne (tgt := 26) C d_M_needed_20 rfl rz5 (fun c => ?_) (fun c => ?_)
      · have h := h.1 c
        refine j_aload_n C d_M_needed_26 0 rfl rfl ?_
        refine j_iload_n C d_M_needed_27 1 rfl rfl ?_
        refine j_iload_n C d_M_needed_28 2 rfl rfl ?_
        refine j_iload_n C d_M_needed_29 3 rfl rfl ?_
        refine j_callV C d_M_needed_30 ml_M_145 mi_M_earliestOf (c_M_earliestOf (xl X) (gD G) (gad G) (gca G) (v1 := v1) (v2 := v2) (v3 := v3) hσ r1 r2 r3 h) sh_79 rfl rfl rfl rfl rfl rfl rfl (fun z7 σ8 rz7 hσ8 h => ?_)
        refine j_istore (L' := [(4, .int (zI z7)), (0, .ref (gad G 79)), (1, .int (zI v1)), (2, .int (zI v2)), (3, .int (zI v3))]) C d_M_needed_33 rfl rfl ?_
        refine j_iconst C d_M_needed_35 ?_
        refine j_istore (L' := [(5, .int (zI 0)), (4, .int (zI z7)), (0, .ref (gad G 79)), (1, .int (zI v1)), (2, .int (zI v2)), (3, .int (zI v3))]) C d_M_needed_36 rfl rfl ?_
        refine j_iconst C d_M_needed_38 ?_
        refine j_istore (L' := [(6, .int (zI 0)), (5, .int (zI 0)), (4, .int (zI z7)), (0, .ref (gad G 79)), (1, .int (zI v1)), (2, .int (zI v2)), (3, .int (zI v3))]) C d_M_needed_39 rfl rfl ?_
        obtain ⟨n14, h⟩ := h
        refine j_sub (L' := [(0, .ref (gad G 79)), (1, .int (zI v1)), (2, .int (zI v2)), (3, .int (zI v3)), (4, .int (zI z7)), (5, .int (zI 0)), (6, .int (zI 0))]) [3, 4, 5, 6, 2, 1, 0] rfl ?_
        refine w_M_needed_L41 C r1 r2 r3 rz7 n14 σ8 0 0 hσ8 (zR_of (x := 0) rfl) (zR_of (x := 0) rfl) h
      · have h := h.2 c
        refine j_bipush C d_M_needed_23 rfl ?_
        exact j_ireturn C d_M_needed_25 (zR_of (x := (-2)) rfl) hσ h
    · have h := h.2 c
      refine j_iconst C d_M_needed_14 ?_
      exact j_ireturn C d_M_needed_15 (zR_of (x := (-1)) rfl) hσ h
set_option maxRecDepth 100000 in
set_option maxHeartbeats 4000000 in
theorem c_M_spreadsFrom (l : Launch) (D : va_G) (ad : Nat → Nat) (ca : Nat → ClassId) {σ : zM} {v1 : Int} {Q : zM → Prop} (hσ : zRM σ) (r1 : zR v1) (h : wp_M_spreadsFrom σ v1 Q) : zCv l D ad ca y_M_spreadsFrom b_M_spreadsFrom 2 (zrm 4 97) [.ref (ad 79), .int (zI v1)] σ Q := by
  refine zCv_of (by decide +kernel) (Nat.le_of_ble_eq_true rfl) ?_
  intro X G C hl hD had hca
  subst hl hD had hca
  have C : zC X G b_M_spreadsFrom "GateRoadsModel" 2 (none) 4 97 := C
  show zJ X G (zQv X G Q) 2 0 [(0, .ref (gad G 79)), (1, .int (zI v1))] [] σ
  unfold wp_M_spreadsFrom at h
  refine j_aload_n C d_M_spreadsFrom_0 0 rfl rfl ?_
  refine j_aload_n C d_M_spreadsFrom_1 0 rfl rfl ?_
  refine j_iload_n C d_M_spreadsFrom_2 1 rfl rfl ?_
  refine j_iconst C d_M_spreadsFrom_3 ?_
  refine j_callV C d_M_spreadsFrom_4 ml_M_104 mi_M_ofT (c_M_ofT (xl X) (gD G) (gad G) (gca G) (v1 := v1) (v2 := 0) hσ r1 (zR_of (x := 0) rfl) h) sh_79 rfl rfl rfl rfl rfl rfl rfl (fun z1 σ2 rz1 hσ2 h => ?_)
  obtain ⟨ez1, h⟩ := h; subst ez1
  refine j_aload_n C d_M_spreadsFrom_7 0 rfl rfl ?_
  refine j_iload_n C d_M_spreadsFrom_8 1 rfl rfl ?_
  refine j_iconst C d_M_spreadsFrom_9 ?_
  refine j_callV C d_M_spreadsFrom_10 ml_M_104 mi_M_ofT (c_M_ofT (xl X) (gD G) (gad G) (gca G) (v1 := v1) (v2 := 1) hσ r1 (zR_of (x := 1) rfl) h) sh_79 rfl rfl rfl rfl rfl rfl rfl (fun z3 σ4 rz3 hσ4 h => ?_)
  obtain ⟨ez3, h⟩ := h; subst ez3
  refine j_aload_n C d_M_spreadsFrom_13 0 rfl rfl ?_
  refine j_iload_n C d_M_spreadsFrom_14 1 rfl rfl ?_
  refine j_iconst C d_M_spreadsFrom_15 ?_
  refine j_callV C d_M_spreadsFrom_16 ml_M_104 mi_M_ofT (c_M_ofT (xl X) (gD G) (gad G) (gca G) (v1 := v1) (v2 := 2) hσ r1 (zR_of (x := 2) rfl) h) sh_79 rfl rfl rfl rfl rfl rfl rfl (fun z5 σ6 rz5 hσ6 h => ?_)
  obtain ⟨ez5, h⟩ := h; subst ez5
  refine j_bipush C d_M_spreadsFrom_19 rfl ?_
  refine j_callVv C d_M_spreadsFrom_21 ml_M_138 mi_M_spreads (c_M_spreads (xl X) (gD G) (gad G) (gca G) (v1 := z1) (v2 := z3) (v3 := z5) (v4 := (-6)) hσ rz1 rz3 rz5 (zR_of (x := (-6)) rfl) h) sh_79 rfl rfl rfl rfl rfl rfl rfl (fun σ8 hσ8 h => ?_)
  exact j_vreturn C d_M_spreadsFrom_24 hσ8 h
set_option maxRecDepth 100000 in
set_option maxHeartbeats 4000000 in
theorem w_M_meet_L38 {X : zX} {G : zG} (C : zC X G b_M_meet "GateRoadsModel" 6 (some .int) 5 118) {v1 : Int} {v3 : Int} (r1 : zR v1) (r3 : zR v3) {Q : Int → zM → Prop} {k66 : zM → Prop} (hk66 : ∀ (σ : zM), zRM σ → k66 σ → zJ X G (zQi X G Q) 6 66 [(0, .ref (gad G 79)), (1, .int (zI v1)), (3, .int (zI v3))] [] σ) : ∀ (n : Nat) (σ : zM) (v4 : Int) (hσ : zRM σ) (r4 : zR v4), wp_M_meet_L38 v1 v3 k66 Q n σ v4 → zJ X G (zQi X G Q) 6 38 [(0, .ref (gad G 79)), (1, .int (zI v1)), (3, .int (zI v3)), (4, .int (zI v4))] [] σ := by
  intro n
  induction n with
  | zero => intro σ v4 hσ r4 h; exact False.elim h
  | succ n ih =>
    intro σ v4 hσ r4 h
    rw [wp_M_meet_L38] at h
    refine j_iload C d_M_meet_38 3 rfl ?_
    refine j_sipush C d_M_meet_40 rfl ?_
    refine j_icmp_gt (tgt := 66) C d_M_meet_43 rfl r4 (zR_of (x := 2880) rfl) (fun c => ?_) (fun c => ?_)
    · have h := h.1 c
      refine j_sub (L' := [(0, .ref (gad G 79)), (1, .int (zI v1)), (3, .int (zI v3))]) [0, 1, 2] rfl ?_
      exact hk66 σ hσ h
    · have h := h.2 c
      refine j_aload_n C d_M_meet_46 0 rfl rfl ?_
      refine j_getr (kf := 10) (m := 87) C d_M_meet_47 sh_79 rfl i_M rfl rfl fl_M_31 ?_
      refine j_iload C d_M_meet_50 3 rfl ?_
      refine j_aload_n C d_M_meet_52 0 rfl rfl ?_
      refine j_getr (kf := 9) (m := 86) C d_M_meet_53 sh_79 rfl i_M rfl rfl fl_M_28 ?_
      refine j_iload C d_M_meet_56 3 rfl ?_
      obtain ⟨g9, h⟩ := h
      refine j_iaload C d_M_meet_58 sh_86 g9 ?_
      obtain ⟨g10, h⟩ := h
      refine j_iastore C d_M_meet_59 sh_87 g10 ?_
      refine j_mem (fun σ11 eσ11 => ?_)
      have h := h σ11 eσ11
      have hσ11 : zRM σ11 := by rw [eσ11]; exact zU_rg hσ _ _ (hσ _ _)
      obtain ⟨g12, h⟩ := h
      refine j_iinc (L' := [(4, .int (zI (v4 + 1))), (0, .ref (gad G 79)), (1, .int (zI v1)), (3, .int (zI v3))]) C d_M_meet_60 3 rfl rfl rfl ?_
      refine j_goto (tgt := 38) C d_M_meet_63 rfl ?_
      refine j_sub (L' := [(0, .ref (gad G 79)), (1, .int (zI v1)), (3, .int (zI v3)), (4, .int (zI (v4 + 1)))]) [1, 2, 3, 0] rfl ?_
      exact ih σ11 (v4 + 1) hσ11 g12 h
set_option maxRecDepth 100000 in
set_option maxHeartbeats 4000000 in
theorem w_M_meet_L85 {X : zX} {G : zG} (C : zC X G b_M_meet "GateRoadsModel" 6 (some .int) 5 118) {σ : zM} {v3 : Int} {v4 : Int} (hσ : zRM σ) (r3 : zR v3) (r4 : zR v4) {Q : Int → zM → Prop} {k133 : Prop} (hk133 : k133 → zJ X G (zQi X G Q) 6 133 [(0, .ref (gad G 79)), (3, .int (zI v3)), (4, .int (zI v4))] [] σ) : ∀ (n : Nat) (v5 : Int) (r5 : zR v5), wp_M_meet_L85 σ v3 v4 k133 Q n v5 → zJ X G (zQi X G Q) 6 85 [(0, .ref (gad G 79)), (3, .int (zI v3)), (4, .int (zI v4)), (5, .int (zI v5))] [] σ := by
  intro n
  induction n with
  | zero => intro v5 r5 h; exact False.elim h
  | succ n ih =>
    intro v5 r5 h
    rw [wp_M_meet_L85] at h
    refine j_iload C d_M_meet_85 3 rfl ?_
    refine j_bipush C d_M_meet_87 rfl ?_
    refine j_icmp_ge (tgt := 133) C d_M_meet_89 rfl r5 (zR_of (x := 8) rfl) (fun c => ?_) (fun c => ?_)
    · have h := h.1 c
      refine j_sub (L' := [(0, .ref (gad G 79)), (3, .int (zI v3)), (4, .int (zI v4))]) [0, 1, 2] rfl ?_
      exact hk133 h
    · have h := h.2 c
      refine j_aload_n C d_M_meet_92 0 rfl rfl ?_
      refine j_getr (kf := 9) (m := 86) C d_M_meet_93 sh_79 rfl i_M rfl rfl fl_M_28 ?_
      refine j_iload C d_M_meet_96 2 rfl ?_
      obtain ⟨g16, h⟩ := h
      refine j_iaload C d_M_meet_98 sh_86 g16 ?_
      refine j_aload_n C d_M_meet_99 0 rfl rfl ?_
      refine j_getr (kf := 10) (m := 87) C d_M_meet_100 sh_79 rfl i_M rfl rfl fl_M_31 ?_
      refine j_iload C d_M_meet_103 2 rfl ?_
      obtain ⟨g17, h⟩ := h
      refine j_iaload C d_M_meet_105 sh_87 g17 ?_
      refine j_iand C d_M_meet_106 ?_
      refine j_iload C d_M_meet_107 3 rfl ?_
      refine j_callS C d_M_meet_109 ml_M_135 ms_M_has (c_M_has (xl X) (gD G) (gad G) (gca G) (v0 := zAnd (σ 86 v4) (σ 87 v4)) (v1 := v5) hσ (zAnd_rg _ _) r5 h) rfl rfl rfl rfl rfl (fun z18 σ19 rz18 hσ19 h => ?_)
      obtain ⟨ez18, h⟩ := h; subst ez18
      refine j_if_eq (tgt := 127) C d_M_meet_112 rfl rz18 (fun c => ?_) (fun c => ?_)
      · have h := h.1 c
        obtain ⟨g20, h⟩ := h
        refine j_iinc (L' := [(5, .int (zI (v5 + 1))), (0, .ref (gad G 79)), (3, .int (zI v3)), (4, .int (zI v4))]) C d_M_meet_127 3 rfl rfl rfl ?_
        refine j_goto (tgt := 85) C d_M_meet_130 rfl ?_
        refine j_sub (L' := [(0, .ref (gad G 79)), (3, .int (zI v3)), (4, .int (zI v4)), (5, .int (zI (v5 + 1)))]) [1, 2, 3, 0] rfl ?_
        exact ih (v5 + 1) g20 h
      · have h := h.2 c
        refine j_iload_n C d_M_meet_115 1 rfl rfl ?_
        refine j_if_ne (tgt := 124) C d_M_meet_116 rfl r3 (fun c => ?_) (fun c => ?_)
        · have h := h.1 c
          refine j_iload C d_M_meet_124 3 rfl ?_
          exact j_ireturn C d_M_meet_126 r5 hσ h
        · have h := h.2 c
          refine j_iload C d_M_meet_119 2 rfl ?_
          refine j_goto (tgt := 126) C d_M_meet_121 rfl ?_
          exact j_ireturn C d_M_meet_126 r4 hσ h
set_option maxRecDepth 100000 in
set_option maxHeartbeats 4000000 in
theorem w_M_meet_L74 {X : zX} {G : zG} (C : zC X G b_M_meet "GateRoadsModel" 6 (some .int) 5 118) {σ : zM} {v3 : Int} (hσ : zRM σ) (r3 : zR v3) {Q : Int → zM → Prop} : ∀ (n : Nat) (v4 : Int) (r4 : zR v4), wp_M_meet_L74 σ v3 Q n v4 → zJ X G (zQi X G Q) 6 74 [(0, .ref (gad G 79)), (3, .int (zI v3)), (4, .int (zI v4))] [] σ := by
  intro n
  induction n with
  | zero => intro v4 r4 h; exact False.elim h
  | succ n ih =>
    intro v4 r4 h
    rw [wp_M_meet_L74] at h
    refine j_iload C d_M_meet_74 2 rfl ?_
    refine j_sipush C d_M_meet_76 rfl ?_
    refine j_icmp_gt (tgt := 139) C d_M_meet_79 rfl r4 (zR_of (x := 2880) rfl) (fun c => ?_) (fun c => ?_)
    · have h := h.1 c
      refine j_bipush C d_M_meet_139 rfl ?_
      exact j_ireturn C d_M_meet_141 (zR_of (x := (-6)) rfl) hσ h
    · have h := h.2 c
      refine j_iconst C d_M_meet_82 ?_
      refine j_istore (L' := [(5, .int (zI 0)), (0, .ref (gad G 79)), (3, .int (zI v3)), (4, .int (zI v4))]) C d_M_meet_83 rfl rfl ?_
      obtain ⟨n22, h⟩ := h
      refine j_sub (L' := [(0, .ref (gad G 79)), (3, .int (zI v3)), (4, .int (zI v4)), (5, .int (zI 0))]) [1, 2, 3, 0] rfl ?_
      refine w_M_meet_L85 C hσ r3 r4 ?_ n22 0 (zR_of (x := 0) rfl) h
      · intro h
        obtain ⟨g21, h⟩ := h
        refine j_iinc (L' := [(4, .int (zI (v4 + 1))), (0, .ref (gad G 79)), (3, .int (zI v3))]) C d_M_meet_133 2 rfl rfl rfl ?_
        refine j_goto (tgt := 74) C d_M_meet_136 rfl ?_
        refine j_sub (L' := [(0, .ref (gad G 79)), (3, .int (zI v3)), (4, .int (zI (v4 + 1)))]) [1, 2, 0] rfl ?_
        exact ih (v4 + 1) g21 h
set_option maxRecDepth 100000 in
set_option maxHeartbeats 4000000 in
theorem c_M_meet (l : Launch) (D : va_G) (ad : Nat → Nat) (ca : Nat → ClassId) {σ : zM} {v1 : Int} {v2 : Int} {v3 : Int} {Q : Int → zM → Prop} (hσ : zRM σ) (r1 : zR v1) (r2 : zR v2) (r3 : zR v3) (h : wp_M_meet σ v1 v2 v3 Q) : zCi l D ad ca y_M_meet b_M_meet 6 (some .int) (zrm 5 118) [.ref (ad 79), .int (zI v1), .int (zI v2), .int (zI v3)] σ Q := by
  refine zCi_of (by decide +kernel) (Nat.le_of_ble_eq_true rfl) ?_
  intro X G C hl hD had hca
  subst hl hD had hca
  have C : zC X G b_M_meet "GateRoadsModel" 6 (some .int) 5 118 := C
  show zJ X G (zQi X G Q) 6 0 [(0, .ref (gad G 79)), (1, .int (zI v1)), (2, .int (zI v2)), (3, .int (zI v3))] [] σ
  unfold wp_M_meet at h
  refine j_aload_n C d_M_meet_0 0 rfl rfl ?_
  refine j_iload_n C d_M_meet_1 1 rfl rfl ?_
  refine j_callV C d_M_meet_2 ml_M_101 mi_M_isTraveller (c_M_isTraveller (xl X) (gD G) (gad G) (gca G) (v1 := v1) hσ r1 h) sh_79 rfl rfl rfl rfl rfl rfl rfl (fun z1 σ2 rz1 hσ2 h => ?_)
  obtain ⟨ez1, h⟩ := h; subst ez1
  refine j_if_eq (tgt := 16) C d_M_meet_5 rfl rz1 (fun c => ?_) (fun c => ?_)
  · have h := h.1 c
    refine j_iconst C d_M_meet_16 ?_
    exact j_ireturn C d_M_meet_17 (zR_of (x := (-1)) rfl) hσ h
  · have h := h.2 c
    refine j_aload_n C d_M_meet_8 0 rfl rfl ?_
    refine j_iload_n C d_M_meet_9 2 rfl rfl ?_
    refine j_callV C d_M_meet_10 ml_M_101 mi_M_isTraveller (c_M_isTraveller (xl X) (gD G) (gad G) (gca G) (v1 := v2) hσ r2 h) sh_79 rfl rfl rfl rfl rfl rfl rfl (fun z3 σ4 rz3 hσ4 h => ?_)
    obtain ⟨ez3, h⟩ := h; subst ez3
    refine j_if_ne (tgt := 18) C d_M_meet_13 rfl rz3 (fun c => ?_) (fun c => ?_)
    · have h := h.1 c
      refine j_iload_n C d_M_meet_18 3 rfl rfl ?_
      refine j_iconst C d_M_meet_19 ?_
      refine j_iconst C d_M_meet_20 ?_
      refine j_callS C d_M_meet_21 ml_M_46 ms_M_isIn (c_M_isIn (xl X) (gD G) (gad G) (gca G) (v0 := v3) (v1 := 0) (v2 := 1) hσ r3 (zR_of (x := 0) rfl) (zR_of (x := 1) rfl) h) rfl rfl rfl rfl rfl (fun z5 σ6 rz5 hσ6 h => ?_)
      obtain ⟨ez5, h⟩ := h; subst ez5
      refine j_if_ne (tgt := 30) C d_M_meet_24 rfl rz5 (fun c => ?_) (fun c => ?_)
      · have h := h.1 c
        refine j_aload_n C d_M_meet_30 0 rfl rfl ?_
        refine j_iload_n C d_M_meet_31 2 rfl rfl ?_
        refine j_callVv C d_M_meet_32 ml_M_167 mi_M_spreadsFrom (c_M_spreadsFrom (xl X) (gD G) (gad G) (gca G) (v1 := v2) hσ r2 h) sh_79 rfl rfl rfl rfl rfl rfl rfl (fun σ8 hσ8 h => ?_)
        refine j_iconst C d_M_meet_35 ?_
        refine j_istore (L' := [(4, .int (zI 0)), (0, .ref (gad G 79)), (1, .int (zI v1)), (2, .int (zI v2)), (3, .int (zI v3))]) C d_M_meet_36 rfl rfl ?_
        obtain ⟨n24, h⟩ := h
        refine j_sub (L' := [(0, .ref (gad G 79)), (1, .int (zI v1)), (3, .int (zI v3)), (4, .int (zI 0))]) [1, 2, 4, 0] rfl ?_
        refine w_M_meet_L38 C r1 r3 ?_ n24 σ8 0 hσ8 (zR_of (x := 0) rfl) h
        · intro σ13 hσ13 h
          refine j_aload_n C d_M_meet_66 0 rfl rfl ?_
          refine j_iload_n C d_M_meet_67 1 rfl rfl ?_
          refine j_callVv C d_M_meet_68 ml_M_167 mi_M_spreadsFrom (c_M_spreadsFrom (xl X) (gD G) (gad G) (gca G) (v1 := v1) hσ13 r1 h) sh_79 rfl rfl rfl rfl rfl rfl rfl (fun σ15 hσ15 h => ?_)
          refine j_iconst C d_M_meet_71 ?_
          refine j_istore (L' := [(4, .int (zI 0)), (0, .ref (gad G 79)), (1, .int (zI v1)), (3, .int (zI v3))]) C d_M_meet_72 rfl rfl ?_
          obtain ⟨n23, h⟩ := h
          refine j_sub (L' := [(0, .ref (gad G 79)), (3, .int (zI v3)), (4, .int (zI 0))]) [1, 3, 0] rfl ?_
          refine w_M_meet_L74 C hσ15 r3 n23 0 (zR_of (x := 0) rfl) h
      · have h := h.2 c
        refine j_bipush C d_M_meet_27 rfl ?_
        exact j_ireturn C d_M_meet_29 (zR_of (x := (-2)) rfl) hσ h
    · have h := h.2 c
      refine j_iconst C d_M_meet_16 ?_
      exact j_ireturn C d_M_meet_17 (zR_of (x := (-1)) rfl) hσ h
set_option maxRecDepth 100000 in
set_option maxHeartbeats 4000000 in
theorem c_M_arrives (l : Launch) (D : va_G) (ad : Nat → Nat) (ca : Nat → ClassId) {σ : zM} {v1 : Int} {v2 : Int} {Q : Int → zM → Prop} (hσ : zRM σ) (r1 : zR v1) (r2 : zR v2) (h : wp_M_arrives σ v1 v2 Q) : zCi l D ad ca y_M_arrives b_M_arrives 3 (some .int) (zrm 5 118) [.ref (ad 79), .int (zI v1), .int (zI v2)] σ Q := by
  refine zCi_of (by decide +kernel) (Nat.le_of_ble_eq_true rfl) ?_
  intro X G C hl hD had hca
  subst hl hD had hca
  have C : zC X G b_M_arrives "GateRoadsModel" 3 (some .int) 5 118 := C
  show zJ X G (zQi X G Q) 3 0 [(0, .ref (gad G 79)), (1, .int (zI v1)), (2, .int (zI v2))] [] σ
  unfold wp_M_arrives at h
  refine j_aload_n C d_M_arrives_0 0 rfl rfl ?_
  refine j_iload_n C d_M_arrives_1 1 rfl rfl ?_
  refine j_callV C d_M_arrives_2 ml_M_101 mi_M_isTraveller (c_M_isTraveller (xl X) (gD G) (gad G) (gca G) (v1 := v1) hσ r1 h) sh_79 rfl rfl rfl rfl rfl rfl rfl (fun z1 σ2 rz1 hσ2 h => ?_)
  obtain ⟨ez1, h⟩ := h; subst ez1
  refine j_if_eq (tgt := 15) C d_M_arrives_5 rfl rz1 (fun c => ?_) (fun c => ?_)
  · have h := h.1 c
    refine j_iconst C d_M_arrives_15 ?_
    exact j_ireturn C d_M_arrives_16 (zR_of (x := (-1)) rfl) hσ h
  · have h := h.2 c
    refine j_iload_n C d_M_arrives_8 2 rfl rfl ?_
    refine j_callS C d_M_arrives_9 ml_M_57 ms_M_isPlace (c_M_isPlace (xl X) (gD G) (gad G) (gca G) (v0 := v2) hσ r2 h) rfl rfl rfl rfl rfl (fun z3 σ4 rz3 hσ4 h => ?_)
    obtain ⟨ez3, h⟩ := h; subst ez3
    refine j_if_ne (tgt := 17) C d_M_arrives_12 rfl rz3 (fun c => ?_) (fun c => ?_)
    · have h := h.1 c
      refine j_aload_n C d_M_arrives_17 0 rfl rfl ?_
      refine j_iload_n C d_M_arrives_18 1 rfl rfl ?_
      refine j_iconst C d_M_arrives_19 ?_
      refine j_callV C d_M_arrives_20 ml_M_104 mi_M_ofT (c_M_ofT (xl X) (gD G) (gad G) (gca G) (v1 := v1) (v2 := 0) hσ r1 (zR_of (x := 0) rfl) h) sh_79 rfl rfl rfl rfl rfl rfl rfl (fun z5 σ6 rz5 hσ6 h => ?_)
      obtain ⟨ez5, h⟩ := h; subst ez5
      refine j_iload_n C d_M_arrives_23 2 rfl rfl ?_
      refine j_icmp_ne (tgt := 34) C d_M_arrives_24 rfl rz5 r2 (fun c => ?_) (fun c => ?_)
      · have h := h.1 c
        refine j_aload_n C d_M_arrives_34 0 rfl rfl ?_
        refine j_iload_n C d_M_arrives_35 1 rfl rfl ?_
        refine j_callVv C d_M_arrives_36 ml_M_167 mi_M_spreadsFrom (c_M_spreadsFrom (xl X) (gD G) (gad G) (gca G) (v1 := v1) hσ r1 h) sh_79 rfl rfl rfl rfl rfl rfl rfl (fun σ8 hσ8 h => ?_)
        refine j_aload_n C d_M_arrives_39 0 rfl rfl ?_
        refine j_iload_n C d_M_arrives_40 2 rfl rfl ?_
        refine j_callV C d_M_arrives_41 ml_M_142 mi_M_firstAt (c_M_firstAt (xl X) (gD G) (gad G) (gca G) (v1 := v2) hσ8 r2 h) sh_79 rfl rfl rfl rfl rfl rfl rfl (fun z9 σ10 rz9 hσ10 h => ?_)
        obtain ⟨ez9, h⟩ := h; subst ez9
        exact j_ireturn C d_M_arrives_44 rz9 hσ8 h
      · have h := h.2 c
        refine j_aload_n C d_M_arrives_27 0 rfl rfl ?_
        refine j_iload_n C d_M_arrives_28 1 rfl rfl ?_
        refine j_iconst C d_M_arrives_29 ?_
        refine j_callV C d_M_arrives_30 ml_M_104 mi_M_ofT (c_M_ofT (xl X) (gD G) (gad G) (gca G) (v1 := v1) (v2 := 1) hσ r1 (zR_of (x := 1) rfl) h) sh_79 rfl rfl rfl rfl rfl rfl rfl (fun z11 σ12 rz11 hσ12 h => ?_)
        obtain ⟨ez11, h⟩ := h; subst ez11
        exact j_ireturn C d_M_arrives_33 rz11 hσ h
    · have h := h.2 c
      refine j_iconst C d_M_arrives_15 ?_
      exact j_ireturn C d_M_arrives_16 (zR_of (x := (-1)) rfl) hσ h
set_option maxRecDepth 100000 in
set_option maxHeartbeats 4000000 in
theorem w_M_canStay_L27 {X : zX} {G : zG} (C : zC X G b_M_canStay "GateRoadsModel" 5 (some .int) 2 43) {σ : zM} {v1 : Int} {v2 : Int} {v3 : Int} (hσ : zRM σ) (r1 : zR v1) (r2 : zR v2) (r3 : zR v3) {Q : Int → Prop} : ∀ (n : Nat) (v4 : Int) (r4 : zR v4), wp_M_canStay_L27 σ v1 v2 v3 Q n v4 → zJ X G (zQi X G (fun z u => σ = u ∧ Q z)) 5 27 [(0, .ref (gad G 79)), (1, .int (zI v1)), (2, .int (zI v2)), (3, .int (zI v3)), (4, .int (zI v4))] [] σ := by
  intro n
  induction n with
  | zero => intro v4 r4 h; exact False.elim h
  | succ n ih =>
    intro v4 r4 h
    rw [wp_M_canStay_L27] at h
    refine j_iload_n C d_M_canStay_27 3 rfl rfl ?_
    refine j_iload C d_M_canStay_28 4 rfl ?_
    refine j_iadd C d_M_canStay_30 ?_
    refine j_sipush C d_M_canStay_31 rfl ?_
    obtain ⟨g7, h⟩ := h
    refine j_icmp_ge (tgt := 76) C d_M_canStay_34 rfl g7 (zR_of (x := 2880) rfl) (fun c => ?_) (fun c => ?_)
    · have h := h.1 c
      refine j_iload C d_M_canStay_76 4 rfl ?_
      exact j_ireturn C d_M_canStay_78 r4 hσ ⟨rfl, h⟩
    · have h := h.2 c
      refine j_aload_n C d_M_canStay_37 0 rfl rfl ?_
      refine j_iload_n C d_M_canStay_38 2 rfl rfl ?_
      refine j_iload_n C d_M_canStay_39 3 rfl rfl ?_
      refine j_iload C d_M_canStay_40 4 rfl ?_
      refine j_iadd C d_M_canStay_42 ?_
      obtain ⟨g8, h⟩ := h
      refine j_callV C d_M_canStay_43 ml_M_117 mi_M_isRoomOpen (c_M_isRoomOpen (xl X) (gD G) (gad G) (gca G) (v1 := v2) (v2 := v3 + v4) hσ r2 g8 h) sh_79 rfl rfl rfl rfl rfl rfl rfl (fun z9 σ10 rz9 hσ10 h => ?_)
      obtain ⟨ez9, h⟩ := h; subst ez9
      refine j_if_eq (tgt := 76) C d_M_canStay_46 rfl rz9 (fun c => ?_) (fun c => ?_)
      · have h := h.1 c
        refine j_iload C d_M_canStay_76 4 rfl ?_
        exact j_ireturn C d_M_canStay_78 r4 hσ ⟨rfl, h⟩
      · have h := h.2 c
        refine j_iload_n C d_M_canStay_49 3 rfl rfl ?_
        refine j_iload C d_M_canStay_50 4 rfl ?_
        refine j_iadd C d_M_canStay_52 ?_
        refine j_iconst C d_M_canStay_53 ?_
        refine j_iadd C d_M_canStay_54 ?_
        refine j_aload_n C d_M_canStay_55 0 rfl rfl ?_
        refine j_iload_n C d_M_canStay_56 1 rfl rfl ?_
        refine j_iconst C d_M_canStay_57 ?_
        refine j_callV C d_M_canStay_58 ml_M_104 mi_M_ofT (c_M_ofT (xl X) (gD G) (gad G) (gca G) (v1 := v1) (v2 := 2) hσ r1 (zR_of (x := 2) rfl) h) sh_79 rfl rfl rfl rfl rfl rfl rfl (fun z11 σ12 rz11 hσ12 h => ?_)
        obtain ⟨ez11, h⟩ := h; subst ez11
        refine j_isub C d_M_canStay_61 ?_
        refine j_aload_n C d_M_canStay_62 0 rfl rfl ?_
        refine j_iload_n C d_M_canStay_63 2 rfl rfl ?_
        refine j_callV C d_M_canStay_64 ml_M_120 mi_M_limitOf (c_M_limitOf (xl X) (gD G) (gad G) (gca G) (v1 := v2) hσ r2 h) sh_79 rfl rfl rfl rfl rfl rfl rfl (fun z13 σ14 rz13 hσ14 h => ?_)
        obtain ⟨ez13, h⟩ := h; subst ez13
        obtain ⟨g15, h⟩ := h
        refine j_icmp_gt (tgt := 76) C d_M_canStay_67 rfl g15 rz13 (fun c => ?_) (fun c => ?_)
        · have h := h.1 c
          refine j_iload C d_M_canStay_76 4 rfl ?_
          exact j_ireturn C d_M_canStay_78 r4 hσ ⟨rfl, h⟩
        · have h := h.2 c
          obtain ⟨g16, h⟩ := h
          refine j_iinc (L' := [(4, .int (zI (v4 + 1))), (0, .ref (gad G 79)), (1, .int (zI v1)), (2, .int (zI v2)), (3, .int (zI v3))]) C d_M_canStay_70 4 rfl rfl rfl ?_
          refine j_goto (tgt := 27) C d_M_canStay_73 rfl ?_
          refine j_sub (L' := [(0, .ref (gad G 79)), (1, .int (zI v1)), (2, .int (zI v2)), (3, .int (zI v3)), (4, .int (zI (v4 + 1)))]) [1, 2, 3, 4, 0] rfl ?_
          exact ih (v4 + 1) g16 h
set_option maxRecDepth 100000 in
set_option maxHeartbeats 4000000 in
theorem c_M_canStay (l : Launch) (D : va_G) (ad : Nat → Nat) (ca : Nat → ClassId) {σ : zM} {v1 : Int} {Q : Int → Prop} (hσ : zRM σ) (r1 : zR v1) (h : wp_M_canStay σ v1 Q) : zCi l D ad ca y_M_canStay b_M_canStay 5 (some .int) (zrm 2 43) [.ref (ad 79), .int (zI v1)] σ (fun z u => σ = u ∧ Q z) := by
  refine zCi_of (by decide +kernel) (Nat.le_of_ble_eq_true rfl) ?_
  intro X G C hl hD had hca
  subst hl hD had hca
  have C : zC X G b_M_canStay "GateRoadsModel" 5 (some .int) 2 43 := C
  show zJ X G (zQi X G (fun z u => σ = u ∧ Q z)) 5 0 [(0, .ref (gad G 79)), (1, .int (zI v1))] [] σ
  unfold wp_M_canStay at h
  refine j_aload_n C d_M_canStay_0 0 rfl rfl ?_
  refine j_iload_n C d_M_canStay_1 1 rfl rfl ?_
  refine j_callV C d_M_canStay_2 ml_M_101 mi_M_isTraveller (c_M_isTraveller (xl X) (gD G) (gad G) (gca G) (v1 := v1) hσ r1 h) sh_79 rfl rfl rfl rfl rfl rfl rfl (fun z1 σ2 rz1 hσ2 h => ?_)
  obtain ⟨ez1, h⟩ := h; subst ez1
  refine j_if_ne (tgt := 10) C d_M_canStay_5 rfl rz1 (fun c => ?_) (fun c => ?_)
  · have h := h.1 c
    refine j_aload_n C d_M_canStay_10 0 rfl rfl ?_
    refine j_iload_n C d_M_canStay_11 1 rfl rfl ?_
    refine j_iconst C d_M_canStay_12 ?_
    refine j_callV C d_M_canStay_13 ml_M_104 mi_M_ofT (c_M_ofT (xl X) (gD G) (gad G) (gca G) (v1 := v1) (v2 := 0) hσ r1 (zR_of (x := 0) rfl) h) sh_79 rfl rfl rfl rfl rfl rfl rfl (fun z3 σ4 rz3 hσ4 h => ?_)
    obtain ⟨ez3, h⟩ := h; subst ez3
    refine j_istore_n (L' := [(2, .int (zI z3)), (0, .ref (gad G 79)), (1, .int (zI v1))]) C d_M_canStay_16 rfl rfl rfl ?_
    refine j_aload_n C d_M_canStay_17 1 rfl rfl ?_
    refine j_iload_n C d_M_canStay_18 2 rfl rfl ?_
    refine j_iconst C d_M_canStay_19 ?_
    refine j_callV C d_M_canStay_20 ml_M_104 mi_M_ofT (c_M_ofT (xl X) (gD G) (gad G) (gca G) (v1 := v1) (v2 := 1) hσ r1 (zR_of (x := 1) rfl) h) sh_79 rfl rfl rfl rfl rfl rfl rfl (fun z5 σ6 rz5 hσ6 h => ?_)
    obtain ⟨ez5, h⟩ := h; subst ez5
    refine j_istore_n (L' := [(3, .int (zI z5)), (2, .int (zI z3)), (0, .ref (gad G 79)), (1, .int (zI v1))]) C d_M_canStay_23 rfl rfl rfl ?_
    refine j_iconst C d_M_canStay_24 ?_
    refine j_istore (L' := [(4, .int (zI 0)), (3, .int (zI z5)), (2, .int (zI z3)), (0, .ref (gad G 79)), (1, .int (zI v1))]) C d_M_canStay_25 rfl rfl ?_
    obtain ⟨n17, h⟩ := h
    refine j_sub (L' := [(0, .ref (gad G 79)), (1, .int (zI v1)), (2, .int (zI z3)), (3, .int (zI z5)), (4, .int (zI 0))]) [3, 4, 2, 1, 0] rfl ?_
    refine w_M_canStay_L27 C hσ r1 rz3 rz5 n17 0 (zR_of (x := 0) rfl) h
  · have h := h.2 c
    refine j_iconst C d_M_canStay_8 ?_
    exact j_ireturn C d_M_canStay_9 (zR_of (x := (-1)) rfl) hσ ⟨rfl, h⟩
set_option maxRecDepth 100000 in
set_option maxHeartbeats 4000000 in
theorem w_M_put_L2 {X : zX} {G : zG} (C : zC X G b_M_put "GateRoadsModel" 5 (some .int) 1 22) {σ : zM} {v1 : Int64} (hσ : zRM σ) {Q : Int → zM → Prop} {k57 : Int → Prop} (hk57 : ∀ (v3 : Int), zR v3 → k57 v3 → zJ X G (zQi X G Q) 5 57 [(0, .ref (gad G 79)), (1, .long v1), (3, .int (zI v3))] [] σ) : ∀ (n : Nat) (v3 : Int) (r3 : zR v3), wp_M_put_L2 σ v1 k57 Q n v3 → zJ X G (zQi X G Q) 5 2 [(0, .ref (gad G 79)), (1, .long v1), (3, .int (zI v3))] [] σ := by
  intro n
  induction n with
  | zero => intro v3 r3 h; exact False.elim h
  | succ n ih =>
    intro v3 r3 h
    rw [wp_M_put_L2] at h
    refine j_iload_n C d_M_put_2 2 rfl rfl ?_
    refine j_bipush C d_M_put_3 rfl ?_
    refine j_icmp_ge (tgt := 57) C d_M_put_5 rfl r3 (zR_of (x := 8) rfl) (fun c => ?_) (fun c => ?_)
    · have h := h.1 c
      exact hk57 v3 r3 h
    · have h := h.2 c
      refine j_lload_n C d_M_put_8 1 rfl rfl ?_
      refine j_bipush C d_M_put_9 rfl ?_
      refine j_iload_n C d_M_put_11 2 rfl rfl ?_
      refine j_imul C d_M_put_12 ?_
      refine j_lshr C d_M_put_13 ?_
      refine j_ldc2 C cl_M_171 d_M_put_14 ?_
      refine j_land C d_M_put_17 ?_
      refine j_lconst (v := 0) C d_M_put_18 rfl ?_
      refine j_lcmp C d_M_put_19 ?_
      refine j_if_eq (tgt := 57) C d_M_put_20 rfl (zLcmp_rg _ _) (fun c => ?_) (fun c => ?_)
      · have h := h.1 c
        exact hk57 v3 r3 h
      · have h := h.2 c
        refine j_lload_n C d_M_put_23 1 rfl rfl ?_
        refine j_bipush C d_M_put_24 rfl ?_
        refine j_iload_n C d_M_put_26 2 rfl rfl ?_
        refine j_imul C d_M_put_27 ?_
        refine j_lshr C d_M_put_28 ?_
        refine j_ldc2 C cl_M_171 d_M_put_29 ?_
        refine j_land C d_M_put_32 ?_
        refine j_l2i C d_M_put_33 ?_
        refine j_name (fun t1 et1 => ?_)
        have h := h t1 et1
        have rt1 : zR t1 := by rw [et1]; exact (zL2i_rg _)
        refine j_istore (L' := [(4, .int (zI t1)), (0, .ref (gad G 79)), (1, .long v1), (3, .int (zI v3))]) C d_M_put_34 rfl rfl ?_
        refine j_iload C d_M_put_36 0 rfl ?_
        refine j_bipush C d_M_put_38 rfl ?_
        refine j_bipush C d_M_put_40 rfl ?_
        refine j_callS C d_M_put_42 ml_M_46 ms_M_isIn (c_M_isIn (xl X) (gD G) (gad G) (gca G) (v0 := t1) (v1 := 33) (v2 := 126) hσ rt1 (zR_of (x := 33) rfl) (zR_of (x := 126) rfl) h) rfl rfl rfl rfl rfl (fun z2 σ3 rz2 hσ3 h => ?_)
        obtain ⟨ez2, h⟩ := h; subst ez2
        refine j_if_ne (tgt := 51) C d_M_put_45 rfl rz2 (fun c => ?_) (fun c => ?_)
        · have h := h.1 c
          obtain ⟨g4, h⟩ := h
          refine j_iinc (L' := [(3, .int (zI (v3 + 1))), (4, .int (zI t1)), (0, .ref (gad G 79)), (1, .long v1)]) C d_M_put_51 3 rfl rfl rfl ?_
          refine j_goto (tgt := 2) C d_M_put_54 rfl ?_
          refine j_sub (L' := [(0, .ref (gad G 79)), (1, .long v1), (3, .int (zI (v3 + 1)))]) [2, 3, 0] rfl ?_
          exact ih (v3 + 1) g4 h
        · have h := h.2 c
          refine j_bipush C d_M_put_48 rfl ?_
          exact j_ireturn C d_M_put_50 (zR_of (x := (-2)) rfl) hσ h
set_option maxRecDepth 100000 in
set_option maxHeartbeats 4000000 in
theorem w_M_put_L100 {X : zX} {G : zG} (C : zC X G b_M_put "GateRoadsModel" 5 (some .int) 1 22) {v1 : Int64} {Q : Int → zM → Prop} : ∀ (n : Nat) (σ : zM) (v4 : Int) (hσ : zRM σ) (r4 : zR v4), wp_M_put_L100 v1 Q n σ v4 → zJ X G (zQi X G Q) 5 100 [(0, .ref (gad G 79)), (1, .long v1), (4, .int (zI v4))] [] σ := by
  intro n
  induction n with
  | zero => intro σ v4 hσ r4 h; exact False.elim h
  | succ n ih =>
    intro σ v4 hσ r4 h
    rw [wp_M_put_L100] at h
    refine j_iload C d_M_put_100 2 rfl ?_
    refine j_if_lt (tgt := 142) C d_M_put_102 rfl r4 (fun c => ?_) (fun c => ?_)
    · have h := h.1 c
      refine j_aload_n C d_M_put_142 0 rfl rfl ?_
      refine j_geti (kf := 7) (kI := 7) C d_M_put_143 sh_79 rfl i_M rfl rfl rfl fl_M_132 ?_
      exact j_ireturn C d_M_put_146 (hσ _ _) hσ h
    · have h := h.2 c
      refine j_aload_n C d_M_put_105 0 rfl rfl ?_
      refine j_getr (kf := 6) (m := 84) C d_M_put_106 sh_79 rfl i_M rfl rfl fl_M_22 ?_
      refine j_aload_n C d_M_put_109 0 rfl rfl ?_
      refine j_geti (kf := 7) (kI := 7) C d_M_put_110 sh_79 rfl i_M rfl rfl rfl fl_M_132 ?_
      refine j_lload_n C d_M_put_113 1 rfl rfl ?_
      refine j_bipush C d_M_put_114 rfl ?_
      refine j_iload C d_M_put_116 2 rfl ?_
      refine j_imul C d_M_put_118 ?_
      refine j_lshr C d_M_put_119 ?_
      refine j_ldc2 C cl_M_171 d_M_put_120 ?_
      refine j_land C d_M_put_123 ?_
      refine j_l2i C d_M_put_124 ?_
      obtain ⟨g8, h⟩ := h
      refine j_iastore C d_M_put_125 sh_84 g8 ?_
      refine j_mem (fun σ9 eσ9 => ?_)
      have h := h σ9 eσ9
      have hσ9 : zRM σ9 := by rw [eσ9]; exact zU_rg hσ _ _ (zL2i_rg _)
      refine j_aload_n C d_M_put_126 0 rfl rfl ?_
      refine j_dup C d_M_put_127 rfl ?_
      refine j_geti (kf := 7) (kI := 7) C d_M_put_128 sh_79 rfl i_M rfl rfl rfl fl_M_132 ?_
      refine j_iconst C d_M_put_131 ?_
      refine j_iadd C d_M_put_132 ?_
      obtain ⟨g10, h⟩ := h
      refine j_puti (kf := 7) (kI := 7) C t_M d_M_put_133 sh_79 rfl i_M t_M_ok n_M rfl rfl rfl fl_M_132 rfl (Or.inl rfl) ?_
      refine j_mem (fun σ11 eσ11 => ?_)
      have h := h σ11 eσ11
      have hσ11 : zRM σ11 := by rw [eσ11]; exact zU_rg hσ9 _ _ g10
      obtain ⟨g12, h⟩ := h
      refine j_iinc (L' := [(4, .int (zI (v4 + (-1)))), (0, .ref (gad G 79)), (1, .long v1)]) C d_M_put_136 2 rfl rfl rfl ?_
      refine j_goto (tgt := 100) C d_M_put_139 rfl ?_
      refine j_sub (L' := [(0, .ref (gad G 79)), (1, .long v1), (4, .int (zI (v4 + (-1))))]) [1, 2, 0] rfl ?_
      exact ih σ11 (v4 + (-1)) hσ11 g12 h
set_option maxRecDepth 100000 in
set_option maxHeartbeats 4000000 in
theorem w_M_put_b81 {X : zX} {G : zG} (C : zC X G b_M_put "GateRoadsModel" 5 (some .int) 1 22) {Q : Int → zM → Prop} (σ : zM) (v1 : Int64) (v3 : Int) (hσ : zRM σ) (r3 : zR v3) (h : wp_M_put_b81 Q σ v1 v3) : zJ X G (zQi X G Q) 5 81 [(0, .ref (gad G 79)), (1, .long v1), (3, .int (zI v3))] [] σ := by
  unfold wp_M_put_b81 at h
  refine j_aload_n C d_M_put_81 0 rfl rfl ?_
  refine j_geti (kf := 7) (kI := 7) C d_M_put_82 sh_79 rfl i_M rfl rfl rfl fl_M_132 ?_
  refine j_iload_n C d_M_put_85 2 rfl rfl ?_
  refine j_iadd C d_M_put_86 ?_
  refine j_bipush C d_M_put_87 rfl ?_
  obtain ⟨g6, h⟩ := h
  refine j_icmp_le (tgt := 95) C d_M_put_89 rfl g6 (zR_of (x := 80) rfl) (fun c => ?_) (fun c => ?_)
  · have h := h.1 c
    refine j_iload_n C d_M_put_95 2 rfl rfl ?_
    refine j_iconst C d_M_put_96 ?_
    refine j_isub C d_M_put_97 ?_
    obtain ⟨g7, h⟩ := h
    refine j_istore (L' := [(4, .int (zI (v3 - 1))), (0, .ref (gad G 79)), (1, .long v1), (3, .int (zI v3))]) C d_M_put_98 rfl rfl ?_
    obtain ⟨n13, h⟩ := h
    refine j_sub (L' := [(0, .ref (gad G 79)), (1, .long v1), (4, .int (zI (v3 - 1)))]) [1, 2, 0] rfl ?_
    refine w_M_put_L100 C n13 σ (v3 - 1) hσ g7 h
  · have h := h.2 c
    refine j_bipush C d_M_put_92 rfl ?_
    exact j_ireturn C d_M_put_94 (zR_of (x := (-4)) rfl) hσ h
set_option maxRecDepth 100000 in
set_option maxHeartbeats 4000000 in
theorem w_M_put_b57 {X : zX} {G : zG} (C : zC X G b_M_put "GateRoadsModel" 5 (some .int) 1 22) {Q : Int → zM → Prop} (σ : zM) (v1 : Int64) (v3 : Int) (hσ : zRM σ) (r3 : zR v3) (h : wp_M_put_b57 Q σ v1 v3) : zJ X G (zQi X G Q) 5 57 [(0, .ref (gad G 79)), (1, .long v1), (3, .int (zI v3))] [] σ := by
  unfold wp_M_put_b57 at h
  refine j_iload_n C d_M_put_57 2 rfl rfl ?_
  refine j_if_eq (tgt := 78) C d_M_put_58 rfl r3 (fun c => ?_) (fun c => ?_)
  · have h := h.1 c
    refine j_bipush C d_M_put_78 rfl ?_
    exact j_ireturn C d_M_put_80 (zR_of (x := (-2)) rfl) hσ h
  · have h := h.2 c
    refine j_iload_n C d_M_put_61 2 rfl rfl ?_
    refine j_bipush C d_M_put_62 rfl ?_
    refine j_icmp_ge (tgt := 81) C d_M_put_64 rfl r3 (zR_of (x := 8) rfl) (fun c => ?_) (fun c => ?_)
    · have h := h.1 c
      refine w_M_put_b81 C σ v1 v3 hσ r3 h
    · have h := h.2 c
      refine j_lload_n C d_M_put_67 1 rfl rfl ?_
      refine j_bipush C d_M_put_68 rfl ?_
      refine j_iload_n C d_M_put_70 2 rfl rfl ?_
      refine j_imul C d_M_put_71 ?_
      refine j_lshr C d_M_put_72 ?_
      refine j_lconst (v := 0) C d_M_put_73 rfl ?_
      refine j_lcmp C d_M_put_74 ?_
      refine j_if_eq (tgt := 81) C d_M_put_75 rfl (zLcmp_rg _ _) (fun c => ?_) (fun c => ?_)
      · have h := h.1 c
        refine w_M_put_b81 C σ v1 v3 hσ r3 h
      · have h := h.2 c
        refine j_bipush C d_M_put_78 rfl ?_
        exact j_ireturn C d_M_put_80 (zR_of (x := (-2)) rfl) hσ h
set_option maxRecDepth 100000 in
set_option maxHeartbeats 4000000 in
theorem c_M_put (l : Launch) (D : va_G) (ad : Nat → Nat) (ca : Nat → ClassId) {σ : zM} {v1 : Int64} {Q : Int → zM → Prop} (hσ : zRM σ) (h : wp_M_put σ v1 Q) : zCi l D ad ca y_M_put b_M_put 5 (some .int) (zrm 1 22) [.ref (ad 79), .long v1] σ Q := by
  refine zCi_of (by decide +kernel) (Nat.le_of_ble_eq_true rfl) ?_
  intro X G C hl hD had hca
  subst hl hD had hca
  have C : zC X G b_M_put "GateRoadsModel" 5 (some .int) 1 22 := C
  show zJ X G (zQi X G Q) 5 0 [(0, .ref (gad G 79)), (1, .long v1)] [] σ
  unfold wp_M_put at h
  refine j_iconst C d_M_put_0 ?_
  refine j_istore_n (L' := [(3, .int (zI 0)), (0, .ref (gad G 79)), (1, .long v1)]) C d_M_put_1 rfl rfl rfl ?_
  obtain ⟨n14, h⟩ := h
  refine j_sub (L' := [(0, .ref (gad G 79)), (1, .long v1), (3, .int (zI 0))]) [1, 2, 0] rfl ?_
  refine w_M_put_L2 C hσ ?_ n14 0 (zR_of (x := 0) rfl) h
  · intro u5 ru5 h
    refine w_M_put_b57 C σ v1 u5 hσ ru5 h
set_option maxRecDepth 100000 in
set_option maxHeartbeats 4000000 in
theorem c_M_wipe (l : Launch) (D : va_G) (ad : Nat → Nat) (ca : Nat → ClassId) {σ : zM} {Q : Int → zM → Prop} (hσ : zRM σ) (h : wp_M_wipe σ Q) : zCi l D ad ca y_M_wipe b_M_wipe 2 (some .int) (zrm 0 0) [.ref (ad 79)] σ Q := by
  refine zCi_of (by decide +kernel) (Nat.le_of_ble_eq_true rfl) ?_
  intro X G C hl hD had hca
  subst hl hD had hca
  have C : zC X G b_M_wipe "GateRoadsModel" 2 (some .int) 0 0 := C
  show zJ X G (zQi X G Q) 2 0 [(0, .ref (gad G 79))] [] σ
  unfold wp_M_wipe at h
  refine j_aload_n C d_M_wipe_0 0 rfl rfl ?_
  refine j_geti (kf := 7) (kI := 7) C d_M_wipe_1 sh_79 rfl i_M rfl rfl rfl fl_M_132 ?_
  refine j_istore_n (L' := [(1, .int (zI (σ 79 7))), (0, .ref (gad G 79))]) C d_M_wipe_4 rfl rfl rfl ?_
  refine j_aload_n C d_M_wipe_5 1 rfl rfl ?_
  refine j_iconst C d_M_wipe_6 ?_
  refine j_puti (kf := 7) (kI := 7) C t_M d_M_wipe_7 sh_79 rfl i_M t_M_ok n_M rfl rfl rfl fl_M_132 rfl (Or.inl rfl) ?_
  refine j_mem (fun σ1 eσ1 => ?_)
  have h := h σ1 eσ1
  have hσ1 : zRM σ1 := by rw [eσ1]; exact zU_rg hσ _ _ (zR_of (x := 0) rfl)
  refine j_iload_n C d_M_wipe_10 0 rfl rfl ?_
  exact j_ireturn C d_M_wipe_11 (hσ _ _) hσ1 h
set_option maxRecDepth 100000 in
set_option maxHeartbeats 4000000 in
theorem c_M_passes (l : Launch) (D : va_G) (ad : Nat → Nat) (ca : Nat → ClassId) {σ : zM} {v1 : Int} {v2 : Int} {Q : Int → zM → Prop} (hσ : zRM σ) (r1 : zR v1) (r2 : zR v2) (h : wp_M_passes σ v1 v2 Q) : zCi l D ad ca y_M_passes b_M_passes 3 (some .boolean) (zrm 1 22) [.ref (ad 79), .int (zI v1), .int (zI v2)] σ Q := by
  refine zCi_of (by decide +kernel) (Nat.le_of_ble_eq_true rfl) ?_
  intro X G C hl hD had hca
  subst hl hD had hca
  have C : zC X G b_M_passes "GateRoadsModel" 3 (some .boolean) 1 22 := C
  show zJ X G (zQi X G Q) 3 0 [(0, .ref (gad G 79)), (1, .int (zI v1)), (2, .int (zI v2))] [] σ
  unfold wp_M_passes at h
  refine j_aload_n C d_M_passes_0 0 rfl rfl ?_
  refine j_geti (kf := 14) (kI := 14) C d_M_passes_1 sh_79 rfl i_M rfl rfl rfl fl_M_173 ?_
  refine j_aload_n C d_M_passes_4 0 rfl rfl ?_
  refine j_geti (kf := 7) (kI := 7) C d_M_passes_5 sh_79 rfl i_M rfl rfl rfl fl_M_132 ?_
  refine j_icmp_eq (tgt := 28) C d_M_passes_8 rfl (hσ _ _) (hσ _ _) (fun c => ?_) (fun c => ?_)
  · have h := h.1 c
    refine j_iconst C d_M_passes_28 ?_
    exact j_zreturn C d_M_passes_29 (by decide) hσ h
  · have h := h.2 c
    refine j_aload_n C d_M_passes_11 0 rfl rfl ?_
    refine j_getr (kf := 6) (m := 84) C d_M_passes_12 sh_79 rfl i_M rfl rfl fl_M_22 ?_
    refine j_aload_n C d_M_passes_15 0 rfl rfl ?_
    refine j_geti (kf := 14) (kI := 14) C d_M_passes_16 sh_79 rfl i_M rfl rfl rfl fl_M_173 ?_
    obtain ⟨g1, h⟩ := h
    refine j_iaload C d_M_passes_19 sh_84 g1 ?_
    refine j_iload_n C d_M_passes_20 1 rfl rfl ?_
    refine j_iload_n C d_M_passes_21 2 rfl rfl ?_
    refine j_callS C d_M_passes_22 ml_M_46 ms_M_isIn (c_M_isIn (xl X) (gD G) (gad G) (gca G) (v0 := σ 84 (σ 79 14)) (v1 := v1) (v2 := v2) hσ (hσ _ _) r1 r2 h) rfl rfl rfl rfl rfl (fun z2 σ3 rz2 hσ3 h => ?_)
    obtain ⟨ez2, h⟩ := h; subst ez2
    refine j_if_ne (tgt := 30) C d_M_passes_25 rfl rz2 (fun c => ?_) (fun c => ?_)
    · have h := h.1 c
      refine j_aload_n C d_M_passes_30 0 rfl rfl ?_
      refine j_aload_n C d_M_passes_31 0 rfl rfl ?_
      refine j_getr (kf := 6) (m := 84) C d_M_passes_32 sh_79 rfl i_M rfl rfl fl_M_22 ?_
      refine j_aload_n C d_M_passes_35 0 rfl rfl ?_
      refine j_geti (kf := 14) (kI := 14) C d_M_passes_36 sh_79 rfl i_M rfl rfl rfl fl_M_173 ?_
      obtain ⟨g4, h⟩ := h
      refine j_iaload C d_M_passes_39 sh_84 g4 ?_
      refine j_bipush C d_M_passes_40 rfl ?_
      refine j_isub C d_M_passes_42 ?_
      obtain ⟨g5, h⟩ := h
      refine j_puti (kf := 21) (kI := 21) C t_M d_M_passes_43 sh_79 rfl i_M t_M_ok n_M rfl rfl rfl fl_M_176 rfl (Or.inl rfl) ?_
      refine j_mem (fun σ6 eσ6 => ?_)
      have h := h σ6 eσ6
      have hσ6 : zRM σ6 := by rw [eσ6]; exact zU_rg hσ _ _ g5
      refine j_aload_n C d_M_passes_46 0 rfl rfl ?_
      refine j_dup C d_M_passes_47 rfl ?_
      refine j_geti (kf := 14) (kI := 14) C d_M_passes_48 sh_79 rfl i_M rfl rfl rfl fl_M_173 ?_
      refine j_iconst C d_M_passes_51 ?_
      refine j_iadd C d_M_passes_52 ?_
      obtain ⟨g7, h⟩ := h
      refine j_puti (kf := 14) (kI := 14) C t_M d_M_passes_53 sh_79 rfl i_M t_M_ok n_M rfl rfl rfl fl_M_173 rfl (Or.inl rfl) ?_
      refine j_mem (fun σ8 eσ8 => ?_)
      have h := h σ8 eσ8
      have hσ8 : zRM σ8 := by rw [eσ8]; exact zU_rg hσ6 _ _ g7
      refine j_iconst C d_M_passes_56 ?_
      exact j_zreturn C d_M_passes_57 (by decide) hσ8 h
    · have h := h.2 c
      refine j_iconst C d_M_passes_28 ?_
      exact j_zreturn C d_M_passes_29 (by decide) hσ h
set_option maxRecDepth 100000 in
set_option maxHeartbeats 4000000 in
theorem c_M_isDigitHere (l : Launch) (D : va_G) (ad : Nat → Nat) (ca : Nat → ClassId) {σ : zM} {Q : Int → Prop} (hσ : zRM σ) (h : wp_M_isDigitHere σ Q) : zCi l D ad ca y_M_isDigitHere b_M_isDigitHere 1 (some .boolean) (zrm 1 22) [.ref (ad 79)] σ (fun z u => σ = u ∧ Q z) := by
  refine zCi_of (by decide +kernel) (Nat.le_of_ble_eq_true rfl) ?_
  intro X G C hl hD had hca
  subst hl hD had hca
  have C : zC X G b_M_isDigitHere "GateRoadsModel" 1 (some .boolean) 1 22 := C
  show zJ X G (zQi X G (fun z u => σ = u ∧ Q z)) 1 0 [(0, .ref (gad G 79))] [] σ
  unfold wp_M_isDigitHere at h
  refine j_aload_n C d_M_isDigitHere_0 0 rfl rfl ?_
  refine j_geti (kf := 14) (kI := 14) C d_M_isDigitHere_1 sh_79 rfl i_M rfl rfl rfl fl_M_173 ?_
  refine j_aload_n C d_M_isDigitHere_4 0 rfl rfl ?_
  refine j_geti (kf := 7) (kI := 7) C d_M_isDigitHere_5 sh_79 rfl i_M rfl rfl rfl fl_M_132 ?_
  refine j_icmp_ge (tgt := 34) C d_M_isDigitHere_8 rfl (hσ _ _) (hσ _ _) (fun c => ?_) (fun c => ?_)
  · have h := h.1 c
    refine j_iconst C d_M_isDigitHere_34 ?_
    exact j_zreturn C d_M_isDigitHere_35 (by decide) hσ ⟨rfl, h⟩
  · have h := h.2 c
    refine j_aload_n C d_M_isDigitHere_11 0 rfl rfl ?_
    refine j_getr (kf := 6) (m := 84) C d_M_isDigitHere_12 sh_79 rfl i_M rfl rfl fl_M_22 ?_
    refine j_aload_n C d_M_isDigitHere_15 0 rfl rfl ?_
    refine j_geti (kf := 14) (kI := 14) C d_M_isDigitHere_16 sh_79 rfl i_M rfl rfl rfl fl_M_173 ?_
    obtain ⟨g1, h⟩ := h
    refine j_iaload C d_M_isDigitHere_19 sh_84 g1 ?_
    refine j_bipush C d_M_isDigitHere_20 rfl ?_
    refine j_bipush C d_M_isDigitHere_22 rfl ?_
    refine j_callS C d_M_isDigitHere_24 ml_M_46 ms_M_isIn (c_M_isIn (xl X) (gD G) (gad G) (gca G) (v0 := σ 84 (σ 79 14)) (v1 := 48) (v2 := 57) hσ (hσ _ _) (zR_of (x := 48) rfl) (zR_of (x := 57) rfl) h) rfl rfl rfl rfl rfl (fun z2 σ3 rz2 hσ3 h => ?_)
    obtain ⟨ez2, h⟩ := h; subst ez2
    refine j_if_eq (tgt := 34) C d_M_isDigitHere_27 rfl rz2 (fun c => ?_) (fun c => ?_)
    · have h := h.1 c
      refine j_iconst C d_M_isDigitHere_34 ?_
      exact j_zreturn C d_M_isDigitHere_35 (by decide) hσ ⟨rfl, h⟩
    · have h := h.2 c
      refine j_iconst C d_M_isDigitHere_30 ?_
      refine j_goto (tgt := 35) C d_M_isDigitHere_31 rfl ?_
      exact j_zreturn C d_M_isDigitHere_35 (by decide) hσ ⟨rfl, h⟩
set_option maxRecDepth 100000 in
set_option maxHeartbeats 4000000 in
theorem w_M_passesNumber_L18 {X : zX} {G : zG} (C : zC X G b_M_passesNumber "GateRoadsModel" 3 (some .boolean) 2 44) {Q : Int → zM → Prop} {k71 : zM → Int → Prop} (hk71 : ∀ (σ : zM) (v1 : Int), zRM σ → zR v1 → k71 σ v1 → zJ X G (zQi X G Q) 3 71 [(0, .ref (gad G 79)), (1, .int (zI v1))] [] σ) : ∀ (n : Nat) (σ : zM) (v1 : Int) (hσ : zRM σ) (r1 : zR v1), wp_M_passesNumber_L18 k71 Q n σ v1 → zJ X G (zQi X G Q) 3 18 [(0, .ref (gad G 79)), (1, .int (zI v1))] [] σ := by
  intro n
  induction n with
  | zero => intro σ v1 hσ r1 h; exact False.elim h
  | succ n ih =>
    intro σ v1 hσ r1 h
    rw [wp_M_passesNumber_L18] at h
    refine j_iload_n C d_M_passesNumber_18 1 rfl rfl ?_
    refine j_if_le (tgt := 71) C d_M_passesNumber_19 rfl r1 (fun c => ?_) (fun c => ?_)
    · have h := h.1 c
      exact hk71 σ v1 hσ r1 h
    · have h := h.2 c
      refine j_aload_n C d_M_passesNumber_22 0 rfl rfl ?_
      refine j_callV C d_M_passesNumber_23 ml_M_182 mi_M_isDigitHere (c_M_isDigitHere (xl X) (gD G) (gad G) (gca G)  hσ h) sh_79 rfl rfl rfl rfl rfl rfl rfl (fun z3 σ4 rz3 hσ4 h => ?_)
      obtain ⟨ez3, h⟩ := h; subst ez3
      refine j_if_eq (tgt := 71) C d_M_passesNumber_26 rfl rz3 (fun c => ?_) (fun c => ?_)
      · have h := h.1 c
        exact hk71 σ v1 hσ r1 h
      · have h := h.2 c
        refine j_bipush C d_M_passesNumber_29 rfl ?_
        refine j_iload_n C d_M_passesNumber_31 1 rfl rfl ?_
        refine j_imul C d_M_passesNumber_32 ?_
        refine j_aload_n C d_M_passesNumber_33 0 rfl rfl ?_
        refine j_getr (kf := 6) (m := 84) C d_M_passesNumber_34 sh_79 rfl i_M rfl rfl fl_M_22 ?_
        refine j_aload_n C d_M_passesNumber_37 0 rfl rfl ?_
        refine j_geti (kf := 14) (kI := 14) C d_M_passesNumber_38 sh_79 rfl i_M rfl rfl rfl fl_M_173 ?_
        obtain ⟨g5, h⟩ := h
        refine j_iaload C d_M_passesNumber_41 sh_84 g5 ?_
        refine j_iadd C d_M_passesNumber_42 ?_
        refine j_bipush C d_M_passesNumber_43 rfl ?_
        refine j_isub C d_M_passesNumber_45 ?_
        obtain ⟨g6, h⟩ := h
        refine j_name (fun t7 et7 => ?_)
        have h := h t7 et7
        have rt7 : zR t7 := by rw [et7]; exact g6
        refine j_istore_n (L' := [(2, .int (zI t7)), (0, .ref (gad G 79)), (1, .int (zI v1))]) C d_M_passesNumber_46 rfl rfl rfl ?_
        refine j_iload_n C d_M_passesNumber_47 0 rfl rfl ?_
        refine j_sipush C d_M_passesNumber_48 rfl ?_
        refine j_icmp_le (tgt := 56) C d_M_passesNumber_51 rfl rt7 (zR_of (x := 2880) rfl) (fun c => ?_) (fun c => ?_)
        · have h := h.1 c
          refine j_iload_n C d_M_passesNumber_56 0 rfl rfl ?_
          refine j_istore_n (L' := [(1, .int (zI t7)), (2, .int (zI t7)), (0, .ref (gad G 79))]) C d_M_passesNumber_57 rfl rfl rfl ?_
          refine j_aload_n C d_M_passesNumber_58 2 rfl rfl ?_
          refine j_dup C d_M_passesNumber_59 rfl ?_
          refine j_geti (kf := 14) (kI := 14) C d_M_passesNumber_60 sh_79 rfl i_M rfl rfl rfl fl_M_173 ?_
          refine j_iconst C d_M_passesNumber_63 ?_
          refine j_iadd C d_M_passesNumber_64 ?_
          obtain ⟨g8, h⟩ := h
          refine j_puti (kf := 14) (kI := 14) C t_M d_M_passesNumber_65 sh_79 rfl i_M t_M_ok n_M rfl rfl rfl fl_M_173 rfl (Or.inl rfl) ?_
          refine j_mem (fun σ9 eσ9 => ?_)
          have h := h σ9 eσ9
          have hσ9 : zRM σ9 := by rw [eσ9]; exact zU_rg hσ _ _ g8
          refine j_goto (tgt := 18) C d_M_passesNumber_68 rfl ?_
          refine j_sub (L' := [(0, .ref (gad G 79)), (1, .int (zI t7))]) [2, 0] rfl ?_
          exact ih σ9 t7 hσ9 rt7 h
        · have h := h.2 c
          refine j_iconst C d_M_passesNumber_54 ?_
          exact j_zreturn C d_M_passesNumber_55 (by decide) hσ h
set_option maxRecDepth 100000 in
set_option maxHeartbeats 4000000 in
theorem w_M_passesNumber_b71 {X : zX} {G : zG} (C : zC X G b_M_passesNumber "GateRoadsModel" 3 (some .boolean) 2 44) {Q : Int → zM → Prop} (σ : zM) (v1 : Int) (hσ : zRM σ) (r1 : zR v1) (h : wp_M_passesNumber_b71 Q σ v1) : zJ X G (zQi X G Q) 3 71 [(0, .ref (gad G 79)), (1, .int (zI v1))] [] σ := by
  unfold wp_M_passesNumber_b71 at h
  refine j_aload_n C d_M_passesNumber_71 0 rfl rfl ?_
  refine j_iload_n C d_M_passesNumber_72 1 rfl rfl ?_
  refine j_puti (kf := 21) (kI := 21) C t_M d_M_passesNumber_73 sh_79 rfl i_M t_M_ok n_M rfl rfl rfl fl_M_176 rfl (Or.inl rfl) ?_
  refine j_mem (fun σ12 eσ12 => ?_)
  have h := h σ12 eσ12
  have hσ12 : zRM σ12 := by rw [eσ12]; exact zU_rg hσ _ _ r1
  refine j_iconst C d_M_passesNumber_76 ?_
  exact j_zreturn C d_M_passesNumber_77 (by decide) hσ12 h
set_option maxRecDepth 100000 in
set_option maxHeartbeats 4000000 in
theorem c_M_passesNumber (l : Launch) (D : va_G) (ad : Nat → Nat) (ca : Nat → ClassId) {σ : zM} {Q : Int → zM → Prop} (hσ : zRM σ) (h : wp_M_passesNumber σ Q) : zCi l D ad ca y_M_passesNumber b_M_passesNumber 3 (some .boolean) (zrm 2 44) [.ref (ad 79)] σ Q := by
  refine zCi_of (by decide +kernel) (Nat.le_of_ble_eq_true rfl) ?_
  intro X G C hl hD had hca
  subst hl hD had hca
  have C : zC X G b_M_passesNumber "GateRoadsModel" 3 (some .boolean) 2 44 := C
  show zJ X G (zQi X G Q) 3 0 [(0, .ref (gad G 79))] [] σ
  unfold wp_M_passesNumber at h
  refine j_aload_n C d_M_passesNumber_0 0 rfl rfl ?_
  refine j_bipush C d_M_passesNumber_1 rfl ?_
  refine j_bipush C d_M_passesNumber_3 rfl ?_
  refine j_callV C d_M_passesNumber_5 ml_M_179 mi_M_passes (c_M_passes (xl X) (gD G) (gad G) (gca G) (v1 := 48) (v2 := 57) hσ (zR_of (x := 48) rfl) (zR_of (x := 57) rfl) h) sh_79 rfl rfl rfl rfl rfl rfl rfl (fun z1 σ2 rz1 hσ2 h => ?_)
  refine j_if_ne (tgt := 13) C d_M_passesNumber_8 rfl rz1 (fun c => ?_) (fun c => ?_)
  · have h := h.1 c
    refine j_aload_n C d_M_passesNumber_13 0 rfl rfl ?_
    refine j_geti (kf := 21) (kI := 21) C d_M_passesNumber_14 sh_79 rfl i_M rfl rfl rfl fl_M_176 ?_
    refine j_istore_n (L' := [(1, .int (zI (σ2 79 21))), (0, .ref (gad G 79))]) C d_M_passesNumber_17 rfl rfl rfl ?_
    obtain ⟨n13, h⟩ := h
    refine j_sub (L' := [(0, .ref (gad G 79)), (1, .int (zI (σ2 79 21)))]) [1, 0] rfl ?_
    refine w_M_passesNumber_L18 C ?_ n13 σ2 (σ2 79 21) hσ2 (hσ2 _ _) h
    · intro σ10 u11 hσ10 ru11 h
      refine w_M_passesNumber_b71 C σ10 u11 hσ10 ru11 h
  · have h := h.2 c
    refine j_iconst C d_M_passesNumber_11 ?_
    exact j_zreturn C d_M_passesNumber_12 (by decide) hσ2 h
set_option maxRecDepth 100000 in
set_option maxHeartbeats 4000000 in
theorem w_M_passesClock_b100 {X : zX} {G : zG} (C : zC X G b_M_passesClock "GateRoadsModel" 3 (some .boolean) 2 44) {Q : Int → zM → Prop} (σ : zM) (v1 : Int) (v2 : Int) (s1 : Int) (s2 : Int) (hσ : zRM σ) (r1 : zR v1) (r2 : zR v2) (rs1 : zR s1) (rs2 : zR s2) (h : wp_M_passesClock_b100 Q σ v1 v2 s1 s2) : zJ X G (zQi X G Q) 3 100 [(0, .ref (gad G 79)), (1, .int (zI v1)), (2, .int (zI v2))] [.int (zI s2), .int (zI s1), .ref (gad G 79)] σ := by
  unfold wp_M_passesClock_b100 at h
  refine j_callV C d_M_passesClock_100 ml_M_179 mi_M_passes (c_M_passes (xl X) (gD G) (gad G) (gca G) (v1 := s1) (v2 := s2) hσ rs1 rs2 h) sh_79 rfl rfl rfl rfl rfl rfl rfl (fun z10 σ11 rz10 hσ11 h => ?_)
  refine j_if_ne (tgt := 108) C d_M_passesClock_103 rfl rz10 (fun c => ?_) (fun c => ?_)
  · have h := h.1 c
    refine j_aload_n C d_M_passesClock_108 0 rfl rfl ?_
    refine j_bipush C d_M_passesClock_109 rfl ?_
    refine j_iload_n C d_M_passesClock_111 1 rfl rfl ?_
    refine j_imul C d_M_passesClock_112 ?_
    refine j_iload_n C d_M_passesClock_113 2 rfl rfl ?_
    refine j_iadd C d_M_passesClock_114 ?_
    refine j_aload_n C d_M_passesClock_115 0 rfl rfl ?_
    refine j_geti (kf := 21) (kI := 21) C d_M_passesClock_116 sh_79 rfl i_M rfl rfl rfl fl_M_176 ?_
    refine j_iadd C d_M_passesClock_119 ?_
    obtain ⟨g12, h⟩ := h
    refine j_puti (kf := 21) (kI := 21) C t_M d_M_passesClock_120 sh_79 rfl i_M t_M_ok n_M rfl rfl rfl fl_M_176 rfl (Or.inl rfl) ?_
    refine j_mem (fun σ13 eσ13 => ?_)
    have h := h σ13 eσ13
    have hσ13 : zRM σ13 := by rw [eσ13]; exact zU_rg hσ11 _ _ g12
    refine j_iconst C d_M_passesClock_123 ?_
    exact j_zreturn C d_M_passesClock_124 (by decide) hσ13 h
  · have h := h.2 c
    refine j_iconst C d_M_passesClock_106 ?_
    exact j_zreturn C d_M_passesClock_107 (by decide) hσ11 h
set_option maxRecDepth 100000 in
set_option maxHeartbeats 4000000 in
theorem w_M_passesClock_b68 {X : zX} {G : zG} (C : zC X G b_M_passesClock "GateRoadsModel" 3 (some .boolean) 2 44) {Q : Int → zM → Prop} (σ : zM) (v1 : Int) (s1 : Int) (s2 : Int) (hσ : zRM σ) (r1 : zR v1) (rs1 : zR s1) (rs2 : zR s2) (h : wp_M_passesClock_b68 Q σ v1 s1 s2) : zJ X G (zQi X G Q) 3 68 [(0, .ref (gad G 79)), (1, .int (zI v1))] [.int (zI s2), .int (zI s1), .ref (gad G 79)] σ := by
  unfold wp_M_passesClock_b68 at h
  refine j_callV C d_M_passesClock_68 ml_M_179 mi_M_passes (c_M_passes (xl X) (gD G) (gad G) (gca G) (v1 := s1) (v2 := s2) hσ rs1 rs2 h) sh_79 rfl rfl rfl rfl rfl rfl rfl (fun z7 σ8 rz7 hσ8 h => ?_)
  refine j_if_ne (tgt := 76) C d_M_passesClock_71 rfl rz7 (fun c => ?_) (fun c => ?_)
  · have h := h.1 c
    refine j_bipush C d_M_passesClock_76 rfl ?_
    refine j_aload_n C d_M_passesClock_78 0 rfl rfl ?_
    refine j_geti (kf := 21) (kI := 21) C d_M_passesClock_79 sh_79 rfl i_M rfl rfl rfl fl_M_176 ?_
    refine j_imul C d_M_passesClock_82 ?_
    obtain ⟨g9, h⟩ := h
    refine j_istore_n (L' := [(2, .int (zI (10 * (σ8 79 21)))), (0, .ref (gad G 79)), (1, .int (zI v1))]) C d_M_passesClock_83 rfl rfl rfl ?_
    refine j_aload_n C d_M_passesClock_84 1 rfl rfl ?_
    refine j_bipush C d_M_passesClock_85 rfl ?_
    refine j_iload_n C d_M_passesClock_87 2 rfl rfl ?_
    refine j_bipush C d_M_passesClock_88 rfl ?_
    refine j_icmp_ne (tgt := 98) C d_M_passesClock_90 rfl r1 (zR_of (x := 24) rfl) (fun c => ?_) (fun c => ?_)
    · have h := h.1 c
      refine j_bipush C d_M_passesClock_98 rfl ?_
      refine j_sub (L' := [(0, .ref (gad G 79)), (1, .int (zI v1)), (2, .int (zI (10 * (σ8 79 21))))]) [1, 2, 0] rfl ?_
      refine w_M_passesClock_b100 C σ8 v1 (10 * (σ8 79 21)) 48 57 hσ8 r1 g9 (zR_of (x := 48) rfl) (zR_of (x := 57) rfl) h
    · have h := h.2 c
      refine j_bipush C d_M_passesClock_93 rfl ?_
      refine j_goto (tgt := 100) C d_M_passesClock_95 rfl ?_
      refine j_sub (L' := [(0, .ref (gad G 79)), (1, .int (zI v1)), (2, .int (zI (10 * (σ8 79 21))))]) [1, 2, 0] rfl ?_
      refine w_M_passesClock_b100 C σ8 v1 (10 * (σ8 79 21)) 48 48 hσ8 r1 g9 (zR_of (x := 48) rfl) (zR_of (x := 48) rfl) h
  · have h := h.2 c
    refine j_iconst C d_M_passesClock_74 ?_
    exact j_zreturn C d_M_passesClock_75 (by decide) hσ8 h
set_option maxRecDepth 100000 in
set_option maxHeartbeats 4000000 in
theorem w_M_passesClock_b37 {X : zX} {G : zG} (C : zC X G b_M_passesClock "GateRoadsModel" 3 (some .boolean) 2 44) {Q : Int → zM → Prop} (σ : zM) (v1 : Int) (s1 : Int) (s2 : Int) (hσ : zRM σ) (r1 : zR v1) (rs1 : zR s1) (rs2 : zR s2) (h : wp_M_passesClock_b37 Q σ v1 s1 s2) : zJ X G (zQi X G Q) 3 37 [(0, .ref (gad G 79)), (1, .int (zI v1))] [.int (zI s2), .int (zI s1), .ref (gad G 79)] σ := by
  unfold wp_M_passesClock_b37 at h
  refine j_callV C d_M_passesClock_37 ml_M_179 mi_M_passes (c_M_passes (xl X) (gD G) (gad G) (gca G) (v1 := s1) (v2 := s2) hσ rs1 rs2 h) sh_79 rfl rfl rfl rfl rfl rfl rfl (fun z4 σ5 rz4 hσ5 h => ?_)
  refine j_if_ne (tgt := 45) C d_M_passesClock_40 rfl rz4 (fun c => ?_) (fun c => ?_)
  · have h := h.1 c
    refine j_iload_n C d_M_passesClock_45 1 rfl rfl ?_
    refine j_aload_n C d_M_passesClock_46 0 rfl rfl ?_
    refine j_geti (kf := 21) (kI := 21) C d_M_passesClock_47 sh_79 rfl i_M rfl rfl rfl fl_M_176 ?_
    refine j_iadd C d_M_passesClock_50 ?_
    obtain ⟨g6, h⟩ := h
    refine j_istore_n (L' := [(1, .int (zI (v1 + (σ5 79 21)))), (0, .ref (gad G 79))]) C d_M_passesClock_51 rfl rfl rfl ?_
    refine j_aload_n C d_M_passesClock_52 1 rfl rfl ?_
    refine j_bipush C d_M_passesClock_53 rfl ?_
    refine j_iload_n C d_M_passesClock_55 0 rfl rfl ?_
    refine j_bipush C d_M_passesClock_56 rfl ?_
    refine j_icmp_ne (tgt := 66) C d_M_passesClock_58 rfl g6 (zR_of (x := 24) rfl) (fun c => ?_) (fun c => ?_)
    · have h := h.1 c
      refine j_bipush C d_M_passesClock_66 rfl ?_
      refine j_sub (L' := [(0, .ref (gad G 79)), (1, .int (zI (v1 + (σ5 79 21))))]) [1, 0] rfl ?_
      refine w_M_passesClock_b68 C σ5 (v1 + (σ5 79 21)) 48 53 hσ5 g6 (zR_of (x := 48) rfl) (zR_of (x := 53) rfl) h
    · have h := h.2 c
      refine j_bipush C d_M_passesClock_61 rfl ?_
      refine j_goto (tgt := 68) C d_M_passesClock_63 rfl ?_
      refine j_sub (L' := [(0, .ref (gad G 79)), (1, .int (zI (v1 + (σ5 79 21))))]) [1, 0] rfl ?_
      refine w_M_passesClock_b68 C σ5 (v1 + (σ5 79 21)) 48 48 hσ5 g6 (zR_of (x := 48) rfl) (zR_of (x := 48) rfl) h
  · have h := h.2 c
    refine j_iconst C d_M_passesClock_43 ?_
    exact j_zreturn C d_M_passesClock_44 (by decide) hσ5 h
set_option maxRecDepth 100000 in
set_option maxHeartbeats 4000000 in
theorem c_M_passesClock (l : Launch) (D : va_G) (ad : Nat → Nat) (ca : Nat → ClassId) {σ : zM} {Q : Int → zM → Prop} (hσ : zRM σ) (h : wp_M_passesClock σ Q) : zCi l D ad ca y_M_passesClock b_M_passesClock 3 (some .boolean) (zrm 2 44) [.ref (ad 79)] σ Q := by
  refine zCi_of (by decide +kernel) (Nat.le_of_ble_eq_true rfl) ?_
  intro X G C hl hD had hca
  subst hl hD had hca
  have C : zC X G b_M_passesClock "GateRoadsModel" 3 (some .boolean) 2 44 := C
  show zJ X G (zQi X G Q) 3 0 [(0, .ref (gad G 79))] [] σ
  unfold wp_M_passesClock at h
  refine j_aload_n C d_M_passesClock_0 0 rfl rfl ?_
  refine j_bipush C d_M_passesClock_1 rfl ?_
  refine j_bipush C d_M_passesClock_3 rfl ?_
  refine j_callV C d_M_passesClock_5 ml_M_179 mi_M_passes (c_M_passes (xl X) (gD G) (gad G) (gca G) (v1 := 48) (v2 := 50) hσ (zR_of (x := 48) rfl) (zR_of (x := 50) rfl) h) sh_79 rfl rfl rfl rfl rfl rfl rfl (fun z1 σ2 rz1 hσ2 h => ?_)
  refine j_if_ne (tgt := 13) C d_M_passesClock_8 rfl rz1 (fun c => ?_) (fun c => ?_)
  · have h := h.1 c
    refine j_bipush C d_M_passesClock_13 rfl ?_
    refine j_aload_n C d_M_passesClock_15 0 rfl rfl ?_
    refine j_geti (kf := 21) (kI := 21) C d_M_passesClock_16 sh_79 rfl i_M rfl rfl rfl fl_M_176 ?_
    refine j_imul C d_M_passesClock_19 ?_
    obtain ⟨g3, h⟩ := h
    refine j_istore_n (L' := [(1, .int (zI (10 * (σ2 79 21)))), (0, .ref (gad G 79))]) C d_M_passesClock_20 rfl rfl rfl ?_
    refine j_aload_n C d_M_passesClock_21 1 rfl rfl ?_
    refine j_bipush C d_M_passesClock_22 rfl ?_
    refine j_iload_n C d_M_passesClock_24 0 rfl rfl ?_
    refine j_bipush C d_M_passesClock_25 rfl ?_
    refine j_icmp_ne (tgt := 35) C d_M_passesClock_27 rfl g3 (zR_of (x := 20) rfl) (fun c => ?_) (fun c => ?_)
    · have h := h.1 c
      refine j_bipush C d_M_passesClock_35 rfl ?_
      refine j_sub (L' := [(0, .ref (gad G 79)), (1, .int (zI (10 * (σ2 79 21))))]) [1, 0] rfl ?_
      refine w_M_passesClock_b37 C σ2 (10 * (σ2 79 21)) 48 57 hσ2 g3 (zR_of (x := 48) rfl) (zR_of (x := 57) rfl) h
    · have h := h.2 c
      refine j_bipush C d_M_passesClock_30 rfl ?_
      refine j_goto (tgt := 37) C d_M_passesClock_32 rfl ?_
      refine j_sub (L' := [(0, .ref (gad G 79)), (1, .int (zI (10 * (σ2 79 21))))]) [1, 0] rfl ?_
      refine w_M_passesClock_b37 C σ2 (10 * (σ2 79 21)) 48 52 hσ2 g3 (zR_of (x := 48) rfl) (zR_of (x := 52) rfl) h
  · have h := h.2 c
    refine j_iconst C d_M_passesClock_11 ?_
    exact j_zreturn C d_M_passesClock_12 (by decide) hσ2 h
set_option maxRecDepth 100000 in
set_option maxHeartbeats 4000000 in
theorem c_M_passesHours (l : Launch) (D : va_G) (ad : Nat → Nat) (ca : Nat → ClassId) {σ : zM} {Q : Int → zM → Prop} (hσ : zRM σ) (h : wp_M_passesHours σ Q) : zCi l D ad ca y_M_passesHours b_M_passesHours 1 (some .boolean) (zrm 3 66) [.ref (ad 79)] σ Q := by
  refine zCi_of (by decide +kernel) (Nat.le_of_ble_eq_true rfl) ?_
  intro X G C hl hD had hca
  subst hl hD had hca
  have C : zC X G b_M_passesHours "GateRoadsModel" 1 (some .boolean) 3 66 := C
  show zJ X G (zQi X G Q) 1 0 [(0, .ref (gad G 79))] [] σ
  unfold wp_M_passesHours at h
  refine j_aload_n C d_M_passesHours_0 0 rfl rfl ?_
  refine j_callV C d_M_passesHours_1 ml_M_186 mi_M_passesClock (c_M_passesClock (xl X) (gD G) (gad G) (gca G)  hσ h) sh_79 rfl rfl rfl rfl rfl rfl rfl (fun z1 σ2 rz1 hσ2 h => ?_)
  refine j_if_ne (tgt := 9) C d_M_passesHours_4 rfl rz1 (fun c => ?_) (fun c => ?_)
  · have h := h.1 c
    refine j_aload_n C d_M_passesHours_9 0 rfl rfl ?_
    refine j_getr (kf := 22) (m := 91) C d_M_passesHours_10 sh_79 rfl i_M rfl rfl fl_M_43 ?_
    refine j_iconst C d_M_passesHours_13 ?_
    refine j_aload_n C d_M_passesHours_14 0 rfl rfl ?_
    refine j_geti (kf := 19) (kI := 19) C d_M_passesHours_15 sh_79 rfl i_M rfl rfl rfl fl_M_189 ?_
    refine j_imul C d_M_passesHours_18 ?_
    refine j_aload_n C d_M_passesHours_19 0 rfl rfl ?_
    refine j_geti (kf := 21) (kI := 21) C d_M_passesHours_20 sh_79 rfl i_M rfl rfl rfl fl_M_176 ?_
    obtain ⟨g3, h⟩ := h
    refine j_iastore C d_M_passesHours_23 sh_91 g3 ?_
    refine j_mem (fun σ4 eσ4 => ?_)
    have h := h σ4 eσ4
    have hσ4 : zRM σ4 := by rw [eσ4]; exact zU_rg hσ2 _ _ (hσ2 _ _)
    refine j_aload_n C d_M_passesHours_24 0 rfl rfl ?_
    refine j_bipush C d_M_passesHours_25 rfl ?_
    refine j_bipush C d_M_passesHours_27 rfl ?_
    refine j_callV C d_M_passesHours_29 ml_M_179 mi_M_passes (c_M_passes (xl X) (gD G) (gad G) (gca G) (v1 := 45) (v2 := 45) hσ4 (zR_of (x := 45) rfl) (zR_of (x := 45) rfl) h) sh_79 rfl rfl rfl rfl rfl rfl rfl (fun z5 σ6 rz5 hσ6 h => ?_)
    refine j_if_eq (tgt := 42) C d_M_passesHours_32 rfl rz5 (fun c => ?_) (fun c => ?_)
    · have h := h.1 c
      refine j_iconst C d_M_passesHours_42 ?_
      exact j_zreturn C d_M_passesHours_43 (by decide) hσ6 h
    · have h := h.2 c
      refine j_aload_n C d_M_passesHours_35 0 rfl rfl ?_
      refine j_callV C d_M_passesHours_36 ml_M_186 mi_M_passesClock (c_M_passesClock (xl X) (gD G) (gad G) (gca G)  hσ6 h) sh_79 rfl rfl rfl rfl rfl rfl rfl (fun z7 σ8 rz7 hσ8 h => ?_)
      refine j_if_ne (tgt := 44) C d_M_passesHours_39 rfl rz7 (fun c => ?_) (fun c => ?_)
      · have h := h.1 c
        refine j_aload_n C d_M_passesHours_44 0 rfl rfl ?_
        refine j_getr (kf := 22) (m := 91) C d_M_passesHours_45 sh_79 rfl i_M rfl rfl fl_M_43 ?_
        refine j_iconst C d_M_passesHours_48 ?_
        refine j_aload_n C d_M_passesHours_49 0 rfl rfl ?_
        refine j_geti (kf := 19) (kI := 19) C d_M_passesHours_50 sh_79 rfl i_M rfl rfl rfl fl_M_189 ?_
        refine j_imul C d_M_passesHours_53 ?_
        refine j_iconst C d_M_passesHours_54 ?_
        refine j_iadd C d_M_passesHours_55 ?_
        refine j_aload_n C d_M_passesHours_56 0 rfl rfl ?_
        refine j_geti (kf := 21) (kI := 21) C d_M_passesHours_57 sh_79 rfl i_M rfl rfl rfl fl_M_176 ?_
        obtain ⟨g9, h⟩ := h
        refine j_iastore C d_M_passesHours_60 sh_91 g9 ?_
        refine j_mem (fun σ10 eσ10 => ?_)
        have h := h σ10 eσ10
        have hσ10 : zRM σ10 := by rw [eσ10]; exact zU_rg hσ8 _ _ (hσ8 _ _)
        refine j_aload_n C d_M_passesHours_61 0 rfl rfl ?_
        refine j_dup C d_M_passesHours_62 rfl ?_
        refine j_geti (kf := 19) (kI := 19) C d_M_passesHours_63 sh_79 rfl i_M rfl rfl rfl fl_M_189 ?_
        refine j_iconst C d_M_passesHours_66 ?_
        refine j_iadd C d_M_passesHours_67 ?_
        obtain ⟨g11, h⟩ := h
        refine j_puti (kf := 19) (kI := 19) C t_M d_M_passesHours_68 sh_79 rfl i_M t_M_ok n_M rfl rfl rfl fl_M_189 rfl (Or.inl rfl) ?_
        refine j_mem (fun σ12 eσ12 => ?_)
        have h := h σ12 eσ12
        have hσ12 : zRM σ12 := by rw [eσ12]; exact zU_rg hσ10 _ _ g11
        refine j_iconst C d_M_passesHours_71 ?_
        exact j_zreturn C d_M_passesHours_72 (by decide) hσ12 h
      · have h := h.2 c
        refine j_iconst C d_M_passesHours_42 ?_
        exact j_zreturn C d_M_passesHours_43 (by decide) hσ8 h
  · have h := h.2 c
    refine j_iconst C d_M_passesHours_7 ?_
    exact j_zreturn C d_M_passesHours_8 (by decide) hσ2 h
set_option maxRecDepth 100000 in
set_option maxHeartbeats 4000000 in
theorem w_M_passesSpans_L47 {X : zX} {G : zG} (C : zC X G b_M_passesSpans "GateRoadsModel" 1 (some .boolean) 4 86) {Q : Int → zM → Prop} {k75 : zM → Prop} (hk75 : ∀ (σ : zM), zRM σ → k75 σ → zJ X G (zQi X G Q) 1 75 [(0, .ref (gad G 79))] [] σ) : ∀ (n : Nat) (σ : zM) (hσ : zRM σ), wp_M_passesSpans_L47 k75 Q n σ → zJ X G (zQi X G Q) 1 47 [(0, .ref (gad G 79))] [] σ := by
  intro n
  induction n with
  | zero => intro σ hσ h; exact False.elim h
  | succ n ih =>
    intro σ hσ h
    rw [wp_M_passesSpans_L47] at h
    refine j_aload_n C d_M_passesSpans_47 0 rfl rfl ?_
    refine j_geti (kf := 19) (kI := 19) C d_M_passesSpans_48 sh_79 rfl i_M rfl rfl rfl fl_M_189 ?_
    refine j_iconst C d_M_passesSpans_51 ?_
    refine j_icmp_ge (tgt := 75) C d_M_passesSpans_52 rfl (hσ _ _) (zR_of (x := 3) rfl) (fun c => ?_) (fun c => ?_)
    · have h := h.1 c
      exact hk75 σ hσ h
    · have h := h.2 c
      refine j_aload_n C d_M_passesSpans_55 0 rfl rfl ?_
      refine j_bipush C d_M_passesSpans_56 rfl ?_
      refine j_bipush C d_M_passesSpans_58 rfl ?_
      refine j_callV C d_M_passesSpans_60 ml_M_179 mi_M_passes (c_M_passes (xl X) (gD G) (gad G) (gca G) (v1 := 44) (v2 := 44) hσ (zR_of (x := 44) rfl) (zR_of (x := 44) rfl) h) sh_79 rfl rfl rfl rfl rfl rfl rfl (fun z10 σ11 rz10 hσ11 h => ?_)
      refine j_if_eq (tgt := 75) C d_M_passesSpans_63 rfl rz10 (fun c => ?_) (fun c => ?_)
      · have h := h.1 c
        exact hk75 σ11 hσ11 h
      · have h := h.2 c
        refine j_aload_n C d_M_passesSpans_66 0 rfl rfl ?_
        refine j_callV C d_M_passesSpans_67 ml_M_201 mi_M_passesHours (c_M_passesHours (xl X) (gD G) (gad G) (gca G)  hσ11 h) sh_79 rfl rfl rfl rfl rfl rfl rfl (fun z12 σ13 rz12 hσ13 h => ?_)
        refine j_if_ne (tgt := 47) C d_M_passesSpans_70 rfl rz12 (fun c => ?_) (fun c => ?_)
        · have h := h.1 c
          exact ih σ13 hσ13 h
        · have h := h.2 c
          refine j_iconst C d_M_passesSpans_73 ?_
          exact j_zreturn C d_M_passesSpans_74 (by decide) hσ13 h
set_option maxRecDepth 100000 in
set_option maxHeartbeats 4000000 in
theorem w_M_passesSpans_b75 {X : zX} {G : zG} (C : zC X G b_M_passesSpans "GateRoadsModel" 1 (some .boolean) 4 86) {Q : Int → zM → Prop} (σ : zM) (hσ : zRM σ) (h : wp_M_passesSpans_b75 Q σ) : zJ X G (zQi X G Q) 1 75 [(0, .ref (gad G 79))] [] σ := by
  unfold wp_M_passesSpans_b75 at h
  refine j_aload_n C d_M_passesSpans_75 0 rfl rfl ?_
  refine j_aload_n C d_M_passesSpans_76 0 rfl rfl ?_
  refine j_bipush C d_M_passesSpans_77 rfl ?_
  refine j_bipush C d_M_passesSpans_79 rfl ?_
  refine j_callV C d_M_passesSpans_81 ml_M_179 mi_M_passes (c_M_passes (xl X) (gD G) (gad G) (gca G) (v1 := 33) (v2 := 33) hσ (zR_of (x := 33) rfl) (zR_of (x := 33) rfl) h) sh_79 rfl rfl rfl rfl rfl rfl rfl (fun z15 σ16 rz15 hσ16 h => ?_)
  refine j_if_eq (tgt := 91) C d_M_passesSpans_84 rfl rz15 (fun c => ?_) (fun c => ?_)
  · have h := h.1 c
    refine j_iconst C d_M_passesSpans_91 ?_
    refine j_puti (kf := 20) (kI := 20) C t_M d_M_passesSpans_92 sh_79 rfl i_M t_M_ok n_M rfl rfl rfl fl_M_192 rfl (Or.inl rfl) ?_
    refine j_mem (fun σ17 eσ17 => ?_)
    have h := h σ17 eσ17
    have hσ17 : zRM σ17 := by rw [eσ17]; exact zU_rg hσ16 _ _ (zR_of (x := 0) rfl)
    refine j_iconst C d_M_passesSpans_95 ?_
    exact j_zreturn C d_M_passesSpans_96 (by decide) hσ17 h
  · have h := h.2 c
    refine j_iconst C d_M_passesSpans_87 ?_
    refine j_goto (tgt := 92) C d_M_passesSpans_88 rfl ?_
    refine j_puti (kf := 20) (kI := 20) C t_M d_M_passesSpans_92 sh_79 rfl i_M t_M_ok n_M rfl rfl rfl fl_M_192 rfl (Or.inl rfl) ?_
    refine j_mem (fun σ18 eσ18 => ?_)
    have h := h σ18 eσ18
    have hσ18 : zRM σ18 := by rw [eσ18]; exact zU_rg hσ16 _ _ (zR_of (x := 1) rfl)
    refine j_iconst C d_M_passesSpans_95 ?_
    exact j_zreturn C d_M_passesSpans_96 (by decide) hσ18 h
set_option maxRecDepth 100000 in
set_option maxHeartbeats 4000000 in
theorem c_M_passesSpans (l : Launch) (D : va_G) (ad : Nat → Nat) (ca : Nat → ClassId) {σ : zM} {Q : Int → zM → Prop} (hσ : zRM σ) (h : wp_M_passesSpans σ Q) : zCi l D ad ca y_M_passesSpans b_M_passesSpans 1 (some .boolean) (zrm 4 86) [.ref (ad 79)] σ Q := by
  refine zCi_of (by decide +kernel) (Nat.le_of_ble_eq_true rfl) ?_
  intro X G C hl hD had hca
  subst hl hD had hca
  have C : zC X G b_M_passesSpans "GateRoadsModel" 1 (some .boolean) 4 86 := C
  show zJ X G (zQi X G Q) 1 0 [(0, .ref (gad G 79))] [] σ
  unfold wp_M_passesSpans at h
  refine j_aload_n C d_M_passesSpans_0 0 rfl rfl ?_
  refine j_iconst C d_M_passesSpans_1 ?_
  refine j_puti (kf := 19) (kI := 19) C t_M d_M_passesSpans_2 sh_79 rfl i_M t_M_ok n_M rfl rfl rfl fl_M_189 rfl (Or.inl rfl) ?_
  refine j_mem (fun σ1 eσ1 => ?_)
  have h := h σ1 eσ1
  have hσ1 : zRM σ1 := by rw [eσ1]; exact zU_rg hσ _ _ (zR_of (x := 0) rfl)
  refine j_aload_n C d_M_passesSpans_5 0 rfl rfl ?_
  refine j_iconst C d_M_passesSpans_6 ?_
  refine j_puti (kf := 20) (kI := 20) C t_M d_M_passesSpans_7 sh_79 rfl i_M t_M_ok n_M rfl rfl rfl fl_M_192 rfl (Or.inl rfl) ?_
  refine j_mem (fun σ2 eσ2 => ?_)
  have h := h σ2 eσ2
  have hσ2 : zRM σ2 := by rw [eσ2]; exact zU_rg hσ1 _ _ (zR_of (x := 0) rfl)
  refine j_aload_n C d_M_passesSpans_10 0 rfl rfl ?_
  refine j_callV C d_M_passesSpans_11 ml_M_195 mi_M_passesNumber (c_M_passesNumber (xl X) (gD G) (gad G) (gca G)  hσ2 h) sh_79 rfl rfl rfl rfl rfl rfl rfl (fun z3 σ4 rz3 hσ4 h => ?_)
  refine j_if_ne (tgt := 19) C d_M_passesSpans_14 rfl rz3 (fun c => ?_) (fun c => ?_)
  · have h := h.1 c
    refine j_aload_n C d_M_passesSpans_19 0 rfl rfl ?_
    refine j_aload_n C d_M_passesSpans_20 0 rfl rfl ?_
    refine j_geti (kf := 21) (kI := 21) C d_M_passesSpans_21 sh_79 rfl i_M rfl rfl rfl fl_M_176 ?_
    refine j_puti (kf := 16) (kI := 16) C t_M d_M_passesSpans_24 sh_79 rfl i_M t_M_ok n_M rfl rfl rfl fl_M_198 rfl (Or.inl rfl) ?_
    refine j_mem (fun σ5 eσ5 => ?_)
    have h := h σ5 eσ5
    have hσ5 : zRM σ5 := by rw [eσ5]; exact zU_rg hσ4 _ _ (hσ4 _ _)
    refine j_aload_n C d_M_passesSpans_27 0 rfl rfl ?_
    refine j_bipush C d_M_passesSpans_28 rfl ?_
    refine j_bipush C d_M_passesSpans_30 rfl ?_
    refine j_callV C d_M_passesSpans_32 ml_M_179 mi_M_passes (c_M_passes (xl X) (gD G) (gad G) (gca G) (v1 := 58) (v2 := 58) hσ5 (zR_of (x := 58) rfl) (zR_of (x := 58) rfl) h) sh_79 rfl rfl rfl rfl rfl rfl rfl (fun z6 σ7 rz6 hσ7 h => ?_)
    refine j_if_eq (tgt := 45) C d_M_passesSpans_35 rfl rz6 (fun c => ?_) (fun c => ?_)
    · have h := h.1 c
      refine j_iconst C d_M_passesSpans_45 ?_
      exact j_zreturn C d_M_passesSpans_46 (by decide) hσ7 h
    · have h := h.2 c
      refine j_aload_n C d_M_passesSpans_38 0 rfl rfl ?_
      refine j_callV C d_M_passesSpans_39 ml_M_201 mi_M_passesHours (c_M_passesHours (xl X) (gD G) (gad G) (gca G)  hσ7 h) sh_79 rfl rfl rfl rfl rfl rfl rfl (fun z8 σ9 rz8 hσ9 h => ?_)
      refine j_if_ne (tgt := 47) C d_M_passesSpans_42 rfl rz8 (fun c => ?_) (fun c => ?_)
      · have h := h.1 c
        obtain ⟨n19, h⟩ := h
        refine w_M_passesSpans_L47 C ?_ n19 σ9 hσ9 h
        · intro σ14 hσ14 h
          refine w_M_passesSpans_b75 C σ14 hσ14 h
      · have h := h.2 c
        refine j_iconst C d_M_passesSpans_45 ?_
        exact j_zreturn C d_M_passesSpans_46 (by decide) hσ9 h
  · have h := h.2 c
    refine j_iconst C d_M_passesSpans_17 ?_
    exact j_zreturn C d_M_passesSpans_18 (by decide) hσ4 h
set_option maxRecDepth 100000 in
set_option maxHeartbeats 4000000 in
theorem c_M_passesClosing (l : Launch) (D : va_G) (ad : Nat → Nat) (ca : Nat → ClassId) {σ : zM} {Q : Int → zM → Prop} (hσ : zRM σ) (h : wp_M_passesClosing σ Q) : zCi l D ad ca y_M_passesClosing b_M_passesClosing 1 (some .boolean) (zrm 3 66) [.ref (ad 79)] σ Q := by
  refine zCi_of (by decide +kernel) (Nat.le_of_ble_eq_true rfl) ?_
  intro X G C hl hD had hca
  subst hl hD had hca
  have C : zC X G b_M_passesClosing "GateRoadsModel" 1 (some .boolean) 3 66 := C
  show zJ X G (zQi X G Q) 1 0 [(0, .ref (gad G 79))] [] σ
  unfold wp_M_passesClosing at h
  refine j_aload_n C d_M_passesClosing_0 0 rfl rfl ?_
  refine j_callV C d_M_passesClosing_1 ml_M_195 mi_M_passesNumber (c_M_passesNumber (xl X) (gD G) (gad G) (gca G)  hσ h) sh_79 rfl rfl rfl rfl rfl rfl rfl (fun z1 σ2 rz1 hσ2 h => ?_)
  refine j_if_ne (tgt := 9) C d_M_passesClosing_4 rfl rz1 (fun c => ?_) (fun c => ?_)
  · have h := h.1 c
    refine j_aload_n C d_M_passesClosing_9 0 rfl rfl ?_
    refine j_aload_n C d_M_passesClosing_10 0 rfl rfl ?_
    refine j_geti (kf := 21) (kI := 21) C d_M_passesClosing_11 sh_79 rfl i_M rfl rfl rfl fl_M_176 ?_
    refine j_puti (kf := 16) (kI := 16) C t_M d_M_passesClosing_14 sh_79 rfl i_M t_M_ok n_M rfl rfl rfl fl_M_198 rfl (Or.inl rfl) ?_
    refine j_mem (fun σ3 eσ3 => ?_)
    have h := h σ3 eσ3
    have hσ3 : zRM σ3 := by rw [eσ3]; exact zU_rg hσ2 _ _ (hσ2 _ _)
    refine j_aload_n C d_M_passesClosing_17 0 rfl rfl ?_
    refine j_bipush C d_M_passesClosing_18 rfl ?_
    refine j_bipush C d_M_passesClosing_20 rfl ?_
    refine j_callV C d_M_passesClosing_22 ml_M_179 mi_M_passes (c_M_passes (xl X) (gD G) (gad G) (gca G) (v1 := 58) (v2 := 58) hσ3 (zR_of (x := 58) rfl) (zR_of (x := 58) rfl) h) sh_79 rfl rfl rfl rfl rfl rfl rfl (fun z4 σ5 rz4 hσ5 h => ?_)
    refine j_if_eq (tgt := 35) C d_M_passesClosing_25 rfl rz4 (fun c => ?_) (fun c => ?_)
    · have h := h.1 c
      refine j_iconst C d_M_passesClosing_35 ?_
      exact j_zreturn C d_M_passesClosing_36 (by decide) hσ5 h
    · have h := h.2 c
      refine j_aload_n C d_M_passesClosing_28 0 rfl rfl ?_
      refine j_callV C d_M_passesClosing_29 ml_M_195 mi_M_passesNumber (c_M_passesNumber (xl X) (gD G) (gad G) (gca G)  hσ5 h) sh_79 rfl rfl rfl rfl rfl rfl rfl (fun z6 σ7 rz6 hσ7 h => ?_)
      refine j_if_ne (tgt := 37) C d_M_passesClosing_32 rfl rz6 (fun c => ?_) (fun c => ?_)
      · have h := h.1 c
        refine j_aload_n C d_M_passesClosing_37 0 rfl rfl ?_
        refine j_aload_n C d_M_passesClosing_38 0 rfl rfl ?_
        refine j_geti (kf := 21) (kI := 21) C d_M_passesClosing_39 sh_79 rfl i_M rfl rfl rfl fl_M_176 ?_
        refine j_puti (kf := 17) (kI := 17) C t_M d_M_passesClosing_42 sh_79 rfl i_M t_M_ok n_M rfl rfl rfl fl_M_204 rfl (Or.inl rfl) ?_
        refine j_mem (fun σ8 eσ8 => ?_)
        have h := h σ8 eσ8
        have hσ8 : zRM σ8 := by rw [eσ8]; exact zU_rg hσ7 _ _ (hσ7 _ _)
        refine j_aload_n C d_M_passesClosing_45 0 rfl rfl ?_
        refine j_bipush C d_M_passesClosing_46 rfl ?_
        refine j_bipush C d_M_passesClosing_48 rfl ?_
        refine j_callV C d_M_passesClosing_50 ml_M_179 mi_M_passes (c_M_passes (xl X) (gD G) (gad G) (gca G) (v1 := 45) (v2 := 45) hσ8 (zR_of (x := 45) rfl) (zR_of (x := 45) rfl) h) sh_79 rfl rfl rfl rfl rfl rfl rfl (fun z9 σ10 rz9 hσ10 h => ?_)
        refine j_if_eq (tgt := 63) C d_M_passesClosing_53 rfl rz9 (fun c => ?_) (fun c => ?_)
        · have h := h.1 c
          refine j_iconst C d_M_passesClosing_63 ?_
          exact j_zreturn C d_M_passesClosing_64 (by decide) hσ10 h
        · have h := h.2 c
          refine j_aload_n C d_M_passesClosing_56 0 rfl rfl ?_
          refine j_callV C d_M_passesClosing_57 ml_M_195 mi_M_passesNumber (c_M_passesNumber (xl X) (gD G) (gad G) (gca G)  hσ10 h) sh_79 rfl rfl rfl rfl rfl rfl rfl (fun z11 σ12 rz11 hσ12 h => ?_)
          refine j_if_ne (tgt := 65) C d_M_passesClosing_60 rfl rz11 (fun c => ?_) (fun c => ?_)
          · have h := h.1 c
            refine j_aload_n C d_M_passesClosing_65 0 rfl rfl ?_
            refine j_aload_n C d_M_passesClosing_66 0 rfl rfl ?_
            refine j_geti (kf := 21) (kI := 21) C d_M_passesClosing_67 sh_79 rfl i_M rfl rfl rfl fl_M_176 ?_
            refine j_puti (kf := 18) (kI := 18) C t_M d_M_passesClosing_70 sh_79 rfl i_M t_M_ok n_M rfl rfl rfl fl_M_207 rfl (Or.inl rfl) ?_
            refine j_mem (fun σ13 eσ13 => ?_)
            have h := h σ13 eσ13
            have hσ13 : zRM σ13 := by rw [eσ13]; exact zU_rg hσ12 _ _ (hσ12 _ _)
            refine j_iconst C d_M_passesClosing_73 ?_
            exact j_zreturn C d_M_passesClosing_74 (by decide) hσ13 h
          · have h := h.2 c
            refine j_iconst C d_M_passesClosing_63 ?_
            exact j_zreturn C d_M_passesClosing_64 (by decide) hσ12 h
      · have h := h.2 c
        refine j_iconst C d_M_passesClosing_35 ?_
        exact j_zreturn C d_M_passesClosing_36 (by decide) hσ7 h
  · have h := h.2 c
    refine j_iconst C d_M_passesClosing_7 ?_
    exact j_zreturn C d_M_passesClosing_8 (by decide) hσ2 h
set_option maxRecDepth 100000 in
set_option maxHeartbeats 4000000 in
theorem c_M_passesTravel (l : Launch) (D : va_G) (ad : Nat → Nat) (ca : Nat → ClassId) {σ : zM} {v1 : Int} {Q : Int → zM → Prop} (hσ : zRM σ) (r1 : zR v1) (h : wp_M_passesTravel σ v1 Q) : zCi l D ad ca y_M_passesTravel b_M_passesTravel 2 (some .boolean) (zrm 3 66) [.ref (ad 79), .int (zI v1)] σ Q := by
  refine zCi_of (by decide +kernel) (Nat.le_of_ble_eq_true rfl) ?_
  intro X G C hl hD had hca
  subst hl hD had hca
  have C : zC X G b_M_passesTravel "GateRoadsModel" 2 (some .boolean) 3 66 := C
  show zJ X G (zQi X G Q) 2 0 [(0, .ref (gad G 79)), (1, .int (zI v1))] [] σ
  unfold wp_M_passesTravel at h
  refine j_aload_n C d_M_passesTravel_0 0 rfl rfl ?_
  refine j_bipush C d_M_passesTravel_1 rfl ?_
  refine j_bipush C d_M_passesTravel_3 rfl ?_
  refine j_callV C d_M_passesTravel_5 ml_M_179 mi_M_passes (c_M_passes (xl X) (gD G) (gad G) (gca G) (v1 := 48) (v2 := 57) hσ (zR_of (x := 48) rfl) (zR_of (x := 57) rfl) h) sh_79 rfl rfl rfl rfl rfl rfl rfl (fun z1 σ2 rz1 hσ2 h => ?_)
  refine j_if_ne (tgt := 13) C d_M_passesTravel_8 rfl rz1 (fun c => ?_) (fun c => ?_)
  · have h := h.1 c
    refine j_aload_n C d_M_passesTravel_13 0 rfl rfl ?_
    refine j_aload_n C d_M_passesTravel_14 0 rfl rfl ?_
    refine j_geti (kf := 21) (kI := 21) C d_M_passesTravel_15 sh_79 rfl i_M rfl rfl rfl fl_M_176 ?_
    refine j_puti (kf := 16) (kI := 16) C t_M d_M_passesTravel_18 sh_79 rfl i_M t_M_ok n_M rfl rfl rfl fl_M_198 rfl (Or.inl rfl) ?_
    refine j_mem (fun σ3 eσ3 => ?_)
    have h := h σ3 eσ3
    have hσ3 : zRM σ3 := by rw [eσ3]; exact zU_rg hσ2 _ _ (hσ2 _ _)
    refine j_aload_n C d_M_passesTravel_21 0 rfl rfl ?_
    refine j_iload_n C d_M_passesTravel_22 1 rfl rfl ?_
    refine j_iload_n C d_M_passesTravel_23 1 rfl rfl ?_
    refine j_callV C d_M_passesTravel_24 ml_M_179 mi_M_passes (c_M_passes (xl X) (gD G) (gad G) (gca G) (v1 := v1) (v2 := v1) hσ3 r1 r1 h) sh_79 rfl rfl rfl rfl rfl rfl rfl (fun z4 σ5 rz4 hσ5 h => ?_)
    refine j_if_eq (tgt := 37) C d_M_passesTravel_27 rfl rz4 (fun c => ?_) (fun c => ?_)
    · have h := h.1 c
      refine j_iconst C d_M_passesTravel_37 ?_
      exact j_zreturn C d_M_passesTravel_38 (by decide) hσ5 h
    · have h := h.2 c
      refine j_aload_n C d_M_passesTravel_30 0 rfl rfl ?_
      refine j_callV C d_M_passesTravel_31 ml_M_195 mi_M_passesNumber (c_M_passesNumber (xl X) (gD G) (gad G) (gca G)  hσ5 h) sh_79 rfl rfl rfl rfl rfl rfl rfl (fun z6 σ7 rz6 hσ7 h => ?_)
      refine j_if_ne (tgt := 39) C d_M_passesTravel_34 rfl rz6 (fun c => ?_) (fun c => ?_)
      · have h := h.1 c
        refine j_aload_n C d_M_passesTravel_39 0 rfl rfl ?_
        refine j_aload_n C d_M_passesTravel_40 0 rfl rfl ?_
        refine j_geti (kf := 21) (kI := 21) C d_M_passesTravel_41 sh_79 rfl i_M rfl rfl rfl fl_M_176 ?_
        refine j_puti (kf := 17) (kI := 17) C t_M d_M_passesTravel_44 sh_79 rfl i_M t_M_ok n_M rfl rfl rfl fl_M_204 rfl (Or.inl rfl) ?_
        refine j_mem (fun σ8 eσ8 => ?_)
        have h := h σ8 eσ8
        have hσ8 : zRM σ8 := by rw [eσ8]; exact zU_rg hσ7 _ _ (hσ7 _ _)
        refine j_iconst C d_M_passesTravel_47 ?_
        exact j_zreturn C d_M_passesTravel_48 (by decide) hσ8 h
      · have h := h.2 c
        refine j_iconst C d_M_passesTravel_37 ?_
        exact j_zreturn C d_M_passesTravel_38 (by decide) hσ7 h
  · have h := h.2 c
    refine j_iconst C d_M_passesTravel_11 ?_
    exact j_zreturn C d_M_passesTravel_12 (by decide) hσ2 h
set_option maxRecDepth 100000 in
set_option maxHeartbeats 4000000 in
theorem w_M_passesOrder_b64 {X : zX} {G : zG} (C : zC X G b_M_passesOrder "GateRoadsModel" 1 (some .boolean) 5 106) {Q : Int → zM → Prop} (σ : zM) (hσ : zRM σ) (h : wp_M_passesOrder_b64 Q σ) : zJ X G (zQi X G Q) 1 64 [(0, .ref (gad G 79))] [] σ := by
  unfold wp_M_passesOrder_b64 at h
  refine j_aload_n C d_M_passesOrder_64 0 rfl rfl ?_
  refine j_dup C d_M_passesOrder_65 rfl ?_
  refine j_geti (kf := 14) (kI := 14) C d_M_passesOrder_66 sh_79 rfl i_M rfl rfl rfl fl_M_173 ?_
  refine j_iconst C d_M_passesOrder_69 ?_
  refine j_iadd C d_M_passesOrder_70 ?_
  obtain ⟨g3, h⟩ := h
  refine j_puti (kf := 14) (kI := 14) C t_M d_M_passesOrder_71 sh_79 rfl i_M t_M_ok n_M rfl rfl rfl fl_M_173 rfl (Or.inl rfl) ?_
  refine j_mem (fun σ4 eσ4 => ?_)
  have h := h σ4 eσ4
  have hσ4 : zRM σ4 := by rw [eσ4]; exact zU_rg hσ _ _ g3
  refine j_aload_n C d_M_passesOrder_74 0 rfl rfl ?_
  refine j_geti (kf := 15) (kI := 15) C d_M_passesOrder_75 sh_79 rfl i_M rfl rfl rfl fl_M_210 ?_
  refine j_bipush C d_M_passesOrder_78 rfl ?_
  refine j_icmp_ne (tgt := 88) C d_M_passesOrder_80 rfl (hσ4 _ _) (zR_of (x := 115) rfl) (fun c => ?_) (fun c => ?_)
  · have h := h.1 c
    refine j_aload_n C d_M_passesOrder_88 0 rfl rfl ?_
    refine j_geti (kf := 15) (kI := 15) C d_M_passesOrder_89 sh_79 rfl i_M rfl rfl rfl fl_M_210 ?_
    refine j_bipush C d_M_passesOrder_92 rfl ?_
    refine j_icmp_ne (tgt := 102) C d_M_passesOrder_94 rfl (hσ4 _ _) (zR_of (x := 120) rfl) (fun c => ?_) (fun c => ?_)
    · have h := h.1 c
      refine j_aload_n C d_M_passesOrder_102 0 rfl rfl ?_
      refine j_aload_n C d_M_passesOrder_103 0 rfl rfl ?_
      refine j_geti (kf := 15) (kI := 15) C d_M_passesOrder_104 sh_79 rfl i_M rfl rfl rfl fl_M_210 ?_
      refine j_bipush C d_M_passesOrder_107 rfl ?_
      refine j_icmp_ne (tgt := 117) C d_M_passesOrder_109 rfl (hσ4 _ _) (zR_of (x := 103) rfl) (fun c => ?_) (fun c => ?_)
      · have h := h.1 c
        refine j_bipush C d_M_passesOrder_117 rfl ?_
        refine j_callV C d_M_passesOrder_119 ml_M_219 mi_M_passesTravel (c_M_passesTravel (xl X) (gD G) (gad G) (gca G) (v1 := 43) hσ4 (zR_of (x := 43) rfl) h) sh_79 rfl rfl rfl rfl rfl rfl rfl (fun z5 σ6 rz5 hσ6 h => ?_)
        obtain ⟨g7, h⟩ := h
        exact j_zreturn C d_M_passesOrder_122 g7 hσ6 h
      · have h := h.2 c
        refine j_bipush C d_M_passesOrder_112 rfl ?_
        refine j_goto (tgt := 119) C d_M_passesOrder_114 rfl ?_
        refine j_callV C d_M_passesOrder_119 ml_M_219 mi_M_passesTravel (c_M_passesTravel (xl X) (gD G) (gad G) (gca G) (v1 := 62) hσ4 (zR_of (x := 62) rfl) h) sh_79 rfl rfl rfl rfl rfl rfl rfl (fun z8 σ9 rz8 hσ9 h => ?_)
        obtain ⟨g10, h⟩ := h
        exact j_zreturn C d_M_passesOrder_122 g10 hσ9 h
    · have h := h.2 c
      refine j_aload_n C d_M_passesOrder_97 0 rfl rfl ?_
      refine j_callV C d_M_passesOrder_98 ml_M_216 mi_M_passesClosing (c_M_passesClosing (xl X) (gD G) (gad G) (gca G)  hσ4 h) sh_79 rfl rfl rfl rfl rfl rfl rfl (fun z11 σ12 rz11 hσ12 h => ?_)
      obtain ⟨g13, h⟩ := h
      exact j_zreturn C d_M_passesOrder_101 g13 hσ12 h
  · have h := h.2 c
    refine j_aload_n C d_M_passesOrder_83 0 rfl rfl ?_
    refine j_callV C d_M_passesOrder_84 ml_M_213 mi_M_passesSpans (c_M_passesSpans (xl X) (gD G) (gad G) (gca G)  hσ4 h) sh_79 rfl rfl rfl rfl rfl rfl rfl (fun z14 σ15 rz14 hσ15 h => ?_)
    obtain ⟨g16, h⟩ := h
    exact j_zreturn C d_M_passesOrder_87 g16 hσ15 h
set_option maxRecDepth 100000 in
set_option maxHeartbeats 4000000 in
theorem c_M_passesOrder (l : Launch) (D : va_G) (ad : Nat → Nat) (ca : Nat → ClassId) {σ : zM} {Q : Int → zM → Prop} (hσ : zRM σ) (h : wp_M_passesOrder σ Q) : zCi l D ad ca y_M_passesOrder b_M_passesOrder 1 (some .boolean) (zrm 5 106) [.ref (ad 79)] σ Q := by
  refine zCi_of (by decide +kernel) (Nat.le_of_ble_eq_true rfl) ?_
  intro X G C hl hD had hca
  subst hl hD had hca
  have C : zC X G b_M_passesOrder "GateRoadsModel" 1 (some .boolean) 5 106 := C
  show zJ X G (zQi X G Q) 1 0 [(0, .ref (gad G 79))] [] σ
  unfold wp_M_passesOrder at h
  refine j_aload_n C d_M_passesOrder_0 0 rfl rfl ?_
  refine j_geti (kf := 14) (kI := 14) C d_M_passesOrder_1 sh_79 rfl i_M rfl rfl rfl fl_M_173 ?_
  refine j_aload_n C d_M_passesOrder_4 0 rfl rfl ?_
  refine j_geti (kf := 7) (kI := 7) C d_M_passesOrder_5 sh_79 rfl i_M rfl rfl rfl fl_M_132 ?_
  refine j_icmp_ne (tgt := 13) C d_M_passesOrder_8 rfl (hσ _ _) (hσ _ _) (fun c => ?_) (fun c => ?_)
  · have h := h.1 c
    refine j_aload_n C d_M_passesOrder_13 0 rfl rfl ?_
    refine j_aload_n C d_M_passesOrder_14 0 rfl rfl ?_
    refine j_getr (kf := 6) (m := 84) C d_M_passesOrder_15 sh_79 rfl i_M rfl rfl fl_M_22 ?_
    refine j_aload_n C d_M_passesOrder_18 0 rfl rfl ?_
    refine j_geti (kf := 14) (kI := 14) C d_M_passesOrder_19 sh_79 rfl i_M rfl rfl rfl fl_M_173 ?_
    obtain ⟨g1, h⟩ := h
    refine j_iaload C d_M_passesOrder_22 sh_84 g1 ?_
    refine j_puti (kf := 15) (kI := 15) C t_M d_M_passesOrder_23 sh_79 rfl i_M t_M_ok n_M rfl rfl rfl fl_M_210 rfl (Or.inl rfl) ?_
    refine j_mem (fun σ2 eσ2 => ?_)
    have h := h σ2 eσ2
    have hσ2 : zRM σ2 := by rw [eσ2]; exact zU_rg hσ _ _ (hσ _ _)
    refine j_aload_n C d_M_passesOrder_26 0 rfl rfl ?_
    refine j_geti (kf := 15) (kI := 15) C d_M_passesOrder_27 sh_79 rfl i_M rfl rfl rfl fl_M_210 ?_
    refine j_bipush C d_M_passesOrder_30 rfl ?_
    refine j_icmp_eq (tgt := 64) C d_M_passesOrder_32 rfl (hσ2 _ _) (zR_of (x := 115) rfl) (fun c => ?_) (fun c => ?_)
    · have h := h.1 c
      refine w_M_passesOrder_b64 C σ2 hσ2 h
    · have h := h.2 c
      refine j_aload_n C d_M_passesOrder_35 0 rfl rfl ?_
      refine j_geti (kf := 15) (kI := 15) C d_M_passesOrder_36 sh_79 rfl i_M rfl rfl rfl fl_M_210 ?_
      refine j_bipush C d_M_passesOrder_39 rfl ?_
      refine j_icmp_eq (tgt := 64) C d_M_passesOrder_41 rfl (hσ2 _ _) (zR_of (x := 120) rfl) (fun c => ?_) (fun c => ?_)
      · have h := h.1 c
        refine w_M_passesOrder_b64 C σ2 hσ2 h
      · have h := h.2 c
        refine j_aload_n C d_M_passesOrder_44 0 rfl rfl ?_
        refine j_geti (kf := 15) (kI := 15) C d_M_passesOrder_45 sh_79 rfl i_M rfl rfl rfl fl_M_210 ?_
        refine j_bipush C d_M_passesOrder_48 rfl ?_
        refine j_icmp_eq (tgt := 64) C d_M_passesOrder_50 rfl (hσ2 _ _) (zR_of (x := 103) rfl) (fun c => ?_) (fun c => ?_)
        · have h := h.1 c
          refine w_M_passesOrder_b64 C σ2 hσ2 h
        · have h := h.2 c
          refine j_aload_n C d_M_passesOrder_53 0 rfl rfl ?_
          refine j_geti (kf := 15) (kI := 15) C d_M_passesOrder_54 sh_79 rfl i_M rfl rfl rfl fl_M_210 ?_
          refine j_bipush C d_M_passesOrder_57 rfl ?_
          refine j_icmp_eq (tgt := 64) C d_M_passesOrder_59 rfl (hσ2 _ _) (zR_of (x := 119) rfl) (fun c => ?_) (fun c => ?_)
          · have h := h.1 c
            refine w_M_passesOrder_b64 C σ2 hσ2 h
          · have h := h.2 c
            refine j_iconst C d_M_passesOrder_62 ?_
            exact j_zreturn C d_M_passesOrder_63 (by decide) hσ2 h
  · have h := h.2 c
    refine j_iconst C d_M_passesOrder_11 ?_
    exact j_zreturn C d_M_passesOrder_12 (by decide) hσ h
