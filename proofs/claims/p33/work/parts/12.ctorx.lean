def zr_X : Room := { frames := 2, cells := 78, slots := 28505, locals := 41 }
def w_X (ca : Nat → ClassId) (h0 : Nat) (u : Nat → Nat → Nat) : va_W := ([(h0, .inr (1, [.ref (u 0 2), .ref (u 0 0), .int (zI 0), .ref (u 0 1), .ref (u 0 3), .int (zI 0), .ref (u 0 4), .int (zI 0), .ref (u 0 5), .ref (u 0 6), .ref (u 0 7), .ref (u 0 8), .ref (u 0 9)])), (u 0 0, .inl (ca 3, (6, .inr (.inr (.inr (.inr (va_up (va_up (va_up (va_up (va_up (va_up (fun _ => none) 0 (some (u 0 10))) 1 (some (u 0 11))) 2 (some (u 0 12))) 3 (some (u 0 13))) 4 (some (u 0 14))) 5 (some (u 0 15))))))))), (u 0 1, .inl (ca 3, (2, .inr (.inr (.inr (.inr (va_up (va_up (fun _ => none) 0 (some (u 0 16))) 1 (some (u 0 17)))))))))] : va_W) ++ (w_S ca (u 0 17) (u 15) ++ (w_S ca (u 0 16) (u 14) ++ (w_S ca (u 0 15) (u 13) ++ (w_S ca (u 0 14) (u 12) ++ (w_S ca (u 0 13) (u 11) ++ (w_S ca (u 0 12) (u 10) ++ (w_S ca (u 0 11) (u 9) ++ (w_S ca (u 0 10) (u 8) ++ (w_F ca (u 0 9) (u 7) ++ (w_B ca (u 0 8) (u 6) ++ (w_O ca (u 0 7) (u 5) ++ (w_O ca (u 0 6) (u 4) ++ (w_G ca (u 0 5) (u 3) ++ (w_P ca (u 0 4) (u 2) ++ ([(u 0 3, .inl (ca 1, (2, .inl (fun _ => 0))))] ++ (w_S ca (u 0 2) (u 1) ++ ([] : va_W)))))))))))))))))
set_option maxRecDepth 100000 in
set_option maxHeartbeats 16000000 in
theorem c_X_init (l : Launch) (D : va_G) (ca : Nat → ClassId) (h0 sz : Nat) : zCn l D ca y_X_init b_X_init 2 zr_X h0 (.inr (1, zb_X)) sz (w_X ca h0) := by
  refine zCn_of (by decide +kernel) rfl (by decide) ?_
  intro X G C Kk hR hl hD hca
  subst hl hD hca
  have C : zC X G b_X_init "GateRoads" 2 none 2 41 := C
  refine q_eq (ws' := ([(h0, .inr (1, [.null, .null, .int (zI 0), .null, .null, .int (zI 0), .null, .int (zI 0), .null, .null, .null, .null, .null]))] : va_W) ++ ([] : va_W)) rfl ?_
  refine q_aload_n C d_X_init_0 0 rfl rfl ?_
  refine q_objInit C zl_X zo_i zo_c d_X_init_1 rfl rfl ?_
  refine q_aload_n C d_X_init_4 0 rfl rfl ?_
  refine q_new (ci := 0) (fs := zb_S) C Kk.2.1 t_S t_S_ok i_S zc_X_9 zt_S zy_S rfl zf_S d_X_init_5 hR rfl rfl (fun q1 => ?_)
  refine q_dup C d_X_init_8 rfl ?_
  refine q_callI C Kk.2.1 Kk.2.2 d_X_init_9 (fun sz => c_S_init (xl X) (gD G) (gca G) q1 sz) ml_X_11 zm_S zy_S zk_S zd_S rfl rfl hR rfl rfl rfl rfl (fun u1 => ?_)
  refine q_perm (zPmR ([(h0, .inr (1, [.null, .null, .int (zI 0), .null, .null, .int (zI 0), .null, .int (zI 0), .null, .null, .null, .null, .null]))] : va_W) ([] : va_W) (w_S (gca G) q1 u1)) ?_
  refine q_putF (q0 := 0) (kf := 0) (ws' := ([(h0, .inr (1, [.ref q1, .null, .int (zI 0), .null, .null, .int (zI 0), .null, .int (zI 0), .null, .null, .null, .null, .null]))] : va_W) ++ (w_S (gca G) q1 u1 ++ ([] : va_W))) C Kk t_X d_X_init_12 rfl rfl i_X t_X_ok n_X rfl fl_X_12 rfl rfl rfl rfl rfl rfl ?_
  refine q_aload_n C d_X_init_15 0 rfl rfl ?_
  refine q_bipush C d_X_init_16 rfl ?_
  refine q_newq (N := 6) C Kk zc_X_9 d_X_init_18 rfl rfl hR rfl rfl (fun q2 => ?_)
  refine q_perm (zPmA ([(h0, .inr (1, [.ref q1, .null, .int (zI 0), .null, .null, .int (zI 0), .null, .int (zI 0), .null, .null, .null, .null, .null]))] : va_W) (w_S (gca G) q1 u1 ++ ([] : va_W)) [(q2, .inl ((gca G) 3, (6, .inr (.inr (.inr (.inr (fun _ => none)))))))]) ?_
  refine q_eq (ws' := ([(h0, .inr (1, [.ref q1, .null, .int (zI 0), .null, .null, .int (zI 0), .null, .int (zI 0), .null, .null, .null, .null, .null])), (q2, .inl ((gca G) 3, (6, .inr (.inr (.inr (.inr (fun _ => none)))))))] : va_W) ++ (w_S (gca G) q1 u1 ++ ([] : va_W))) rfl ?_
  refine q_putF (q0 := 0) (kf := 1) (ws' := ([(h0, .inr (1, [.ref q1, .ref q2, .int (zI 0), .null, .null, .int (zI 0), .null, .int (zI 0), .null, .null, .null, .null, .null])), (q2, .inl ((gca G) 3, (6, .inr (.inr (.inr (.inr (fun _ => none)))))))] : va_W) ++ (w_S (gca G) q1 u1 ++ ([] : va_W))) C Kk t_X d_X_init_21 rfl rfl i_X t_X_ok n_X rfl fl_X_16 rfl rfl rfl rfl rfl rfl ?_
  refine q_aload_n C d_X_init_24 0 rfl rfl ?_
  refine q_iconst C d_X_init_25 ?_
  refine q_newq (N := 2) C Kk zc_X_9 d_X_init_26 rfl rfl hR rfl rfl (fun q3 => ?_)
  refine q_perm (zPmA ([(h0, .inr (1, [.ref q1, .ref q2, .int (zI 0), .null, .null, .int (zI 0), .null, .int (zI 0), .null, .null, .null, .null, .null])), (q2, .inl ((gca G) 3, (6, .inr (.inr (.inr (.inr (fun _ => none)))))))] : va_W) (w_S (gca G) q1 u1 ++ ([] : va_W)) [(q3, .inl ((gca G) 3, (2, .inr (.inr (.inr (.inr (fun _ => none)))))))]) ?_
  refine q_eq (ws' := ([(h0, .inr (1, [.ref q1, .ref q2, .int (zI 0), .null, .null, .int (zI 0), .null, .int (zI 0), .null, .null, .null, .null, .null])), (q2, .inl ((gca G) 3, (6, .inr (.inr (.inr (.inr (fun _ => none))))))), (q3, .inl ((gca G) 3, (2, .inr (.inr (.inr (.inr (fun _ => none)))))))] : va_W) ++ (w_S (gca G) q1 u1 ++ ([] : va_W))) rfl ?_
  refine q_putF (q0 := 0) (kf := 3) (ws' := ([(h0, .inr (1, [.ref q1, .ref q2, .int (zI 0), .ref q3, .null, .int (zI 0), .null, .int (zI 0), .null, .null, .null, .null, .null])), (q2, .inl ((gca G) 3, (6, .inr (.inr (.inr (.inr (fun _ => none))))))), (q3, .inl ((gca G) 3, (2, .inr (.inr (.inr (.inr (fun _ => none)))))))] : va_W) ++ (w_S (gca G) q1 u1 ++ ([] : va_W))) C Kk t_X d_X_init_29 rfl rfl i_X t_X_ok n_X rfl fl_X_20 rfl rfl rfl rfl rfl rfl ?_
  refine q_aload_n C d_X_init_32 0 rfl rfl ?_
  refine q_iconst C d_X_init_33 ?_
  refine q_newa (ty := .boolean) (t := 1) (N := 2) C Kk za_boolean rfl rfl rfl d_X_init_34 rfl rfl hR rfl rfl (fun q4 => ?_)
  refine q_perm (zPmR ([(h0, .inr (1, [.ref q1, .ref q2, .int (zI 0), .ref q3, .null, .int (zI 0), .null, .int (zI 0), .null, .null, .null, .null, .null])), (q2, .inl ((gca G) 3, (6, .inr (.inr (.inr (.inr (fun _ => none))))))), (q3, .inl ((gca G) 3, (2, .inr (.inr (.inr (.inr (fun _ => none)))))))] : va_W) (w_S (gca G) q1 u1 ++ ([] : va_W)) [(q4, .inl ((gca G) 1, (2, .inl (fun _ => 0))))]) ?_
  refine q_putF (q0 := 0) (kf := 4) (ws' := ([(h0, .inr (1, [.ref q1, .ref q2, .int (zI 0), .ref q3, .ref q4, .int (zI 0), .null, .int (zI 0), .null, .null, .null, .null, .null])), (q2, .inl ((gca G) 3, (6, .inr (.inr (.inr (.inr (fun _ => none))))))), (q3, .inl ((gca G) 3, (2, .inr (.inr (.inr (.inr (fun _ => none)))))))] : va_W) ++ ([(q4, .inl ((gca G) 1, (2, .inl (fun _ => 0))))] ++ (w_S (gca G) q1 u1 ++ ([] : va_W)))) C Kk t_X d_X_init_36 rfl rfl i_X t_X_ok n_X rfl fl_X_23 rfl rfl rfl rfl rfl rfl ?_
  refine q_aload_n C d_X_init_39 0 rfl rfl ?_
  refine q_new (ci := 2) (fs := zb_P) C Kk.2.1 t_P t_P_ok i_P zc_X_27 zt_P zy_P rfl zf_P d_X_init_40 hR rfl rfl (fun q5 => ?_)
  refine q_dup C d_X_init_43 rfl ?_
  refine q_callIN (host := "GateRoads") C Kk.2.1 Kk.2.2 d_X_init_44 (fun sz => c_P_init (xl X) (gD G) (gca G) q5 sz) (by decide) zm_P zy_P zk_P zd_P rfl rfl hR rfl rfl rfl rfl (fun u5 => ?_)
  refine q_perm (zPmR ([(h0, .inr (1, [.ref q1, .ref q2, .int (zI 0), .ref q3, .ref q4, .int (zI 0), .null, .int (zI 0), .null, .null, .null, .null, .null])), (q2, .inl ((gca G) 3, (6, .inr (.inr (.inr (.inr (fun _ => none))))))), (q3, .inl ((gca G) 3, (2, .inr (.inr (.inr (.inr (fun _ => none)))))))] : va_W) ([(q4, .inl ((gca G) 1, (2, .inl (fun _ => 0))))] ++ (w_S (gca G) q1 u1 ++ ([] : va_W))) (w_P (gca G) q5 u5)) ?_
  refine q_putF (q0 := 0) (kf := 6) (ws' := ([(h0, .inr (1, [.ref q1, .ref q2, .int (zI 0), .ref q3, .ref q4, .int (zI 0), .ref q5, .int (zI 0), .null, .null, .null, .null, .null])), (q2, .inl ((gca G) 3, (6, .inr (.inr (.inr (.inr (fun _ => none))))))), (q3, .inl ((gca G) 3, (2, .inr (.inr (.inr (.inr (fun _ => none)))))))] : va_W) ++ (w_P (gca G) q5 u5 ++ ([(q4, .inl ((gca G) 1, (2, .inl (fun _ => 0))))] ++ (w_S (gca G) q1 u1 ++ ([] : va_W))))) C Kk t_X d_X_init_47 rfl rfl i_X t_X_ok n_X rfl fl_X_30 rfl rfl rfl rfl rfl rfl ?_
  refine q_aload_n C d_X_init_50 0 rfl rfl ?_
  refine q_new (ci := 3) (fs := zb_G) C Kk.2.1 t_G t_G_ok i_G zc_X_34 zt_G zy_G rfl zf_G d_X_init_51 hR rfl rfl (fun q6 => ?_)
  refine q_dup C d_X_init_54 rfl ?_
  refine q_callIN (host := "GateRoads") C Kk.2.1 Kk.2.2 d_X_init_55 (fun sz => c_G_init (xl X) (gD G) (gca G) q6 sz) (by decide) zm_G zy_G zk_G zd_G rfl rfl hR rfl rfl rfl rfl (fun u6 => ?_)
  refine q_perm (zPmR ([(h0, .inr (1, [.ref q1, .ref q2, .int (zI 0), .ref q3, .ref q4, .int (zI 0), .ref q5, .int (zI 0), .null, .null, .null, .null, .null])), (q2, .inl ((gca G) 3, (6, .inr (.inr (.inr (.inr (fun _ => none))))))), (q3, .inl ((gca G) 3, (2, .inr (.inr (.inr (.inr (fun _ => none)))))))] : va_W) (w_P (gca G) q5 u5 ++ ([(q4, .inl ((gca G) 1, (2, .inl (fun _ => 0))))] ++ (w_S (gca G) q1 u1 ++ ([] : va_W)))) (w_G (gca G) q6 u6)) ?_
  refine q_putF (q0 := 0) (kf := 8) (ws' := ([(h0, .inr (1, [.ref q1, .ref q2, .int (zI 0), .ref q3, .ref q4, .int (zI 0), .ref q5, .int (zI 0), .ref q6, .null, .null, .null, .null])), (q2, .inl ((gca G) 3, (6, .inr (.inr (.inr (.inr (fun _ => none))))))), (q3, .inl ((gca G) 3, (2, .inr (.inr (.inr (.inr (fun _ => none)))))))] : va_W) ++ (w_G (gca G) q6 u6 ++ (w_P (gca G) q5 u5 ++ ([(q4, .inl ((gca G) 1, (2, .inl (fun _ => 0))))] ++ (w_S (gca G) q1 u1 ++ ([] : va_W)))))) C Kk t_X d_X_init_58 rfl rfl i_X t_X_ok n_X rfl fl_X_37 rfl rfl rfl rfl rfl rfl ?_
  refine q_aload_n C d_X_init_61 0 rfl rfl ?_
  refine q_new (ci := 4) (fs := zb_O) C Kk.2.1 t_O t_O_ok i_O zc_X_41 zt_O zy_O rfl zf_O d_X_init_62 hR rfl rfl (fun q7 => ?_)
  refine q_dup C d_X_init_65 rfl ?_
  refine q_callIN (host := "GateRoads") C Kk.2.1 Kk.2.2 d_X_init_66 (fun sz => c_O_init (xl X) (gD G) (gca G) q7 sz) (by decide) zm_O zy_O zk_O zd_O rfl rfl hR rfl rfl rfl rfl (fun u7 => ?_)
  refine q_perm (zPmR ([(h0, .inr (1, [.ref q1, .ref q2, .int (zI 0), .ref q3, .ref q4, .int (zI 0), .ref q5, .int (zI 0), .ref q6, .null, .null, .null, .null])), (q2, .inl ((gca G) 3, (6, .inr (.inr (.inr (.inr (fun _ => none))))))), (q3, .inl ((gca G) 3, (2, .inr (.inr (.inr (.inr (fun _ => none)))))))] : va_W) (w_G (gca G) q6 u6 ++ (w_P (gca G) q5 u5 ++ ([(q4, .inl ((gca G) 1, (2, .inl (fun _ => 0))))] ++ (w_S (gca G) q1 u1 ++ ([] : va_W))))) (w_O (gca G) q7 u7)) ?_
  refine q_putF (q0 := 0) (kf := 9) (ws' := ([(h0, .inr (1, [.ref q1, .ref q2, .int (zI 0), .ref q3, .ref q4, .int (zI 0), .ref q5, .int (zI 0), .ref q6, .ref q7, .null, .null, .null])), (q2, .inl ((gca G) 3, (6, .inr (.inr (.inr (.inr (fun _ => none))))))), (q3, .inl ((gca G) 3, (2, .inr (.inr (.inr (.inr (fun _ => none)))))))] : va_W) ++ (w_O (gca G) q7 u7 ++ (w_G (gca G) q6 u6 ++ (w_P (gca G) q5 u5 ++ ([(q4, .inl ((gca G) 1, (2, .inl (fun _ => 0))))] ++ (w_S (gca G) q1 u1 ++ ([] : va_W))))))) C Kk t_X d_X_init_69 rfl rfl i_X t_X_ok n_X rfl fl_X_44 rfl rfl rfl rfl rfl rfl ?_
  refine q_aload_n C d_X_init_72 0 rfl rfl ?_
  refine q_new (ci := 4) (fs := zb_O) C Kk.2.1 t_O t_O_ok i_O zc_X_41 zt_O zy_O rfl zf_O d_X_init_73 hR rfl rfl (fun q8 => ?_)
  refine q_dup C d_X_init_76 rfl ?_
  refine q_callIN (host := "GateRoads") C Kk.2.1 Kk.2.2 d_X_init_77 (fun sz => c_O_init (xl X) (gD G) (gca G) q8 sz) (by decide) zm_O zy_O zk_O zd_O rfl rfl hR rfl rfl rfl rfl (fun u8 => ?_)
  refine q_perm (zPmR ([(h0, .inr (1, [.ref q1, .ref q2, .int (zI 0), .ref q3, .ref q4, .int (zI 0), .ref q5, .int (zI 0), .ref q6, .ref q7, .null, .null, .null])), (q2, .inl ((gca G) 3, (6, .inr (.inr (.inr (.inr (fun _ => none))))))), (q3, .inl ((gca G) 3, (2, .inr (.inr (.inr (.inr (fun _ => none)))))))] : va_W) (w_O (gca G) q7 u7 ++ (w_G (gca G) q6 u6 ++ (w_P (gca G) q5 u5 ++ ([(q4, .inl ((gca G) 1, (2, .inl (fun _ => 0))))] ++ (w_S (gca G) q1 u1 ++ ([] : va_W)))))) (w_O (gca G) q8 u8)) ?_
  refine q_putF (q0 := 0) (kf := 10) (ws' := ([(h0, .inr (1, [.ref q1, .ref q2, .int (zI 0), .ref q3, .ref q4, .int (zI 0), .ref q5, .int (zI 0), .ref q6, .ref q7, .ref q8, .null, .null])), (q2, .inl ((gca G) 3, (6, .inr (.inr (.inr (.inr (fun _ => none))))))), (q3, .inl ((gca G) 3, (2, .inr (.inr (.inr (.inr (fun _ => none)))))))] : va_W) ++ (w_O (gca G) q8 u8 ++ (w_O (gca G) q7 u7 ++ (w_G (gca G) q6 u6 ++ (w_P (gca G) q5 u5 ++ ([(q4, .inl ((gca G) 1, (2, .inl (fun _ => 0))))] ++ (w_S (gca G) q1 u1 ++ ([] : va_W)))))))) C Kk t_X d_X_init_80 rfl rfl i_X t_X_ok n_X rfl fl_X_48 rfl rfl rfl rfl rfl rfl ?_
  refine q_aload_n C d_X_init_83 0 rfl rfl ?_
  refine q_new (ci := 5) (fs := zb_B) C Kk.2.1 t_B t_B_ok i_B zc_X_51 zt_B zy_B rfl zf_B d_X_init_84 hR rfl rfl (fun q9 => ?_)
  refine q_dup C d_X_init_87 rfl ?_
  refine q_callIN (host := "GateRoads") C Kk.2.1 Kk.2.2 d_X_init_88 (fun sz => c_B_init (xl X) (gD G) (gca G) q9 sz) (by decide) zm_B zy_B zk_B zd_B rfl rfl hR rfl rfl rfl rfl (fun u9 => ?_)
  refine q_perm (zPmR ([(h0, .inr (1, [.ref q1, .ref q2, .int (zI 0), .ref q3, .ref q4, .int (zI 0), .ref q5, .int (zI 0), .ref q6, .ref q7, .ref q8, .null, .null])), (q2, .inl ((gca G) 3, (6, .inr (.inr (.inr (.inr (fun _ => none))))))), (q3, .inl ((gca G) 3, (2, .inr (.inr (.inr (.inr (fun _ => none)))))))] : va_W) (w_O (gca G) q8 u8 ++ (w_O (gca G) q7 u7 ++ (w_G (gca G) q6 u6 ++ (w_P (gca G) q5 u5 ++ ([(q4, .inl ((gca G) 1, (2, .inl (fun _ => 0))))] ++ (w_S (gca G) q1 u1 ++ ([] : va_W))))))) (w_B (gca G) q9 u9)) ?_
  refine q_putF (q0 := 0) (kf := 11) (ws' := ([(h0, .inr (1, [.ref q1, .ref q2, .int (zI 0), .ref q3, .ref q4, .int (zI 0), .ref q5, .int (zI 0), .ref q6, .ref q7, .ref q8, .ref q9, .null])), (q2, .inl ((gca G) 3, (6, .inr (.inr (.inr (.inr (fun _ => none))))))), (q3, .inl ((gca G) 3, (2, .inr (.inr (.inr (.inr (fun _ => none)))))))] : va_W) ++ (w_B (gca G) q9 u9 ++ (w_O (gca G) q8 u8 ++ (w_O (gca G) q7 u7 ++ (w_G (gca G) q6 u6 ++ (w_P (gca G) q5 u5 ++ ([(q4, .inl ((gca G) 1, (2, .inl (fun _ => 0))))] ++ (w_S (gca G) q1 u1 ++ ([] : va_W))))))))) C Kk t_X d_X_init_91 rfl rfl i_X t_X_ok n_X rfl fl_X_54 rfl rfl rfl rfl rfl rfl ?_
  refine q_aload_n C d_X_init_94 0 rfl rfl ?_
  refine q_new (ci := 6) (fs := zb_F) C Kk.2.1 t_F t_F_ok i_F zc_X_58 zt_F zy_F rfl zf_F d_X_init_95 hR rfl rfl (fun q10 => ?_)
  refine q_dup C d_X_init_98 rfl ?_
  refine q_callIN (host := "GateRoads") C Kk.2.1 Kk.2.2 d_X_init_99 (fun sz => c_F_init (xl X) (gD G) (gca G) q10 sz) (by decide) zm_F zy_F zk_F zd_F rfl rfl hR rfl rfl rfl rfl (fun u10 => ?_)
  refine q_perm (zPmR ([(h0, .inr (1, [.ref q1, .ref q2, .int (zI 0), .ref q3, .ref q4, .int (zI 0), .ref q5, .int (zI 0), .ref q6, .ref q7, .ref q8, .ref q9, .null])), (q2, .inl ((gca G) 3, (6, .inr (.inr (.inr (.inr (fun _ => none))))))), (q3, .inl ((gca G) 3, (2, .inr (.inr (.inr (.inr (fun _ => none)))))))] : va_W) (w_B (gca G) q9 u9 ++ (w_O (gca G) q8 u8 ++ (w_O (gca G) q7 u7 ++ (w_G (gca G) q6 u6 ++ (w_P (gca G) q5 u5 ++ ([(q4, .inl ((gca G) 1, (2, .inl (fun _ => 0))))] ++ (w_S (gca G) q1 u1 ++ ([] : va_W)))))))) (w_F (gca G) q10 u10)) ?_
  refine q_putF (q0 := 0) (kf := 12) (ws' := ([(h0, .inr (1, [.ref q1, .ref q2, .int (zI 0), .ref q3, .ref q4, .int (zI 0), .ref q5, .int (zI 0), .ref q6, .ref q7, .ref q8, .ref q9, .ref q10])), (q2, .inl ((gca G) 3, (6, .inr (.inr (.inr (.inr (fun _ => none))))))), (q3, .inl ((gca G) 3, (2, .inr (.inr (.inr (.inr (fun _ => none)))))))] : va_W) ++ (w_F (gca G) q10 u10 ++ (w_B (gca G) q9 u9 ++ (w_O (gca G) q8 u8 ++ (w_O (gca G) q7 u7 ++ (w_G (gca G) q6 u6 ++ (w_P (gca G) q5 u5 ++ ([(q4, .inl ((gca G) 1, (2, .inl (fun _ => 0))))] ++ (w_S (gca G) q1 u1 ++ ([] : va_W)))))))))) C Kk t_X d_X_init_102 rfl rfl i_X t_X_ok n_X rfl fl_X_61 rfl rfl rfl rfl rfl rfl ?_
  refine q_iconst C d_X_init_105 ?_
  refine q_istore_n (L' := [(1, .int (zI 0)), (0, .ref h0)]) C d_X_init_106 rfl rfl rfl ?_
  refine q_sub (L' := [(0, .ref h0), (1, .int (zI 0))]) [1, 0] rfl ?_
  refine q_iload_n C d_X_init_107 1 rfl rfl ?_
  refine q_bipush C d_X_init_108 rfl ?_
  refine q_icmp_ge (tgt := 132) C d_X_init_110 rfl (zR_of (x := 0) rfl) (zR_of (x := 6) rfl) (fun c => absurd c (by decide)) (fun c => ?_)
  refine q_aload_n C d_X_init_113 0 rfl rfl ?_
  refine q_getr (q0 := 0) (kf := 1) C d_X_init_114 rfl rfl i_X rfl fl_X_16 rfl ?_
  refine q_iload_n C d_X_init_117 1 rfl rfl ?_
  refine q_new (ci := 0) (fs := zb_S) C Kk.2.1 t_S t_S_ok i_S zc_X_9 zt_S zy_S rfl zf_S d_X_init_118 hR rfl rfl (fun q11 => ?_)
  refine q_dup C d_X_init_121 rfl ?_
  refine q_callI C Kk.2.1 Kk.2.2 d_X_init_122 (fun sz => c_S_init (xl X) (gD G) (gca G) q11 sz) ml_X_11 zm_S zy_S zk_S zd_S rfl rfl hR rfl rfl rfl rfl (fun u11 => ?_)
  refine q_perm (zPmR ([(h0, .inr (1, [.ref q1, .ref q2, .int (zI 0), .ref q3, .ref q4, .int (zI 0), .ref q5, .int (zI 0), .ref q6, .ref q7, .ref q8, .ref q9, .ref q10])), (q2, .inl ((gca G) 3, (6, .inr (.inr (.inr (.inr (fun _ => none))))))), (q3, .inl ((gca G) 3, (2, .inr (.inr (.inr (.inr (fun _ => none)))))))] : va_W) (w_F (gca G) q10 u10 ++ (w_B (gca G) q9 u9 ++ (w_O (gca G) q8 u8 ++ (w_O (gca G) q7 u7 ++ (w_G (gca G) q6 u6 ++ (w_P (gca G) q5 u5 ++ ([(q4, .inl ((gca G) 1, (2, .inl (fun _ => 0))))] ++ (w_S (gca G) q1 u1 ++ ([] : va_W))))))))) (w_S (gca G) q11 u11)) ?_
  refine q_aastore (q0 := 1) (qk := 3) (ws' := ([(h0, .inr (1, [.ref q1, .ref q2, .int (zI 0), .ref q3, .ref q4, .int (zI 0), .ref q5, .int (zI 0), .ref q6, .ref q7, .ref q8, .ref q9, .ref q10])), (q2, .inl ((gca G) 3, (6, .inr (.inr (.inr (.inr (va_up (fun _ => none) 0 (some q11)))))))), (q3, .inl ((gca G) 3, (2, .inr (.inr (.inr (.inr (fun _ => none)))))))] : va_W) ++ (w_S (gca G) q11 u11 ++ (w_F (gca G) q10 u10 ++ (w_B (gca G) q9 u9 ++ (w_O (gca G) q8 u8 ++ (w_O (gca G) q7 u7 ++ (w_G (gca G) q6 u6 ++ (w_P (gca G) q5 u5 ++ ([(q4, .inl ((gca G) 1, (2, .inl (fun _ => 0))))] ++ (w_S (gca G) q1 u1 ++ ([] : va_W))))))))))) C d_X_init_125 rfl rfl ⟨by decide, by decide⟩ rfl rfl ?_
  refine q_iinc (L' := [(1, .int (zI 1)), (0, .ref h0)]) C d_X_init_126 1 rfl rfl rfl ?_
  refine q_sub (L' := [(0, .ref h0), (1, .int (zI 1))]) [1, 0] rfl ?_
  refine q_goto (tgt := 107) C d_X_init_129 rfl ?_
  refine q_iload_n C d_X_init_107 1 rfl rfl ?_
  refine q_bipush C d_X_init_108 rfl ?_
  refine q_icmp_ge (tgt := 132) C d_X_init_110 rfl (zR_of (x := 1) rfl) (zR_of (x := 6) rfl) (fun c => absurd c (by decide)) (fun c => ?_)
  refine q_aload_n C d_X_init_113 0 rfl rfl ?_
  refine q_getr (q0 := 0) (kf := 1) C d_X_init_114 rfl rfl i_X rfl fl_X_16 rfl ?_
  refine q_iload_n C d_X_init_117 1 rfl rfl ?_
  refine q_new (ci := 0) (fs := zb_S) C Kk.2.1 t_S t_S_ok i_S zc_X_9 zt_S zy_S rfl zf_S d_X_init_118 hR rfl rfl (fun q12 => ?_)
  refine q_dup C d_X_init_121 rfl ?_
  refine q_callI C Kk.2.1 Kk.2.2 d_X_init_122 (fun sz => c_S_init (xl X) (gD G) (gca G) q12 sz) ml_X_11 zm_S zy_S zk_S zd_S rfl rfl hR rfl rfl rfl rfl (fun u12 => ?_)
  refine q_perm (zPmR ([(h0, .inr (1, [.ref q1, .ref q2, .int (zI 0), .ref q3, .ref q4, .int (zI 0), .ref q5, .int (zI 0), .ref q6, .ref q7, .ref q8, .ref q9, .ref q10])), (q2, .inl ((gca G) 3, (6, .inr (.inr (.inr (.inr (va_up (fun _ => none) 0 (some q11)))))))), (q3, .inl ((gca G) 3, (2, .inr (.inr (.inr (.inr (fun _ => none)))))))] : va_W) (w_S (gca G) q11 u11 ++ (w_F (gca G) q10 u10 ++ (w_B (gca G) q9 u9 ++ (w_O (gca G) q8 u8 ++ (w_O (gca G) q7 u7 ++ (w_G (gca G) q6 u6 ++ (w_P (gca G) q5 u5 ++ ([(q4, .inl ((gca G) 1, (2, .inl (fun _ => 0))))] ++ (w_S (gca G) q1 u1 ++ ([] : va_W)))))))))) (w_S (gca G) q12 u12)) ?_
  refine q_aastore (q0 := 1) (qk := 3) (ws' := ([(h0, .inr (1, [.ref q1, .ref q2, .int (zI 0), .ref q3, .ref q4, .int (zI 0), .ref q5, .int (zI 0), .ref q6, .ref q7, .ref q8, .ref q9, .ref q10])), (q2, .inl ((gca G) 3, (6, .inr (.inr (.inr (.inr (va_up (va_up (fun _ => none) 0 (some q11)) 1 (some q12)))))))), (q3, .inl ((gca G) 3, (2, .inr (.inr (.inr (.inr (fun _ => none)))))))] : va_W) ++ (w_S (gca G) q12 u12 ++ (w_S (gca G) q11 u11 ++ (w_F (gca G) q10 u10 ++ (w_B (gca G) q9 u9 ++ (w_O (gca G) q8 u8 ++ (w_O (gca G) q7 u7 ++ (w_G (gca G) q6 u6 ++ (w_P (gca G) q5 u5 ++ ([(q4, .inl ((gca G) 1, (2, .inl (fun _ => 0))))] ++ (w_S (gca G) q1 u1 ++ ([] : va_W)))))))))))) C d_X_init_125 rfl rfl ⟨by decide, by decide⟩ rfl rfl ?_
  refine q_iinc (L' := [(1, .int (zI 2)), (0, .ref h0)]) C d_X_init_126 1 rfl rfl rfl ?_
  refine q_sub (L' := [(0, .ref h0), (1, .int (zI 2))]) [1, 0] rfl ?_
  refine q_goto (tgt := 107) C d_X_init_129 rfl ?_
  refine q_iload_n C d_X_init_107 1 rfl rfl ?_
  refine q_bipush C d_X_init_108 rfl ?_
  refine q_icmp_ge (tgt := 132) C d_X_init_110 rfl (zR_of (x := 2) rfl) (zR_of (x := 6) rfl) (fun c => absurd c (by decide)) (fun c => ?_)
  refine q_aload_n C d_X_init_113 0 rfl rfl ?_
  refine q_getr (q0 := 0) (kf := 1) C d_X_init_114 rfl rfl i_X rfl fl_X_16 rfl ?_
  refine q_iload_n C d_X_init_117 1 rfl rfl ?_
  refine q_new (ci := 0) (fs := zb_S) C Kk.2.1 t_S t_S_ok i_S zc_X_9 zt_S zy_S rfl zf_S d_X_init_118 hR rfl rfl (fun q13 => ?_)
  refine q_dup C d_X_init_121 rfl ?_
  refine q_callI C Kk.2.1 Kk.2.2 d_X_init_122 (fun sz => c_S_init (xl X) (gD G) (gca G) q13 sz) ml_X_11 zm_S zy_S zk_S zd_S rfl rfl hR rfl rfl rfl rfl (fun u13 => ?_)
  refine q_perm (zPmR ([(h0, .inr (1, [.ref q1, .ref q2, .int (zI 0), .ref q3, .ref q4, .int (zI 0), .ref q5, .int (zI 0), .ref q6, .ref q7, .ref q8, .ref q9, .ref q10])), (q2, .inl ((gca G) 3, (6, .inr (.inr (.inr (.inr (va_up (va_up (fun _ => none) 0 (some q11)) 1 (some q12)))))))), (q3, .inl ((gca G) 3, (2, .inr (.inr (.inr (.inr (fun _ => none)))))))] : va_W) (w_S (gca G) q12 u12 ++ (w_S (gca G) q11 u11 ++ (w_F (gca G) q10 u10 ++ (w_B (gca G) q9 u9 ++ (w_O (gca G) q8 u8 ++ (w_O (gca G) q7 u7 ++ (w_G (gca G) q6 u6 ++ (w_P (gca G) q5 u5 ++ ([(q4, .inl ((gca G) 1, (2, .inl (fun _ => 0))))] ++ (w_S (gca G) q1 u1 ++ ([] : va_W))))))))))) (w_S (gca G) q13 u13)) ?_
  refine q_aastore (q0 := 1) (qk := 3) (ws' := ([(h0, .inr (1, [.ref q1, .ref q2, .int (zI 0), .ref q3, .ref q4, .int (zI 0), .ref q5, .int (zI 0), .ref q6, .ref q7, .ref q8, .ref q9, .ref q10])), (q2, .inl ((gca G) 3, (6, .inr (.inr (.inr (.inr (va_up (va_up (va_up (fun _ => none) 0 (some q11)) 1 (some q12)) 2 (some q13)))))))), (q3, .inl ((gca G) 3, (2, .inr (.inr (.inr (.inr (fun _ => none)))))))] : va_W) ++ (w_S (gca G) q13 u13 ++ (w_S (gca G) q12 u12 ++ (w_S (gca G) q11 u11 ++ (w_F (gca G) q10 u10 ++ (w_B (gca G) q9 u9 ++ (w_O (gca G) q8 u8 ++ (w_O (gca G) q7 u7 ++ (w_G (gca G) q6 u6 ++ (w_P (gca G) q5 u5 ++ ([(q4, .inl ((gca G) 1, (2, .inl (fun _ => 0))))] ++ (w_S (gca G) q1 u1 ++ ([] : va_W))))))))))))) C d_X_init_125 rfl rfl ⟨by decide, by decide⟩ rfl rfl ?_
  refine q_iinc (L' := [(1, .int (zI 3)), (0, .ref h0)]) C d_X_init_126 1 rfl rfl rfl ?_
  refine q_sub (L' := [(0, .ref h0), (1, .int (zI 3))]) [1, 0] rfl ?_
  refine q_goto (tgt := 107) C d_X_init_129 rfl ?_
  refine q_iload_n C d_X_init_107 1 rfl rfl ?_
  refine q_bipush C d_X_init_108 rfl ?_
  refine q_icmp_ge (tgt := 132) C d_X_init_110 rfl (zR_of (x := 3) rfl) (zR_of (x := 6) rfl) (fun c => absurd c (by decide)) (fun c => ?_)
  refine q_aload_n C d_X_init_113 0 rfl rfl ?_
  refine q_getr (q0 := 0) (kf := 1) C d_X_init_114 rfl rfl i_X rfl fl_X_16 rfl ?_
  refine q_iload_n C d_X_init_117 1 rfl rfl ?_
  refine q_new (ci := 0) (fs := zb_S) C Kk.2.1 t_S t_S_ok i_S zc_X_9 zt_S zy_S rfl zf_S d_X_init_118 hR rfl rfl (fun q14 => ?_)
  refine q_dup C d_X_init_121 rfl ?_
  refine q_callI C Kk.2.1 Kk.2.2 d_X_init_122 (fun sz => c_S_init (xl X) (gD G) (gca G) q14 sz) ml_X_11 zm_S zy_S zk_S zd_S rfl rfl hR rfl rfl rfl rfl (fun u14 => ?_)
  refine q_perm (zPmR ([(h0, .inr (1, [.ref q1, .ref q2, .int (zI 0), .ref q3, .ref q4, .int (zI 0), .ref q5, .int (zI 0), .ref q6, .ref q7, .ref q8, .ref q9, .ref q10])), (q2, .inl ((gca G) 3, (6, .inr (.inr (.inr (.inr (va_up (va_up (va_up (fun _ => none) 0 (some q11)) 1 (some q12)) 2 (some q13)))))))), (q3, .inl ((gca G) 3, (2, .inr (.inr (.inr (.inr (fun _ => none)))))))] : va_W) (w_S (gca G) q13 u13 ++ (w_S (gca G) q12 u12 ++ (w_S (gca G) q11 u11 ++ (w_F (gca G) q10 u10 ++ (w_B (gca G) q9 u9 ++ (w_O (gca G) q8 u8 ++ (w_O (gca G) q7 u7 ++ (w_G (gca G) q6 u6 ++ (w_P (gca G) q5 u5 ++ ([(q4, .inl ((gca G) 1, (2, .inl (fun _ => 0))))] ++ (w_S (gca G) q1 u1 ++ ([] : va_W)))))))))))) (w_S (gca G) q14 u14)) ?_
  refine q_aastore (q0 := 1) (qk := 3) (ws' := ([(h0, .inr (1, [.ref q1, .ref q2, .int (zI 0), .ref q3, .ref q4, .int (zI 0), .ref q5, .int (zI 0), .ref q6, .ref q7, .ref q8, .ref q9, .ref q10])), (q2, .inl ((gca G) 3, (6, .inr (.inr (.inr (.inr (va_up (va_up (va_up (va_up (fun _ => none) 0 (some q11)) 1 (some q12)) 2 (some q13)) 3 (some q14)))))))), (q3, .inl ((gca G) 3, (2, .inr (.inr (.inr (.inr (fun _ => none)))))))] : va_W) ++ (w_S (gca G) q14 u14 ++ (w_S (gca G) q13 u13 ++ (w_S (gca G) q12 u12 ++ (w_S (gca G) q11 u11 ++ (w_F (gca G) q10 u10 ++ (w_B (gca G) q9 u9 ++ (w_O (gca G) q8 u8 ++ (w_O (gca G) q7 u7 ++ (w_G (gca G) q6 u6 ++ (w_P (gca G) q5 u5 ++ ([(q4, .inl ((gca G) 1, (2, .inl (fun _ => 0))))] ++ (w_S (gca G) q1 u1 ++ ([] : va_W)))))))))))))) C d_X_init_125 rfl rfl ⟨by decide, by decide⟩ rfl rfl ?_
  refine q_iinc (L' := [(1, .int (zI 4)), (0, .ref h0)]) C d_X_init_126 1 rfl rfl rfl ?_
  refine q_sub (L' := [(0, .ref h0), (1, .int (zI 4))]) [1, 0] rfl ?_
  refine q_goto (tgt := 107) C d_X_init_129 rfl ?_
  refine q_iload_n C d_X_init_107 1 rfl rfl ?_
  refine q_bipush C d_X_init_108 rfl ?_
  refine q_icmp_ge (tgt := 132) C d_X_init_110 rfl (zR_of (x := 4) rfl) (zR_of (x := 6) rfl) (fun c => absurd c (by decide)) (fun c => ?_)
  refine q_aload_n C d_X_init_113 0 rfl rfl ?_
  refine q_getr (q0 := 0) (kf := 1) C d_X_init_114 rfl rfl i_X rfl fl_X_16 rfl ?_
  refine q_iload_n C d_X_init_117 1 rfl rfl ?_
  refine q_new (ci := 0) (fs := zb_S) C Kk.2.1 t_S t_S_ok i_S zc_X_9 zt_S zy_S rfl zf_S d_X_init_118 hR rfl rfl (fun q15 => ?_)
  refine q_dup C d_X_init_121 rfl ?_
  refine q_callI C Kk.2.1 Kk.2.2 d_X_init_122 (fun sz => c_S_init (xl X) (gD G) (gca G) q15 sz) ml_X_11 zm_S zy_S zk_S zd_S rfl rfl hR rfl rfl rfl rfl (fun u15 => ?_)
  refine q_perm (zPmR ([(h0, .inr (1, [.ref q1, .ref q2, .int (zI 0), .ref q3, .ref q4, .int (zI 0), .ref q5, .int (zI 0), .ref q6, .ref q7, .ref q8, .ref q9, .ref q10])), (q2, .inl ((gca G) 3, (6, .inr (.inr (.inr (.inr (va_up (va_up (va_up (va_up (fun _ => none) 0 (some q11)) 1 (some q12)) 2 (some q13)) 3 (some q14)))))))), (q3, .inl ((gca G) 3, (2, .inr (.inr (.inr (.inr (fun _ => none)))))))] : va_W) (w_S (gca G) q14 u14 ++ (w_S (gca G) q13 u13 ++ (w_S (gca G) q12 u12 ++ (w_S (gca G) q11 u11 ++ (w_F (gca G) q10 u10 ++ (w_B (gca G) q9 u9 ++ (w_O (gca G) q8 u8 ++ (w_O (gca G) q7 u7 ++ (w_G (gca G) q6 u6 ++ (w_P (gca G) q5 u5 ++ ([(q4, .inl ((gca G) 1, (2, .inl (fun _ => 0))))] ++ (w_S (gca G) q1 u1 ++ ([] : va_W))))))))))))) (w_S (gca G) q15 u15)) ?_
  refine q_aastore (q0 := 1) (qk := 3) (ws' := ([(h0, .inr (1, [.ref q1, .ref q2, .int (zI 0), .ref q3, .ref q4, .int (zI 0), .ref q5, .int (zI 0), .ref q6, .ref q7, .ref q8, .ref q9, .ref q10])), (q2, .inl ((gca G) 3, (6, .inr (.inr (.inr (.inr (va_up (va_up (va_up (va_up (va_up (fun _ => none) 0 (some q11)) 1 (some q12)) 2 (some q13)) 3 (some q14)) 4 (some q15)))))))), (q3, .inl ((gca G) 3, (2, .inr (.inr (.inr (.inr (fun _ => none)))))))] : va_W) ++ (w_S (gca G) q15 u15 ++ (w_S (gca G) q14 u14 ++ (w_S (gca G) q13 u13 ++ (w_S (gca G) q12 u12 ++ (w_S (gca G) q11 u11 ++ (w_F (gca G) q10 u10 ++ (w_B (gca G) q9 u9 ++ (w_O (gca G) q8 u8 ++ (w_O (gca G) q7 u7 ++ (w_G (gca G) q6 u6 ++ (w_P (gca G) q5 u5 ++ ([(q4, .inl ((gca G) 1, (2, .inl (fun _ => 0))))] ++ (w_S (gca G) q1 u1 ++ ([] : va_W))))))))))))))) C d_X_init_125 rfl rfl ⟨by decide, by decide⟩ rfl rfl ?_
  refine q_iinc (L' := [(1, .int (zI 5)), (0, .ref h0)]) C d_X_init_126 1 rfl rfl rfl ?_
  refine q_sub (L' := [(0, .ref h0), (1, .int (zI 5))]) [1, 0] rfl ?_
  refine q_goto (tgt := 107) C d_X_init_129 rfl ?_
  refine q_iload_n C d_X_init_107 1 rfl rfl ?_
  refine q_bipush C d_X_init_108 rfl ?_
  refine q_icmp_ge (tgt := 132) C d_X_init_110 rfl (zR_of (x := 5) rfl) (zR_of (x := 6) rfl) (fun c => absurd c (by decide)) (fun c => ?_)
  refine q_aload_n C d_X_init_113 0 rfl rfl ?_
  refine q_getr (q0 := 0) (kf := 1) C d_X_init_114 rfl rfl i_X rfl fl_X_16 rfl ?_
  refine q_iload_n C d_X_init_117 1 rfl rfl ?_
  refine q_new (ci := 0) (fs := zb_S) C Kk.2.1 t_S t_S_ok i_S zc_X_9 zt_S zy_S rfl zf_S d_X_init_118 hR rfl rfl (fun q16 => ?_)
  refine q_dup C d_X_init_121 rfl ?_
  refine q_callI C Kk.2.1 Kk.2.2 d_X_init_122 (fun sz => c_S_init (xl X) (gD G) (gca G) q16 sz) ml_X_11 zm_S zy_S zk_S zd_S rfl rfl hR rfl rfl rfl rfl (fun u16 => ?_)
  refine q_perm (zPmR ([(h0, .inr (1, [.ref q1, .ref q2, .int (zI 0), .ref q3, .ref q4, .int (zI 0), .ref q5, .int (zI 0), .ref q6, .ref q7, .ref q8, .ref q9, .ref q10])), (q2, .inl ((gca G) 3, (6, .inr (.inr (.inr (.inr (va_up (va_up (va_up (va_up (va_up (fun _ => none) 0 (some q11)) 1 (some q12)) 2 (some q13)) 3 (some q14)) 4 (some q15)))))))), (q3, .inl ((gca G) 3, (2, .inr (.inr (.inr (.inr (fun _ => none)))))))] : va_W) (w_S (gca G) q15 u15 ++ (w_S (gca G) q14 u14 ++ (w_S (gca G) q13 u13 ++ (w_S (gca G) q12 u12 ++ (w_S (gca G) q11 u11 ++ (w_F (gca G) q10 u10 ++ (w_B (gca G) q9 u9 ++ (w_O (gca G) q8 u8 ++ (w_O (gca G) q7 u7 ++ (w_G (gca G) q6 u6 ++ (w_P (gca G) q5 u5 ++ ([(q4, .inl ((gca G) 1, (2, .inl (fun _ => 0))))] ++ (w_S (gca G) q1 u1 ++ ([] : va_W)))))))))))))) (w_S (gca G) q16 u16)) ?_
  refine q_aastore (q0 := 1) (qk := 3) (ws' := ([(h0, .inr (1, [.ref q1, .ref q2, .int (zI 0), .ref q3, .ref q4, .int (zI 0), .ref q5, .int (zI 0), .ref q6, .ref q7, .ref q8, .ref q9, .ref q10])), (q2, .inl ((gca G) 3, (6, .inr (.inr (.inr (.inr (va_up (va_up (va_up (va_up (va_up (va_up (fun _ => none) 0 (some q11)) 1 (some q12)) 2 (some q13)) 3 (some q14)) 4 (some q15)) 5 (some q16)))))))), (q3, .inl ((gca G) 3, (2, .inr (.inr (.inr (.inr (fun _ => none)))))))] : va_W) ++ (w_S (gca G) q16 u16 ++ (w_S (gca G) q15 u15 ++ (w_S (gca G) q14 u14 ++ (w_S (gca G) q13 u13 ++ (w_S (gca G) q12 u12 ++ (w_S (gca G) q11 u11 ++ (w_F (gca G) q10 u10 ++ (w_B (gca G) q9 u9 ++ (w_O (gca G) q8 u8 ++ (w_O (gca G) q7 u7 ++ (w_G (gca G) q6 u6 ++ (w_P (gca G) q5 u5 ++ ([(q4, .inl ((gca G) 1, (2, .inl (fun _ => 0))))] ++ (w_S (gca G) q1 u1 ++ ([] : va_W)))))))))))))))) C d_X_init_125 rfl rfl ⟨by decide, by decide⟩ rfl rfl ?_
  refine q_iinc (L' := [(1, .int (zI 6)), (0, .ref h0)]) C d_X_init_126 1 rfl rfl rfl ?_
  refine q_sub (L' := [(0, .ref h0), (1, .int (zI 6))]) [1, 0] rfl ?_
  refine q_goto (tgt := 107) C d_X_init_129 rfl ?_
  refine q_iload_n C d_X_init_107 1 rfl rfl ?_
  refine q_bipush C d_X_init_108 rfl ?_
  refine q_icmp_ge (tgt := 132) C d_X_init_110 rfl (zR_of (x := 6) rfl) (zR_of (x := 6) rfl) (fun c => ?_) (fun c => absurd (by decide) c)
  refine q_iconst C d_X_init_132 ?_
  refine q_istore_n (L' := [(1, .int (zI 0)), (0, .ref h0)]) C d_X_init_133 rfl rfl rfl ?_
  refine q_sub (L' := [(0, .ref h0), (1, .int (zI 0))]) [1, 0] rfl ?_
  refine q_iload_n C d_X_init_134 1 rfl rfl ?_
  refine q_iconst C d_X_init_135 ?_
  refine q_icmp_ge (tgt := 158) C d_X_init_136 rfl (zR_of (x := 0) rfl) (zR_of (x := 2) rfl) (fun c => absurd c (by decide)) (fun c => ?_)
  refine q_aload_n C d_X_init_139 0 rfl rfl ?_
  refine q_getr (q0 := 0) (kf := 3) C d_X_init_140 rfl rfl i_X rfl fl_X_20 rfl ?_
  refine q_iload_n C d_X_init_143 1 rfl rfl ?_
  refine q_new (ci := 0) (fs := zb_S) C Kk.2.1 t_S t_S_ok i_S zc_X_9 zt_S zy_S rfl zf_S d_X_init_144 hR rfl rfl (fun q17 => ?_)
  refine q_dup C d_X_init_147 rfl ?_
  refine q_callI C Kk.2.1 Kk.2.2 d_X_init_148 (fun sz => c_S_init (xl X) (gD G) (gca G) q17 sz) ml_X_11 zm_S zy_S zk_S zd_S rfl rfl hR rfl rfl rfl rfl (fun u17 => ?_)
  refine q_perm (zPmR ([(h0, .inr (1, [.ref q1, .ref q2, .int (zI 0), .ref q3, .ref q4, .int (zI 0), .ref q5, .int (zI 0), .ref q6, .ref q7, .ref q8, .ref q9, .ref q10])), (q2, .inl ((gca G) 3, (6, .inr (.inr (.inr (.inr (va_up (va_up (va_up (va_up (va_up (va_up (fun _ => none) 0 (some q11)) 1 (some q12)) 2 (some q13)) 3 (some q14)) 4 (some q15)) 5 (some q16)))))))), (q3, .inl ((gca G) 3, (2, .inr (.inr (.inr (.inr (fun _ => none)))))))] : va_W) (w_S (gca G) q16 u16 ++ (w_S (gca G) q15 u15 ++ (w_S (gca G) q14 u14 ++ (w_S (gca G) q13 u13 ++ (w_S (gca G) q12 u12 ++ (w_S (gca G) q11 u11 ++ (w_F (gca G) q10 u10 ++ (w_B (gca G) q9 u9 ++ (w_O (gca G) q8 u8 ++ (w_O (gca G) q7 u7 ++ (w_G (gca G) q6 u6 ++ (w_P (gca G) q5 u5 ++ ([(q4, .inl ((gca G) 1, (2, .inl (fun _ => 0))))] ++ (w_S (gca G) q1 u1 ++ ([] : va_W))))))))))))))) (w_S (gca G) q17 u17)) ?_
  refine q_aastore (q0 := 2) (qk := 3) (ws' := ([(h0, .inr (1, [.ref q1, .ref q2, .int (zI 0), .ref q3, .ref q4, .int (zI 0), .ref q5, .int (zI 0), .ref q6, .ref q7, .ref q8, .ref q9, .ref q10])), (q2, .inl ((gca G) 3, (6, .inr (.inr (.inr (.inr (va_up (va_up (va_up (va_up (va_up (va_up (fun _ => none) 0 (some q11)) 1 (some q12)) 2 (some q13)) 3 (some q14)) 4 (some q15)) 5 (some q16)))))))), (q3, .inl ((gca G) 3, (2, .inr (.inr (.inr (.inr (va_up (fun _ => none) 0 (some q17))))))))] : va_W) ++ (w_S (gca G) q17 u17 ++ (w_S (gca G) q16 u16 ++ (w_S (gca G) q15 u15 ++ (w_S (gca G) q14 u14 ++ (w_S (gca G) q13 u13 ++ (w_S (gca G) q12 u12 ++ (w_S (gca G) q11 u11 ++ (w_F (gca G) q10 u10 ++ (w_B (gca G) q9 u9 ++ (w_O (gca G) q8 u8 ++ (w_O (gca G) q7 u7 ++ (w_G (gca G) q6 u6 ++ (w_P (gca G) q5 u5 ++ ([(q4, .inl ((gca G) 1, (2, .inl (fun _ => 0))))] ++ (w_S (gca G) q1 u1 ++ ([] : va_W))))))))))))))))) C d_X_init_151 rfl rfl ⟨by decide, by decide⟩ rfl rfl ?_
  refine q_iinc (L' := [(1, .int (zI 1)), (0, .ref h0)]) C d_X_init_152 1 rfl rfl rfl ?_
  refine q_sub (L' := [(0, .ref h0), (1, .int (zI 1))]) [1, 0] rfl ?_
  refine q_goto (tgt := 134) C d_X_init_155 rfl ?_
  refine q_iload_n C d_X_init_134 1 rfl rfl ?_
  refine q_iconst C d_X_init_135 ?_
  refine q_icmp_ge (tgt := 158) C d_X_init_136 rfl (zR_of (x := 1) rfl) (zR_of (x := 2) rfl) (fun c => absurd c (by decide)) (fun c => ?_)
  refine q_aload_n C d_X_init_139 0 rfl rfl ?_
  refine q_getr (q0 := 0) (kf := 3) C d_X_init_140 rfl rfl i_X rfl fl_X_20 rfl ?_
  refine q_iload_n C d_X_init_143 1 rfl rfl ?_
  refine q_new (ci := 0) (fs := zb_S) C Kk.2.1 t_S t_S_ok i_S zc_X_9 zt_S zy_S rfl zf_S d_X_init_144 hR rfl rfl (fun q18 => ?_)
  refine q_dup C d_X_init_147 rfl ?_
  refine q_callI C Kk.2.1 Kk.2.2 d_X_init_148 (fun sz => c_S_init (xl X) (gD G) (gca G) q18 sz) ml_X_11 zm_S zy_S zk_S zd_S rfl rfl hR rfl rfl rfl rfl (fun u18 => ?_)
  refine q_perm (zPmR ([(h0, .inr (1, [.ref q1, .ref q2, .int (zI 0), .ref q3, .ref q4, .int (zI 0), .ref q5, .int (zI 0), .ref q6, .ref q7, .ref q8, .ref q9, .ref q10])), (q2, .inl ((gca G) 3, (6, .inr (.inr (.inr (.inr (va_up (va_up (va_up (va_up (va_up (va_up (fun _ => none) 0 (some q11)) 1 (some q12)) 2 (some q13)) 3 (some q14)) 4 (some q15)) 5 (some q16)))))))), (q3, .inl ((gca G) 3, (2, .inr (.inr (.inr (.inr (va_up (fun _ => none) 0 (some q17))))))))] : va_W) (w_S (gca G) q17 u17 ++ (w_S (gca G) q16 u16 ++ (w_S (gca G) q15 u15 ++ (w_S (gca G) q14 u14 ++ (w_S (gca G) q13 u13 ++ (w_S (gca G) q12 u12 ++ (w_S (gca G) q11 u11 ++ (w_F (gca G) q10 u10 ++ (w_B (gca G) q9 u9 ++ (w_O (gca G) q8 u8 ++ (w_O (gca G) q7 u7 ++ (w_G (gca G) q6 u6 ++ (w_P (gca G) q5 u5 ++ ([(q4, .inl ((gca G) 1, (2, .inl (fun _ => 0))))] ++ (w_S (gca G) q1 u1 ++ ([] : va_W)))))))))))))))) (w_S (gca G) q18 u18)) ?_
  refine q_aastore (q0 := 2) (qk := 3) (ws' := ([(h0, .inr (1, [.ref q1, .ref q2, .int (zI 0), .ref q3, .ref q4, .int (zI 0), .ref q5, .int (zI 0), .ref q6, .ref q7, .ref q8, .ref q9, .ref q10])), (q2, .inl ((gca G) 3, (6, .inr (.inr (.inr (.inr (va_up (va_up (va_up (va_up (va_up (va_up (fun _ => none) 0 (some q11)) 1 (some q12)) 2 (some q13)) 3 (some q14)) 4 (some q15)) 5 (some q16)))))))), (q3, .inl ((gca G) 3, (2, .inr (.inr (.inr (.inr (va_up (va_up (fun _ => none) 0 (some q17)) 1 (some q18))))))))] : va_W) ++ (w_S (gca G) q18 u18 ++ (w_S (gca G) q17 u17 ++ (w_S (gca G) q16 u16 ++ (w_S (gca G) q15 u15 ++ (w_S (gca G) q14 u14 ++ (w_S (gca G) q13 u13 ++ (w_S (gca G) q12 u12 ++ (w_S (gca G) q11 u11 ++ (w_F (gca G) q10 u10 ++ (w_B (gca G) q9 u9 ++ (w_O (gca G) q8 u8 ++ (w_O (gca G) q7 u7 ++ (w_G (gca G) q6 u6 ++ (w_P (gca G) q5 u5 ++ ([(q4, .inl ((gca G) 1, (2, .inl (fun _ => 0))))] ++ (w_S (gca G) q1 u1 ++ ([] : va_W)))))))))))))))))) C d_X_init_151 rfl rfl ⟨by decide, by decide⟩ rfl rfl ?_
  refine q_iinc (L' := [(1, .int (zI 2)), (0, .ref h0)]) C d_X_init_152 1 rfl rfl rfl ?_
  refine q_sub (L' := [(0, .ref h0), (1, .int (zI 2))]) [1, 0] rfl ?_
  refine q_goto (tgt := 134) C d_X_init_155 rfl ?_
  refine q_iload_n C d_X_init_134 1 rfl rfl ?_
  refine q_iconst C d_X_init_135 ?_
  refine q_icmp_ge (tgt := 158) C d_X_init_136 rfl (zR_of (x := 2) rfl) (zR_of (x := 2) rfl) (fun c => ?_) (fun c => absurd (by decide) c)
  exact q_vreturn C (fun n => ([fun n => [q2, q3, q1, q4, q5, q6, q7, q8, q9, q10, q11, q12, q13, q14, q15, q16, q17, q18].getD n 0, u1, u5, u6, u7, u8, u9, u10, u11, u12, u13, u14, u15, u16, u17, u18] : List (Nat → Nat)).getD n (fun _ => 0)) d_X_init_158 rfl rfl rfl
