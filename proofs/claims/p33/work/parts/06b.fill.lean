set_option maxRecDepth 100000 in
set_option maxHeartbeats 4000000 in
theorem w_Ar_fill_0_L5 {X : zX} {G : zG} (C : zC X G b_Ar_fill_0 "java/util/Arrays" 4 none 0 0) {σ0 : zM} {an len : Nat} (han : zShp[an]? = some (.inl (0, len))) {v : Int} (hv : zR v) : ∀ (k : Nat) (i : Int) (σ : zM), i = (len : Int) - k → 0 ≤ i → zRM σ → σ = zFl σ0 an 0 i v → zJ X G (zQv X G (fun u => u = zFl σ0 an 0 (len : Int) v)) 4 5 [(0, .ref (gad G an)), (1, .int (zI v)), (2, .int (zI i)), (3, .int (zI (len : Int)))] [] σ := by
  have hl := zLen han
  have hR : ∀ x : Int, 0 ≤ x → x ≤ (len : Int) → zR x := fun x h1 h2 => ⟨by omega, by omega⟩
  intro k
  induction k with
  | zero =>
    intro i σ hi h0 hσ e
    refine j_iload_n C d_Ar_fill_0_5 2 rfl rfl ?_
    refine j_iload_n C d_Ar_fill_0_6 3 rfl rfl ?_
    refine j_icmp_ge (tgt := 20) C d_Ar_fill_0_7 rfl (hR i h0 (by omega)) (hR _ (by omega) (by omega)) (fun c => ?_) (fun c => absurd (by omega) c)
    refine j_vreturn C d_Ar_fill_0_20 hσ ?_
    rw [e, show i = (len : Int) by omega]
  | succ k ih =>
    intro i σ hi h0 hσ e
    refine j_iload_n C d_Ar_fill_0_5 2 rfl rfl ?_
    refine j_iload_n C d_Ar_fill_0_6 3 rfl rfl ?_
    refine j_icmp_ge (tgt := 20) C d_Ar_fill_0_7 rfl (hR i h0 (by omega)) (hR _ (by omega) (by omega)) (fun c => absurd c (by omega)) (fun c => ?_)
    refine j_aload_n C d_Ar_fill_0_10 0 rfl rfl ?_
    refine j_iload_n C d_Ar_fill_0_11 2 rfl rfl ?_
    refine j_iload_n C d_Ar_fill_0_12 1 rfl rfl ?_
    refine j_iastore C d_Ar_fill_0_13 han ⟨h0, by omega⟩ ?_
    refine j_iinc (L' := [(2, .int (zI (i + 1))), (0, .ref (gad G an)), (1, .int (zI v)), (3, .int (zI (len : Int)))]) C d_Ar_fill_0_14 2 rfl rfl rfl ?_
    refine j_goto (tgt := 5) C d_Ar_fill_0_17 rfl ?_
    refine j_sub (L' := [(0, .ref (gad G an)), (1, .int (zI v)), (2, .int (zI (i + 1))), (3, .int (zI (len : Int)))]) [1, 2, 0, 3] rfl ?_
    exact ih (i + 1) _ (by omega) (by omega) (zU_rg hσ _ _ hv) (by rw [e, zFl_1 _ _ h0])
set_option maxRecDepth 100000 in
set_option maxHeartbeats 4000000 in
theorem c_Ar_fill_0 (l : Launch) (D : va_G) (ad : Nat → Nat) (ca : Nat → ClassId) {σ : zM} (hσ : zRM σ) {an len : Nat} (han : zShp[an]? = some (.inl (0, len))) {v : Int} (hv : zR v) : zCv l D ad ca y_Ar_fill_0 b_Ar_fill_0 4 (zrm 0 0) [.ref (ad an), .int (zI v)] σ (fun u => u = zFl σ an 0 (len : Int) v) := by
  refine zCv_of (by decide +kernel) (Nat.le_of_ble_eq_true rfl) ?_
  intro X G C hl hD had hca
  subst hl hD had hca
  have C : zC X G b_Ar_fill_0 "java/util/Arrays" 4 none 0 0 := C
  show zJ X G (zQv X G _) 4 0 [(0, .ref (gad G an)), (1, .int (zI v))] [] σ
  refine j_iconst C d_Ar_fill_0_0 ?_
  refine j_istore_n (L' := [(2, .int (zI 0)), (0, .ref (gad G an)), (1, .int (zI v))]) C d_Ar_fill_0_1 rfl rfl rfl ?_
  refine j_aload_n C d_Ar_fill_0_2 1 rfl rfl ?_
  refine j_alen C d_Ar_fill_0_3 han ?_
  refine j_istore_n (L' := [(3, .int (zI (len : Int))), (2, .int (zI 0)), (0, .ref (gad G an)), (1, .int (zI v))]) C d_Ar_fill_0_4 rfl rfl rfl ?_
  refine j_sub (L' := [(0, .ref (gad G an)), (1, .int (zI v)), (2, .int (zI 0)), (3, .int (zI (len : Int)))]) [2, 3, 1, 0] rfl ?_
  exact w_Ar_fill_0_L5 C han hv len 0 σ (by omega) (by omega) hσ (zFl_0 _ _ _ _).symm
set_option maxRecDepth 100000 in
set_option maxHeartbeats 4000000 in
theorem c_Ar_rangeCheck (l : Launch) (D : va_G) (ad : Nat → Nat) (ca : Nat → ClassId) {σ : zM} (hσ : zRM σ) {n a b : Int} (hn : zR n) (h : 0 ≤ a ∧ a ≤ b ∧ b ≤ n) : zCv l D ad ca y_Ar_rangeCheck b_Ar_rangeCheck 3 (zrm 0 0) [.int (zI n), .int (zI a), .int (zI b)] σ (fun u => u = σ) := by
  refine zCv_of (by decide +kernel) (Nat.le_of_ble_eq_true rfl) ?_
  intro X G C hl hD had hca
  subst hl hD had hca
  have C : zC X G b_Ar_rangeCheck "java/util/Arrays" 3 none 0 0 := C
  have hn2 := hn.2
  have ha : zR a := ⟨by omega, by omega⟩
  have hb : zR b := ⟨by omega, by omega⟩
  show zJ X G (zQv X G _) 3 0 [(0, .int (zI n)), (1, .int (zI a)), (2, .int (zI b))] [] σ
  refine j_iload_n C d_Ar_rangeCheck_0 1 rfl rfl ?_
  refine j_iload_n C d_Ar_rangeCheck_1 2 rfl rfl ?_
  refine j_icmp_le (tgt := 46) C d_Ar_rangeCheck_2 rfl ha hb (fun c => ?_) (fun c => absurd h.2.1 c)
  refine j_iload_n C d_Ar_rangeCheck_46 1 rfl rfl ?_
  refine j_if_ge (tgt := 59) C d_Ar_rangeCheck_47 rfl ha (fun c => ?_) (fun c => absurd h.1 c)
  refine j_iload_n C d_Ar_rangeCheck_59 2 rfl rfl ?_
  refine j_iload_n C d_Ar_rangeCheck_60 0 rfl rfl ?_
  refine j_icmp_le (tgt := 73) C d_Ar_rangeCheck_61 rfl hb hn (fun c => ?_) (fun c => absurd h.2.2 c)
  exact j_vreturn C d_Ar_rangeCheck_73 hσ rfl
set_option maxRecDepth 100000 in
set_option maxHeartbeats 4000000 in
theorem w_Ar_fill_1_L10 {X : zX} {G : zG} (C : zC X G b_Ar_fill_1 "java/util/Arrays" 5 none 1 22) {σ0 : zM} {an len : Nat} (han : zShp[an]? = some (.inl (0, len))) {v lo hi : Int} (hv : zR v) (h : 0 ≤ lo ∧ lo ≤ hi ∧ hi ≤ (len : Int)) : ∀ (k : Nat) (i : Int) (σ : zM), i = hi - k → lo ≤ i → zRM σ → σ = zFl σ0 an lo i v → zJ X G (zQv X G (fun u => u = zFl σ0 an lo hi v)) 5 10 [(0, .ref (gad G an)), (2, .int (zI hi)), (3, .int (zI v)), (4, .int (zI i))] [] σ := by
  have hl := zLen han
  have hR : ∀ x : Int, 0 ≤ x → x ≤ (len : Int) → zR x := fun x h1 h2 => ⟨by omega, by omega⟩
  intro k
  induction k with
  | zero =>
    intro i σ hE h0 hσ e
    refine j_iload C d_Ar_fill_1_10 3 rfl ?_
    refine j_iload_n C d_Ar_fill_1_12 1 rfl rfl ?_
    refine j_icmp_ge (tgt := 27) C d_Ar_fill_1_13 rfl (hR i (by omega) (by omega)) (hR _ (by omega) (by omega)) (fun c => ?_) (fun c => absurd (by omega) c)
    refine j_vreturn C d_Ar_fill_1_27 hσ ?_
    rw [e, show i = hi by omega]
  | succ k ih =>
    intro i σ hE h0 hσ e
    refine j_iload C d_Ar_fill_1_10 3 rfl ?_
    refine j_iload_n C d_Ar_fill_1_12 1 rfl rfl ?_
    refine j_icmp_ge (tgt := 27) C d_Ar_fill_1_13 rfl (hR i (by omega) (by omega)) (hR _ (by omega) (by omega)) (fun c => absurd c (by omega)) (fun c => ?_)
    refine j_aload_n C d_Ar_fill_1_16 0 rfl rfl ?_
    refine j_iload C d_Ar_fill_1_17 3 rfl ?_
    refine j_iload_n C d_Ar_fill_1_19 2 rfl rfl ?_
    refine j_iastore C d_Ar_fill_1_20 han ⟨by omega, by omega⟩ ?_
    refine j_iinc (L' := [(4, .int (zI (i + 1))), (0, .ref (gad G an)), (2, .int (zI _)), (3, .int (zI v))]) C d_Ar_fill_1_21 3 rfl rfl rfl ?_
    refine j_goto (tgt := 10) C d_Ar_fill_1_24 rfl ?_
    refine j_sub (L' := [(0, .ref (gad G an)), (2, .int (zI _)), (3, .int (zI v)), (4, .int (zI (i + 1)))]) [1, 2, 3, 0] rfl ?_
    exact ih (i + 1) _ (by omega) (by omega) (zU_rg hσ _ _ hv) (by rw [e, zFl_1 _ _ h0])
set_option maxRecDepth 100000 in
set_option maxHeartbeats 4000000 in
theorem c_Ar_fill_1 (l : Launch) (D : va_G) (ad : Nat → Nat) (ca : Nat → ClassId) {σ : zM} (hσ : zRM σ) {an len : Nat} (han : zShp[an]? = some (.inl (0, len))) {v lo hi : Int} (hv : zR v) (h : 0 ≤ lo ∧ lo ≤ hi ∧ hi ≤ (len : Int)) : zCv l D ad ca y_Ar_fill_1 b_Ar_fill_1 5 (zrm 1 22) [.ref (ad an), .int (zI lo), .int (zI hi), .int (zI v)] σ (fun u => u = zFl σ an lo hi v) := by
  refine zCv_of (by decide +kernel) (Nat.le_of_ble_eq_true rfl) ?_
  intro X G C hl hD had hca
  subst hl hD had hca
  have C : zC X G b_Ar_fill_1 "java/util/Arrays" 5 none 1 22 := C
  have hlen := zLen han
  show zJ X G (zQv X G _) 5 0 [(0, .ref (gad G an)), (1, .int (zI lo)), (2, .int (zI hi)), (3, .int (zI v))] [] σ
  refine j_aload_n C d_Ar_fill_1_0 0 rfl rfl ?_
  refine j_alen C d_Ar_fill_1_1 han ?_
  refine j_iload_n C d_Ar_fill_1_2 1 rfl rfl ?_
  refine j_iload_n C d_Ar_fill_1_3 2 rfl rfl ?_
  refine j_callSv C d_Ar_fill_1_4 ml_Ar_13 ms_Ar_rangeCheck (c_Ar_rangeCheck (xl X) (gD G) (gad G) (gca G) hσ (n := (len : Int)) ⟨by omega, by omega⟩ h) rfl rfl rfl rfl rfl (fun σ1 h1 e1 => ?_)
  subst e1
  refine j_iload_n C d_Ar_fill_1_7 1 rfl rfl ?_
  refine j_istore (L' := [(4, .int (zI lo)), (0, .ref (gad G an)), (1, .int (zI lo)), (2, .int (zI hi)), (3, .int (zI v))]) C d_Ar_fill_1_8 rfl rfl ?_
  refine j_sub (L' := [(0, .ref (gad G an)), (2, .int (zI hi)), (3, .int (zI v)), (4, .int (zI lo))]) [1, 3, 4, 0] rfl ?_
  exact w_Ar_fill_1_L10 C han hv h (hi - lo).toNat lo _ (by omega) (by omega) hσ (zFl_0 _ _ _ _).symm
