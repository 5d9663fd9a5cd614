/-! roads, their spans, closures, travellers: the changes -/
theorem RXr_OKs {σ : zM} {A : Int → Int} {r : Int} (h : RXr σ A r) (n0 : 0 ≤ A (27 + 12 * r + 4)) (n3 : A (27 + 12 * r + 4) ≤ 3) (hs : OKs A (27 + 12 * r)) : OKs (σ 2) (r * 11) := by
  obtain ⟨h1, h2, -⟩ := h
  have e4 : σ 2 (r * 11 + 4) = A (27 + 12 * r + 4) := h1 4 (by omega) (by omega)
  have ef : ∀ s, 0 ≤ s → s < A (27 + 12 * r + 4) → σ 2 (r * 11 + (5 + 2 * s)) = A (27 + 12 * r + (5 + 2 * s)) := fun s s0 s1 => by
    have := (h2 s s0 (by omega)).1
    rw [if_pos s1] at this
    rw [← this]; congr 1; omega
  have et : ∀ s, 0 ≤ s → s < A (27 + 12 * r + 4) → σ 2 (r * 11 + (5 + 2 * s + 1)) = A (27 + 12 * r + (5 + 2 * s + 1)) := fun s s0 s1 => by
    have := (h2 s s0 (by omega)).2
    rw [if_pos s1] at this
    rw [← this]; congr 1; omega
  refine ⟨fun s s0 s1 => ?_, fun s u s0 su u1 => ?_⟩
  · rw [e4] at s1
    rw [ef s s0 s1, et s s0 s1]; exact hs.1 s s0 s1
  · rw [e4] at u1
    rw [ef u (by omega) u1, et s s0 (by omega)]; exact hs.2 s u s0 su u1
theorem RXr_iK {σ : zM} {A : Int → Int} {r : Int} (h : RXr σ A r) (n0 : 0 ≤ A (27 + 12 * r + 4)) (n3 : A (27 + 12 * r + 4) ≤ 3) (f : Int) : iK (σ 2) (r * 11) f = iK A (27 + 12 * r) f := by
  obtain ⟨h1, h2, -⟩ := h
  have e4 : σ 2 (r * 11 + 4) = A (27 + 12 * r + 4) := h1 4 (by omega) (by omega)
  have ef : ∀ s, 0 ≤ s → s < 3 → (s < A (27 + 12 * r + 4) ∧ σ 2 (r * 11 + (5 + 2 * s)) ≤ f ↔ s < A (27 + 12 * r + 4) ∧ A (27 + 12 * r + (5 + 2 * s)) ≤ f) := fun s s0 s3 => by
    by_cases s1 : s < A (27 + 12 * r + 4)
    · have := (h2 s s0 (by omega)).1
      rw [if_pos s1, show r * 11 + 5 + 2 * s = r * 11 + (5 + 2 * s) by omega] at this
      rw [this]
    · exact ⟨fun c => absurd c.1 s1, fun c => absurd c.1 s1⟩
  unfold iK
  rw [e4]
  simp only [ef 0 (by omega) (by omega), ef 1 (by omega) (by omega), ef 2 (by omega) (by omega)]
theorem RXr_ins {σ σ' : zM} {A A' : Int → Int} {r f t : Int} (h : RXr σ A r) (n0 : 0 ≤ A (27 + 12 * r + 4)) (n2 : A (27 + 12 * r + 4) ≤ 2) (hs : OKs A (27 + 12 * r)) (e2 : ∀ i, r * 11 ≤ i → i < r * 11 + 11 → σ' 2 i = iA (σ 2) (r * 11) f t i) (e3 : σ' 3 r = σ 3 r) (eA : ∀ c : Int, 0 ≤ c → c < 12 → A' (27 + 12 * r + c) = iA A (27 + 12 * r) f t (27 + 12 * r + c)) : RXr σ' A' r := by
  have hK := RXr_iK h n0 (by omega) f
  have hk1 := (iK_spec (f := f) hs n0 n2).2.1
  have hk0 := iK_rg A (27 + 12 * r) f
  obtain ⟨h1, h2, h3⟩ := h
  have e4 : σ 2 (r * 11 + 4) = A (27 + 12 * r + 4) := h1 4 (by omega) (by omega)
  refine ⟨fun c c0 c1 => ?_, fun s s0 s1 => ?_, ?_⟩
  · rw [e2 _ (by omega) (by omega), eA c c0 (by omega)]
    by_cases hc : c = 4
    · subst hc; rw [iA_4, iA_4, e4]
    · rw [iA_old (by omega) (by omega), iA_old (by omega) (by omega)]; exact h1 c c0 c1
  · rw [e2 _ (by omega) (by omega), e2 _ (by omega) (by omega), eA 4 (by omega) (by omega), eA _ (by omega) (by omega), eA _ (by omega) (by omega)]
    rw [show r * 11 + 5 + 2 * s = r * 11 + (5 + 2 * s) by omega, show r * 11 + (5 + 2 * s) + 1 = r * 11 + (5 + 2 * s + 1) by omega, iA_from s0, iA_to s0, iA_from s0, iA_to s0, iA_4, hK, e4]
    by_cases c1 : s = iK A (27 + 12 * r) f
    · rw [if_pos c1, if_pos c1, if_pos c1, if_pos c1, if_pos (by omega), if_pos (by omega)]; exact ⟨rfl, rfl⟩
    · rw [if_neg c1, if_neg c1, if_neg c1, if_neg c1]
      by_cases c2 : iK A (27 + 12 * r) f < s ∧ s ≤ A (27 + 12 * r + 4)
      · rw [if_pos c2, if_pos c2, if_pos c2, if_pos c2, if_pos (by omega), if_pos (by omega)]
        have := h2 (s - 1) (by omega) (by omega)
        rw [if_pos (by omega), if_pos (by omega)] at this
        rw [show r * 11 + (5 + 2 * (s - 1)) = r * 11 + 5 + 2 * (s - 1) by omega, show r * 11 + (5 + 2 * (s - 1) + 1) = r * 11 + 5 + 2 * (s - 1) + 1 by omega]
        exact this
      · rw [if_neg c2, if_neg c2, if_neg c2, if_neg c2]
        have := h2 s s0 s1
        rw [show r * 11 + (5 + 2 * s) = r * 11 + 5 + 2 * s by omega, show r * 11 + (5 + 2 * s + 1) = r * 11 + 5 + 2 * s + 1 by omega]
        by_cases c3 : s < A (27 + 12 * r + 4)
        · rw [if_pos c3, if_pos c3] at this
          rw [if_pos (by omega), if_pos (by omega)]; exact this
        · rw [if_neg c3, if_neg c3] at this
          rw [if_neg (by omega), if_neg (by omega)]; exact this
  · rw [e3, eA 11 (by omega) (by omega), iA_old (by omega) (by omega)]; exact h3
def mD (σ : zM) (r s : Int) : zM := zFl (zU (zU σ 2 (r * 11 + 3) s) 2 (r * 11 + 4) 0) 2 (r * 11 + 5) (r * 11 + 11) (-6)
theorem mD_n {σ : zM} {r s : Int} {p : Nat} (h : p ≠ 2) : mD σ r s p = σ p := by
  unfold mD
  rw [zFl_n h, zU_n h, zU_n h]
theorem mD_g {σ : zM} {r s i : Int} : mD σ r s 2 i = if r * 11 + 5 ≤ i ∧ i < r * 11 + 11 then -6 else if i = r * 11 + 4 then 0 else if i = r * 11 + 3 then s else σ 2 i := by
  unfold mD
  rw [zFl_g, zU_g, zU_g]
theorem S_dropSpans {σ : zM} {r s : Int} {Q : zM → Prop} (r0 : 0 ≤ r) (r1 : r < 24) (k : Q (mD σ r s)) : wp_S_dropSpans σ r s Q := by
  unfold wp_S_dropSpans
  refine ⟨zRi (by omega) (by omega), by omega, ?_⟩
  rintro _ rfl
  refine ⟨by omega, ?_⟩
  rintro _ rfl
  refine ⟨zRi (by omega) (by omega), zRi (by omega) (by omega), by omega, ?_⟩
  rintro _ rfl
  exact k
theorem RXr_drop {σ σ' : zM} {A A' : Int → Int} {r s : Int} (h : RXr σ A r) (e2 : ∀ i, r * 11 ≤ i → i < r * 11 + 11 → σ' 2 i = mD σ r s 2 i) (e3 : σ' 3 r = σ 3 r) (eA : ∀ c : Int, (0 ≤ c ∧ c < 3) ∨ c = 11 → A' (27 + 12 * r + c) = A (27 + 12 * r + c)) (es : A' (27 + 12 * r + 3) = s) (e4 : A' (27 + 12 * r + 4) = 0) : RXr σ' A' r := by
  obtain ⟨h1, h2, h3⟩ := h
  refine ⟨fun c c0 c1 => ?_, fun s s0 s1 => ?_, ?_⟩
  · rw [e2 _ (by omega) (by omega), mD_g, if_neg (by omega)]
    by_cases hc : c = 4
    · subst hc; rw [if_pos rfl, e4]
    · rw [if_neg (by omega)]
      by_cases hc : c = 3
      · subst hc; rw [if_pos rfl, es]
      · rw [if_neg (by omega), eA c (by omega)]; exact h1 c c0 c1
  · rw [e2 _ (by omega) (by omega), e2 _ (by omega) (by omega), mD_g, mD_g, if_pos (by omega), e4, if_neg (by omega), if_pos (by omega), if_neg (by omega)]; exact ⟨rfl, rfl⟩
  · rw [e3, eA 11 (by omega)]; exact h3
/-- the row of a road with one span -/
theorem RXr_one {σ σ' : zM} {A A' : Int → Int} {r s f t : Int} (h : RXr σ A r) (e2 : ∀ i, r * 11 ≤ i → i < r * 11 + 11 → σ' 2 i = iA (mD σ r s 2) (r * 11) f t i) (e3 : σ' 3 r = σ 3 r) (eA : ∀ c : Int, (0 ≤ c ∧ c < 3) ∨ c = 11 → A' (27 + 12 * r + c) = A (27 + 12 * r + c)) (es : A' (27 + 12 * r + 3) = s) (e4 : A' (27 + 12 * r + 4) = 1) (ef : A' (27 + 12 * r + 5) = f) (et : A' (27 + 12 * r + 6) = t) : RXr σ' A' r := by
  obtain ⟨h1, h2, h3⟩ := h
  have d4 : mD σ r s 2 (r * 11 + 4) = 0 := by rw [mD_g, if_neg (by omega), if_pos rfl]
  have hk : iK (mD σ r s 2) (r * 11) f = 0 := by
    unfold iK
    rw [d4, if_neg (by omega), if_neg (by omega), if_neg (by omega)]; rfl
  refine ⟨fun c c0 c1 => ?_, fun u s0 s1 => ?_, ?_⟩
  · rw [e2 _ (by omega) (by omega)]
    by_cases hc : c = 4
    · subst hc; rw [iA_4, d4, e4]; rfl
    · rw [iA_old (by omega) (by omega), mD_g, if_neg (by omega), if_neg (by omega)]
      by_cases hc : c = 3
      · subst hc; rw [if_pos rfl, es]
      · rw [if_neg (by omega), eA c (by omega)]; exact h1 c c0 c1
  · rw [e2 _ (by omega) (by omega), e2 _ (by omega) (by omega), show r * 11 + 5 + 2 * u = r * 11 + (5 + 2 * u) by omega, show r * 11 + (5 + 2 * u) + 1 = r * 11 + (5 + 2 * u + 1) by omega, iA_from s0, iA_to s0, hk, d4, e4]
    by_cases hu : u = 0
    · subst hu
      rw [if_pos rfl, if_pos rfl, if_pos (by omega), if_pos (by omega)]
      exact ⟨by rw [← ef]; rfl, by rw [← et]; rfl⟩
    · rw [if_neg hu, if_neg hu, if_neg (by omega), if_neg (by omega), if_neg (by omega), if_neg (by omega), mD_g, mD_g, if_pos (by omega), if_pos (by omega)]; exact ⟨rfl, rfl⟩
  · rw [e3, eA 11 (by omega)]; exact h3
theorem OKr_OKs {A : Int → Int} {B r : Int} (h : OKr A B r) : OKs A (27 + 12 * r) := ⟨h.2.2.2.2.2.1, h.2.2.2.2.2.2.1⟩
/-- road -/
def mRoad (τ : zM) (a b c : Int) : zM := zU (zU (zU (zU (zU (zU (zU (zU (zU τ 80 (27 + 12 * τ 80 0 + 0) a) 80 (27 + 12 * τ 80 0 + 1) b) 80 (27 + 12 * τ 80 0 + 2) c) 80 (27 + 12 * τ 80 0 + 3) 0) 80 (27 + 12 * τ 80 0 + 4) 1) 80 (27 + 12 * τ 80 0 + 5) 0) 80 (27 + 12 * τ 80 0 + 5 + 1) 1440) 80 (27 + 12 * τ 80 0 + 11) 0) 80 0 (τ 80 0 + 1)
theorem Fr_mRoad {x y : zM} {a b c : Int} (h : Fr x y) : Fr (mRoad x a b c) (mRoad y a b c) := by
  unfold mRoad
  rw [h 80 (by omega)]
  exact Fr_zU2 (Fr_zU2 (Fr_zU2 (Fr_zU2 (Fr_zU2 (Fr_zU2 (Fr_zU2 (Fr_zU2 (Fr_zU2 h))))))))
theorem FrM_mRoad {x : zM} {a b c : Int} : FrM x (mRoad x a b c) := fun n hn => by
  unfold mRoad
  simp (disch := omega) only [zU_n]
theorem M_road_ok {σ : zM} {a b c : Int} {Q : Int → zM → Prop} (h4 : 0 ≤ σ 79 4 ∧ σ 79 4 ≤ 6) (h0 : 0 ≤ σ 80 0 ∧ σ 80 0 < 24) (ha : 0 ≤ a ∧ a ≤ 7) (hb : 0 ≤ b ∧ b ≤ 7) (hab : ¬ a = b) (hc : 1 ≤ c ∧ c ≤ 600) (k : Q (σ 80 0) (mRoad (mRec σ) a b c)) : wp_M_road σ a b c Q := by
  have hne : ¬ σ 80 0 = 24 := by omega
  unfold wp_M_road
  simp only [M_isPlace, M_isIn, zIf1, ha, hb, hc, hab, hne, true_and, not_true, not_false_eq_true, false_implies, true_implies, and_true, and_self]
  refine M_records h4.1 h4.2 ?_
  have e0 : mRec σ 80 0 = σ 80 0 := by rw [mRec_n (by omega) (by omega)]
  unfold mRoad at k
  rw [e0] at k ⊢
  refine ⟨zRi (by omega) (by omega), by omega, ?_⟩
  rintro _ rfl
  refine ⟨by omega, ?_⟩
  rintro _ rfl
  refine ⟨by omega, ?_⟩
  rintro _ rfl
  refine ⟨by omega, ?_⟩
  rintro _ rfl
  refine ⟨by omega, ?_⟩
  rintro _ rfl
  refine ⟨by omega, ?_⟩
  rintro _ rfl
  refine ⟨by omega, ?_⟩
  rintro _ rfl
  refine ⟨by omega, ?_⟩
  rintro σ9 e9
  have e90 : σ9 80 0 = σ 80 0 := by rw [e9]; simp (disch := omega) only [zU_j, e0]
  rw [e90]
  refine ⟨zRi (by omega) (by omega), ?_⟩
  rintro _ rfl
  rw [zU_s, show σ 80 0 + 1 - 1 = σ 80 0 by omega, e9]
  exact ⟨zRi (by omega) (by omega), k⟩
theorem op_road {B : Int} {σ : zM} (hB : 0 ≤ B) (h : Rel B σ) (a b c : Int) : wp_X_road σ a b c (fun r σ1 => wp_M_road σ1 a b c (fun r' σ2 => r = r' ∧ Rel B σ2)) := by
  have hA0 := h.2.2.2.2.2.1.1
  have e5 : σ 0 5 = σ 80 0 := h.1.1.1
  have bb := hA0.1
  by_cases h1 : 0 ≤ a ∧ a ≤ 7
  rotate_left
  · simp [wp_X_road, wp_M_road, X_isPlace, X_within, M_isPlace, M_isIn, h1, h]
  by_cases h2 : 0 ≤ b ∧ b ≤ 7
  rotate_left
  · simp [wp_X_road, wp_M_road, X_isPlace, X_within, M_isPlace, M_isIn, h1, h2, h]
  by_cases h3 : a = b
  · simp [wp_X_road, wp_M_road, X_isPlace, X_within, M_isPlace, M_isIn, h2, h3, h]
  by_cases h4 : 1 ≤ c ∧ c ≤ 600
  rotate_left
  · simp [wp_X_road, wp_M_road, X_isPlace, X_within, M_isPlace, M_isIn, h1, h2, h3, h4, h]
  by_cases h5 : σ 80 0 < 24
  rotate_left
  · have h6 : σ 80 0 = 24 := by omega
    simp [wp_X_road, wp_M_road, X_isPlace, X_within, M_isPlace, M_isIn, h1, h2, h3, h4, h, e5, h6]
  have h5' : σ 0 5 < 24 := by omega
  unfold wp_X_road
  simp only [X_isPlace, X_within, zIf1, h1, h2, h3, h4, h5', true_and, not_true, not_false_eq_true, false_implies, true_implies, and_true, and_self]
  refine X_remember h (fun σ1 x fr g0 => ?_)
  have hA := x.2.2.2.2.2.1.1
  have x0 := x.1.1
  have b3 := hA.1
  have b4 := hA.2.1
  have b5 := hA.2.2.1
  have e80r : mRec σ 80 = σ 80 := mRec_n (by omega) (by omega)
  have e51 : σ1 0 5 = σ 80 0 := by have := x.1.1.1; rw [e80r] at this; exact this
  unfold wp_S_addRoad
  rw [e51]
  generalize hn : σ 80 0 = n at *
  refine ⟨zRi (by omega) (by omega), by omega, ?_⟩
  rintro _ rfl
  refine ⟨by omega, ?_⟩
  rintro _ rfl
  refine ⟨by omega, ?_⟩
  rintro _ rfl
  refine ⟨by omega, ?_⟩
  rintro σ9 e9
  have e95 : σ9 0 5 = n := by rw [e9]; simp (disch := omega) only [zU_n, e51]
  rw [e95]
  refine ⟨zRi (by omega) (by omega), ?_⟩
  intro σ11 e11
  refine S_dropSpans (by omega) (by omega) ?_
  have d4 : mD σ11 n 0 2 (n * 11 + 4) = 0 := by rw [mD_g, if_neg (by omega), if_pos rfl]
  refine S_addSpan (by omega) (by omega) ⟨fun s s0 s1 => by omega, fun s u s0 su u1 => by omega⟩ (by omega) (by omega) ?_
  generalize hσ : mI (mD σ11 n 0) 2 (n * 11) 0 1440 = σ15
  have f15 : ∀ p, p ≠ 0 → p ≠ 2 → p ≠ 3 → σ15 p = σ1 p := fun p p0 p2 p3 => by
    rw [← hσ, mI_n p2, mD_n p2, e11, zU_n p0, e9, zU_n p3, zU_n p2, zU_n p2, zU_n p2]
  have g0' : ∀ i, i ≠ 5 → σ15 0 i = σ1 0 i := fun i hi => by
    rw [← hσ, mI_n (by omega), mD_n (by omega), e11, zU_j hi, e9, zU_n (by omega), zU_n (by omega), zU_n (by omega), zU_n (by omega)]
  have g5 : σ15 0 5 = n + 1 := by rw [← hσ, mI_n (by omega), mD_n (by omega), e11, zU_s]
  have g3 : ∀ i, σ15 3 i = if i = n then 0 else σ1 3 i := fun i => by
    rw [← hσ, mI_n (by omega), mD_n (by omega), e11, zU_n (by omega), e9, zU_g, zU_n (by omega), zU_n (by omega), zU_n (by omega)]
  have g2 : ∀ i, σ15 2 i = iA (mD σ11 n 0 2) (n * 11) 0 1440 i := fun i => by rw [← hσ, mI_s]
  have g11 : ∀ i, σ11 2 i = if i = n * 11 + 2 then c else if i = n * 11 + 1 then b else if i = n * 11 + 0 then a else σ1 2 i := fun i => by
    rw [e11, zU_n (by omega), e9, zU_n (by omega), zU_g, zU_g, zU_g]
  have fr2 : Fr σ σ15 := fun p hp => by rw [f15 p (by omega) (by omega) (by omega)]; exact fr p hp
  have q80 : σ15 80 0 = n := by rw [fr2 80 (by omega)]; exact hn
  refine M_road_ok (by rw [fr2 79 (by omega)]; exact h.2.2.2.2.2.1.2.1) (by rw [q80]; omega) h1 h2 h3 h4 ⟨q80.symm, ?_⟩
  refine Rel_fin (τ := mRoad (mRec σ) a b c) (σ1 := σ15) ?_ (FrM_trans (FrM_mRec _) FrM_mRoad) (Fr_mRoad (Fr_mRec fr2))
  have w0 : mRec σ 80 0 = n := by rw [e80r]; exact hn
  have e80 : ∀ i, i ≠ 0 → ¬ (27 + 12 * n ≤ i ∧ i < 27 + 12 * n + 12) → mRoad (mRec σ) a b c 80 i = mRec σ 80 i := fun i i0 hi => by
    unfold mRoad
    rw [w0]
    simp (disch := omega) only [zU_j]
  have e800 : mRoad (mRec σ) a b c 80 0 = n + 1 := by unfold mRoad; rw [zU_s, w0]
  have er : ∀ k, (k = 0 → mRoad (mRec σ) a b c 80 (27 + 12 * n + k) = a) ∧ (k = 1 → mRoad (mRec σ) a b c 80 (27 + 12 * n + k) = b) ∧ (k = 2 → mRoad (mRec σ) a b c 80 (27 + 12 * n + k) = c) ∧ (k = 3 → mRoad (mRec σ) a b c 80 (27 + 12 * n + k) = 0) ∧ (k = 4 → mRoad (mRec σ) a b c 80 (27 + 12 * n + k) = 1) ∧ (k = 5 → mRoad (mRec σ) a b c 80 (27 + 12 * n + k) = 0) ∧ (k = 6 → mRoad (mRec σ) a b c 80 (27 + 12 * n + k) = 1440) ∧ (k = 11 → mRoad (mRec σ) a b c 80 (27 + 12 * n + k) = 0) := by
    intro k
    unfold mRoad
    rw [w0]
    refine ⟨?_, ?_, ?_, ?_, ?_, ?_, ?_, ?_⟩ <;> (rintro rfl; simp (disch := omega) only [zU_j, zU_s])
    rw [show (27 + 12 * n + 6 : Int) = 27 + 12 * n + 5 + 1 by omega, zU_s]
  have q0 := (er 0).1 rfl
  have q1 := (er 1).2.1 rfl
  have q2 := (er 2).2.2.1 rfl
  have q3 := (er 3).2.2.2.1 rfl
  have q4 := (er 4).2.2.2.2.1 rfl
  have q5 := (er 5).2.2.2.2.2.1 rfl
  have q6 := (er 6).2.2.2.2.2.2.1 rfl
  have q11 := (er 11).2.2.2.2.2.2.2 rfl
  refine XRep_now x g0 (fun p p0 p1 => f15 p (by omega) (by omega) (by omega)) (fun p p0 p1 => by unfold mRoad; simp (disch := omega) only [zU_n]) ?_ ?_ (Int.le_refl B)
  · refine RX_parts x.1 (OKA_cnt hA) ?_ (Or.inl ⟨?_, ?_⟩) (Or.inr fun r r0 r1 => ?_) (Or.inl ⟨?_, ?_, ?_⟩) (Or.inl ⟨?_, ?_, ?_⟩)
    · rw [e800, e80 1 (by omega) (by omega), e80 2 (by omega) (by omega), g5, g0' 6 (by omega), g0' 7 (by omega)]
      exact ⟨rfl, x0.2⟩
    · exact f15 _ (by omega) (by omega) (by omega)
    · intro i i0 i1; exact e80 i (by omega) (by omega)
    · by_cases hr : r = n
      · subst hr
        have d4 : mD σ11 r 0 2 (r * 11 + 4) = 0 := by rw [mD_g, if_neg (by omega), if_pos rfl]
        have hk : iK (mD σ11 r 0 2) (r * 11) 0 = 0 := by
          unfold iK
          rw [d4, if_neg (by omega), if_neg (by omega), if_neg (by omega)]; rfl
        refine ⟨fun k c0 c1 => ?_, fun u s0 s1 => ?_, ?_⟩
        · rw [g2]
          by_cases hc : k = 4
          · subst hc; rw [iA_4, d4, q4]; rfl
          · rw [iA_old (by omega) (by omega), mD_g, if_neg (by omega), if_neg (by omega)]
            rcases (show k = 0 ∨ k = 1 ∨ k = 2 ∨ k = 3 by omega) with rfl | rfl | rfl | rfl
            · rw [if_neg (by omega), g11, if_neg (by omega), if_neg (by omega), if_pos rfl, q0]
            · rw [if_neg (by omega), g11, if_neg (by omega), if_pos rfl, q1]
            · rw [if_neg (by omega), g11, if_pos rfl, q2]
            · rw [if_pos rfl, q3]
        · rw [g2, g2, show r * 11 + 5 + 2 * u = r * 11 + (5 + 2 * u) by omega, show r * 11 + (5 + 2 * u) + 1 = r * 11 + (5 + 2 * u + 1) by omega, iA_from s0, iA_to s0, hk, d4, q4]
          by_cases hu : u = 0
          · subst hu
            rw [if_pos rfl, if_pos rfl, if_pos (by omega), if_pos (by omega)]
            exact ⟨q5.symm, q6.symm⟩
          · rw [if_neg hu, if_neg hu, if_neg (by omega), if_neg (by omega), if_neg (by omega), if_neg (by omega), mD_g, mD_g, if_pos (by omega), if_pos (by omega)]; exact ⟨rfl, rfl⟩
        · rw [g3, if_pos rfl, q11]
      · rw [e800] at r1
        refine RXr_congr (A := mRec σ 80) (fun i i0 i1 => ?_) ?_ (fun k c0 c1 => e80 _ (by omega) (by omega)) (x.1.2.2.1 r r0 (by omega))
        · rw [g2]
          have d4 : mD σ11 n 0 2 (n * 11 + 4) = 0 := by rw [mD_g, if_neg (by omega), if_pos rfl]
          have hk : iK (mD σ11 n 0 2) (n * 11) 0 = 0 := by
            unfold iK
            rw [d4, if_neg (by omega), if_neg (by omega), if_neg (by omega)]; rfl
          rw [iA_old (by omega) (by omega), mD_g, if_neg (by omega), if_neg (by omega), if_neg (by omega), g11, if_neg (by omega), if_neg (by omega), if_neg (by omega)]
        · rw [g3, if_neg hr]
    all_goals first | (intro i i0 i1; exact e80 i (by omega) (by omega)) | exact e80 _ (by omega) (by omega) | exact f15 _ (by omega) (by omega) (by omega)
  · refine OKA_parts hA ?_ (Or.inl ?_) (Or.inr fun r r0 r1 => ?_) (Or.inl ⟨?_, ?_, ?_⟩) (Or.inl ⟨?_, ?_⟩)
    · rw [e800, e80 1 (by omega) (by omega), e80 2 (by omega) (by omega)]; exact ⟨by omega, b4, b5⟩
    · intro i i0 i1; exact e80 i (by omega) (by omega)
    · rw [e800] at r1
      by_cases hr : r = n
      · subst hr
        refine ⟨by rw [q0]; omega, by rw [q1]; omega, by rw [q2]; omega, by rw [q3]; omega, by rw [q4]; omega, fun s s0 s1 => ?_, fun s u s0 su u1 => ?_, by rw [q11]; omega⟩
        · rw [q4] at s1
          obtain rfl : s = 0 := by omega
          rw [show (27 + 12 * r + (5 + 2 * 0) : Int) = 27 + 12 * r + 5 by omega, show (27 + 12 * r + (5 + 2 * 0 + 1) : Int) = 27 + 12 * r + 6 by omega, q5, q6]; omega
        · rw [q4] at u1; omega
      · exact OKr_row (fun k c0 c1 => e80 _ (by omega) (by omega)) (hA.2.2.2.2.1 r r0 (by omega))
    · rw [e800]; omega
    all_goals first | (intro i i0 i1; exact e80 i (by omega) (by omega)) | exact e80 _ (by omega) (by omega)
