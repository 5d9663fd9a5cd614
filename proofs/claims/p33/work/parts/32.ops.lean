/-! the changes, each with its answer -/
theorem zRec_0 (τ : zM) : zRec 0 τ = mRec τ := if_pos rfl
def rRoom (A : Int → Int) (a b c d : Int) : Int := if ¬ (0 ≤ a ∧ a ≤ 7) then -1 else if ¬ (0 ≤ b ∧ b ≤ 1440) then -2 else if ¬ (b ≤ c ∧ c ≤ 1440) then -2 else if ¬ (0 ≤ d ∧ d ≤ 1000) then -2 else A (3 + 3 * a + 2)
theorem Z_room {B : Int} {σ τ : zM} {Q : Int → zM → Prop} (h : Inv B σ τ) (a b c d : Int) (k : Post B σ τ (rRoom (τ 80) a b c d) Q) : wp_X_room σ a b c d Q := by
  by_cases h1 : 0 ≤ a ∧ a ≤ 7
  rotate_left
  · have q := Post_err k (e := -1) (by simp [rRoom, h1]) (by decide) (by decide)
    simp [wp_X_room, X_isPlace, X_within, h1, q]
  by_cases h2 : 0 ≤ b ∧ b ≤ 1440
  rotate_left
  · have q := Post_err k (e := -2) (by simp [rRoom, h1, h2]) (by decide) (by decide)
    simp [wp_X_room, X_isPlace, X_within, h1, h2, q]
  by_cases h3 : b ≤ c ∧ c ≤ 1440
  rotate_left
  · have q := Post_err k (e := -2) (by simp [rRoom, h1, h2, h3]) (by decide) (by decide)
    simp [wp_X_room, X_isPlace, X_within, h1, h2, h3, q]
  by_cases h4 : 0 ≤ d ∧ d ≤ 1000
  rotate_left
  · have q := Post_err k (e := -2) (by simp [rRoom, h1, h2, h3, h4]) (by decide) (by decide)
    simp [wp_X_room, X_isPlace, X_within, h1, h2, h3, h4, q]
  have hρ : rRoom (τ 80) a b c d = τ 80 (3 + 3 * a + 2) := by simp [rRoom, h1, h2, h3, h4]
  have hlim := h.1.2.2.2.2.2.1.1.2.2.2.1 a h1.1 (by omega)
  unfold wp_X_room
  simp only [X_isPlace, X_within, zIf1, Classical.not_not, h1, h2, h3, h4, true_and, not_true, not_false_eq_true, false_implies, true_implies, and_true, and_self]
  refine X_remember h.1 (fun σ1 x fr g0 => ?_)
  refine ⟨zRi (by omega) (by omega), by omega, by omega, ?_⟩
  rintro _ rfl
  refine ⟨by omega, ?_⟩
  rintro _ rfl
  refine ⟨by omega, ?_⟩
  rintro _ rfl
  have hA := x.2.2.2.2.2.1.1
  have e80r : mRec τ 80 = τ 80 := mRec_n (by omega) (by omega)
  rw [show σ1 1 (a * 3 + 2) = τ 80 (3 + 3 * a + 2) by
    have := RX_room x.1 (p := a) (c := 2) (by omega) (by omega) (by omega) (by omega)
    rw [mRec_n (by omega) (by omega)] at this
    exact this]
  have b3 := hA.1
  have b4 := hA.2.1
  have b5 := hA.2.2.1
  have e80 : ∀ i, ¬ (3 + 3 * a ≤ i ∧ i < 3 + 3 * a + 3) → mRoom (mRec τ) a b c d 80 i = mRec τ 80 i := fun i hi => by unfold mRoom; simp (disch := omega) only [zU_j]
  have x0 := x.1.1
  refine Post_ok h k hρ (by omega) (show B ≤ B + 1 by omega) (τ1 := mRoom (mRec τ) a b c d) (by simp (disch := omega) only [zU_n]; exact g0) (fun n n0 n1 => by unfold mRoom; simp (disch := omega) only [zU_n]) ?_ ?_
  · refine OKS_same (e80 0 (by omega)) (e80 2 (by omega)) (fun r r0 r1 => e80 _ (by omega)) (fun t t0 t1 => e80 _ (by omega)) ?_
    rw [e80r]; exact h.2.2.2.1
  refine XRep_now x g0 (fun n n0 n1 => by simp (disch := omega) only [zU_n]) (fun n n0 n1 => by unfold mRoom; simp (disch := omega) only [zU_n]) ?_ ?_ (Int.le_refl B)
  · refine RX_parts x.1 (OKA_cnt hA) ?_ (Or.inr fun p q p0 p1 c0 c1 => ?_) (Or.inl ⟨?_, ?_, ?_, ?_⟩) (Or.inl ⟨?_, ?_, ?_⟩) (Or.inl ⟨?_, ?_, ?_⟩)
    · rw [e80 0 (by omega), e80 1 (by omega), e80 2 (by omega)]
      simp (disch := omega) only [zU_n]; exact x0
    · by_cases hp : p = a
      · subst hp
        unfold mRoom
        rcases (show q = 0 ∨ q = 1 ∨ q = 2 by omega) with rfl | rfl | rfl <;> simp (disch := omega) only [zU_j, zU_s, Int.add_zero]
      · rw [e80 _ (by omega)]
        simp (disch := omega) only [zU_j]; exact RX_room x.1 p0 p1 c0 c1
    all_goals first | (intro i i0 i1; exact e80 i (by omega)) | exact e80 _ (by omega) | simp (disch := omega) only [zU_n]
  · refine OKA_parts hA ?_ (Or.inr fun p p0 p1 => ?_) (Or.inl ⟨?_, ?_⟩) (Or.inl ⟨?_, ?_, ?_⟩) (Or.inl ⟨?_, ?_⟩)
    · rw [e80 0 (by omega), e80 1 (by omega), e80 2 (by omega)]; exact ⟨b3, b4, b5⟩
    · by_cases hp : p = a
      · subst hp
        unfold mRoom
        simp (disch := omega) only [zU_j, zU_s, Int.add_zero]
        omega
      · rw [e80 _ (by omega), e80 _ (by omega), e80 _ (by omega)]
        exact hA.2.2.2.1 p p0 p1
    all_goals first | (intro i i0 i1; exact e80 i (by omega)) | exact e80 _ (by omega) | (rw [e80 _ (by omega)]; exact Int.le_refl _)
/-- road -/
def rRoad (A : Int → Int) (a b c : Int) : Int := if ¬ (0 ≤ a ∧ a ≤ 7) then -1 else if ¬ (0 ≤ b ∧ b ≤ 7) then -1 else if a = b then -1 else if ¬ (1 ≤ c ∧ c ≤ 600) then -2 else if ¬ A 0 < 24 then -4 else A 0
theorem Z_road {B : Int} {σ τ : zM} {Q : Int → zM → Prop} (hB : 0 ≤ B) (h : Inv B σ τ) (a b c : Int) (k : Post B σ τ (rRoad (τ 80) a b c) Q) : wp_X_road σ a b c Q := by
  have hA0 := h.1.2.2.2.2.2.1.1
  have e5 : σ 0 5 = τ 80 0 := h.1.1.1.1
  have bb := hA0.1
  by_cases h1 : 0 ≤ a ∧ a ≤ 7
  rotate_left
  · have q := Post_err k (e := -1) (by simp [rRoad, h1]) (by decide) (by decide)
    simp [wp_X_road, X_isPlace, X_within, h1, q]
  by_cases h2 : 0 ≤ b ∧ b ≤ 7
  rotate_left
  · have q := Post_err k (e := -1) (by simp [rRoad, h1, h2]) (by decide) (by decide)
    simp [wp_X_road, X_isPlace, X_within, h1, h2, q]
  by_cases h3 : a = b
  · have q := Post_err k (e := -1) (by simp [rRoad, h3]) (by decide) (by decide)
    simp [wp_X_road, X_isPlace, X_within, h2, h3, q]
  by_cases h4 : 1 ≤ c ∧ c ≤ 600
  rotate_left
  · have q := Post_err k (e := -2) (by simp [rRoad, h1, h2, h3, h4]) (by decide) (by decide)
    simp [wp_X_road, X_isPlace, X_within, h1, h2, h3, h4, q]
  by_cases h5 : τ 80 0 < 24
  rotate_left
  · have q := Post_err k (e := -4) (by simp [rRoad, h1, h2, h3, h4, h5]) (by decide) (by decide)
    simp [wp_X_road, X_isPlace, X_within, h1, h2, h3, h4, e5, h5, q]
  have h5' : σ 0 5 < 24 := by omega
  have hρ : rRoad (τ 80) a b c = τ 80 0 := by simp [rRoad, h1, h2, h3, h4, h5]
  unfold wp_X_road
  simp only [X_isPlace, X_within, zIf1, h1, h2, h3, h4, h5', true_and, not_true, not_false_eq_true, false_implies, true_implies, and_true, and_self]
  refine X_remember h.1 (fun σ1 x fr g0 => ?_)
  have hA := x.2.2.2.2.2.1.1
  have x0 := x.1.1
  have b3 := hA.1
  have b4 := hA.2.1
  have b5 := hA.2.2.1
  have e80r : mRec τ 80 = τ 80 := mRec_n (by omega) (by omega)
  have e51 : σ1 0 5 = τ 80 0 := by have := x.1.1.1; rw [e80r] at this; exact this
  have hs := h.2.2.2.1
  unfold wp_S_addRoad
  rw [e51]
  generalize hn : τ 80 0 = n at *
  refine ⟨zRi (by omega) (by omega), by omega, ?_⟩
  rintro _ rfl
  refine ⟨by omega, ?_⟩
  rintro _ rfl
  refine ⟨by omega, ?_⟩
  rintro _ rfl
  refine ⟨by omega, ?_⟩
  rintro σ9 e9
  have e95 : σ9 0 5 = n := by rw [e9]; simp (disch := omega) only [zU_n, e51]
  rw [e95]
  refine ⟨zRi (by omega) (by omega), ?_⟩
  intro σ11 e11
  refine S_dropSpans (by omega) (by omega) ?_
  have d4 : mD σ11 n 0 2 (n * 11 + 4) = 0 := by rw [mD_g, if_neg (by omega), if_pos rfl]
  refine S_addSpan (by omega) (by omega) ⟨fun s s0 s1 => by omega, fun s u s0 su u1 => by omega⟩ (by omega) (by omega) ?_
  generalize hσ : mI (mD σ11 n 0) 2 (n * 11) 0 1440 = σ15
  have f15 : ∀ p, p ≠ 0 → p ≠ 2 → p ≠ 3 → σ15 p = σ1 p := fun p p0 p2 p3 => by
    rw [← hσ, mI_n p2, mD_n p2, e11, zU_n p0, e9, zU_n p3, zU_n p2, zU_n p2, zU_n p2]
  have g0' : ∀ i, i ≠ 5 → σ15 0 i = σ1 0 i := fun i hi => by
    rw [← hσ, mI_n (by omega), mD_n (by omega), e11, zU_j hi, e9, zU_n (by omega), zU_n (by omega), zU_n (by omega), zU_n (by omega)]
  have g5 : σ15 0 5 = n + 1 := by rw [← hσ, mI_n (by omega), mD_n (by omega), e11, zU_s]
  have g3 : ∀ i, σ15 3 i = if i = n then 0 else σ1 3 i := fun i => by
    rw [← hσ, mI_n (by omega), mD_n (by omega), e11, zU_n (by omega), e9, zU_g, zU_n (by omega), zU_n (by omega), zU_n (by omega)]
  have g2 : ∀ i, σ15 2 i = iA (mD σ11 n 0 2) (n * 11) 0 1440 i := fun i => by rw [← hσ, mI_s]
  have g11 : ∀ i, σ11 2 i = if i = n * 11 + 2 then c else if i = n * 11 + 1 then b else if i = n * 11 + 0 then a else σ1 2 i := fun i => by
    rw [e11, zU_n (by omega), e9, zU_n (by omega), zU_g, zU_g, zU_g]
  have w0 : mRec τ 80 0 = n := by rw [e80r]; exact hn
  have e80 : ∀ i, i ≠ 0 → ¬ (27 + 12 * n ≤ i ∧ i < 27 + 12 * n + 12) → mRoad (mRec τ) a b c 80 i = mRec τ 80 i := fun i i0 hi => by
    unfold mRoad
    rw [w0]
    simp (disch := omega) only [zU_j]
  have e800 : mRoad (mRec τ) a b c 80 0 = n + 1 := by unfold mRoad; rw [zU_s, w0]
  have er : ∀ k, (k = 0 → mRoad (mRec τ) a b c 80 (27 + 12 * n + k) = a) ∧ (k = 1 → mRoad (mRec τ) a b c 80 (27 + 12 * n + k) = b) ∧ (k = 2 → mRoad (mRec τ) a b c 80 (27 + 12 * n + k) = c) ∧ (k = 3 → mRoad (mRec τ) a b c 80 (27 + 12 * n + k) = 0) ∧ (k = 4 → mRoad (mRec τ) a b c 80 (27 + 12 * n + k) = 1) ∧ (k = 5 → mRoad (mRec τ) a b c 80 (27 + 12 * n + k) = 0) ∧ (k = 6 → mRoad (mRec τ) a b c 80 (27 + 12 * n + k) = 1440) ∧ (k = 11 → mRoad (mRec τ) a b c 80 (27 + 12 * n + k) = 0) := by
    intro k
    unfold mRoad
    rw [w0]
    refine ⟨?_, ?_, ?_, ?_, ?_, ?_, ?_, ?_⟩ <;> (rintro rfl; simp (disch := omega) only [zU_j, zU_s])
    rw [show (27 + 12 * n + 6 : Int) = 27 + 12 * n + 5 + 1 by omega, zU_s]
  have q0 := (er 0).1 rfl
  have q1 := (er 1).2.1 rfl
  have q2 := (er 2).2.2.1 rfl
  have q3 := (er 3).2.2.2.1 rfl
  have q4 := (er 4).2.2.2.2.1 rfl
  have q5 := (er 5).2.2.2.2.2.1 rfl
  have q6 := (er 6).2.2.2.2.2.2.1 rfl
  have q11 := (er 11).2.2.2.2.2.2.2 rfl
  refine Post_ok h k hρ (by omega) (show B ≤ B + 1 by omega) (τ1 := mRoad (mRec τ) a b c) (by rw [f15 62 (by omega) (by omega) (by omega)]; exact g0) (fun p p0 p1 => by unfold mRoad; simp (disch := omega) only [zU_n]) ?_ ?_
  · unfold OKS at *
    rw [e800, e80 2 (by omega) (by omega), e80r, sT_congr (A := τ 80) (fun i i0 i1 => by rw [e80 _ (by omega) (by omega), e80r]), show (n + 1).toNat = n.toNat + 1 by omega, hs, hn]
    show _ = sR _ n.toNat + _
    rw [sR_congr (A := τ 80) (A' := mRoad (mRec τ) a b c 80) (fun i i0 i1 => by rw [e80 _ (by omega) (by omega), e80r]), show ((n.toNat : Nat) : Int) = n by omega, q11]; omega
  refine XRep_now x g0 (fun p p0 p1 => f15 p (by omega) (by omega) (by omega)) (fun p p0 p1 => by unfold mRoad; simp (disch := omega) only [zU_n]) ?_ ?_ (Int.le_refl B)
  · refine RX_parts x.1 (OKA_cnt hA) ?_ (Or.inl ⟨?_, ?_⟩) (Or.inr fun r r0 r1 => ?_) (Or.inl ⟨?_, ?_, ?_⟩) (Or.inl ⟨?_, ?_, ?_⟩)
    · rw [e800, e80 1 (by omega) (by omega), e80 2 (by omega) (by omega), g5, g0' 6 (by omega), g0' 7 (by omega)]
      exact ⟨rfl, x0.2⟩
    · exact f15 _ (by omega) (by omega) (by omega)
    · intro i i0 i1; exact e80 i (by omega) (by omega)
    · by_cases hr : r = n
      · subst hr
        have d4 : mD σ11 r 0 2 (r * 11 + 4) = 0 := by rw [mD_g, if_neg (by omega), if_pos rfl]
        have hk : iK (mD σ11 r 0 2) (r * 11) 0 = 0 := by
          unfold iK
          rw [d4, if_neg (by omega), if_neg (by omega), if_neg (by omega)]; rfl
        refine ⟨fun k c0 c1 => ?_, fun u s0 s1 => ?_, ?_⟩
        · rw [g2]
          by_cases hc : k = 4
          · subst hc; rw [iA_4, d4, q4]; rfl
          · rw [iA_old (by omega) (by omega), mD_g, if_neg (by omega), if_neg (by omega)]
            rcases (show k = 0 ∨ k = 1 ∨ k = 2 ∨ k = 3 by omega) with rfl | rfl | rfl | rfl
            · rw [if_neg (by omega), g11, if_neg (by omega), if_neg (by omega), if_pos rfl, q0]
            · rw [if_neg (by omega), g11, if_neg (by omega), if_pos rfl, q1]
            · rw [if_neg (by omega), g11, if_pos rfl, q2]
            · rw [if_pos rfl, q3]
        · rw [g2, g2, show r * 11 + 5 + 2 * u = r * 11 + (5 + 2 * u) by omega, show r * 11 + (5 + 2 * u) + 1 = r * 11 + (5 + 2 * u + 1) by omega, iA_from s0, iA_to s0, hk, d4, q4]
          by_cases hu : u = 0
          · subst hu
            rw [if_pos rfl, if_pos rfl, if_pos (by omega), if_pos (by omega)]
            exact ⟨q5.symm, q6.symm⟩
          · rw [if_neg hu, if_neg hu, if_neg (by omega), if_neg (by omega), if_neg (by omega), if_neg (by omega), mD_g, mD_g, if_pos (by omega), if_pos (by omega)]; exact ⟨rfl, rfl⟩
        · rw [g3, if_pos rfl, q11]
      · rw [e800] at r1
        refine RXr_congr (A := mRec τ 80) (fun i i0 i1 => ?_) ?_ (fun k c0 c1 => e80 _ (by omega) (by omega)) (x.1.2.2.1 r r0 (by omega))
        · rw [g2]
          have d4 : mD σ11 n 0 2 (n * 11 + 4) = 0 := by rw [mD_g, if_neg (by omega), if_pos rfl]
          have hk : iK (mD σ11 n 0 2) (n * 11) 0 = 0 := by
            unfold iK
            rw [d4, if_neg (by omega), if_neg (by omega), if_neg (by omega)]; rfl
          rw [iA_old (by omega) (by omega), mD_g, if_neg (by omega), if_neg (by omega), if_neg (by omega), g11, if_neg (by omega), if_neg (by omega), if_neg (by omega)]
        · rw [g3, if_neg hr]
    all_goals first | (intro i i0 i1; exact e80 i (by omega) (by omega)) | exact e80 _ (by omega) (by omega) | exact f15 _ (by omega) (by omega) (by omega)
  · refine OKA_parts hA ?_ (Or.inl ?_) (Or.inr fun r r0 r1 => ?_) (Or.inl ⟨?_, ?_, ?_⟩) (Or.inl ⟨?_, ?_⟩)
    · rw [e800, e80 1 (by omega) (by omega), e80 2 (by omega) (by omega)]; exact ⟨by omega, b4, b5⟩
    · intro i i0 i1; exact e80 i (by omega) (by omega)
    · rw [e800] at r1
      by_cases hr : r = n
      · subst hr
        refine ⟨by rw [q0]; omega, by rw [q1]; omega, by rw [q2]; omega, by rw [q3]; omega, by rw [q4]; omega, fun s s0 s1 => ?_, fun s u s0 su u1 => ?_, by rw [q11]; omega⟩
        · rw [q4] at s1
          obtain rfl : s = 0 := by omega
          rw [show (27 + 12 * r + (5 + 2 * 0) : Int) = 27 + 12 * r + 5 by omega, show (27 + 12 * r + (5 + 2 * 0 + 1) : Int) = 27 + 12 * r + 6 by omega, q5, q6]; omega
        · rw [q4] at u1; omega
      · exact OKr_row (fun k c0 c1 => e80 _ (by omega) (by omega)) (hA.2.2.2.2.1 r r0 (by omega))
    · rw [e800]; omega
    all_goals first | (intro i i0 i1; exact e80 i (by omega) (by omega)) | exact e80 _ (by omega) (by omega)
