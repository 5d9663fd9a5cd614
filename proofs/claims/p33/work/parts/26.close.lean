/-! closures and travellers -/
def clE (A : Int → Int) (r f t : Int) : Int := if ¬ (0 ≤ r ∧ r < A 0) then -1 else if ¬ (0 ≤ f ∧ f < t ∧ t ≤ 2880) then -2 else if A 1 = 20 then -4 else 0
def mClo (τ : zM) (r f t : Int) : zM := zU (zU (zU (zU τ 80 (315 + 3 * τ 80 1) r) 80 (315 + 3 * τ 80 1 + 1) f) 80 (315 + 3 * τ 80 1 + 2) t) 80 1 (τ 80 1 + 1)
theorem Fr_mClo {x y : zM} {a b c : Int} (h : Fr x y) : Fr (mClo x a b c) (mClo y a b c) := by
  unfold mClo
  rw [h 80 (by omega)]
  exact Fr_zU2 (Fr_zU2 (Fr_zU2 (Fr_zU2 h)))
theorem FrM_mClo {x : zM} {a b c : Int} : FrM x (mClo x a b c) := fun n hn => by
  unfold mClo
  simp (disch := omega) only [zU_n]
theorem X_close {B z : Int} {σ τ : zM} {Q : Int → zM → Prop} (hz : z = 0 ∨ z = 1) (h : XRep B z σ τ) (r f t : Int) (ke : ∀ e, e ≠ 0 → clE (τ 80) r f t = e → Q e σ) (k : clE (τ 80) r f t = 0 → ∀ σ1, XRep B z σ1 (mClo (zRec z τ) r f t) → Fr σ σ1 → σ1 62 1 = 0 → Q (τ 80 1) σ1) : wp_X_close σ r f t Q := by
  have hA0 := h.2.2.2.2.2.1.1
  have e5 : σ 0 5 = τ 80 0 := h.1.1.1
  have e6 : σ 0 6 = τ 80 1 := h.1.1.2.1
  have bb := hA0.1
  have b1 := hA0.2.1
  unfold clE at ke k
  by_cases h1 : 0 ≤ r ∧ r < τ 80 0
  rotate_left
  · rw [if_pos h1] at ke
    have := ke (-1) (by decide) rfl
    simp [wp_X_close, S_hasRoad, e5, h1, this]
  rw [if_neg (fun c => c h1)] at k ke
  by_cases h2 : 0 ≤ f ∧ f < t ∧ t ≤ 2880
  rotate_left
  · rw [if_pos h2] at ke
    have := ke (-2) (by decide) rfl
    simp [wp_X_close, S_hasRoad, X_isSpan, e5, h1, h2, this]
  rw [if_neg (fun c => c h2)] at k ke
  by_cases h3 : τ 80 1 = 20
  · rw [if_pos h3] at ke
    have := ke (-4) (by decide) rfl
    simp [wp_X_close, S_hasRoad, X_isSpan, e5, e6, h1, h2, h3, this]
  rw [if_neg h3] at k
  have k := k rfl
  have h3' : σ 0 6 < 20 := by omega
  unfold wp_X_close
  simp only [S_hasRoad, X_isSpan (show (1 : Int) ≤ 2880 by decide) (by decide), e5, h3', zIf1, h1, h2, true_and, not_true, not_false_eq_true, false_implies, true_implies, and_true, and_self]
  refine X_rem hz h (fun σ1 x fr g0 => ?_)
  have e80r : zRec z τ 80 = τ 80 := zRec_n (by omega) (by omega)
  have hA := x.2.2.2.2.2.1.1
  have x0 := x.1.1
  have e61 : σ1 0 6 = τ 80 1 := by rw [← e80r]; exact x0.2.1
  generalize hn : τ 80 1 = n at *
  have w1 : zRec z τ 80 1 = n := by rw [e80r]; exact hn
  have w0 : zRec z τ 80 0 = τ 80 0 := by rw [e80r]
  unfold wp_S_addClosure
  rw [e61]
  refine ⟨zRi (by omega) (by omega), by omega, ?_⟩
  rintro _ rfl
  refine ⟨by omega, ?_⟩
  rintro _ rfl
  refine ⟨by omega, ?_⟩
  intro σ4 e4
  have e46 : σ4 0 6 = n := by rw [e4]; simp (disch := omega) only [zU_n, e61]
  rw [e46]
  refine ⟨zRi (by omega) (by omega), ?_⟩
  intro σ5 e5'
  have e56 : σ5 0 6 = n + 1 := by rw [e5', zU_s]
  rw [e56, show n + 1 - 1 = n by omega]
  refine ⟨zRi (by omega) (by omega), k σ5 ?_ ?_ (by rw [e5', zU_n (by omega), e4, zU_n (by omega), zU_n (by omega), zU_n (by omega)]; exact g0)⟩
  · have f5 : ∀ p, p ≠ 0 → p ≠ 4 → σ5 p = σ1 p := fun p p0 p4 => by rw [e5', zU_n p0, e4, zU_n p4, zU_n p4, zU_n p4]
    have g0' : ∀ i, i ≠ 6 → σ5 0 i = σ1 0 i := fun i hi => by rw [e5', zU_j hi, e4, zU_n (by omega), zU_n (by omega), zU_n (by omega)]
    have g4 : ∀ i, σ5 4 i = if i = n * 3 + 2 then t else if i = n * 3 + 1 then f else if i = n * 3 + 0 then r else σ1 4 i := fun i => by
      rw [e5', zU_n (by omega), e4, zU_g, zU_g, zU_g]
    have e80 : ∀ i, i ≠ 1 → ¬ (315 + 3 * n ≤ i ∧ i < 315 + 3 * n + 3) → mClo (zRec z τ) r f t 80 i = zRec z τ 80 i := fun i i0 hi => by
      unfold mClo
      rw [w1]
      simp (disch := omega) only [zU_j]
    have q1 : mClo (zRec z τ) r f t 80 1 = n + 1 := by unfold mClo; rw [zU_s, w1]
    have p0 : mClo (zRec z τ) r f t 80 (315 + 3 * n + 0) = r := by unfold mClo; rw [w1, Int.add_zero]; simp (disch := omega) only [zU_j, zU_s]
    have p1 : mClo (zRec z τ) r f t 80 (315 + 3 * n + 1) = f := by unfold mClo; rw [w1]; simp (disch := omega) only [zU_j, zU_s]
    have p2 : mClo (zRec z τ) r f t 80 (315 + 3 * n + 2) = t := by unfold mClo; rw [w1]; simp (disch := omega) only [zU_j, zU_s]
    refine XRep_now x g0 (fun p p0 p1 => f5 p (by omega) (by omega)) (fun p p0 p1 => by unfold mClo; simp (disch := omega) only [zU_n]) ?_ ?_ (Int.le_refl B)
    · refine RX_parts x.1 (OKA_cnt hA) ?_ (Or.inl ⟨f5 1 (by omega) (by omega), ?_⟩) (Or.inl ⟨f5 2 (by omega) (by omega), f5 3 (by omega) (by omega), ?_, ?_⟩) (Or.inr fun c j c0 c1 j0 j1 => ?_) (Or.inl ⟨f5 5 (by omega) (by omega), ?_, ?_⟩)
      · rw [q1, e80 0 (by omega) (by omega), e80 2 (by omega) (by omega), e56, g0' 5 (by omega), g0' 7 (by omega)]
        exact ⟨x0.1, rfl, x0.2.2⟩
      · intro i i0 i1; exact e80 i (by omega) (by omega)
      · exact e80 _ (by omega) (by omega)
      · intro i i0 i1; exact e80 i (by omega) (by omega)
      · rw [q1] at c1
        rw [g4]
        by_cases hc : c = n
        · subst hc
          rcases (show j = 0 ∨ j = 1 ∨ j = 2 by omega) with rfl | rfl | rfl
          · rw [if_neg (by omega), if_neg (by omega), if_pos (by omega), p0]
          · rw [if_neg (by omega), if_pos (by omega), p1]
          · rw [if_pos (by omega), p2]
        · rw [if_neg (by omega), if_neg (by omega), if_neg (by omega), e80 _ (by omega) (by omega)]
          exact RX_clo x.1 c0 (by omega) j0 j1
      · exact e80 _ (by omega) (by omega)
      · intro i i0 i1; exact e80 i (by omega) (by omega)
    · refine OKA_parts hA ?_ (Or.inl ?_) (Or.inl ⟨?_, ?_⟩) (Or.inr fun c c0 c1 => ?_) (Or.inl ⟨?_, ?_⟩)
      · rw [q1, e80 0 (by omega) (by omega), e80 2 (by omega) (by omega)]; exact ⟨hA.1, by omega, hA.2.2.1⟩
      · intro i i0 i1; exact e80 i (by omega) (by omega)
      · exact e80 _ (by omega) (by omega)
      · intro i i0 i1; exact e80 i (by omega) (by omega)
      · rw [q1] at c1
        rw [e80 0 (by omega) (by omega)]
        by_cases hc : c = n
        · subst hc
          rw [p0, p1, p2, w0]; omega
        · rw [e80 (315 + 3 * c + 0) (by omega) (by omega), e80 (315 + 3 * c + 1) (by omega) (by omega), e80 (315 + 3 * c + 2) (by omega) (by omega)]
          exact hA.2.2.2.2.2.1 c c0 (by omega)
      · exact e80 _ (by omega) (by omega)
      · intro i i0 i1; exact e80 i (by omega) (by omega)
  · intro p hp
    rw [e5', zU_n (by omega), e4, zU_n (by omega), zU_n (by omega), zU_n (by omega)]
    exact fr p hp
theorem clE_ok {A : Int → Int} {r f t : Int} (h : clE A r f t = 0) : 0 ≤ r ∧ r < A 0 ∧ ¬ A 1 = 20 := by
  unfold clE at h
  by_cases h1 : 0 ≤ r ∧ r < A 0
  · rw [if_neg (fun c => c h1)] at h
    by_cases h2 : 0 ≤ f ∧ f < t ∧ t ≤ 2880
    · rw [if_neg (fun c => c h2)] at h
      by_cases h3 : A 1 = 20
      · rw [if_pos h3] at h; cases h
      · exact ⟨h1.1, h1.2, h3⟩
    · rw [if_pos h2] at h; cases h
  · rw [if_pos h1] at h; cases h
/-- lift -/
def mLift (τ : zM) (c : Int) : zM := zCp (zU τ 80 1 (τ 80 1 - 1)) 80 80 (315 + 3 * c + 3) (315 + 3 * c) (3 * (τ 80 1 - 1 - c))
theorem Fr_mLift {x y : zM} {c : Int} (h : Fr x y) : Fr (mLift x c) (mLift y c) := by
  unfold mLift
  rw [h 80 (by omega)]
  exact Fr_zCp2 (Fr_zU2 h) (by omega)
theorem FrM_mLift {x : zM} {c : Int} : FrM x (mLift x c) := fun n hn => by
  unfold mLift
  rw [zCp_n (by omega), zU_n (by omega)]