/-! the changes, each with its answer (on) -/
def rOpen (A : Int → Int) (r f t s : Int) : Int := if ¬ (0 ≤ r ∧ r < A 0) then -1 else if ¬ (0 ≤ f ∧ f < t ∧ t ≤ 1440) then -2 else if ¬ (0 ≤ s ∧ s ≤ 1) then -2 else A (27 + 12 * r + 4)
theorem Z_open {B : Int} {σ τ : zM} {Q : Int → zM → Prop} (h : Inv B σ τ) (r f t s : Int) (k : Post B σ τ (rOpen (τ 80) r f t s) Q) : wp_X_open σ r f t s Q := by
  have hA0 := h.1.2.2.2.2.2.1.1
  have e5 : σ 0 5 = τ 80 0 := h.1.1.1.1
  have bb := hA0.1
  by_cases h1 : 0 ≤ r ∧ r < τ 80 0
  rotate_left
  · have q := Post_err k (e := -1) (by simp [rOpen, h1]) (by decide) (by decide)
    simp [wp_X_open, S_hasRoad, e5, h1, q]
  by_cases h2 : 0 ≤ f ∧ f < t ∧ t ≤ 1440
  rotate_left
  · have q := Post_err k (e := -2) (by simp [rOpen, h1, h2]) (by decide) (by decide)
    simp [wp_X_open, S_hasRoad, X_isSpan, e5, h1, h2, q]
  by_cases h3 : 0 ≤ s ∧ s ≤ 1
  rotate_left
  · have q := Post_err k (e := -2) (by simp [rOpen, h1, h2, h3]) (by decide) (by decide)
    simp [wp_X_open, S_hasRoad, X_isSpan, X_within, e5, h1, h2, h3, q]
  have hρ : rOpen (τ 80) r f t s = τ 80 (27 + 12 * r + 4) := by simp [rOpen, h1, h2, h3]
  have hn4 := (hA0.2.2.2.2.1 r h1.1 h1.2).2.2.2.2.1
  unfold wp_X_open
  simp only [S_hasRoad, X_isSpan (show (1 : Int) ≤ 1440 by decide) (by decide), e5, X_within, zIf1, h1, h2, h3, true_and, not_true, not_false_eq_true, false_implies, true_implies, and_true, and_self]
  refine X_remember h.1 (fun σ1 x fr g0 => ?_)
  have hA := x.2.2.2.2.2.1.1
  have e80r : mRec τ 80 = τ 80 := mRec_n (by omega) (by omega)
  rw [S_ofRoads (by omega) (by omega)]
  have hr := x.1.2.2.1 r h1.1 (by rw [e80r]; exact h1.2)
  have hok := hA.2.2.2.2.1 r h1.1 (by rw [e80r]; exact h1.2)
  have z4 : σ1 2 (r * 11 + 4) = τ 80 (27 + 12 * r + 4) := by have := hr.1 4 (by omega) (by omega); rw [e80r] at this; exact this
  rw [z4]
  refine S_dropSpans (by omega) (by omega) ?_
  have d4 : mD σ1 r s 2 (r * 11 + 4) = 0 := by rw [mD_g, if_neg (by omega), if_pos rfl]
  refine S_addSpan (by omega) (by omega) ⟨fun s s0 s1 => by omega, fun s u s0 su u1 => by omega⟩ (by omega) (by omega) ?_
  have hk : iK (mD σ1 r s 2) (r * 11) f = 0 := by
    unfold iK
    rw [d4, if_neg (by omega), if_neg (by omega), if_neg (by omega)]; rfl
  generalize hσ : mI (mD σ1 r s) 2 (r * 11) f t = σ2
  have fx : ∀ p, p ≠ 2 → σ2 p = σ1 p := fun p hp => by rw [← hσ, mI_n hp, mD_n hp]
  have e80 : ∀ i, ¬ (27 + 12 * r + 3 ≤ i ∧ i < 27 + 12 * r + 7) → mOpen (mRec τ) r f t s 80 i = mRec τ 80 i := fun i hi => by unfold mOpen; simp (disch := omega) only [zU_j]
  have q3 : mOpen (mRec τ) r f t s 80 (27 + 12 * r + 3) = s := by unfold mOpen; simp (disch := omega) only [zU_j, zU_s]
  have q4 : mOpen (mRec τ) r f t s 80 (27 + 12 * r + 4) = 1 := by unfold mOpen; simp (disch := omega) only [zU_j, zU_s]
  have q5 : mOpen (mRec τ) r f t s 80 (27 + 12 * r + 5) = f := by unfold mOpen; simp (disch := omega) only [zU_j, zU_s]
  have q6 : mOpen (mRec τ) r f t s 80 (27 + 12 * r + 6) = t := by
    unfold mOpen
    rw [show (27 + 12 * r + 6 : Int) = 27 + 12 * r + 5 + 1 by omega, zU_s]
  refine Post_ok h k hρ (by omega) (show B ≤ B + 1 by omega) (τ1 := mOpen (mRec τ) r f t s) (by rw [fx 62 (by omega)]; exact g0) (fun p p0 p1 => by unfold mOpen; simp (disch := omega) only [zU_n]) ?_ ?_
  · refine OKS_same (e80 0 (by omega)) (e80 2 (by omega)) (fun q q0 q1 => ?_) (fun q q0 q1 => e80 _ (by omega)) (by rw [e80r]; exact h.2.2.2.1)
    exact e80 _ (by omega)
  refine XRep_row (r := r) x g0 h1.1 (by rw [e80r]; exact h1.2) (fun p p2 p3 _ => fx p p2) (fun i hi => ?_) (fun i hi => by rw [fx 3 (by omega)]) (fun p p0 p1 => by unfold mOpen; simp (disch := omega) only [zU_n]) (fun i hi => e80 i (by omega)) ?_ ?_ (Int.le_refl B)
  · rw [← hσ, mI_out (by rw [d4]; omega) (by rw [d4, hk]; omega), mD_g, if_neg (by omega), if_neg (by omega), if_neg (by omega)]
  · exact RXr_one hr (fun i i0 i1 => by rw [← hσ, mI_s]) (by rw [fx 3 (by omega)]) (fun c hc => e80 _ (by omega)) q3 q4 q5 q6
  · obtain ⟨k0, k1, k2, k3, k4, k5, k6, k7⟩ := hok
    refine ⟨by rw [e80 _ (by omega)]; exact k0, by rw [e80 _ (by omega)]; exact k1, by rw [e80 _ (by omega)]; exact k2, by rw [q3]; omega, by rw [q4]; omega, fun s s0 s1 => ?_, fun s u s0 su u1 => ?_, by rw [e80 _ (by omega)]; exact k7⟩
    · rw [q4] at s1
      obtain rfl : s = 0 := by omega
      rw [show (27 + 12 * r + (5 + 2 * 0) : Int) = 27 + 12 * r + 5 by omega, show (27 + 12 * r + (5 + 2 * 0 + 1) : Int) = 27 + 12 * r + 6 by omega, q5, q6]; omega
    · rw [q4] at u1; omega
/-- more -/
noncomputable def rMore (A : Int → Int) (r f t : Int) : Int :=
  haveI := Classical.propDecidable (tkA A r f t)
  if ¬ (0 ≤ r ∧ r < A 0) then -1 else if ¬ (0 ≤ f ∧ f < t ∧ t ≤ 1440) then -2 else if tkA A r f t then -2 else if A (27 + 12 * r + 4) = 3 then -4 else A (27 + 12 * r + 4) + 1
theorem Z_more {B : Int} {σ τ : zM} {Q : Int → zM → Prop} (h : Inv B σ τ) (r f t : Int) (k : Post B σ τ (rMore (τ 80) r f t) Q) : wp_X_more σ r f t Q := by
  have hA0 := h.1.2.2.2.2.2.1.1
  have e5 : σ 0 5 = τ 80 0 := h.1.1.1.1
  have bb := hA0.1
  by_cases h1 : 0 ≤ r ∧ r < τ 80 0
  rotate_left
  · have q := Post_err k (e := -1) (by unfold rMore; rw [if_pos h1]) (by decide) (by decide)
    simp [wp_X_more, S_hasRoad, e5, h1, q]
  by_cases h2 : 0 ≤ f ∧ f < t ∧ t ≤ 1440
  rotate_left
  · have q := Post_err k (e := -2) (by unfold rMore; rw [if_neg (fun c => c h1), if_pos h2]) (by decide) (by decide)
    simp [wp_X_more, S_hasRoad, X_isSpan, e5, h1, h2, q]
  unfold wp_X_more
  simp only [S_hasRoad, X_isSpan (show (1 : Int) ≤ 1440 by decide) (by decide), e5, zIf1, h1, h2, true_and, not_true, not_false_eq_true, false_implies, true_implies, and_true, and_self]
  refine S_meetsSpan h.1.1 hA0 h1.1 h1.2 (fun hc => ⟨fun c => absurd c (by decide), fun _ => Post_err k (e := -2) (by unfold rMore; rw [if_neg (fun c => c h1), if_neg (fun c => c h2), if_pos hc]) (by decide) (by decide)⟩) (fun hc => ⟨fun _ => ?_, fun c => absurd rfl c⟩)
  have hr0 := h.1.1.2.2.1 r h1.1 h1.2
  have hok0 := hA0.2.2.2.2.1 r h1.1 h1.2
  have hc4 := hok0.2.2.2.2.1
  have z4 : σ 2 (r * 11 + 4) = τ 80 (27 + 12 * r + 4) := hr0.1 4 (by omega) (by omega)
  rw [S_ofRoads (by omega) (by omega), z4]
  refine ⟨fun c3 => ?_, fun c3 => Post_err k (e := -4) (by unfold rMore; rw [if_neg (fun c => c h1), if_neg (fun c => c h2), if_neg hc, if_pos (by omega)]) (by decide) (by decide)⟩
  refine X_remember h.1 (fun σ1 x fr g0 => ?_)
  have hA := x.2.2.2.2.2.1.1
  have e80r : mRec τ 80 = τ 80 := mRec_n (by omega) (by omega)
  have hr : RXr σ1 (τ 80) r := by rw [← e80r]; exact x.1.2.2.1 r h1.1 (by rw [e80r]; exact h1.2)
  have z41 : σ1 2 (r * 11 + 4) = τ 80 (27 + 12 * r + 4) := hr.1 4 (by omega) (by omega)
  refine S_addSpan (by omega) (by omega) (RXr_OKs hr (by omega) (by omega) (OKr_OKs hok0)) (by omega) (by omega) ?_
  rw [S_ofRoads (by omega) (by omega), mI_s, iA_4, z41]
  generalize hσ : mI σ1 2 (r * 11) f t = σ2
  have fx : ∀ p, p ≠ 2 → σ2 p = σ1 p := fun p hp => by rw [← hσ, mI_n hp]
  have hs := OKr_OKs hok0
  obtain ⟨i0, i1, -, -⟩ := iK_spec (f := f) hs (by omega) (by omega)
  have hK := RXr_iK hr (by omega) (by omega) f
  have ap : ∀ s, 0 ≤ s → s < τ 80 (27 + 12 * r + 4) → ¬ (f < τ 80 (27 + 12 * r + (5 + 2 * s + 1)) ∧ τ 80 (27 + 12 * r + (5 + 2 * s)) < t) := fun s s0 s1 hh => hc ⟨s, s0, s1, hh⟩
  have hi := OKs_ins hs (by omega) (by omega) h2 ap
  have eM : mI (mRec τ) 80 (27 + 12 * r) f t 80 = iA (τ 80) (27 + 12 * r) f t := by rw [mI_s, e80r]
  have hρ : rMore (τ 80) r f t = τ 80 (27 + 12 * r + 4) + 1 := by unfold rMore; rw [if_neg (fun c => c h1), if_neg (fun c => c h2), if_neg hc, if_neg (by omega)]
  have eN : ∀ i, (i < 27 + 12 * r + 4 ∨ 27 + 12 * r + 11 ≤ i) → mI (mRec τ) 80 (27 + 12 * r) f t 80 i = τ 80 i := fun i hi => by rw [eM, iA_old (by omega) i1]
  refine Post_ok h k hρ (by omega) (show B ≤ B + 1 by omega) (τ1 := mI (mRec τ) 80 (27 + 12 * r) f t) (by rw [fx 62 (by omega)]; exact g0) (fun p p0 p1 => mI_n p1) ?_ ?_
  · refine OKS_same (A := τ 80) (eN 0 (by omega)) (eN 2 (by omega)) (fun q q0 q1 => ?_) (fun q q0 q1 => eN _ (by omega)) h.2.2.2.1
    by_cases hq : q = r
    · exact eN _ (by omega)
    · exact eN _ (by omega)
  refine XRep_row (r := r) x g0 h1.1 (by rw [e80r]; exact h1.2) (fun p p2 p3 _ => fx p p2) (fun i hi => ?_) (fun i hi => by rw [fx 3 (by omega)]) (fun p p0 p1 => mI_n p1) (fun i hi => ?_) ?_ ?_ (Int.le_refl B)
  · rw [← hσ, mI_out (by rw [z41]; omega) (by rw [hK, z41]; exact i1)]
  · rw [eM, iA_old (by omega) i1, e80r]
  · rw [eM]
    exact RXr_ins hr (by omega) (by omega) hs (fun i i0 i1 => by rw [← hσ, mI_s]) (by rw [fx 3 (by omega)]) (fun c c0 c1 => rfl)
  · rw [eM]
    obtain ⟨k0, k1, k2, k3, k4, k5, k6, k7⟩ := hok0
    have old : ∀ c : Int, 0 ≤ c → (c < 4 ∨ c = 11) → iA (τ 80) (27 + 12 * r) f t (27 + 12 * r + c) = τ 80 (27 + 12 * r + c) := fun c c0 c1 => iA_old (by omega) i1
    refine ⟨by rw [old 0 (by omega) (by omega)]; exact k0, by rw [old 1 (by omega) (by omega)]; exact k1, by rw [old 2 (by omega) (by omega)]; exact k2, by rw [old 3 (by omega) (by omega)]; exact k3, by rw [iA_4]; omega, hi.1, hi.2, by rw [old 11 (by omega) (by omega)]; exact k7⟩
/-- close -/
def rClo (A : Int → Int) (r f t : Int) : Int := if clE A r f t = 0 then A 1 else clE A r f t
theorem clE_rg (A : Int → Int) (r f t : Int) : clE A r f t = -1 ∨ clE A r f t = -2 ∨ clE A r f t = -4 ∨ clE A r f t = 0 := by
  unfold clE
  split
  · exact Or.inl rfl
  · split
    · exact Or.inr (Or.inl rfl)
    · split
      · exact Or.inr (Or.inr (Or.inl rfl))
      · exact Or.inr (Or.inr (Or.inr rfl))
theorem Z_close {B : Int} {σ τ : zM} {Q : Int → zM → Prop} (h : Inv B σ τ) (r f t : Int) (k : Post B σ τ (rClo (τ 80) r f t) Q) : wp_X_close σ r f t Q := by
  have hA := h.1.2.2.2.2.2.1.1
  have b1 := hA.2.1
  refine X_close (Or.inl rfl) h.1 r f t (fun e e0 he => ?_) (fun he σ1 x fr g0 => ?_)
  · have hr := clE_rg (τ 80) r f t
    refine Post_err k (e := e) (by unfold rClo; rw [he, if_neg e0]) (by omega) (by omega)
  · rw [zRec_0] at x
    have ok := clE_ok he
    have e80r : mRec τ 80 = τ 80 := mRec_n (by omega) (by omega)
    have e80 : ∀ i, i ≠ 1 → ¬ (315 + 3 * τ 80 1 ≤ i ∧ i < 315 + 3 * τ 80 1 + 3) → mClo (mRec τ) r f t 80 i = τ 80 i := fun i i0 hi => by
      unfold mClo
      rw [e80r]
      simp (disch := omega) only [zU_j, e80r]
    refine Post_ok h k (by unfold rClo; rw [if_pos he]) b1.1 (show B ≤ B + 1 by omega) g0 (fun p p0 p1 => by unfold mClo; simp (disch := omega) only [zU_n]) ?_ x
    exact OKS_same (A := τ 80) (e80 0 (by omega) (by omega)) (e80 2 (by omega) (by omega)) (fun q q0 q1 => e80 _ (by have := hA.1; omega) (by have := hA.1; omega)) (fun q q0 q1 => e80 _ (by omega) (by omega)) h.2.2.2.1
/-- lift -/
def rLift (A : Int → Int) (c : Int) : Int := if ¬ (0 ≤ c ∧ c < A 1) then -1 else A 1 - 1
theorem Z_lift {B : Int} {σ τ : zM} {Q : Int → zM → Prop} (h : Inv B σ τ) (c : Int) (k : Post B σ τ (rLift (τ 80) c) Q) : wp_X_lift σ c Q := by
  have hA0 := h.1.2.2.2.2.2.1.1
  have e6 : σ 0 6 = τ 80 1 := h.1.1.1.2.1
  have bb := hA0.2.1
  by_cases h1 : 0 ≤ c ∧ c < τ 80 1
  rotate_left
  · have q := Post_err k (e := -1) (by simp [rLift, h1]) (by decide) (by decide)
    simp [wp_X_lift, S_hasClosure, e6, h1, q]
  have hρ : rLift (τ 80) c = τ 80 1 - 1 := by simp [rLift, h1]
  unfold wp_X_lift
  simp only [S_hasClosure, e6, zIf1, h1, true_and, not_true, not_false_eq_true, false_implies, true_implies, and_true, and_self]
  refine X_remember h.1 (fun σ1 x fr g0 => ?_)
  have hA := x.2.2.2.2.2.1.1
  have x0 := x.1.1
  have e80r : mRec τ 80 = τ 80 := mRec_n (by omega) (by omega)
  have e61 : σ1 0 6 = τ 80 1 := by rw [← e80r]; exact x0.2.1
  unfold wp_S_dropClosure
  rw [e61]
  refine ⟨zRi (by omega) (by omega), by omega, ?_⟩
  intro σ2 e2
  have e26 : σ2 0 6 = τ 80 1 := by rw [e2, zCp_n (by omega), e61]
  rw [e26]
  refine ⟨zRi (by omega) (by omega), ?_⟩
  intro σ3 e3
  have e36 : σ3 0 6 = τ 80 1 - 1 := by rw [e3, zU_s]
  rw [e36]
  have f3 : ∀ p, p ≠ 0 → p ≠ 4 → σ3 p = σ1 p := fun p p0 p4 => by rw [e3, zU_n p0, e2, zCp_n p4]
  have g0' : ∀ i, i ≠ 6 → σ3 0 i = σ1 0 i := fun i hi => by rw [e3, zU_j hi, e2, zCp_n (by omega)]
  have g4 : ∀ i, σ3 4 i = if c * 3 ≤ i ∧ i < (τ 80 1 - 1) * 3 then σ1 4 (i + 3) else σ1 4 i := fun i => by
    rw [e3, zU_n (by omega), e2, zCp_g]
    by_cases hi : c * 3 ≤ i ∧ i < (τ 80 1 - 1) * 3
    · rw [if_pos hi, if_pos (by omega)]; congr 1; omega
    · rw [if_neg hi, if_neg (by omega)]
  have e80 : ∀ i, i ≠ 1 → mLift (mRec τ) c 80 i = if 315 + 3 * c ≤ i ∧ i < 315 + 3 * (τ 80 1 - 1) then mRec τ 80 (i + 3) else mRec τ 80 i := fun i hi => by
    unfold mLift
    rw [zCp_g, e80r]
    by_cases hh : 315 + 3 * c ≤ i ∧ i < 315 + 3 * (τ 80 1 - 1)
    · rw [if_pos hh, if_pos (by omega), zU_j (by omega), e80r]; congr 1; omega
    · rw [if_neg hh, if_neg (by omega), zU_j (by omega), e80r]
  have q1 : mLift (mRec τ) c 80 1 = τ 80 1 - 1 := by unfold mLift; rw [zCp_g, if_neg (by omega), zU_s, e80r]
  have e80' : ∀ i, i ≠ 1 → (i < 315 ∨ 375 ≤ i) → mLift (mRec τ) c 80 i = mRec τ 80 i := fun i hi h2 => by rw [e80 i hi, if_neg (by omega)]
  have b1 := hA.2.1
  refine Post_ok h k hρ (by omega) (show B ≤ B + 1 by omega) (τ1 := mLift (mRec τ) c) (by rw [f3 62 (by omega) (by omega)]; exact g0) (fun p p0 p1 => by unfold mLift; rw [zCp_n p1, zU_n p1]) ?_ ?_
  · exact OKS_same (e80' 0 (by omega) (by omega)) (e80' 2 (by omega) (by omega)) (fun q q0 q1 => e80' _ (by omega) (by have := hA.1; omega)) (fun q q0 q1 => e80' _ (by omega) (by omega)) (by rw [e80r]; exact h.2.2.2.1)
  refine XRep_now x g0 (fun p p0 p1 => f3 p (by omega) (by omega)) (fun p p0 p1 => by unfold mLift; rw [zCp_n p1, zU_n p1]) ?_ ?_ (Int.le_refl B)
  · refine RX_parts x.1 (OKA_cnt hA) ?_ (Or.inl ⟨f3 1 (by omega) (by omega), ?_⟩) (Or.inl ⟨f3 2 (by omega) (by omega), f3 3 (by omega) (by omega), ?_, ?_⟩) (Or.inr fun q j c0 c1 j0 j1 => ?_) (Or.inl ⟨f3 5 (by omega) (by omega), ?_, ?_⟩)
    · rw [q1, e80' 0 (by omega) (by omega), e80' 2 (by omega) (by omega), e36, g0' 5 (by omega), g0' 7 (by omega)]
      exact ⟨x0.1, rfl, x0.2.2⟩
    · intro i i0 i1; exact e80' i (by omega) (by omega)
    · exact e80' _ (by omega) (by omega)
    · intro i i0 i1; exact e80' i (by omega) (by omega)
    · rw [q1] at c1
      rw [g4, e80 _ (by omega)]
      have b2 : mRec τ 80 1 = τ 80 1 := by rw [e80r]
      by_cases hc : c ≤ q
      · rw [if_pos (by omega), if_pos (by omega)]
        have := RX_clo x.1 (c := q + 1) (j := j) (by omega) (by omega) j0 j1
        rw [show (q + 1) * 3 + j = q * 3 + j + 3 by omega, show 315 + 3 * (q + 1) + j = 315 + 3 * q + j + 3 by omega] at this
        exact this
      · rw [if_neg (by omega), if_neg (by omega)]
        exact RX_clo x.1 c0 (by omega) j0 j1
    · exact e80' _ (by omega) (by omega)
    · intro i i0 i1; exact e80' i (by omega) (by omega)
  · refine OKA_parts hA ?_ (Or.inl ?_) (Or.inl ⟨?_, ?_⟩) (Or.inr fun q c0 c1 => ?_) (Or.inl ⟨?_, ?_⟩)
    · rw [q1, e80' 0 (by omega) (by omega), e80' 2 (by omega) (by omega)]; exact ⟨hA.1, by omega, hA.2.2.1⟩
    · intro i i0 i1; exact e80' i (by omega) (by omega)
    · exact e80' _ (by omega) (by omega)
    · intro i i0 i1; exact e80' i (by omega) (by omega)
    · rw [q1] at c1
      have b2 : mRec τ 80 1 = τ 80 1 := by rw [e80r]
      rw [e80' 0 (by omega) (by omega), e80 (315 + 3 * q + 0) (by omega), e80 (315 + 3 * q + 1) (by omega), e80 (315 + 3 * q + 2) (by omega)]
      by_cases hc : c ≤ q
      · rw [if_pos (by omega), if_pos (by omega), if_pos (by omega)]
        have := hA.2.2.2.2.2.1 (q + 1) (by omega) (by omega)
        rw [show 315 + 3 * (q + 1) + 0 = 315 + 3 * q + 0 + 3 by omega, show 315 + 3 * (q + 1) + 1 = 315 + 3 * q + 1 + 3 by omega, show 315 + 3 * (q + 1) + 2 = 315 + 3 * q + 2 + 3 by omega] at this
        exact this
      · rw [if_neg (by omega), if_neg (by omega), if_neg (by omega)]
        exact hA.2.2.2.2.2.1 q c0 (by omega)
    · exact e80' _ (by omega) (by omega)
    · intro i i0 i1; exact e80' i (by omega) (by omega)
/-- traveller -/
def rTrv (A : Int → Int) (p t : Int) : Int := if ¬ (0 ≤ p ∧ p ≤ 7) then -1 else if ¬ (0 ≤ t ∧ t ≤ 2880) then -2 else if ¬ A 2 < 10 then -4 else A 2
theorem Z_traveller {B : Int} {σ τ : zM} {Q : Int → zM → Prop} (h : Inv B σ τ) (p t : Int) (k : Post B σ τ (rTrv (τ 80) p t) Q) : wp_X_traveller σ p t Q := by
  have hA0 := h.1.2.2.2.2.2.1.1
  have e7 : σ 0 7 = τ 80 2 := h.1.1.1.2.2
  have bb := hA0.2.2.1
  by_cases h1 : 0 ≤ p ∧ p ≤ 7
  rotate_left
  · have q := Post_err k (e := -1) (by simp [rTrv, h1]) (by decide) (by decide)
    simp [wp_X_traveller, X_isPlace, h1, q]
  by_cases h2 : 0 ≤ t ∧ t ≤ 2880
  rotate_left
  · have q := Post_err k (e := -2) (by simp [rTrv, h1, h2]) (by decide) (by decide)
    simp [wp_X_traveller, X_isPlace, X_within, h1, h2, q]
  by_cases h5 : τ 80 2 < 10
  rotate_left
  · have q := Post_err k (e := -4) (by simp [rTrv, h1, h2, h5]) (by decide) (by decide)
    simp [wp_X_traveller, X_isPlace, X_within, h1, h2, e7, h5, q]
  have h5' : σ 0 7 < 10 := by omega
  have hρ : rTrv (τ 80) p t = τ 80 2 := by simp [rTrv, h1, h2, h5]
  unfold wp_X_traveller
  simp only [X_isPlace, X_within, zIf1, h1, h2, h5', true_and, not_true, not_false_eq_true, false_implies, true_implies, and_true, and_self]
  refine X_remember h.1 (fun σ1 x fr g0 => ?_)
  have hA := x.2.2.2.2.2.1.1
  have x0 := x.1.1
  have e80r : mRec τ 80 = τ 80 := mRec_n (by omega) (by omega)
  have e71 : σ1 0 7 = τ 80 2 := by rw [← e80r]; exact x0.2.2
  have hs := h.2.2.2.1
  unfold wp_S_addTraveller
  rw [e71]
  generalize hn : τ 80 2 = n at *
  refine ⟨zRi (by omega) (by omega), zRi (by omega) (by omega), by omega, ?_⟩
  rintro _ rfl
  refine ⟨by omega, ?_⟩
  rintro _ rfl
  refine ⟨by omega, ?_⟩
  rintro _ rfl
  refine ⟨by omega, ?_⟩
  rintro _ rfl
  refine ⟨by omega, ?_⟩
  rintro _ rfl
  refine ⟨by omega, ?_⟩
  intro σ9 e9
  have e97 : σ9 0 7 = n := by rw [e9]; simp (disch := omega) only [zU_n, zFl_n, e71]
  rw [e97]
  refine ⟨zRi (by omega) (by omega), ?_⟩
  intro σ2 e2
  have e27 : σ2 0 7 = n + 1 := by rw [e2, zU_s]
  rw [e27, show n + 1 - 1 = n by omega]
  refine ⟨zRi (by omega) (by omega), ?_⟩
  have f5 : ∀ p, p ≠ 0 → p ≠ 5 → σ2 p = σ1 p := fun p p0 p5 => by rw [e2, zU_n p0, e9, zU_n p5, zU_n p5, zU_n p5, zU_n p5, zU_n p5, zFl_n p5]
  have g0' : ∀ i, i ≠ 7 → σ2 0 i = σ1 0 i := fun i hi => by
    rw [e2, zU_j hi, e9]; simp (disch := omega) only [zU_n, zFl_n]
  have g5 : ∀ i, σ2 5 i = if i = n * 8 + 7 then t else if i = n * 8 + 6 then p else if i = n * 8 + 2 then t else if i = n * 8 + 1 then t else if i = n * 8 + 0 then p else if n * 8 ≤ i ∧ i < n * 8 + 8 then 0 else σ1 5 i := fun i => by
    rw [e2, zU_n (by omega), e9, zU_g, zU_g, zU_g, zU_g, zU_g, zFl_g]
  have w0 : mRec τ 80 2 = n := by rw [e80r]; exact hn
  have e80 : ∀ i, i ≠ 2 → ¬ (375 + 8 * n ≤ i ∧ i < 375 + 8 * n + 8) → mTrv (mRec τ) p t 80 i = mRec τ 80 i := fun i i0 hi => by
    unfold mTrv
    rw [w0]
    simp (disch := omega) only [zU_j]
  have e802 : mTrv (mRec τ) p t 80 2 = n + 1 := by unfold mTrv; rw [zU_s, w0]
  have er : ∀ k, 0 ≤ k → k < 8 → mTrv (mRec τ) p t 80 (375 + 8 * n + k) = if k = 0 ∨ k = 6 then p else if k = 1 ∨ k = 2 ∨ k = 7 then t else 0 := by
    intro k k0 k1
    unfold mTrv
    rw [w0]
    rcases (show k = 0 ∨ k = 1 ∨ k = 2 ∨ k = 3 ∨ k = 4 ∨ k = 5 ∨ k = 6 ∨ k = 7 by omega) with rfl | rfl | rfl | rfl | rfl | rfl | rfl | rfl
    · rw [Int.add_zero]; simp (disch := omega) only [zU_j, zU_s]; rfl
    all_goals (simp (disch := omega) only [zU_j, zU_s]; rfl)
  refine Post_ok h k hρ (by omega) (show B ≤ B + 1 by omega) (τ1 := mTrv (mRec τ) p t) (by rw [f5 62 (by omega) (by omega)]; exact g0) (fun p p0 p1 => by unfold mTrv; simp (disch := omega) only [zU_n]) ?_ ?_
  · unfold OKS at *
    have b0 := hA.1
    rw [e802, e80 0 (by omega) (by omega), e80r, sR_congr (A := τ 80) (A' := mTrv (mRec τ) p t 80) (fun i i0 i1 => by rw [e80 _ (by rw [e80r] at b0; omega) (by rw [e80r] at b0; omega), e80r]), show (n + 1).toNat = n.toNat + 1 by omega, ← hs, hn]
    show sT _ n.toNat + _ = _
    rw [sT_congr (A := τ 80) (A' := mTrv (mRec τ) p t 80) (fun i i0 i1 => by rw [e80 _ (by omega) (by omega), e80r]), show ((n.toNat : Nat) : Int) = n by omega, er 3 (by omega) (by omega)]
    simp
  refine XRep_now x g0 (fun p p0 p1 => f5 p (by omega) (by omega)) (fun p p0 p1 => by unfold mTrv; simp (disch := omega) only [zU_n]) ?_ ?_ (Int.le_refl B)
  · refine RX_parts x.1 (OKA_cnt hA) ?_ (Or.inl ⟨f5 1 (by omega) (by omega), ?_⟩) (Or.inl ⟨f5 2 (by omega) (by omega), f5 3 (by omega) (by omega), ?_, ?_⟩) (Or.inl ⟨f5 4 (by omega) (by omega), ?_, ?_⟩) (Or.inr fun v j v0 v1 j0 j1 => ?_)
    · rw [e802, e80 0 (by omega) (by omega), e80 1 (by omega) (by omega), e27, g0' 5 (by omega), g0' 6 (by omega)]
      exact ⟨x0.1, x0.2.1, rfl⟩
    · intro i i0 i1; exact e80 i (by omega) (by omega)
    · exact e80 _ (by omega) (by omega)
    · intro i i0 i1; exact e80 i (by omega) (by omega)
    · exact e80 _ (by omega) (by omega)
    · intro i i0 i1; exact e80 i (by omega) (by omega)
    · rw [e802] at v1
      rw [g5]
      by_cases hv : v = n
      · subst hv
        rw [er j j0 j1]
        rcases (show j = 0 ∨ j = 1 ∨ j = 2 ∨ j = 3 ∨ j = 4 ∨ j = 5 ∨ j = 6 ∨ j = 7 by omega) with rfl | rfl | rfl | rfl | rfl | rfl | rfl | rfl <;> simp <;> omega
      · rw [if_neg (by omega), if_neg (by omega), if_neg (by omega), if_neg (by omega), if_neg (by omega), if_neg (by omega), e80 _ (by omega) (by omega)]
        exact RX_trv x.1 v0 (by omega) j0 j1
  · refine OKA_parts hA ?_ (Or.inl ?_) (Or.inl ⟨?_, ?_⟩) (Or.inl ⟨?_, ?_, ?_⟩) (Or.inr fun v v0 v1 => ?_)
    · rw [e802, e80 0 (by omega) (by omega), e80 1 (by omega) (by omega)]; exact ⟨hA.1, hA.2.1, by omega⟩
    · intro i i0 i1; exact e80 i (by omega) (by omega)
    · exact e80 _ (by omega) (by omega)
    · intro i i0 i1; exact e80 i (by omega) (by omega)
    · rw [e80 0 (by omega) (by omega)]; exact Int.le_refl _
    · exact e80 _ (by omega) (by omega)
    · intro i i0 i1; exact e80 i (by omega) (by omega)
    · rw [e802] at v1
      by_cases hv : v = n
      · subst hv
        unfold OKt
        rw [er 0 (by omega) (by omega), er 1 (by omega) (by omega), er 2 (by omega) (by omega), er 3 (by omega) (by omega), er 4 (by omega) (by omega), er 5 (by omega) (by omega), er 7 (by omega) (by omega)]
        simp
        omega
      · exact OKt_row (fun k c0 c1 => e80 _ (by omega) (by omega)) (hA.2.2.2.2.2.2 v v0 (by omega))
/-- go -/
noncomputable def rGo (A : Int → Int) (v r : Int) : Int := if (0 ≤ v ∧ v < A 2) ∧ (0 ≤ r ∧ r < A 0) then (if goW A v r = 0 then A (375 + 8 * v + 1) + A (27 + 12 * r + 2) else -5) else -1
theorem goW_rg (A : Int → Int) (v r : Int) : goW A v r = 0 ∨ (1 ≤ goW A v r ∧ goW A v r ≤ 7) := by
  unfold goW
  split
  · rcases why_rng A r (A (375 + 8 * v + 1)) with e | e | e | e | e <;> omega
  · omega
theorem Z_go {B : Int} {σ τ : zM} {Q : Int → zM → Prop} (hB : B ≤ 1000000) (h : Inv B σ τ) (v r : Int) (k : Post B σ τ (rGo (τ 80) v r) Q) : wp_X_go σ v r Q := by
  have hA := h.1.2.2.2.2.2.1.1
  have b0 := hA.1
  have b2 := hA.2.2.1
  refine X_go hB (Or.inl rfl) h.1 v r (fun hn => ?_) (fun w ok w0 hw σ1 x fr e62 => ?_) (fun ok hw σ1 x fr g0 => ?_)
  · unfold goA at hn
    exact Post_err k (e := -1) (by unfold rGo; rw [if_neg hn]) (by decide) (by decide)
  · have hr := goW_rg (τ 80) v r
    unfold goA at ok
    exact k.2.1 (by unfold rGo; rw [if_pos ok, if_neg (by omega)]) w σ1 (by omega) (by omega) (Inv_ref h x e62)
  · rw [zRec_0] at x
    unfold goA at ok
    have ht := hA.2.2.2.2.2.2 v ok.1.1 ok.1.2
    have hr := hA.2.2.2.2.1 r ok.2.1 ok.2.2
    have ht1 := ht.2.1
    have hr2 := hr.2.2.1
    have ok1 := ok.1
    have ok2 := ok.2
    have e80r : mRec τ 80 = τ 80 := mRec_n (by omega) (by omega)
    have e80 : ∀ i, i ≠ 27 + 12 * r + 11 → ¬ (375 + 8 * v ≤ i ∧ i < 375 + 8 * v + 8) → mGo (mRec τ) v r 80 i = τ 80 i := fun i i0 hi => by
      unfold mGo
      simp (disch := omega) only [zU_j, e80r]
    have q11 : mGo (mRec τ) v r 80 (27 + 12 * r + 11) = τ 80 (27 + 12 * r + 11) + 1 := by unfold mGo; rw [zU_s, e80r]
    have q3 : mGo (mRec τ) v r 80 (375 + 8 * v + 3) = τ 80 (375 + 8 * v + 3) + 1 := by
      unfold mGo
      simp (disch := omega) only [zU_j, zU_s, e80r]
    refine Post_ok h k (by unfold rGo; rw [if_pos ok, if_pos hw]) (by omega) (Int.le_refl (B + 1)) g0 (fun p p0 p1 => by unfold mGo; simp (disch := omega) only [zU_n]) ?_ x
    have hs := h.2.2.2.1
    unfold OKS at *
    rw [e80 0 (by omega) (by omega), e80 2 (by omega) (by omega), sT_inc (A := τ 80) ok1.1 q3 (by omega) (fun i i0 i1 i2 => e80 _ (by omega) (by omega)), sR_inc (A := τ 80) ok2.1 q11 (by omega) (fun i i0 i1 i2 => e80 _ (by omega) (by omega)), hs]
/-- stay -/
def rSty (A : Int → Int) (v m : Int) : Int := if stE A v m = 0 then (if stW A v m = 0 then A (375 + 8 * v + 1) + m else -5) else stE A v m
theorem stW_rg (A : Int → Int) (v m : Int) : stW A v m = 0 ∨ (1 ≤ stW A v m ∧ stW A v m ≤ 7) := by
  unfold stW
  split
  · omega
  · split
    · omega
    · split <;> omega
theorem stE_rg (A : Int → Int) (v m : Int) : stE A v m = -1 ∨ stE A v m = -2 ∨ stE A v m = 0 := by
  unfold stE
  split
  · exact Or.inl rfl
  · split
    · exact Or.inr (Or.inl rfl)
    · exact Or.inr (Or.inr rfl)
theorem Z_stay {B : Int} {σ τ : zM} {Q : Int → zM → Prop} (h : Inv B σ τ) (v m : Int) (k : Post B σ τ (rSty (τ 80) v m) Q) : wp_X_stay σ v m Q := by
  have hA := h.1.2.2.2.2.2.1.1
  have b0 := hA.1
  have b2 := hA.2.2.1
  refine X_stay (Or.inl rfl) h.1 v m (fun e e0 he => ?_) (fun w ok w0 hw σ1 x fr e62 => ?_) (fun ok hw σ1 x fr g0 => ?_)
  · have hr := stE_rg (τ 80) v m
    exact Post_err k (e := e) (by unfold rSty; rw [he, if_neg e0]) (by omega) (by omega)
  · have hr := stW_rg (τ 80) v m
    exact k.2.1 (by unfold rSty; rw [if_pos ok, if_neg (by omega)]) w σ1 (by omega) (by omega) (Inv_ref h x e62)
  · rw [zRec_0] at x
    obtain ⟨ok1, ok2⟩ := stE_ok ok
    have ht := hA.2.2.2.2.2.2 v ok1.1 ok1.2
    have ht1 := ht.2.1
    have e80r : mRec τ 80 = τ 80 := mRec_n (by omega) (by omega)
    have e80 : ∀ i, i ≠ 375 + 8 * v + 1 → i ≠ 375 + 8 * v + 4 → mSty (mRec τ) v m 80 i = τ 80 i := fun i i0 hi => by
      unfold mSty
      simp (disch := omega) only [zU_j, e80r]
    refine Post_ok h k (by unfold rSty; rw [if_pos ok, if_pos hw]) (by omega) (show B ≤ B + 1 by omega) g0 (fun p p0 p1 => by unfold mSty; simp (disch := omega) only [zU_n]) ?_ x
    exact OKS_same (A := τ 80) (e80 0 (by omega) (by omega)) (e80 2 (by omega) (by omega)) (fun q q0 q1 => e80 _ (by omega) (by omega)) (fun q q0 q1 => e80 _ (by omega) (by omega)) h.2.2.2.1
