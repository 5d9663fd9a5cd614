/-! stay, and what keeps and gives back -/
def stE (A : Int → Int) (v m : Int) : Int := if ¬ (0 ≤ v ∧ v < A 2) then -1 else if ¬ (1 ≤ m ∧ m ≤ 1000) then -2 else 0
def stW (A : Int → Int) (v m : Int) : Int := if 2880 < A (375 + 8 * v + 1) + m then 5 else if oU A (A (375 + 8 * v + 0)) (A (375 + 8 * v + 1)) < A (375 + 8 * v + 1) + m then 6 else if A (3 + 3 * A (375 + 8 * v + 0) + 2) < A (375 + 8 * v + 1) + m - A (375 + 8 * v + 2) then 7 else 0
def mSty (τ : zM) (v m : Int) : zM := zU (zU τ 80 (375 + 8 * v + 1) (τ 80 (375 + 8 * v + 1) + m)) 80 (375 + 8 * v + 4) (τ 80 (375 + 8 * v + 4) + m)
theorem Fr_mSty {x y : zM} {v m : Int} (h : Fr x y) : Fr (mSty x v m) (mSty y v m) := by
  unfold mSty
  rw [h 80 (by omega)]
  exact Fr_zU2 (Fr_zU2 h)
theorem FrM_mSty {x : zM} {v m : Int} : FrM x (mSty x v m) := fun n hn => by
  unfold mSty
  simp (disch := omega) only [zU_n]
theorem stE_ok {A : Int → Int} {v m : Int} (h : stE A v m = 0) : (0 ≤ v ∧ v < A 2) ∧ 1 ≤ m ∧ m ≤ 1000 := by
  unfold stE at h
  by_cases h1 : 0 ≤ v ∧ v < A 2
  · rw [if_neg (fun c => c h1)] at h
    by_cases h2 : 1 ≤ m ∧ m ≤ 1000
    · exact ⟨h1, h2⟩
    · rw [if_pos h2] at h; cases h
  · rw [if_pos h1] at h; cases h
theorem X_stay {B z : Int} {σ τ : zM} {Q : Int → zM → Prop} (hz : z = 0 ∨ z = 1) (h : XRep B z σ τ) (v m : Int) (kn : ∀ e, e ≠ 0 → stE (τ 80) v m = e → Q e σ) (kr : ∀ w, stE (τ 80) v m = 0 → w ≠ 0 → stW (τ 80) v m = w → ∀ σ1, XRep B z σ1 (zU τ 79 5 w) → Fr σ σ1 → σ1 62 = σ 62 → Q (-5) σ1) (k : stE (τ 80) v m = 0 → stW (τ 80) v m = 0 → ∀ σ1, XRep B z σ1 (mSty (zRec z τ) v m) → Fr σ σ1 → σ1 62 1 = 0 → Q (τ 80 (375 + 8 * v + 1) + m) σ1) : wp_X_stay σ v m Q := by
  have hA0 := h.2.2.2.2.2.1.1
  have e7 : σ 0 7 = τ 80 2 := h.1.1.2.2
  have b2 := hA0.2.2.1
  by_cases h1 : 0 ≤ v ∧ v < τ 80 2
  rotate_left
  · have := kn (-1) (by decide) (by unfold stE; rw [if_pos h1])
    simp [wp_X_stay, S_hasTraveller, e7, h1, this]
  by_cases h2 : 1 ≤ m ∧ m ≤ 1000
  rotate_left
  · have := kn (-2) (by decide) (by unfold stE; rw [if_neg (fun c => c h1), if_pos h2])
    simp [wp_X_stay, S_hasTraveller, X_within, e7, h1, h2, this]
  have hE : stE (τ 80) v m = 0 := by unfold stE; rw [if_neg (fun c => c h1), if_neg (fun c => c h2)]
  have ht0 := hA0.2.2.2.2.2.2 v h1.1 h1.2
  unfold wp_X_stay
  simp only [S_hasTraveller, X_within, e7, zIf1, h1, h2, true_and, not_true, not_false_eq_true, false_implies, true_implies, and_true, and_self]
  have both : ∀ w, stW (τ 80) v m = w → ((w = 0 → wp_X_remember σ (fun σ8 => wp_S_waitThere σ8 v m (fun z9 σ10 => Q z9 σ10))) ∧ (¬ w = 0 → wp_X_refuse σ w (fun z11 σ12 => Q z11 σ12))) := by
    intro w hw
    refine ⟨fun hw0 => ?_, fun hw0 => X_refuse h (fun σ1 x fr e => kr w hE hw0 hw σ1 x fr e)⟩
    rw [hw0] at hw
    have k := k hE hw
    refine X_rem hz h (fun σ1 x fr g0 => ?_)
    have e80r : zRec z τ 80 = τ 80 := zRec_n (by omega) (by omega)
    have hA := x.2.2.2.2.2.1.1
    have xR : RX σ1 0 (τ 80) := by rw [← e80r]; exact x.1
    have hle : ¬ 2880 < τ 80 (375 + 8 * v + 1) + m := fun c => by unfold stW at hw; rw [if_pos c] at hw; cases hw
    obtain ⟨t0, t1, t2, t3, t4, t5⟩ := ht0
    unfold wp_S_waitThere
    have a1 : σ1 5 (v * 8 + 1) = τ 80 (375 + 8 * v + 1) := RX_trv xR h1.1 h1.2 (by omega) (by omega)
    have a4 : σ1 5 (v * 8 + 4) = τ 80 (375 + 8 * v + 4) := RX_trv xR h1.1 h1.2 (by omega) (by omega)
    rw [a1]
    refine ⟨zRi (by omega) (by omega), by omega, by omega, zRi (by omega) (by omega), ?_⟩
    intro σ2 e2
    have b4 : σ2 5 (v * 8 + 4) = τ 80 (375 + 8 * v + 4) := by rw [e2, zU_j (by omega), a4]
    rw [b4]
    refine ⟨by omega, by omega, zRi (by omega) (by omega), ?_⟩
    intro σ3 e3
    have b1 : σ3 5 (v * 8 + 1) = τ 80 (375 + 8 * v + 1) + m := by rw [e3, zU_j (by omega), e2, zU_s]
    rw [b1]
    refine ⟨by omega, k σ3 ?_ (fun p hp => by rw [e3, zU_n (by omega), e2, zU_n (by omega)]; exact fr p hp) (by rw [e3, zU_n (by omega), e2, zU_n (by omega)]; exact g0)⟩
    have f5 : ∀ p, p ≠ 5 → σ3 p = σ1 p := fun p p5 => by rw [e3, zU_n p5, e2, zU_n p5]
    have g5 : ∀ i, σ3 5 i = if i = v * 8 + 4 then τ 80 (375 + 8 * v + 4) + m else if i = v * 8 + 1 then τ 80 (375 + 8 * v + 1) + m else σ1 5 i := fun i => by
      rw [e3, zU_g, e2, zU_g]
    have e80 : ∀ i, ¬ (375 + 8 * v ≤ i ∧ i < 375 + 8 * v + 8) → mSty (zRec z τ) v m 80 i = zRec z τ 80 i := fun i hi => by
      unfold mSty
      rw [zU_j (by omega), zU_j (by omega)]
    have er : ∀ k, mSty (zRec z τ) v m 80 (375 + 8 * v + k) = if k = 4 then τ 80 (375 + 8 * v + 4) + m else if k = 1 then τ 80 (375 + 8 * v + 1) + m else τ 80 (375 + 8 * v + k) := fun k => by
      unfold mSty
      rw [e80r, zU_g, zU_g, e80r]
      by_cases c1 : k = 4
      · rw [if_pos (by omega), if_pos c1]
      · rw [if_neg (by omega), if_neg c1]
        by_cases c2 : k = 1
        · rw [if_pos (by omega), if_pos c2]
        · rw [if_neg (by omega), if_neg c2]
    have c1 := hA.1
    have c2 := hA.2.2.1
    refine XRep_now x g0 (fun p p0 p1 => f5 p (by omega)) (fun p p0 p1 => by unfold mSty; rw [zU_n p1, zU_n p1]) ?_ ?_ (Int.le_refl B)
    · refine RX_parts x.1 (OKA_cnt hA) ?_ (Or.inl ⟨f5 1 (by omega), ?_⟩) (Or.inl ⟨f5 2 (by omega), f5 3 (by omega), ?_, ?_⟩) (Or.inl ⟨f5 4 (by omega), ?_, ?_⟩) (Or.inr fun u j v0 v1 j0 j1 => ?_)
      · rw [e80 0 (by omega), e80 1 (by omega), e80 2 (by omega), f5 0 (by omega)]; exact x.1.1
      · intro i i0 i1; exact e80 i (by omega)
      · exact e80 _ (by omega)
      · intro i i0 i1; exact e80 i (by omega)
      · exact e80 _ (by omega)
      · intro i i0 i1; exact e80 i (by omega)
      · rw [e80 2 (by omega)] at v1
        rw [g5]
        by_cases hv : u = v
        · subst hv
          rw [er j]
          by_cases c1 : j = 4
          · rw [if_pos (by omega), if_pos c1]
          · rw [if_neg (by omega), if_neg c1]
            by_cases c2 : j = 1
            · rw [if_pos (by omega), if_pos c2]
            · rw [if_neg (by omega), if_neg c2]; exact RX_trv xR h1.1 h1.2 j0 j1
        · rw [if_neg (by omega), if_neg (by omega), e80 _ (by omega)]
          exact RX_trv x.1 v0 v1 j0 j1
    · refine OKA_parts hA ?_ (Or.inl ?_) (Or.inl ⟨?_, ?_⟩) (Or.inl ⟨?_, ?_, ?_⟩) (Or.inr fun u v0 v1 => ?_)
      · rw [e80 0 (by omega), e80 1 (by omega), e80 2 (by omega)]; exact ⟨hA.1, hA.2.1, hA.2.2.1⟩
      · intro i i0 i1; exact e80 i (by omega)
      · exact e80 _ (by omega)
      · intro i i0 i1; exact e80 i (by omega)
      · rw [e80 0 (by omega)]; exact Int.le_refl _
      · exact e80 _ (by omega)
      · intro i i0 i1; exact e80 i (by omega)
      · rw [e80 2 (by omega)] at v1
        by_cases hv : u = v
        · subst hv
          unfold OKt
          rw [er 0, er 1, er 2, er 3, er 4, er 5, er 7]
          simp
          simp only [Int.add_zero] at t0
          omega
        · exact OKt_row (fun k c0 c1 => e80 _ (by omega)) (hA.2.2.2.2.2.2 u v0 v1)
  obtain ⟨t0, t1, t2, t3, t4, t5⟩ := ht0
  have hp := hA0.2.2.2.1 _ t0.1 t0.2
  unfold wp_S_whyNoStaying
  rw [S_ofT' h.1 h1.1 h1.2 b2.2 (by omega) (by omega), S_ofT' h.1 h1.1 h1.2 b2.2 (by omega) (by omega)]
  refine ⟨zRi (by omega) (by omega), fun c => ?_, fun c => both 5 (by unfold stW; rw [if_pos (by omega)])⟩
  rw [S_ofT' h.1 h1.1 h1.2 b2.2 (by omega) (by omega)]
  refine S_openUntil h.1 hA0 t0.1 t0.2 (by omega) (by omega) ⟨fun c2 => ?_, fun c2 => both 6 (by unfold stW; rw [if_neg (by omega), if_pos (by omega)])⟩
  rw [S_ofT' h.1 h1.1 h1.2 b2.2 (by omega) (by omega), S_ofRooms' h.1 t0.1 t0.2 (by omega) (by omega)]
  exact ⟨zRi (by omega) (by omega), fun c3 => both 0 (by unfold stW; rw [if_neg (by omega), if_neg (by omega), if_neg (by omega)]), fun c3 => both 7 (by unfold stW; rw [if_neg (by omega), if_neg (by omega), if_pos (by omega)])⟩