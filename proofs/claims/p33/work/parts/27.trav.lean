/-! travellers -/
def mTrv (τ : zM) (p t : Int) : zM := zU (zU (zU (zU (zU (zU (zU (zU (zU τ 80 (375 + 8 * τ 80 2) p) 80 (375 + 8 * τ 80 2 + 1) t) 80 (375 + 8 * τ 80 2 + 2) t) 80 (375 + 8 * τ 80 2 + 3) 0) 80 (375 + 8 * τ 80 2 + 4) 0) 80 (375 + 8 * τ 80 2 + 5) 0) 80 (375 + 8 * τ 80 2 + 6) p) 80 (375 + 8 * τ 80 2 + 7) t) 80 2 (τ 80 2 + 1)
theorem Fr_mTrv {x y : zM} {p t : Int} (h : Fr x y) : Fr (mTrv x p t) (mTrv y p t) := by
  unfold mTrv
  rw [h 80 (by omega)]
  exact Fr_zU2 (Fr_zU2 (Fr_zU2 (Fr_zU2 (Fr_zU2 (Fr_zU2 (Fr_zU2 (Fr_zU2 (Fr_zU2 h))))))))
theorem FrM_mTrv {x : zM} {p t : Int} : FrM x (mTrv x p t) := fun n hn => by
  unfold mTrv
  simp (disch := omega) only [zU_n]
theorem X_refuse {B z w : Int} {σ τ : zM} {Q : Int → zM → Prop} (h : XRep B z σ τ) (k : ∀ σ1, XRep B z σ1 (zU τ 79 5 w) → Fr σ σ1 → σ1 62 = σ 62 → Q (-5) σ1) : wp_X_refuse σ w Q := by
  unfold wp_X_refuse
  rintro _ rfl
  refine k _ ?_ (fun n hn => zU_n (by omega)) (zU_n (by omega))
  obtain ⟨hR, hH, hS, hM, hG, hT, hz⟩ := h
  have ht4 := hT.2.1
  have f : ∀ n, n ≠ 54 → zU σ 54 5 w n = σ n := fun n hn => zU_n hn
  have g : ∀ n, n ≠ 79 → zU τ 79 5 w n = τ n := fun n hn => zU_n hn
  have g4 : zU τ 79 5 w 79 4 = τ 79 4 := zU_j (by omega)
  have g7 : zU τ 79 5 w 79 7 = τ 79 7 := zU_j (by omega)
  refine ⟨?_, ⟨?_, ?_, ?_, ?_⟩, ⟨?_, ?_, ?_, ?_, ?_⟩, ⟨?_, ?_, ?_⟩, ?_, ?_, ?_⟩
  · rw [g 80 (by omega)]; exact RX_congr (fun n h1 h2 => f n (by omega)) hR
  · rw [g4, zU_j (by omega)]; exact hH.1
  · rw [f 55 (by omega)]; exact hH.2.1
  · rw [f 55 (by omega)]; exact hH.2.2.1
  · intro i i0 i1
    rw [g4] at i1
    rw [f 55 (by omega), g 81 (by omega)]
    have hb := hH.2.1 i i0 (by omega)
    exact RX_congr (fun n h1 h2 => f n (by omega)) (hH.2.2.2 i i0 i1)
  · rw [f 56 (by omega)]; exact hS.1
  · rw [f 56 (by omega)]; exact hS.2.1
  · rw [f 57 (by omega), g 83 (by omega)]; exact hS.2.2.1
  · rw [g 83 (by omega), g 82 (by omega)]; exact fun q => RX_congr (fun n h1 h2 => f n (by omega)) (hS.2.2.2.1 q)
  · rw [g 83 (by omega), g 82 (by omega)]; exact fun q => RX_congr (fun n h1 h2 => f n (by omega)) (hS.2.2.2.2 q)
  · rw [zU_s, zU_s]
  · rw [f 58 (by omega), g7]; exact hM.2.1
  · rw [f 59 (by omega), g7, g 84 (by omega)]; exact hM.2.2
  · exact XG_eq (by rw [f 62 (by omega)]) (f 63 (by omega)) (g 80 (by omega)) hG
  · unfold TOK at *
    rw [g4, g7, g 80 (by omega), g 81 (by omega), g 82 (by omega), g 83 (by omega), g 84 (by omega)]; exact hT
  · rw [zU_j (by omega)]; exact hz
/-- go -/
def goA (A : Int → Int) (v r : Int) : Prop := (0 ≤ v ∧ v < A 2) ∧ (0 ≤ r ∧ r < A 0)
noncomputable def goW (A : Int → Int) (v r : Int) : Int := if A (27 + 12 * r + 0) = A (375 + 8 * v + 0) then why A r (A (375 + 8 * v + 1)) else 1
def mGo (τ : zM) (v r : Int) : zM := zU (zU (zU (zU (zU (zU τ 80 (375 + 8 * v) (τ 80 (27 + 12 * r + 1))) 80 (375 + 8 * v + 1) (τ 80 (375 + 8 * v + 1) + τ 80 (27 + 12 * r + 2))) 80 (375 + 8 * v + 2) (τ 80 (375 + 8 * v + 1) + τ 80 (27 + 12 * r + 2))) 80 (375 + 8 * v + 3) (τ 80 (375 + 8 * v + 3) + 1)) 80 (375 + 8 * v + 5) (τ 80 (375 + 8 * v + 5) + τ 80 (27 + 12 * r + 2))) 80 (27 + 12 * r + 11) (τ 80 (27 + 12 * r + 11) + 1)
theorem Fr_mGo {x y : zM} {v r : Int} (h : Fr x y) : Fr (mGo x v r) (mGo y v r) := by
  unfold mGo
  rw [h 80 (by omega)]
  exact Fr_zU2 (Fr_zU2 (Fr_zU2 (Fr_zU2 (Fr_zU2 (Fr_zU2 h)))))
theorem FrM_mGo {x : zM} {v r : Int} : FrM x (mGo x v r) := fun n hn => by
  unfold mGo
  simp (disch := omega) only [zU_n]
theorem goW_ok {A : Int → Int} {v r : Int} (h : goW A v r = 0) : why A r (A (375 + 8 * v + 1)) = 0 := by
  unfold goW at h
  split at h
  · exact h
  · cases h
theorem X_go {B z : Int} {σ τ : zM} {Q : Int → zM → Prop} (hB : B ≤ 1000000) (hz : z = 0 ∨ z = 1) (h : XRep B z σ τ) (v r : Int) (kn : ¬ goA (τ 80) v r → Q (-1) σ) (kr : ∀ w, goA (τ 80) v r → w ≠ 0 → goW (τ 80) v r = w → ∀ σ1, XRep B z σ1 (zU τ 79 5 w) → Fr σ σ1 → σ1 62 = σ 62 → Q (-5) σ1) (k : goA (τ 80) v r → goW (τ 80) v r = 0 → ∀ σ1, XRep (B + 1) z σ1 (mGo (zRec z τ) v r) → Fr σ σ1 → σ1 62 1 = 0 → Q (τ 80 (375 + 8 * v + 1) + τ 80 (27 + 12 * r + 2)) σ1) : wp_X_go σ v r Q := by
  have hA0 := h.2.2.2.2.2.1.1
  have e5 : σ 0 5 = τ 80 0 := h.1.1.1
  have e7 : σ 0 7 = τ 80 2 := h.1.1.2.2
  have bb := hA0.1
  have b2 := hA0.2.2.1
  unfold goA at kn kr k
  by_cases h1 : 0 ≤ v ∧ v < τ 80 2
  rotate_left
  · have := kn (fun c => h1 c.1)
    simp [wp_X_go, S_hasTraveller, e7, h1, this]
  by_cases h2 : 0 ≤ r ∧ r < τ 80 0
  rotate_left
  · have := kn (fun c => h2 c.2)
    simp [wp_X_go, S_hasTraveller, S_hasRoad, e5, e7, h1, h2, this]
  have hr0 := hA0.2.2.2.2.1 r h2.1 h2.2
  have ht0 := hA0.2.2.2.2.2.2 v h1.1 h1.2
  unfold wp_X_go
  simp only [S_hasTraveller, S_hasRoad, e5, e7, zIf1, h1, h2, true_and, not_true, not_false_eq_true, false_implies, true_implies, and_true, and_self]
  unfold wp_S_whyNoGoing
  have both : ((goW (τ 80) v r = 0 → wp_X_remember σ (fun σ8 => wp_S_enter σ8 v r (fun z9 σ10 => Q z9 σ10))) ∧ (¬ goW (τ 80) v r = 0 → wp_X_refuse σ (goW (τ 80) v r) (fun z11 σ12 => Q z11 σ12))) := by
    refine ⟨fun hw => ?_, fun hw => X_refuse h (fun σ1 x fr e => kr _ ⟨h1, h2⟩ hw rfl σ1 x fr e)⟩
    have hw0 := why_0_iff.1 (goW_ok hw)
    have k := k ⟨h1, h2⟩ hw
    refine X_rem hz h (fun σ1 x fr g0 => ?_)
    have e80r : zRec z τ 80 = τ 80 := zRec_n (by omega) (by omega)
    have hA := x.2.2.2.2.2.1.1
    have xR : RX σ1 0 (τ 80) := by rw [← e80r]; exact x.1
    obtain ⟨t0, t1, t2, t3, t4, t5⟩ := ht0
    have hr2 := hr0.2.2.1
    unfold wp_S_enter
    refine ⟨zRi (by omega) (by omega), ?_⟩
    rw [S_ofR' xR h2.1 h2.2 bb.2 (by omega) (by omega), RX_trv xR h1.1 h1.2 (by omega) (by omega)]
    refine ⟨by omega, zRi (by omega) (by omega), ?_⟩
    rw [S_ofR' xR h2.1 h2.2 bb.2 (by omega) (by omega)]
    refine ⟨by omega, ?_⟩
    rintro _ rfl
    refine ⟨by omega, ?_⟩
    rintro _ rfl
    refine ⟨by omega, ?_⟩
    intro σ4 e4
    have a3 : σ4 5 (v * 8 + 3) = τ 80 (375 + 8 * v + 3) := by rw [e4]; simp (disch := omega) only [zU_j]; exact RX_trv xR h1.1 h1.2 (by omega) (by omega)
    rw [a3]
    refine ⟨by omega, by omega, zRi (by omega) (by omega), ?_⟩
    intro σ5 e5'
    have a5 : σ5 5 (v * 8 + 5) = τ 80 (375 + 8 * v + 5) := by rw [e5', e4]; simp (disch := omega) only [zU_j]; exact RX_trv xR h1.1 h1.2 (by omega) (by omega)
    rw [a5]
    refine ⟨by omega, by omega, zRi (by omega) (by omega), ?_⟩
    intro σ6 e6
    have a6 : σ6 3 r = τ 80 (27 + 12 * r + 11) := by rw [e6, e5', e4]; simp (disch := omega) only [zU_n]; exact (xR.2.2.1 r h2.1 h2.2).2.2
    have hr11 := hr0.2.2.2.2.2.2.2
    rw [a6]
    refine ⟨by omega, by omega, zRi (by omega) (by omega), ?_⟩
    intro σ7 e7'
    have f5 : ∀ p, p ≠ 3 → p ≠ 5 → σ7 p = σ1 p := fun p p0 p5 => by rw [e7', zU_n p0, e6, zU_n p5, e5', zU_n p5, e4, zU_n p5, zU_n p5, zU_n p5]
    have g3 : ∀ i, σ7 3 i = if i = r then τ 80 (27 + 12 * r + 11) + 1 else σ1 3 i := fun i => by
      rw [e7', zU_g, e6, zU_n (by omega), e5', zU_n (by omega), e4, zU_n (by omega), zU_n (by omega), zU_n (by omega)]
    have g5 : ∀ i, σ7 5 i = if i = v * 8 + 5 then τ 80 (375 + 8 * v + 5) + τ 80 (27 + 12 * r + 2) else if i = v * 8 + 3 then τ 80 (375 + 8 * v + 3) + 1 else if i = v * 8 + 2 then τ 80 (375 + 8 * v + 1) + τ 80 (27 + 12 * r + 2) else if i = v * 8 + 1 then τ 80 (375 + 8 * v + 1) + τ 80 (27 + 12 * r + 2) else if i = v * 8 + 0 then τ 80 (27 + 12 * r + 1) else σ1 5 i := fun i => by
      rw [e7', zU_n (by omega), e6, zU_g, e5', zU_g, e4, zU_g, zU_g, zU_g]
    refine k σ7 ?_ (fun p hp => by rw [f5 p (by omega) (by omega)]; exact fr p hp) (by rw [f5 62 (by omega) (by omega)]; exact g0)
    have e80 : ∀ i, i ≠ 27 + 12 * r + 11 → ¬ (375 + 8 * v ≤ i ∧ i < 375 + 8 * v + 8) → mGo (zRec z τ) v r 80 i = zRec z τ 80 i := fun i i0 hi => by
      unfold mGo
      simp (disch := omega) only [zU_j]
    have q11 : mGo (zRec z τ) v r 80 (27 + 12 * r + 11) = τ 80 (27 + 12 * r + 11) + 1 := by unfold mGo; rw [zU_s, e80r]
    have er : ∀ k, 0 ≤ k → k < 8 → mGo (zRec z τ) v r 80 (375 + 8 * v + k) = if k = 0 then τ 80 (27 + 12 * r + 1) else if k = 1 ∨ k = 2 then τ 80 (375 + 8 * v + 1) + τ 80 (27 + 12 * r + 2) else if k = 3 then τ 80 (375 + 8 * v + 3) + 1 else if k = 5 then τ 80 (375 + 8 * v + 5) + τ 80 (27 + 12 * r + 2) else τ 80 (375 + 8 * v + k) := by
      intro k k0 k1
      unfold mGo
      rw [e80r]
      rcases (show k = 0 ∨ k = 1 ∨ k = 2 ∨ k = 3 ∨ k = 4 ∨ k = 5 ∨ k = 6 ∨ k = 7 by omega) with rfl | rfl | rfl | rfl | rfl | rfl | rfl | rfl
      · rw [Int.add_zero]; simp (disch := omega) only [zU_j, zU_s]; rfl
      all_goals (simp (disch := omega) only [zU_j, zU_s]; (try rw [e80r]); (try rfl); (try simp))
    have hrow := xR.2.2.1 r h2.1 h2.2
    have b1 := hA.1
    have b2' := hA.2.2.1
    refine XRep_now x g0 (fun p p0 p1 => f5 p (by omega) (by omega)) (fun p p0 p1 => by unfold mGo; simp (disch := omega) only [zU_n]) ?_ ?_ (show B ≤ B + 1 by omega)
    · refine RX_parts x.1 (OKA_cnt hA) ?_ (Or.inl ⟨f5 1 (by omega) (by omega), ?_⟩) (Or.inr fun q q0 q1 => ?_) (Or.inl ⟨f5 4 (by omega) (by omega), ?_, ?_⟩) (Or.inr fun u j v0 v1 j0 j1 => ?_)
      · rw [e80 0 (by omega) (by omega), e80 1 (by omega) (by omega), e80 2 (by omega) (by omega), f5 0 (by omega) (by omega)]
        exact x.1.1
      · intro i i0 i1; exact e80 i (by omega) (by omega)
      · rw [e80 0 (by omega) (by omega)] at q1
        have hq := x.1.2.2.1 q q0 q1
        by_cases hqr : q = r
        · subst hqr
          obtain ⟨w1, w2, w3⟩ := hq
          refine ⟨fun c c0 c1 => ?_, fun s s0 s1 => ?_, ?_⟩
          · rw [f5 2 (by omega) (by omega), e80 _ (by omega) (by omega)]; exact w1 c c0 c1
          · rw [f5 2 (by omega) (by omega), e80 (27 + 12 * q + 4) (by omega) (by omega), e80 (27 + 12 * q + (5 + 2 * s)) (by omega) (by omega), e80 (27 + 12 * q + (5 + 2 * s + 1)) (by omega) (by omega)]; exact w2 s s0 s1
          · rw [g3, if_pos rfl, q11]
        · refine RXr_congr (A := zRec z τ 80) (fun i _ _ => by rw [f5 2 (by omega) (by omega)]) (by rw [g3, if_neg hqr]) (fun c c0 c1 => e80 _ (by omega) (by omega)) hq
      · exact e80 _ (by omega) (by omega)
      · intro i i0 i1; exact e80 i (by omega) (by omega)
      · rw [e80 2 (by omega) (by omega)] at v1
        rw [g5]
        by_cases hv : u = v
        · subst hv
          rw [er j j0 j1]
          rcases (show j = 0 ∨ j = 1 ∨ j = 2 ∨ j = 3 ∨ j = 4 ∨ j = 5 ∨ j = 6 ∨ j = 7 by omega) with rfl | rfl | rfl | rfl | rfl | rfl | rfl | rfl
          · rw [if_neg (by omega), if_neg (by omega), if_neg (by omega), if_neg (by omega), if_pos rfl, if_pos rfl]
          · rw [if_neg (by omega), if_neg (by omega), if_neg (by omega), if_pos rfl, if_neg (by omega), if_pos (by omega)]
          · rw [if_neg (by omega), if_neg (by omega), if_pos rfl, if_neg (by omega), if_pos (by omega)]
          · rw [if_neg (by omega), if_pos rfl, if_neg (by omega), if_neg (by omega), if_pos rfl]
          · rw [if_neg (by omega), if_neg (by omega), if_neg (by omega), if_neg (by omega), if_neg (by omega), if_neg (by omega), if_neg (by omega), if_neg (by omega), if_neg (by omega)]
            exact RX_trv xR h1.1 h1.2 (by omega) (by omega)
          · rw [if_pos rfl, if_neg (by omega), if_neg (by omega), if_neg (by omega), if_pos rfl]
          · rw [if_neg (by omega), if_neg (by omega), if_neg (by omega), if_neg (by omega), if_neg (by omega), if_neg (by omega), if_neg (by omega), if_neg (by omega), if_neg (by omega)]
            exact RX_trv xR h1.1 h1.2 (by omega) (by omega)
          · rw [if_neg (by omega), if_neg (by omega), if_neg (by omega), if_neg (by omega), if_neg (by omega), if_neg (by omega), if_neg (by omega), if_neg (by omega), if_neg (by omega)]
            exact RX_trv xR h1.1 h1.2 (by omega) (by omega)
        · rw [if_neg (by omega), if_neg (by omega), if_neg (by omega), if_neg (by omega), if_neg (by omega), e80 _ (by omega) (by omega)]
          exact RX_trv x.1 v0 v1 j0 j1
    · refine OKA_parts (OKA_mono (show B ≤ B + 1 by omega) hA) ?_ (Or.inl ?_) (Or.inr fun q q0 q1 => ?_) (Or.inl ⟨?_, ?_, ?_⟩) (Or.inr fun u v0 v1 => ?_)
      · rw [e80 0 (by omega) (by omega), e80 1 (by omega) (by omega), e80 2 (by omega) (by omega)]; exact ⟨hA.1, hA.2.1, hA.2.2.1⟩
      · intro i i0 i1; exact e80 i (by omega) (by omega)
      · rw [e80 0 (by omega) (by omega)] at q1
        have hq := hA.2.2.2.2.1 q q0 q1
        by_cases hqr : q = r
        · subst hqr
          obtain ⟨k0, k1, k2, k3, k4, k5, k6, k7⟩ := hq
          have g := fun (c : Int) (c0 : 0 ≤ c) (c1 : c < 11) => e80 (27 + 12 * q + c) (by omega) (by omega)
          refine ⟨by rw [g 0 (by omega) (by omega)]; exact k0, by rw [g 1 (by omega) (by omega)]; exact k1, by rw [g 2 (by omega) (by omega)]; exact k2, by rw [g 3 (by omega) (by omega)]; exact k3, by rw [g 4 (by omega) (by omega)]; exact k4, fun s s0 s1 => ?_, fun s u s0 su u1 => ?_, by rw [q11]; omega⟩
          · rw [g 4 (by omega) (by omega)] at s1
            rw [g (5 + 2 * s) (by omega) (by omega), g (5 + 2 * s + 1) (by omega) (by omega)]
            exact k5 s s0 s1
          · rw [g 4 (by omega) (by omega)] at u1
            rw [g (5 + 2 * s + 1) (by omega) (by omega), g (5 + 2 * u) (by omega) (by omega)]
            exact k6 s u s0 su u1
        · exact OKr_mono (show B ≤ B + 1 by omega) (OKr_row (fun c c0 c1 => e80 _ (by omega) (by omega)) hq)
      · rw [e80 0 (by omega) (by omega)]; exact Int.le_refl _
      · exact e80 _ (by omega) (by omega)
      · intro i i0 i1; exact e80 i (by omega) (by omega)
      · rw [e80 2 (by omega) (by omega)] at v1
        by_cases hv : u = v
        · subst hv
          unfold OKt
          rw [er 0 (by omega) (by omega), er 1 (by omega) (by omega), er 2 (by omega) (by omega), er 3 (by omega) (by omega), er 4 (by omega) (by omega), er 5 (by omega) (by omega), er 7 (by omega) (by omega)]
          simp
          have := hr0.2.1
          omega
        · exact OKt_row (fun k c0 c1 => e80 _ (by omega) (by omega)) (hA.2.2.2.2.2.2 u v0 v1)
  rw [S_ofR' h.1 h2.1 h2.2 bb.2 (by omega) (by omega), S_ofT' h.1 h1.1 h1.2 b2.2 (by omega) (by omega)]
  refine ⟨fun c => ?_, fun c => ?_⟩
  · rw [S_ofT' h.1 h1.1 h1.2 b2.2 (by omega) (by omega)]
    have ht1 := ht0.2.1
    refine S_whyNoEntry h.1 hA0 h2.1 h2.2 (by omega) (by omega) ?_
    have : goW (τ 80) v r = why (τ 80) r (τ 80 (375 + 8 * v + 1)) := by unfold goW; rw [if_pos c]
    rw [← this]
    exact both
  · have : goW (τ 80) v r = 1 := by unfold goW; rw [if_neg c]
    rw [this] at both
    exact both
theorem Rel_mono {B B' : Int} {σ : zM} (hB : B ≤ B') (h : Rel B σ) : Rel B' σ := by
  obtain ⟨hR, hH, hS, hM, hG, hT, hz⟩ := h
  exact ⟨hR, hH, hS, hM, hG, TOK_mono hB hT, hz⟩