/-- one road's row changed, after remember -/
theorem XRep_row {B B' z r : Int} {σ1 τ1 σ2 τ2 : zM} (h : XRep B z σ1 τ1) (g0 : σ1 62 1 = 0) (r0 : 0 ≤ r) (r1 : r < τ1 80 0) (ex : ∀ n, n ≠ 2 → n ≠ 3 → n < 79 → σ2 n = σ1 n) (e2 : ∀ i, ¬ (r * 11 ≤ i ∧ i < r * 11 + 11) → σ2 2 i = σ1 2 i) (e3 : ∀ i, i ≠ r → σ2 3 i = σ1 3 i) (et : ∀ n, 79 ≤ n → n ≠ 80 → τ2 n = τ1 n) (e80 : ∀ i, ¬ (27 + 12 * r ≤ i ∧ i < 27 + 12 * r + 12) → τ2 80 i = τ1 80 i) (hR : RXr σ2 (τ2 80) r) (hA : OKr (τ2 80) B' r) (hB : B ≤ B') : XRep B' z σ2 τ2 := by
  have hA1 := OKA_mono hB h.2.2.2.2.2.1.1
  have x0 := h.1.1
  have b0 := hA1.1
  refine XRep_now h g0 (fun n n0 n1 => ex n (by omega) (by omega) n1) et ?_ ?_ hB
  · refine RX_parts h.1 (OKA_cnt hA1) ?_ (Or.inl ⟨ex 1 (by omega) (by omega) (by omega), ?_⟩) (Or.inr fun q q0 q1 => ?_) (Or.inl ⟨ex 4 (by omega) (by omega) (by omega), ?_, ?_⟩) (Or.inl ⟨ex 5 (by omega) (by omega) (by omega), ?_, ?_⟩)
    · rw [e80 0 (by omega), e80 1 (by omega), e80 2 (by omega), ex 0 (by omega) (by omega) (by omega)]; exact x0
    · intro i i0 i1; exact e80 i (by omega)
    · rw [e80 0 (by omega)] at q1
      by_cases hq : q = r
      · subst hq; exact hR
      · exact RXr_congr (A := τ1 80) (fun i i0 i1 => e2 i (by omega)) (e3 q hq) (fun c c0 c1 => e80 _ (by omega)) (h.1.2.2.1 q q0 q1)
    all_goals first | (intro i i0 i1; exact e80 i (by omega)) | exact e80 _ (by omega)
  · refine OKA_parts hA1 ?_ (Or.inl ?_) (Or.inr fun q q0 q1 => ?_) (Or.inl ⟨?_, ?_, ?_⟩) (Or.inl ⟨?_, ?_⟩)
    · rw [e80 0 (by omega), e80 1 (by omega), e80 2 (by omega)]; exact ⟨hA1.1, hA1.2.1, hA1.2.2.1⟩
    · intro i i0 i1; exact e80 i (by omega)
    · rw [e80 0 (by omega)] at q1
      by_cases hq : q = r
      · subst hq; exact hA
      · exact OKr_row (fun c c0 c1 => e80 _ (by omega)) (hA1.2.2.2.2.1 q q0 q1)
    · rw [e80 0 (by omega)]; exact Int.le_refl _
    all_goals first | (intro i i0 i1; exact e80 i (by omega)) | exact e80 _ (by omega)
theorem mI_out {τ : zM} {q : Nat} {b f t i : Int} (hi : i < b + 4 ∨ b + (5 + 2 * τ q (b + 4)) + 2 ≤ i) (hk : iK (τ q) b f ≤ τ q (b + 4)) : mI τ q b f t q i = τ q i := by
  rw [mI_s, iA_old hi hk]
def mOpen (τ : zM) (r f t s : Int) : zM := zU (zU (zU (zU τ 80 (27 + 12 * r + 3) s) 80 (27 + 12 * r + 4) 1) 80 (27 + 12 * r + 5) f) 80 (27 + 12 * r + 5 + 1) t
theorem M_open_ok {σ : zM} {r f t s : Int} {Q : Int → zM → Prop} (h4 : 0 ≤ σ 79 4 ∧ σ 79 4 ≤ 6) (h0 : 0 ≤ σ 80 0 ∧ σ 80 0 ≤ 24) (hr : 0 ≤ r ∧ r < σ 80 0) (hf : 0 ≤ f ∧ f < t ∧ t ≤ 1440) (hs : 0 ≤ s ∧ s ≤ 1) (k : Q (σ 80 (27 + 12 * r + 4)) (mOpen (mRec σ) r f t s)) : wp_M_open σ r f t s Q := by
  unfold wp_M_open
  rw [M_isRoad h0.1 h0.2]
  simp only [M_isSpan (show (1 : Int) ≤ 1440 by decide) (by decide), M_isIn, zIf1, hr, hf, hs, true_and, not_true, not_false_eq_true, false_implies, true_implies, and_true, and_self]
  refine M_records h4.1 h4.2 ⟨zRi (by omega) (by omega), by omega, ?_⟩
  rintro _ rfl
  refine ⟨by omega, ?_⟩
  rintro _ rfl
  refine ⟨by omega, ?_⟩
  rintro _ rfl
  refine ⟨by omega, ?_⟩
  rintro _ rfl
  refine ⟨by omega, ?_⟩
  rintro _ rfl
  rw [mRec_n (by omega) (by omega)]
  exact k
theorem op_open {B : Int} {σ : zM} (h : Rel B σ) (r f t s : Int) : wp_X_open σ r f t s (fun r1 σ1 => wp_M_open σ1 r f t s (fun r' σ2 => r1 = r' ∧ Rel B σ2)) := by
  have hA0 := h.2.2.2.2.2.1.1
  have e5 : σ 0 5 = σ 80 0 := h.1.1.1
  have bb := hA0.1
  by_cases h1 : 0 ≤ r ∧ r < σ 80 0
  rotate_left
  · simp [wp_X_open, wp_M_open, S_hasRoad, M_isRoad bb.1 bb.2, e5, h1, h]
  by_cases h2 : 0 ≤ f ∧ f < t ∧ t ≤ 1440
  rotate_left
  · simp [wp_X_open, wp_M_open, S_hasRoad, M_isRoad bb.1 bb.2, X_isSpan, M_isSpan, e5, h1, h2, h]
  by_cases h3 : 0 ≤ s ∧ s ≤ 1
  rotate_left
  · simp [wp_X_open, wp_M_open, S_hasRoad, M_isRoad bb.1 bb.2, X_isSpan, M_isSpan, X_within, M_isIn, e5, h1, h2, h3, h]
  unfold wp_X_open
  simp only [S_hasRoad, X_isSpan (show (1 : Int) ≤ 1440 by decide) (by decide), e5, X_within, zIf1, h1, h2, h3, true_and, not_true, not_false_eq_true, false_implies, true_implies, and_true, and_self]
  refine X_remember h (fun σ1 x fr g0 => ?_)
  have hA := x.2.2.2.2.2.1.1
  have e80r : mRec σ 80 = σ 80 := mRec_n (by omega) (by omega)
  rw [S_ofRoads (by omega) (by omega)]
  have hr := x.1.2.2.1 r h1.1 (by rw [e80r]; exact h1.2)
  have hok := hA.2.2.2.2.1 r h1.1 (by rw [e80r]; exact h1.2)
  have z4 : σ1 2 (r * 11 + 4) = σ 80 (27 + 12 * r + 4) := by have := hr.1 4 (by omega) (by omega); rw [e80r] at this; exact this
  rw [z4]
  refine S_dropSpans (by omega) (by omega) ?_
  have d4 : mD σ1 r s 2 (r * 11 + 4) = 0 := by rw [mD_g, if_neg (by omega), if_pos rfl]
  refine S_addSpan (by omega) (by omega) ⟨fun s s0 s1 => by omega, fun s u s0 su u1 => by omega⟩ (by omega) (by omega) ?_
  have hk : iK (mD σ1 r s 2) (r * 11) f = 0 := by
    unfold iK
    rw [d4, if_neg (by omega), if_neg (by omega), if_neg (by omega)]; rfl
  generalize hσ : mI (mD σ1 r s) 2 (r * 11) f t = σ2
  have fx : ∀ p, p ≠ 2 → σ2 p = σ1 p := fun p hp => by rw [← hσ, mI_n hp, mD_n hp]
  have fr2 : Fr σ σ2 := fun p hp => by rw [fx p (by omega)]; exact fr p hp
  refine M_open_ok (by rw [fr2 79 (by omega)]; exact h.2.2.2.2.2.1.2.1) (by rw [fr2 80 (by omega)]; exact bb) (by rw [fr2 80 (by omega)]; exact h1) h2 h3 ⟨by rw [fr2 80 (by omega)], ?_⟩
  refine Rel_fin (τ := mOpen (mRec σ) r f t s) (σ1 := σ2) ?_ (FrM_trans (FrM_mRec _) (FrM_U (FrM_U (FrM_U (FrM_U (FrM_rfl _) (by omega)) (by omega)) (by omega)) (by omega))) (Fr_zU2 (Fr_zU2 (Fr_zU2 (Fr_zU2 (Fr_mRec fr2)))))
  have e80 : ∀ i, ¬ (27 + 12 * r + 3 ≤ i ∧ i < 27 + 12 * r + 7) → mOpen (mRec σ) r f t s 80 i = mRec σ 80 i := fun i hi => by unfold mOpen; simp (disch := omega) only [zU_j]
  have q3 : mOpen (mRec σ) r f t s 80 (27 + 12 * r + 3) = s := by unfold mOpen; simp (disch := omega) only [zU_j, zU_s]
  have q4 : mOpen (mRec σ) r f t s 80 (27 + 12 * r + 4) = 1 := by unfold mOpen; simp (disch := omega) only [zU_j, zU_s]
  have q5 : mOpen (mRec σ) r f t s 80 (27 + 12 * r + 5) = f := by unfold mOpen; simp (disch := omega) only [zU_j, zU_s]
  have q6 : mOpen (mRec σ) r f t s 80 (27 + 12 * r + 6) = t := by
    unfold mOpen
    rw [show (27 + 12 * r + 6 : Int) = 27 + 12 * r + 5 + 1 by omega, zU_s]
  refine XRep_row (r := r) x g0 h1.1 (by rw [e80r]; exact h1.2) (fun p p2 p3 _ => fx p p2) (fun i hi => ?_) (fun i hi => by rw [fx 3 (by omega)]) (fun p p0 p1 => by unfold mOpen; simp (disch := omega) only [zU_n]) (fun i hi => e80 i (by omega)) ?_ ?_ (Int.le_refl B)
  · rw [← hσ, mI_out (by rw [d4]; omega) (by rw [d4, hk]; omega), mD_g, if_neg (by omega), if_neg (by omega), if_neg (by omega)]
  · exact RXr_one hr (fun i i0 i1 => by rw [← hσ, mI_s]) (by rw [fx 3 (by omega)]) (fun c hc => e80 _ (by omega)) q3 q4 q5 q6
  · obtain ⟨k0, k1, k2, k3, k4, k5, k6, k7⟩ := hok
    refine ⟨by rw [e80 _ (by omega)]; exact k0, by rw [e80 _ (by omega)]; exact k1, by rw [e80 _ (by omega)]; exact k2, by rw [q3]; omega, by rw [q4]; omega, fun s s0 s1 => ?_, fun s u s0 su u1 => ?_, by rw [e80 _ (by omega)]; exact k7⟩
    · rw [q4] at s1
      obtain rfl : s = 0 := by omega
      rw [show (27 + 12 * r + (5 + 2 * 0) : Int) = 27 + 12 * r + 5 by omega, show (27 + 12 * r + (5 + 2 * 0 + 1) : Int) = 27 + 12 * r + 6 by omega, q5, q6]; omega
    · rw [q4] at u1; omega
/-- whether a span has a minute in common with one of a road's -/
def tkA (A : Int → Int) (r f t : Int) : Prop := ∃ s : Int, 0 ≤ s ∧ s < A (27 + 12 * r + 4) ∧ f < A (27 + 12 * r + (5 + 2 * s + 1)) ∧ A (27 + 12 * r + (5 + 2 * s)) < t
theorem S_meetsSpan {σ : zM} {A : Int → Int} {B r f t : Int} {Q : Int → Prop} (h : RX σ 0 A) (hA : OKA A B) (r0 : 0 ≤ r) (r1 : r < A 0) (ky : tkA A r f t → Q 1) (kn : ¬ tkA A r f t → Q 0) : wp_S_meetsSpan σ r f t Q := by
  have hr := hA.2.2.2.2.1 r r0 r1
  have hA0 := hA.1
  have hc := hr.2.2.2.2.1
  unfold wp_S_meetsSpan
  rw [S_ofRoads (by omega) (by omega), RX_road h r0 r1 (by omega) (by omega)]
  refine zFor0 (fun v => 0 ≤ v ∧ ∀ s, 0 ≤ s → s < v → ¬ (f < A (27 + 12 * r + (5 + 2 * s + 1)) ∧ A (27 + 12 * r + (5 + 2 * s)) < t)) (A (27 + 12 * r + 4)) ?_ 0 ⟨by omega, fun s s0 s1 => by omega⟩ (by omega)
  intro n v hI hv ih
  obtain ⟨v0, hn⟩ := hI
  rw [wp_S_meetsSpan_L11]
  refine ⟨fun c => kn ?_, fun c => ?_⟩
  · rintro ⟨s, s0, s1, hs⟩
    exact hn s s0 (by omega) hs
  · have next : ¬ (f < A (27 + 12 * r + (5 + 2 * v + 1)) ∧ A (27 + 12 * r + (5 + 2 * v)) < t) → zR (v + 1) ∧ wp_S_meetsSpan_L11 σ r f t (A (27 + 12 * r + 4)) Q n (v + 1) := fun hx =>
      ⟨zRi (by omega) (by omega), ih ⟨by omega, fun s s0 s1 => by
        by_cases hs : s = v
        · subst hs; exact hx
        · exact hn s s0 (by omega)⟩ (by omega)⟩
    rw [S_spanTo (by omega) (by omega), RX_to h r0 r1 v0 (by omega) (by omega), S_spanFrom (by omega) (by omega), RX_from h r0 r1 v0 (by omega) (by omega)]
    exact ⟨fun c1 => next (fun hx => by omega), fun c1 => ⟨fun c2 => next (fun hx => by omega), fun c2 => ky ⟨v, v0, by omega, by omega, by omega⟩⟩⟩
theorem M_isTaken {σ : zM} {B r f t : Int} {Q : Int → Prop} (hA : OKA (σ 80) B) (r0 : 0 ≤ r) (r1 : r < σ 80 0) (ky : tkA (σ 80) r f t → Q 1) (kn : ¬ tkA (σ 80) r f t → Q 0) : wp_M_isTaken σ r f t Q := by
  have hr := hA.2.2.2.2.1 r r0 r1
  have hA0 := hA.1
  have hc := hr.2.2.2.2.1
  unfold wp_M_isTaken
  have key : ∀ (n : Nat) (v e : Int), 0 ≤ v → v ≤ σ 80 (27 + 12 * r + 4) → (e = 1 ∧ tkA (σ 80) r f t ∨ e = 0 ∧ ∀ s, 0 ≤ s → s < v → ¬ (f < σ 80 (27 + 12 * r + (5 + 2 * s + 1)) ∧ σ 80 (27 + 12 * r + (5 + 2 * s)) < t)) → σ 80 (27 + 12 * r + 4) - v < n → wp_M_isTaken_L6 σ r f t Q n e v := by
    intro n
    induction n with
    | zero => intro v e _ _ _ _; omega
    | succ n ih =>
      intro v e v0 v1 h1 hn
      rw [wp_M_isTaken_L6]
      rw [M_ofR (by omega) (by omega)]
      refine ⟨fun c => ?_, fun c => ?_⟩
      · rcases h1 with ⟨rfl, hc⟩ | ⟨rfl, hc⟩
        · exact ⟨Or.inr rfl, ky hc⟩
        · refine ⟨Or.inl rfl, kn ?_⟩
          rintro ⟨s, s0, s1, hs⟩
          exact hc s s0 (by omega) hs
      · have yes : tkA (σ 80) r f t → wp_M_isTaken_b54 σ r f t (wp_M_isTaken_L6 σ r f t Q n) Q v := fun hc => ⟨zRi (by omega) (by omega), ih (v + 1) 1 (by omega) (by omega) (Or.inl ⟨rfl, hc⟩) (by omega)⟩
        rcases h1 with ⟨rfl, hc⟩ | ⟨rfl, hc⟩
        · exact ⟨fun _ => yes hc, fun c => absurd c (by decide)⟩
        · have no : ¬ (f < σ 80 (27 + 12 * r + (5 + 2 * v + 1)) ∧ σ 80 (27 + 12 * r + (5 + 2 * v)) < t) → wp_M_isTaken_b58 σ r f t (wp_M_isTaken_L6 σ r f t Q n) Q v := fun hx =>
            ⟨zRi (by omega) (by omega), ih (v + 1) 0 (by omega) (by omega) (Or.inr ⟨rfl, fun s s0 s1 => by
              by_cases hs : s = v
              · subst hs; exact hx
              · exact hc s s0 (by omega)⟩) (by omega)⟩
          refine ⟨fun c => absurd rfl c, fun _ => ⟨zRi (by omega) (by omega), ?_⟩⟩
          rw [M_ofR (by omega) (by omega)]
          refine ⟨fun c1 => no (fun hx => by omega), fun c1 => ⟨zRi (by omega) (by omega), ?_⟩⟩
          rw [M_ofR (by omega) (by omega)]
          exact ⟨fun c2 => no (fun hx => by omega), fun c2 => yes ⟨v, v0, by omega, by omega, by omega⟩⟩
  exact ⟨(σ 80 (27 + 12 * r + 4)).toNat + 1, key _ 0 0 (by omega) (by omega) (Or.inr ⟨rfl, fun s s0 s1 => by omega⟩) (by omega)⟩
theorem op_more {B : Int} {σ : zM} (h : Rel B σ) (r f t : Int) : wp_X_more σ r f t (fun r1 σ1 => wp_M_more σ1 r f t (fun r' σ2 => r1 = r' ∧ Rel B σ2)) := by
  have hA0 := h.2.2.2.2.2.1.1
  have e5 : σ 0 5 = σ 80 0 := h.1.1.1
  have bb := hA0.1
  by_cases h1 : 0 ≤ r ∧ r < σ 80 0
  rotate_left
  · simp [wp_X_more, wp_M_more, S_hasRoad, M_isRoad bb.1 bb.2, e5, h1, h]
  by_cases h2 : 0 ≤ f ∧ f < t ∧ t ≤ 1440
  rotate_left
  · simp [wp_X_more, wp_M_more, S_hasRoad, M_isRoad bb.1 bb.2, X_isSpan, M_isSpan, e5, h1, h2, h]
  unfold wp_X_more
  simp only [S_hasRoad, X_isSpan (show (1 : Int) ≤ 1440 by decide) (by decide), e5, zIf1, h1, h2, true_and, not_true, not_false_eq_true, false_implies, true_implies, and_true, and_self]
  have mside : ∀ (σ1 : zM) (Q : Int → zM → Prop), Fr σ σ1 → (tkA (σ 80) r f t → Q (-2) σ1) → (¬ tkA (σ 80) r f t → (σ 80 (27 + 12 * r + 4) = 3 → Q (-4) σ1) ∧ (¬ σ 80 (27 + 12 * r + 4) = 3 → Q (σ 80 (27 + 12 * r + 4) + 1) (mI (mRec σ1) 80 (27 + 12 * r) f t))) → wp_M_more σ1 r f t Q := by
    intro σ1 Q fr ky kn
    have q80 := fr 80 (by omega)
    have q79 := fr 79 (by omega)
    have h4 := h.2.2.2.2.2.1.2.1
    have hr := hA0.2.2.2.2.1 r h1.1 h1.2
    unfold wp_M_more
    rw [M_isRoad (by rw [q80]; exact bb.1) (by rw [q80]; exact bb.2), q80]
    simp only [M_isSpan (show (1 : Int) ≤ 1440 by decide) (by decide), zIf1, h1, h2, true_and, not_true, not_false_eq_true, false_implies, true_implies, and_true, and_self]
    refine M_isTaken (by rw [q80]; exact hA0) h1.1 (by rw [q80]; exact h1.2) (fun hc => ⟨fun c => absurd c (by decide), fun _ => ky (by rw [q80] at hc; exact hc)⟩) (fun hc => ⟨fun _ => ?_, fun c => absurd rfl c⟩)
    rw [q80] at hc
    obtain ⟨kn3, kn4⟩ := kn hc
    rw [M_ofR (by omega) (by omega), q80]
    refine ⟨fun c3 => M_records (by rw [q79]; exact h4.1) (by rw [q79]; exact h4.2) ?_, fun c3 => kn3 c3⟩
    have er : mRec σ1 80 = σ 80 := (mRec_n (by omega) (by omega)).trans q80
    have hc4 := hr.2.2.2.2.1
    refine M_adds (by omega) (by omega) (by rw [er]; exact OKr_OKs hr) (by rw [er]; omega) (by rw [er]; omega) ?_
    rw [M_ofR (by omega) (by omega), mI_s, iA_4, er]
    exact kn4 c3
  refine S_meetsSpan h.1 hA0 h1.1 h1.2 (fun hc => ⟨fun c => absurd c (by decide), fun _ => mside σ _ (Fr_rfl σ) (fun _ => ⟨rfl, h⟩) (fun c => absurd hc c)⟩) (fun hc => ⟨fun _ => ?_, fun c => absurd rfl c⟩)
  have hr0 := h.1.2.2.1 r h1.1 h1.2
  have hok0 := hA0.2.2.2.2.1 r h1.1 h1.2
  have hc4 := hok0.2.2.2.2.1
  have z4 : σ 2 (r * 11 + 4) = σ 80 (27 + 12 * r + 4) := hr0.1 4 (by omega) (by omega)
  rw [S_ofRoads (by omega) (by omega), z4]
  refine ⟨fun c3 => ?_, fun c3 => mside σ _ (Fr_rfl σ) (fun c => absurd c hc) (fun _ => ⟨fun _ => ⟨rfl, h⟩, fun c => absurd (show _ = (3 : Int) by omega) c⟩)⟩
  refine X_remember h (fun σ1 x fr g0 => ?_)
  have hA := x.2.2.2.2.2.1.1
  have e80r : mRec σ 80 = σ 80 := mRec_n (by omega) (by omega)
  have hr : RXr σ1 (σ 80) r := by rw [← e80r]; exact x.1.2.2.1 r h1.1 (by rw [e80r]; exact h1.2)
  have z41 : σ1 2 (r * 11 + 4) = σ 80 (27 + 12 * r + 4) := hr.1 4 (by omega) (by omega)
  refine S_addSpan (by omega) (by omega) (RXr_OKs hr (by omega) (by omega) (OKr_OKs hok0)) (by omega) (by omega) ?_
  rw [S_ofRoads (by omega) (by omega), mI_s, iA_4, z41]
  generalize hσ : mI σ1 2 (r * 11) f t = σ2
  have fx : ∀ p, p ≠ 2 → σ2 p = σ1 p := fun p hp => by rw [← hσ, mI_n hp]
  have fr2 : Fr σ σ2 := fun p hp => by rw [fx p (by omega)]; exact fr p hp
  refine mside σ2 _ fr2 (fun c => absurd c hc) (fun _ => ⟨fun c => by omega, fun _ => ⟨rfl, ?_⟩⟩)
  refine Rel_fin (τ := mI (mRec σ) 80 (27 + 12 * r) f t) (σ1 := σ2) ?_ (FrM_trans (FrM_mRec _) FrM_mI) (Fr_mI (Fr_mRec fr2))
  have hs := OKr_OKs hok0
  obtain ⟨i0, i1, -, -⟩ := iK_spec (f := f) hs (by omega) (by omega)
  have hK := RXr_iK hr (by omega) (by omega) f
  have ap : ∀ s, 0 ≤ s → s < σ 80 (27 + 12 * r + 4) → ¬ (f < σ 80 (27 + 12 * r + (5 + 2 * s + 1)) ∧ σ 80 (27 + 12 * r + (5 + 2 * s)) < t) := fun s s0 s1 hh => hc ⟨s, s0, s1, hh⟩
  have hi := OKs_ins hs (by omega) (by omega) h2 ap
  have eM : mI (mRec σ) 80 (27 + 12 * r) f t 80 = iA (σ 80) (27 + 12 * r) f t := by rw [mI_s, e80r]
  refine XRep_row (r := r) x g0 h1.1 (by rw [e80r]; exact h1.2) (fun p p2 p3 _ => fx p p2) (fun i hi => ?_) (fun i hi => by rw [fx 3 (by omega)]) (fun p p0 p1 => mI_n p1) (fun i hi => ?_) ?_ ?_ (Int.le_refl B)
  · rw [← hσ, mI_out (by rw [z41]; omega) (by rw [hK, z41]; exact i1)]
  · rw [eM, iA_old (by omega) i1, e80r]
  · rw [eM]
    exact RXr_ins hr (by omega) (by omega) hs (fun i i0 i1 => by rw [← hσ, mI_s]) (by rw [fx 3 (by omega)]) (fun c c0 c1 => rfl)
  · rw [eM]
    obtain ⟨k0, k1, k2, k3, k4, k5, k6, k7⟩ := hok0
    have old : ∀ c : Int, 0 ≤ c → (c < 4 ∨ c = 11) → iA (σ 80) (27 + 12 * r) f t (27 + 12 * r + c) = σ 80 (27 + 12 * r + c) := fun c c0 c1 => iA_old (by omega) i1
    refine ⟨by rw [old 0 (by omega) (by omega)]; exact k0, by rw [old 1 (by omega) (by omega)]; exact k1, by rw [old 2 (by omega) (by omega)]; exact k2, by rw [old 3 (by omega) (by omega)]; exact k3, by rw [iA_4]; omega, hi.1, hi.2, by rw [old 11 (by omega) (by omega)]; exact k7⟩
