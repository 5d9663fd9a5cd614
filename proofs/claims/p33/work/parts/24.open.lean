/-- one road's row changed, after remember -/
theorem XRep_row {B B' z r : Int} {σ1 τ1 σ2 τ2 : zM} (h : XRep B z σ1 τ1) (g0 : σ1 62 1 = 0) (r0 : 0 ≤ r) (r1 : r < τ1 80 0) (ex : ∀ n, n ≠ 2 → n ≠ 3 → n < 79 → σ2 n = σ1 n) (e2 : ∀ i, ¬ (r * 11 ≤ i ∧ i < r * 11 + 11) → σ2 2 i = σ1 2 i) (e3 : ∀ i, i ≠ r → σ2 3 i = σ1 3 i) (et : ∀ n, 79 ≤ n → n ≠ 80 → τ2 n = τ1 n) (e80 : ∀ i, ¬ (27 + 12 * r ≤ i ∧ i < 27 + 12 * r + 12) → τ2 80 i = τ1 80 i) (hR : RXr σ2 (τ2 80) r) (hA : OKr (τ2 80) B' r) (hB : B ≤ B') : XRep B' z σ2 τ2 := by
  have hA1 := OKA_mono hB h.2.2.2.2.2.1.1
  have x0 := h.1.1
  have b0 := hA1.1
  refine XRep_now h g0 (fun n n0 n1 => ex n (by omega) (by omega) n1) et ?_ ?_ hB
  · refine RX_parts h.1 (OKA_cnt hA1) ?_ (Or.inl ⟨ex 1 (by omega) (by omega) (by omega), ?_⟩) (Or.inr fun q q0 q1 => ?_) (Or.inl ⟨ex 4 (by omega) (by omega) (by omega), ?_, ?_⟩) (Or.inl ⟨ex 5 (by omega) (by omega) (by omega), ?_, ?_⟩)
    · rw [e80 0 (by omega), e80 1 (by omega), e80 2 (by omega), ex 0 (by omega) (by omega) (by omega)]; exact x0
    · intro i i0 i1; exact e80 i (by omega)
    · rw [e80 0 (by omega)] at q1
      by_cases hq : q = r
      · subst hq; exact hR
      · exact RXr_congr (A := τ1 80) (fun i i0 i1 => e2 i (by omega)) (e3 q hq) (fun c c0 c1 => e80 _ (by omega)) (h.1.2.2.1 q q0 q1)
    all_goals first | (intro i i0 i1; exact e80 i (by omega)) | exact e80 _ (by omega)
  · refine OKA_parts hA1 ?_ (Or.inl ?_) (Or.inr fun q q0 q1 => ?_) (Or.inl ⟨?_, ?_, ?_⟩) (Or.inl ⟨?_, ?_⟩)
    · rw [e80 0 (by omega), e80 1 (by omega), e80 2 (by omega)]; exact ⟨hA1.1, hA1.2.1, hA1.2.2.1⟩
    · intro i i0 i1; exact e80 i (by omega)
    · rw [e80 0 (by omega)] at q1
      by_cases hq : q = r
      · subst hq; exact hA
      · exact OKr_row (fun c c0 c1 => e80 _ (by omega)) (hA1.2.2.2.2.1 q q0 q1)
    · rw [e80 0 (by omega)]; exact Int.le_refl _
    all_goals first | (intro i i0 i1; exact e80 i (by omega)) | exact e80 _ (by omega)
theorem mI_out {τ : zM} {q : Nat} {b f t i : Int} (hi : i < b + 4 ∨ b + (5 + 2 * τ q (b + 4)) + 2 ≤ i) (hk : iK (τ q) b f ≤ τ q (b + 4)) : mI τ q b f t q i = τ q i := by
  rw [mI_s, iA_old hi hk]
def mOpen (τ : zM) (r f t s : Int) : zM := zU (zU (zU (zU τ 80 (27 + 12 * r + 3) s) 80 (27 + 12 * r + 4) 1) 80 (27 + 12 * r + 5) f) 80 (27 + 12 * r + 5 + 1) t
/-- whether a span has a minute in common with one of a road's -/
def tkA (A : Int → Int) (r f t : Int) : Prop := ∃ s : Int, 0 ≤ s ∧ s < A (27 + 12 * r + 4) ∧ f < A (27 + 12 * r + (5 + 2 * s + 1)) ∧ A (27 + 12 * r + (5 + 2 * s)) < t
theorem S_meetsSpan {σ : zM} {A : Int → Int} {B r f t : Int} {Q : Int → Prop} (h : RX σ 0 A) (hA : OKA A B) (r0 : 0 ≤ r) (r1 : r < A 0) (ky : tkA A r f t → Q 1) (kn : ¬ tkA A r f t → Q 0) : wp_S_meetsSpan σ r f t Q := by
  have hr := hA.2.2.2.2.1 r r0 r1
  have hA0 := hA.1
  have hc := hr.2.2.2.2.1
  unfold wp_S_meetsSpan
  rw [S_ofRoads (by omega) (by omega), RX_road h r0 r1 (by omega) (by omega)]
  refine zFor0 (fun v => 0 ≤ v ∧ ∀ s, 0 ≤ s → s < v → ¬ (f < A (27 + 12 * r + (5 + 2 * s + 1)) ∧ A (27 + 12 * r + (5 + 2 * s)) < t)) (A (27 + 12 * r + 4)) ?_ 0 ⟨by omega, fun s s0 s1 => by omega⟩ (by omega)
  intro n v hI hv ih
  obtain ⟨v0, hn⟩ := hI
  rw [wp_S_meetsSpan_L11]
  refine ⟨fun c => kn ?_, fun c => ?_⟩
  · rintro ⟨s, s0, s1, hs⟩
    exact hn s s0 (by omega) hs
  · have next : ¬ (f < A (27 + 12 * r + (5 + 2 * v + 1)) ∧ A (27 + 12 * r + (5 + 2 * v)) < t) → zR (v + 1) ∧ wp_S_meetsSpan_L11 σ r f t (A (27 + 12 * r + 4)) Q n (v + 1) := fun hx =>
      ⟨zRi (by omega) (by omega), ih ⟨by omega, fun s s0 s1 => by
        by_cases hs : s = v
        · subst hs; exact hx
        · exact hn s s0 (by omega)⟩ (by omega)⟩
    rw [S_spanTo (by omega) (by omega), RX_to h r0 r1 v0 (by omega) (by omega), S_spanFrom (by omega) (by omega), RX_from h r0 r1 v0 (by omega) (by omega)]
    exact ⟨fun c1 => next (fun hx => by omega), fun c1 => ⟨fun c2 => next (fun hx => by omega), fun c2 => ky ⟨v, v0, by omega, by omega, by omega⟩⟩⟩