/-! why a road cannot be entered -/
def inS (A : Int → Int) (r s m : Int) : Prop := A (27 + 12 * r + (5 + 2 * s)) ≤ m ∧ m < A (27 + 12 * r + (5 + 2 * s + 1))
theorem spE_in {A : Int → Int} {B r s m : Int} (h : OKr A B r) (s0 : 0 ≤ s) (s1 : s < A (27 + 12 * r + 4)) (hs : inS A r s m) : spE A r m = A (27 + 12 * r + (5 + 2 * s + 1)) := by
  obtain ⟨-, -, -, -, h4, h5, h6, -⟩ := h
  have h01 := h6 0 1 (by omega) (by omega)
  have h02 := h6 0 2 (by omega) (by omega)
  have h12 := h6 1 2 (by omega) (by omega)
  unfold inS at hs
  unfold spE
  rcases (show s = 0 ∨ s = 1 ∨ s = 2 by omega) with rfl | rfl | rfl
  · rw [if_neg (fun c => by have := h02 c.1; omega), if_neg (fun c => by have := h01 c.1; omega), if_pos ⟨by omega, hs⟩]
  · rw [if_neg (fun c => by have := h12 c.1; omega), if_pos ⟨by omega, hs⟩]
  · rw [if_pos ⟨by omega, hs⟩]
theorem spE_no {A : Int → Int} {r m : Int} (h : ∀ s, 0 ≤ s → s < A (27 + 12 * r + 4) → ¬ inS A r s m) : spE A r m = 0 := by
  unfold inS at h
  unfold spE
  rw [if_neg (fun c => h 2 (by omega) c.1 c.2), if_neg (fun c => h 1 (by omega) c.1 c.2), if_neg (fun c => h 0 (by omega) c.1 c.2)]
theorem spE_pos {A : Int → Int} {B r s m : Int} (h : OKr A B r) (s0 : 0 ≤ s) (s1 : s < A (27 + 12 * r + 4)) (hs : inS A r s m) : 0 < spE A r m := by
  rw [spE_in h s0 s1 hs]
  have := h.2.2.2.2.2.1 s s0 s1
  omega
theorem why_2 {A : Int → Int} {r t : Int} (h : spE A r (t % 1440) = 0) : why A r t = 2 := by
  unfold why; rw [if_pos h]
theorem why_3 {A : Int → Int} {r t : Int} (h : ¬ spE A r (t % 1440) = 0) (h3 : A (27 + 12 * r + 3) = 1 ∧ spE A r (t % 1440) < t % 1440 + A (27 + 12 * r + 2)) : why A r t = 3 := by
  unfold why; rw [if_neg h, if_pos h3]
theorem why_4 {A : Int → Int} {r t : Int} (h : ¬ spE A r (t % 1440) = 0) (h3 : ¬ (A (27 + 12 * r + 3) = 1 ∧ spE A r (t % 1440) < t % 1440 + A (27 + 12 * r + 2))) (h4 : clA A r t) : why A r t = 4 := by
  unfold why; rw [if_neg h, if_neg h3, if_pos h4]
theorem why_5 {A : Int → Int} {r t : Int} (h : ¬ spE A r (t % 1440) = 0) (h3 : ¬ (A (27 + 12 * r + 3) = 1 ∧ spE A r (t % 1440) < t % 1440 + A (27 + 12 * r + 2))) (h4 : ¬ clA A r t) (h5 : 2880 < t + A (27 + 12 * r + 2)) : why A r t = 5 := by
  unfold why; rw [if_neg h, if_neg h3, if_neg h4, if_pos h5]
theorem why_0 {A : Int → Int} {r t : Int} (h : ¬ spE A r (t % 1440) = 0) (h3 : ¬ (A (27 + 12 * r + 3) = 1 ∧ spE A r (t % 1440) < t % 1440 + A (27 + 12 * r + 2))) (h4 : ¬ clA A r t) (h5 : ¬ 2880 < t + A (27 + 12 * r + 2)) : why A r t = 0 := by
  unfold why; rw [if_neg h, if_neg h3, if_neg h4, if_neg h5]
theorem why_0_iff {A : Int → Int} {r t : Int} : why A r t = 0 ↔ ¬ spE A r (t % 1440) = 0 ∧ ¬ (A (27 + 12 * r + 3) = 1 ∧ spE A r (t % 1440) < t % 1440 + A (27 + 12 * r + 2)) ∧ ¬ clA A r t ∧ ¬ 2880 < t + A (27 + 12 * r + 2) := by
  constructor
  · intro h
    refine ⟨fun c => ?_, fun c => ?_, fun c => ?_, fun c => ?_⟩
    · rw [why_2 c] at h; cases h
    · by_cases h1 : spE A r (t % 1440) = 0
      · rw [why_2 h1] at h; cases h
      · rw [why_3 h1 c] at h; cases h
    · by_cases h1 : spE A r (t % 1440) = 0
      · rw [why_2 h1] at h; cases h
      · by_cases h2 : A (27 + 12 * r + 3) = 1 ∧ spE A r (t % 1440) < t % 1440 + A (27 + 12 * r + 2)
        · rw [why_3 h1 h2] at h; cases h
        · rw [why_4 h1 h2 c] at h; cases h
    · by_cases h1 : spE A r (t % 1440) = 0
      · rw [why_2 h1] at h; cases h
      · by_cases h2 : A (27 + 12 * r + 3) = 1 ∧ spE A r (t % 1440) < t % 1440 + A (27 + 12 * r + 2)
        · rw [why_3 h1 h2] at h; cases h
        · by_cases h3 : clA A r t
          · rw [why_4 h1 h2 h3] at h; cases h
          · rw [why_5 h1 h2 h3 c] at h; cases h
  · intro h
    exact why_0 h.1 h.2.1 h.2.2.1 h.2.2.2
theorem why_rng (A : Int → Int) (r t : Int) : why A r t = 0 ∨ why A r t = 2 ∨ why A r t = 3 ∨ why A r t = 4 ∨ why A r t = 5 := by
  by_cases h1 : spE A r (t % 1440) = 0
  · right; left; exact why_2 h1
  · by_cases h2 : A (27 + 12 * r + 3) = 1 ∧ spE A r (t % 1440) < t % 1440 + A (27 + 12 * r + 2)
    · right; right; left; exact why_3 h1 h2
    · by_cases h3 : clA A r t
      · right; right; right; left; exact why_4 h1 h2 h3
      · by_cases h4 : 2880 < t + A (27 + 12 * r + 2)
        · right; right; right; right; exact why_5 h1 h2 h3 h4
        · left; exact why_0 h1 h2 h3 h4
section WHY
variable {σ : zM} {Q : Int → Prop} {A : Int → Int} {B : Int}
theorem RX_road (h : RX σ 0 A) {r c : Int} (r0 : 0 ≤ r) (r1 : r < A 0) (c0 : 0 ≤ c) (c1 : c < 5) : σ 2 (r * 11 + c) = A (27 + 12 * r + c) := (h.2.2.1 r r0 r1).1 c c0 c1
theorem RX_from (h : RX σ 0 A) {r s : Int} (r0 : 0 ≤ r) (r1 : r < A 0) (s0 : 0 ≤ s) (s1 : s < A (27 + 12 * r + 4)) (s2 : s < 3) : σ 2 (r * 11 + 5 + 2 * s) = A (27 + 12 * r + (5 + 2 * s)) := by
  have := ((h.2.2.1 r r0 r1).2.1 s s0 s2).1
  rwa [if_pos s1] at this
theorem RX_to (h : RX σ 0 A) {r s : Int} (r0 : 0 ≤ r) (r1 : r < A 0) (s0 : 0 ≤ s) (s1 : s < A (27 + 12 * r + 4)) (s2 : s < 3) : σ 2 (r * 11 + 5 + 2 * s + 1) = A (27 + 12 * r + (5 + 2 * s + 1)) := by
  have := ((h.2.2.1 r r0 r1).2.1 s s0 s2).2
  rwa [if_pos s1] at this
theorem RX_clo (h : RX σ 0 A) {c j : Int} (c0 : 0 ≤ c) (c1 : c < A 1) (j0 : 0 ≤ j) (j1 : j < 3) : σ 4 (c * 3 + j) = A (315 + 3 * c + j) := h.2.2.2.1 c j c0 c1 j0 j1
theorem RX_trv (h : RX σ 0 A) {t j : Int} (t0 : 0 ≤ t) (t1 : t < A 2) (j0 : 0 ≤ j) (j1 : j < 8) : σ 5 (t * 8 + j) = A (375 + 8 * t + j) := h.2.2.2.2 t j t0 t1 j0 j1
theorem RX_room (h : RX σ 0 A) {p c : Int} (p0 : 0 ≤ p) (p1 : p < 8) (c0 : 0 ≤ c) (c1 : c < 3) : σ 1 (p * 3 + c) = A (3 + 3 * p + c) := h.2.1 p c p0 p1 c0 c1
theorem S_spanEnd (h : RX σ 0 A) (hA : OKA A B) {r m : Int} (r0 : 0 ≤ r) (r1 : r < A 0) (k : Q (if spE A r m = 0 then -6 else spE A r m)) : wp_S_spanEnd σ r m Q := by
  have hr := hA.2.2.2.2.1 r r0 r1
  have hA0 := hA.1
  have hc := hr.2.2.2.2.1
  unfold wp_S_spanEnd
  rw [S_ofRoads (by omega) (by omega), RX_road h r0 r1 (by omega) (by omega)]
  refine zFor0 (fun v => 0 ≤ v ∧ ∀ s, 0 ≤ s → s < v → ¬ inS A r s m) (A (27 + 12 * r + 4)) ?_ 0 ⟨by omega, fun s s0 s1 => by omega⟩ (by omega)
  intro n v hI hv ih
  obtain ⟨v0, hn⟩ := hI
  rw [wp_S_spanEnd_L10]
  refine ⟨fun c => ?_, fun c => ?_⟩
  · rw [spE_no (fun s s0 s1 => hn s s0 (by omega))] at k
    exact k
  · have next : ¬ inS A r v m → zR (v + 1) ∧ wp_S_spanEnd_L10 σ r m (A (27 + 12 * r + 4)) Q n (v + 1) := fun hx =>
      ⟨zRi (by omega) (by omega), ih ⟨by omega, fun s s0 s1 => by
        by_cases hs : s = v
        · subst hs; exact hx
        · exact hn s s0 (by omega)⟩ (by omega)⟩
    rw [S_spanFrom (by omega) (by omega), RX_from h r0 r1 v0 (by omega) (by omega), S_spanTo (by omega) (by omega), RX_to h r0 r1 v0 (by omega) (by omega), S_spanTo (by omega) (by omega), RX_to h r0 r1 v0 (by omega) (by omega)]
    refine ⟨fun c1 => next (fun hx => ?_), fun c1 => ⟨fun c2 => next (fun hx => ?_), fun c2 => ?_⟩⟩
    · have := hx.1; omega
    · have := hx.2; omega
    · have hx : inS A r v m := ⟨by omega, by omega⟩
      have hp := spE_pos hr v0 (by omega) hx
      rw [if_neg (by omega), spE_in hr v0 (by omega) hx] at k
      exact k
theorem S_closedAt (h : RX σ 0 A) (hA : OKA A B) {r t : Int} (ky : clA A r t → Q 1) (kn : ¬ clA A r t → Q 0) : wp_S_closedAt σ r t Q := by
  have hA1 := hA.2.1
  have e1 : σ 0 6 = A 1 := h.1.2.1
  unfold wp_S_closedAt
  refine zFor0 (fun v => 0 ≤ v ∧ ∀ c, 0 ≤ c → c < v → ¬ (A (315 + 3 * c + 0) = r ∧ A (315 + 3 * c + 1) ≤ t ∧ t < A (315 + 3 * c + 2))) (A 1) ?_ 0 ⟨by omega, fun s s0 s1 => by omega⟩ (by omega)
  intro n v hI hv ih
  obtain ⟨v0, hn⟩ := hI
  rw [wp_S_closedAt_L2, e1]
  refine ⟨fun c => kn (fun hc => ?_), fun c => ?_⟩
  · obtain ⟨x, x0, x1, hx⟩ := hc
    exact hn x x0 (by omega) hx
  · have next : ¬ (A (315 + 3 * v + 0) = r ∧ A (315 + 3 * v + 1) ≤ t ∧ t < A (315 + 3 * v + 2)) → zR (v + 1) ∧ wp_S_closedAt_L2 σ r t Q n (v + 1) := fun hx =>
      ⟨zRi (by omega) (by omega), ih ⟨by omega, fun s s0 s1 => by
        by_cases hs : s = v
        · subst hs; exact hx
        · exact hn s s0 (by omega)⟩ (by omega)⟩
    rw [S_ofClosures (by omega) (by omega), RX_clo h v0 (by omega) (by omega) (by omega), S_ofClosures (by omega) (by omega), RX_clo h v0 (by omega) (by omega) (by omega), S_ofClosures (by omega) (by omega), RX_clo h v0 (by omega) (by omega) (by omega)]
    refine ⟨fun c1 => next (fun hx => c1 hx.1), fun c1 => ⟨fun c2 => next (fun hx => by omega), fun c2 => ⟨fun c3 => next (fun hx => by omega), fun c3 => ky ⟨v, v0, by omega, c1, by omega, by omega⟩⟩⟩⟩
theorem S_whyNoEntry (h : RX σ 0 A) (hA : OKA A B) {r t : Int} (r0 : 0 ≤ r) (r1 : r < A 0) (t0 : 0 ≤ t) (t1 : t ≤ 2880) (k : Q (why A r t)) : wp_S_whyNoEntry σ r t Q := by
  have hr := hA.2.2.2.2.1 r r0 r1
  have hA0 := hA.1
  obtain ⟨-, -, h2, h3, -, h5, -, -⟩ := hr
  unfold wp_S_whyNoEntry
  refine ⟨t0, S_spanEnd h hA r0 r1 ?_⟩
  have b51 : ¬ spE A r (t % 1440) = 0 → ¬ (A (27 + 12 * r + 3) = 1 ∧ spE A r (t % 1440) < t % 1440 + A (27 + 12 * r + 2)) → wp_S_whyNoEntry_b51 σ Q r t (A (27 + 12 * r + 2)) := by
    intro hs hx
    unfold wp_S_whyNoEntry_b51
    refine S_closedAt h hA (fun hc => ⟨fun c => absurd c (by decide), fun _ => by rw [why_4 hs hx hc] at k; exact k⟩) (fun hc => ⟨fun _ => ⟨zRi (by omega) (by omega), fun c => ?_, fun c => ?_⟩, fun c => absurd rfl c⟩)
    · rw [why_0 hs hx hc (by omega)] at k; exact k
    · rw [why_5 hs hx hc (by omega)] at k; exact k
  by_cases hs : spE A r (t % 1440) = 0
  · rw [if_pos hs]
    rw [why_2 hs] at k
    exact ⟨fun c => absurd rfl c, fun _ => k⟩
  · rw [if_neg hs, S_ofRoads (by omega) (by omega), RX_road h r0 r1 (by omega) (by omega), S_ofRoads (by omega) (by omega), RX_road h r0 r1 (by omega) (by omega)]
    have hp : 0 ≤ spE A r (t % 1440) := by
      by_cases hx : ∃ s, 0 ≤ s ∧ s < A (27 + 12 * r + 4) ∧ inS A r s (t % 1440)
      · obtain ⟨s, s0, s1, hx⟩ := hx
        have := spE_pos (hA.2.2.2.2.1 r r0 r1) s0 s1 hx; omega
      · exact absurd (spE_no (fun s s0 s1 hh => hx ⟨s, s0, s1, hh⟩)) hs
    refine ⟨fun _ => ⟨fun c => b51 hs (fun hh => by omega), fun c => ⟨zRi (by omega) (by omega), fun c2 => b51 hs (fun hh => by omega), fun c2 => ?_⟩⟩, fun c => by omega⟩
    rw [why_3 hs ⟨by omega, by omega⟩] at k; exact k
end WHY
