/-! what there is -/
theorem zOr_0 {s : Int} (h : zR s) : zOr s 0 = s := zB_ext (zOr_rg _ _) h (fun k _ _ => by rw [zB_or, zB_0]; simp)
def sF (f : Int → Bool) : Nat → Int
  | 0 => 0
  | n + 1 => if f n = true then zOr (sF f n) (zShl 1 n) else sF f n
theorem sF_rg (f : Int → Bool) (n : Nat) : zR (sF f n) := by
  induction n with
  | zero => exact zR_0
  | succ n ih =>
    unfold sF
    split
    · exact zOr_rg _ _
    · exact ih
def cF (f : Int → Bool) : Nat → Int
  | 0 => 0
  | n + 1 => if f n = true then cF f n + 1 else cF f n
theorem cF_rg (f : Int → Bool) (n : Nat) : 0 ≤ cF f n ∧ cF f n ≤ n := by
  induction n with
  | zero => unfold cF; omega
  | succ n ih =>
    unfold cF
    split <;> omega
section READ
variable {σ : zM} {A : Int → Int} {B : Int} {Q : Int → Prop}
theorem S_roadsWith (h : RX σ 0 A) (hA : OKA A B) {c p : Int} (c0 : 0 ≤ c) (c1 : c < 5) (k : Q (sF (fun r => decide (A (27 + 12 * r + c) = p)) (A 0).toNat)) : wp_S_roadsWith σ c p Q := by
  have hb := hA.1
  have e5 : σ 0 5 = A 0 := h.1.1
  unfold wp_S_roadsWith
  have key : ∀ (n : Nat) (v : Int), 0 ≤ v → v ≤ A 0 → A 0 - v < n → wp_S_roadsWith_L5 σ c p Q n (sF (fun r => decide (A (27 + 12 * r + c) = p)) v.toNat) v := by
    intro n
    induction n with
    | zero => intro v _ _ _; omega
    | succ n ih =>
      intro v v0 v1 hn
      rw [wp_S_roadsWith_L5, e5]
      refine ⟨fun hc => by rw [show v = A 0 by omega]; exact k, fun hc => ?_⟩
      rw [S_ofR' h v0 (by omega) hb.2 c0 c1]
      have := ih (v + 1) (by omega) (by omega) (by omega)
      rw [show (v + 1).toNat = v.toNat + 1 by omega, sF, show ((v.toNat : Nat) : Int) = v by omega] at this
      refine ⟨fun hc2 => ⟨zRi (by omega) (by omega), ?_⟩, fun hc2 => ⟨zRi (by omega) (by omega), ?_⟩⟩
      · rwa [if_neg (by simpa using hc2)] at this
      · rwa [if_pos (by simpa using hc2)] at this
  exact ⟨(A 0).toNat + 1, key _ 0 (by omega) (by omega) (by omega)⟩
theorem M_roadsBy (hA : OKA (σ 80) B) {c p : Int} (c0 : 0 ≤ c) (c1 : c < 12) (k : Q (sF (fun r => decide (σ 80 (27 + 12 * r + c) = p)) (σ 80 0).toNat)) : wp_M_roadsBy σ p c Q := by
  have hb := hA.1
  unfold wp_M_roadsBy
  have key : ∀ (n : Nat) (v : Int), 0 ≤ v → v ≤ σ 80 0 → σ 80 0 - v < n → wp_M_roadsBy_L5 σ p c Q n (sF (fun r => decide (σ 80 (27 + 12 * r + c) = p)) v.toNat) v := by
    intro n
    induction n with
    | zero => intro v _ _ _; omega
    | succ n ih =>
      intro v v0 v1 hn
      rw [wp_M_roadsBy_L5]
      refine ⟨fun hc => by rw [show v = σ 80 0 by omega]; exact k, fun hc => ?_⟩
      rw [M_ofR (by omega) (by omega)]
      have := ih (v + 1) (by omega) (by omega) (by omega)
      rw [show (v + 1).toNat = v.toNat + 1 by omega, sF, show ((v.toNat : Nat) : Int) = v by omega] at this
      refine ⟨fun hc2 => ⟨zRi (by omega) (by omega), ?_⟩, fun hc2 => ⟨zRi (by omega) (by omega), ?_⟩⟩
      · rw [zOr_0 (sF_rg _ _)]
        rwa [if_neg (by simpa using hc2)] at this
      · rwa [if_pos (by simpa using hc2)] at this
  exact ⟨(σ 80 0).toNat + 1, key _ 0 (by omega) (by omega) (by omega)⟩
theorem S_travellersAt (h : RX σ 0 A) (hA : OKA A B) {p : Int} (k : Q (sF (fun r => decide (A (375 + 8 * r + 0) = p)) (A 2).toNat)) : wp_S_travellersAt σ p Q := by
  have hb := hA.2.2.1
  have e5 : σ 0 7 = A 2 := h.1.2.2
  unfold wp_S_travellersAt
  have key : ∀ (n : Nat) (v : Int), 0 ≤ v → v ≤ A 2 → A 2 - v < n → wp_S_travellersAt_L4 σ p Q n (sF (fun r => decide (A (375 + 8 * r + 0) = p)) v.toNat) v := by
    intro n
    induction n with
    | zero => intro v _ _ _; omega
    | succ n ih =>
      intro v v0 v1 hn
      rw [wp_S_travellersAt_L4, e5]
      refine ⟨fun hc => by rw [show v = A 2 by omega]; exact k, fun hc => ?_⟩
      rw [S_ofT' h v0 (by omega) hb.2 (by omega) (by omega)]
      have := ih (v + 1) (by omega) (by omega) (by omega)
      rw [show (v + 1).toNat = v.toNat + 1 by omega, sF, show ((v.toNat : Nat) : Int) = v by omega] at this
      refine ⟨fun hc2 => ⟨zRi (by omega) (by omega), ?_⟩, fun hc2 => ⟨zRi (by omega) (by omega), ?_⟩⟩
      · rwa [if_neg (by simpa using hc2)] at this
      · rwa [if_pos (by simpa using hc2)] at this
  exact ⟨(A 2).toNat + 1, key _ 0 (by omega) (by omega) (by omega)⟩
theorem M_travellersAt (hA : OKA (σ 80) B) {p : Int} (k : Q (sF (fun r => decide (σ 80 (375 + 8 * r + 0) = p)) (σ 80 2).toNat)) : ∃ n, wp_M_ofPlace_L65 σ p Q n 0 0 := by
  have hb := hA.2.2.1
  have key : ∀ (n : Nat) (v : Int), 0 ≤ v → v ≤ σ 80 2 → σ 80 2 - v < n → wp_M_ofPlace_L65 σ p Q n (sF (fun r => decide (σ 80 (375 + 8 * r + 0) = p)) v.toNat) v := by
    intro n
    induction n with
    | zero => intro v _ _ _; omega
    | succ n ih =>
      intro v v0 v1 hn
      rw [wp_M_ofPlace_L65]
      refine ⟨fun hc => by rw [show v = σ 80 2 by omega]; exact k, fun hc => ?_⟩
      rw [M_ofT (by omega) (by omega)]
      have := ih (v + 1) (by omega) (by omega) (by omega)
      rw [show (v + 1).toNat = v.toNat + 1 by omega, sF, show ((v.toNat : Nat) : Int) = v by omega] at this
      refine ⟨fun hc2 => ⟨zRi (by omega) (by omega), ?_⟩, fun hc2 => ⟨zRi (by omega) (by omega), ?_⟩⟩
      · rw [zOr_0 (sF_rg _ _)]
        rwa [if_neg (by simpa using hc2)] at this
      · rwa [if_pos (by simpa using hc2)] at this
  exact ⟨(σ 80 2).toNat + 1, key _ 0 (by omega) (by omega) (by omega)⟩
theorem S_closuresOf (h : RX σ 0 A) (hA : OKA A B) {p : Int} (k : Q (cF (fun r => decide (A (315 + 3 * r + 0) = p)) (A 1).toNat)) : wp_S_closuresOf σ p Q := by
  have hb := hA.2.1
  have e5 : σ 0 6 = A 1 := h.1.2.1
  unfold wp_S_closuresOf
  have key : ∀ (n : Nat) (v : Int), 0 ≤ v → v ≤ A 1 → A 1 - v < n → wp_S_closuresOf_L4 σ p Q n (cF (fun r => decide (A (315 + 3 * r + 0) = p)) v.toNat) v := by
    intro n
    induction n with
    | zero => intro v _ _ _; omega
    | succ n ih =>
      intro v v0 v1 hn
      rw [wp_S_closuresOf_L4, e5]
      refine ⟨fun hc => by rw [show v = A 1 by omega]; exact k, fun hc => ?_⟩
      rw [S_ofClosures (by omega) (by omega), RX_clo h v0 (by omega) (by omega) (by omega)]
      have := ih (v + 1) (by omega) (by omega) (by omega)
      have hcf := cF_rg (fun r => decide (A (315 + 3 * r + 0) = p)) v.toNat
      rw [show (v + 1).toNat = v.toNat + 1 by omega, cF, show ((v.toNat : Nat) : Int) = v by omega] at this
      refine ⟨fun hc2 => ⟨zRi (by omega) (by omega), ?_⟩, fun hc2 => ⟨zRi (by omega) (by omega), zRi (by omega) (by omega), ?_⟩⟩
      · rwa [if_neg (by simpa using hc2)] at this
      · rwa [if_pos (by simpa using hc2)] at this
  exact ⟨(A 1).toNat + 1, key _ 0 (by omega) (by omega) (by omega)⟩
theorem M_closuresOf (hA : OKA (σ 80) B) {p : Int} (k : Q (cF (fun r => decide (σ 80 (315 + 3 * r + 0) = p)) (σ 80 1).toNat)) : ∃ n, wp_M_ofRoad_L86 σ p Q n 0 0 := by
  have hb := hA.2.1
  have key : ∀ (n : Nat) (v : Int), 0 ≤ v → v ≤ σ 80 1 → σ 80 1 - v < n → wp_M_ofRoad_L86 σ p Q n (cF (fun r => decide (σ 80 (315 + 3 * r + 0) = p)) v.toNat) v := by
    intro n
    induction n with
    | zero => intro v _ _ _; omega
    | succ n ih =>
      intro v v0 v1 hn
      rw [wp_M_ofRoad_L86]
      refine ⟨fun hc => by rw [show v = σ 80 1 by omega]; exact k, fun hc => ⟨by omega, ?_⟩⟩
      have := ih (v + 1) (by omega) (by omega) (by omega)
      have hcf := cF_rg (fun r => decide (σ 80 (315 + 3 * r + 0) = p)) v.toNat
      rw [show (v + 1).toNat = v.toNat + 1 by omega, cF, show ((v.toNat : Nat) : Int) = v by omega] at this
      refine ⟨fun hc2 => ⟨zRi (by omega) (by omega), zRi (by omega) (by omega), ?_⟩, fun hc2 => ⟨zRi (by omega) (by omega), zRi (by omega) (by omega), ?_⟩⟩
      · rw [Int.add_zero]
        rwa [if_neg (by simpa using hc2)] at this
      · rwa [if_pos (by simpa using hc2)] at this
  exact ⟨(σ 80 1).toNat + 1, key _ 0 (by omega) (by omega) (by omega)⟩
end READ
theorem op_ofPlace {B : Int} {σ : zM} (h : Rel B σ) (p w : Int) : wp_X_ofPlace σ p w (fun r => wp_M_ofPlace σ p w (fun r' => r = r')) := by
  have hA := h.2.2.2.2.2.1.1
  by_cases h1 : 0 ≤ p ∧ p ≤ 7
  rotate_left
  · simp [wp_X_ofPlace, wp_M_ofPlace, X_isPlace, M_isPlace, h1]
  by_cases h2 : 0 ≤ w ∧ w ≤ 5
  rotate_left
  · simp [wp_X_ofPlace, wp_M_ofPlace, X_isPlace, X_within, M_isPlace, M_isIn, h1, h2]
  unfold wp_X_ofPlace wp_M_ofPlace
  simp only [X_isPlace, X_within, M_isPlace, M_isIn, zIf1, h1, h2, true_and, not_true, not_false_eq_true, false_implies, true_implies, and_true, and_self]
  refine ⟨fun w3 => ⟨fun w4 => ⟨fun w5 => ?_, fun w5 => ?_⟩, fun w4 => ?_⟩, fun w3 => ?_⟩
  · rw [S_ofRooms' h.1 h1.1 (by omega) h2.1 (by omega)]
    exact ⟨fun c => by omega, fun c => ⟨by omega, rfl⟩⟩
  · exact S_travellersAt h.1 hA ⟨fun _ => ⟨fun _ => M_travellersAt hA rfl, fun c => by omega⟩, fun c => by omega⟩
  · exact S_roadsWith h.1 hA (by omega) (by omega) ⟨fun _ => ⟨fun c => by omega, fun _ => ⟨fun _ => M_roadsBy hA (by omega) (by omega) rfl, fun c => by omega⟩⟩, fun c => by omega⟩
  · exact S_roadsWith h.1 hA (by omega) (by omega) ⟨fun _ => ⟨fun c => by omega, fun _ => ⟨fun c => by omega, fun c => M_roadsBy hA (by omega) (by omega) rfl⟩⟩, fun c => by omega⟩
theorem op_ofRoad {B : Int} {σ : zM} (h : Rel B σ) (p w : Int) : wp_X_ofRoad σ p w (fun r => wp_M_ofRoad σ p w (fun r' => r = r')) := by
  have hA := h.2.2.2.2.2.1.1
  have bb := hA.1
  have e5 : σ 0 5 = σ 80 0 := h.1.1.1
  by_cases h1 : 0 ≤ p ∧ p < σ 80 0
  rotate_left
  · simp [wp_X_ofRoad, wp_M_ofRoad, S_hasRoad, M_isRoad bb.1 bb.2, e5, h1]
  by_cases h2 : 0 ≤ w ∧ w ≤ 12
  rotate_left
  · simp [wp_X_ofRoad, wp_M_ofRoad, S_hasRoad, M_isRoad bb.1 bb.2, X_within, M_isIn, e5, h1, h2]
  unfold wp_X_ofRoad wp_M_ofRoad
  rw [S_hasRoad]
  simp only [M_isRoad bb.1 bb.2, X_within, M_isIn, e5, zIf1, h1, h2, true_and, not_true, not_false_eq_true, false_implies, true_implies, and_true, and_self]
  have hr := h.1.2.2.1 p h1.1 h1.2
  have ho := (hA.2.2.2.2.1 p h1.1 h1.2).2.2.2.2.1
  refine ⟨fun w11 => ⟨fun w12 => ?_, fun w12 => ⟨by omega, ?_⟩⟩, fun w11 => S_closuresOf h.1 hA ⟨fun _ => ⟨fun _ => ⟨fun _ => M_closuresOf hA rfl, fun c => by omega⟩, fun c => by omega⟩, fun c => by omega⟩⟩
  · rw [S_ofRoads (by omega) (by omega)]
    by_cases w5 : w < 5
    · refine ⟨fun c => by omega, fun _ => ?_⟩
      rw [M_ofR (by omega) (by omega)]
      exact hr.1 w h2.1 w5
    · refine ⟨fun _ => ⟨fun c => by omega, fun _ => ⟨zRi (by omega) (by omega), by omega, ?_⟩⟩, fun c => by omega⟩
      rw [M_ofR (by omega) (by omega), M_ofR (by omega) (by omega)]
      have hs := hr.2.1 ((w - 5) / 2) (by omega) (by omega)
      have hw : w = 5 + 2 * ((w - 5) / 2) ∨ w = 5 + 2 * ((w - 5) / 2) + 1 := by omega
      refine ⟨fun c => ?_, fun c => ?_⟩
      · rw [if_neg (by omega), if_neg (by omega)] at hs
        rcases hw with hw | hw
        · rw [show p * 11 + w = p * 11 + 5 + 2 * ((w - 5) / 2) by omega]; exact hs.1
        · rw [show p * 11 + w = p * 11 + 5 + 2 * ((w - 5) / 2) + 1 by omega]; exact hs.2
      · rw [if_pos (by omega), if_pos (by omega)] at hs
        rcases hw with hw | hw
        · rw [show p * 11 + w = p * 11 + 5 + 2 * ((w - 5) / 2) by omega, show 27 + 12 * p + w = 27 + 12 * p + (5 + 2 * ((w - 5) / 2)) by omega]; exact hs.1
        · rw [show p * 11 + w = p * 11 + 5 + 2 * ((w - 5) / 2) + 1 by omega, show 27 + 12 * p + w = 27 + 12 * p + (5 + 2 * ((w - 5) / 2) + 1) by omega]; exact hs.2
  · refine ⟨fun _ => ⟨fun _ => ⟨fun c => absurd w12 c, fun _ => ?_⟩, fun c => by omega⟩, fun c => by omega⟩
    rw [M_ofR (by omega) (by omega)]
    exact hr.2.2
theorem op_ofClosure {B : Int} {σ : zM} (h : Rel B σ) (p w : Int) : wp_X_ofClosure σ p w (fun r => wp_M_ofClosure σ p w (fun r' => r = r')) := by
  have hA := h.2.2.2.2.2.1.1
  have bb := hA.2.1
  have e6 : σ 0 6 = σ 80 1 := h.1.1.2.1
  have hz : zR (σ 80 1 - 1) := zRi (by omega) (by omega)
  by_cases h1 : 0 ≤ p ∧ p < σ 80 1
  rotate_left
  · have h1' : ¬ (0 ≤ p ∧ p ≤ σ 80 1 - 1) := by omega
    simp [wp_X_ofClosure, wp_M_ofClosure, S_hasClosure, M_isIn, e6, h1, h1', hz]
  have h1' : 0 ≤ p ∧ p ≤ σ 80 1 - 1 := by omega
  by_cases h2 : 0 ≤ w ∧ w ≤ 2
  rotate_left
  · simp [wp_X_ofClosure, wp_M_ofClosure, S_hasClosure, X_within, M_isIn, e6, h1, h1', h2, hz]
  unfold wp_X_ofClosure wp_M_ofClosure
  rw [S_hasClosure]
  simp only [X_within, M_isIn, e6, zIf1, h1, h1', h2, true_and, not_true, not_false_eq_true, false_implies, true_implies, and_true, and_self]
  rw [S_ofClosures (by omega) (by omega)]
  exact ⟨hz, by omega, RX_clo h.1 h1.1 h1.2 h2.1 (by omega)⟩
theorem op_ofTraveller {B : Int} {σ : zM} (h : Rel B σ) (p w : Int) : wp_X_ofTraveller σ p w (fun r => wp_M_ofTraveller σ p w (fun r' => r = r')) := by
  have hA := h.2.2.2.2.2.1.1
  have bb := hA.2.2.1
  have e6 : σ 0 7 = σ 80 2 := h.1.1.2.2
  by_cases h1 : 0 ≤ p ∧ p < σ 80 2
  rotate_left
  · simp [wp_X_ofTraveller, wp_M_ofTraveller, S_hasTraveller, M_isTraveller bb.1 bb.2, e6, h1]
  by_cases h2 : 0 ≤ w ∧ w ≤ 7
  rotate_left
  · simp [wp_X_ofTraveller, wp_M_ofTraveller, S_hasTraveller, M_isTraveller bb.1 bb.2, X_within, M_isIn, e6, h1, h2]
  unfold wp_X_ofTraveller wp_M_ofTraveller
  rw [S_hasTraveller]
  simp only [M_isTraveller bb.1 bb.2, X_within, M_isIn, e6, zIf1, h1, h2, true_and, not_true, not_false_eq_true, false_implies, true_implies, and_true, and_self]
  rw [S_ofT' h.1 h1.1 h1.2 bb.2 h2.1 (by omega), M_ofT (by omega) (by omega)]
theorem op_count {B : Int} {σ : zM} (h : Rel B σ) (w : Int) : wp_X_count σ w (fun r => wp_M_count σ w (fun r' => r = r')) := by
  have e5 : σ 0 5 = σ 80 0 := h.1.1.1
  have e6 : σ 0 6 = σ 80 1 := h.1.1.2.1
  have e7 : σ 0 7 = σ 80 2 := h.1.1.2.2
  have r5 : σ 54 5 = σ 79 5 := h.2.2.2.1.1
  have r1 : σ 58 1 = σ 79 7 := h.2.2.2.1.2.1
  have r2 : σ 54 2 = σ 79 4 := h.2.1.1
  unfold wp_X_count wp_M_count
  rw [e5, e6, e7, r5, r1, r2]
  refine ⟨?_, ?_, ?_, ?_, ?_, ?_, ?_⟩
  · rintro rfl; refine ⟨fun _ => ⟨by omega, rfl⟩, fun c => by omega, fun c => by omega, fun c => by omega, fun c => by omega, fun c => by omega, fun c => by omega⟩
  · rintro rfl; refine ⟨fun c => by omega, fun _ => ⟨by omega, rfl⟩, fun c => by omega, fun c => by omega, fun c => by omega, fun c => by omega, fun c => by omega⟩
  · rintro rfl; refine ⟨fun c => by omega, fun c => by omega, fun _ => ⟨by omega, rfl⟩, fun c => by omega, fun c => by omega, fun c => by omega, fun c => by omega⟩
  · rintro rfl; refine ⟨fun c => by omega, fun c => by omega, fun c => by omega, fun _ => rfl, fun c => by omega, fun c => by omega, fun c => by omega⟩
  · rintro rfl; refine ⟨fun c => by omega, fun c => by omega, fun c => by omega, fun c => by omega, fun _ => rfl, fun c => by omega, fun c => by omega⟩
  · rintro rfl; refine ⟨fun c => by omega, fun c => by omega, fun c => by omega, fun c => by omega, fun c => by omega, fun _ => rfl, fun c => by omega⟩
  · intro hw; refine ⟨fun c => by omega, fun c => by omega, fun c => by omega, fun c => by omega, fun c => by omega, fun c => by omega, fun _ => rfl⟩
theorem op_whyShut {B : Int} {σ : zM} (h : Rel B σ) (p w : Int) : wp_X_whyShut σ p w (fun r => wp_M_whyShut σ p w (fun r' => r = r')) := by
  have hA := h.2.2.2.2.2.1.1
  have bb := hA.1
  have e5 : σ 0 5 = σ 80 0 := h.1.1.1
  by_cases h1 : 0 ≤ p ∧ p < σ 80 0
  rotate_left
  · simp [wp_X_whyShut, wp_M_whyShut, S_hasRoad, M_isRoad bb.1 bb.2, e5, h1]
  by_cases h2 : 0 ≤ w ∧ w ≤ 2880
  rotate_left
  · simp [wp_X_whyShut, wp_M_whyShut, S_hasRoad, M_isRoad bb.1 bb.2, X_within, M_isTime, e5, h1, h2]
  unfold wp_X_whyShut wp_M_whyShut
  rw [S_hasRoad]
  simp only [M_isRoad bb.1 bb.2, X_within, M_isTime, e5, zIf1, h1, h2, true_and, not_true, not_false_eq_true, false_implies, true_implies, and_true, and_self]
  exact S_whyNoEntry h.1 hA h1.1 h1.2 h2.1 h2.2 (M_whyNot hA h1.1 h1.2 h2.1 h2.2 rfl)
