/-! what there is -/
theorem zOr_0 {s : Int} (h : zR s) : zOr s 0 = s := zB_ext (zOr_rg _ _) h (fun k _ _ => by rw [zB_or, zB_0]; simp)
def sF (f : Int → Bool) : Nat → Int
  | 0 => 0
  | n + 1 => if f n = true then zOr (sF f n) (zShl 1 n) else sF f n
theorem sF_rg (f : Int → Bool) (n : Nat) : zR (sF f n) := by
  induction n with
  | zero => exact zR_0
  | succ n ih =>
    unfold sF
    split
    · exact zOr_rg _ _
    · exact ih
def cF (f : Int → Bool) : Nat → Int
  | 0 => 0
  | n + 1 => if f n = true then cF f n + 1 else cF f n
theorem cF_rg (f : Int → Bool) (n : Nat) : 0 ≤ cF f n ∧ cF f n ≤ n := by
  induction n with
  | zero => unfold cF; omega
  | succ n ih =>
    unfold cF
    split <;> omega
section READ
variable {σ : zM} {A : Int → Int} {B : Int} {Q : Int → Prop}
theorem S_roadsWith (h : RX σ 0 A) (hA : OKA A B) {c p : Int} (c0 : 0 ≤ c) (c1 : c < 5) (k : Q (sF (fun r => decide (A (27 + 12 * r + c) = p)) (A 0).toNat)) : wp_S_roadsWith σ c p Q := by
  have hb := hA.1
  have e5 : σ 0 5 = A 0 := h.1.1
  unfold wp_S_roadsWith
  have key : ∀ (n : Nat) (v : Int), 0 ≤ v → v ≤ A 0 → A 0 - v < n → wp_S_roadsWith_L5 σ c p Q n (sF (fun r => decide (A (27 + 12 * r + c) = p)) v.toNat) v := by
    intro n
    induction n with
    | zero => intro v _ _ _; omega
    | succ n ih =>
      intro v v0 v1 hn
      rw [wp_S_roadsWith_L5, e5]
      refine ⟨fun hc => by rw [show v = A 0 by omega]; exact k, fun hc => ?_⟩
      rw [S_ofR' h v0 (by omega) hb.2 c0 c1]
      have := ih (v + 1) (by omega) (by omega) (by omega)
      rw [show (v + 1).toNat = v.toNat + 1 by omega, sF, show ((v.toNat : Nat) : Int) = v by omega] at this
      refine ⟨fun hc2 => ⟨zRi (by omega) (by omega), ?_⟩, fun hc2 => ⟨zRi (by omega) (by omega), ?_⟩⟩
      · rwa [if_neg (by simpa using hc2)] at this
      · rwa [if_pos (by simpa using hc2)] at this
  exact ⟨(A 0).toNat + 1, key _ 0 (by omega) (by omega) (by omega)⟩
theorem S_travellersAt (h : RX σ 0 A) (hA : OKA A B) {p : Int} (k : Q (sF (fun r => decide (A (375 + 8 * r + 0) = p)) (A 2).toNat)) : wp_S_travellersAt σ p Q := by
  have hb := hA.2.2.1
  have e5 : σ 0 7 = A 2 := h.1.2.2
  unfold wp_S_travellersAt
  have key : ∀ (n : Nat) (v : Int), 0 ≤ v → v ≤ A 2 → A 2 - v < n → wp_S_travellersAt_L4 σ p Q n (sF (fun r => decide (A (375 + 8 * r + 0) = p)) v.toNat) v := by
    intro n
    induction n with
    | zero => intro v _ _ _; omega
    | succ n ih =>
      intro v v0 v1 hn
      rw [wp_S_travellersAt_L4, e5]
      refine ⟨fun hc => by rw [show v = A 2 by omega]; exact k, fun hc => ?_⟩
      rw [S_ofT' h v0 (by omega) hb.2 (by omega) (by omega)]
      have := ih (v + 1) (by omega) (by omega) (by omega)
      rw [show (v + 1).toNat = v.toNat + 1 by omega, sF, show ((v.toNat : Nat) : Int) = v by omega] at this
      refine ⟨fun hc2 => ⟨zRi (by omega) (by omega), ?_⟩, fun hc2 => ⟨zRi (by omega) (by omega), ?_⟩⟩
      · rwa [if_neg (by simpa using hc2)] at this
      · rwa [if_pos (by simpa using hc2)] at this
  exact ⟨(A 2).toNat + 1, key _ 0 (by omega) (by omega) (by omega)⟩
theorem S_closuresOf (h : RX σ 0 A) (hA : OKA A B) {p : Int} (k : Q (cF (fun r => decide (A (315 + 3 * r + 0) = p)) (A 1).toNat)) : wp_S_closuresOf σ p Q := by
  have hb := hA.2.1
  have e5 : σ 0 6 = A 1 := h.1.2.1
  unfold wp_S_closuresOf
  have key : ∀ (n : Nat) (v : Int), 0 ≤ v → v ≤ A 1 → A 1 - v < n → wp_S_closuresOf_L4 σ p Q n (cF (fun r => decide (A (315 + 3 * r + 0) = p)) v.toNat) v := by
    intro n
    induction n with
    | zero => intro v _ _ _; omega
    | succ n ih =>
      intro v v0 v1 hn
      rw [wp_S_closuresOf_L4, e5]
      refine ⟨fun hc => by rw [show v = A 1 by omega]; exact k, fun hc => ?_⟩
      rw [S_ofClosures (by omega) (by omega), RX_clo h v0 (by omega) (by omega) (by omega)]
      have := ih (v + 1) (by omega) (by omega) (by omega)
      have hcf := cF_rg (fun r => decide (A (315 + 3 * r + 0) = p)) v.toNat
      rw [show (v + 1).toNat = v.toNat + 1 by omega, cF, show ((v.toNat : Nat) : Int) = v by omega] at this
      refine ⟨fun hc2 => ⟨zRi (by omega) (by omega), ?_⟩, fun hc2 => ⟨zRi (by omega) (by omega), zRi (by omega) (by omega), ?_⟩⟩
      · rwa [if_neg (by simpa using hc2)] at this
      · rwa [if_pos (by simpa using hc2)] at this
  exact ⟨(A 1).toNat + 1, key _ 0 (by omega) (by omega) (by omega)⟩
end READ