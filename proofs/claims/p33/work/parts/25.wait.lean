/-! waiting: until when the room is open, and until when one can stay -/
def oU (A : Int → Int) (p t : Int) : Int :=
  if A (3 + 3 * p + 0) = 0 ∧ A (3 + 3 * p + 1) = 1440 then 2880
  else if A (3 + 3 * p + 0) ≤ t % 1440 ∧ t % 1440 < A (3 + 3 * p + 1) then t - t % 1440 + A (3 + 3 * p + 1) else t
theorem oU_iff {A : Int → Int} {p t u : Int} (h0 : 0 ≤ A (3 + 3 * p + 0)) (h1 : A (3 + 3 * p + 1) ≤ 1440) (t0 : 0 ≤ t) (tu : t ≤ u) (u1 : u ≤ 2880) : u ≤ oU A p t ↔ ∀ x, t ≤ x → x < u → rO A p x := by
  unfold oU rO
  by_cases c1 : A (3 + 3 * p + 0) = 0 ∧ A (3 + 3 * p + 1) = 1440
  · rw [if_pos c1]
    exact ⟨fun _ x _ _ => by omega, fun _ => u1⟩
  · rw [if_neg c1]
    by_cases c2 : A (3 + 3 * p + 0) ≤ t % 1440 ∧ t % 1440 < A (3 + 3 * p + 1)
    · rw [if_pos c2]
      constructor
      · intro h x x0 x1
        omega
      · intro h
        apply Classical.byContradiction
        intro hn
        have := h (t - t % 1440 + A (3 + 3 * p + 1)) (by omega) (by omega)
        omega
    · rw [if_neg c2]
      constructor
      · intro h x x0 x1
        omega
      · intro h
        apply Classical.byContradiction
        intro hn
        exact c2 (h t (Int.le_refl t) (by omega))
theorem oU_rg {A : Int → Int} {p t : Int} (h1 : A (3 + 3 * p + 1) ≤ 1440) (t0 : 0 ≤ t) (t1 : t ≤ 2880) : t ≤ oU A p t ∧ oU A p t ≤ 2880 + 1440 := by
  unfold oU
  split
  · omega
  · split <;> omega
/-- one who comes to p at s can be there at u -/
def zW (A : Int → Int) (p s u : Int) : Prop := s ≤ u ∧ u ≤ 2880 ∧ (∀ x, s ≤ x → x < u → rO A p x) ∧ u - s ≤ A (3 + 3 * p + 2)
def wE (A : Int → Int) (p t : Int) : Int := min (min (oU A p t) (t + A (3 + 3 * p + 2))) 2880
theorem wE_iff {A : Int → Int} {p s u : Int} (h0 : 0 ≤ A (3 + 3 * p + 0)) (h1 : A (3 + 3 * p + 1) ≤ 1440) (s0 : 0 ≤ s) (su : s ≤ u) : u ≤ wE A p s ↔ zW A p s u := by
  unfold wE zW
  constructor
  · intro h
    have hu : u ≤ 2880 := by omega
    exact ⟨su, hu, (oU_iff h0 h1 s0 su hu).1 (by omega), by omega⟩
  · rintro ⟨-, hu, hx, hl⟩
    have := (oU_iff h0 h1 s0 su hu).2 hx
    omega
theorem wE_rg {A : Int → Int} {p s : Int} (h1 : A (3 + 3 * p + 1) ≤ 1440) (h2 : 0 ≤ A (3 + 3 * p + 2)) (s0 : 0 ≤ s) (s1 : s ≤ 2880) : s ≤ wE A p s ∧ wE A p s ≤ 2880 := by
  have := oU_rg (p := p) h1 s0 s1
  unfold wE
  omega
section WT
variable {σ : zM} {A : Int → Int} {B : Int} {Q : Int → Prop}
theorem S_ofRooms' (h : RX σ 0 A) {p c : Int} (p0 : 0 ≤ p) (p1 : p < 8) (c0 : 0 ≤ c) (c1 : c < 3) : wp_S_ofRooms σ p c Q = Q (A (3 + 3 * p + c)) := by
  rw [S_ofRooms (by omega) (by omega), RX_room h p0 p1 c0 c1]
theorem S_ofT' (h : RX σ 0 A) {t c : Int} (t0 : 0 ≤ t) (t1 : t < A 2) (hb : A 2 ≤ 10) (c0 : 0 ≤ c) (c1 : c < 8) : wp_S_ofTravellers σ t c Q = Q (A (375 + 8 * t + c)) := by
  rw [S_ofTravellers (by omega) (by omega), RX_trv h t0 t1 c0 c1]
theorem S_ofR' (h : RX σ 0 A) {r c : Int} (r0 : 0 ≤ r) (r1 : r < A 0) (hb : A 0 ≤ 24) (c0 : 0 ≤ c) (c1 : c < 5) : wp_S_ofRoads σ r c Q = Q (A (27 + 12 * r + c)) := by
  rw [S_ofRoads (by omega) (by omega), RX_road h r0 r1 c0 c1]
theorem S_openUntil (h : RX σ 0 A) (hA : OKA A B) {p t : Int} (p0 : 0 ≤ p) (p1 : p < 8) (t0 : 0 ≤ t) (t1 : t ≤ 2880) (k : Q (oU A p t)) : wp_S_openUntil σ p t Q := by
  have hp := hA.2.2.2.1 p p0 p1
  unfold wp_S_openUntil
  rw [S_ofRooms' h p0 p1 (by omega) (by omega), S_ofRooms' h p0 p1 (by omega) (by omega)]
  unfold oU at k
  have b31 : ¬ (A (3 + 3 * p + 0) = 0 ∧ A (3 + 3 * p + 1) = 1440) → wp_S_openUntil_b31 σ Q t (A (3 + 3 * p + 0)) (A (3 + 3 * p + 1)) := by
    intro c1
    rw [if_neg c1] at k
    refine ⟨t0, fun c2 => ?_, fun c2 => ⟨fun c3 => ?_, fun c3 => ⟨zRi (by omega) (by omega), ?_⟩⟩⟩
    · rw [if_neg (by omega)] at k; exact k
    · rw [if_neg (by omega)] at k; exact k
    · rw [if_pos (by omega)] at k; exact k
  refine ⟨fun c => b31 (fun hh => c hh.1), fun c => ⟨fun c2 => b31 (fun hh => c2 hh.2), fun c2 => ?_⟩⟩
  rw [if_pos ⟨c, c2⟩] at k; exact k
theorem S_waitEnd (h : RX σ 0 A) (hA : OKA A B) {p t : Int} (p0 : 0 ≤ p) (p1 : p < 8) (t0 : 0 ≤ t) (t1 : t ≤ 2880) (k : Q (wE A p t)) : wp_S_waitEnd σ p t Q := by
  have hp := hA.2.2.2.1 p p0 p1
  unfold wp_S_waitEnd
  refine S_openUntil h hA p0 p1 t0 t1 ?_
  rw [S_ofRooms' h p0 p1 (by omega) (by omega)]
  exact ⟨zRi (by omega) (by omega), k⟩
/-- how long the traveller v can stay -/
def sL (A : Int → Int) (v : Int) : Int := max (min (min (oU A (A (375 + 8 * v + 0)) (A (375 + 8 * v + 1))) (A (375 + 8 * v + 2) + A (3 + 3 * A (375 + 8 * v + 0) + 2))) 2880 - A (375 + 8 * v + 1)) 0
theorem S_stayLeft (h : RX σ 0 A) (hA : OKA A B) {v : Int} (v0 : 0 ≤ v) (v1 : v < A 2) (k : Q (sL A v)) : wp_S_stayLeft σ v Q := by
  have ht := hA.2.2.2.2.2.2 v v0 v1
  have h2 := hA.2.2.1
  obtain ⟨t0, t1, t2, t3, t4, t5⟩ := ht
  have hp := hA.2.2.2.1 _ t0.1 t0.2
  unfold wp_S_stayLeft
  rw [S_ofT' h v0 v1 h2.2 (by omega) (by omega), S_ofT' h v0 v1 h2.2 (by omega) (by omega), S_ofT' h v0 v1 h2.2 (by omega) (by omega), S_ofRooms' h t0.1 t0.2 (by omega) (by omega)]
  refine ⟨zRi (by omega) (by omega), S_openUntil h hA t0.1 t0.2 (by omega) (by omega) ?_⟩
  rintro _ rfl
  have := oU_rg (A := A) (p := A (375 + 8 * v + 0)) (t := A (375 + 8 * v + 1)) (by omega) (by omega) (by omega)
  exact ⟨zRi (by omega) (by omega), k⟩
/-- to stay n more minutes is right -/
theorem sL_iff (hA : OKA A B) {v n : Int} (v0 : 0 ≤ v) (v1 : v < A 2) (n0 : 1 ≤ n) : n ≤ sL A v ↔ A (375 + 8 * v + 1) + n ≤ 2880 ∧ (∀ x, A (375 + 8 * v + 1) ≤ x → x < A (375 + 8 * v + 1) + n → rO A (A (375 + 8 * v + 0)) x) ∧ A (375 + 8 * v + 1) + n - A (375 + 8 * v + 2) ≤ A (3 + 3 * A (375 + 8 * v + 0) + 2) := by
  have ht := hA.2.2.2.2.2.2 v v0 v1
  obtain ⟨t0, t1, t2, t3, t4, t5⟩ := ht
  have hp := hA.2.2.2.1 _ t0.1 t0.2
  unfold sL
  by_cases h2 : A (375 + 8 * v + 1) + n ≤ 2880
  · have := oU_iff (A := A) (p := A (375 + 8 * v + 0)) (t := A (375 + 8 * v + 1)) (u := A (375 + 8 * v + 1) + n) (by omega) (by omega) (by omega) (by omega) h2
    rw [← this]
    omega
  · exact ⟨fun h => by omega, fun h => absurd h.1 h2⟩
theorem sL_rg (hA : OKA A B) {v : Int} (v0 : 0 ≤ v) (v1 : v < A 2) : 0 ≤ sL A v ∧ A (375 + 8 * v + 1) + sL A v ≤ 2880 := by
  have ht := hA.2.2.2.2.2.2 v v0 v1
  obtain ⟨t0, t1, t2, t3, t4, t5⟩ := ht
  unfold sL
  omega
end WT
