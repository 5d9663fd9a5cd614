/-! where one can be: from p0 at t0, having come at c0, without road w -/
def uR (A : Int → Int) (w r t : Int) : Prop := (0 ≤ r ∧ r < A 0) ∧ r ≠ w ∧ why A r t = 0
def sT (A : Int → Int) (p0 t0 c0 t : Int) : Prop := t0 ≤ t ∧ (t = t0 ∨ (t ≤ 2880 ∧ (∀ x, t0 ≤ x → x < t → rO A p0 x) ∧ t - c0 ≤ A (3 + 3 * p0 + 2)))
def clH (A : Int → Int) (p0 t0 c0 w : Int) (R : Int → Int → Prop) : Prop :=
  (∀ t, sT A p0 t0 c0 t → R p0 t) ∧ ∀ r s t, R (A (27 + 12 * r + 0)) s → uR A w r s → zW A (A (27 + 12 * r + 1)) (s + A (27 + 12 * r + 2)) t → R (A (27 + 12 * r + 1)) t
def wH (A : Int → Int) (p0 t0 c0 w p t : Int) : Prop := ∀ R, clH A p0 t0 c0 w R → R p t
/-- one comes to p at t, having entered the last road before b -/
def wB (A : Int → Int) (p0 t0 c0 w b p t : Int) : Prop := ∃ r s, s < b ∧ wH A p0 t0 c0 w (A (27 + 12 * r + 0)) s ∧ uR A w r s ∧ s + A (27 + 12 * r + 2) = t ∧ A (27 + 12 * r + 1) = p
def wC (A : Int → Int) (p0 t0 c0 w p t : Int) : Prop := ∃ r s, wH A p0 t0 c0 w (A (27 + 12 * r + 0)) s ∧ uR A w r s ∧ s + A (27 + 12 * r + 2) = t ∧ A (27 + 12 * r + 1) = p
/-- who came before b can be at p at t -/
def wS (A : Int → Int) (p0 t0 c0 w b p t : Int) : Prop := (p = p0 ∧ sT A p0 t0 c0 t) ∨ ∃ s, s < b ∧ wC A p0 t0 c0 w p s ∧ zW A p s t
section WAYS
variable {A : Int → Int} {p0 t0 c0 w : Int}
theorem wH_start {t : Int} (h : sT A p0 t0 c0 t) : wH A p0 t0 c0 w p0 t := fun _ hR => hR.1 t h
theorem wH_step {p s t : Int} (h : wC A p0 t0 c0 w p s) (g : zW A p s t) : wH A p0 t0 c0 w p t := by
  obtain ⟨r, s', h1, h2, h3, h4⟩ := h
  subst h4
  subst h3
  exact fun R hR => hR.2 r s' t (h1 R hR) h2 g
theorem wH_inv {p t : Int} (h : wH A p0 t0 c0 w p t) : (p = p0 ∧ sT A p0 t0 c0 t) ∨ ∃ s, wC A p0 t0 c0 w p s ∧ zW A p s t := by
  have := h (fun p t => wH A p0 t0 c0 w p t ∧ ((p = p0 ∧ sT A p0 t0 c0 t) ∨ ∃ s, wC A p0 t0 c0 w p s ∧ zW A p s t)) ⟨fun t ht => ⟨wH_start ht, Or.inl ⟨rfl, ht⟩⟩, fun r s t hs hu hw => ?_⟩
  · exact this.2
  · have hc : wC A p0 t0 c0 w (A (27 + 12 * r + 1)) (s + A (27 + 12 * r + 2)) := ⟨r, s, hs.1, hu, rfl, rfl⟩
    exact ⟨wH_step hc hw, Or.inr ⟨_, hc, hw⟩⟩
theorem uR_rg {B r t : Int} (hA : OKA A B) (h : uR A w r t) : (0 ≤ A (27 + 12 * r + 0) ∧ A (27 + 12 * r + 0) < 8) ∧ (0 ≤ A (27 + 12 * r + 1) ∧ A (27 + 12 * r + 1) < 8) ∧ (1 ≤ A (27 + 12 * r + 2) ∧ A (27 + 12 * r + 2) ≤ 600) ∧ t + A (27 + 12 * r + 2) ≤ 2880 := by
  obtain ⟨h1, -, h2⟩ := h
  have := hA.2.2.2.2.1 r h1.1 h1.2
  have h3 := (why_0_iff.1 h2).2.2.2
  exact ⟨this.1, this.2.1, this.2.2.1, by omega⟩
theorem sT_rg (ht : t0 ≤ 2880) {t : Int} (h : sT A p0 t0 c0 t) : t0 ≤ t ∧ t ≤ 2880 := by
  unfold sT at h
  omega
theorem wH_rg {B : Int} (hA : OKA A B) (hp : 0 ≤ p0 ∧ p0 < 8) (ht : t0 ≤ 2880) {p t : Int} (h : wH A p0 t0 c0 w p t) : (t0 ≤ t ∧ t ≤ 2880) ∧ (0 ≤ p ∧ p < 8) := by
  refine h (fun p t => (t0 ≤ t ∧ t ≤ 2880) ∧ (0 ≤ p ∧ p < 8)) ⟨fun t h => ⟨sT_rg ht h, hp⟩, fun r s t hs hu hw => ?_⟩
  have := uR_rg hA hu
  have h1 := hw.1
  have h2 := hw.2.1
  exact ⟨by omega, this.2.1⟩
theorem wC_rg {B : Int} (hA : OKA A B) (hp : 0 ≤ p0 ∧ p0 < 8) (ht : t0 ≤ 2880) {p t : Int} (h : wC A p0 t0 c0 w p t) : (t0 < t ∧ t ≤ 2880) ∧ (0 ≤ p ∧ p < 8) := by
  obtain ⟨r, s, h1, h2, h3, h4⟩ := h
  have := uR_rg hA h2
  have := wH_rg hA hp ht h1
  omega
theorem wB_C {b p t : Int} (h : wB A p0 t0 c0 w b p t) : wC A p0 t0 c0 w p t := by
  obtain ⟨r, s, -, h1, h2, h3, h4⟩ := h
  exact ⟨r, s, h1, h2, h3, h4⟩
theorem wC_Cb {B : Int} (hA : OKA A B) {b p t : Int} (hb : t ≤ b) (h : wC A p0 t0 c0 w p t) : wB A p0 t0 c0 w b p t := by
  obtain ⟨r, s, h1, h2, h3, h4⟩ := h
  have := uR_rg hA h2
  exact ⟨r, s, by omega, h1, h2, h3, h4⟩
theorem wB_le {B : Int} (hA : OKA A B) {b p t : Int} (h : wB A p0 t0 c0 w b p t) : t < b + 600 ∧ t ≤ 2880 := by
  obtain ⟨r, s, h0, h1, h2, h3, h4⟩ := h
  have := uR_rg hA h2
  omega
theorem wH_Sp {B : Int} (hA : OKA A B) (hp : 0 ≤ p0 ∧ p0 < 8) (ht : t0 ≤ 2880) {p t : Int} : wH A p0 t0 c0 w p t ↔ wS A p0 t0 c0 w t p t ∨ wC A p0 t0 c0 w p t := by
  constructor
  · intro h
    rcases wH_inv h with h | ⟨s, h1, h2⟩
    · exact Or.inl (Or.inl h)
    · by_cases hs : s = t
      · subst hs; exact Or.inr h1
      · have := h2.1
        exact Or.inl (Or.inr ⟨s, by omega, h1, h2⟩)
  · rintro ((⟨h1, h2⟩ | ⟨s, -, h1, h2⟩) | h)
    · subst h1; exact wH_start h2
    · exact wH_step h1 h2
    · have := wC_rg hA hp ht h
      have hl := hA.2.2.2.1 p this.2.1 this.2.2
      exact wH_step h ⟨Int.le_refl _, this.1.2, fun x x0 x1 => by omega, by omega⟩
theorem wS_succ {b p t : Int} : wS A p0 t0 c0 w (b + 1) p t ↔ wS A p0 t0 c0 w b p t ∨ (wC A p0 t0 c0 w p b ∧ zW A p b t) := by
  constructor
  · rintro (h | ⟨s, h0, h1, h2⟩)
    · exact Or.inl (Or.inl h)
    · by_cases hs : s = b
      · subst hs; exact Or.inr ⟨h1, h2⟩
      · exact Or.inl (Or.inr ⟨s, by omega, h1, h2⟩)
  · rintro ((h | ⟨s, h0, h1, h2⟩) | ⟨h1, h2⟩)
    · exact Or.inl h
    · exact Or.inr ⟨s, by omega, h1, h2⟩
    · exact Or.inr ⟨b, by omega, h1, h2⟩
theorem wS_first {B : Int} (hA : OKA A B) (hp : 0 ≤ p0 ∧ p0 < 8) (ht : t0 ≤ 2880) {b p t : Int} (hb : b ≤ t0 + 1) : wS A p0 t0 c0 w b p t ↔ p = p0 ∧ sT A p0 t0 c0 t := by
  constructor
  · rintro (h | ⟨s, h0, h1, h2⟩)
    · exact h
    · have := wC_rg hA hp ht h1
      omega
  · exact Or.inl
theorem wB_succ {b p t : Int} : wB A p0 t0 c0 w (b + 1) p t ↔ wB A p0 t0 c0 w b p t ∨ ∃ r, wH A p0 t0 c0 w (A (27 + 12 * r + 0)) b ∧ uR A w r b ∧ b + A (27 + 12 * r + 2) = t ∧ A (27 + 12 * r + 1) = p := by
  constructor
  · rintro ⟨r, s, h0, h1, h2, h3, h4⟩
    by_cases hs : s = b
    · subst hs; exact Or.inr ⟨r, h1, h2, h3, h4⟩
    · exact Or.inl ⟨r, s, by omega, h1, h2, h3, h4⟩
  · rintro (⟨r, s, h0, h1, h2, h3, h4⟩ | ⟨r, h1, h2, h3, h4⟩)
    · exact ⟨r, s, by omega, h1, h2, h3, h4⟩
    · exact ⟨r, b, by omega, h1, h2, h3, h4⟩
theorem wB_first {B : Int} (hA : OKA A B) (hp : 0 ≤ p0 ∧ p0 < 8) (ht : t0 ≤ 2880) {b p t : Int} (hb : b ≤ t0) : ¬ wB A p0 t0 c0 w b p t := by
  rintro ⟨r, s, h0, h1, h2, h3, h4⟩
  have := wH_rg hA hp ht h1
  omega
end WAYS
