/-! the fewest roads -/
def clN (A : Int → Int) (p0 t0 : Int) (R : Int → Int → Int → Prop) : Prop := R p0 t0 0 ∧ ∀ r s e n, R (A (27 + 12 * r + 0)) s n → zW A (A (27 + 12 * r + 0)) s e → uR A (-6) r e → R (A (27 + 12 * r + 1)) (e + A (27 + 12 * r + 2)) (n + 1)
/-- one comes to p at t just then, by n roads -/
def cN (A : Int → Int) (p0 t0 p t n : Int) : Prop := ∀ R, clN A p0 t0 R → R p t n
/-- one can be at p at t, by n roads -/
def dN (A : Int → Int) (p0 t0 p t n : Int) : Prop := ∃ s, cN A p0 t0 p s n ∧ zW A p s t
/-- one comes to p at t by n roads, the last of which is among D -/
def eD (A : Int → Int) (p0 t0 : Int) (D : Int → Int → Prop) (p t n : Int) : Prop := ∃ r e m, D r e ∧ dN A p0 t0 (A (27 + 12 * r + 0)) e m ∧ uR A (-6) r e ∧ e + A (27 + 12 * r + 2) = t ∧ A (27 + 12 * r + 1) = p ∧ n = m + 1
/-- v is the least, far if there is none -/
def lst (P : Int → Prop) (far v : Int) : Prop := (v = far ∧ ∀ n, ¬ P n) ∨ (v ≠ far ∧ P v ∧ ∀ n, P n → v ≤ n)
theorem lst_congr {P P' : Int → Prop} {far v : Int} (e : ∀ n, P n ↔ P' n) (h : lst P far v) : lst P' far v := by
  rcases h with ⟨h1, h2⟩ | ⟨h1, h2, h3⟩
  · exact Or.inl ⟨h1, fun n hn => h2 n ((e n).2 hn)⟩
  · exact Or.inr ⟨h1, (e v).1 h2, fun n hn => h3 n ((e n).2 hn)⟩
theorem lst_put {P D : Int → Prop} {far x b : Int} (h : lst P far x) (h1 : D b) (h2 : ∀ m, D m → b ≤ m) (h3 : b + 1 ≠ far) : lst (fun n => P n ∨ ∃ m, D m ∧ n = m + 1) far (if x = far ∨ b + 1 < x then b + 1 else x) := by
  rcases h with ⟨g1, g2⟩ | ⟨g1, g2, g3⟩
  · rw [if_pos (Or.inl g1)]
    refine Or.inr ⟨h3, Or.inr ⟨b, h1, rfl⟩, fun n hn => ?_⟩
    rcases hn with hn | ⟨m, hm, e⟩
    · exact absurd hn (g2 n)
    · have := h2 m hm; omega
  · by_cases c : b + 1 < x
    · rw [if_pos (Or.inr c)]
      refine Or.inr ⟨h3, Or.inr ⟨b, h1, rfl⟩, fun n hn => ?_⟩
      rcases hn with hn | ⟨m, hm, e⟩
      · have := g3 n hn; omega
      · have := h2 m hm; omega
    · rw [if_neg (fun hh => hh.elim g1 c)]
      refine Or.inr ⟨g1, Or.inl g2, fun n hn => ?_⟩
      rcases hn with hn | ⟨m, hm, e⟩
      · exact g3 n hn
      · have := h2 m hm; omega
theorem lst_or {P P' : Int → Prop} {far a b : Int} (h : lst P far a) (g : lst P' far b) (hp : ∀ n, P n → n < far) (hp' : ∀ n, P' n → n < far) : lst (fun n => P n ∨ P' n) far (if a ≤ b then a else b) := by
  rcases h with ⟨h1, h2⟩ | ⟨h1, h2, h3⟩ <;> rcases g with ⟨g1, g2⟩ | ⟨g1, g2, g3⟩
  · rw [if_pos (by omega)]
    exact Or.inl ⟨h1, fun n hn => hn.elim (h2 n) (g2 n)⟩
  · have := hp' b g2
    rw [if_neg (by omega)]
    exact Or.inr ⟨g1, Or.inr g2, fun n hn => hn.elim (fun c => absurd c (h2 n)) (g3 n)⟩
  · have := hp a h2
    rw [if_pos (by omega)]
    exact Or.inr ⟨h1, Or.inl h2, fun n hn => hn.elim (h3 n) (fun c => absurd c (g2 n))⟩
  · by_cases c : a ≤ b
    · rw [if_pos c]
      exact Or.inr ⟨h1, Or.inl h2, fun n hn => hn.elim (h3 n) (fun x => by have := g3 n x; omega)⟩
    · rw [if_neg c]
      exact Or.inr ⟨g1, Or.inr g2, fun n hn => hn.elim (fun x => by have := h3 n x; omega) (g3 n)⟩
section FEW
variable {A : Int → Int} {B p0 t0 : Int}
theorem cN_0 : cN A p0 t0 p0 t0 0 := fun _ hR => hR.1
theorem cN_step {D : Int → Int → Prop} {p t n : Int} (h : eD A p0 t0 D p t n) : cN A p0 t0 p t n := by
  obtain ⟨r, e, m, -, ⟨s, h1, h2⟩, h3, h4, h5, h6⟩ := h
  subst h4
  subst h5
  subst h6
  exact fun R hR => hR.2 r s e m (h1 R hR) h2 h3
theorem cN_inv {p t n : Int} (h : cN A p0 t0 p t n) : (p = p0 ∧ t = t0 ∧ n = 0) ∨ eD A p0 t0 (fun _ _ => True) p t n := by
  have := h (fun p t n => cN A p0 t0 p t n ∧ ((p = p0 ∧ t = t0 ∧ n = 0) ∨ eD A p0 t0 (fun _ _ => True) p t n)) ⟨⟨cN_0, Or.inl ⟨rfl, rfl, rfl⟩⟩, fun r s e n hs hz hu => ?_⟩
  · exact this.2
  · have hc : eD A p0 t0 (fun _ _ => True) (A (27 + 12 * r + 1)) (e + A (27 + 12 * r + 2)) (n + 1) := ⟨r, e, n, trivial, ⟨s, hs.1, hz⟩, hu, rfl, rfl, rfl⟩
    exact ⟨cN_step hc, Or.inr hc⟩
theorem cN_rg (hA : OKA A B) (hp : 0 ≤ p0 ∧ p0 < 8) (ht : t0 ≤ 2880) {p t n : Int} (h : cN A p0 t0 p t n) : (t0 ≤ t ∧ t ≤ 2880) ∧ (0 ≤ p ∧ p < 8) ∧ 0 ≤ n ∧ n ≤ t - t0 := by
  refine h (fun p t n => (t0 ≤ t ∧ t ≤ 2880) ∧ (0 ≤ p ∧ p < 8) ∧ 0 ≤ n ∧ n ≤ t - t0) ⟨⟨⟨Int.le_refl _, ht⟩, hp, by omega, by omega⟩, fun r s e n hs hz hu => ?_⟩
  have := uR_rg hA hu
  have h1 := hz.1
  refine ⟨by omega, this.2.1, by omega, by omega⟩
theorem dN_rg (hA : OKA A B) (hp : 0 ≤ p0 ∧ p0 < 8) (ht : t0 ≤ 2880) {p t n : Int} (h : dN A p0 t0 p t n) : (t0 ≤ t ∧ t ≤ 2880) ∧ (0 ≤ p ∧ p < 8) ∧ 0 ≤ n ∧ n ≤ t - t0 := by
  obtain ⟨s, h1, h2⟩ := h
  have := cN_rg hA hp ht h1
  have h3 := h2.1
  have h4 := h2.2.1
  refine ⟨by omega, this.2.1, by omega, by omega⟩
theorem eD_rg (hA : OKA A B) (hp : 0 ≤ p0 ∧ p0 < 8) (ht : t0 ≤ 2880) {D : Int → Int → Prop} {p t n : Int} (h : eD A p0 t0 D p t n) : (t0 < t ∧ t ≤ 2880) ∧ (0 ≤ p ∧ p < 8) ∧ 1 ≤ n ∧ n ≤ t - t0 := by
  obtain ⟨r, e, m, -, h1, h2, h3, h4, h5⟩ := h
  have := uR_rg hA h2
  have := dN_rg hA hp ht h1
  omega
theorem eD_mono {D D' : Int → Int → Prop} {p t n : Int} (e : ∀ r e, D r e → D' r e) (h : eD A p0 t0 D p t n) : eD A p0 t0 D' p t n := by
  obtain ⟨r, x, m, h0, h1⟩ := h
  exact ⟨r, x, m, e r x h0, h1⟩
/-- who comes at t has left before t -/
theorem eD_all (hA : OKA A B) {D D' : Int → Int → Prop} {p t n : Int} (e : ∀ r x, x < t → D r x → D' r x) (h : eD A p0 t0 D p t n) : eD A p0 t0 D' p t n := by
  obtain ⟨r, x, m, h0, h1, h2, h3, h4⟩ := h
  have := uR_rg hA h2
  exact ⟨r, x, m, e r x (by omega) h0, h1, h2, h3, h4⟩
theorem eD_far (hA : OKA A B) {b p t n : Int} (hb : b + 600 ≤ t) : ¬ eD A p0 t0 (fun _ e => e < b) p t n := by
  rintro ⟨r, x, m, h0, h1, h2, h3, h4⟩
  have := uR_rg hA h2
  omega
theorem cN_later (hA : OKA A B) {b p t n : Int} (h : t0 < t) (hb : t ≤ b) : cN A p0 t0 p t n ↔ eD A p0 t0 (fun _ e => e < b) p t n := by
  constructor
  · intro c
    rcases cN_inv c with ⟨-, h1, -⟩ | h1
    · omega
    · exact eD_all hA (fun r x hx _ => by omega) h1
  · exact cN_step
theorem eD_step {D : Int → Int → Prop} {v t p u n : Int} (hu : uR A (-6) v t) : eD A p0 t0 (fun r e => D r e ∨ (r = v ∧ e = t)) p u n ↔ eD A p0 t0 D p u n ∨ ((t + A (27 + 12 * v + 2) = u ∧ A (27 + 12 * v + 1) = p) ∧ ∃ m, dN A p0 t0 (A (27 + 12 * v + 0)) t m ∧ n = m + 1) := by
  constructor
  · rintro ⟨r, e, m, (h0 | ⟨rfl, rfl⟩), h1, h2, h3, h4, h5⟩
    · exact Or.inl ⟨r, e, m, h0, h1, h2, h3, h4, h5⟩
    · exact Or.inr ⟨⟨h3, h4⟩, m, h1, h5⟩
  · rintro (h | ⟨⟨h3, h4⟩, m, h1, h5⟩)
    · exact eD_mono (fun r e h => Or.inl h) h
    · exact ⟨v, t, m, Or.inr ⟨rfl, rfl⟩, h1, hu, h3, h4, h5⟩
/-- where nobody is nobody leaves -/
theorem eD_none {D : Int → Int → Prop} {v t p u n : Int} (hd : (∀ m, ¬ dN A p0 t0 (A (27 + 12 * v + 0)) t m) ∨ ¬ uR A (-6) v t) : eD A p0 t0 (fun r e => D r e ∨ (r = v ∧ e = t)) p u n ↔ eD A p0 t0 D p u n := by
  constructor
  · rintro ⟨r, e, m, (h0 | ⟨rfl, rfl⟩), h1, h2, h3, h4, h5⟩
    · exact ⟨r, e, m, h0, h1, h2, h3, h4, h5⟩
    · rcases hd with hd | hd
      · exact absurd h1 (hd m)
      · exact absurd h2 hd
  · exact eD_mono (fun r e h => Or.inl h)
theorem wE_mono (hA : OKA A B) {p s t : Int} (hp : 0 ≤ p ∧ p < 8) (s0 : 0 ≤ s) (st : s ≤ t) (t1 : t ≤ 2880) : wE A p s ≤ wE A p t := by
  have hr := hA.2.2.2.1 p hp.1 hp.2
  have h1 := wE_rg (A := A) (p := p) (s := t) (by omega) (by omega) (by omega) t1
  apply Classical.byContradiction
  intro hn
  have h2 := wE_rg (A := A) (p := p) (s := s) (by omega) (by omega) s0 (by omega)
  have h3 := (wE_iff (A := A) (p := p) (s := s) (u := wE A p s) (by omega) (by omega) s0 h2.1).1 (Int.le_refl _)
  have h4 := (wE_iff (A := A) (p := p) (s := t) (u := wE A p s) (by omega) (by omega) (by omega) (by omega)).2 ⟨by omega, h3.2.1, fun x x0 x1 => h3.2.2.1 x (by omega) x1, by have := h3.2.2.2; omega⟩
  omega
theorem wE_lim (hA : OKA A B) {p s : Int} (hp : 0 ≤ p ∧ p < 8) : wE A p s ≤ s + 1000 ∧ wE A p s ≤ 2880 := by
  have hr := hA.2.2.2.1 p hp.1 hp.2
  unfold wE
  omega
/-! the class's queues -/
def qu (σ : zM) (p i : Int) : Int := σ 75 (p * 1024 + i % 1024)
def QI (A : Int → Int) (p0 t0 : Int) (σ : zM) (p cT vT : Int) : Prop :=
  (0 ≤ σ 76 p ∧ σ 76 p ≤ σ 77 p ∧ σ 77 p ≤ cT - t0) ∧
  (∀ i, σ 76 p ≤ i → i < σ 77 p → ∃ s n, qu σ p i = n * 4096 + wE A p s ∧ cN A p0 t0 p s n ∧ s + (σ 77 p - i) ≤ cT ∧ vT ≤ wE A p s) ∧
  (∀ i j, σ 76 p ≤ i → i < j → j < σ 77 p → qu σ p i / 4096 < qu σ p j / 4096 ∧ qu σ p i % 4096 ≤ qu σ p j % 4096) ∧
  ∀ s n, s < cT → cN A p0 t0 p s n → vT ≤ wE A p s → ∃ i, (σ 76 p ≤ i ∧ i < σ 77 p) ∧ qu σ p i / 4096 ≤ n ∧ wE A p s ≤ qu σ p i % 4096
theorem QI_congr {σ σ' : zM} {p cT vT : Int} (e5 : ∀ i, p * 1024 ≤ i → i < p * 1024 + 1024 → σ' 75 i = σ 75 i) (e6 : σ' 76 p = σ 76 p) (e7 : σ' 77 p = σ 77 p) (h : QI A p0 t0 σ p cT vT) : QI A p0 t0 σ' p cT vT := by
  have eq : ∀ i, qu σ' p i = qu σ p i := fun i => e5 _ (by omega) (by omega)
  unfold QI at *
  rw [e6, e7]
  simp only [eq]
  exact h
theorem QI_weak {σ : zM} {p cT vT : Int} (hn : ∀ n, ¬ cN A p0 t0 p cT n) (h : QI A p0 t0 σ p cT vT) : QI A p0 t0 σ p (cT + 1) vT := by
  obtain ⟨ha, hb, hc, hd⟩ := h
  refine ⟨by omega, fun i i0 i1 => ?_, hc, fun s n hs hcn hv => ?_⟩
  · obtain ⟨s, n, h1, h2, h3, h4⟩ := hb i i0 i1
    exact ⟨s, n, h1, h2, by omega, h4⟩
  · by_cases hs' : s = cT
    · subst hs'; exact absurd hcn (hn n)
    · exact hd s n (by omega) hcn hv
theorem QI_0 (hA : OKA A B) (hp : 0 ≤ p0 ∧ p0 < 8) (ht : t0 ≤ 2880) {σ : zM} {p vT : Int} (h6 : σ 76 p = 0) (h7 : σ 77 p = 0) : QI A p0 t0 σ p t0 vT := by
  unfold QI
  rw [h6, h7]
  exact ⟨by omega, fun i i0 i1 => by omega, fun i j i0 ij j1 => by omega, fun s n hs hc _ => by have := cN_rg hA hp ht hc; omega⟩
theorem F_cell {σ : zM} {p u : Int} {Q : Int → Prop} (hp : 0 ≤ p ∧ p < 8) (u0 : 0 ≤ u) (u1 : u ≤ 100000) : wp_F_cell σ p u Q = Q (p * 1024 + u % 1024) := by
  unfold wp_F_cell
  rw [zAnd_ring u0 u1]
  exact zAnd_t (zRi (by omega) (by omega))
/-- what is in a queue -/
theorem qu_in (hA : OKA A B) (hp : 0 ≤ p0 ∧ p0 < 8) (ht0 : 0 ≤ t0 ∧ t0 ≤ 2880) {σ : zM} {p cT vT i : Int} (h : QI A p0 t0 σ p cT vT) (i0 : σ 76 p ≤ i) (i1 : i < σ 77 p) : ∃ s n, qu σ p i = n * 4096 + wE A p s ∧ qu σ p i / 4096 = n ∧ qu σ p i % 4096 = wE A p s ∧ cN A p0 t0 p s n ∧ s + (σ 77 p - i) ≤ cT ∧ vT ≤ wE A p s ∧ (0 ≤ wE A p s ∧ wE A p s ≤ 2880 ∧ wE A p s ≤ s + 1000) ∧ 0 ≤ n ∧ n ≤ 2880 ∧ t0 ≤ s := by
  obtain ⟨s, n, h1, h2, h3, h4⟩ := h.2.1 i i0 i1
  have hr := cN_rg hA hp ht0.2 h2
  have hq := hA.2.2.2.1 p hr.2.1.1 hr.2.1.2
  have hw := wE_lim hA (s := s) hr.2.1
  have hw2 := wE_rg (A := A) (p := p) (s := s) (by omega) (by omega) (by omega) (by omega)
  exact ⟨s, n, h1, by omega, by omega, h2, h3, h4, by omega, by omega, by omega, by omega⟩
def FrQ (p : Int) (σ σ' : zM) : Prop := (∀ n, n ≠ 75 → n ≠ 77 → σ' n = σ n) ∧ (∀ i, i < p * 1024 ∨ p * 1024 + 1024 ≤ i → σ' 75 i = σ 75 i) ∧ ∀ q, q ≠ p → σ' 77 q = σ 77 q
theorem F_push (hA : OKA A B) (hp : 0 ≤ p0 ∧ p0 < 8) (ht0 : 0 ≤ t0 ∧ t0 ≤ 2880) {σ : zM} {p t n : Int} {Q : zM → Prop} (hpp : 0 ≤ p ∧ p < 8) (ht : t0 ≤ t ∧ t ≤ 2880) (h : QI A p0 t0 σ p t (t - 1)) (hn : cN A p0 t0 p t n) (hl : ∀ m, cN A p0 t0 p t m → n ≤ m) (kk : ∀ σ', FrQ p σ σ' → QI A p0 t0 σ' p (t + 1) (t - 1) → Q σ') : wp_F_push σ p n (wE A p t) Q := by
  have hpr := hA.2.2.2.1 p hpp.1 hpp.2
  have hnr := cN_rg hA hp ht0.2 hn
  have hw := wE_rg (A := A) (p := p) (s := t) (by omega) (by omega) (by omega) ht.2
  have hin := fun i i0 i1 => qu_in hA hp ht0 h (i := i) i0 i1
  obtain ⟨ha, hb, hc, hd⟩ := h
  unfold wp_F_push
  refine ⟨hpp, ?_⟩
  refine zForD0 (fun l => (σ 76 p ≤ l ∧ l ≤ σ 77 p) ∧ ∀ i, l ≤ i → i < σ 77 p → n ≤ qu σ p i / 4096) (σ 76 p) ?_ (σ 77 p) ⟨⟨ha.2.1, Int.le_refl _⟩, fun i i0 i1 => by omega⟩ ha.2.1
  intro m l hI hlo ih
  obtain ⟨hlr, hbig⟩ := hI
  have fin : (∀ i, σ 76 p ≤ i → i < l → qu σ p i / 4096 < n) → wp_F_push_b46 Q σ p n (wE A p t) l := by
    intro hsm
    have hsz : l - σ 76 p ≤ 1010 := by
      by_cases hz : l ≤ σ 76 p
      · omega
      · obtain ⟨s, n', -, -, -, -, g1, g2, g3, -⟩ := hin (σ 76 p) (Int.le_refl _) (by omega)
        omega
    unfold wp_F_push_b46
    rw [F_cell hpp (by omega) (by omega)]
    refine ⟨by omega, zRi (by omega) (by omega), ?_⟩
    rintro _ rfl
    refine ⟨hpp, zRi (by omega) (by omega), ?_⟩
    rintro _ rfl
    have q7 : zU (zU σ 75 (p * 1024 + l % 1024) (n * 4096 + wE A p t)) 77 p (l + 1) 77 p = l + 1 := zU_s
    have q6 : zU (zU σ 75 (p * 1024 + l % 1024) (n * 4096 + wE A p t)) 77 p (l + 1) 76 p = σ 76 p := by rw [zU_n (by omega), zU_n (by omega)]
    have qn : qu (zU (zU σ 75 (p * 1024 + l % 1024) (n * 4096 + wE A p t)) 77 p (l + 1)) p l = n * 4096 + wE A p t := by
      unfold qu
      rw [zU_n (by omega), zU_s]
    have qo : ∀ i, σ 76 p ≤ i → i < l → qu (zU (zU σ 75 (p * 1024 + l % 1024) (n * 4096 + wE A p t)) 77 p (l + 1)) p i = qu σ p i := by
      intro i i0 i1
      unfold qu
      rw [zU_n (by omega), zU_j (by omega)]
    refine kk _ ⟨fun k h1 h2 => by rw [zU_n h2, zU_n h1], fun i hi => by rw [zU_n (by omega), zU_j (by omega)], fun q hq => by rw [zU_j hq, zU_n (by omega)]⟩ ?_
    unfold QI
    rw [q7, q6]
    refine ⟨by omega, fun i i0 i1 => ?_, fun i j i0 ij j1 => ?_, fun s n' hs hcn hv => ?_⟩
    · by_cases hil : i = l
      · subst hil
        exact ⟨t, n, qn, hn, by omega, by omega⟩
      · rw [qo i i0 (by omega)]
        obtain ⟨s, n', g1, g2, g3, g4⟩ := hb i i0 (by omega)
        exact ⟨s, n', g1, g2, by omega, g4⟩
    · by_cases hjl : j = l
      · subst hjl
        rw [qn, qo i i0 (by omega)]
        have h1 := hsm i i0 (by omega)
        obtain ⟨s, n', -, -, g2, g3, g4, -, g5, -, -, g6⟩ := hin i i0 (by omega)
        have := wE_mono hA (p := p) (s := s) (t := t) hpp (by omega) (by omega) ht.2
        omega
      · rw [qo i i0 (by omega), qo j (by omega) (by omega)]
        exact hc i j i0 ij (by omega)
    · have new : n ≤ n' → wE A p s ≤ wE A p t → ∃ i, (σ 76 p ≤ i ∧ i < l + 1) ∧ qu (zU (zU σ 75 (p * 1024 + l % 1024) (n * 4096 + wE A p t)) 77 p (l + 1)) p i / 4096 ≤ n' ∧ wE A p s ≤ qu (zU (zU σ 75 (p * 1024 + l % 1024) (n * 4096 + wE A p t)) 77 p (l + 1)) p i % 4096 := fun h1 h2 => ⟨l, by omega, by rw [qn]; omega, by rw [qn]; omega⟩
      by_cases hst : s = t
      · subst hst
        exact new (hl n' hcn) (Int.le_refl _)
      · obtain ⟨i, i0, g1, g2⟩ := hd s n' (by omega) hcn hv
        by_cases hil : i < l
        · exact ⟨i, by omega, by rw [qo i i0.1 hil]; exact g1, by rw [qo i i0.1 hil]; exact g2⟩
        · have := hbig i (by omega) i0.2
          have hs0 := cN_rg hA hp ht0.2 hcn
          exact new (by omega) (wE_mono hA hpp (by omega) (by omega) ht.2)
  rw [wp_F_push_L8]
  refine ⟨hpp, fun c => fin (fun i i0 i1 => by omega), fun c => ⟨zRi (by omega) (by omega), ?_⟩⟩
  rw [F_cell hpp (by omega) (by omega)]
  have hq : σ 75 (p * 1024 + (l - 1) % 1024) = qu σ p (l - 1) := rfl
  rw [hq]
  obtain ⟨s, n', g0, g1, g2, g3, -, -, g5, g6, -⟩ := hin (l - 1) (by omega) (by omega)
  refine ⟨by omega, by omega, fun c1 => fin (fun i i0 i1 => ?_), fun c1 => ⟨zRi (by omega) (by omega), ih ⟨by omega, fun i i0 i1 => ?_⟩ (by omega)⟩⟩
  · by_cases hil : i = l - 1
    · subst hil; exact c1
    · have := (hc i (l - 1) i0 (by omega) (by omega)).1
      omega
  · by_cases hil : i = l - 1
    · subst hil; omega
    · exact hbig i (by omega) i1
def FrH (p : Int) (σ σ' : zM) : Prop := (∀ n, n ≠ 76 → σ' n = σ n) ∧ ∀ q, q ≠ p → σ' 76 q = σ 76 q
theorem F_bestAt (hA : OKA A B) (hp : 0 ≤ p0 ∧ p0 < 8) (ht0 : 0 ≤ t0 ∧ t0 ≤ 2880) {σ : zM} {p t : Int} {Q : Int → zM → Prop} (hpp : 0 ≤ p ∧ p < 8) (ht : t0 ≤ t ∧ t ≤ 2880) (h : QI A p0 t0 σ p (t + 1) (t - 1)) (kk : ∀ res σ', FrH p σ σ' → QI A p0 t0 σ' p (t + 1) t → lst (dN A p0 t0 p t) (-6) res → Q res σ') : wp_F_bestAt σ p t Q := by
  have hpr := hA.2.2.2.1 p hpp.1 hpp.2
  have hin := fun i i0 i1 => qu_in hA hp ht0 h (i := i) i0 i1
  obtain ⟨ha, hb, hc, hd⟩ := h
  unfold wp_F_bestAt
  refine ⟨hpp, ?_⟩
  refine zFor0 (fun f => (σ 76 p ≤ f ∧ f ≤ σ 77 p) ∧ ∀ i, σ 76 p ≤ i → i < f → qu σ p i % 4096 < t) (σ 77 p) ?_ (σ 76 p) ⟨⟨Int.le_refl _, ha.2.1⟩, fun i i0 i1 => by omega⟩ ha.2.1
  intro m f hI hf ih
  obtain ⟨hfr, hold⟩ := hI
  -- one who is there at t
  have there : ∀ n, dN A p0 t0 p t n → ∃ i, (f ≤ i ∧ i < σ 77 p) ∧ qu σ p i / 4096 ≤ n := by
    rintro n ⟨s, h1, h2⟩
    have hs := cN_rg hA hp ht0.2 h1
    have hw := (wE_iff (A := A) (p := p) (by omega) (by omega) (by omega) h2.1).2 h2
    have := h2.1
    obtain ⟨i, i0, g1, g2⟩ := hd s n (by omega) h1 (by omega)
    refine ⟨i, ⟨?_, i0.2⟩, g1⟩
    apply Classical.byContradiction
    intro hlt
    have := hold i i0.1 (by omega)
    omega
  have fin : (σ 77 p ≤ f ∨ t ≤ qu σ p f % 4096) → wp_F_bestAt_b41 Q σ p f := by
    intro hex
    have hall : ∀ i, f ≤ i → i < σ 77 p → t ≤ qu σ p i % 4096 := by
      intro i i0 i1
      rcases hex with hex | hex
      · omega
      · by_cases hif : i = f
        · subst hif; exact hex
        · have := (hc f i hfr.1 (by omega) i1).2; omega
    unfold wp_F_bestAt_b41
    refine ⟨hpp, ?_⟩
    rintro _ rfl
    have e75 : ∀ i, qu (zU σ 76 p f) p i = qu σ p i := fun i => by unfold qu; rw [zU_n (by omega)]
    have e77 : zU σ 76 p f 77 p = σ 77 p := by rw [zU_n (by omega)]
    have e76 : zU σ 76 p f 76 p = f := zU_s
    have hQI : QI A p0 t0 (zU σ 76 p f) p (t + 1) t := by
      unfold QI
      rw [e77, e76]
      simp only [e75]
      refine ⟨by omega, fun i i0 i1 => ?_, fun i j i0 ij j1 => hc i j (by omega) ij j1, fun s n hs hcn hv => ?_⟩
      · obtain ⟨s, n, g1, -, g2, g3, g4, -⟩ := hin i (by omega) i1
        have := hall i i0 i1
        exact ⟨s, n, g1, g3, g4, by omega⟩
      · obtain ⟨i, i0, g1, g2⟩ := hd s n hs hcn (by omega)
        refine ⟨i, ⟨?_, i0.2⟩, g1, g2⟩
        apply Classical.byContradiction
        intro hlt
        have := hold i i0.1 (by omega)
        omega
    have hfrm : FrH p σ (zU σ 76 p f) := ⟨fun n hn => zU_n hn, fun q hq => zU_j hq⟩
    rw [e77]
    refine ⟨hpp, fun c => kk (-6) _ hfrm hQI (Or.inl ⟨rfl, fun n hn => ?_⟩), fun c => ?_⟩
    · obtain ⟨i, i0, -⟩ := there n hn
      omega
    · rw [F_cell hpp (by omega) (by omega)]
      have hq : zU σ 76 p f 75 (p * 1024 + f % 1024) = qu σ p f := e75 f
      rw [hq]
      obtain ⟨s, n, g0, g1, g2, g3, g4, -, g5, g6, -, g7⟩ := hin f hfr.1 (by omega)
      have hzw := (wE_iff (A := A) (p := p) (s := s) (u := t) (by omega) (by omega) (by omega) (by omega)).1 (by have := hall f (Int.le_refl _) (by omega); omega)
      refine ⟨by omega, by omega, kk _ _ hfrm hQI (Or.inr ⟨by omega, ⟨s, by rw [g1]; exact g3, hzw⟩, fun m hm => ?_⟩)⟩
      obtain ⟨i, i0, g8⟩ := there m hm
      by_cases hif : i = f
      · subst hif; exact g8
      · have := (hc f i hfr.1 (by omega) i0.2).1
        omega
  rw [wp_F_bestAt_L7]
  refine ⟨hpp, fun c => fin (Or.inl c), fun c => ?_⟩
  rw [F_cell hpp (by omega) (by omega)]
  have hq : σ 75 (p * 1024 + f % 1024) = qu σ p f := rfl
  rw [hq]
  obtain ⟨s, n', g0, g1, g2, g3, -, -, g5, g6, -⟩ := hin f hfr.1 (by omega)
  refine ⟨by omega, by omega, fun c1 => fin (Or.inr c1), fun c1 => ⟨zRi (by omega) (by omega), ih ⟨by omega, fun i i0 i1 => ?_⟩ (by omega)⟩⟩
  by_cases hif : i = f
  · subst hif; omega
  · exact hold i i0 (by omega)
/-! the class's minute -/
/-- the ring of those who will come -/
def CI (A : Int → Int) (p0 t0 : Int) (D : Int → Int → Prop) (σ : zM) (lo hi : Int) : Prop := ∀ p u, 0 ≤ p → p < 8 → lo ≤ u → u < hi → lst (eD A p0 t0 D p u) 0 (σ 74 (p * 1024 + u % 1024))
def FrF (σ σ' : zM) : Prop := ∀ n, n < 73 ∨ 79 ≤ n → σ' n = σ n
theorem FrF_rfl (σ : zM) : FrF σ σ := fun _ _ => rfl
theorem FrF_trans {a b c : zM} (h : FrF a b) (g : FrF b c) : FrF a c := fun n hn => (g n hn).trans (h n hn)
theorem FrF_RX {a b : zM} (h : FrF a b) (hR : RX a 0 A) : RX b 0 A := RX_congr (fun n h1 h2 => h n (by omega)) hR
theorem F_leave (hA : OKA A B) (hp : 0 ≤ p0 ∧ p0 < 8) (ht0 : 0 ≤ t0 ∧ t0 ≤ 2880) {σ : zM} {v t : Int} {D : Int → Int → Prop} {Q : zM → Prop} (hR : RX σ 0 A) (ht : t0 ≤ t ∧ t ≤ 2880) (hb : ∀ p, 0 ≤ p → p < 8 → lst (dN A p0 t0 p t) (-6) (σ 78 p)) (hu : uR A (-6) v t) (hC : CI A p0 t0 D σ (t + 1) (t + 1025)) (kk : ∀ σ', (∀ n, n ≠ 74 → σ' n = σ n) → CI A p0 t0 (fun r e => D r e ∨ (r = v ∧ e = t)) σ' (t + 1) (t + 1025) → Q σ') : wp_F_leave σ v t Q := by
  have hb0 := hA.1
  have hv := hu.1
  have hr := hA.2.2.2.2.1 v hv.1 hv.2
  have hr0 := hr.1
  have hr1 := hr.2.1
  have hr2 := hr.2.2.1
  have hur := uR_rg hA hu
  have hbv := hb _ hr0.1 hr0.2
  unfold wp_F_leave
  rw [S_ofR' hR hv.1 hv.2 hb0.2 (by omega) (by omega)]
  have hbr : -6 ≤ σ 78 (A (27 + 12 * v + 0)) ∧ σ 78 (A (27 + 12 * v + 0)) ≤ 2880 := by
    rcases hbv with ⟨h1, -⟩ | ⟨-, h2, -⟩
    · omega
    · have := dN_rg hA hp ht0.2 h2; omega
  refine ⟨hr0, zRi (by omega) (by omega), fun c1 => ?_, fun c1 => ?_⟩
  rotate_left
  · rcases hbv with ⟨h1, h2⟩ | ⟨-, h2, -⟩
    · exact kk σ (fun _ _ => rfl) (fun p u p0' p1 u0 u1 => lst_congr (fun n => (eD_none (Or.inl h2)).symm) (hC p u p0' p1 u0 u1))
    · have := dN_rg hA hp ht0.2 h2; omega
  rcases hbv with ⟨h1, h2⟩ | ⟨h1, h2, h3⟩
  · omega
  rw [S_ofR' hR hv.1 hv.2 hb0.2 (by omega) (by omega), S_ofR' hR hv.1 hv.2 hb0.2 (by omega) (by omega)]
  refine ⟨zRi (by omega) (by omega), ?_⟩
  rw [F_cell hr1 (by omega) (by omega)]
  have hold := hC (A (27 + 12 * v + 1)) (t + A (27 + 12 * v + 2)) hr1.1 hr1.2 (by omega) (by omega)
  have hput := lst_put hold h2 h3 (by omega)
  -- the ring with the new value
  have res : ∀ σ', (∀ n, n ≠ 74 → σ' n = σ n) → (∀ i, i ≠ A (27 + 12 * v + 1) * 1024 + (t + A (27 + 12 * v + 2)) % 1024 → σ' 74 i = σ 74 i) → σ' 74 (A (27 + 12 * v + 1) * 1024 + (t + A (27 + 12 * v + 2)) % 1024) = (if σ 74 (A (27 + 12 * v + 1) * 1024 + (t + A (27 + 12 * v + 2)) % 1024) = 0 ∨ σ 78 (A (27 + 12 * v + 0)) + 1 < σ 74 (A (27 + 12 * v + 1) * 1024 + (t + A (27 + 12 * v + 2)) % 1024) then σ 78 (A (27 + 12 * v + 0)) + 1 else σ 74 (A (27 + 12 * v + 1) * 1024 + (t + A (27 + 12 * v + 2)) % 1024)) → Q σ' := by
    intro σ' f1 f2 f3
    refine kk σ' f1 (fun p u p0' p1 u0 u1 => ?_)
    by_cases hpu : p = A (27 + 12 * v + 1) ∧ u = t + A (27 + 12 * v + 2)
    · obtain ⟨rfl, rfl⟩ := hpu
      rw [f3]
      exact lst_congr (fun n => by rw [eD_step hu]; simp) hput
    · rw [f2 _ (fun hh => hpu (by omega))]
      refine lst_congr (fun n => ?_) (hC p u p0' p1 u0 u1)
      rw [eD_step hu]
      exact ⟨Or.inl, fun hh => hh.elim id (fun hh => absurd ⟨hh.1.2.symm, hh.1.1.symm⟩ hpu)⟩
  generalize hx : A (27 + 12 * v + 1) * 1024 + (t + A (27 + 12 * v + 2)) % 1024 = x at res ⊢
  have put : (σ 74 x = 0 ∨ σ 78 (A (27 + 12 * v + 0)) + 1 < σ 74 x) → wp_F_leave_b62 Q σ (σ 78 (A (27 + 12 * v + 0)) + 1) x := by
    intro hc
    refine ⟨by omega, ?_⟩
    rintro _ rfl
    exact res _ (fun n hn => zU_n hn) (fun i hi => zU_j hi) (by rw [zU_s, if_pos hc])
  exact ⟨by omega, fun c2 => put (Or.inl c2), fun c2 => ⟨by omega, fun c3 => res σ (fun _ _ => rfl) (fun _ _ => rfl) (by rw [if_neg (by omega)]), fun c3 => put (Or.inr (by omega))⟩⟩
/-- before the minute t -/
def FI (A : Int → Int) (p0 t0 : Int) (σ : zM) (t : Int) : Prop := CI A p0 t0 (fun _ e => e < t) σ t (t + 1024) ∧ ∀ p, 0 ≤ p → p < 8 → QI A p0 t0 σ p (if t = t0 then t0 + 1 else t) (t - 1)
theorem F_minute (hA : OKA A B) (hp : 0 ≤ p0 ∧ p0 < 8) (ht0 : 0 ≤ t0 ∧ t0 ≤ 2880) {σ : zM} {us t : Int} {Q : zM → Prop} (hR : RX σ 0 A) (ht : t0 ≤ t ∧ t ≤ 2880) (hu : ∀ r, 0 ≤ r → r < A 0 → (zB us r = true ↔ uR A (-6) r t)) (hI : FI A p0 t0 σ t) (kk : ∀ σ', FrF σ σ' → FI A p0 t0 σ' (t + 1) → Q σ') : wp_F_minute σ us t Q := by
  have hb0 := hA.1
  unfold wp_F_minute
  -- the places
  refine zFor (fun σ' v => 0 ≤ v ∧ FrF σ σ' ∧ (∀ p u, 0 ≤ p → p < 8 → t ≤ u → u < t + 1024 → lst (eD A p0 t0 (fun _ e => e < t) p (if p < v ∧ u = t then t + 1024 else u)) 0 (σ' 74 (p * 1024 + u % 1024))) ∧ (∀ p, 0 ≤ p → p < v → QI A p0 t0 σ' p (t + 1) t ∧ lst (dN A p0 t0 p t) (-6) (σ' 78 p)) ∧ ∀ p, v ≤ p → p < 8 → QI A p0 t0 σ' p (if t = t0 then t0 + 1 else t) (t - 1)) 8 ?_ σ 0 ⟨by omega, FrF_rfl σ, fun p u p0' p1 u0 u1 => ?_, fun p p0' p1 => by omega, fun p p0' p1 => hI.2 p p0' p1⟩ (by omega)
  rotate_left
  · rw [if_neg (by omega)]; exact hI.1 p u p0' p1 u0 u1
  intro m σ' v hI1 hv ih
  obtain ⟨v0, fr, hci, hdone, htodo⟩ := hI1
  have hR' := FrF_RX fr hR
  rw [wp_F_minute_L3]
  refine ⟨fun c => ?_, fun c => ?_⟩
  · -- the roads
    have ev : v = 8 := by omega
    subst ev
    have ci0 : CI A p0 t0 (fun r e => e < t ∨ (e = t ∧ r < 0)) σ' (t + 1) (t + 1025) := by
      intro p u p0' p1 u0 u1
      by_cases hut : u = t + 1024
      · subst hut
        have := hci p t p0' p1 (Int.le_refl _) (by omega)
        rw [if_pos ⟨p1, rfl⟩] at this
        rw [show (t + 1024) % 1024 = t % 1024 by omega]
        refine lst_congr (fun n => ⟨eD_mono (fun r e h => Or.inl h), fun h => ?_⟩) this
        obtain ⟨r, e, m, h0, h1⟩ := h
        exact ⟨r, e, m, by have := h1.2.1.1; omega, h1⟩
      · have := hci p u p0' p1 (by omega) (by omega)
        rw [if_neg (by omega)] at this
        refine lst_congr (fun n => ⟨eD_mono (fun r e h => Or.inl h), fun h => ?_⟩) this
        obtain ⟨r, e, m, h0, h1⟩ := h
        exact ⟨r, e, m, by have := h1.2.1.1; omega, h1⟩
    refine zFor (fun σ2 w => 0 ≤ w ∧ (∀ n, n ≠ 74 → σ2 n = σ' n) ∧ CI A p0 t0 (fun r e => e < t ∨ (e = t ∧ r < w)) σ2 (t + 1) (t + 1025)) (A 0) ?_ σ' 0 ⟨by omega, fun _ _ => rfl, ci0⟩ (by omega)
    intro m2 σ2 w hI2 hw ih2
    obtain ⟨w0, f2, c2⟩ := hI2
    have hR2 : RX σ2 0 A := RX_congr (fun n h1 h2 => f2 n (by omega)) hR'
    rw [wp_F_minute_L79, hR2.1.1]
    have dstep : ∀ D : Int → Int → Prop, (∀ r e, D r e ↔ (e < t ∨ (e = t ∧ r < w)) ∨ (r = w ∧ e = t)) → ∀ r e, D r e ↔ (e < t ∨ (e = t ∧ r < w + 1)) := by
      intro D hD r e
      rw [hD r e]
      omega
    refine ⟨fun c3 => kk σ2 (fun n hn => (f2 n (by omega)).trans (fr n hn)) ⟨fun p u p0' p1 u0 u1 => ?_, fun p p0' p1 => ?_⟩, fun c3 => ?_⟩
    · refine lst_congr (fun n => ⟨fun h => ?_, fun h => ?_⟩) (c2 p u p0' p1 u0 (by omega))
      · exact eD_mono (fun r e h => by omega) h
      · obtain ⟨r, e, m, h0, h1, h2, h3⟩ := h
        exact ⟨r, e, m, by have := h2.1; omega, h1, h2, h3⟩
    · rw [if_neg (by omega), show t + 1 - 1 = t by omega]
      exact QI_congr (fun i _ _ => by rw [f2 75 (by omega)]) (by rw [f2 76 (by omega)]) (by rw [f2 77 (by omega)]) (hdone p p0' p1).1
    · rw [X_has w0 (by omega)]
      have huw := hu w w0 (by omega)
      refine ⟨fun c4 => ⟨zRi (by omega) (by omega), ih2 σ2 ⟨by omega, f2, fun p u p0' p1 u0 u1 => ?_⟩ (by omega)⟩, fun c4 => ?_⟩
      · rw [zIf1, huw] at c4
        refine lst_congr (fun n => ?_) (c2 p u p0' p1 u0 u1)
        rw [← eD_none (D := fun r e => e < t ∨ (e = t ∧ r < w)) (v := w) (t := t) (Or.inr c4)]
        constructor
        · exact eD_mono (fun r e h => by omega)
        · exact eD_mono (fun r e h => by omega)
      · rw [zIf1, Classical.not_not, huw] at c4
        refine F_leave hA hp ht0 hR2 ht (fun p p0' p1 => by rw [f2 78 (by omega)]; exact (hdone p p0' p1).2) c4 c2 (fun σ3 f3 c5 => ⟨zRi (by omega) (by omega), ih2 σ3 ⟨by omega, fun n hn => (f3 n hn).trans (f2 n hn), fun p u p0' p1 u0 u1 => ?_⟩ (by omega)⟩)
        refine lst_congr (fun n => ?_) (c5 p u p0' p1 u0 u1)
        constructor
        · exact eD_mono (fun r e h => by omega)
        · exact eD_mono (fun r e h => by omega)
  · -- a place
    have hvp : 0 ≤ v ∧ v < 8 := ⟨v0, by omega⟩
    have hq := htodo v (Int.le_refl _) (by omega)
    have hcv := hci v t v0 (by omega) (Int.le_refl _) (by omega)
    rw [if_neg (by omega)] at hcv
    rw [F_cell hvp (by omega) (by omega)]
    -- behind the push
    have b56 : ∀ σ4, FrF σ σ4 → (∀ i, i ≠ v * 1024 + t % 1024 → σ4 74 i = σ' 74 i) → σ4 74 (v * 1024 + t % 1024) = 0 → (∀ p, 0 ≤ p → p < 8 → p ≠ v → ∀ cT vT, QI A p0 t0 σ' p cT vT → QI A p0 t0 σ4 p cT vT) → σ4 78 = σ' 78 → QI A p0 t0 σ4 v (t + 1) (t - 1) → wp_F_minute_b56 us t (wp_F_minute_L3 us t (fun σ16 => ∃ n22, wp_F_minute_L79 us t Q n22 σ16 0) Q m) Q σ4 v := by
      intro σ4 f4 o4 z4 q4 e78 qi4
      unfold wp_F_minute_b56
      refine F_bestAt hA hp ht0 hvp ht qi4 (fun res σ5 f5 qi5 hl => ⟨hvp, ?_⟩)
      rintro _ rfl
      refine ⟨zRi (by omega) (by omega), ih _ ⟨by omega, fun n hn => by rw [zU_n (by omega), f5.1 n (by omega)]; exact f4 n hn, fun p u p0' p1 u0 u1 => ?_, fun p p0' p1 => ?_, fun p p0' p1 => ?_⟩ (by omega)⟩
      · rw [zU_n (by omega), f5.1 74 (by omega)]
        by_cases hpu : p = v ∧ u = t
        · obtain ⟨rfl, rfl⟩ := hpu
          rw [z4, if_pos ⟨by omega, rfl⟩]
          exact Or.inl ⟨rfl, fun n => eD_far hA (by omega)⟩
        · rw [o4 _ (fun hh => hpu (by omega))]
          have := hci p u p0' p1 u0 u1
          by_cases hlt : p < v ∧ u = t
          · rw [if_pos hlt] at this; rw [if_pos ⟨by omega, hlt.2⟩]; exact this
          · rw [if_neg hlt] at this; rw [if_neg (by omega)]; exact this
      · by_cases hpv : p = v
        · subst hpv
          exact ⟨QI_congr (fun i _ _ => by rw [zU_n (by omega)]) (by rw [zU_n (by omega)]) (by rw [zU_n (by omega)]) qi5, by rw [zU_s]; exact hl⟩
        · have := hdone p p0' (by omega)
          refine ⟨QI_congr (σ := σ4) (fun i _ _ => by rw [zU_n (by omega), f5.1 75 (by omega)]) (by rw [zU_n (by omega), f5.2 p hpv]) (by rw [zU_n (by omega), f5.1 77 (by omega)]) (q4 p p0' (by omega) hpv _ _ this.1), ?_⟩
          rw [zU_j hpv, f5.1 78 (by omega), e78]
          exact this.2
      · have := htodo p (by omega) p1
        exact QI_congr (σ := σ4) (fun i _ _ => by rw [zU_n (by omega), f5.1 75 (by omega)]) (by rw [zU_n (by omega), f5.2 p (by omega)]) (by rw [zU_n (by omega), f5.1 77 (by omega)]) (q4 p (by omega) p1 (by omega) _ _ this)
    refine ⟨by omega, fun c1 => ?_, fun c1 => ⟨by omega, ?_⟩⟩
    · -- nobody comes
      have hno : ∀ n, ¬ eD A p0 t0 (fun _ e => e < t) v t n := by
        rcases hcv with ⟨h1, h2⟩ | ⟨h1, h2, h3⟩
        · exact h2
        · have := eD_rg hA hp ht0.2 h2; omega
      have hz : σ' 74 (v * 1024 + t % 1024) = 0 := by
        rcases hcv with ⟨h1, h2⟩ | ⟨h1, h2, h3⟩
        · exact h1
        · have := eD_rg hA hp ht0.2 h2; omega
      refine b56 σ' fr (fun _ _ => rfl) hz (fun p _ _ _ cT vT h => h) rfl ?_
      by_cases htt : t = t0
      · rw [if_pos htt] at hq
        subst htt; exact hq
      · rw [if_neg htt] at hq
        exact QI_weak (fun n hc => hno n ((cN_later hA (by omega) (Int.le_refl _)).1 hc)) hq
    · -- one comes
      rcases hcv with ⟨h1, h2⟩ | ⟨h1, h2, h3⟩
      · omega
      have hrg := eD_rg hA hp ht0.2 h2
      have htt : ¬ t = t0 := by omega
      rw [if_neg htt] at hq
      refine S_waitEnd hR' hA v0 (by omega) (by omega) ht.2 ?_
      refine F_push hA hp ht0 hvp ht hq (cN_step h2) (fun n hn => h3 n ((cN_later hA (by omega) (Int.le_refl _)).1 hn)) (fun σ5 f5 q5 => ⟨by omega, ?_⟩)
      rintro _ rfl
      refine b56 _ (fun n hn => by rw [zU_n (by omega), f5.1 n (by omega) (by omega)]; exact fr n hn) (fun i hi => by rw [zU_j hi, f5.1 74 (by omega) (by omega)]) zU_s (fun p p0' p1 hpv cT vT h => ?_) (by rw [zU_n (by omega), f5.1 78 (by omega) (by omega)]) ?_
      · exact QI_congr (fun i i0 i1 => by rw [zU_n (by omega), f5.2.1 i (by omega)]) (by rw [zU_n (by omega), f5.1 76 (by omega) (by omega)]) (by rw [zU_n (by omega), f5.2.2 p hpv]) h
      · exact QI_congr (fun i i0 i1 => by rw [zU_n (by omega)]) (by rw [zU_n (by omega)]) (by rw [zU_n (by omega)]) q5
theorem F_start (hA : OKA A B) (hp : 0 ≤ p0 ∧ p0 < 8) (ht0 : 0 ≤ t0 ∧ t0 ≤ 2880) {σ : zM} {Q : zM → Prop} (kk : ∀ σ', FrF σ σ' → FI A p0 t0 σ' t0 → Q σ') : wp_F_start σ p0 (wE A p0 t0) Q := by
  unfold wp_F_start
  rintro _ rfl _ rfl _ rfl
  have e6 : ∀ p, 0 ≤ p → p < 8 → zFl (zFl (zFl σ 74 0 8192 0) 76 0 8 0) 77 0 8 0 76 p = 0 := fun p p0' p1 => by rw [zFl_n (by omega), zFl_g, if_pos (by omega)]
  have e7 : ∀ p, 0 ≤ p → p < 8 → zFl (zFl (zFl σ 74 0 8192 0) 76 0 8 0) 77 0 8 0 77 p = 0 := fun p p0' p1 => by rw [zFl_g, if_pos (by omega)]
  have q0 : ∀ p vT, 0 ≤ p → p < 8 → QI A p0 t0 (zFl (zFl (zFl σ 74 0 8192 0) 76 0 8 0) 77 0 8 0) p t0 vT := fun p vT p0' p1 => QI_0 hA hp ht0.2 (e6 p p0' p1) (e7 p p0' p1)
  refine F_push hA hp ht0 hp ⟨Int.le_refl _, ht0.2⟩ (q0 p0 _ hp.1 hp.2) cN_0 (fun m hm => (cN_rg hA hp ht0.2 hm).2.2.1) (fun σ4 f4 q4 => kk σ4 (fun n hn => by rw [f4.1 n (by omega) (by omega), zFl_n (by omega), zFl_n (by omega), zFl_n (by omega)]) ⟨fun p u p0' p1 u0 u1 => ?_, fun p p0' p1 => ?_⟩)
  · rw [f4.1 74 (by omega) (by omega), zFl_n (by omega), zFl_n (by omega), zFl_g, if_pos (by omega)]
    refine Or.inl ⟨rfl, fun n => ?_⟩
    rintro ⟨r, e, m, h0, h1, -⟩
    have := dN_rg hA hp ht0.2 h1
    omega
  · rw [if_pos rfl]
    by_cases hpp : p = p0
    · subst hpp; exact q4
    · refine QI_weak (fun n hc => ?_) (QI_congr (fun i i0 i1 => f4.2.1 i (by omega)) (by rw [f4.1 76 (by omega) (by omega)]) (f4.2.2 p hpp) (q0 p (t0 - 1) p0' p1))
      rcases cN_inv hc with h1 | h1
      · exact hpp h1.1
      · have := eD_rg hA hp ht0.2 h1; omega
/-- all of it -/
theorem X_fewestRoads (hA : OKA A B) (hp : 0 ≤ p0 ∧ p0 < 8) (ht0 : 0 ≤ t0 ∧ t0 ≤ 2880) {σ : zM} {to by' : Int} {Q : Int → zM → Prop} (hR : RX σ 0 A) (hT : GTab σ A) (hto : 0 ≤ to ∧ to < 8) (hb : t0 < by' ∧ by' ≤ 2880) (kk : ∀ res σ', FrF σ σ' → lst (cN A p0 t0 to by') 0 res → Q res σ') : wp_X_fewestRoads σ p0 to t0 by' Q := by
  have hb0 := hA.1
  unfold wp_X_fewestRoads
  refine S_waitEnd hR hA hp.1 hp.2 ht0.1 ht0.2 ?_
  refine F_start hA hp ht0 (fun σ1 f1 i1 => ?_)
  refine zFor (fun σ' t => t0 ≤ t ∧ FrF σ σ' ∧ FI A p0 t0 σ' t) by' ?_ σ1 t0 ⟨Int.le_refl _, f1, i1⟩ (by omega)
  intro m σ' t hI ht ih
  obtain ⟨tt, fr, fi⟩ := hI
  rw [wp_X_fewestRoads_L20]
  refine ⟨fun c => ?_, fun c => ?_⟩
  · have et : t = by' := by omega
    subst et
    unfold wp_F_comingTo
    rw [F_cell hto (by omega) (by omega)]
    refine ⟨by omega, kk _ σ' fr ?_⟩
    exact lst_congr (fun n => (cN_later hA hb.1 (Int.le_refl _)).symm) (fi.1 to t hto.1 hto.2 (Int.le_refl _) (by omega))
  · rw [G_at (by omega) (by omega)]
    refine F_minute hA hp ht0 (FrF_RX fr hR) ⟨tt, by omega⟩ (fun r r0 r1 => ?_) fi (fun σ2 f2 i2 => ⟨zRi (by omega) (by omega), ih σ2 ⟨by omega, FrF_trans fr f2, i2⟩ (by omega)⟩)
    rw [fr 63 (by omega), hT t (by omega) (by omega) r r0 (by omega)]
    exact ⟨fun hh => ⟨⟨r0, r1⟩, by omega, hh.2⟩, fun hh => ⟨r1, hh.2.2⟩⟩
end FEW
