/-! the reference spreads -/
def FrS (τ τ' : zM) : Prop := ∀ n, n ≠ 85 → n ≠ 86 → n ≠ 89 → τ' n = τ n
theorem FrS_rfl (τ : zM) : FrS τ τ := fun _ _ _ _ => rfl
theorem FrS_trans {a b c : zM} (h : FrS a b) (g : FrS b c) : FrS a c := fun n h1 h2 h3 => (g n h1 h2 h3).trans (h n h1 h2 h3)
theorem FrS_U5 {a b : zM} {j v : Int} (h : FrS a b) : FrS a (zU b 85 j v) := fun n h1 h2 h3 => by rw [zU_n h1]; exact h n h1 h2 h3
theorem FrS_U6 {a b : zM} {j v : Int} (h : FrS a b) : FrS a (zU b 86 j v) := fun n h1 h2 h3 => by rw [zU_n h2]; exact h n h1 h2 h3
theorem FrS_U9 {a b : zM} {j v : Int} (h : FrS a b) : FrS a (zU b 89 j v) := fun n h1 h2 h3 => by rw [zU_n h3]; exact h n h1 h2 h3
section SPR
/-- the time of the latest coming to p, before the minute t -/
def lOK (A : Int → Int) (p0 t0 c0 w t p l : Int) : Prop := (l = -6 ∨ 0 ≤ l ∧ l ≤ t) ∧ (t = t0 → l = if p = p0 then c0 else -6) ∧ (t0 < t → ∀ u, t ≤ u → u ≤ 2880 → (wS A p0 t0 c0 w t p u ↔ l ≠ -6 ∧ (∀ x, t - 1 ≤ x → x < u → rO A p x) ∧ u - l ≤ A (3 + 3 * p + 2)))
variable {A : Int → Int} {B p0 t0 c0 w : Int}
theorem lOK_come (hA : OKA A B) (hp : 0 ≤ p0 ∧ p0 < 8) (ht0 : 0 ≤ t0) {t p l : Int} (t1 : t0 ≤ t) (t2 : t ≤ 2880) (h : lOK A p0 t0 c0 w t p l) (hc : wC A p0 t0 c0 w p t) : lOK A p0 t0 c0 w (t + 1) p t ∧ wH A p0 t0 c0 w p t := by
  have hr := wC_rg hA hp (by omega) hc
  refine ⟨⟨Or.inr (by omega), fun c => by omega, fun _ u u0 u1 => ?_⟩, (wH_Sp hA hp (by omega)).2 (Or.inr hc)⟩
  rw [wS_succ, h.2.2 (by omega) u (by omega) u1]
  constructor
  · rintro (⟨g1, g2, g3⟩ | ⟨-, g⟩)
    · exact ⟨by omega, fun x x0 x1 => g2 x (by omega) x1, by have := h.1; omega⟩
    · exact ⟨by omega, fun x x0 x1 => g.2.2.1 x (by omega) x1, g.2.2.2⟩
  · rintro ⟨-, g2, g3⟩
    exact Or.inr ⟨hc, by omega, u1, fun x x0 x1 => g2 x (by omega) x1, g3⟩
theorem lOK_first (hA : OKA A B) (hp : 0 ≤ p0 ∧ p0 < 8) (ht0 : 0 ≤ t0) (hc0 : 0 ≤ c0 ∧ c0 ≤ t0) (t2 : t0 ≤ 2880) {p l : Int} (p1 : 0 ≤ p) (h : lOK A p0 t0 c0 w t0 p l) : lOK A p0 t0 c0 w (t0 + 1) p l ∧ (wH A p0 t0 c0 w p t0 ↔ l ≠ -6) := by
  have hl := h.2.1 rfl
  have hno : ¬ wC A p0 t0 c0 w p t0 := fun c => by have := wC_rg hA hp t2 c; omega
  refine ⟨⟨by have := h.1; omega, fun c => by omega, fun _ u u0 u1 => ?_⟩, ?_⟩
  · rw [wS_first hA hp t2 (Int.le_refl _)]
    unfold sT
    rw [hl]
    by_cases hpp : p = p0
    · subst hpp
      rw [if_pos rfl]
      constructor
      · rintro ⟨-, -, (c | ⟨g1, g2, g3⟩)⟩
        · omega
        · exact ⟨by omega, fun x x0 x1 => g2 x (by omega) x1, g3⟩
      · rintro ⟨g1, g2, g3⟩
        exact ⟨rfl, by omega, Or.inr ⟨u1, fun x x0 x1 => g2 x (by omega) x1, g3⟩⟩
    · rw [if_neg hpp]
      exact ⟨fun c => absurd c.1 hpp, fun c => absurd rfl c.1⟩
  · rw [wH_Sp hA hp t2, wS_first hA hp t2 (by omega), hl]
    by_cases hpp : p = p0
    · rw [if_pos hpp]
      exact ⟨fun _ => by omega, fun _ => Or.inl ⟨hpp, Int.le_refl _, Or.inl rfl⟩⟩
    · rw [if_neg hpp]
      exact ⟨fun c => c.elim (fun c => absurd c.1 hpp) (fun c => absurd c hno), fun c => absurd rfl c⟩
/-- nobody comes just then: who was there still is, or is not -/
theorem lOK_stay (hA : OKA A B) (hp : 0 ≤ p0 ∧ p0 < 8) {t p l : Int} (t1 : t0 < t) (t2 : t ≤ 2880) (h : lOK A p0 t0 c0 w t p l) (hc : ¬ wC A p0 t0 c0 w p t) (h1 : l ≠ -6) (h2 : rO A p (t - 1)) (h3 : t - l ≤ A (3 + 3 * p + 2)) : lOK A p0 t0 c0 w (t + 1) p l ∧ wH A p0 t0 c0 w p t := by
  have hs := h.2.2 t1
  refine ⟨⟨by have := h.1; omega, fun c => by omega, fun _ u u0 u1 => ?_⟩, (wH_Sp hA hp (by omega)).2 (Or.inl ((hs t (Int.le_refl _) t2).2 ⟨h1, fun x x0 x1 => by rw [show x = t - 1 by omega]; exact h2, h3⟩))⟩
  rw [wS_succ, hs u (by omega) u1]
  constructor
  · rintro (⟨g1, g2, g3⟩ | ⟨g, -⟩)
    · exact ⟨g1, fun x x0 x1 => g2 x (by omega) x1, g3⟩
    · exact absurd g hc
  · rintro ⟨g1, g2, g3⟩
    refine Or.inl ⟨g1, fun x x0 x1 => ?_, g3⟩
    by_cases hx : x = t - 1
    · subst hx; exact h2
    · exact g2 x (by omega) x1
theorem lOK_gone (hA : OKA A B) (hp : 0 ≤ p0 ∧ p0 < 8) {t p l : Int} (t1 : t0 < t) (t2 : t ≤ 2880) (h : lOK A p0 t0 c0 w t p l) (hc : ¬ wC A p0 t0 c0 w p t) (hx : ¬ (l ≠ -6 ∧ rO A p (t - 1) ∧ t - l ≤ A (3 + 3 * p + 2))) : lOK A p0 t0 c0 w (t + 1) p (-6) ∧ ¬ wH A p0 t0 c0 w p t := by
  have hs := h.2.2 t1
  refine ⟨⟨Or.inl rfl, fun c => by omega, fun _ u u0 u1 => ?_⟩, fun c => ?_⟩
  · rw [wS_succ, hs u (by omega) u1]
    constructor
    · rintro (⟨g1, g2, g3⟩ | ⟨g, -⟩)
      · exact absurd ⟨g1, g2 (t - 1) (by omega) (by omega), by omega⟩ hx
      · exact absurd g hc
    · rintro ⟨g1, -⟩
      exact absurd rfl g1
  · rcases (wH_Sp hA hp (by omega)).1 c with c | c
    · obtain ⟨g1, g2, g3⟩ := (hs t (Int.le_refl _) t2).1 c
      exact hx ⟨g1, g2 (t - 1) (by omega) (by omega), g3⟩
    · exact hc c
/-- before the minute t -/
def MI (A : Int → Int) (p0 t0 c0 w : Int) (τ : zM) (t : Int) : Prop :=
  (∀ u, 0 ≤ u → u ≤ 2880 → ∀ k, 0 ≤ k → k < 32 → (zB (τ 85 u) k = true ↔ wB A p0 t0 c0 w t k u)) ∧
  (∀ u, 0 ≤ u → u ≤ 2880 → ∀ k, 0 ≤ k → k < 32 → (zB (τ 86 u) k = true ↔ u < t ∧ wH A p0 t0 c0 w k u)) ∧
  ∀ p, 0 ≤ p → p < 8 → lOK A p0 t0 c0 w t p (τ 89 p)
theorem M_L214 {τ : zM} {t : Int} {k Q : zM → Prop} (hA : OKA (τ 80) B) (eA : A = τ 80) (t0' : 0 ≤ t) (t1 : t ≤ 2880) (hth : ∀ k, 0 ≤ k → k < 32 → (zB (τ 86 t) k = true ↔ wH A p0 t0 c0 w k t)) (hco : ∀ u, 0 ≤ u → u ≤ 2880 → ∀ k, 0 ≤ k → k < 32 → (zB (τ 85 u) k = true ↔ wB A p0 t0 c0 w t k u)) (kk : ∀ τ', (∀ n, n ≠ 85 → τ' n = τ n) → (∀ u, 0 ≤ u → u ≤ 2880 → ∀ k, 0 ≤ k → k < 32 → (zB (τ' 85 u) k = true ↔ wB A p0 t0 c0 w (t + 1) k u)) → k τ') (t0p : Int) : ∃ n, wp_M_spreads_L214 t0p w t k Q n τ 0 := by
  have hb := hA.1
  refine zFor (fun σ' v => 0 ≤ v ∧ (∀ n, n ≠ 85 → σ' n = τ n) ∧ (∀ u, 0 ≤ u → u ≤ 2880 → ∀ k, 0 ≤ k → k < 32 → (zB (σ' 85 u) k = true ↔ wB A p0 t0 c0 w t k u ∨ ∃ r, r < v ∧ wH A p0 t0 c0 w (A (27 + 12 * r + 0)) t ∧ uR A w r t ∧ t + A (27 + 12 * r + 2) = u ∧ A (27 + 12 * r + 1) = k))) (A 0) ?_ τ 0 ⟨by omega, fun _ _ => rfl, fun u u0 u1 k k0 k1 => ?_⟩ (by rw [eA]; omega)
  rotate_left
  · rw [hco u u0 u1 k k0 k1]
    exact ⟨Or.inl, fun c => c.elim id (fun ⟨r, r0, _, hr, _⟩ => by have := hr.1; omega)⟩
  intro m σ' v hI hv ih
  obtain ⟨v0, fr, tb⟩ := hI
  have e80 : σ' 80 = A := by rw [fr 80 (by omega), eA]
  rw [← eA] at hA hb
  rw [wp_M_spreads_L214, e80]
  refine ⟨fun c => kk σ' fr (fun u u0 u1 k k0 k1 => ?_), fun c => ?_⟩
  · rw [tb u u0 u1 k k0 k1, wB_succ]
    constructor
    · rintro (c | ⟨r, r0, hr⟩)
      · exact Or.inl c
      · exact Or.inr ⟨r, hr⟩
    · rintro (c | ⟨r, hr⟩)
      · exact Or.inl c
      · have := hr.2.1.1
        exact Or.inr ⟨r, by omega, hr⟩
  have next : ∀ σ2, (∀ n, n ≠ 85 → σ2 n = σ' n) → (∀ u, 0 ≤ u → u ≤ 2880 → ∀ k, 0 ≤ k → k < 32 → (zB (σ2 85 u) k = true ↔ zB (σ' 85 u) k = true ∨ (wH A p0 t0 c0 w (A (27 + 12 * v + 0)) t ∧ uR A w v t ∧ t + A (27 + 12 * v + 2) = u ∧ A (27 + 12 * v + 1) = k))) → wp_M_spreads_b290 t0p w t (wp_M_spreads_L214 t0p w t k Q m) Q σ2 v := by
    intro σ2 f2 t2
    refine ⟨zRi (by omega) (by omega), ih σ2 ⟨by omega, fun n hn => (f2 n hn).trans (fr n hn), fun u u0 u1 k k0 k1 => ?_⟩ (by omega)⟩
    rw [t2 u u0 u1 k k0 k1, tb u u0 u1 k k0 k1]
    constructor
    · rintro ((c | ⟨r, r0, hr⟩) | c)
      · exact Or.inl c
      · exact Or.inr ⟨r, by omega, hr⟩
      · exact Or.inr ⟨v, by omega, c⟩
    · rintro (c | ⟨r, r0, hr⟩)
      · exact Or.inl (Or.inl c)
      · by_cases hrv : r = v
        · subst hrv; exact Or.inr hr
        · exact Or.inl (Or.inr ⟨r, by omega, hr⟩)
  have skip : ¬ (wH A p0 t0 c0 w (A (27 + 12 * v + 0)) t ∧ uR A w v t) → wp_M_spreads_b290 t0p w t (wp_M_spreads_L214 t0p w t k Q m) Q σ' v := fun hno =>
    next σ' (fun _ _ => rfl) (fun u u0 u1 k k0 k1 => ⟨Or.inl, fun cc => cc.elim id (fun cc => absurd ⟨cc.1, cc.2.1⟩ hno)⟩)
  have hr := hA.2.2.2.2.1 v v0 (by omega)
  have hr0 := hr.1
  have hr1 := hr.2.1
  have hr2 := hr.2.2.1
  have hth' := hth (A (27 + 12 * v + 0)) hr0.1 (by omega)
  refine ⟨fun c1 => skip (fun hh => hh.2.2.1 c1), fun c1 => ⟨by omega, ?_⟩⟩
  rw [M_ofR (by omega) (by omega), e80, M_has hr0.1 (by omega), fr 86 (by omega)]
  refine ⟨fun c2 => skip (fun hh => ?_), fun c2 => ?_⟩
  · rw [zIf1] at c2
    exact c2 (hth'.2 hh.1)
  rw [zIf1, Classical.not_not, hth'] at c2
  refine M_whyNot (B := B) (by rw [e80]; exact hA) v0 (by rw [e80]; omega) t0' t1 ?_
  rw [e80]
  refine ⟨fun c3 => skip (fun hh => c3 hh.2.2.2), fun c3 => ?_⟩
  have hu : uR A w v t := ⟨⟨v0, by omega⟩, c1, c3⟩
  have hu2 := (uR_rg hA hu).2.2.2
  rw [M_ofR (by omega) (by omega), M_ofR (by omega) (by omega), e80]
  refine ⟨by omega, by omega, ?_⟩
  rintro _ rfl
  refine next _ (fun n hn => zU_n hn) (fun u u0 u1 k k0 k1 => ?_)
  rw [zU_g]
  by_cases hu' : u = t + A (27 + 12 * v + 2)
  · subst hu'
    rw [if_pos rfl, zB_or, zB_shl _ _ hr1.1 (by omega) k0 k1, Bool.or_eq_true, decide_eq_true_eq]
    exact ⟨fun cc => cc.elim Or.inl (fun cc => Or.inr ⟨c2, hu, rfl, cc.symm⟩), fun cc => cc.elim Or.inl (fun cc => Or.inr cc.2.2.2.symm)⟩
  · rw [if_neg hu']
    exact ⟨Or.inl, fun cc => cc.elim id (fun cc => absurd cc.2.2.1.symm hu')⟩
theorem M_L82 {τ : zM} {t : Int} {k Q : zM → Prop} (hA : OKA A B) (eA : τ 80 = A) (hp : 0 ≤ p0 ∧ p0 < 8) (ht0 : 0 ≤ t0) (hc0 : 0 ≤ c0 ∧ c0 ≤ t0) (t1 : t0 ≤ t) (t2 : t ≤ 2880) (hI : MI A p0 t0 c0 w τ t) (kk : ∀ τ', FrS τ τ' → τ' 85 = τ 85 → (∀ u, 0 ≤ u → u ≤ 2880 → ∀ k, 0 ≤ k → k < 32 → (zB (τ' 86 u) k = true ↔ u < t + 1 ∧ wH A p0 t0 c0 w k u)) → (∀ p, 0 ≤ p → p < 8 → lOK A p0 t0 c0 w (t + 1) p (τ' 89 p)) → k τ') : ∃ n, wp_M_spreads_L82 t0 w t k Q n τ 0 := by
  obtain ⟨hco, hth, hla⟩ := hI
  refine zFor (fun σ' v => 0 ≤ v ∧ FrS τ σ' ∧ σ' 85 = τ 85 ∧ (∀ u, 0 ≤ u → u ≤ 2880 → ∀ k, 0 ≤ k → k < 32 → (zB (σ' 86 u) k = true ↔ (u < t ∨ (u = t ∧ k < v)) ∧ wH A p0 t0 c0 w k u)) ∧ (∀ p, 0 ≤ p → p < 8 → lOK A p0 t0 c0 w (if p < v then t + 1 else t) p (σ' 89 p))) 8 ?_ τ 0 ⟨by omega, FrS_rfl τ, rfl, fun u u0 u1 k k0 k1 => ?_, fun p p1 p2 => ?_⟩ (by omega)
  rotate_left
  · rw [hth u u0 u1 k k0 k1]
    exact ⟨fun c => ⟨Or.inl c.1, c.2⟩, fun c => ⟨by omega, c.2⟩⟩
  · rw [if_neg (by omega)]; exact hla p p1 p2
  intro m σ' v hI hv ih
  obtain ⟨v0, fr, f85, th, la⟩ := hI
  rw [wp_M_spreads_L82]
  refine ⟨fun c => kk σ' fr f85 (fun u u0 u1 k k0 k1 => (th u u0 u1 k k0 k1).trans ⟨fun c => ⟨by omega, c.2⟩, fun c => ⟨?_, c.2⟩⟩) (fun p p1 p2 => ?_), fun c => ⟨by omega, ?_⟩⟩
  · have := wH_rg hA hp (by omega) c.2
    omega
  · have := la p p1 p2
    rw [if_pos (by omega)] at this
    exact this
  have hla' := la v v0 (by omega)
  rw [if_neg (by omega)] at hla'
  have hpv := hA.2.2.2.1 v v0 (by omega)
  have e80 : σ' 80 = A := by rw [fr 80 (by omega) (by omega) (by omega), eA]
  have next : ∀ σ2 l', FrS τ σ2 → σ2 85 = τ 85 → σ2 86 = σ' 86 → (∀ p, p ≠ v → σ2 89 p = σ' 89 p) → σ2 89 v = l' → lOK A p0 t0 c0 w (t + 1) v l' → (wH A p0 t0 c0 w v t ↔ l' ≠ -6) → wp_M_spreads_b175 t0 w t (wp_M_spreads_L82 t0 w t k Q m) Q σ2 v := by
    intro σ2 l' f2 f285 f286 o2 e2 l2 hw
    have la2 : ∀ p, 0 ≤ p → p < 8 → lOK A p0 t0 c0 w (if p < v + 1 then t + 1 else t) p (σ2 89 p) := by
      intro p p1 p2
      by_cases hpe : p = v
      · subst hpe; rw [if_pos (by omega), e2]; exact l2
      · rw [o2 p hpe]
        have := la p p1 p2
        by_cases hlt : p < v
        · rw [if_pos hlt] at this; rw [if_pos (by omega)]; exact this
        · rw [if_neg hlt] at this; rw [if_neg (by omega)]; exact this
    unfold wp_M_spreads_b175 wp_M_spreads_b203
    rw [e2, f286]
    refine ⟨by omega, by omega, fun c1 => ⟨by omega, ?_⟩, fun c1 => ⟨by omega, ?_⟩⟩
    · rintro _ rfl
      refine ⟨zRi (by omega) (by omega), ih _ ⟨by omega, FrS_U6 f2, by rw [zU_n (by omega), f285], fun u u0 u1 k k0 k1 => ?_, fun p p1 p2 => by rw [zU_n (by omega)]; exact la2 p p1 p2⟩ (by omega)⟩
      have hno : ¬ wH A p0 t0 c0 w v t := fun c => hw.1 c c1
      rw [zU_g, f286]
      by_cases hu : u = t
      · subst hu
        rw [if_pos rfl, zB_or, zB_0, Bool.or_false, th u u0 u1 k k0 k1]
        constructor
        · rintro ⟨a, b⟩; exact ⟨Or.inr ⟨rfl, by omega⟩, b⟩
        · rintro ⟨a, b⟩
          by_cases hk : k = v
          · subst hk; exact absurd b hno
          · exact ⟨Or.inr ⟨rfl, by omega⟩, b⟩
      · rw [if_neg hu, th u u0 u1 k k0 k1]
        exact ⟨fun c => ⟨by omega, c.2⟩, fun c => ⟨by omega, c.2⟩⟩
    · rintro _ rfl
      refine ⟨zRi (by omega) (by omega), ih _ ⟨by omega, FrS_U6 f2, by rw [zU_n (by omega), f285], fun u u0 u1 k k0 k1 => ?_, fun p p1 p2 => by rw [zU_n (by omega)]; exact la2 p p1 p2⟩ (by omega)⟩
      have hyes := hw.2 c1
      rw [zU_g, f286]
      by_cases hu : u = t
      · subst hu
        rw [if_pos rfl, zB_or, zB_shl v k v0 (by omega) k0 k1, Bool.or_eq_true, decide_eq_true_eq, th u u0 u1 k k0 k1]
        constructor
        · rintro (⟨a, b⟩ | a)
          · exact ⟨Or.inr ⟨rfl, by omega⟩, b⟩
          · subst a; exact ⟨Or.inr ⟨rfl, by omega⟩, hyes⟩
        · rintro ⟨a, b⟩
          by_cases hk : k = v
          · exact Or.inr hk
          · exact Or.inl ⟨Or.inr ⟨rfl, by omega⟩, b⟩
      · rw [if_neg hu, th u u0 u1 k k0 k1]
        exact ⟨fun c => ⟨by omega, c.2⟩, fun c => ⟨by omega, c.2⟩⟩
  have same : lOK A p0 t0 c0 w (t + 1) v (σ' 89 v) → (wH A p0 t0 c0 w v t ↔ σ' 89 v ≠ -6) → wp_M_spreads_b175 t0 w t (wp_M_spreads_L82 t0 w t k Q m) Q σ' v := fun l2 hw => next σ' _ fr f85 rfl (fun _ _ => rfl) rfl l2 hw
  have gone : lOK A p0 t0 c0 w (t + 1) v (-6) ∧ ¬ wH A p0 t0 c0 w v t → wp_M_spreads_b166 t0 w t (wp_M_spreads_L82 t0 w t k Q m) Q σ' v := by
    rintro ⟨l2, hw⟩
    unfold wp_M_spreads_b166
    refine ⟨by omega, ?_⟩
    rintro _ rfl
    exact next _ (-6) (FrS_U9 fr) (by rw [zU_n (by omega), f85]) (by rw [zU_n (by omega)]) (fun p hpe => zU_j hpe) zU_s l2 ⟨fun c => absurd c hw, fun c => absurd rfl c⟩
  rw [f85, M_has v0 (by omega)]
  have hCv : zB (τ 85 t) v = true ↔ wC A p0 t0 c0 w v t := (hco t (by omega) t2 v v0 (by omega)).trans ⟨wB_C, wC_Cb hA (Int.le_refl _)⟩
  refine ⟨fun c1 => ?_, fun c1 => ⟨by omega, ?_⟩⟩
  rotate_left
  · rw [zIf1, Classical.not_not, hCv] at c1
    rintro _ rfl
    have := lOK_come hA hp ht0 t1 t2 hla' c1
    exact next _ t (FrS_U9 fr) (by rw [zU_n (by omega), f85]) (by rw [zU_n (by omega)]) (fun p hpe => zU_j hpe) zU_s this.1 ⟨fun _ => by omega, fun _ => this.2⟩
  rw [zIf1, hCv] at c1
  refine ⟨fun c2 => ?_, fun c2 => ⟨by omega, fun c3 => ?_, fun c3 => ⟨zRi (by omega) (by omega), M_isRoomOpen v0 (by omega) (by omega) (fun co => ⟨fun c => absurd c (by decide), fun _ => ⟨by omega, ?_⟩⟩) (fun cc => ⟨fun _ => gone (lOK_gone hA hp (by omega) t2 hla' c1 (fun hh => cc (by rw [e80]; exact hh.2.1))), fun c => absurd rfl c⟩)⟩⟩⟩
  · have et : t = t0 := by omega
    subst et
    have := lOK_first hA hp ht0 hc0 t2 v0 hla'
    exact same this.1 this.2
  · rw [c3] at hla'
    have := lOK_gone hA hp (by omega) t2 hla' c1 (fun hh => hh.1 rfl)
    exact same (by rw [c3]; exact this.1) ⟨fun c => absurd c this.2, fun c => absurd c3 c⟩
  · rw [e80] at co
    rw [M_limitOf v0 (by omega), e80]
    have hl := hla'.1
    refine ⟨zRi (by omega) (by omega), fun c4 => ?_, fun c4 => gone (lOK_gone hA hp (by omega) t2 hla' c1 (fun hh => c4 hh.2.2))⟩
    have := lOK_stay hA hp (by omega) t2 hla' c1 c3 co c4
    exact same this.1 ⟨fun _ => c3, fun _ => this.2⟩
/-- all that the reference knows after it -/
def MS (A : Int → Int) (p0 t0 c0 w : Int) (τ : zM) : Prop :=
  (∀ u, 0 ≤ u → u ≤ 2880 → ∀ k, 0 ≤ k → k < 32 → (zB (τ 85 u) k = true ↔ wC A p0 t0 c0 w k u)) ∧
  (∀ u, 0 ≤ u → u ≤ 2880 → ∀ k, 0 ≤ k → k < 32 → (zB (τ 86 u) k = true ↔ wH A p0 t0 c0 w k u))
theorem M_spreads {τ : zM} {Q : zM → Prop} (hA : OKA A B) (eA : τ 80 = A) (hp : 0 ≤ p0 ∧ p0 < 8) (ht0 : 0 ≤ t0 ∧ t0 ≤ 2880) (hc0 : 0 ≤ c0 ∧ c0 ≤ t0) (kk : ∀ τ', FrS τ τ' → MS A p0 t0 c0 w τ' → Q τ') : wp_M_spreads τ p0 t0 c0 w Q := by
  unfold wp_M_spreads
  refine zFor (fun σ' v => 0 ≤ v ∧ FrS τ σ' ∧ ∀ u, 0 ≤ u → u < v → σ' 85 u = 0 ∧ σ' 86 u = 0) 2881 ?_ τ 0 ⟨by omega, FrS_rfl τ, fun u u0 u1 => by omega⟩ (by omega)
  intro m σ' v hI hv ih
  obtain ⟨v0, fr, z⟩ := hI
  rw [wp_M_spreads_L3]
  refine ⟨fun c => ?_, fun c => ⟨by omega, ?_⟩⟩
  rotate_left
  · rintro _ rfl
    refine ⟨by omega, ?_⟩
    rintro _ rfl
    refine ⟨zRi (by omega) (by omega), ih _ ⟨by omega, FrS_U6 (FrS_U5 fr), fun u u0 u1 => ?_⟩ (by omega)⟩
    rw [zU_n (by omega), zU_g, zU_g, zU_n (by omega)]
    by_cases hu : u = v
    · rw [if_pos hu, if_pos hu]; exact ⟨rfl, rfl⟩
    · rw [if_neg hu, if_neg hu]; exact z u u0 (by omega)
  refine zFor (fun σ2 v => 0 ≤ v ∧ FrS τ σ2 ∧ σ2 85 = σ' 85 ∧ σ2 86 = σ' 86 ∧ ∀ u, 0 ≤ u → u < v → σ2 89 u = if u = p0 then c0 else -6) 8 ?_ σ' 0 ⟨by omega, fr, rfl, rfl, fun u u0 u1 => by omega⟩ (by omega)
  intro m2 σ2 v2 hI2 hv2 ih2
  obtain ⟨v20, fr2, f85, f86, z9⟩ := hI2
  rw [wp_M_spreads_L36]
  refine ⟨fun c2 => ?_, fun c2 => ?_⟩
  rotate_left
  · have nx : ∀ l, l = (if v2 = p0 then c0 else -6) → wp_M_spreads_b61 p0 t0 c0 w (wp_M_spreads_L36 p0 t0 c0 w (fun σ10 => ∃ n51, wp_M_spreads_L71 t0 w Q n51 σ10 t0) Q m2) Q σ2 v2 v2 l := by
      rintro l hl
      refine ⟨by omega, ?_⟩
      rintro _ rfl
      refine ⟨zRi (by omega) (by omega), ih2 _ ⟨by omega, FrS_U9 fr2, by rw [zU_n (by omega), f85], by rw [zU_n (by omega), f86], fun u u0 u1 => ?_⟩ (by omega)⟩
      rw [zU_g]
      by_cases hu : u = v2
      · rw [if_pos hu, hl, hu]
      · rw [if_neg hu]; exact z9 u u0 (by omega)
    exact ⟨fun hne => nx _ (by rw [if_neg hne]), fun he => nx _ (by rw [if_pos he])⟩
  have start : MI A p0 t0 c0 w σ2 t0 := by
    refine ⟨fun u u0 u1 k k0 k1 => ?_, fun u u0 u1 k k0 k1 => ?_, fun p p1 p2 => ?_⟩
    · rw [f85, (z u u0 (by omega)).1, zB_0]
      exact ⟨fun c => absurd c (by decide), fun c => absurd c (wB_first hA hp ht0.2 (Int.le_refl _))⟩
    · rw [f86, (z u u0 (by omega)).2, zB_0]
      exact ⟨fun c => absurd c (by decide), fun c => by have := wH_rg hA hp ht0.2 c.2; omega⟩
    · rw [z9 p p1 (by omega)]
      refine ⟨?_, fun _ => rfl, fun c => by omega⟩
      split
      · exact Or.inr (by omega)
      · exact Or.inl rfl
  refine zFor (fun σ3 t => t0 ≤ t ∧ FrS τ σ3 ∧ MI A p0 t0 c0 w σ3 t) 2881 ?_ σ2 t0 ⟨Int.le_refl _, fr2, start⟩ (by omega)
  intro m3 σ3 t hI3 ht ih3
  obtain ⟨t1, fr3, hMI⟩ := hI3
  rw [wp_M_spreads_L71]
  refine ⟨fun c3 => kk σ3 fr3 ⟨fun u u0 u1 k k0 k1 => ?_, fun u u0 u1 k k0 k1 => ?_⟩, fun c3 => ?_⟩
  · rw [hMI.1 u u0 u1 k k0 k1]
    exact ⟨wB_C, wC_Cb hA (by omega)⟩
  · rw [hMI.2.1 u u0 u1 k k0 k1]
    exact ⟨fun c => c.2, fun c => ⟨by omega, c⟩⟩
  refine M_L82 hA (by rw [fr3 80 (by omega) (by omega) (by omega), eA]) hp ht0.1 hc0 t1 (by omega) hMI (fun σ4 f4 e5 h6 h9 => ?_)
  have e80 : σ4 80 = A := by rw [f4 80 (by omega) (by omega) (by omega), fr3 80 (by omega) (by omega) (by omega), eA]
  refine M_L214 (by rw [e80]; exact hA) e80.symm (by omega) (by omega) (fun k k0 k1 => ?_) (fun u u0 u1 k k0 k1 => ?_) (fun σ5 f5 h5 => ⟨zRi (by omega) (by omega), ih3 σ5 ⟨by omega, FrS_trans fr3 (FrS_trans f4 (fun n h1 h2 h3 => f5 n h1)), h5, fun u u0 u1 k k0 k1 => ?_, fun p p1 p2 => ?_⟩ (by omega)⟩) t0
  · rw [h6 t (by omega) (by omega) k k0 k1]
    exact ⟨fun c => c.2, fun c => ⟨by omega, c⟩⟩
  · rw [e5]; exact hMI.1 u u0 u1 k k0 k1
  · rw [f5 86 (by omega)]; exact h6 u u0 u1 k k0 k1
  · rw [f5 89 (by omega)]; exact h9 p p1 p2
end SPR
