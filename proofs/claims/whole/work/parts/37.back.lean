/-! back from a goal: who comes to p at t comes to g by the minute by -/
def clG (A : Int → Int) (g by' : Int) (R : Int → Int → Prop) : Prop :=
  (∀ t, 0 ≤ t → t ≤ by' → R g t) ∧ ∀ r t e, 0 ≤ t → zW A (A (27 + 12 * r + 0)) t e → uR A (-6) r e → e + A (27 + 12 * r + 2) ≤ by' → R (A (27 + 12 * r + 1)) (e + A (27 + 12 * r + 2)) → R (A (27 + 12 * r + 0)) t
def bG (A : Int → Int) (g by' p t : Int) : Prop := ∀ R, clG A g by' R → R p t
/-- road r, entered at e, leads on -/
def bL (A : Int → Int) (g by' r e : Int) : Prop := uR A (-6) r e ∧ e + A (27 + 12 * r + 2) ≤ by' ∧ bG A g by' (A (27 + 12 * r + 1)) (e + A (27 + 12 * r + 2))
def bE (A : Int → Int) (g by' p e : Int) : Prop := ∃ r, A (27 + 12 * r + 0) = p ∧ bL A g by' r e
section BACK
variable {A : Int → Int} {B g by' : Int}
theorem bG_goal {t : Int} (h0 : 0 ≤ t) (h1 : t ≤ by') : bG A g by' g t := fun _ hR => hR.1 t h0 h1
theorem bG_step {p t e : Int} (h0 : 0 ≤ t) (hw : zW A p t e) (h : bE A g by' p e) : bG A g by' p t := by
  obtain ⟨r, rfl, h1, h2, h3⟩ := h
  exact fun R hR => hR.2 r t e h0 hw h1 h2 (h3 R hR)
theorem bG_inv {p t : Int} (h : bG A g by' p t) : 0 ≤ t ∧ ((p = g ∧ t ≤ by') ∨ ∃ e, zW A p t e ∧ bE A g by' p e) := by
  have := h (fun p t => bG A g by' p t ∧ (0 ≤ t ∧ ((p = g ∧ t ≤ by') ∨ ∃ e, zW A p t e ∧ bE A g by' p e))) ⟨fun t h0 h1 => ⟨bG_goal h0 h1, h0, Or.inl ⟨rfl, h1⟩⟩, fun r t e h0 hw hu hb hR => ?_⟩
  · exact this.2
  · have he : bE A g by' (A (27 + 12 * r + 0)) e := ⟨r, rfl, hu, hb, hR.1⟩
    exact ⟨bG_step h0 hw he, h0, Or.inr ⟨e, hw, he⟩⟩
theorem bE_rg (hA : OKA A B) {p e : Int} (h : bE A g by' p e) : e < by' ∧ e < 2880 ∧ 0 ≤ p ∧ p < 8 := by
  obtain ⟨r, rfl, h1, h2, h3⟩ := h
  have := uR_rg hA h1
  omega
theorem bG_rg (hA : OKA A B) (hg : 0 ≤ g ∧ g < 8) (hb : by' ≤ 2880) {p t : Int} (h : bG A g by' p t) : (0 ≤ t ∧ t ≤ by') ∧ 0 ≤ p ∧ p < 8 := by
  obtain ⟨h0, (⟨h1, h2⟩ | ⟨e, h1, h2⟩)⟩ := bG_inv h
  · exact ⟨⟨h0, h2⟩, by omega⟩
  · have := bE_rg hA h2
    have := h1.1
    omega
def FrB (σ σ' : zM) : Prop := ∀ n, n ≠ 70 → n ≠ 71 → n ≠ 72 → σ' n = σ n
theorem FrB_rfl (σ : zM) : FrB σ σ := fun _ _ _ _ => rfl
theorem FrB_trans {a b c : zM} (h : FrB a b) (g : FrB b c) : FrB a c := fun n h1 h2 h3 => (g n h1 h2 h3).trans (h n h1 h2 h3)
theorem FrB_RX {a b : zM} (h : FrB a b) (hR : RX a 0 A) : RX b 0 A := RX_congr (fun n h1 h2 => h n (by omega) (by omega) (by omega)) hR
/-- the next entry after t -/
def NE (A : Int → Int) (g by' t p n : Int) : Prop := (n = 2881 ∧ ∀ e, t < e → ¬ bE A g by' p e) ∨ (t < n ∧ n ≤ 2880 ∧ bE A g by' p n ∧ ∀ e, t < e → e < n → ¬ bE A g by' p e)
/-- before the minute t, going back -/
def BI (A : Int → Int) (g by' : Int) (σ : zM) (t : Int) : Prop :=
  (σ 70 2 = g ∧ σ 70 3 = by') ∧ (∀ u, 0 ≤ u → u ≤ 2880 → ∀ k, 0 ≤ k → k < 32 → (zB (σ 71 u) k = true ↔ t < u ∧ bG A g by' k u)) ∧ ∀ p, 0 ≤ p → p < 8 → NE A g by' t p (σ 72 p)
theorem B_leads {σ : zM} {t p u : Int} {Q : Int → Prop} (hA : OKA A B) (hg : 0 ≤ g ∧ g < 8) (hb : by' ≤ 2880) (hI : BI A g by' σ t) (hp : 0 ≤ p ∧ p < 8) (hu : t < u) (ky : bG A g by' p u → Q 1) (kn : ¬ bG A g by' p u → Q 0) : wp_B_leads σ p u Q := by
  unfold wp_B_leads
  rw [hI.1.2]
  refine ⟨fun c => kn (fun hh => by have := bG_rg hA hg hb hh; omega), fun c => ⟨fun c2 => kn (fun hh => by have := bG_rg hA hg hb hh; omega), fun c2 => ⟨by omega, ?_⟩⟩⟩
  rw [X_has hp.1 (by omega)]
  have hbit := hI.2.1 u (by omega) (by omega) p hp.1 (by omega)
  refine ⟨fun c3 => kn (fun hh => ?_), fun c3 => ky ?_⟩
  · rw [zIf1, hbit] at c3
    exact c3 ⟨hu, hh⟩
  · rw [zIf1, Classical.not_not, hbit] at c3
    exact c3.2
theorem B_minute {σ : zM} {us t : Int} {Q : zM → Prop} (hR : RX σ 0 A) (hA : OKA A B) (hg : 0 ≤ g ∧ g < 8) (hb : by' ≤ 2880) (ht : 0 ≤ t ∧ t ≤ by') (hu : ∀ r, 0 ≤ r → r < A 0 → (zB us r = true ↔ uR A (-6) r t)) (hI : BI A g by' σ t) (kk : ∀ σ', FrB σ σ' → BI A g by' σ' (t - 1) → Q σ') : wp_B_minute σ us t Q := by
  have hA0 := hA.1
  have hg2 : σ 70 2 = g := hI.1.1
  unfold wp_B_minute
  refine zFor (fun σ' v => 0 ≤ v ∧ (∀ n, n ≠ 72 → σ' n = σ n) ∧ ∀ p, 0 ≤ p → p < 8 → ((σ' 72 p = t ∧ ∃ r, 0 ≤ r ∧ r < v ∧ A (27 + 12 * r + 0) = p ∧ bL A g by' r t) ∨ (σ' 72 p = σ 72 p ∧ ¬ ∃ r, 0 ≤ r ∧ r < v ∧ A (27 + 12 * r + 0) = p ∧ bL A g by' r t))) (A 0) ?_ σ 0 ⟨by omega, fun _ _ => rfl, fun p p0 p1 => Or.inr ⟨rfl, fun ⟨r, r0, r1, _⟩ => by omega⟩⟩ (by omega)
  intro m σ' v hI1 hv ih
  obtain ⟨v0, fr, hl⟩ := hI1
  have hR' : RX σ' 0 A := RX_congr (fun n h1 h2 => fr n (by omega)) hR
  rw [wp_B_minute_L3, hR'.1.1]
  refine ⟨fun c => ?_, fun c => ?_⟩
  rotate_left
  · -- a road
    have hr := hA.2.2.2.2.1 v v0 (by omega)
    have hr0 := hr.1
    have hr1 := hr.2.1
    have hr2 := hr.2.2.1
    have hBI : BI A g by' σ' t → True := fun _ => trivial
    have skip : ¬ bL A g by' v t → wp_B_minute_b57 us t (wp_B_minute_L3 us t (fun σ15 => ∃ n22, wp_B_minute_L74 σ15 t Q n22 (zShl 1 (σ15 70 2)) 0) Q m) Q σ' v := by
      intro hno
      refine ⟨zRi (by omega) (by omega), ih σ' ⟨by omega, fr, fun p p0 p1 => ?_⟩ (by omega)⟩
      rcases hl p p0 p1 with ⟨h1, r, r0, r1, h2⟩ | ⟨h1, h2⟩
      · exact Or.inl ⟨h1, r, r0, by omega, h2⟩
      · refine Or.inr ⟨h1, ?_⟩
        rintro ⟨r, r0, r1, h3, h4⟩
        by_cases hrv : r = v
        · subst hrv; exact hno h4
        · exact h2 ⟨r, r0, by omega, h3, h4⟩
    rw [X_has v0 (by omega)]
    have huv := hu v v0 (by omega)
    refine ⟨fun c1 => skip (fun hh => ?_), fun c1 => ?_⟩
    · rw [zIf1, huv] at c1
      exact c1 hh.1
    rw [zIf1, Classical.not_not, huv] at c1
    rw [S_ofR' hR' v0 (by omega) hA0.2 (by omega) (by omega), S_ofR' hR' v0 (by omega) hA0.2 (by omega) (by omega)]
    refine ⟨zRi (by omega) (by omega), ?_⟩
    unfold wp_B_leads
    rw [fr 70 (by omega), fr 71 (by omega)]
    have hl2 : wp_B_leads σ (A (27 + 12 * v + 1)) (t + A (27 + 12 * v + 2)) (fun z9 => ((z9 = 0 → wp_B_minute_b57 us t (wp_B_minute_L3 us t (fun σ15 => ∃ n22, wp_B_minute_L74 σ15 t Q n22 (zShl 1 (σ15 70 2)) 0) Q m) Q σ' v) ∧ (¬ z9 = 0 → wp_S_ofRoads σ' v 0 (fun z11 => (0 ≤ z11 ∧ z11 < 8) ∧ ∀ σ14 : zM, σ14 = zU σ' 72 z11 t → wp_B_minute_b57 us t (wp_B_minute_L3 us t (fun σ15 => ∃ n22, wp_B_minute_L74 σ15 t Q n22 (zShl 1 (σ15 70 2)) 0) Q m) Q σ14 v)))) := by
      refine B_leads hA hg hb hI hr1 (by omega) (fun hy => ⟨fun c => absurd c (by decide), fun _ => ?_⟩) (fun hn => ⟨fun _ => skip (fun hh => hn hh.2.2), fun c => absurd rfl c⟩)
      have hbl : bL A g by' v t := ⟨c1, (bG_rg hA hg hb hy).1.2, hy⟩
      rw [S_ofR' hR' v0 (by omega) hA0.2 (by omega) (by omega)]
      refine ⟨hr0, ?_⟩
      rintro _ rfl
      refine ⟨zRi (by omega) (by omega), ih _ ⟨by omega, fun n hn => by rw [zU_n hn]; exact fr n hn, fun p p0 p1 => ?_⟩ (by omega)⟩
      rw [zU_g]
      by_cases hp : p = A (27 + 12 * v + 0)
      · rw [if_pos hp]
        exact Or.inl ⟨rfl, v, v0, by omega, hp.symm, hbl⟩
      · rw [if_neg hp]
        rcases hl p p0 p1 with ⟨h1, r, r0, r1, h2⟩ | ⟨h1, h2⟩
        · exact Or.inl ⟨h1, r, r0, by omega, h2⟩
        · refine Or.inr ⟨h1, ?_⟩
          rintro ⟨r, r0, r1, h3, h4⟩
          by_cases hrv : r = v
          · subst hrv; exact hp h3.symm
          · exact h2 ⟨r, r0, by omega, h3, h4⟩
    exact hl2
  -- the places
  have ne : ∀ p, 0 ≤ p → p < 8 → NE A g by' (t - 1) p (σ' 72 p) := by
    intro p p0 p1
    rcases hl p p0 p1 with ⟨h1, r, r0, r1, h2, h3⟩ | ⟨h1, h2⟩
    · rw [h1]
      exact Or.inr ⟨by omega, by omega, ⟨r, h2, h3⟩, fun e e0 e1 => by omega⟩
    · have hno : ¬ bE A g by' p t := fun ⟨r, h3, h4⟩ => h2 ⟨r, h4.1.1.1, by have := h4.1.1.2; omega, h3, h4⟩
      rw [h1]
      rcases hI.2.2 p p0 p1 with ⟨g1, g2⟩ | ⟨g1, g2, g3, g4⟩
      · refine Or.inl ⟨g1, fun e e0 he => ?_⟩
        by_cases het : e = t
        · subst het; exact hno he
        · exact g2 e (by omega) he
      · refine Or.inr ⟨by omega, g2, g3, fun e e0 e1 he => ?_⟩
        by_cases het : e = t
        · subst het; exact hno he
        · exact g4 e (by omega) e1 he
  have e70 : σ' 70 = σ 70 := fr 70 (by omega)
  rw [e70, hg2]
  have key : ∀ (n : Nat) (s p : Int), 0 ≤ p → p ≤ 8 → (∀ k, 0 ≤ k → k < 32 → (zB s k = true ↔ k = g ∨ (k < p ∧ bG A g by' k t))) → 8 - p < n → wp_B_minute_L74 σ' t Q n s p := by
    intro n
    induction n with
    | zero => intro s p _ _ _ _; omega
    | succ n ih2 =>
      intro s p p0 p1 hs hn
      rw [wp_B_minute_L74]
      refine ⟨fun c2 => ⟨by omega, ?_⟩, fun c2 => ⟨by omega, ?_⟩⟩
      · rintro _ rfl
        refine kk _ (fun q h1 h2 h3 => by rw [zU_n h2]; exact fr q h3) ⟨⟨by rw [zU_n (by omega), e70]; exact hg2, by rw [zU_n (by omega), e70]; exact hI.1.2⟩, fun u u0 u1 k k0 k1 => ?_, fun q q0 q1 => by rw [zU_n (by omega)]; exact ne q q0 q1⟩
        rw [zU_g, fr 71 (by omega)]
        by_cases hut : u = t
        · subst hut
          rw [if_pos rfl, hs k k0 k1]
          constructor
          · rintro (h1 | ⟨h1, h2⟩)
            · exact ⟨by omega, by rw [h1]; exact bG_goal u0 ht.2⟩
            · exact ⟨by omega, h2⟩
          · rintro ⟨h1, h2⟩
            have := bG_rg hA hg hb h2
            exact Or.inr ⟨by omega, h2⟩
        · rw [if_neg hut, hI.2.1 u u0 u1 k k0 k1]
          exact ⟨fun h => ⟨by omega, h.2⟩, fun h => ⟨by omega, h.2⟩⟩
      · have hpr := hA.2.2.2.1 p p0 (by omega)
        have nep := ne p p0 (by omega)
        refine S_waitEnd hR' hA p0 (by omega) ht.1 (by omega) ⟨fun c3 => ⟨zRi (by omega) (by omega), ih2 s (p + 1) (by omega) (by omega) (fun k k0 k1 => (hs k k0 k1).trans ?_) (by omega)⟩, fun c3 => ⟨zRi (by omega) (by omega), ih2 _ (p + 1) (by omega) (by omega) (fun k k0 k1 => ?_) (by omega)⟩⟩
        · constructor
          · rintro (h1 | ⟨h1, h2⟩)
            · exact Or.inl h1
            · exact Or.inr ⟨by omega, h2⟩
          · rintro (h1 | ⟨h1, h2⟩)
            · exact Or.inl h1
            · by_cases hkp : k = p
              · subst hkp
                rcases (bG_inv h2).2 with h3 | ⟨e, h3, h4⟩
                · exact Or.inl h3.1
                · have he := (wE_iff (by omega) (by omega) ht.1 h3.1).2 h3
                  rcases nep with ⟨g1, g2⟩ | ⟨g1, g2, g3, g4⟩
                  · exact absurd h4 (g2 e (by have := h3.1; omega))
                  · exact absurd h4 (g4 e (by have := h3.1; omega) (by omega))
              · exact Or.inr ⟨by omega, h2⟩
        · rw [zB_or, zB_shl p k p0 (by omega) k0 k1, Bool.or_eq_true, decide_eq_true_eq, hs k k0 k1]
          have hwr := wE_rg (A := A) (p := p) (s := t) (by omega) (by omega) ht.1 (by omega)
          have hyes : bG A g by' p t := by
            rcases nep with ⟨g1, g2⟩ | ⟨g1, g2, g3, g4⟩
            · omega
            · exact bG_step ht.1 ((wE_iff (by omega) (by omega) ht.1 (by omega)).1 (by omega)) g3
          constructor
          · rintro ((h1 | ⟨h1, h2⟩) | h1)
            · exact Or.inl h1
            · exact Or.inr ⟨by omega, h2⟩
            · subst h1; exact Or.inr ⟨by omega, hyes⟩
          · rintro (h1 | ⟨h1, h2⟩)
            · exact Or.inl (Or.inl h1)
            · by_cases hkp : k = p
              · exact Or.inr hkp
              · exact Or.inl (Or.inr ⟨by omega, h2⟩)
  refine ⟨9, key 9 _ 0 (by omega) (by omega) (fun k k0 k1 => ?_) (by omega)⟩
  rw [zB_shl g k hg.1 (by omega) k0 k1, decide_eq_true_eq]
  exact ⟨Or.inl, fun h => h.elim id (fun h => by omega)⟩
theorem B_start {σ : zM} {Q : zM → Prop} (hA : OKA A B) (hg : 0 ≤ g ∧ g < 8) (hb : by' ≤ 2880) (kk : ∀ σ', FrB σ σ' → BI A g by' σ' by' → Q σ') : wp_B_start σ g by' Q := by
  unfold wp_B_start
  rintro _ rfl _ rfl _ rfl _ rfl
  refine kk _ (fun n h1 h2 h3 => by rw [zU_n h1, zU_n h1, zFl_n h3, zFl_n h2]) ⟨⟨by rw [zU_j (by omega), zU_s], zU_s⟩, fun u u0 u1 k k0 k1 => ?_, fun p p0 p1 => ?_⟩
  · rw [zU_n (by omega), zU_n (by omega), zFl_n (by omega), zFl_g, if_pos (by omega), zB_0]
    exact ⟨fun c => absurd c (by decide), fun c => by have := bG_rg hA hg hb c.2; omega⟩
  · rw [zU_n (by omega), zU_n (by omega), zFl_g, if_pos (by omega)]
    exact Or.inl ⟨rfl, fun e e0 he => by have := bE_rg hA he; omega⟩
/-! the reference goes back -/
def FrK (τ τ' : zM) : Prop := ∀ n, n ≠ 88 → n ≠ 89 → τ' n = τ n
theorem FrK_rfl (τ : zM) : FrK τ τ := fun _ _ _ => rfl
theorem FrK_trans {a b c : zM} (h : FrK a b) (g : FrK b c) : FrK a c := fun n h1 h2 => (g n h1 h2).trans (h n h1 h2)
def LB (A : Int → Int) (g by' t p l : Int) : Prop := (l = -6 ∨ (t < l ∧ l ≤ 2880)) ∧ ∀ s, 0 ≤ s → s ≤ t → ((∃ e, t < e ∧ bE A g by' p e ∧ zW A p s e) ↔ l ≠ -6 ∧ (∀ x, s ≤ x → x ≤ t → rO A p x) ∧ l - s ≤ A (3 + 3 * p + 2))
theorem bG_at (hA : OKA A B) {p t : Int} (h0 : 0 ≤ t) (h1 : t ≤ by') : bG A g by' p t ↔ p = g ∨ (∃ e, t ≤ e ∧ bE A g by' p e ∧ zW A p t e) := by
  constructor
  · intro h
    rcases (bG_inv h).2 with h2 | ⟨e, h2, h3⟩
    · exact Or.inl h2.1
    · exact Or.inr ⟨e, h2.1, h3, h2⟩
  · rintro (h | ⟨e, h2, h3, h4⟩)
    · rw [h]; exact bG_goal h0 h1
    · exact bG_step h0 h4 h3
theorem LB_here (hA : OKA A B) {p t l : Int} (hp : 0 ≤ p ∧ p < 8) (h0 : 0 ≤ t) (h1 : t ≤ by') (hb : by' ≤ 2880) (he : bE A g by' p t) : LB A g by' (t - 1) p t ∧ bG A g by' p t := by
  have hr := hA.2.2.2.1 p hp.1 hp.2
  refine ⟨⟨Or.inr (by omega), fun s s0 s1 => ?_⟩, bG_step h0 ⟨Int.le_refl _, by omega, fun x x0 x1 => by omega, by omega⟩ he⟩
  constructor
  · rintro ⟨e, e0, -, h3⟩
    exact ⟨by omega, fun x x0 x1 => h3.2.2.1 x x0 (by omega), by have := h3.2.2.2; omega⟩
  · rintro ⟨-, h3, h4⟩
    exact ⟨t, by omega, he, by omega, by omega, fun x x0 x1 => h3 x x0 (by omega), h4⟩
theorem LB_shut (hA : OKA A B) {p t l : Int} (h0 : 0 ≤ t) (h1 : t ≤ by') (he : ¬ bE A g by' p t) (hs : ¬ rO A p t) : LB A g by' (t - 1) p (-6) ∧ (bG A g by' p t ↔ p = g) := by
  refine ⟨⟨Or.inl rfl, fun s s0 s1 => ?_⟩, ?_⟩
  · constructor
    · rintro ⟨e, e0, h2, h3⟩
      by_cases het : e = t
      · subst het; exact absurd h2 he
      · exact absurd (h3.2.2.1 t (by omega) (by omega)) hs
    · rintro ⟨h2, -⟩
      exact absurd rfl h2
  · rw [bG_at hA h0 h1]
    constructor
    · rintro (h | ⟨e, e0, h2, h3⟩)
      · exact h
      · by_cases het : e = t
        · subst het; exact absurd h2 he
        · exact absurd (h3.2.2.1 t (by omega) (by omega)) hs
    · exact Or.inl
theorem LB_open (hA : OKA A B) {p t l : Int} (h0 : 0 ≤ t) (h1 : t ≤ by') (he : ¬ bE A g by' p t) (hs : rO A p t) (h : LB A g by' t p l) : LB A g by' (t - 1) p l ∧ (bG A g by' p t ↔ p = g ∨ (l ≠ -6 ∧ l - t ≤ A (3 + 3 * p + 2))) := by
  refine ⟨⟨by have := h.1; omega, fun s s0 s1 => ?_⟩, ?_⟩
  · have hh := h.2 s s0 (by omega)
    constructor
    · rintro ⟨e, e0, h2, h3⟩
      have het : e ≠ t := fun c => by subst c; exact he h2
      obtain ⟨g1, g2, g3⟩ := hh.1 ⟨e, by omega, h2, h3⟩
      exact ⟨g1, fun x x0 x1 => g2 x x0 (by omega), g3⟩
    · rintro ⟨g1, g2, g3⟩
      obtain ⟨e, e0, h2⟩ := hh.2 ⟨g1, fun x x0 x1 => by
        by_cases hx : x = t
        · subst hx; exact hs
        · exact g2 x x0 (by omega), g3⟩
      exact ⟨e, by omega, h2⟩
  · rw [bG_at hA h0 h1]
    have hh := h.2 t h0 (Int.le_refl _)
    constructor
    · rintro (h | ⟨e, e0, h2, h3⟩)
      · exact Or.inl h
      · have het : e ≠ t := fun c => by subst c; exact he h2
        obtain ⟨g1, g2, g3⟩ := hh.1 ⟨e, by omega, h2, h3⟩
        exact Or.inr ⟨g1, g3⟩
    · rintro (h | ⟨g1, g3⟩)
      · exact Or.inl h
      · obtain ⟨e, e0, h2⟩ := hh.2 ⟨g1, fun x x0 x1 => by rw [show x = t by omega]; exact hs, g3⟩
        exact Or.inr ⟨e, by omega, h2⟩
/-- the reference knows, of each minute after t, from where one comes -/
def KI (A : Int → Int) (g by' : Int) (τ : zM) (t : Int) : Prop := ∀ u, 0 ≤ u → u ≤ 2880 → ∀ k, 0 ≤ k → k < 32 → (zB (τ 88 u) k = true ↔ t < u ∧ bG A g by' k u)
theorem M_leadsOn {τ : zM} {p t : Int} {Q : Int → Prop} (hA : OKA A B) (eA : τ 80 = A) (hb : by' ≤ 2880) (h0 : 0 ≤ t) (h1 : t ≤ by') (hK : ∀ u, t < u → u ≤ by' → ∀ k, 0 ≤ k → k < 32 → (zB (τ 88 u) k = true ↔ bG A g by' k u)) (ky : bE A g by' p t → Q 1) (kn : ¬ bE A g by' p t → Q 0) : wp_M_leadsOn τ p t by' Q := by
  have hA0 := hA.1
  unfold wp_M_leadsOn
  have key : ∀ (n : Nat) (v e : Int), 0 ≤ v → v ≤ A 0 → (e = 1 ∧ bE A g by' p t ∨ e = 0 ∧ ∀ r, r < v → ¬ (A (27 + 12 * r + 0) = p ∧ bL A g by' r t)) → A 0 - v < n → wp_M_leadsOn_L6 τ p t by' Q n e v := by
    intro n
    induction n with
    | zero => intro v e _ _ _ _; omega
    | succ n ih =>
      intro v e v0 v1 hh hn
      rw [wp_M_leadsOn_L6, eA]
      refine ⟨fun c => ?_, fun c => ?_⟩
      · rcases hh with ⟨rfl, hc⟩ | ⟨rfl, hc⟩
        · exact ⟨Or.inr rfl, ky hc⟩
        · refine ⟨Or.inl rfl, kn ?_⟩
          rintro ⟨r, h2, h3⟩
          have := h3.1.1
          exact hc r (by omega) ⟨h2, h3⟩
      · have hr := hA.2.2.2.2.1 v v0 (by omega)
        have hr0 := hr.1
        have hr1 := hr.2.1
        have hr2 := hr.2.2.1
        have yes : bE A g by' p t → wp_M_leadsOn_b80 τ p t by' (wp_M_leadsOn_L6 τ p t by' Q n) Q v := fun hc => ⟨zRi (by omega) (by omega), ih (v + 1) 1 (by omega) (by omega) (Or.inl ⟨rfl, hc⟩) (by omega)⟩
        rw [M_ofR (by omega) (by omega), eA]
        refine ⟨zRi (by omega) (by omega), ?_⟩
        rcases hh with ⟨rfl, hc⟩ | ⟨rfl, hc⟩
        · exact ⟨fun _ => yes hc, fun c => absurd c (by decide)⟩
        · have no : ¬ (A (27 + 12 * v + 0) = p ∧ bL A g by' v t) → wp_M_leadsOn_b84 τ p t by' (wp_M_leadsOn_L6 τ p t by' Q n) Q v := fun hx =>
            ⟨zRi (by omega) (by omega), ih (v + 1) 0 (by omega) (by omega) (Or.inr ⟨rfl, fun r r1 => by
              by_cases hrv : r = v
              · subst hrv; exact hx
              · exact hc r (by omega)⟩) (by omega)⟩
          refine ⟨fun c => absurd rfl c, fun _ => ?_⟩
          rw [M_ofR (by omega) (by omega), eA]
          refine ⟨fun c1 => no (fun hx => c1 hx.1), fun c1 => ⟨fun c2 => no (fun hx => by have := hx.2.2.1; omega), fun c2 => ⟨by omega, ?_⟩⟩⟩
          rw [M_ofR (by omega) (by omega), eA, M_has hr1.1 (by omega)]
          have hbit := hK (t + A (27 + 12 * v + 2)) (by omega) (by omega) (A (27 + 12 * v + 1)) hr1.1 (by omega)
          refine ⟨fun c3 => no (fun hx => ?_), fun c3 => ?_⟩
          · rw [zIf1, hbit] at c3
            exact c3 hx.2.2.2
          rw [zIf1, Classical.not_not, hbit] at c3
          refine M_whyNot (B := B) (by rw [eA]; exact hA) v0 (by rw [eA]; omega) h0 (by omega) ?_
          rw [eA]
          refine ⟨fun c4 => no (fun hx => c4 hx.2.1.2.2), fun c4 => yes ⟨v, c1, ⟨⟨v0, by omega⟩, by omega, c4⟩, by omega, c3⟩⟩
  exact ⟨(A 0).toNat + 1, key _ 0 0 (by omega) (by omega) (Or.inr ⟨rfl, fun r r1 hh => by have := hh.2.1.1; omega⟩) (by omega)⟩
theorem M_goesBack {τ : zM} {Q : zM → Prop} (hA : OKA A B) (eA : τ 80 = A) (hg : 0 ≤ g ∧ g < 8) (hb : 0 ≤ by' ∧ by' ≤ 2880) (kk : ∀ τ', FrK τ τ' → KI A g by' τ' (-1) → Q τ') : wp_M_goesBack τ g by' Q := by
  unfold wp_M_goesBack
  refine zFor (fun σ' v => 0 ≤ v ∧ FrK τ σ' ∧ ∀ u, 0 ≤ u → u < v → σ' 88 u = 0) 2881 ?_ τ 0 ⟨by omega, FrK_rfl τ, fun u u0 u1 => by omega⟩ (by omega)
  intro m σ' v hI hv ih
  obtain ⟨v0, fr, z⟩ := hI
  rw [wp_M_goesBack_L2]
  refine ⟨fun c => ?_, fun c => ⟨by omega, ?_⟩⟩
  rotate_left
  · rintro _ rfl
    refine ⟨zRi (by omega) (by omega), ih _ ⟨by omega, fun n h1 h2 => by rw [zU_n h1]; exact fr n h1 h2, fun u u0 u1 => ?_⟩ (by omega)⟩
    rw [zU_g]
    by_cases hu : u = v
    · rw [if_pos hu]
    · rw [if_neg hu]; exact z u u0 (by omega)
  refine zFor (fun σ2 v => 0 ≤ v ∧ FrK τ σ2 ∧ σ2 88 = σ' 88 ∧ ∀ u, 0 ≤ u → u < v → σ2 89 u = -6) 8 ?_ σ' 0 ⟨by omega, fr, rfl, fun u u0 u1 => by omega⟩ (by omega)
  intro m2 σ2 v2 hI2 hv2 ih2
  obtain ⟨v20, fr2, f88, z9⟩ := hI2
  rw [wp_M_goesBack_L24]
  refine ⟨fun c2 => ?_, fun c2 => ⟨by omega, ?_⟩⟩
  rotate_left
  · rintro _ rfl
    refine ⟨zRi (by omega) (by omega), ih2 _ ⟨by omega, fun n h1 h2 => by rw [zU_n h2]; exact fr2 n h1 h2, by rw [zU_n (by omega), f88], fun u u0 u1 => ?_⟩ (by omega)⟩
    rw [zU_g]
    by_cases hu : u = v2
    · rw [if_pos hu]
    · rw [if_neg hu]; exact z9 u u0 (by omega)
  refine zForD (fun σ3 t => t ≤ by' ∧ FrK τ σ3 ∧ KI A g by' σ3 t ∧ ∀ p, 0 ≤ p → p < 8 → LB A g by' t p (σ3 89 p)) (-1) ?_ σ2 by' ⟨Int.le_refl _, fr2, fun u u0 u1 k k0 k1 => ?_, fun p p0 p1 => ?_⟩ (by omega)
  rotate_left
  · rw [f88, z u u0 (by omega), zB_0]
    exact ⟨fun c => absurd c (by decide), fun c => by have := bG_rg hA hg hb.2 c.2; omega⟩
  · rw [z9 p p0 (by omega)]
    refine ⟨Or.inl rfl, fun s s0 s1 => ?_⟩
    exact ⟨fun ⟨e, e0, he, _⟩ => by have := bE_rg hA he; omega, fun hh => absurd rfl hh.1⟩
  intro m3 σ3 t hI3 ht ih3
  obtain ⟨t1, fr3, hK, hL⟩ := hI3
  rw [wp_M_goesBack_L46]
  refine ⟨fun c3 => ?_, fun c3 => ?_⟩
  · have et : t = -1 := by omega
    subst et
    exact kk σ3 fr3 hK
  refine zFor (fun σ4 v => 0 ≤ v ∧ FrK τ σ4 ∧ (∀ u, 0 ≤ u → u ≤ 2880 → ∀ k, 0 ≤ k → k < 32 → (zB (σ4 88 u) k = true ↔ (t < u ∨ (u = t ∧ k < v)) ∧ bG A g by' k u)) ∧ ∀ p, 0 ≤ p → p < 8 → LB A g by' (if p < v then t - 1 else t) p (σ4 89 p)) 8 ?_ σ3 0 ⟨by omega, fr3, fun u u0 u1 k k0 k1 => ?_, fun p p0 p1 => ?_⟩ (by omega)
  rotate_left
  · rw [hK u u0 u1 k k0 k1]
    exact ⟨fun c => ⟨Or.inl c.1, c.2⟩, fun c => ⟨by omega, c.2⟩⟩
  · rw [if_neg (by omega)]; exact hL p p0 p1
  intro m4 σ4 v4 hI4 hv4 ih4
  obtain ⟨v40, fr4, hK4, hL4⟩ := hI4
  have e80 : σ4 80 = A := by rw [fr4 80 (by omega) (by omega), eA]
  rw [wp_M_goesBack_L53]
  refine ⟨fun c4 => ⟨zRi (by omega) (by omega), ih3 σ4 ⟨by omega, fr4, fun u u0 u1 k k0 k1 => (hK4 u u0 u1 k k0 k1).trans ⟨fun c => ⟨by omega, c.2⟩, fun c => ⟨?_, c.2⟩⟩, fun p p0 p1 => ?_⟩ (by omega)⟩, fun c4 => ?_⟩
  · have := bG_rg hA hg hb.2 c.2
    omega
  · have := hL4 p p0 p1
    rw [if_pos (by omega)] at this
    exact this
  have hLv := hL4 v4 v40 (by omega)
  rw [if_neg (by omega)] at hLv
  have hpv := hA.2.2.2.1 v4 v40 (by omega)
  -- what is known of v4 after it
  have b142 : ∀ σ5 l s0, FrK τ σ5 → σ5 88 = σ4 88 → (∀ p, p ≠ v4 → σ5 89 p = σ4 89 p) → σ5 89 v4 = l → LB A g by' (t - 1) v4 l → (bG A g by' v4 t ↔ ¬ s0 = 0) → wp_M_goesBack_b142 g by' t (wp_M_goesBack_L53 g by' t (fun σ26 => zR (t + (-1)) ∧ wp_M_goesBack_L46 g by' Q m3 σ26 (t + (-1))) Q m4) Q σ5 v4 s0 := by
    intro σ5 l s0 f5 f588 o5 e5 l5 hw
    have la2 : ∀ p, 0 ≤ p → p < 8 → LB A g by' (if p < v4 + 1 then t - 1 else t) p (σ5 89 p) := by
      intro p p0 p1
      by_cases hpe : p = v4
      · subst hpe; rw [if_pos (by omega), e5]; exact l5
      · rw [o5 p hpe]
        have := hL4 p p0 p1
        by_cases hlt : p < v4
        · rw [if_pos hlt] at this; rw [if_pos (by omega)]; exact this
        · rw [if_neg hlt] at this; rw [if_neg (by omega)]; exact this
    unfold wp_M_goesBack_b142 wp_M_goesBack_b164
    rw [f588]
    refine ⟨by omega, fun c1 => ⟨by omega, ?_⟩, fun c1 => ⟨by omega, ?_⟩⟩
    · rintro _ rfl
      have hno : ¬ bG A g by' v4 t := fun c => hw.1 c c1
      refine ⟨zRi (by omega) (by omega), ih4 _ ⟨by omega, fun n h1 h2 => by rw [zU_n h1]; exact f5 n h1 h2, fun u u0 u1 k k0 k1 => ?_, fun p p0 p1 => by rw [zU_n (by omega)]; exact la2 p p0 p1⟩ (by omega)⟩
      rw [zU_g, f588]
      by_cases hu : u = t
      · subst hu
        rw [if_pos rfl, zB_or, zB_0, Bool.or_false, hK4 u u0 u1 k k0 k1]
        constructor
        · rintro ⟨a, b⟩; exact ⟨Or.inr ⟨rfl, by omega⟩, b⟩
        · rintro ⟨a, b⟩
          by_cases hk : k = v4
          · subst hk; exact absurd b hno
          · exact ⟨Or.inr ⟨rfl, by omega⟩, b⟩
      · rw [if_neg hu, hK4 u u0 u1 k k0 k1]
        exact ⟨fun c => ⟨by omega, c.2⟩, fun c => ⟨by omega, c.2⟩⟩
    · rintro _ rfl
      have hyes := hw.2 c1
      refine ⟨zRi (by omega) (by omega), ih4 _ ⟨by omega, fun n h1 h2 => by rw [zU_n h1]; exact f5 n h1 h2, fun u u0 u1 k k0 k1 => ?_, fun p p0 p1 => by rw [zU_n (by omega)]; exact la2 p p0 p1⟩ (by omega)⟩
      rw [zU_g, f588]
      by_cases hu : u = t
      · subst hu
        rw [if_pos rfl, zB_or, zB_shl v4 k v40 (by omega) k0 k1, Bool.or_eq_true, decide_eq_true_eq, hK4 u u0 u1 k k0 k1]
        constructor
        · rintro (⟨a, b⟩ | a)
          · exact ⟨Or.inr ⟨rfl, by omega⟩, b⟩
          · subst a; exact ⟨Or.inr ⟨rfl, by omega⟩, hyes⟩
        · rintro ⟨a, b⟩
          by_cases hk : k = v4
          · exact Or.inr hk
          · exact Or.inl ⟨Or.inr ⟨rfl, by omega⟩, b⟩
      · rw [if_neg hu, hK4 u u0 u1 k k0 k1]
        exact ⟨fun c => ⟨by omega, c.2⟩, fun c => ⟨by omega, c.2⟩⟩
  have b101 : ∀ σ5 l, FrK τ σ5 → σ5 88 = σ4 88 → (∀ p, p ≠ v4 → σ5 89 p = σ4 89 p) → σ5 89 v4 = l → LB A g by' (t - 1) v4 l → (bG A g by' v4 t ↔ v4 = g ∨ (l ≠ -6 ∧ l - t ≤ A (3 + 3 * v4 + 2))) → wp_M_goesBack_b101 g by' t (wp_M_goesBack_L53 g by' t (fun σ26 => zR (t + (-1)) ∧ wp_M_goesBack_L46 g by' Q m3 σ26 (t + (-1))) Q m4) Q σ5 v4 := by
    intro σ5 l f5 f588 o5 e5 l5 hw
    have e805 : σ5 80 = A := by rw [f5 80 (by omega) (by omega), eA]
    have hl := l5.1
    unfold wp_M_goesBack_b101 wp_M_goesBack_b137 wp_M_goesBack_b141
    rw [e5]
    refine ⟨fun c1 => b142 σ5 l 1 f5 f588 o5 e5 l5 (hw.trans ⟨fun _ => by decide, fun _ => Or.inl c1⟩), fun c1 => ⟨by omega, fun c2 => b142 σ5 l 0 f5 f588 o5 e5 l5 (hw.trans ⟨fun c => ?_, fun c => absurd rfl c⟩), fun c2 => ⟨by omega, ?_⟩⟩⟩
    · rcases c with c | c
      · exact absurd c c1
      · exact absurd c2 c.1
    rw [M_limitOf v40 (by omega), e805]
    refine ⟨zRi (by omega) (by omega), fun c3 => b142 σ5 l 0 f5 f588 o5 e5 l5 (hw.trans ⟨fun c => ?_, fun c => absurd rfl c⟩), fun c3 => b142 σ5 l 1 f5 f588 o5 e5 l5 (hw.trans ⟨fun _ => by decide, fun _ => Or.inr ⟨c2, by omega⟩⟩)⟩
    rcases c with c | c
    · exact absurd c c1
    · omega
  refine M_leadsOn (g := g) hA e80 hb.2 (by omega) t1 (fun u u0 u1 k k0 k1 => (hK4 u (by omega) (by omega) k k0 k1).trans ⟨fun c => c.2, fun c => ⟨Or.inl u0, c⟩⟩) (fun he => ⟨fun c => absurd c (by decide), fun _ => ⟨by omega, ?_⟩⟩) (fun he => ⟨fun _ => ?_, fun c => absurd rfl c⟩)
  · rintro _ rfl
    have := LB_here (l := 0) hA ⟨v40, by omega⟩ (by omega) t1 hb.2 he
    exact b101 _ t (fun n h1 h2 => by rw [zU_n h2]; exact fr4 n h1 h2) (zU_n (by omega)) (fun p hpe => zU_j hpe) zU_s this.1 ⟨fun _ => Or.inr ⟨by omega, by omega⟩, fun _ => this.2⟩
  · refine M_isRoomOpen v40 (by omega) (by omega) (fun co => ⟨fun _ => ?_, fun c => absurd c (by decide)⟩) (fun cc => ⟨fun c => absurd rfl c, fun _ => ⟨by omega, ?_⟩⟩)
    · rw [e80] at co
      have := LB_open hA (by omega) t1 he co hLv
      exact b101 σ4 _ fr4 rfl (fun _ _ => rfl) rfl this.1 this.2
    · rw [e80] at cc
      rintro _ rfl
      have := LB_shut (l := 0) hA (by omega) t1 he cc
      exact b101 _ (-6) (fun n h1 h2 => by rw [zU_n h2]; exact fr4 n h1 h2) (zU_n (by omega)) (fun p hpe => zU_j hpe) zU_s this.1 (this.2.trans ⟨Or.inl, fun c => c.elim id (fun c => absurd rfl c.1)⟩)
end BACK
theorem op_latest {B : Int} {σ : zM} (h : Rel B σ) (a b c : Int) : wp_X_latest σ a b c (fun r σ1 => wp_M_latest σ1 a b c (fun r' σ2 => r = r' ∧ Rel B σ2)) := by
  have hA := h.2.2.2.2.2.1.1
  by_cases h1 : 0 ≤ a ∧ a ≤ 7
  rotate_left
  · simp [wp_X_latest, wp_M_latest, X_isPlace, M_isPlace, h1, h]
  by_cases h2 : 0 ≤ b ∧ b ≤ 7
  rotate_left
  · simp [wp_X_latest, wp_M_latest, X_isPlace, M_isPlace, h1, h2, h]
  by_cases h3 : 0 ≤ c ∧ c ≤ 2880
  rotate_left
  · simp [wp_X_latest, wp_M_latest, X_isPlace, M_isPlace, X_within, M_isTime, h1, h2, h3, h]
  unfold wp_X_latest
  simp only [X_isPlace, X_within, zIf1, h1, h2, h3, true_and, not_true, not_false_eq_true, false_implies, true_implies, and_true, and_self]
  have hb : 0 ≤ b ∧ b < 8 := ⟨h2.1, by omega⟩
  have mside : ∀ (σ1 : zM) (Q : Int → zM → Prop), σ1 80 = σ 80 → (∀ res τ, (∀ n, n < 85 → τ n = σ1 n) → ((res = -6 ∧ ∀ t, ¬ bG (σ 80) b c a t) ∨ (bG (σ 80) b c a res ∧ ∀ t, res < t → ¬ bG (σ 80) b c a t)) → Q res τ) → wp_M_latest σ1 a b c Q := by
    intro σ1 Q e80 kk
    unfold wp_M_latest
    simp only [M_isPlace, M_isTime, zIf1, h1, h2, h3, true_and, not_true, not_false_eq_true, false_implies, true_implies, and_true, and_self]
    refine M_goesBack hA e80 hb h3 (fun τ fk hK => ?_)
    have hm : ∀ n, n < 85 → τ n = σ1 n := fun n hn => fk n (by omega) (by omega)
    refine zForD0 (fun t => t ≤ c ∧ ∀ u, t < u → ¬ bG (σ 80) b c a u) (-1) ?_ c ⟨Int.le_refl _, fun u u0 hu => by have := bG_rg hA hb h3.2 hu; omega⟩ (by omega)
    intro n t hI ht ih
    obtain ⟨t1, hno⟩ := hI
    rw [wp_M_latest_L35]
    refine ⟨fun c1 => kk (-6) τ hm (Or.inl ⟨rfl, fun u hu => ?_⟩), fun c1 => ⟨by omega, ?_⟩⟩
    · have := bG_rg hA hb h3.2 hu
      exact hno u (by omega) hu
    rw [M_has h1.1 (by omega)]
    have hbit := hK t (by omega) (by omega) a h1.1 (by omega)
    refine ⟨fun c2 => ⟨zRi (by omega) (by omega), ih ⟨by omega, fun u u0 hu => ?_⟩ (by omega)⟩, fun c2 => ?_⟩
    · rw [zIf1, hbit] at c2
      by_cases hut : u = t
      · subst hut; exact c2 ⟨by omega, hu⟩
      · exact hno u (by omega) hu
    · rw [zIf1, Classical.not_not, hbit] at c2
      exact kk t τ hm (Or.inr ⟨c2.2, hno⟩)
  refine ⟨fun hne => ?_, fun he => mside σ _ rfl (fun res τ hm hh => ⟨?_, Rel_same h hm⟩)⟩
  rotate_left
  · subst he
    have hg : bG (σ 80) a c a c := bG_goal h3.1 (Int.le_refl _)
    rcases hh with ⟨-, hh⟩ | ⟨hh1, hh2⟩
    · exact absurd hg (hh c)
    · have := bG_rg hA hb h3.2 hh1
      apply Classical.byContradiction
      intro hne
      exact hh2 c (by omega) hg
  refine G_prepare h.1 hA h.2.2.2.2.1 (fun σ1 f1 g1 tab => ?_)
  have wq1 : WQ (σ 80) σ σ1 := ⟨fun n hn => f1 n (by omega) (by omega), g1, tab⟩
  refine B_start hA hb h3.2 (fun σ2 f2 bi => ?_)
  have wq2 : WQ (σ 80) σ σ2 := WQ_o wq1 (fun n hn => f2 n (by omega) (by omega) (by omega))
  refine zForD (fun σ' t => t ≤ c ∧ WQ (σ 80) σ σ' ∧ BI (σ 80) b c σ' t ∧ ∀ u, t < u → ¬ bG (σ 80) b c a u) (-1) ?_ σ2 c ⟨Int.le_refl _, wq2, bi, fun u u0 hu => by have := bG_rg hA hb h3.2 hu; omega⟩ (by omega)
  intro n σ' t hI ht ih
  obtain ⟨t1, wq, bi', hno⟩ := hI
  rw [wp_X_latest_L60]
  refine ⟨fun c1 => mside σ' _ (wq.1 80 (by omega)) (fun res τ hm hh => ⟨?_, Rel_way h wq hm⟩), fun c1 => ?_⟩
  · rcases hh with ⟨hh, -⟩ | ⟨hh1, hh2⟩
    · exact hh.symm
    · have := bG_rg hA hb h3.2 hh1
      exact absurd hh1 (hno res (by omega))
  rw [G_at (by omega) (by omega)]
  have hb0 := hA.1
  refine B_minute (WQ_RX wq h.1) hA hb h3.2 ⟨by omega, t1⟩ (fun r r0 r1 => ?_) bi' (fun σ3 f3 bi3 => ?_)
  · rw [wq.2.2 t (by omega) (by omega) r r0 (by omega)]
    exact ⟨fun hh => ⟨⟨r0, r1⟩, by omega, hh.2⟩, fun hh => ⟨r1, hh.2.2⟩⟩
  have wq3 : WQ (σ 80) σ σ3 := WQ_o wq (fun n hn => f3 n (by omega) (by omega) (by omega))
  refine B_leads hA hb h3.2 bi3 ⟨h1.1, by omega⟩ (by omega) (fun hy => ⟨fun c => absurd c (by decide), fun _ => mside σ3 _ (wq3.1 80 (by omega)) (fun res τ hm hh => ⟨?_, Rel_way h wq3 hm⟩)⟩) (fun hn => ⟨fun _ => ⟨zRi (by omega) (by omega), ih σ3 ⟨by omega, wq3, by rw [show t + (-1) = t - 1 by omega]; exact bi3, fun u u0 hu => ?_⟩ (by omega)⟩, fun c => absurd rfl c⟩)
  · rcases hh with ⟨-, hh⟩ | ⟨hh1, hh2⟩
    · exact absurd hy (hh t)
    · apply Classical.byContradiction
      intro hne
      by_cases hlt : res < t
      · exact hh2 t hlt hy
      · exact hno res (by omega) hh1
  · by_cases hut : u = t
    · subst hut; exact hn hu
    · exact hno u (by omega) hu
