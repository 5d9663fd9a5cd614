/-! the roads without which one comes later -/
section NEED
variable {A : Int → Int} {B p0 t0 g by' : Int}
theorem wH_mono {c0 w p t : Int} (h : wH A p0 t0 c0 w p t) : wH A p0 t0 c0 (-6) p t := by
  refine h (fun p t => wH A p0 t0 c0 (-6) p t) ⟨fun t hs => wH_start hs, fun r s t hs hu hz => ?_⟩
  exact wH_step ⟨r, s, hs, ⟨hu.1, by have := hu.1; omega, hu.2.2⟩, rfl, rfl⟩ hz
theorem wC_mono {c0 w p t : Int} (h : wC A p0 t0 c0 w p t) : wC A p0 t0 c0 (-6) p t := by
  obtain ⟨r, s, h1, h2, h3⟩ := h
  exact ⟨r, s, wH_mono h1, ⟨h2.1, by have := h2.1; omega, h2.2.2⟩, h3⟩
/-- where a way comes to the goal in time, one leads there -/
theorem wC_bG (hA : OKA A B) (hp : 0 ≤ p0 ∧ p0 < 8) (ht0 : 0 ≤ t0 ∧ t0 ≤ 2880) (hg : 0 ≤ g ∧ g < 8) (hb : by' ≤ 2880) (h : wC A p0 t0 t0 (-6) g by') : bG A g by' p0 t0 := by
  have hpr := hA.2.2.2.1 p0 hp.1 hp.2
  have key : ∀ p t, wH A p0 t0 t0 (-6) p t → bE A g by' p t → bG A g by' p0 t0 := by
    intro p t hw
    have := hw (fun p t => t0 ≤ t ∧ (bE A g by' p t → bG A g by' p0 t0)) ⟨fun t hs => ?_, fun r s t hR hu hz => ?_⟩
    · exact this.2
    · have hr := sT_rg ht0.2 hs
      exact ⟨hr.1, fun he => bG_step ht0.1 ((wE_iff (by omega) (by omega) ht0.1 hr.1).1 ((sT_wE hA hp ht0 t hr.1 hr.2).2 hs)) he⟩
    · have hur := uR_rg hA hu
      have hz1 := hz.1
      have hR1 := hR.1
      refine ⟨by omega, fun he => ?_⟩
      have hbg : bG A g by' (A (27 + 12 * r + 1)) (s + A (27 + 12 * r + 2)) := bG_step (by omega) hz he
      exact hR.2 ⟨r, rfl, hu, (bG_rg hA hg hb hbg).1.2, hbg⟩
  obtain ⟨r, s, h1, h2, h3, h4⟩ := h
  refine key _ s h1 ⟨r, rfl, h2, by omega, ?_⟩
  rw [h3, h4]
  have := uR_rg hA h2
  have := wH_rg hA hp ht0.2 h1
  exact bG_goal (by omega) (Int.le_refl _)
theorem X_roadLeadingOn {σ : zM} {p t : Int} {Q : Int → Prop} (hA : OKA A B) (hL : LBk A g by' σ t0) (hg : 0 ≤ g ∧ g < 8) (hb : by' ≤ 2880) (ht : 0 ≤ t0) (h0 : t0 ≤ t) (h1 : t ≤ 2880) (ky : ∀ r, 0 ≤ r → r < A 0 → A (27 + 12 * r + 0) = p → bL A g by' r t → Q r) (kn : ¬ bE A g by' p t → Q (-6)) : wp_X_roadLeadingOn σ p t Q := by
  have hb0 := hA.1
  unfold wp_X_roadLeadingOn
  refine zFor0 (fun v => 0 ≤ v ∧ ∀ r, 0 ≤ r → r < v → A (27 + 12 * r + 0) = p → ¬ bL A g by' r t) (A 0) ?_ 0 ⟨by omega, fun r r0 r1 => by omega⟩ (by omega)
  intro n v hI hv ih
  obtain ⟨v0, hno⟩ := hI
  rw [wp_X_roadLeadingOn_L2, hL.1.1.1]
  refine ⟨fun c => kn (fun ⟨r, hp, hh⟩ => ?_), fun c => ?_⟩
  · have := hh.1.1
    exact hno r this.1 (by omega) hp hh
  rw [S_ofR' hL.1 v0 (by omega) hb0.2 (by omega) (by omega)]
  have skip : (A (27 + 12 * v + 0) = p → ¬ bL A g by' v t) → wp_X_roadLeadingOn_b37 σ p t (wp_X_roadLeadingOn_L2 σ p t Q n) Q v := fun hx => ⟨zRi (by omega) (by omega), ih ⟨by omega, fun r r0 r1 hp => by
    by_cases hrv : r = v
    · subst hrv; exact hx hp
    · exact hno r r0 (by omega) hp⟩ (by omega)⟩
  refine ⟨fun c1 => skip (fun hp => absurd hp c1), fun c1 => ?_⟩
  exact X_leadsOn hA hL hg hb ht v0 (by omega) h0 h1 (fun hy => ⟨fun c2 => absurd c2 (by decide), fun _ => ky v v0 (by omega) c1 hy⟩) (fun hn => ⟨fun _ => skip (fun _ => hn), fun c2 => absurd rfl c2⟩)
/-- one comes to p at s, by other roads than those of S -/
def aR (A : Int → Int) (p0 t0 : Int) (S p s : Int) : Prop := (p = p0 ∧ s = t0) ∨ ∀ r, 0 ≤ r → r < A 0 → zB S r = false → wC A p0 t0 t0 r p s
theorem X_roadsOfOneWay {σ : zM} {Q : Int → Prop} (hA : OKA A B) (hL : LBk A g by' σ t0) (hp : 0 ≤ p0 ∧ p0 < 8) (ht0 : 0 ≤ t0 ∧ t0 ≤ 2880) (hg : 0 ≤ g ∧ g < 8) (hb : by' ≤ 2880) (hne : ¬ p0 = g) (hG : bG A g by' p0 t0) (kk : ∀ S s, s ≤ by' → (∀ r, 0 ≤ r → r < A 0 → zB S r = false → wC A p0 t0 t0 r g s) → Q S) : wp_X_roadsOfOneWay σ p0 g t0 Q := by
  have hb0 := hA.1
  have hpr0 := hA.2.2.2.1 p0 hp.1 hp.2
  unfold wp_X_roadsOfOneWay
  have key : ∀ (n : Nat) (p S t s : Int), (t0 ≤ s ∧ s ≤ t) → (0 ≤ p ∧ p < 8) → s ≤ by' → aR A p0 t0 S p s → (p = g ∨ ∃ e, t ≤ e ∧ zW A p s e ∧ bE A g by' p e) → (2881 - t < n ∧ 0 < n) → wp_X_roadsOfOneWay_L9 σ g Q n p S t := by
    intro n
    induction n with
    | zero => intro p S t s _ _ _ _ _ h; omega
    | succ n ih =>
      intro p S t s hs hpp hsb ha hon hn
      have done : p = g → Q S := by
        intro hpg
        subst hpg
        refine kk S s hsb (fun r r0 r1 hz => ?_)
        rcases ha with ⟨h1, -⟩ | ha
        · exact absurd h1.symm hne
        · exact ha r r0 r1 hz
      rw [wp_X_roadsOfOneWay_L9]
      refine ⟨fun c => done ?_, fun c => ⟨done, fun c1 => ?_⟩⟩
      · rcases hon with hon | ⟨e, e0, -, he⟩
        · exact hon
        · have := bE_rg hA he; omega
      rcases hon with hon | ⟨e, e0, hz, he⟩
      · exact absurd hon c1
      refine X_roadLeadingOn hA hL hg hb ht0.1 (by omega) (by omega) (fun r r0 r1 hrp hbl => ?_) (fun hno => ?_)
      · refine ⟨fun c2 => by omega, fun _ => ?_⟩
        have hur := uR_rg hA hbl.1
        rw [S_ofR' hL.1 r0 r1 hb0.2 (by omega) (by omega), S_ofR' hL.1 r0 r1 hb0.2 (by omega) (by omega)]
        refine ⟨zRi (by omega) (by omega), zRi (by omega) (by omega), ?_⟩
        have et : t + (A (27 + 12 * r + 2) - 1) + 1 = t + A (27 + 12 * r + 2) := by omega
        rw [et]
        refine ih _ _ _ (t + A (27 + 12 * r + 2)) (by omega) hur.2.1 hbl.2.1 (Or.inr (fun r' r0' r1' hz' => ?_)) ?_ (by omega)
        · rw [zB_or, zB_shl r r' r0 (by omega) r0' (by omega), Bool.or_eq_false_iff, decide_eq_false_iff_not] at hz'
          have hzt : zW A p s t := ⟨hs.2, by omega, fun x x0 x1 => hz.2.2.1 x x0 (by omega), by have := hz.2.2.2; omega⟩
          have hw : wH A p0 t0 t0 r' p t := by
            rcases ha with ⟨h1, h2⟩ | ha
            · subst h1
              subst h2
              refine wH_start ⟨hs.2, ?_⟩
              by_cases h3 : t = s
              · exact Or.inl h3
              · exact Or.inr ⟨hzt.2.1, hzt.2.2.1, hzt.2.2.2⟩
            · exact wH_step (ha r' r0' r1' hz'.1) hzt
          refine ⟨r, t, by rw [hrp]; exact hw, ⟨hbl.1.1, fun hh => hz'.2 hh.symm, hbl.1.2.2⟩, rfl, rfl⟩
        · rcases (bG_inv hbl.2.2).2 with ⟨h1, -⟩ | ⟨e', h1, h2⟩
          · exact Or.inl h1
          · exact Or.inr ⟨e', h1.1, h1, h2⟩
      · refine ⟨fun _ => ⟨zRi (by omega) (by omega), ih p S (t + 1) s (by omega) hpp hsb ha (Or.inr ⟨e, ?_, hz, he⟩) (by omega)⟩, fun c2 => absurd rfl c2⟩
        by_cases het : e = t
        · subst het; exact absurd he hno
        · omega
  have hGr := bG_rg hA hg hb hG
  refine ⟨(2881 - t0).toNat + 1, key _ p0 0 t0 t0 (by omega) hp hGr.1.2 (Or.inl ⟨rfl, rfl⟩) (Or.inr ?_) (by omega)⟩
  rcases (bG_inv hG).2 with ⟨h1, -⟩ | ⟨e', h1, h2⟩
  · exact absurd h1 hne
  · exact ⟨e', h1.1, h1, h2⟩
theorem zXor_one (v r : Int) (v0 : 0 ≤ v) (v1 : v < 32) (r0 : 0 ≤ r) (r1 : r < 32) : zB (zXor (zShl 1 v) (-1)) r = true ↔ r ≠ v := by
  rw [zB_not _ r r0 r1, zB_shl v r v0 v1 r0 r1]
  simp
end NEED
theorem op_needed {B : Int} {σ : zM} (h : Rel B σ) (a b c : Int) : wp_X_needed σ a b c (fun r σ1 => wp_M_needed σ1 a b c (fun r' σ2 => r = r' ∧ Rel B σ2)) := by
  have hA := h.2.2.2.2.2.1.1
  have hA0 := hA.1
  by_cases h1 : 0 ≤ a ∧ a ≤ 7
  rotate_left
  · simp [wp_X_needed, wp_M_needed, X_isPlace, M_isPlace, h1, h]
  by_cases h2 : 0 ≤ b ∧ b ≤ 7
  rotate_left
  · simp [wp_X_needed, wp_M_needed, X_isPlace, M_isPlace, h1, h2, h]
  by_cases h3 : 0 ≤ c ∧ c ≤ 2880
  rotate_left
  · simp [wp_X_needed, wp_M_needed, X_isPlace, M_isPlace, X_within, M_isTime, h1, h2, h3, h]
  have ha : 0 ≤ a ∧ a < 8 := ⟨h1.1, by omega⟩
  have hb : 0 ≤ b ∧ b < 8 := ⟨h2.1, by omega⟩
  unfold wp_X_needed
  simp only [X_isPlace, X_within, zIf1, h1, h2, h3, true_and, not_true, not_false_eq_true, false_implies, true_implies, and_true, and_self]
  -- the reference: the same place
  refine ⟨fun hne => ?_, fun he => ?_⟩
  rotate_left
  · unfold wp_M_needed
    simp only [M_isPlace, M_isTime, zIf1, h1, h2, h3, true_and, not_true, not_false_eq_true, false_implies, true_implies, and_true, and_self]
    unfold wp_M_earliestOf
    refine ⟨fun c1 => absurd he c1, fun _ => ⟨1, ?_⟩⟩
    rw [wp_M_needed_L41]
    exact ⟨fun _ => ⟨rfl, h⟩, fun _ => ⟨fun _ => ⟨rfl, h⟩, fun c1 => absurd he c1⟩⟩
  have mside : ∀ (σ1 : zM) (Q : Int → zM → Prop), σ1 80 = σ 80 → (∀ res ans τ, FC (σ 80) a c c (-6) b 2880 res → (∀ n, n < 85 → τ n = σ1 n) → zR ans → (∀ k, 0 ≤ k → k < 32 → (zB ans k = true ↔ res ≠ -6 ∧ k < σ 80 0 ∧ ¬ wC (σ 80) a c c k b res)) → Q ans τ) → wp_M_needed σ1 a b c Q := by
    intro σ1 Q e80 kk
    unfold wp_M_needed
    simp only [M_isPlace, M_isTime, zIf1, h1, h2, h3, true_and, not_true, not_false_eq_true, false_implies, true_implies, and_true, and_self]
    unfold wp_M_earliestOf
    refine ⟨fun _ => ?_, fun c1 => absurd c1 hne⟩
    refine M_spreads hA e80 ha h3 ⟨h3.1, Int.le_refl _⟩ (fun τ fs ms => ?_)
    refine M_firstAt hA ha h3 hb ms (fun res fc => ?_)
    have hm0 : ∀ n, n < 85 → τ n = σ1 n := fun n hn => fs n (by omega) (by omega) (by omega)
    have key : ∀ (n : Nat) (τ' : zM) (S v : Int), 0 ≤ v → v ≤ σ 80 0 → zR S → (∀ n, n < 85 → τ' n = σ1 n) → (∀ k, 0 ≤ k → k < 32 → (zB S k = true ↔ res ≠ -6 ∧ k < v ∧ ¬ wC (σ 80) a c c k b res)) → σ 80 0 - v < n → wp_M_needed_L41 a b c res Q n τ' S v := by
      intro n
      induction n with
      | zero => intro τ' S v _ _ _ _ _ _; omega
      | succ n ih =>
        intro τ' S v v0 v1 hz hm hS hn
        have e80' : τ' 80 = σ 80 := (hm 80 (by omega)).trans e80
        rw [wp_M_needed_L41, e80']
        refine ⟨fun c1 => kk res S τ' fc hm hz (fun k k0 k1 => by rw [hS k k0 k1, show v = σ 80 0 by omega]), fun c1 => ⟨fun c2 => absurd c2 hne, fun _ => ⟨fun c2 => kk res S τ' fc hm hz (fun k k0 k1 => by rw [hS k k0 k1]; exact ⟨fun hh => absurd c2 hh.1, fun hh => absurd c2 hh.1⟩), fun c2 => ?_⟩⟩⟩
        refine M_spreads (w := v) hA e80' ha h3 ⟨h3.1, Int.le_refl _⟩ (fun τ2 fs2 ms2 => ?_)
        have hm2 : ∀ n, n < 85 → τ2 n = σ1 n := fun n hn => (fs2 n (by omega) (by omega) (by omega)).trans (hm n hn)
        refine M_firstAt hA ha h3 hb ms2 (fun res2 fc2 => ?_)
        have hres : c < res ∧ res ≤ 2880 ∧ wC (σ 80) a c c (-6) b res ∧ ∀ t, t < res → ¬ wC (σ 80) a c c (-6) b t := by
          rcases fc with ⟨g, -⟩ | ⟨g1, g2, g3, g4⟩
          · exact absurd g c2
          · exact ⟨g1, g2, g3, g4⟩
        have hiff : res2 = res ↔ wC (σ 80) a c c v b res := by
          constructor
          · intro he
            rcases fc2 with ⟨g, -⟩ | ⟨g1, g2, g3, g4⟩
            · omega
            · rw [← he]; exact g3
          · intro hw
            rcases fc2 with ⟨g, g2⟩ | ⟨g1, g2, g3, g4⟩
            · exact absurd hw (g2 res hres.2.1)
            · apply Classical.byContradiction
              intro hx
              by_cases hl : res2 < res
              · exact hres.2.2.2 res2 hl (wC_mono g3)
              · exact g4 res (by omega) hw
        refine ⟨fun c3 => ⟨zRi (by omega) (by omega), ih τ2 _ (v + 1) (by omega) (by omega) (zOr_rg _ _) hm2 (fun k k0 k1 => ?_) (by omega)⟩, fun c3 => ⟨zRi (by omega) (by omega), ih τ2 _ (v + 1) (by omega) (by omega) (zOr_rg _ _) hm2 (fun k k0 k1 => ?_) (by omega)⟩⟩
        · rw [zOr_0 hz, hS k k0 k1]
          have hw := hiff.1 c3
          constructor
          · rintro ⟨g1, g2, g3⟩; exact ⟨g1, by omega, g3⟩
          · rintro ⟨g1, g2, g3⟩
            refine ⟨g1, ?_, g3⟩
            by_cases hk : k = v
            · subst hk; exact absurd hw g3
            · omega
        · rw [zB_or, zB_shl v k v0 (by omega) k0 k1, Bool.or_eq_true, decide_eq_true_eq, hS k k0 k1]
          constructor
          · rintro (⟨g1, g2, g3⟩ | g)
            · exact ⟨g1, by omega, g3⟩
            · subst g; exact ⟨c2, by omega, fun hw => c3 (hiff.2 hw)⟩
          · rintro ⟨g1, g2, g3⟩
            by_cases hk : k = v
            · exact Or.inr hk
            · exact Or.inl ⟨g1, by omega, g3⟩
    exact ⟨(σ 80 0).toNat + 1, key _ τ 0 0 (by omega) (by omega) zR_0 hm0 (fun k k0 k1 => by rw [zB_0]; exact ⟨fun c => absurd c (by decide), fun c => by omega⟩) (by omega)⟩
  unfold wp_X_earliestTime
  refine ⟨fun _ => ?_, fun c => absurd c hne⟩
  refine S_waitEnd h.1 hA ha.1 ha.2 h3.1 h3.2 ?_
  refine X_firstComing (w := -6) (c0 := c) h.1 hA h.2.2.2.2.1 ha h3 (by omega) (sT_wE hA ha h3) hb zXor_none (fun res σ1 wq fc => ?_)
  refine ⟨fun cn => ?_, fun cn => mside σ1 _ (wq.1 80 (by omega)) (fun res' ans τ fc' hm hz hS => ⟨zB_ext zR_0 hz (fun k k0 k1 => ?_), Rel_way h wq hm⟩)⟩
  rotate_left
  · rw [zB_0, Bool.eq_iff_iff, hS k k0 k1, FC_uniq fc' fc]
    exact ⟨fun c => absurd c (by decide), fun hh => absurd cn hh.1⟩
  have hres : c < res ∧ res ≤ 2880 ∧ wC (σ 80) a c c (-6) b res ∧ ∀ t, t < res → ¬ wC (σ 80) a c c (-6) b t := by
    rcases fc with ⟨g, -⟩ | ⟨g1, g2, g3, g4⟩
    · exact absurd g cn
    · exact ⟨g1, g2, g3, g4⟩
  have hR1 := WQ_RX wq h.1
  refine X_lookBack hR1 hA ⟨Or.inr wq.2.1, fun _ => wq.2.2⟩ hb hres.2.1 ⟨h3.1, by omega⟩ (fun σ2 wq2 lb => ?_)
  have wq' : WQ (σ 80) σ σ2 := WQ_trans wq.1 wq2
  refine X_roadsOfOneWay hA lb ha h3 hb hres.2.1 hne (wC_bG hA ha h3 hb hres.2.1 hres.2.2.1) (fun T s hs hT => ?_)
  -- a road that was not tried is not needed
  have hunt : ∀ r, 0 ≤ r → r < σ 80 0 → zB T r = false → wC (σ 80) a c c r b res := by
    intro r r0 r1 hz
    have hw := hT r r0 r1 hz
    have hs2 : s = res := by
      apply Classical.byContradiction
      intro hx
      exact hres.2.2.2 s (by omega) (wC_mono hw)
    rw [← hs2]; exact hw
  refine S_waitEnd (WQ_RX wq' h.1) hA ha.1 ha.2 h3.1 h3.2 ?_
  have key : ∀ (n : Nat) (σ' : zM) (S v : Int), 0 ≤ v → v ≤ σ 80 0 → zR S → WQ (σ 80) σ σ' → (∀ k, 0 ≤ k → k < 32 → (zB S k = true ↔ k < v ∧ ¬ wC (σ 80) a c c k b res)) → σ 80 0 - v < n → wp_X_needed_L89 a b c res T (wE (σ 80) a c) (fun r σ1 => wp_M_needed σ1 a b c (fun r' σ2 => r = r' ∧ Rel B σ2)) n σ' S v := by
    intro n
    induction n with
    | zero => intro σ' S v _ _ _ _ _ _; omega
    | succ n ih =>
      intro σ' S v v0 v1 hz wq3 hS hn
      have hR3 := WQ_RX wq3 h.1
      rw [wp_X_needed_L89, hR3.1.1]
      refine ⟨fun c1 => mside σ' _ (wq3.1 80 (by omega)) (fun res' ans τ fc' hm hz' hS' => ⟨zB_ext hz hz' (fun k k0 k1 => ?_), Rel_way h wq3 hm⟩), fun c1 => ?_⟩
      · rw [Bool.eq_iff_iff, hS' k k0 k1, FC_uniq fc' fc, hS k k0 k1, show v = σ 80 0 by omega]
        exact ⟨fun hh => ⟨cn, hh⟩, fun hh => hh.2⟩
      have next : ∀ σ4 S', WQ (σ 80) σ σ4 → zR S' → (∀ k, 0 ≤ k → k < 32 → (zB S' k = true ↔ k < v + 1 ∧ ¬ wC (σ 80) a c c k b res)) → wp_X_needed_b140 a b c res T (wE (σ 80) a c) (wp_X_needed_L89 a b c res T (wE (σ 80) a c) (fun r σ1 => wp_M_needed σ1 a b c (fun r' σ2 => r = r' ∧ Rel B σ2)) n) (fun r σ1 => wp_M_needed σ1 a b c (fun r' σ2 => r = r' ∧ Rel B σ2)) σ4 S' v := fun σ4 S' wq4 hz4 hS4 => ⟨zRi (by omega) (by omega), ih σ4 S' (v + 1) (by omega) (by omega) hz4 wq4 hS4 (by omega)⟩
      have same : wC (σ 80) a c c v b res → ∀ k, 0 ≤ k → k < 32 → (zB S k = true ↔ k < v + 1 ∧ ¬ wC (σ 80) a c c k b res) := by
        intro hw k k0 k1
        rw [hS k k0 k1]
        constructor
        · rintro ⟨g2, g3⟩; exact ⟨by omega, g3⟩
        · rintro ⟨g2, g3⟩
          refine ⟨?_, g3⟩
          by_cases hk : k = v
          · subst hk; exact absurd hw g3
          · omega
      rw [X_has v0 (by omega)]
      refine ⟨fun c2 => next σ' S wq3 hz (same (hunt v v0 (by omega) ?_)), fun c2 => ?_⟩
      · rw [zIf1] at c2
        simpa using c2
      · refine X_firstComing (w := v) (c0 := c) hR3 hA ⟨Or.inr wq3.2.1, fun _ => wq3.2.2⟩ ha ⟨h3.1, by omega⟩ hres.2.1 (sT_wE hA ha h3) hb (fun r r0 r1 => zXor_one v r v0 (by omega) r0 r1) (fun res2 σ4 wq4 fc4 => ?_)
        have wq5 : WQ (σ 80) σ σ4 := WQ_trans wq3.1 wq4
        refine ⟨fun c3 => next σ4 S wq5 hz (same ?_), fun c3 => next σ4 _ wq5 (zOr_rg _ _) (fun k k0 k1 => ?_)⟩
        · rcases fc4 with ⟨g, -⟩ | ⟨g1, g2, g3, g4⟩
          · exact absurd g c3
          · have : res2 = res := by
              apply Classical.byContradiction
              intro hx
              exact hres.2.2.2 res2 (by omega) (wC_mono g3)
            rw [← this]; exact g3
        · have hno : ¬ wC (σ 80) a c c v b res := by
            rcases fc4 with ⟨-, g⟩ | ⟨g1, -⟩
            · exact g res (Int.le_refl _)
            · omega
          rw [zB_or, zB_shl v k v0 (by omega) k0 k1, Bool.or_eq_true, decide_eq_true_eq, hS k k0 k1]
          constructor
          · rintro (⟨g2, g3⟩ | g)
            · exact ⟨by omega, g3⟩
            · subst g; exact ⟨by omega, hno⟩
          · rintro ⟨g2, g3⟩
            by_cases hk : k = v
            · exact Or.inr hk
            · exact Or.inl ⟨by omega, g3⟩
  exact ⟨(σ 80 0).toNat + 1, key _ σ2 0 0 (by omega) (by omega) zR_0 wq' (fun k k0 k1 => by rw [zB_0]; exact ⟨fun c => absurd c (by decide), fun c => by omega⟩) (by omega)⟩
