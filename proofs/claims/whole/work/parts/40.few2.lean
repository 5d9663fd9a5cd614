/-! the fewest roads: the reference -/
section FEW2
variable {A : Int → Int} {B p0 t0 : Int}
theorem M_fewestAt (hA : OKA A B) (hp : 0 ≤ p0 ∧ p0 < 8) (ht0 : 0 ≤ t0 ∧ t0 ≤ 2880) {τ : zM} {p t : Int} {Q : Int → Prop} (eA : τ 80 = A) (hpp : 0 ≤ p ∧ p < 8) (ht : t0 ≤ t ∧ t ≤ 2880) (hF : ∀ s, t0 ≤ s → s ≤ t → lst (cN A p0 t0 p s) 69120 (τ 90 (8 * s + p))) (kk : ∀ res, lst (dN A p0 t0 p t) 69120 res → Q res) : wp_M_fewestAt τ p t t0 Q := by
  have hpr := hA.2.2.2.1 p hpp.1 hpp.2
  unfold wp_M_fewestAt
  have key : ∀ (n : Nat) (l s : Int), s ≤ t → t0 - 1 ≤ s → (∀ x, s < x → x < t → rO A p x) → lst (fun n => ∃ s', s < s' ∧ cN A p0 t0 p s' n ∧ zW A p s' t) 69120 l → s - t0 + 1 < n → wp_M_fewestAt_L7 τ p t t0 Q n l s := by
    intro n
    induction n with
    | zero => intro l s _ _ _ _ _; omega
    | succ n ih =>
      intro l s s1 s0 hop hl hn
      have stop : (∀ s' m, s' ≤ s → cN A p0 t0 p s' m → ¬ zW A p s' t) → Q l := fun hx => kk l (lst_congr (fun m => ⟨fun ⟨s', _, h⟩ => ⟨s', h⟩, fun ⟨s', h1, h2⟩ => ⟨s', by
        apply Classical.byContradiction
        intro hlt
        exact hx s' m (by omega) h1 h2, h1, h2⟩⟩) hl)
      rw [wp_M_fewestAt_L7]
      refine ⟨fun c => stop (fun s' m hs hc => by have := cN_rg hA hp ht0.2 hc; omega), fun c => ?_⟩
      rw [M_limitOf hpp.1 hpp.2, eA]
      refine ⟨zRi (by omega) (by omega), fun c1 => stop (fun s' m hs hc hz => by have := hz.2.2.2; omega), fun c1 => ?_⟩
      have body : (∀ x, s ≤ x → x < t → rO A p x) → wp_M_fewestAt_b44 τ p t t0 (wp_M_fewestAt_L7 τ p t t0 Q n) Q l s := by
        intro hop2
        have hz : zW A p s t := ⟨s1, ht.2, hop2, by omega⟩
        have hlo := lst_or hl (hF s (by omega) s1) (fun m ⟨s', _, h, _⟩ => by have := cN_rg hA hp ht0.2 h; omega) (fun m h => by have := cN_rg hA hp ht0.2 h; omega)
        have hlo2 : lst (fun n => ∃ s', s + (-1) < s' ∧ cN A p0 t0 p s' n ∧ zW A p s' t) 69120 (if l ≤ τ 90 (8 * s + p) then l else τ 90 (8 * s + p)) := by
          refine lst_congr (fun m => ?_) hlo
          constructor
          · rintro (⟨s', h1, h2⟩ | h)
            · exact ⟨s', by omega, h2⟩
            · exact ⟨s, by omega, h, hz⟩
          · rintro ⟨s', h1, h2, h3⟩
            by_cases hs : s' = s
            · subst hs; exact Or.inr h2
            · exact Or.inl ⟨s', by omega, h2, h3⟩
        refine ⟨by omega, fun c2 => ⟨zRi (by omega) (by omega), ih _ (s + (-1)) (by omega) (by omega) (fun x x0 x1 => hop2 x (by omega) x1) (by rw [if_pos c2] at hlo2; exact hlo2) (by omega)⟩, fun c2 => ⟨zRi (by omega) (by omega), ih _ (s + (-1)) (by omega) (by omega) (fun x x0 x1 => hop2 x (by omega) x1) (by rw [if_neg c2] at hlo2; exact hlo2) (by omega)⟩⟩
      refine ⟨fun c2 => body (fun x x0 x1 => by omega), fun c2 => ?_⟩
      refine M_isRoomOpen hpp.1 hpp.2 (by omega) (fun co => ⟨fun _ => body (fun x x0 x1 => ?_), fun c => absurd c (by decide)⟩) (fun cc => ⟨fun c => absurd rfl c, fun _ => stop (fun s' m hs hc hz => ?_)⟩)
      · rw [eA] at co
        by_cases hx : x = s
        · subst hx; exact co
        · exact hop x (by omega) x1
      · rw [eA] at cc
        exact cc (hz.2.2.1 s hs (by omega))
  exact ⟨(t - t0 + 1).toNat + 1, key _ 69120 t (Int.le_refl _) (by omega) (fun x x0 x1 => by omega) (Or.inl ⟨rfl, fun m ⟨s', h1, _, h2⟩ => by have := h2.1; omega⟩) (by omega)⟩
def FrW (τ τ' : zM) : Prop := ∀ n, n ≠ 90 → τ' n = τ n
theorem FrW_rfl (τ : zM) : FrW τ τ := fun _ _ => rfl
theorem FrW_U {a b : zM} {j v : Int} (h : FrW a b) : FrW a (zU b 90 j v) := fun n h1 => by rw [zU_n h1]; exact h n h1
def cD (A : Int → Int) (p0 t0 : Int) (D : Int → Int → Prop) (p u n : Int) : Prop := (p = p0 ∧ u = t0 ∧ n = 0) ∨ eD A p0 t0 D p u n
/-- the reference's table -/
def MF (A : Int → Int) (p0 t0 : Int) (D : Int → Int → Prop) (τ : zM) : Prop := ∀ u p, 0 ≤ p → p < 8 → t0 ≤ u → u ≤ 2880 → lst (cD A p0 t0 D p u) 69120 (τ 90 (8 * u + p))
theorem MF_congr {D D' : Int → Int → Prop} {τ : zM} (e : ∀ p u n, eD A p0 t0 D p u n ↔ eD A p0 t0 D' p u n) (h : MF A p0 t0 D τ) : MF A p0 t0 D' τ := fun u p p0' p1 u0 u1 => lst_congr (fun n => by unfold cD; rw [e p u n]) (h u p p0' p1 u0 u1)
theorem M_L76 (hA : OKA A B) (hp : 0 ≤ p0 ∧ p0 < 8) (ht0 : 0 ≤ t0 ∧ t0 ≤ 2880) {τ : zM} {p t b x2 x3 x4 : Int} {k : zM → Prop} {Q : Int → zM → Prop} (eA : τ 80 = A) (hpp : 0 ≤ p ∧ p < 8) (ht : t0 ≤ t ∧ t ≤ 2880) (hb : lst (dN A p0 t0 p t) 69120 b) (hF : MF A p0 t0 (fun r e => e < t ∨ (e = t ∧ A (27 + 12 * r + 0) < p)) τ) (kk : ∀ τ', FrW τ τ' → MF A p0 t0 (fun r e => e < t ∨ (e = t ∧ A (27 + 12 * r + 0) < p + 1)) τ' → k τ') : ∃ n, wp_M_fewestRoads_L76 x2 x3 x4 69120 t p b k Q n τ 0 := by
  have hb0 := hA.1
  refine zFor (fun σ' v => 0 ≤ v ∧ FrW τ σ' ∧ MF A p0 t0 (fun r e => e < t ∨ (e = t ∧ (A (27 + 12 * r + 0) < p ∨ (A (27 + 12 * r + 0) = p ∧ r < v)))) σ') (A 0) ?_ τ 0 ⟨by omega, FrW_rfl τ, MF_congr (fun q u n => ⟨eD_mono (fun r e h => by omega), fun h => ?_⟩) hF⟩ (by omega)
  rotate_left
  · obtain ⟨r, e, m, h0, h1, h2, h3⟩ := h
    have := h2.1
    exact ⟨r, e, m, by omega, h1, h2, h3⟩
  intro m σ' v hI hv ih
  obtain ⟨v0, fr, mf⟩ := hI
  have e80 : σ' 80 = A := by rw [fr 80 (by omega), eA]
  rw [wp_M_fewestRoads_L76, e80]
  refine ⟨fun c => kk σ' fr (MF_congr (fun q u n => ⟨fun h => ?_, fun h => ?_⟩) mf), fun c => ⟨fun c1 => kk σ' fr (MF_congr (fun q u n => ⟨fun h => ?_, fun h => ?_⟩) mf), fun c1 => ?_⟩⟩
  · exact eD_mono (fun r e h => by omega) h
  · obtain ⟨r, e, m, h0, h1, h2, h3⟩ := h
    have := h2.1
    exact ⟨r, e, m, by omega, h1, h2, h3⟩
  · exact eD_mono (fun r e h => by omega) h
  · obtain ⟨r, e, m, h0, h1, h2, h3⟩ := h
    rcases hb with ⟨b1, b2⟩ | ⟨b1, b2, b3⟩
    · refine ⟨r, e, m, ?_, h1, h2, h3⟩
      by_cases he : e = t ∧ A (27 + 12 * r + 0) = p
      · obtain ⟨rfl, he⟩ := he
        rw [he] at h1
        exact absurd h1 (b2 m)
      · omega
    · have := dN_rg hA hp ht0.2 b2
      omega
  · rcases hb with ⟨b1, -⟩ | ⟨b1, b2, b3⟩
    · omega
    have hbr := dN_rg hA hp ht0.2 b2
    have hr := hA.2.2.2.2.1 v v0 (by omega)
    have hr0 := hr.1
    have hr1 := hr.2.1
    have hr2 := hr.2.2.1
    rw [M_ofR (by omega) (by omega), e80]
    have next : ∀ σ2, FrW τ σ2 → MF A p0 t0 (fun r e => (e < t ∨ (e = t ∧ (A (27 + 12 * r + 0) < p ∨ (A (27 + 12 * r + 0) = p ∧ r < v)))) ∨ (r = v ∧ e = t)) σ2 → A (27 + 12 * v + 0) = p → wp_M_fewestRoads_b175 x3 x4 69120 69120 t p b (wp_M_fewestRoads_L76 x2 x3 x4 69120 t p b k Q m) Q σ2 v := by
      intro σ2 f2 m2 hvp
      refine ⟨zRi (by omega) (by omega), ih σ2 ⟨by omega, f2, MF_congr (fun q u n => ⟨eD_mono (fun r e h => ?_), eD_mono (fun r e h => ?_)⟩) m2⟩ (by omega)⟩
      · rcases h with h | ⟨rfl, rfl⟩
        · omega
        · exact Or.inr ⟨rfl, Or.inr ⟨hvp, by omega⟩⟩
      · by_cases hrv : r = v
        · subst hrv; omega
        · omega
    have skip : (A (27 + 12 * v + 0) ≠ p ∨ ¬ uR A (-6) v t) → wp_M_fewestRoads_b175 x3 x4 69120 69120 t p b (wp_M_fewestRoads_L76 x2 x3 x4 69120 t p b k Q m) Q σ' v := by
      intro hx
      refine ⟨zRi (by omega) (by omega), ih σ' ⟨by omega, fr, MF_congr (fun q u n => ⟨eD_mono (fun r e h => by omega), fun h => ?_⟩) mf⟩ (by omega)⟩
      obtain ⟨r, e, m, h0, h1, h2, h3⟩ := h
      refine ⟨r, e, m, ?_, h1, h2, h3⟩
      by_cases hrv : r = v ∧ e = t
      · obtain ⟨rfl, rfl⟩ := hrv
        rcases hx with hx | hx
        · omega
        · exact absurd h2 hx
      · omega
    refine ⟨fun c2 => skip (Or.inl c2), fun c2 => ?_⟩
    refine M_whyNot (B := B) (by rw [e80]; exact hA) v0 (by rw [e80]; omega) (by omega) ht.2 ?_
    rw [e80]
    refine ⟨fun c3 => skip (Or.inr (fun hh => c3 hh.2.2)), fun c3 => ?_⟩
    have hu : uR A (-6) v t := ⟨⟨v0, by omega⟩, by omega, c3⟩
    have hur := uR_rg hA hu
    rw [M_ofR (by omega) (by omega), e80, M_ofR (by omega) (by omega), e80]
    have hold := mf (t + A (27 + 12 * v + 2)) (A (27 + 12 * v + 1)) hr1.1 hr1.2 (by omega) (by omega)
    have hput := lst_put hold b2 b3 (by omega)
    have res : ∀ σ2, FrW τ σ2 → (∀ i, i ≠ 8 * (t + A (27 + 12 * v + 2)) + A (27 + 12 * v + 1) → σ2 90 i = σ' 90 i) → σ2 90 (8 * (t + A (27 + 12 * v + 2)) + A (27 + 12 * v + 1)) = (if σ' 90 (8 * (t + A (27 + 12 * v + 2)) + A (27 + 12 * v + 1)) = 69120 ∨ b + 1 < σ' 90 (8 * (t + A (27 + 12 * v + 2)) + A (27 + 12 * v + 1)) then b + 1 else σ' 90 (8 * (t + A (27 + 12 * v + 2)) + A (27 + 12 * v + 1))) → wp_M_fewestRoads_b175 x3 x4 69120 69120 t p b (wp_M_fewestRoads_L76 x2 x3 x4 69120 t p b k Q m) Q σ2 v := by
      intro σ2 f2 o2 e2
      refine next σ2 f2 (fun u q q0 q1 u0 u1 => ?_) c2
      by_cases hqu : q = A (27 + 12 * v + 1) ∧ u = t + A (27 + 12 * v + 2)
      · obtain ⟨rfl, rfl⟩ := hqu
        rw [e2]
        refine lst_congr (fun n => ?_) hput
        unfold cD
        rw [eD_step hu, c2]
        constructor
        · rintro ((h | h) | h)
          · exact Or.inl h
          · exact Or.inr (Or.inl h)
          · exact Or.inr (Or.inr ⟨⟨rfl, rfl⟩, h⟩)
        · rintro (h | h | h)
          · exact Or.inl (Or.inl h)
          · exact Or.inl (Or.inr h)
          · exact Or.inr h.2
      · rw [o2 _ (fun hh => hqu (by omega))]
        refine lst_congr (fun n => ?_) (mf u q q0 q1 u0 u1)
        unfold cD
        rw [eD_step hu]
        constructor
        · rintro (h | h)
          · exact Or.inl h
          · exact Or.inr (Or.inl h)
        · rintro (h | h | h)
          · exact Or.inl h
          · exact Or.inr h
          · exact absurd ⟨h.1.2.symm, h.1.1.symm⟩ hqu
    have hxr : σ' 90 (8 * (t + A (27 + 12 * v + 2)) + A (27 + 12 * v + 1)) = 69120 ∨ σ' 90 (8 * (t + A (27 + 12 * v + 2)) + A (27 + 12 * v + 1)) < 69120 := by
      rcases hold with ⟨h1, -⟩ | ⟨-, h2, -⟩
      · exact Or.inl h1
      · rcases h2 with ⟨-, -, h2⟩ | h2
        · omega
        · have := eD_rg hA hp ht0.2 h2; omega
    generalize hx : 8 * (t + A (27 + 12 * v + 2)) + A (27 + 12 * v + 1) = x at res hxr ⊢
    refine ⟨zRi (by omega) (by omega), by omega, zRi (by omega) (by omega), fun c4 => ⟨by omega, ⟨by omega, ?_⟩⟩, fun c4 => ⟨zRi (by omega) (by omega), ⟨by omega, ?_⟩⟩⟩
    · rintro _ rfl
      refine res _ (FrW_U fr) (fun i hi => zU_j hi) ?_
      rw [zU_s, if_neg (by omega)]
    · rintro _ rfl
      refine res _ (FrW_U fr) (fun i hi => zU_j hi) ?_
      rw [zU_s, if_pos (Or.inr (by omega))]
theorem M_fewestRoads (hA : OKA A B) (hp : 0 ≤ p0 ∧ p0 < 8) (ht0 : 0 ≤ t0 ∧ t0 ≤ 2880) {τ : zM} {to by' : Int} {Q : Int → zM → Prop} (eA : τ 80 = A) (hto : 0 ≤ to ∧ to < 8) (hb : t0 < by' ∧ by' ≤ 2880) (kk : ∀ res τ', FrW τ τ' → lst (cN A p0 t0 to by') 69120 res → Q res τ') : wp_M_fewestRoads τ p0 to t0 by' Q := by
  unfold wp_M_fewestRoads
  refine zFor (fun σ' v => 0 ≤ v ∧ FrW τ σ' ∧ ∀ i, 0 ≤ i → i < v → σ' 90 i = 69120) 23048 ?_ τ 0 ⟨by omega, FrW_rfl τ, fun i i0 i1 => by omega⟩ (by omega)
  intro m σ' v hI hv ih
  obtain ⟨v0, fr, z⟩ := hI
  rw [wp_M_fewestRoads_L7]
  refine ⟨fun c => ⟨by omega, ?_⟩, fun c => ⟨by omega, ?_⟩⟩
  rotate_left
  · rintro _ rfl
    refine ⟨zRi (by omega) (by omega), ih _ ⟨by omega, FrW_U fr, fun i i0 i1 => ?_⟩ (by omega)⟩
    rw [zU_g]
    by_cases hi : i = v
    · rw [if_pos hi]
    · rw [if_neg hi]; exact z i i0 (by omega)
  rintro _ rfl
  refine zFor (fun σ2 t => t0 ≤ t ∧ FrW τ σ2 ∧ MF A p0 t0 (fun _ e => e < t) σ2) (by' + 1) ?_ _ t0 ⟨Int.le_refl _, FrW_U fr, fun u p p0' p1 u0 u1 => ?_⟩ (by omega)
  rotate_left
  · have hno : ∀ n, ¬ eD A p0 t0 (fun _ e => e < t0) p u n := by
      rintro n ⟨r, e, m, h0, h1, -⟩
      have := dN_rg hA hp ht0.2 h1
      omega
    rw [zU_g]
    by_cases hpu : 8 * u + p = 8 * t0 + p0
    · rw [if_pos hpu]
      refine Or.inr ⟨by omega, Or.inl ⟨by omega, by omega, rfl⟩, fun n hn => ?_⟩
      rcases hn with hn | hn
      · omega
      · exact absurd hn (hno n)
    · rw [if_neg hpu, z _ (by omega) (by omega)]
      refine Or.inl ⟨rfl, fun n hn => ?_⟩
      rcases hn with hn | hn
      · exact hpu (by rw [hn.1, hn.2.1])
      · exact hno n hn
  intro m2 σ2 t hI2 ht ih2
  obtain ⟨tt, f2, mf⟩ := hI2
  rw [wp_M_fewestRoads_L45]
  refine ⟨fun c2 => ⟨by omega, kk _ σ2 f2 ?_⟩, fun c2 => ?_⟩
  · refine lst_congr (fun n => ?_) (mf by' to hto.1 hto.2 (by omega) hb.2)
    rw [cN_later hA (b := t) hb.1 (by omega)]
    unfold cD
    constructor
    · rintro (h | h)
      · omega
      · exact h
    · exact Or.inr
  -- the places
  refine zFor (fun σ3 p => 0 ≤ p ∧ FrW τ σ3 ∧ MF A p0 t0 (fun r e => e < t ∨ (e = t ∧ A (27 + 12 * r + 0) < p)) σ3) 8 ?_ σ2 0 ⟨by omega, f2, MF_congr (fun q u n => ⟨eD_mono (fun r e h => Or.inl h), fun h => ?_⟩) mf⟩ (by omega)
  rotate_left
  · obtain ⟨r, e, m, h0, h1, h2, h3⟩ := h
    have := uR_rg hA h2
    exact ⟨r, e, m, by omega, h1, h2, h3⟩
  intro m3 σ3 p hI3 hp3 ih3
  obtain ⟨p0', f3, mf3⟩ := hI3
  have e80 : σ3 80 = A := by rw [f3 80 (by omega), eA]
  rw [wp_M_fewestRoads_L55]
  refine ⟨fun c3 => ⟨zRi (by omega) (by omega), ih2 σ3 ⟨by omega, f3, MF_congr (fun q u n => ⟨eD_mono (fun r e h => by omega), fun h => ?_⟩) mf3⟩ (by omega)⟩, fun c3 => ?_⟩
  · obtain ⟨r, e, m, h0, h1, h2, h3⟩ := h
    have := uR_rg hA h2
    exact ⟨r, e, m, by omega, h1, h2, h3⟩
  refine M_fewestAt hA hp ht0 e80 ⟨p0', by omega⟩ ⟨tt, by omega⟩ (fun s s0 s1 => ?_) (fun b hb' => ?_)
  · refine lst_congr (fun n => ?_) (mf3 s p p0' (by omega) s0 (by omega))
    unfold cD
    constructor
    · rintro (⟨rfl, rfl, rfl⟩ | h)
      · exact cN_0
      · exact cN_step h
    · intro h
      rcases cN_inv h with h | h
      · exact Or.inl h
      · exact Or.inr (eD_all hA (fun r x hx _ => by omega) h)
  · refine M_L76 hA hp ht0 e80 ⟨p0', by omega⟩ ⟨tt, by omega⟩ hb' mf3 (fun σ4 f4 mf4 => ⟨zRi (by omega) (by omega), ih3 σ4 ⟨by omega, fun n hn => (f4 n hn).trans (f3 n hn), mf4⟩ (by omega)⟩)
/-- who is somewhere is there by some number of roads -/
theorem wH_dN (hA : OKA A B) (hp : 0 ≤ p0 ∧ p0 < 8) (ht0 : 0 ≤ t0 ∧ t0 ≤ 2880) {p t : Int} (h : wH A p0 t0 t0 (-6) p t) : ∃ n, dN A p0 t0 p t n := by
  refine h (fun p t => ∃ n, dN A p0 t0 p t n) ⟨fun t hs => ⟨0, t0, cN_0, ?_⟩, fun r s t ⟨n, hn⟩ hu hz => ⟨n + 1, _, cN_step (D := fun _ _ => True) ⟨r, s, n, trivial, hn, hu, rfl, rfl, rfl⟩, hz⟩⟩
  have hpr := hA.2.2.2.1 p0 hp.1 hp.2
  have hr := sT_rg ht0.2 hs
  exact (wE_iff (by omega) (by omega) ht0.1 hr.1).1 ((sT_wE hA hp ht0 t hr.1 hr.2).2 hs)
theorem wC_cN (hA : OKA A B) (hp : 0 ≤ p0 ∧ p0 < 8) (ht0 : 0 ≤ t0 ∧ t0 ≤ 2880) {p t : Int} (h : wC A p0 t0 t0 (-6) p t) : ∃ n, cN A p0 t0 p t n := by
  obtain ⟨r, s, h1, h2, h3, h4⟩ := h
  obtain ⟨n, hn⟩ := wH_dN hA hp ht0 h1
  exact ⟨n + 1, cN_step (D := fun _ _ => True) ⟨r, s, n, trivial, hn, h2, h3, h4, rfl⟩⟩
end FEW2
theorem op_way {B : Int} {σ : zM} (h : Rel B σ) (a b c w : Int) : wp_X_way σ a b c w (fun r σ1 => wp_M_way σ1 a b c w (fun r' σ2 => r = r' ∧ Rel B σ2)) := by
  have hA := h.2.2.2.2.2.1.1
  by_cases h1 : 0 ≤ a ∧ a ≤ 7
  rotate_left
  · simp [wp_X_way, wp_M_way, X_isPlace, M_isPlace, h1, h]
  by_cases h2 : 0 ≤ b ∧ b ≤ 7
  rotate_left
  · simp [wp_X_way, wp_M_way, X_isPlace, M_isPlace, h1, h2, h]
  by_cases h3 : 0 ≤ c ∧ c ≤ 2880
  rotate_left
  · simp [wp_X_way, wp_M_way, X_isPlace, M_isPlace, X_within, M_isTime, h1, h2, h3, h]
  by_cases h4 : 0 ≤ w ∧ w ≤ 3
  rotate_left
  · simp [wp_X_way, wp_M_way, X_isPlace, M_isPlace, X_within, M_isTime, M_isIn, h1, h2, h3, h4, h]
  have ha : 0 ≤ a ∧ a < 8 := ⟨h1.1, by omega⟩
  have hb : 0 ≤ b ∧ b < 8 := ⟨h2.1, by omega⟩
  by_cases he : a = b
  · subst he
    by_cases hw : w = 0
    · simp [wp_X_way, wp_M_way, X_isPlace, M_isPlace, X_within, M_isTime, M_isIn, h1, h3, hw, h]
    · simp [wp_X_way, wp_M_way, X_isPlace, M_isPlace, X_within, M_isTime, M_isIn, h1, h3, h4, hw, h]
  unfold wp_X_way
  simp only [X_isPlace, X_within, zIf1, h1, h2, h3, h4, he, true_and, not_true, not_false_eq_true, false_implies, true_implies, and_true, and_self]
  have mside : ∀ (σ1 : zM) (Q : Int → zM → Prop), σ1 80 = σ 80 → (∀ res τ, FC (σ 80) a c c (-6) b 2880 res → FrS σ1 τ → ((¬ res = -6 → ((¬ w = 0 → wp_M_goesBack τ b res (fun σ12 => ∃ n18, wp_M_way_L97 σ12 a c w res Q n18 0)) ∧ (w = 0 → wp_M_fewestRoads τ a b c res (fun z19 σ20 => Q z19 σ20)))) ∧ (res = -6 → Q (-6) τ))) → wp_M_way σ1 a b c w Q := by
    intro σ1 Q e80 kk
    unfold wp_M_way
    simp only [M_isPlace, M_isTime, M_isIn, zIf1, h1, h2, h3, h4, he, true_and, not_true, not_false_eq_true, false_implies, true_implies, and_true, and_self]
    unfold wp_M_earliestOf
    refine ⟨fun _ => ?_, fun c => absurd c he⟩
    refine M_spreads hA e80 ha h3 ⟨h3.1, Int.le_refl _⟩ (fun τ fs ms => ?_)
    exact M_firstAt hA ha h3 hb ms (fun res' fc' => kk res' τ fc' fs)
  unfold wp_X_earliestTime
  refine ⟨fun _ => ?_, fun c => absurd c he⟩
  refine S_waitEnd h.1 hA ha.1 ha.2 h3.1 h3.2 ?_
  refine X_firstComing (w := -6) (c0 := c) h.1 hA h.2.2.2.2.1 ha h3 (by omega) (sT_wE hA ha h3) hb zXor_none (fun res σ1 wq fc => ?_)
  have e80 : σ1 80 = σ 80 := wq.1 80 (by omega)
  refine ⟨fun cn => ?_, fun cn => mside σ1 _ e80 (fun res' τ fc' fs => ⟨fun c1 => absurd ((FC_uniq fc' fc).trans cn) c1, fun _ => ⟨rfl, Rel_way h wq (fun n hn => fs n (by omega) (by omega) (by omega))⟩⟩)⟩
  have hres : c < res ∧ res ≤ 2880 ∧ wC (σ 80) a c c (-6) b res := by
    rcases fc with ⟨f1, -⟩ | ⟨f1, f2, f3, -⟩
    · exact absurd f1 cn
    · exact ⟨f1, f2, f3⟩
  have hR1 := WQ_RX wq h.1
  refine ⟨fun cw => ?_, fun cw => ?_⟩
  · -- the first road
    refine X_lookBack hR1 hA ⟨Or.inr wq.2.1, fun _ => wq.2.2⟩ hb hres.2.1 ⟨h3.1, by omega⟩ (fun σ2 wq2 lb => ?_)
    have wq' : WQ (σ 80) σ σ2 := WQ_trans wq.1 wq2
    have e802 : σ2 80 = σ 80 := wq'.1 80 (by omega)
    have fin : ∀ ans, WA (σ 80) b res a c w ans → wp_M_way σ2 a b c w (fun r' σ2 => ans = r' ∧ Rel B σ2) := by
      intro ans hans
      refine mside σ2 _ e802 (fun res' τ fc' fs => ?_)
      have er := FC_uniq fc' fc
      subst er
      refine ⟨fun _ => ⟨fun _ => ?_, fun c1 => absurd c1 cw⟩, fun c1 => absurd c1 cn⟩
      refine M_goesBack hA (by rw [fs 80 (by omega) (by omega) (by omega), e802]) hb ⟨by omega, hres.2.1⟩ (fun τ2 fk hK => ?_)
      exact M_wayL hA (by rw [fk 80 (by omega) (by omega), fs 80 (by omega) (by omega) (by omega), e802]) hK hb hres.2.1 h3 (fun ans' h' => ⟨WA_uniq hans h', Rel_way h wq' (fun n hn => by rw [fk n (by omega) (by omega), fs n (by omega) (by omega) (by omega)])⟩)
    refine X_firstRoad hA lb hb hres.2.1 h3 (fun r hr => ⟨fun c1 => fin r ⟨r, hr, Or.inl ⟨Or.inl c1, rfl⟩⟩, fun c1 => ⟨fun c2 => ?_, fun c2 => fin r ⟨r, hr, Or.inl ⟨Or.inr c2, rfl⟩⟩⟩⟩)
    have hrr : 0 ≤ r ∧ r < σ 80 0 := by
      rcases hr with ⟨g, -⟩ | ⟨g, -⟩
      · exact absurd g c2
      · exact g
    refine ⟨fun c3 => X_lastEntry hA lb hb hres.2.1 h3 hrr.1 hrr.2 (fun ans hE => fin ans ⟨r, hr, Or.inr ⟨c1, c2, by rw [if_pos (by omega)]; exact hE⟩⟩), fun c3 => X_firstEntry hA lb hb hres.2.1 h3 hrr.1 hrr.2 (fun ans hE => fin ans ⟨r, hr, Or.inr ⟨c1, c2, by rw [if_neg (by omega)]; exact hE⟩⟩)⟩
  · -- the fewest
    obtain ⟨n0, hn0⟩ := wC_cN hA ha h3 hres.2.2
    refine X_fewestRoads hA ha h3 hR1 wq.2.2 hb ⟨hres.1, hres.2.1⟩ (fun ans σ2 f2 hl => ?_)
    have wq' : WQ (σ 80) σ σ2 := WQ_o wq (fun n hn => f2 n (by omega))
    have e802 : σ2 80 = σ 80 := wq'.1 80 (by omega)
    refine mside σ2 _ e802 (fun res' τ fc' fs => ?_)
    have er := FC_uniq fc' fc
    subst er
    refine ⟨fun _ => ⟨fun c1 => absurd cw c1, fun _ => ?_⟩, fun c1 => absurd c1 cn⟩
    refine M_fewestRoads hA ha h3 (by rw [fs 80 (by omega) (by omega) (by omega), e802]) hb ⟨hres.1, hres.2.1⟩ (fun ans' τ2 fw hl' => ⟨?_, Rel_way h wq' (fun n hn => by rw [fw n (by omega), fs n (by omega) (by omega) (by omega)])⟩)
    rcases hl with ⟨-, g⟩ | ⟨-, g1, g2⟩
    · exact absurd hn0 (g n0)
    rcases hl' with ⟨-, g⟩ | ⟨-, g3, g4⟩
    · exact absurd hn0 (g n0)
    have := g2 ans' g3
    have := g4 ans g1
    omega
