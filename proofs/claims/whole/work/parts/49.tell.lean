/-! the spans of an order -/
def apS (C : Int → Int) (h : Int) : Prop := ∀ a, 0 ≤ a → a < h → C (2 * a) < C (2 * a + 1) ∧ ∀ b, 0 ≤ b → b < a → ¬ (C (2 * a) < C (2 * b + 1) ∧ C (2 * b) < C (2 * a + 1))
def oC (D : Int → Int) : Int → Int := fun i => D (6 + i)
def mT0 (τ : zM) (r s : Int) : zM := zU (zU τ 80 (27 + 12 * r + 4) 0) 80 (27 + 12 * r + 3) s
def mTn (τ : zM) (r s : Int) (C : Int → Int) : Nat → zM
  | 0 => mT0 τ r s
  | n + 1 => mI (mTn τ r s C n) 80 (27 + 12 * r) (C (2 * (n : Int))) (C (2 * (n : Int) + 1))
theorem mTn_n {τ : zM} {r s : Int} {C : Int → Int} {p : Nat} (hp : p ≠ 80) : ∀ n, mTn τ r s C n p = τ p
  | 0 => by show mT0 τ r s p = τ p; unfold mT0; rw [zU_n hp, zU_n hp]
  | n + 1 => by rw [mTn, mI_n hp]; exact mTn_n hp n
theorem TEq_U80 {x y : zM} {j v : Int} (h : TEq x y) : TEq (zU x 80 j v) (zU y 80 j v) := by
  obtain ⟨e0, e1, e2, e3, e4, e5, e6, e7⟩ := h
  refine ⟨?_, ?_, ?_, ?_, ?_, ?_, ?_, ?_⟩
  · funext i; rw [zU_g, zU_g, e0]
  all_goals (rw [zU_n (by omega), zU_n (by omega)]; assumption)
theorem TEq_U5 {x y : zM} {v : Int} (h : TEq x y) : TEq (zU x 79 5 v) (zU y 79 5 v) := by
  obtain ⟨e0, e1, e2, e3, e4, e5, e6, e7⟩ := h
  refine ⟨?_, ?_, ?_, ?_, ?_, ?_, ?_, ?_⟩
  · rw [zU_n (by omega), zU_n (by omega)]; exact e0
  · rw [zU_n (by omega), zU_n (by omega)]; exact e1
  · rw [zU_n (by omega), zU_n (by omega)]; exact e2
  · rw [zU_n (by omega), zU_n (by omega)]; exact e3
  · rw [zU_n (by omega), zU_n (by omega)]; exact e4
  · rw [zU_j (by omega), zU_j (by omega)]; exact e5
  · rw [zU_s, zU_s]
  · rw [zU_j (by omega), zU_j (by omega)]; exact e7
theorem TEq_mI {x y : zM} {b f t : Int} (h : TEq x y) : TEq (mI x 80 b f t) (mI y 80 b f t) := by
  obtain ⟨e0, e1, e2, e3, e4, e5, e6, e7⟩ := h
  refine ⟨?_, ?_, ?_, ?_, ?_, ?_, ?_, ?_⟩
  · rw [mI_s, mI_s, e0]
  all_goals (rw [mI_n (by omega), mI_n (by omega)]; assumption)
theorem TEq_mTn {x y : zM} {r s : Int} {C : Int → Int} (h : TEq x y) : ∀ n, TEq (mTn x r s C n) (mTn y r s C n)
  | 0 => TEq_U80 (TEq_U80 h)
  | n + 1 => TEq_mI (TEq_mTn h n)
/-- what the spans are, when k of them stand -/
def INS (A : Int → Int) (b k : Int) (C : Int → Int) : Prop := OKs A b ∧ A (b + 4) = k ∧ ∀ u, 0 ≤ u → u < k → ∃ a, (0 ≤ a ∧ a < k) ∧ A (b + (5 + 2 * u)) = C (2 * a) ∧ A (b + (5 + 2 * u + 1)) = C (2 * a + 1)
theorem INS_step {A : Int → Int} {b k : Int} {C : Int → Int} (h : INS A b k C) (k0 : 0 ≤ k ∧ k ≤ 2) (hf : 0 ≤ C (2 * k) ∧ C (2 * k) < C (2 * k + 1) ∧ C (2 * k + 1) ≤ 1440) (ap : ∀ a, 0 ≤ a → a < k → ¬ (C (2 * k) < C (2 * a + 1) ∧ C (2 * a) < C (2 * k + 1))) : INS (iA A b (C (2 * k)) (C (2 * k + 1))) b (k + 1) C := by
  obtain ⟨h1, h2, h3⟩ := h
  have ks := iK_spec (f := C (2 * k)) h1 (by omega) (by omega)
  refine ⟨OKs_ins h1 (by omega) (by omega) hf (fun s s0 s1 => ?_), by rw [iA_4, h2], fun u u0 u1 => ?_⟩
  · obtain ⟨a, a0, e1, e2⟩ := h3 s s0 (by omega)
    rw [e1, e2]
    exact ap a a0.1 a0.2
  · rw [iA_from u0, iA_to u0]
    by_cases c1 : u = iK A b (C (2 * k))
    · rw [if_pos c1, if_pos c1]
      exact ⟨k, by omega, rfl, rfl⟩
    · rw [if_neg c1, if_neg c1]
      by_cases c2 : iK A b (C (2 * k)) < u ∧ u ≤ A (b + 4)
      · rw [if_pos c2, if_pos c2]
        obtain ⟨a, a0, e1, e2⟩ := h3 (u - 1) (by omega) (by omega)
        exact ⟨a, by omega, e1, e2⟩
      · rw [if_neg c2, if_neg c2]
        obtain ⟨a, a0, e1, e2⟩ := h3 u u0 (by omega)
        exact ⟨a, by omega, e1, e2⟩
theorem mTn_ok {τ : zM} {r s h : Int} {C : Int → Int} (hh : h ≤ 3) (hC : apS C h) (hb : ∀ i, 0 ≤ i → i < 2 * h → 0 ≤ C i ∧ C i ≤ 1440) : ∀ n : Nat, (n : Int) ≤ h → INS (mTn τ r s C n 80) (27 + 12 * r) n C ∧ (∀ i, i < 27 + 12 * r + 3 ∨ 27 + 12 * r + 11 ≤ i → mTn τ r s C n 80 i = τ 80 i) ∧ mTn τ r s C n 80 (27 + 12 * r + 3) = s := by
  intro n
  induction n with
  | zero =>
    intro _
    have e : mTn τ r s C 0 = mT0 τ r s := rfl
    rw [e]
    have e4 : mT0 τ r s 80 (27 + 12 * r + 4) = 0 := by unfold mT0; rw [zU_j (by omega), zU_s]
    refine ⟨⟨⟨fun u u0 u1 => by omega, fun u w u0 uw w1 => by omega⟩, e4, fun u u0 u1 => by omega⟩, fun i hi => ?_, ?_⟩
    · unfold mT0; rw [zU_j (by omega), zU_j (by omega)]
    · unfold mT0; rw [zU_s]
  | succ n ih =>
    intro hn
    obtain ⟨h1, h2, h3⟩ := ih (by omega)
    have hc := hC (n : Int) (by omega) (by omega)
    have b1 := hb (2 * (n : Int)) (by omega) (by omega)
    have b2 := hb (2 * (n : Int) + 1) (by omega) (by omega)
    have hk := iK_spec (f := C (2 * (n : Int))) h1.1 (by have := h1.2.1; omega) (by have := h1.2.1; omega)
    have e4 := h1.2.1
    rw [mTn, mI_s]
    refine ⟨?_, fun i hi => ?_, ?_⟩
    · have := INS_step h1 (by omega) ⟨b1.1, hc.1, b2.2⟩ hc.2
      rw [show ((n + 1 : Nat) : Int) = (n : Int) + 1 by omega]
      exact this
    · rw [iA_old (by omega) (by omega)]; exact h2 i hi
    · rw [iA_old (by omega) (by omega)]; exact h3
theorem P_apart {σ : zM} {D : Int → Int} {Q : Int → Prop} (h7 : σ 58 7 = D 4) (hh : 1 ≤ D 4 ∧ D 4 ≤ 3) (h61 : ∀ i, 0 ≤ i → i < 2 * D 4 → σ 61 i = D (6 + i)) (ky : apS (oC D) (D 4) → Q 1) (kn : ¬ apS (oC D) (D 4) → Q 0) : wp_P_spansStandApart σ Q := by
  unfold wp_P_spansStandApart
  have e : ∀ i, 0 ≤ i → i < 2 * D 4 → σ 61 i = oC D i := h61
  generalize D 4 = h at *
  refine zFor0 (fun a => 0 ≤ a ∧ ∀ x, 0 ≤ x → x < a → (oC D (2 * x) < oC D (2 * x + 1) ∧ ∀ b, 0 ≤ b → b < x → ¬ (oC D (2 * x) < oC D (2 * b + 1) ∧ oC D (2 * b) < oC D (2 * x + 1)))) h ?_ 0 ⟨by omega, fun x x0 x1 => by omega⟩ (by omega)
  intro n a hI ha ih
  obtain ⟨a0, ha'⟩ := hI
  rw [wp_P_spansStandApart_L2, h7]
  refine ⟨fun c => ky (fun x x0 x1 => ha' x x0 (by omega)), fun c => ?_⟩
  unfold wp_P_spanFrom wp_P_spanTo
  refine ⟨by omega, by omega, ?_⟩
  rw [e _ (by omega) (by omega), e _ (by omega) (by omega)]
  refine ⟨fun c1 => ?_, fun c1 => kn (fun hh => c1 (hh a a0 (by omega)).1)⟩
  refine zFor0 (fun b => 0 ≤ b ∧ ∀ x, 0 ≤ x → x < b → ¬ (oC D (2 * a) < oC D (2 * x + 1) ∧ oC D (2 * x) < oC D (2 * a + 1))) a ?_ 0 ⟨by omega, fun x x0 x1 => by omega⟩ a0
  intro m b hI2 hb ih2
  obtain ⟨b0, hb'⟩ := hI2
  rw [wp_P_spansStandApart_L27]
  refine ⟨fun c2 => ⟨zRi (by omega) (by omega), ih ⟨by omega, fun x x0 x1 => ?_⟩ (by omega)⟩, fun c2 => ?_⟩
  · by_cases hx : x = a
    · subst hx; exact ⟨c1, fun b b0 b1 => hb' b b0 (by omega)⟩
    · exact ha' x x0 (by omega)
  have nx : ¬ (oC D (2 * a) < oC D (2 * b + 1) ∧ oC D (2 * b) < oC D (2 * a + 1)) → wp_P_spansStandApart_b60 σ a (wp_P_spansStandApart_L27 σ a (zR (a + 1) ∧ wp_P_spansStandApart_L2 σ Q n (a + 1)) Q m) Q b := fun hx => ⟨zRi (by omega) (by omega), ih2 ⟨by omega, fun x x0 x1 => by
    by_cases hxb : x = b
    · subst hxb; exact hx
    · exact hb' x x0 (by omega)⟩ (by omega)⟩
  unfold wp_P_spanFrom wp_P_spanTo
  rw [e (2 * a) (by omega) (by omega), e (2 * b + 1) (by omega) (by omega), e (2 * b) (by omega) (by omega), e (2 * a + 1) (by omega) (by omega)]
  refine ⟨by omega, by omega, ?_⟩
  refine ⟨fun c3 => nx (fun hh => by have := hh.1; omega), fun c3 => ⟨by omega, by omega, ?_⟩⟩
  exact ⟨fun c4 => nx (fun hh => by have := hh.2; omega), fun c4 => kn (fun hh => (hh a a0 (by omega)).2 b b0 (by omega) ⟨by omega, by omega⟩)⟩
/-- the order's spans: the class -/
theorem X_tellSpans {B z : Int} {σ τ : zM} {D : Int → Int} {Q : Int → zM → Prop} (h : XRep B z σ τ) (g0 : σ 62 1 = 0) (hx : xReg σ D) (hD : oOK D) (h0 : D 0 = 115) (kn : ¬ (0 ≤ D 1 ∧ D 1 < τ 80 0) → Q (-1) σ) (ka : (0 ≤ D 1 ∧ D 1 < τ 80 0) → ¬ apS (oC D) (D 4) → Q (-2) σ) (k : (0 ≤ D 1 ∧ D 1 < τ 80 0) → apS (oC D) (D 4) → ∀ σ1, XRep B z σ1 (mTn τ (D 1) (D 5) (oC D) (D 4).toNat) → Fr σ σ1 → σ1 62 1 = 0 → Q 0 σ1) : wp_X_tellSpans σ (D 1) Q := by
  have hA0 := h.2.2.2.2.2.1.1
  have e5 : σ 0 5 = τ 80 0 := h.1.1.1
  have bb := hA0.1
  obtain ⟨hh, hs, hcl⟩ := hD.2 h0
  obtain ⟨x7, x8, x61⟩ := hx.2.2.2.2 h0
  unfold wp_X_tellSpans
  rw [S_hasRoad, e5]
  refine ⟨fun c => ?_, fun c => kn (by rw [zIf1] at c; exact c)⟩
  rw [zIf1, Classical.not_not] at c
  refine P_apart x7 hh x61 (fun hap => ⟨fun _ => ?_, fun c1 => absurd c1 (by decide)⟩) (fun hap => ⟨fun c1 => absurd rfl c1, fun _ => ka c hap⟩)
  have k1 := k c hap
  generalize hr : D 1 = r at *
  have hrow : RXr σ (τ 80) r := h.1.2.2.1 r c.1 c.2
  have hok := hA0.2.2.2.2.1 r c.1 c.2
  have mok := mTn_ok (τ := τ) (r := r) (s := D 5) (C := oC D) hh.2 hap hcl
  rw [x8]
  refine S_dropSpans c.1 (by omega) ?_
  -- the spans one after the other
  have e61 : ∀ σ' : zM, (∀ p, p ≠ 2 → σ' p = σ p) → ∀ i, 0 ≤ i → i < 2 * D 4 → σ' 61 i = oC D i := fun σ' f i i0 i1 => by rw [f 61 (by omega)]; exact x61 i i0 i1
  have key : ∀ (n : Nat) (σ' : zM) (v : Nat), (v : Int) ≤ D 4 → D 4 - v < n → (∀ p, p ≠ 2 → σ' p = σ p) → (∀ i, ¬ (r * 11 ≤ i ∧ i < r * 11 + 11) → σ' 2 i = σ 2 i) → RXr σ' (mTn τ r (D 5) (oC D) v 80) r → wp_X_tellSpans_L43 r Q n σ' v := by
    intro n
    induction n with
    | zero => intro σ' v h1 h2; omega
    | succ n ih =>
      intro σ' v v1 hn fr f2 hR
      obtain ⟨m1, m2, m3⟩ := mok v v1
      rw [wp_X_tellSpans_L43, fr 58 (by omega), x7]
      refine ⟨fun c1 => ?_, fun c1 => ?_⟩
      · have ev : v = (D 4).toNat := by omega
        subst ev
        have e4 : (((D 4).toNat : Nat) : Int) = D 4 := by omega
        rw [e4] at m1
        refine k1 σ' ?_ (fun p hp => fr p (by omega)) (by rw [fr 62 (by omega)]; exact g0)
        refine XRep_row (r := r) h g0 c.1 c.2 (fun p p2 _ _ => fr p p2) f2 (fun i _ => by rw [fr 3 (by omega)]) (fun p _ p1 => mTn_n p1 _) (fun i hi => m2 i (by omega)) hR ?_ (Int.le_refl B)
        obtain ⟨k0, k1, k2, k3, k4, k5, k6, k7⟩ := hok
        refine ⟨by rw [m2 _ (by omega)]; exact k0, by rw [m2 _ (by omega)]; exact k1, by rw [m2 _ (by omega)]; exact k2, by rw [m3]; exact hs, by rw [m1.2.1]; exact hh, m1.1.1, m1.1.2, by rw [m2 _ (by omega)]; exact k7⟩
      · unfold wp_P_spanFrom wp_P_spanTo
        refine ⟨by omega, by omega, ?_⟩
        rw [e61 σ' fr _ (by omega) (by omega), e61 σ' fr _ (by omega) (by omega)]
        have i4 := m1.2.1
        have hsR := RXr_OKs hR (by omega) (by omega) m1.1
        have r4 := hR.1 4 (by omega) (by omega)
        refine S_addSpan c.1 (by omega) hsR (by omega) (by omega) ⟨zRi (by omega) (by omega), ?_⟩
        have hiK := iK_spec (f := oC D (2 * (v : Int))) hsR (by omega) (by omega)
        have := ih (mI σ' 2 (r * 11) (oC D (2 * (v : Int))) (oC D (2 * (v : Int) + 1))) (v + 1) (by omega) (by omega) (fun p hp => by rw [mI_n hp]; exact fr p hp) (fun i hi => ?_) ?_
        · rw [show ((v + 1 : Nat) : Int) = (v : Int) + 1 by omega] at this
          exact this
        · rw [mI_out (by omega) (by omega)]; exact f2 i hi
        · refine RXr_ins hR (by omega) (by omega) m1.1 (fun i i0 i1 => by rw [mI_s]) (by rw [mI_n (by omega)]) (fun c c0 c1 => by rw [mTn, mI_s])
  refine ⟨(D 4).toNat + 1, ?_⟩
  have := key ((D 4).toNat + 1) (mD σ r (D 5)) 0 (by omega) (by omega) (fun p hp => mD_n hp) (fun i hi => by rw [mD_g, if_neg (by omega), if_neg (by omega), if_neg (by omega)]) ?_
  · exact this
  · show RXr (mD σ r (D 5)) (mT0 τ r (D 5) 80) r
    refine RXr_drop hrow (fun i _ _ => rfl) (by rw [mD_n (by omega)]) (fun c hc => ?_) ?_ ?_
    · unfold mT0; rw [zU_j (by omega), zU_j (by omega)]
    · unfold mT0; rw [zU_s]
    · unfold mT0; rw [zU_j (by omega), zU_s]
/-- the same: the reference -/
theorem M_doesSpans {B : Int} {τ : zM} {D : Int → Int} {Q : Int → zM → Prop} (hA : OKA (τ 80) B) (hm : mReg τ D) (hD : oOK D) (h0 : D 0 = 115) (kn : ¬ (0 ≤ D 1 ∧ D 1 < τ 80 0) → Q (-1) τ) (ka : (0 ≤ D 1 ∧ D 1 < τ 80 0) → ¬ apS (oC D) (D 4) → Q (-2) τ) (k : (0 ≤ D 1 ∧ D 1 < τ 80 0) → apS (oC D) (D 4) → Q 0 (mTn τ (D 1) (D 5) (oC D) (D 4).toNat)) : wp_M_doesSpans τ Q := by
  have bb := hA.1
  obtain ⟨hh, hs, hcl⟩ := hD.2 h0
  obtain ⟨m19, m20, m91⟩ := hm.2.2.2.2 h0
  have m16 := hm.2.1
  unfold wp_M_doesSpans
  rw [M_isRoad bb.1 bb.2, m16]
  refine ⟨fun c => ?_, fun c => kn (by rw [zIf1] at c; exact c)⟩
  rw [zIf1, Classical.not_not] at c
  have e : ∀ i, 0 ≤ i → i < 2 * D 4 → τ 91 i = oC D i := m91
  have k1 := k c
  have ka1 := ka c
  generalize hr : D 1 = r at *
  -- whether they stand apart
  refine zFor0 (fun a => 0 ≤ a ∧ ∀ x, 0 ≤ x → x < a → (oC D (2 * x) < oC D (2 * x + 1) ∧ ∀ b, 0 ≤ b → b < x → ¬ (oC D (2 * x) < oC D (2 * b + 1) ∧ oC D (2 * b) < oC D (2 * x + 1)))) (D 4) ?_ 0 ⟨by omega, fun x x0 x1 => by omega⟩ (by omega)
  intro n a hI ha ih
  obtain ⟨a0, ha'⟩ := hI
  rw [wp_M_doesSpans_L15, m19]
  refine ⟨fun c1 => ?_, fun c1 => ⟨by omega, by omega, ?_⟩⟩
  rotate_left
  · rw [e _ (by omega) (by omega), e _ (by omega) (by omega)]
    refine ⟨fun c2 => ?_, fun c2 => ka1 (fun hh => c2 (hh a a0 (by omega)).1)⟩
    refine zFor0 (fun b => 0 ≤ b ∧ ∀ x, 0 ≤ x → x < b → ¬ (oC D (2 * a) < oC D (2 * x + 1) ∧ oC D (2 * x) < oC D (2 * a + 1))) a ?_ 0 ⟨by omega, fun x x0 x1 => by omega⟩ a0
    intro m b hI2 hb ih2
    obtain ⟨b0, hb'⟩ := hI2
    rw [wp_M_doesSpans_L49]
    refine ⟨fun c3 => ⟨zRi (by omega) (by omega), ih ⟨by omega, fun x x0 x1 => ?_⟩ (by omega)⟩, fun c3 => ⟨by omega, by omega, ?_⟩⟩
    · by_cases hx : x = a
      · subst hx; exact ⟨c2, fun b b0 b1 => hb' b b0 (by omega)⟩
      · exact ha' x x0 (by omega)
    rw [e (2 * a) (by omega) (by omega), e (2 * b + 1) (by omega) (by omega), e (2 * b) (by omega) (by omega), e (2 * a + 1) (by omega) (by omega)]
    have nx : ¬ (oC D (2 * a) < oC D (2 * b + 1) ∧ oC D (2 * b) < oC D (2 * a + 1)) → zR (b + 1) ∧ _ := fun hx => ⟨zRi (by omega) (by omega), ih2 ⟨by omega, fun x x0 x1 => by
      by_cases hxb : x = b
      · subst hxb; exact hx
      · exact hb' x x0 (by omega)⟩ (by omega)⟩
    exact ⟨fun c4 => nx (fun hh => by have := hh.1; omega), fun c4 => ⟨by omega, by omega, fun c5 => nx (fun hh => by have := hh.2; omega), fun c5 => ka1 (fun hh => (hh a a0 (by omega)).2 b b0 (by omega) ⟨by omega, by omega⟩)⟩⟩
  have hap : apS (oC D) (D 4) := fun x x0 x1 => ha' x x0 (by omega)
  have k2 := k1 hap
  have mok := mTn_ok (τ := τ) (r := r) (s := D 5) (C := oC D) hh.2 hap hcl
  refine ⟨by omega, ?_⟩
  rintro _ rfl
  rw [zU_n (by omega), m16, m20]
  refine ⟨by omega, ?_⟩
  intro τ2 g2
  have e2 : τ2 = mTn τ r (D 5) (oC D) 0 := g2
  have key : ∀ (n : Nat) (v : Nat), (v : Int) ≤ D 4 → D 4 - v < n → wp_M_doesSpans_L152 Q n (mTn τ r (D 5) (oC D) v) v := by
    intro n
    induction n with
    | zero => intro v h1 h2; omega
    | succ n ih =>
      intro v v1 hn
      obtain ⟨q1, q2, q3⟩ := mok v v1
      rw [wp_M_doesSpans_L152, mTn_n (by omega), m19]
      refine ⟨fun c1 => ?_, fun c1 => ⟨by omega, by omega, ?_⟩⟩
      · have ev : v = (D 4).toNat := by omega
        subst ev
        exact k2
      · rw [m16, mTn_n (by omega), e _ (by omega) (by omega), e _ (by omega) (by omega)]
        have i4 := q1.2.1
        refine M_adds c.1 (by omega) q1.1 (by omega) (by omega) ⟨zRi (by omega) (by omega), ?_⟩
        have := ih (v + 1) (by omega) (by omega)
        rw [show ((v + 1 : Nat) : Int) = (v : Int) + 1 by omega] at this
        exact this
  rw [e2]
  exact ⟨(D 4).toNat + 1, key _ 0 (by omega) (by omega)⟩
