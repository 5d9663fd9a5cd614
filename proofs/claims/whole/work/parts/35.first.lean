/-! the first coming; earliest, reach, arrives -/
def WQ (A : Int → Int) (σ σ1 : zM) : Prop := (∀ n, n < 62 ∨ 79 ≤ n → σ1 n = σ n) ∧ σ1 62 1 = 1 ∧ GTab σ1 A
theorem WQ_trans {A : Int → Int} {a b c : zM} (h : ∀ n, n < 62 ∨ 79 ≤ n → b n = a n) (g : WQ A b c) : WQ A a c := ⟨fun n hn => (g.1 n hn).trans (h n hn), g.2⟩
theorem GTab_congr {a b : zM} {A : Int → Int} (e : b 63 = a 63) (h : GTab a A) : GTab b A := by
  unfold GTab at *
  rw [e]; exact h
theorem WQ_o {A : Int → Int} {σ a b : zM} (h : WQ A σ a) (f : ∀ n, n < 64 ∨ 79 ≤ n → b n = a n) : WQ A σ b :=
  ⟨fun n hn => (f n (by omega)).trans (h.1 n hn), by rw [f 62 (by omega)]; exact h.2.1, GTab_congr (f 63 (by omega)) h.2.2⟩
theorem WQ_RX {A A' : Int → Int} {σ a : zM} (h : WQ A σ a) (hR : RX σ 0 A') : RX a 0 A' := RX_congr (fun n h1 h2 => h.1 n (by omega)) hR
/-- after a question: between two calls still -/
theorem Rel_way {B : Int} {σ σ1 σ2 : zM} (h : Rel B σ) (hw : WQ (σ 80) σ σ1) (hm : ∀ n, n < 85 → σ2 n = σ1 n) : Rel B σ2 := by
  have e : ∀ n, n < 62 ∨ (79 ≤ n ∧ n < 85) → σ2 n = σ n := fun n hn => (hm n (by omega)).trans (hw.1 n (by omega))
  refine XRep_eq (σ := σ) (τ := σ) ⟨fun n hn => e n (by omega), by rw [e 58 (by omega)], e 59 (by omega)⟩ ⟨?_, fun _ => ?_⟩ ⟨e 80 (by omega), e 81 (by omega), e 82 (by omega), e 83 (by omega), e 84 (by omega), by rw [e 79 (by omega)], by rw [e 79 (by omega)], by rw [e 79 (by omega)]⟩ h
  · rw [hm 62 (by omega)]; exact Or.inr hw.2.1
  · rw [e 80 (by omega)]; exact GTab_congr (hm 63 (by omega)) hw.2.2
theorem Rel_same {B : Int} {σ σ2 : zM} (h : Rel B σ) (hm : ∀ n, n < 85 → σ2 n = σ n) : Rel B σ2 :=
  XRep_eq ⟨fun n hn => hm n (by omega), by rw [hm 58 (by omega)], hm 59 (by omega)⟩ (XG_eq (by rw [hm 62 (by omega)]) (hm 63 (by omega)) (hm 80 (by omega)) h.2.2.2.2.1) ⟨hm 80 (by omega), hm 81 (by omega), hm 82 (by omega), hm 83 (by omega), hm 84 (by omega), by rw [hm 79 (by omega)], by rw [hm 79 (by omega)], by rw [hm 79 (by omega)]⟩ h
def FC (A : Int → Int) (p0 t0 c0 w to last res : Int) : Prop := (res = -6 ∧ ∀ t, t ≤ last → ¬ wC A p0 t0 c0 w to t) ∨ (t0 < res ∧ res ≤ last ∧ wC A p0 t0 c0 w to res ∧ ∀ t, t < res → ¬ wC A p0 t0 c0 w to t)
theorem FC_uniq {A : Int → Int} {p0 t0 c0 w to last a b : Int} (h : FC A p0 t0 c0 w to last a) (g : FC A p0 t0 c0 w to last b) : a = b := by
  rcases h with ⟨h1, h2⟩ | ⟨h0, h1, h2, h3⟩ <;> rcases g with ⟨g1, g2⟩ | ⟨g0, g1, g2, g3⟩
  · omega
  · exact absurd g2 (h2 b g1)
  · exact absurd h2 (g2 a h1)
  · apply Classical.byContradiction
    intro hne
    by_cases hl : a < b
    · exact g3 a hl h2
    · exact h3 b (by omega) g2
section FST
variable {A : Int → Int} {B p0 t0 c0 w : Int}
theorem O_comersAt {σ : zM} {o : Nat} {t : Int} {Q : Int → Prop} (t0' : 0 ≤ t) (t1 : t ≤ 2880) : wp_O_comersAt σ o t Q = Q (σ (o + 1) (t % 1024)) := by
  unfold wp_O_comersAt
  rw [zAnd_ring t0' (by omega)]
  exact zAnd_t (by omega)
theorem X_firstComing {σ : zM} {st to last m : Int} {Q : Int → zM → Prop} (hR : RX σ 0 A) (hA : OKA A B) (hG : (σ 62 1 = 0 ∨ σ 62 1 = 1) ∧ (σ 62 1 = 1 → GTab σ A)) (hp : 0 ≤ p0 ∧ p0 < 8) (ht0 : 0 ≤ t0 ∧ t0 ≤ last) (hl : last ≤ 2880) (hst : ∀ u, t0 ≤ u → u ≤ 2880 → (u ≤ st ↔ sT A p0 t0 c0 u)) (hto : 0 ≤ to ∧ to < 8) (hw : ∀ r, 0 ≤ r → r < 32 → (zB (zXor m (-1)) r = true ↔ r ≠ w)) (kk : ∀ res σ', WQ A σ σ' → FC A p0 t0 c0 w to last res → Q res σ') : wp_X_firstComing σ p0 t0 st to last m Q := by
  have hb := hA.1
  unfold wp_X_firstComing
  refine G_prepare hR hA hG (fun σ1 f1 g1 tab => ?_)
  have wq1 : WQ A σ σ1 := ⟨fun n hn => f1 n (by omega) (by omega), g1, tab⟩
  refine O_start (w := w) (c0 := c0) (t0 := t0) hA hp (by omega) hst (fun σ2 f2 oi => ?_)
  have wq2 : WQ A σ σ2 := WQ_o wq1 (fun n hn => f2 n (by omega) (by omega))
  refine zFor (fun σ' t => t0 ≤ t ∧ WQ A σ σ' ∧ OI A p0 t0 c0 w 64 σ' t ∧ ∀ s, s < t → ¬ wC A p0 t0 c0 w to s) (last + 1) ?_ σ2 t0 ⟨Int.le_refl _, wq2, oi, fun s hs c => by have := wC_rg hA hp (by omega) c; omega⟩ (by omega)
  intro n σ' t hI ht ih
  obtain ⟨tt0, wq, oi', hno⟩ := hI
  rw [wp_X_firstComing_L23]
  refine ⟨fun c => kk (-6) σ' wq (Or.inl ⟨rfl, fun s hs => hno s (by omega)⟩), fun c => ?_⟩
  rw [O_comersAt (by omega) (by omega), X_has hto.1 (by omega)]
  have hC : zB (σ' (64 + 1) (t % 1024)) to = true ↔ wC A p0 t0 c0 w to t := (oi'.1 t (Int.le_refl _) (by omega) to hto.1 (by omega)).trans ⟨wB_C, wC_Cb hA (Int.le_refl _)⟩
  refine ⟨fun c1 => ?_, fun c1 => ?_⟩
  · rw [zIf1, hC] at c1
    rw [G_at (by omega) (by omega)]
    refine O_minute (by omega) (WQ_RX wq hR) hA hp (by omega) (by omega) (fun r r0 r1 => ?_) oi' (fun here σ3 _ _ f3 oi3 => ⟨zRi (by omega) (by omega), ih σ3 ⟨by omega, WQ_o wq (fun n hn => f3 n (by omega) (by omega)), oi3, fun s hs => ?_⟩ (by omega)⟩)
    · rw [zB_and, Bool.and_eq_true, wq.2.2 t (by omega) (by omega) r r0 (by omega), hw r r0 (by omega)]
      exact ⟨fun hh => ⟨⟨r0, r1⟩, hh.2, hh.1.2⟩, fun hh => ⟨⟨r1, hh.2.2⟩, hh.2.1⟩⟩
    · by_cases hst : s = t
      · subst hst; exact c1
      · exact hno s (by omega)
  · rw [zIf1, Classical.not_not, hC] at c1
    have := wC_rg hA hp (by omega) c1
    exact kk t σ' wq (Or.inr ⟨by omega, by omega, c1, hno⟩)
theorem M_firstAt {τ : zM} {to : Int} {Q : Int → Prop} (hA : OKA A B) (hp : 0 ≤ p0 ∧ p0 < 8) (ht0 : 0 ≤ t0 ∧ t0 ≤ 2880) (hto : 0 ≤ to ∧ to < 8) (hS : MS A p0 t0 c0 w τ) (kk : ∀ res, FC A p0 t0 c0 w to 2880 res → Q res) : wp_M_firstAt τ to Q := by
  unfold wp_M_firstAt
  refine zFor0 (fun t => 0 ≤ t ∧ ∀ s, s < t → ¬ wC A p0 t0 c0 w to s) 2881 ?_ 0 ⟨by omega, fun s hs c => by have := wC_rg hA hp ht0.2 c; omega⟩ (by omega)
  intro n t hI ht ih
  obtain ⟨tt0, hno⟩ := hI
  rw [wp_M_firstAt_L2]
  refine ⟨fun c => kk (-6) (Or.inl ⟨rfl, fun s hs => hno s (by omega)⟩), fun c => ⟨by omega, ?_⟩⟩
  rw [M_has hto.1 (by omega)]
  have hC := hS.1 t tt0 (by omega) to hto.1 (by omega)
  refine ⟨fun c1 => ⟨zRi (by omega) (by omega), ih ⟨by omega, fun s hs => ?_⟩ (by omega)⟩, fun c1 => ?_⟩
  · rw [zIf1, hC] at c1
    by_cases hst : s = t
    · subst hst; exact c1
    · exact hno s (by omega)
  · rw [zIf1, Classical.not_not, hC] at c1
    have := wC_rg hA hp ht0.2 c1
    exact kk t (Or.inr ⟨by omega, by omega, c1, hno⟩)
/-- one who comes just then -/
theorem sT_wE (hA : OKA A B) (hp : 0 ≤ p0 ∧ p0 < 8) (ht0 : 0 ≤ t0 ∧ t0 ≤ 2880) (u : Int) (u0 : t0 ≤ u) (u1 : u ≤ 2880) : u ≤ wE A p0 t0 ↔ sT A p0 t0 t0 u := by
  have hr := hA.2.2.2.1 p0 hp.1 hp.2
  rw [wE_iff (by omega) (by omega) ht0.1 u0]
  unfold zW sT
  constructor
  · rintro ⟨h1, h2, h3, h4⟩
    exact ⟨h1, Or.inr ⟨h2, h3, h4⟩⟩
  · rintro ⟨h1, (h2 | ⟨h2, h3, h4⟩)⟩
    · exact ⟨h1, u1, fun x x0 x1 => by omega, by omega⟩
    · exact ⟨h1, h2, h3, h4⟩
/-- a traveller -/
theorem sT_sL (hA : OKA A B) {v : Int} (v0 : 0 ≤ v) (v1 : v < A 2) (u : Int) (u0 : A (375 + 8 * v + 1) ≤ u) (u1 : u ≤ 2880) : u ≤ A (375 + 8 * v + 1) + sL A v ↔ sT A (A (375 + 8 * v + 0)) (A (375 + 8 * v + 1)) (A (375 + 8 * v + 2)) u := by
  have hrg := sL_rg hA v0 v1
  unfold sT
  by_cases hu : u = A (375 + 8 * v + 1)
  · exact ⟨fun _ => ⟨u0, Or.inl hu⟩, fun _ => by omega⟩
  · have := sL_iff hA v0 v1 (n := u - A (375 + 8 * v + 1)) (by omega)
    rw [show A (375 + 8 * v + 1) + (u - A (375 + 8 * v + 1)) = u by omega] at this
    constructor
    · intro h
      obtain ⟨g1, g2, g3⟩ := this.1 (by omega)
      exact ⟨u0, Or.inr ⟨u1, g2, g3⟩⟩
    · rintro ⟨-, (g | ⟨g1, g2, g3⟩)⟩
      · exact absurd g hu
      · have := this.2 ⟨g1, g2, g3⟩
        omega
end FST
theorem zXor_none (r : Int) (r0 : 0 ≤ r) (r1 : r < 32) : zB (zXor 0 (-1)) r = true ↔ r ≠ -6 := by
  rw [zB_not 0 r r0 r1, zB_0]
  exact ⟨fun _ => by omega, fun _ => rfl⟩
theorem op_earliest {B : Int} {σ : zM} (h : Rel B σ) (a b c : Int) : wp_X_earliest σ a b c (fun r σ1 => wp_M_earliest σ1 a b c (fun r' σ2 => r = r' ∧ Rel B σ2)) := by
  have hA := h.2.2.2.2.2.1.1
  by_cases h1 : 0 ≤ a ∧ a ≤ 7
  rotate_left
  · simp [wp_X_earliest, wp_M_earliest, X_isPlace, M_isPlace, h1, h]
  by_cases h2 : 0 ≤ b ∧ b ≤ 7
  rotate_left
  · simp [wp_X_earliest, wp_M_earliest, X_isPlace, M_isPlace, h1, h2, h]
  by_cases h3 : 0 ≤ c ∧ c ≤ 2880
  rotate_left
  · simp [wp_X_earliest, wp_M_earliest, X_isPlace, M_isPlace, X_within, M_isTime, h1, h2, h3, h]
  unfold wp_X_earliest wp_M_earliest
  simp only [X_isPlace, X_within, M_isPlace, M_isTime, zIf1, h1, h2, h3, true_and, not_true, not_false_eq_true, false_implies, true_implies, and_true, and_self]
  unfold wp_X_earliestTime wp_M_earliestOf
  refine ⟨fun hne => ?_, fun he => ⟨fun c => absurd he c, fun _ => ⟨rfl, h⟩⟩⟩
  refine S_waitEnd h.1 hA h1.1 (by omega) h3.1 h3.2 ?_
  refine X_firstComing (w := -6) (c0 := c) h.1 hA h.2.2.2.2.1 ⟨h1.1, by omega⟩ h3 (by omega) (sT_wE hA ⟨h1.1, by omega⟩ h3) ⟨h2.1, by omega⟩ zXor_none (fun res σ1 wq fc => ?_)
  refine ⟨fun _ => ?_, fun c => absurd c hne⟩
  have e80 : σ1 80 = σ 80 := wq.1 80 (by omega)
  refine M_spreads hA e80 ⟨h1.1, by omega⟩ h3 ⟨h3.1, Int.le_refl _⟩ (fun τ fs ms => ?_)
  refine M_firstAt hA ⟨h1.1, by omega⟩ h3 ⟨h2.1, by omega⟩ ms (fun res' fc' => ⟨FC_uniq fc fc', Rel_way h wq (fun n hn => fs n (by omega) (by omega) (by omega))⟩)
theorem op_arrives {B : Int} {σ : zM} (h : Rel B σ) (v p : Int) : wp_X_arrives σ v p (fun r σ1 => wp_M_arrives σ1 v p (fun r' σ2 => r = r' ∧ Rel B σ2)) := by
  have hA := h.2.2.2.2.2.1.1
  have e7 : σ 0 7 = σ 80 2 := h.1.1.2.2
  have bb := hA.2.2.1
  by_cases h1 : 0 ≤ v ∧ v < σ 80 2
  rotate_left
  · simp [wp_X_arrives, wp_M_arrives, S_hasTraveller, M_isTraveller bb.1 bb.2, e7, h1, h]
  by_cases h2 : 0 ≤ p ∧ p ≤ 7
  rotate_left
  · simp [wp_X_arrives, wp_M_arrives, S_hasTraveller, M_isTraveller bb.1 bb.2, X_isPlace, M_isPlace, e7, h1, h2, h]
  have ht := hA.2.2.2.2.2.2 v h1.1 h1.2
  obtain ⟨t0, t1, t2, t3, t4, t5⟩ := ht
  unfold wp_X_arrives
  simp only [S_hasTraveller, X_isPlace, e7, zIf1, h1, h2, true_and, not_true, not_false_eq_true, false_implies, true_implies, and_true, and_self]
  rw [S_ofT' h.1 h1.1 h1.2 bb.2 (by omega) (by omega), S_ofT' h.1 h1.1 h1.2 bb.2 (by omega) (by omega)]
  have mside : ∀ (σ1 : zM) (Q : Int → zM → Prop), σ1 80 = σ 80 → ((¬ σ 80 (375 + 8 * v + 0) = p → wp_M_spreadsFrom σ1 v (fun σ8 => wp_M_firstAt σ8 p (fun z9 => Q z9 σ8))) ∧ (σ 80 (375 + 8 * v + 0) = p → Q (σ 80 (375 + 8 * v + 1)) σ1)) → wp_M_arrives σ1 v p Q := by
    intro σ1 Q e80 hh
    unfold wp_M_arrives
    rw [M_isTraveller (by rw [e80]; exact bb.1) (by rw [e80]; exact bb.2), e80]
    simp only [M_isPlace, zIf1, h1, h2, true_and, not_true, not_false_eq_true, false_implies, true_implies, and_true, and_self]
    rw [M_ofT (by omega) (by omega), M_ofT (by omega) (by omega), e80]
    exact hh
  refine ⟨fun hne => ?_, fun he => mside σ _ rfl ⟨fun c => absurd he c, fun _ => ⟨rfl, h⟩⟩⟩
  have hrg := sL_rg hA h1.1 h1.2
  refine S_stayLeft h.1 hA h1.1 h1.2 ⟨zRi (by omega) (by omega), ?_⟩
  refine X_firstComing (w := -6) (c0 := σ 80 (375 + 8 * v + 2)) h.1 hA h.2.2.2.2.1 t0 (by omega) (by omega) (sT_sL hA h1.1 h1.2) ⟨h2.1, by omega⟩ zXor_none (fun res σ1 wq fc => ?_)
  have e80 : σ1 80 = σ 80 := wq.1 80 (by omega)
  refine mside σ1 _ e80 ⟨fun _ => ?_, fun c => absurd c hne⟩
  unfold wp_M_spreadsFrom
  rw [M_ofT (by omega) (by omega), M_ofT (by omega) (by omega), M_ofT (by omega) (by omega), e80]
  refine M_spreads hA e80 t0 (by omega) (by omega) (fun τ fs ms => ?_)
  refine M_firstAt hA t0 (by omega) ⟨h2.1, by omega⟩ ms (fun res' fc' => ⟨FC_uniq fc fc', Rel_way h wq (fun n hn => fs n (by omega) (by omega) (by omega))⟩)
theorem op_reach {B : Int} {σ : zM} (h : Rel B σ) (a b c : Int) : wp_X_reach σ a b c (fun r σ1 => wp_M_reach σ1 a b c (fun r' σ2 => r = r' ∧ Rel B σ2)) := by
  have hA := h.2.2.2.2.2.1.1
  by_cases h1 : 0 ≤ a ∧ a ≤ 7
  rotate_left
  · simp [wp_X_reach, wp_M_reach, X_isPlace, M_isPlace, h1, h]
  by_cases h2 : 0 ≤ b ∧ b ≤ 2880
  rotate_left
  · simp [wp_X_reach, wp_M_reach, X_isPlace, M_isPlace, X_within, M_isTime, h1, h2, h]
  by_cases h3 : 0 ≤ c ∧ c ≤ 2880
  rotate_left
  · simp [wp_X_reach, wp_M_reach, X_isPlace, M_isPlace, X_within, M_isTime, h1, h2, h3, h]
  unfold wp_X_reach
  simp only [X_isPlace, X_within, zIf1, h1, h2, h3, true_and, not_true, not_false_eq_true, false_implies, true_implies, and_true, and_self]
  have hp : 0 ≤ a ∧ a < 8 := ⟨h1.1, by omega⟩
  have mside : ∀ (σ1 : zM) (Q : Int → zM → Prop), σ1 80 = σ 80 → (∀ res τ, (∀ n, n < 85 → τ n = σ1 n) → zR res → (∀ k, 0 ≤ k → k < 32 → (zB res k = true ↔ (b ≤ c ∧ k = a) ∨ ∃ t, t ≤ c ∧ wC (σ 80) a b b (-6) k t)) → Q res τ) → wp_M_reach σ1 a b c Q := by
    intro σ1 Q e80 kk
    unfold wp_M_reach
    simp only [M_isPlace, M_isTime, zIf1, h1, h2, h3, true_and, not_true, not_false_eq_true, false_implies, true_implies, and_true, and_self]
    refine M_spreads hA e80 hp h2 ⟨h2.1, Int.le_refl _⟩ (fun τ fs ms => ?_)
    have go : ∀ s0, zR s0 → (∀ k, 0 ≤ k → k < 32 → (zB s0 k = true ↔ (b ≤ c ∧ k = a))) → wp_M_reach_b47 Q τ c s0 := by
      intro s0 z0 hs0
      unfold wp_M_reach_b47
      have key : ∀ (n : Nat) (s t : Int), 0 ≤ t → t ≤ c + 1 → zR s → (∀ k, 0 ≤ k → k < 32 → (zB s k = true ↔ (b ≤ c ∧ k = a) ∨ ∃ u, u < t ∧ wC (σ 80) a b b (-6) k u)) → c + 1 - t < n → wp_M_reach_L52 τ c Q n s t := by
        intro n
        induction n with
        | zero => intro s t _ _ _ _ _; omega
        | succ n ih =>
          intro s t t0 t1 hz hs hn
          rw [wp_M_reach_L52]
          refine ⟨fun c1 => kk s τ (fun n hn => fs n (by omega) (by omega) (by omega)) hz (fun k k0 k1 => (hs k k0 k1).trans ?_), fun c1 => ⟨by omega, zRi (by omega) (by omega), ih _ (t + 1) (by omega) (by omega) (zOr_rg _ _) (fun k k0 k1 => ?_) (by omega)⟩⟩
          · constructor
            · rintro (g | ⟨u, u0, g⟩)
              · exact Or.inl g
              · exact Or.inr ⟨u, by omega, g⟩
            · rintro (g | ⟨u, u0, g⟩)
              · exact Or.inl g
              · exact Or.inr ⟨u, by omega, g⟩
          · rw [zB_or, Bool.or_eq_true, hs k k0 k1, ms.1 t t0 (by omega) k k0 k1]
            constructor
            · rintro ((g | ⟨u, u0, g⟩) | g)
              · exact Or.inl g
              · exact Or.inr ⟨u, by omega, g⟩
              · exact Or.inr ⟨t, by omega, g⟩
            · rintro (g | ⟨u, u0, g⟩)
              · exact Or.inl (Or.inl g)
              · by_cases hut : u = t
                · subst hut; exact Or.inr g
                · exact Or.inl (Or.inr ⟨u, by omega, g⟩)
      refine ⟨(c + 1).toNat + 1, key _ s0 0 (by omega) (by omega) z0 (fun k k0 k1 => (hs0 k k0 k1).trans ⟨Or.inl, fun g => g.elim id (fun ⟨u, u0, g⟩ => ?_)⟩) (by omega)⟩
      have := wC_rg hA hp h2.2 g
      omega
    refine ⟨fun hlt => go 0 zR_0 (fun k k0 k1 => ?_), fun hge => go _ (zShl_rg _ _) (fun k k0 k1 => ?_)⟩
    · rw [zB_0]
      exact ⟨fun c => absurd c (by decide), fun c => by omega⟩
    · rw [zB_shl a k hp.1 (by omega) k0 k1, decide_eq_true_eq]
      exact ⟨fun hh => ⟨by omega, hh⟩, fun hh => hh.2⟩
  refine ⟨fun hle => ?_, fun hgt => mside σ _ rfl (fun res τ hm hz hb => ⟨zB_ext zR_0 hz (fun k k0 k1 => ?_), Rel_same h hm⟩)⟩
  rotate_left
  · rw [zB_0, Bool.eq_iff_iff, hb k k0 k1]
    refine ⟨fun c => absurd c (by decide), fun c => ?_⟩
    rcases c with c | ⟨t, t1, c⟩
    · omega
    · have := wC_rg hA hp h2.2 c; omega
  refine G_prepare h.1 hA h.2.2.2.2.1 (fun σ1 f1 g1 tab => ?_)
  have wq1 : WQ (σ 80) σ σ1 := ⟨fun n hn => f1 n (by omega) (by omega), g1, tab⟩
  refine S_waitEnd (WQ_RX wq1 h.1) hA hp.1 hp.2 h2.1 h2.2 ?_
  refine O_start (w := -6) (c0 := b) (t0 := b) hA hp h2 (sT_wE hA hp h2) (fun σ2 f2 oi => ?_)
  have wq2 : WQ (σ 80) σ σ2 := WQ_o wq1 (fun n hn => f2 n (by omega) (by omega))
  have key : ∀ (n : Nat) (σ' : zM) (s t : Int), b ≤ t → t ≤ c + 1 → zR s → WQ (σ 80) σ σ' → OI (σ 80) a b b (-6) 64 σ' t → (∀ k, 0 ≤ k → k < 32 → (zB s k = true ↔ (b ≤ c ∧ k = a) ∨ ∃ u, u < t ∧ wC (σ 80) a b b (-6) k u)) → c + 1 - t < n → wp_X_reach_L77 c (fun r σ1 => wp_M_reach σ1 a b c (fun r' σ2 => r = r' ∧ Rel B σ2)) n σ' s t := by
    intro n
    induction n with
    | zero => intro σ' s t _ _ _ _ _ _ _; omega
    | succ n ih =>
      intro σ' s t t0 t1 hz wq oi' hs hn
      rw [wp_X_reach_L77]
      refine ⟨fun c1 => mside σ' _ (wq.1 80 (by omega)) (fun res τ hm hz' hb => ⟨zB_ext hz hz' (fun k k0 k1 => ?_), Rel_way h wq hm⟩), fun c1 => ?_⟩
      · rw [Bool.eq_iff_iff, hb k k0 k1, hs k k0 k1]
        constructor
        · rintro (g | ⟨u, u0, g⟩)
          · exact Or.inl g
          · exact Or.inr ⟨u, by omega, g⟩
        · rintro (g | ⟨u, u0, g⟩)
          · exact Or.inl g
          · exact Or.inr ⟨u, by omega, g⟩
      · rw [O_comersAt (by omega) (by omega), G_at (by omega) (by omega)]
        refine O_minute (by omega) (WQ_RX wq h.1) hA hp (by omega) (by omega) (fun r r0 r1 => ?_) oi' (fun here σ3 _ _ f3 oi3 => ⟨zRi (by omega) (by omega), ih σ3 _ (t + 1) (by omega) (by omega) (zOr_rg _ _) (WQ_o wq (fun n hn => f3 n (by omega) (by omega))) oi3 (fun k k0 k1 => ?_) (by omega)⟩)
        · have hb0 := hA.1
          rw [wq.2.2 t (by omega) (by omega) r r0 (by omega)]
          exact ⟨fun hh => ⟨⟨r0, r1⟩, by omega, hh.2⟩, fun hh => ⟨r1, hh.2.2⟩⟩
        · have hC : zB (σ' (64 + 1) (t % 1024)) k = true ↔ wC (σ 80) a b b (-6) k t := (oi'.1 t (Int.le_refl _) (by omega) k k0 k1).trans ⟨wB_C, wC_Cb hA (Int.le_refl _)⟩
          rw [zB_or, Bool.or_eq_true, hs k k0 k1, hC]
          constructor
          · rintro ((g | ⟨u, u0, g⟩) | g)
            · exact Or.inl g
            · exact Or.inr ⟨u, by omega, g⟩
            · exact Or.inr ⟨t, by omega, g⟩
          · rintro (g | ⟨u, u0, g⟩)
            · exact Or.inl (Or.inl g)
            · by_cases hut : u = t
              · subst hut; exact Or.inr g
              · exact Or.inl (Or.inr ⟨u, by omega, g⟩)
  refine ⟨(c + 1 - b).toNat + 1, key _ σ2 _ b (Int.le_refl _) (by omega) (zShl_rg _ _) wq2 oi (fun k k0 k1 => ?_) (by omega)⟩
  rw [zB_shl a k hp.1 (by omega) k0 k1, decide_eq_true_eq]
  constructor
  · exact fun hh => Or.inl ⟨hle, hh⟩
  · rintro (g | ⟨u, u0, g⟩)
    · exact g.2
    · have := wC_rg hA hp h2.2 g; omega
