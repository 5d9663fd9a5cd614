/-! the reference reads the pad -/
def FrV (σ σ' : zM) : Prop := (∀ n, n ≠ 79 → σ' n = σ n) ∧ ∀ j, j ≠ 14 → j ≠ 21 → σ' 79 j = σ 79 j
theorem FrV_rfl (σ : zM) : FrV σ σ := ⟨fun _ _ => rfl, fun _ _ _ => rfl⟩
theorem FrV_trans {a b c : zM} (h : FrV a b) (g : FrV b c) : FrV a c := ⟨fun n hn => (g.1 n hn).trans (h.1 n hn), fun j h2 h3 => (g.2 j h2 h3).trans (h.2 j h2 h3)⟩
theorem FrV_U14 {a b : zM} {v : Int} (h : FrV a b) : FrV a (zU b 79 14 v) := ⟨fun n hn => by rw [zU_n hn]; exact h.1 n hn, fun j h2 h3 => by rw [zU_j h2]; exact h.2 j h2 h3⟩
theorem FrV_U21 {a b : zM} {v : Int} (h : FrV a b) : FrV a (zU b 79 21 v) := ⟨fun n hn => by rw [zU_n hn]; exact h.1 n hn, fun j h2 h3 => by rw [zU_j h3]; exact h.2 j h2 h3⟩
def FrT (σ σ' : zM) : Prop := (∀ n, n ≠ 79 → n ≠ 91 → σ' n = σ n) ∧ ∀ j, j < 14 → σ' 79 j = σ 79 j
theorem FrT_rfl (σ : zM) : FrT σ σ := ⟨fun _ _ _ => rfl, fun _ _ => rfl⟩
theorem FrT_trans {a b c : zM} (h : FrT a b) (g : FrT b c) : FrT a c := ⟨fun n h1 h2 => (g.1 n h1 h2).trans (h.1 n h1 h2), fun j hj => (g.2 j hj).trans (h.2 j hj)⟩
theorem FrT_V {a b : zM} (h : FrV a b) : FrT a b := ⟨fun n h1 _ => h.1 n h1, fun j hj => h.2 j (by omega) (by omega)⟩
theorem FrT_U79 {a b : zM} {j v : Int} (hj : 14 ≤ j) (h : FrT a b) : FrT a (zU b 79 j v) := ⟨fun n h1 h2 => by rw [zU_n h1]; exact h.1 n h1 h2, fun i hi => by rw [zU_j (by omega)]; exact h.2 i hi⟩
theorem FrT_U91 {a b : zM} {j v : Int} (h : FrT a b) : FrT a (zU b 91 j v) := ⟨fun n h1 h2 => by rw [zU_n h2]; exact h.1 n h1 h2, fun i hi => by rw [zU_n (by omega)]; exact h.2 i hi⟩
def RM (T : Int → Int) (L : Int) (τ : zM) : Prop := τ 79 7 = L ∧ (0 ≤ L ∧ L ≤ 80) ∧ ∀ i, 0 ≤ i → i < L → τ 84 i = T i
theorem RM_T {T : Int → Int} {L : Int} {a b : zM} (f : FrT a b) (h : RM T L a) : RM T L b := ⟨(f.2 7 (by omega)).trans h.1, h.2.1, fun i i0 i1 => by rw [f.1 84 (by omega) (by omega)]; exact h.2.2 i i0 i1⟩
theorem RM_V {T : Int → Int} {L : Int} {a b : zM} (f : FrV a b) (h : RM T L a) : RM T L b := RM_T (FrT_V f) h
section RM1
variable {T : Int → Int} {L : Int}
theorem M_passes {τ : zM} {a lo hi : Int} {Q : Int → zM → Prop} (hS : RM T L τ) (a0 : 0 ≤ a) (a1 : a ≤ L) (ha : τ 79 14 = a) (hlh : 0 ≤ lo ∧ hi ≤ 255) (ky : hD T L lo hi a → ∀ τ', FrV τ τ' → τ' 79 14 = a + 1 → τ' 79 21 = T a - 48 → Q 1 τ') (kn : ¬ hD T L lo hi a → Q 0 τ) : wp_M_passes τ lo hi Q := by
  have hL := hS.2.1
  unfold wp_M_passes
  rw [ha, hS.1]
  refine ⟨fun c => kn (fun hh => by have := hh.1; omega), fun c => ⟨by omega, ?_⟩⟩
  rw [hS.2.2 a a0 (by omega), M_isIn]
  refine ⟨fun c1 => ?_, fun c1 => ?_⟩
  · rw [zIf1, Classical.not_not] at c1
    refine ⟨by omega, zRi (by omega) (by omega), ?_⟩
    rintro _ rfl
    rw [zU_j (by omega), ha]
    refine ⟨zRi (by omega) (by omega), ?_⟩
    rintro _ rfl
    exact ky ⟨by omega, c1⟩ _ (FrV_U14 (FrV_U21 (FrV_rfl τ))) zU_s (by rw [zU_j (by omega), zU_s])
  · rw [zIf1] at c1
    exact kn (fun hh => c1 hh.2)
theorem M_isDigit {τ : zM} {a : Int} {Q : Int → Prop} (hS : RM T L τ) (a0 : 0 ≤ a) (ha : τ 79 14 = a) (ky : hD T L 48 57 a → Q 1) (kn : ¬ hD T L 48 57 a → Q 0) : wp_M_isDigitHere τ Q := by
  have hL := hS.2.1
  unfold wp_M_isDigitHere
  rw [ha, hS.1]
  refine ⟨fun c => kn (fun hh => by have := hh.1; omega), fun c => ⟨by omega, ?_⟩⟩
  rw [hS.2.2 a a0 (by omega), M_isIn]
  refine ⟨fun c1 => ?_, fun c1 => ?_⟩
  · rw [zIf1] at c1
    exact kn (fun hh => c1 hh.2)
  · rw [zIf1, Classical.not_not] at c1
    exact ky ⟨by omega, c1⟩
theorem M_L18 {k71 : zM → Int → Prop} {Q : Int → zM → Prop} : ∀ (k : Nat) (τ : zM) (v a : Int), k ≤ 4 → (0 < v → (k = 4 ∧ 1 ≤ v) ∨ (k = 3 ∧ 10 ≤ v) ∨ (k = 2 ∧ 100 ≤ v) ∨ (k = 1 ∧ 1000 ≤ v)) → (0 ≤ v ∧ v ≤ 2880) → RM T L τ → 0 ≤ a → τ 79 14 = a → ((nL T L k v a).1 = 1 → ∀ τ', FrV τ τ' → τ' 79 14 = (nL T L k v a).2.1 → k71 τ' (nL T L k v a).2.2) → ((nL T L k v a).1 = 0 → ∀ τ', FrV τ τ' → τ' 79 14 = (nL T L k v a).2.1 → Q 0 τ') → wp_M_passesNumber_L18 k71 Q (k + 1) τ v := by
  intro k
  induction k with
  | zero =>
    intro τ v a hk hv v1 hS a0 ha ky kn
    rw [wp_M_passesNumber_L18]
    exact ⟨fun _ => ky rfl τ (FrV_rfl τ) ha, fun c => by omega⟩
  | succ k ih =>
    intro τ v a hk hv v1 hS a0 ha ky kn
    have hL := hS.2.1
    rw [wp_M_passesNumber_L18]
    refine ⟨fun c => ?_, fun c => ?_⟩
    · have e : nL T L (k + 1) v a = (1, a, v) := by rw [nL, if_pos c]
      rw [e] at ky
      exact ky rfl τ (FrV_rfl τ) ha
    · refine M_isDigit hS a0 ha (fun h => ⟨fun c2 => absurd c2 (by decide), fun _ => ?_⟩) (fun h => ⟨fun _ => ?_, fun c2 => absurd rfl c2⟩)
      · have h1 := h.1
        have h2 := h.2
        rw [ha, hS.2.2 a a0 h1]
        refine ⟨by omega, zRi (by omega) (by omega), ?_⟩
        rintro _ rfl
        refine ⟨fun c3 => ⟨zRi (by omega) (by omega), ?_⟩, fun c3 => ?_⟩
        · rintro _ rfl
          have e : nL T L (k + 1) v a = nL T L k (10 * v + T a - 48) (a + 1) := by rw [nL, if_neg c, if_pos h, if_neg (by omega)]
          rw [e] at ky kn
          have f := FrV_U14 (v := a + 1) (FrV_rfl τ)
          exact ih _ (10 * v + T a - 48) (a + 1) (by omega) (fun _ => by omega) (by omega) (RM_V f hS) (by omega) zU_s (fun g τ' f' => ky g τ' (FrV_trans f f')) (fun g τ' f' => kn g τ' (FrV_trans f f'))
        · have e : nL T L (k + 1) v a = (0, a, v) := by rw [nL, if_neg c, if_pos h, if_pos (by omega)]
          rw [e] at kn
          exact kn rfl τ (FrV_rfl τ) ha
      · have e : nL T L (k + 1) v a = (1, a, v) := by rw [nL, if_neg c, if_neg h]
        rw [e] at ky
        exact ky rfl τ (FrV_rfl τ) ha
theorem M_number {τ : zM} {a : Int} {Q : Int → zM → Prop} (hS : RM T L τ) (a0 : 0 ≤ a) (a1 : a ≤ L) (ha : τ 79 14 = a) (ky : (pN T L a).1 = 1 → ∀ τ', FrV τ τ' → τ' 79 14 = (pN T L a).2.1 → τ' 79 21 = (pN T L a).2.2 → Q 1 τ') (kn : (pN T L a).1 = 0 → ∀ τ', FrV τ τ' → τ' 79 14 = (pN T L a).2.1 → Q 0 τ') : wp_M_passesNumber τ Q := by
  have hL := hS.2.1
  unfold wp_M_passesNumber
  refine M_passes hS a0 a1 ha (by omega) (fun h τ1 f1 e14 e21 => ⟨fun _ => ⟨5, ?_⟩, fun c => absurd c (by decide)⟩) (fun h => ⟨fun c => absurd rfl c, fun _ => ?_⟩)
  · have h1 := h.1
    have h2 := h.2
    have e : pN T L a = nL T L 4 (T a - 48) (a + 1) := by unfold pN; rw [if_pos h]
    rw [e] at ky kn
    rw [e21]
    refine M_L18 4 τ1 (T a - 48) (a + 1) (by omega) (fun _ => by omega) (by omega) (RM_V f1 hS) (by omega) e14 (fun g τ2 f2 g14 => ?_) (fun g τ2 f2 g14 => kn g τ2 (FrV_trans f1 f2) g14)
    unfold wp_M_passesNumber_b71
    rintro _ rfl
    exact ky g _ (FrV_U21 (FrV_trans f1 f2)) (by rw [zU_j (by omega)]; exact g14) zU_s
  · have e : pN T L a = (0, a, 0) := by unfold pN; rw [if_neg h]
    rw [e] at kn
    exact kn rfl τ (FrV_rfl τ) ha
theorem M_clock {τ : zM} {a : Int} {Q : Int → zM → Prop} (hS : RM T L τ) (a0 : 0 ≤ a) (a1 : a ≤ L) (ha : τ 79 14 = a) (ky : (pK T L a).1 = 1 → ∀ τ', FrV τ τ' → τ' 79 14 = (pK T L a).2.1 → τ' 79 21 = (pK T L a).2.2 → Q 1 τ') (kn : (pK T L a).1 = 0 → ∀ τ', FrV τ τ' → τ' 79 14 = (pK T L a).2.1 → Q 0 τ') : wp_M_passesClock τ Q := by
  have hL := hS.2.1
  have bad : ∀ (b : Int) (τ' : zM), pK T L a = (0, b, 0) → FrV τ τ' → τ' 79 14 = b → Q 0 τ' := by
    intro b τ' e f g
    rw [e] at kn
    exact kn rfl τ' f g
  unfold wp_M_passesClock
  refine M_passes hS a0 a1 ha (by omega) (fun c1 τ1 f1 e14 e21 => ⟨fun _ => ?_, fun c => absurd c (by decide)⟩) (fun c1 => ⟨fun c => absurd rfl c, fun _ => bad a τ (by unfold pK; rw [if_neg c1]) (FrV_rfl τ) ha⟩)
  have h1 := c1.1
  have h2 := c1.2
  have hS1 := RM_V f1 hS
  rw [e21]
  have hour : ∀ m, m = (if T a - 48 = 2 then 52 else 57) → wp_M_passesClock_b37 Q τ1 (10 * (T a - 48)) 48 m := by
    intro m hm
    have hm1 : 52 ≤ m ∧ m ≤ 57 := by rw [hm]; split <;> omega
    unfold wp_M_passesClock_b37
    refine M_passes hS1 (by omega) (by omega) e14 (by omega) (fun c2 τ2 f2 g14 g21 => ⟨fun _ => ?_, fun c => absurd c (by decide)⟩) (fun c2 => ⟨fun c => absurd rfl c, fun _ => bad (a + 1) τ1 (by unfold pK; rw [if_pos c1, if_neg (by rw [← hm]; exact c2)]) f1 e14⟩)
    have c2' : hD T L 48 (if T a - 48 = 2 then 52 else 57) (a + 1) := by rw [← hm]; exact c2
    have g1 := c2.1
    have g2 := c2.2
    have hS2 := RM_V f2 hS1
    have f12 := FrV_trans f1 f2
    rw [g21]
    generalize hH : 10 * (T a - 48) + (T (a + 1) - 48) = H
    have hHr : 0 ≤ H ∧ H ≤ 99 := by omega
    have mins : ∀ m, m = (if H = 24 then 48 else 53) → wp_M_passesClock_b68 Q τ2 H 48 m := by
      intro m2 hm2
      have hm21 : 48 ≤ m2 ∧ m2 ≤ 53 := by rw [hm2]; split <;> omega
      unfold wp_M_passesClock_b68
      refine M_passes hS2 (by omega) (by omega) g14 (by omega) (fun c3 τ3 f3 i14 i21 => ⟨fun _ => ?_, fun c => absurd c (by decide)⟩) (fun c3 => ⟨fun c => absurd rfl c, fun _ => bad (a + 1 + 1) τ2 (by unfold pK; rw [if_pos c1, if_pos c2', hH, if_neg (by rw [← hm2, show a + 2 = a + 1 + 1 by omega]; exact c3), show a + 2 = a + 1 + 1 by omega]) f12 g14⟩)
      have c3' : hD T L 48 (if H = 24 then 48 else 53) (a + 2) := by rw [← hm2, show a + 2 = a + 1 + 1 by omega]; exact c3
      have i1 := c3.1
      have i2 := c3.2
      have hS3 := RM_V f3 hS2
      have f13 := FrV_trans f12 f3
      rw [i21]
      have last : ∀ m, m = (if H = 24 then 48 else 57) → wp_M_passesClock_b100 Q τ3 H (10 * (T (a + 1 + 1) - 48)) 48 m := by
        intro m3 hm3
        have hm31 : 48 ≤ m3 ∧ m3 ≤ 57 := by rw [hm3]; split <;> omega
        unfold wp_M_passesClock_b100
        refine M_passes hS3 (by omega) (by omega) i14 (by omega) (fun c4 τ4 f4 j14 j21 => ⟨fun _ => ?_, fun c => absurd c (by decide)⟩) (fun c4 => ⟨fun c => absurd rfl c, fun _ => bad (a + 1 + 1 + 1) τ3 (by unfold pK; rw [if_pos c1, if_pos c2', hH, if_pos c3', if_neg (by rw [← hm3, show a + 3 = a + 1 + 1 + 1 by omega]; exact c4), show a + 3 = a + 1 + 1 + 1 by omega]) f13 i14⟩)
        have c4' : hD T L 48 (if H = 24 then 48 else 57) (a + 3) := by rw [← hm3, show a + 3 = a + 1 + 1 + 1 by omega]; exact c4
        have j2 := c4.2
        rw [j21]
        refine ⟨zRi (by omega) (by omega), ?_⟩
        rintro _ rfl
        have e : pK T L a = (1, a + 4, 60 * H + 10 * (T (a + 2) - 48) + (T (a + 3) - 48)) := by
          unfold pK; rw [if_pos c1, if_pos c2', hH, if_pos c3', if_pos c4']
        rw [e] at ky
        refine ky rfl _ (FrV_U21 (FrV_trans f13 f4)) ?_ ?_
        · show zU τ4 79 21 _ 79 14 = a + 4
          rw [zU_j (by omega), j14]; omega
        · show zU τ4 79 21 _ 79 21 = 60 * H + 10 * (T (a + 2) - 48) + (T (a + 3) - 48)
          rw [zU_s, show a + 2 = a + 1 + 1 by omega, show a + 3 = a + 1 + 1 + 1 by omega]
      refine ⟨zRi (by omega) (by omega), fun c5 => last 57 (by rw [if_neg c5]), fun c5 => last 48 (by rw [if_pos c5])⟩
    refine ⟨zRi (by omega) (by omega), fun c5 => mins 53 (by rw [if_neg c5]), fun c5 => mins 48 (by rw [if_pos c5])⟩
  refine ⟨zRi (by omega) (by omega), fun c5 => hour 57 (by rw [if_neg (by omega)]), fun c5 => hour 52 (by rw [if_pos (by omega)])⟩
/-- a span: the h-th -/
theorem M_hours {τ : zM} {a h : Int} {Q : Int → zM → Prop} (hS : RM T L τ) (a0 : 0 ≤ a) (a1 : a ≤ L) (ha : τ 79 14 = a) (hh : τ 79 19 = h) (h0 : 0 ≤ h ∧ h < 3) (ky : (pP T L a).1 = 1 → ∀ τ', FrT τ τ' → (∀ j, 15 ≤ j → j ≤ 20 → j ≠ 19 → τ' 79 j = τ 79 j) → τ' 79 14 = (pP T L a).2.1 → τ' 79 19 = h + 1 → (∀ i, τ' 91 i = cW (τ 91) h (pP T L a).2.2.1 (pP T L a).2.2.2 i) → Q 1 τ') (kn : (pP T L a).1 = 0 → ∀ τ', FrT τ τ' → τ' 79 14 = (pP T L a).2.1 → Q 0 τ') : wp_M_passesHours τ Q := by
  have hL := hS.2.1
  have hK := pK_rg (T := T) a1
  unfold wp_M_passesHours
  refine M_clock hS a0 a1 ha (fun k1 τ1 f1 e14 e21 => ⟨fun _ => ?_, fun c => absurd c (by decide)⟩) (fun k1 τ1 f1 e14 => ⟨fun c => absurd rfl c, fun _ => ?_⟩)
  rotate_left
  · have e : pP T L a = (0, (pK T L a).2.1, 0, 0) := by unfold pP; rw [if_pos k1]
    rw [e] at kn
    exact kn rfl τ1 (FrT_V f1) e14
  have k1' : ¬ (pK T L a).1 = 0 := by omega
  have h19 : τ1 79 19 = h := by rw [f1.2 19 (by omega) (by omega)]; exact hh
  rw [h19]
  refine ⟨by omega, ?_⟩
  intro τ2 g2
  have f2 : FrT τ τ2 := by rw [g2]; exact FrT_U91 (FrT_V f1)
  have j79 : ∀ j, τ2 79 j = τ1 79 j := fun j => by rw [g2, zU_n (by omega)]
  have hS2 := RM_T f2 hS
  have l1 := hK.2.1
  refine M_passes (a := (pK T L a).2.1) hS2 (by omega) (by omega) (by rw [j79]; exact e14) (by omega) (fun c2 τ3 f3 i14 i21 => ⟨fun c => absurd c (by decide), fun _ => ?_⟩) (fun c2 => ⟨fun _ => ?_, fun c => absurd rfl c⟩)
  rotate_left
  · have e : pP T L a = (0, (pK T L a).2.1, 0, 0) := by unfold pP; rw [if_neg k1', if_neg c2]
    rw [e] at kn
    exact kn rfl τ2 f2 (by rw [j79]; exact e14)
  have l2 := c2.1
  have f3' := FrT_trans f2 (FrT_V f3)
  have hK2 := pK_rg (T := T) (L := L) (a := (pK T L a).2.1 + 1) (by omega)
  refine M_clock (a := (pK T L a).2.1 + 1) (RM_T f3' hS) (by omega) (by omega) i14 (fun k2 τ4 f4 m14 m21 => ⟨fun _ => ?_, fun c => absurd c (by decide)⟩) (fun k2 τ4 f4 m14 => ⟨fun c => absurd rfl c, fun _ => ?_⟩)
  rotate_left
  · have e : pP T L a = (0, (pK T L ((pK T L a).2.1 + 1)).2.1, 0, 0) := by unfold pP; rw [if_neg k1', if_pos c2, if_pos k2]
    rw [e] at kn
    exact kn rfl τ4 (FrT_trans f3' (FrT_V f4)) m14
  have k2' : ¬ (pK T L ((pK T L a).2.1 + 1)).1 = 0 := by omega
  have e : pP T L a = (1, (pK T L ((pK T L a).2.1 + 1)).2.1, (pK T L a).2.2, (pK T L ((pK T L a).2.1 + 1)).2.2) := by unfold pP; rw [if_neg k1', if_pos c2, if_neg k2']
  rw [e] at ky
  have n19 : τ4 79 19 = h := by rw [f4.2 19 (by omega) (by omega), f3.2 19 (by omega) (by omega), j79]; exact h19
  rw [n19]
  refine ⟨by omega, ?_⟩
  intro τ5 g5
  have o19 : τ5 79 19 = h := by rw [g5, zU_n (by omega)]; exact n19
  rw [o19]
  refine ⟨zRi (by omega) (by omega), ?_⟩
  intro τ6 g6
  have f6 : FrT τ τ6 := by rw [g6, g5]; exact FrT_U79 (by omega) (FrT_U91 (FrT_trans f3' (FrT_V f4)))
  refine ky rfl τ6 f6 (fun j j0 j1 j2 => ?_) ?_ ?_ (fun i => ?_)
  · rw [g6, zU_j j2, g5, zU_n (by omega), f4.2 j (by omega) (by omega), f3.2 j (by omega) (by omega), j79, f1.2 j (by omega) (by omega)]
  · show τ6 79 14 = (pK T L ((pK T L a).2.1 + 1)).2.1
    rw [g6, zU_j (by omega), g5, zU_n (by omega)]; exact m14
  · rw [g6]; exact zU_s
  · show τ6 91 i = cW (τ 91) h (pK T L a).2.2 (pK T L ((pK T L a).2.1 + 1)).2.2 i
    rw [g6, zU_n (by omega), g5, zU_g, f4.1 91 (by omega), f3.1 91 (by omega), g2, zU_g, f1.1 91 (by omega), e21, m21]
    unfold cW
    by_cases d1 : i = 2 * h
    · rw [if_neg (by omega), if_pos d1, if_pos d1]
    · rw [if_neg d1, if_neg d1]
/-- what the reference knows of an order that was read -/
def mReg (τ : zM) (D : Int → Int) : Prop := τ 79 15 = D 0 ∧ τ 79 16 = D 1 ∧ (D 0 ≠ 115 → τ 79 17 = D 2) ∧ (D 0 = 120 → τ 79 18 = D 3) ∧ (D 0 = 115 → τ 79 19 = D 4 ∧ τ 79 20 = D 5 ∧ ∀ i, 0 ≤ i → i < 2 * D 4 → τ 91 i = D (6 + i))
def mEnd (τ τ' : zM) (o : Int × Int × (Int → Int)) : Prop := FrT τ τ' ∧ τ' 79 14 = o.2.1 ∧ (o.1 = 1 → mReg τ' o.2.2)
theorem mEnd_fl {τ τ' : zM} {b : Int} (f : FrT τ τ') (e : τ' 79 14 = b) : mEnd τ τ' (fl b) := ⟨f, e, fun c => absurd (show (0 : Int) = 1 from c) (by decide)⟩
/-- the spans behind the first one: as pH, once a span was read -/
theorem M_L47 {k75 : zM → Prop} {Q : Int → zM → Prop} : ∀ (k : Nat) (τ : zM) (h a b : Int) (C : Int → Int), (k : Int) = 2 - h → (0 ≤ h ∧ h < 3) → RM T L τ → (0 ≤ a ∧ a ≤ L) → (pP T L a).1 = 1 → (pP T L a).2.1 = b → τ 79 14 = b → τ 79 19 = h + 1 → (∀ i, 0 ≤ i → i < 2 * (h + 1) → τ 91 i = cW C h (pP T L a).2.2.1 (pP T L a).2.2.2 i) → ((pH T L (k + 1) h a C).1 = 1 → ∀ τ', FrT τ τ' → (∀ j, 15 ≤ j → j ≤ 20 → j ≠ 19 → τ' 79 j = τ 79 j) → τ' 79 14 = (pH T L (k + 1) h a C).2.1 → τ' 79 19 = (pH T L (k + 1) h a C).2.2.1 → (∀ i, 0 ≤ i → i < 2 * (pH T L (k + 1) h a C).2.2.1 → τ' 91 i = (pH T L (k + 1) h a C).2.2.2 i) → k75 τ') → ((pH T L (k + 1) h a C).1 = 0 → ∀ τ', FrT τ τ' → τ' 79 14 = (pH T L (k + 1) h a C).2.1 → Q 0 τ') → wp_M_passesSpans_L47 k75 Q (k + 1) τ := by
  intro k
  induction k with
  | zero =>
    intro τ h a b C hk hh hS ha hp1 hb e14 e19 hC ky kn
    have h2 : h = 2 := by omega
    have e : pH T L (0 + 1) h a C = (1, (pP T L a).2.1, h + 1, cW C h (pP T L a).2.2.1 (pP T L a).2.2.2) := by rw [pH, if_neg (by omega), if_neg (by omega)]
    rw [e] at ky
    rw [wp_M_passesSpans_L47, e19]
    exact ⟨fun _ => ky rfl τ (FrT_rfl τ) (fun _ _ _ _ => rfl) (e14.trans hb.symm) e19 hC, fun c => by omega⟩
  | succ k ih =>
    intro τ h a b C hk hh hS ha hp1 hb e14 e19 hC ky kn
    have hL := hS.2.1
    have hP := pP_rg (T := T) ha.2
    have eH : pH T L (k + 1 + 1) h a C = if h + 1 < 3 ∧ hD T L 44 44 b then pH T L (k + 1) (h + 1) (b + 1) (cW C h (pP T L a).2.2.1 (pP T L a).2.2.2) else (1, b, h + 1, cW C h (pP T L a).2.2.1 (pP T L a).2.2.2) := by
      rw [pH, if_neg (by omega), hb]
    rw [eH] at ky kn
    have b0 : 0 ≤ b ∧ b ≤ L := by have := hP.2.1; omega
    rw [wp_M_passesSpans_L47, e19]
    refine ⟨fun c => by omega, fun _ => ?_⟩
    refine M_passes (a := b) hS b0.1 b0.2 e14 (by omega) (fun c2 τ1 f1 g14 g21 => ⟨fun c => absurd c (by decide), fun _ => ?_⟩) (fun c2 => ⟨fun _ => ?_, fun c => absurd rfl c⟩)
    rotate_left
    · rw [if_neg (fun hh => c2 hh.2)] at ky
      exact ky rfl τ (FrT_rfl τ) (fun _ _ _ _ => rfl) e14 e19 hC
    rw [if_pos ⟨by omega, c2⟩] at ky kn
    have l1 := c2.1
    have hS1 := RM_V f1 hS
    have C1 : ∀ i, 0 ≤ i → i < 2 * (h + 1) → τ1 91 i = cW C h (pP T L a).2.2.1 (pP T L a).2.2.2 i := fun i i0 i1 => by rw [f1.1 91 (by omega)]; exact hC i i0 i1
    generalize cW C h (pP T L a).2.2.1 (pP T L a).2.2.2 = C' at C1 ky kn
    refine M_hours (a := b + 1) (h := h + 1) hS1 (by omega) (by omega) g14 (by rw [f1.2 19 (by omega) (by omega)]; exact e19) (by omega) (fun q1 τ2 f2 fj2 i14 i19 i91 => ⟨fun _ => ?_, fun c => absurd c (by decide)⟩) (fun q1 τ2 f2 i14 => ⟨fun c => absurd rfl c, fun _ => ?_⟩)
    · have f12 := FrT_trans (FrT_V f1) f2
      refine ih τ2 (h + 1) (b + 1) _ C' (by omega) (by omega) (RM_T f2 hS1) (by omega) q1 rfl i14 i19 (fun i i0 i1 => ?_) (fun g τ' f' fj p14 p19 p91 => ky g τ' (FrT_trans f12 f') (fun j j0 j1 j2 => ?_) p14 p19 p91) (fun g τ' f' p14 => kn g τ' (FrT_trans f12 f') p14)
      · rw [i91 i]
        unfold cW
        by_cases d1 : i = 2 * (h + 1)
        · rw [if_pos d1, if_pos d1]
        · rw [if_neg d1, if_neg d1]
          by_cases d2 : i = 2 * (h + 1) + 1
          · rw [if_pos d2, if_pos d2]
          · rw [if_neg d2, if_neg d2]; exact C1 i i0 (by omega)
      · rw [fj j j0 j1 j2, fj2 j j0 j1 j2, f1.2 j (by omega) (by omega)]
    · have e : pH T L (k + 1) (h + 1) (b + 1) C' = (0, (pP T L (b + 1)).2.1, h + 1, C') := by rw [pH, if_pos q1]
      rw [e] at kn
      exact kn rfl τ2 (FrT_trans (FrT_V f1) f2) i14
theorem M_passesSpans {τ : zM} {a : Int} {Q : Int → zM → Prop} (hS : RM T L τ) (a0 : 0 ≤ a) (a1 : a ≤ L) (ha : τ 79 14 = a) (h15 : τ 79 15 = 115) (kk : ∀ τ', mEnd τ τ' (oS T L a) → Q (oS T L a).1 τ') : wp_M_passesSpans τ Q := by
  have hL := hS.2.1
  have hN := pN_rg (T := T) a1
  unfold wp_M_passesSpans
  rintro _ rfl
  intro τ2 g2
  have f2 : FrT τ τ2 := by rw [g2]; exact FrT_U79 (by omega) (FrT_U79 (by omega) (FrT_rfl τ))
  have b19 : τ2 79 19 = 0 := by rw [g2, zU_j (by omega), zU_s]
  have b14 : τ2 79 14 = a := by rw [g2, zU_j (by omega), zU_j (by omega)]; exact ha
  have b15 : τ2 79 15 = 115 := by rw [g2, zU_j (by omega), zU_j (by omega)]; exact h15
  have bad : ∀ (b : Int) (τ' : zM), oS T L a = fl b → FrT τ τ' → τ' 79 14 = b → Q 0 τ' := by
    intro b τ' e f g
    rw [e] at kk
    exact kk τ' (mEnd_fl f g)
  refine M_number (RM_T f2 hS) a0 a1 b14 (fun n1 τ3 f3 e14 e21 => ⟨fun _ => ?_, fun c => absurd c (by decide)⟩) (fun n1 τ3 f3 e14 => ⟨fun c => absurd rfl c, fun _ => bad _ τ3 (by unfold oS; rw [if_pos n1]) (FrT_trans f2 (FrT_V f3)) e14⟩)
  have n1' : ¬ (pN T L a).1 = 0 := by omega
  have l0 := hN.2.1
  intro τ4 g4
  have f4 : FrT τ τ4 := by rw [g4]; exact FrT_U79 (by omega) (FrT_trans f2 (FrT_V f3))
  refine M_passes (a := (pN T L a).2.1) (RM_T f4 hS) (by omega) (by omega) (by rw [g4, zU_j (by omega)]; exact e14) (by omega) (fun c2 τ5 f5 i14 i21 => ⟨fun c => absurd c (by decide), fun _ => ?_⟩) (fun c2 => ⟨fun _ => bad _ τ4 (by unfold oS; rw [if_neg n1', if_neg c2]) f4 (by rw [g4, zU_j (by omega)]; exact e14), fun c => absurd rfl c⟩)
  have l1 := c2.1
  have f5' := FrT_trans f4 (FrT_V f5)
  have d19 : τ5 79 19 = 0 := by rw [f5.2 19 (by omega) (by omega), g4, zU_j (by omega), f3.2 19 (by omega) (by omega)]; exact b19
  have d15 : τ5 79 15 = 115 := by rw [f5.2 15 (by omega) (by omega), g4, zU_j (by omega), f3.2 15 (by omega) (by omega)]; exact b15
  have d16 : τ5 79 16 = (pN T L a).2.2 := by rw [f5.2 16 (by omega) (by omega), g4, zU_s]; exact e21
  have eo : oS T L a = if (pH T L 3 0 ((pN T L a).2.1 + 1) (fun _ => 0)).1 = 0 then fl (pH T L 3 0 ((pN T L a).2.1 + 1) (fun _ => 0)).2.1
    else if hD T L 33 33 (pH T L 3 0 ((pN T L a).2.1 + 1) (fun _ => 0)).2.1 then (1, (pH T L 3 0 ((pN T L a).2.1 + 1) (fun _ => 0)).2.1 + 1, oD 115 (pN T L a).2.2 0 0 (pH T L 3 0 ((pN T L a).2.1 + 1) (fun _ => 0)).2.2.1 1 (pH T L 3 0 ((pN T L a).2.1 + 1) (fun _ => 0)).2.2.2)
    else (1, (pH T L 3 0 ((pN T L a).2.1 + 1) (fun _ => 0)).2.1, oD 115 (pN T L a).2.2 0 0 (pH T L 3 0 ((pN T L a).2.1 + 1) (fun _ => 0)).2.2.1 0 (pH T L 3 0 ((pN T L a).2.1 + 1) (fun _ => 0)).2.2.2) := by
    unfold oS
    rw [if_neg n1', if_pos c2]
  have hH := pH_rg (T := T) (L := L) 3 0 ((pN T L a).2.1 + 1) (fun _ => 0) (by omega) (by omega) (by omega) (fun i i0 i1 => by omega)
  refine M_hours (a := (pN T L a).2.1 + 1) (h := 0) (RM_T f5' hS) (by omega) (by omega) i14 d19 (by omega) (fun q1 τ6 f6 fj6 j14 j19 j91 => ⟨fun _ => ⟨3, ?_⟩, fun c => absurd c (by decide)⟩) (fun q1 τ6 f6 j14 => ⟨fun c => absurd rfl c, fun _ => ?_⟩)
  rotate_left
  · have e : pH T L 3 0 ((pN T L a).2.1 + 1) (fun _ => 0) = (0, (pP T L ((pN T L a).2.1 + 1)).2.1, 0, fun _ => 0) := by rw [pH, if_pos q1]
    rw [e] at eo
    rw [if_pos rfl] at eo
    exact bad _ τ6 eo (FrT_trans f5' f6) j14
  have f6' := FrT_trans f5' f6
  refine M_L47 2 τ6 0 ((pN T L a).2.1 + 1) _ (fun _ => 0) (by omega) (by omega) (RM_T f6' hS) (by omega) q1 rfl j14 j19 (fun i i0 i1 => ?_) (fun g τ7 f7 fj7 m14 m19 m91 => ?_) (fun g τ7 f7 m14 => ?_)
  · rw [j91 i]
    unfold cW
    by_cases e1 : i = 2 * 0
    · rw [if_pos e1, if_pos e1]
    · rw [if_neg e1, if_neg e1, if_pos (by omega), if_pos (by omega)]
  · have g : (pH T L 3 0 ((pN T L a).2.1 + 1) (fun _ => 0)).1 = 1 := g
    have m14 : τ7 79 14 = (pH T L 3 0 ((pN T L a).2.1 + 1) (fun _ => 0)).2.1 := m14
    have m19 : τ7 79 19 = (pH T L 3 0 ((pN T L a).2.1 + 1) (fun _ => 0)).2.2.1 := m19
    have m91 : ∀ i, 0 ≤ i → i < 2 * (pH T L 3 0 ((pN T L a).2.1 + 1) (fun _ => 0)).2.2.1 → τ7 91 i = (pH T L 3 0 ((pN T L a).2.1 + 1) (fun _ => 0)).2.2.2 i := m91
    rw [eo] at kk
    generalize pH T L 3 0 ((pN T L a).2.1 + 1) (fun _ => 0) = H at hH kk g m14 m19 m91
    have f7' := FrT_trans f6' f7
    rw [if_neg (by omega)] at kk
    have reg : ∀ (τ8 : zM) (s : Int), FrV τ7 τ8 → mReg (zU τ8 79 20 s) (oD 115 (pN T L a).2.2 0 0 H.2.2.1 s H.2.2.2) := by
      intro τ8 s f8
      refine ⟨?_, ?_, fun hh => absurd rfl hh, fun hh => absurd (show (115 : Int) = 120 from hh) (by decide), fun _ => ⟨?_, zU_s, fun i i0 i1 => ?_⟩⟩
      · show zU τ8 79 20 s 79 15 = 115
        rw [zU_j (by omega), f8.2 15 (by omega) (by omega), fj7 15 (by omega) (by omega) (by omega), fj6 15 (by omega) (by omega) (by omega)]; exact d15
      · show zU τ8 79 20 s 79 16 = (pN T L a).2.2
        rw [zU_j (by omega), f8.2 16 (by omega) (by omega), fj7 16 (by omega) (by omega) (by omega), fj6 16 (by omega) (by omega) (by omega)]; exact d16
      · show zU τ8 79 20 s 79 19 = H.2.2.1
        rw [zU_j (by omega), f8.2 19 (by omega) (by omega)]; exact m19
      · have e : oD 115 (pN T L a).2.2 0 0 H.2.2.1 s H.2.2.2 (6 + i) = H.2.2.2 i := by
          unfold oD
          rw [if_neg (by omega), if_neg (by omega), if_neg (by omega), if_neg (by omega), if_neg (by omega), if_neg (by omega)]
          rw [show 6 + i - 6 = i by omega]
        rw [e, zU_n (by omega), f8.1 91 (by omega)]
        exact m91 i i0 i1
    have hHl := hH.2.1
    unfold wp_M_passesSpans_b75
    refine M_passes (a := H.2.1) (RM_T f7' hS) (by omega) (by omega) m14 (by omega) (fun c8 τ8 f8 p14 p21 => ⟨fun c => absurd c (by decide), fun _ => ?_⟩) (fun c8 => ⟨fun _ => ?_, fun c => absurd rfl c⟩)
    · rw [if_pos c8] at kk
      rintro _ rfl
      exact kk _ ⟨FrT_U79 (by omega) (FrT_trans f7' (FrT_V f8)), by rw [zU_j (by omega)]; exact p14, fun _ => reg τ8 1 f8⟩
    · rw [if_neg c8] at kk
      rintro _ rfl
      exact kk _ ⟨FrT_U79 (by omega) f7', by rw [zU_j (by omega)]; exact m14, fun _ => reg τ7 0 (FrV_rfl τ7)⟩
  · have g : (pH T L 3 0 ((pN T L a).2.1 + 1) (fun _ => 0)).1 = 0 := g
    rw [if_pos g] at eo
    exact bad _ τ7 eo (FrT_trans f6' f7) m14
end RM1
