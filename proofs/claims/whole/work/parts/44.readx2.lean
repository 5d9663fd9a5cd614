/-! the class reads orders -/
def pRest (k23 : zM → Int → Prop) (σ14 : zM) (i z : Int) : Prop := (0 ≤ i ∧ i < 6) ∧ ∀ σ16 : zM, σ16 = zU σ14 61 i z → zR ((σ16 58 7) + 1) ∧ ∀ σ18 : zM, σ18 = zU σ16 58 7 ((σ16 58 7) + 1) → ((3 ≤ (σ18 58 7) → k23 σ18 0) ∧ (¬ 3 ≤ (σ18 58 7) → wp_P_take σ18 44 (fun z19 σ20 => ((z19 = 0 → k23 σ20 0) ∧ (¬ z19 = 0 → k23 σ20 1)))))
section RX3
variable {T : Int → Int} {L : Int}
theorem P_stop {k109 Q : zM → Prop} {m : Nat} {σ : zM} (k : k109 σ) : wp_P_readSpans_L23 k109 Q (m + 1) σ 0 := by
  rw [wp_P_readSpans_L23]
  exact ⟨fun _ => k, fun _ => ⟨fun _ => k, fun c => absurd rfl c⟩⟩
/-- behind the second clock of a span, when it is wrong already -/
theorem P_restD {k109 Q : zM → Prop} {m : Nat} {σ : zM} {h i z : Int} (hh : σ 58 7 = h) (h0 : 0 ≤ h ∧ h < 3) (hi : i = 2 * h + 1) (hw : σ 58 3 = 1) (k : ∀ σ', FrP σ σ' → σ' 60 = σ 60 → σ' 58 4 = σ 58 4 → σ' 58 2 = σ 58 2 → σ' 58 3 = 1 → k109 σ') : pRest (wp_P_readSpans_L23 k109 Q (m + 1)) σ i z := by
  refine ⟨by omega, ?_⟩
  rintro _ rfl
  rw [zU_n (by omega), hh]
  refine ⟨zRi (by omega) (by omega), ?_⟩
  rintro _ rfl
  have e3 : zU (zU σ 61 i z) 58 7 (h + 1) 58 3 = 1 := by rw [zU_j (by omega), zU_n (by omega)]; exact hw
  have fin : k109 (zU (zU σ 61 i z) 58 7 (h + 1)) :=
    k _ (FrP_U58 (by omega) (FrP_U61 (FrP_rfl σ))) (by rw [zU_n (by omega), zU_n (by omega)]) (by rw [zU_j (by omega), zU_n (by omega)]) (by rw [zU_j (by omega), zU_n (by omega)]) e3
  exact ⟨fun _ => P_stop fin, fun _ => P_take1 e3 ⟨fun _ => P_stop fin, fun c => absurd rfl c⟩⟩
/-- spans when it is wrong already -/
theorem P_spansD {k109 Q : zM → Prop} {m : Nat} {σ : zM} {h : Int} (hh : σ 58 7 = h) (h0 : 0 ≤ h ∧ h < 3) (hw : σ 58 3 = 1) (k : ∀ σ', FrP σ σ' → σ' 60 = σ 60 → σ' 58 4 = σ 58 4 → σ' 58 2 = σ 58 2 → σ' 58 3 = 1 → k109 σ') : wp_P_readSpans_L23 k109 Q (m + 2) σ 1 := by
  rw [wp_P_readSpans_L23, hh]
  refine ⟨fun c => by omega, fun _ => ⟨fun c => absurd c (by decide), fun _ => P_clock1 hw (fun z7 => ⟨by omega, ?_⟩)⟩⟩
  rintro _ rfl
  refine P_expect1 (by rw [zU_n (by omega)]; exact hw) (P_clock1 (by rw [zU_n (by omega)]; exact hw) (fun z13 => ?_))
  have e7 : zU σ 61 (2 * h) z7 58 7 = h := by rw [zU_n (by omega)]; exact hh
  rw [e7]
  have := P_restD (k109 := k109) (Q := Q) (m := m) (σ := zU σ 61 (2 * h) z7) (z := z13) e7 h0 rfl (by rw [zU_n (by omega)]; exact hw) (fun σ' f e60 e4 e2 e3 => k σ' (FrP_trans (FrP_U61 (FrP_rfl σ)) f) (e60.trans (zU_n (by omega))) (e4.trans (by rw [zU_n (by omega)])) (e2.trans (by rw [zU_n (by omega)])) e3)
  exact this
/-- the spans from the h-th on -/
theorem P_spans {k109 Q : zM → Prop} : ∀ (k : Nat) (σ : zM) (h a : Int) (C : Int → Int), (k : Int) = 3 - h → (0 ≤ h ∧ h < 3) → RS T L σ → 0 ≤ a → a ≤ L → σ 58 2 = a → σ 58 3 = 0 → σ 58 7 = h → (∀ i, 0 ≤ i → i < 2 * h → σ 61 i = C i) → (∀ σ', FrP σ σ' → σ' 60 = σ 60 → σ' 58 4 = σ 58 4 → σ' 58 2 = (pH T L k h a C).2.1 → ((pH T L k h a C).1 = 1 → σ' 58 3 = 0 ∧ σ' 58 7 = (pH T L k h a C).2.2.1 ∧ ∀ i, 0 ≤ i → i < 2 * (pH T L k h a C).2.2.1 → σ' 61 i = (pH T L k h a C).2.2.2 i) → ((pH T L k h a C).1 = 0 → σ' 58 3 = 1) → k109 σ') → wp_P_readSpans_L23 k109 Q (k + 1) σ 1 := by
  intro k
  induction k with
  | zero => intro σ h a C hk hh; omega
  | succ k ih =>
    intro σ h a C hk hh hS a0 a1 ha hw e7 hC kk
    have hL := hS.2.1
    have hK := pK_rg (T := T) a1
    -- when it is wrong, at b
    have bad : ∀ (b : Int) (σ' : zM), (pP T L a).1 = 0 → (pP T L a).2.1 = b → FrP σ σ' → σ' 60 = σ 60 → σ' 58 4 = σ 58 4 → σ' 58 2 = b → σ' 58 3 = 1 → k109 σ' := by
      intro b σ' e1 e2 f e60 e4 g2 g3
      have e : pH T L (k + 1) h a C = (0, b, h, C) := by rw [pH, if_pos e1, e2]
      rw [e] at kk
      exact kk σ' f e60 e4 g2 (fun c => absurd (show (0 : Int) = 1 from c) (by decide)) (fun _ => g3)
    rw [wp_P_readSpans_L23, e7]
    refine ⟨fun c => by omega, fun _ => ⟨fun c => absurd c (by decide), fun _ => ?_⟩⟩
    refine P_clock hS a0 ha hw (fun z7 σ1 f1 e12 ey en => ⟨by omega, ?_⟩)
    intro σ2 g2
    have f2 : FrP σ σ2 := by rw [g2]; exact FrP_U61 (FrP_A f1)
    have h58 : ∀ j, σ2 58 j = σ1 58 j := fun j => by rw [g2, zU_n (by omega)]
    have h60 : σ2 60 = σ 60 := by rw [g2, zU_n (by omega)]; exact f1.1 60 (by omega)
    have h61 : ∀ i, σ2 61 i = if i = 2 * h then z7 else σ 61 i := fun i => by rw [g2, zU_g, f1.1 61 (by omega)]
    have h7 : σ2 58 7 = h := by rw [h58, f1.2 7 (by omega) (by omega)]; exact e7
    have h4 : σ2 58 4 = σ 58 4 := by rw [h58]; exact f1.2 4 (by omega) (by omega)
    have hS2 := RS_P f2 hS
    have dead : ∀ (b : Int) (σ3 : zM) (z : Int), (pP T L a).1 = 0 → (pP T L a).2.1 = b → FrA σ2 σ3 → σ3 58 2 = b → σ3 58 3 = 1 → pRest (wp_P_readSpans_L23 k109 Q (k + 1)) σ3 (2 * h + 1) z := by
      intro b σ3 z e1 e2 f g2' g3
      refine P_restD (h := h) (by rw [f.2 7 (by omega) (by omega)]; exact h7) hh rfl g3 (fun σ' f' e60 e4 g2'' g3' => bad b σ' e1 e2 (FrP_trans f2 (FrP_trans (FrP_A f) f')) ?_ ?_ (g2''.trans g2') g3')
      · rw [e60, f.1 60 (by omega)]; exact h60
      · rw [e4, f.2 4 (by omega) (by omega)]; exact h4
    by_cases cK : (pK T L a).1 = 0
    · -- the first clock is wrong
      have w1 : σ2 58 3 = 1 := by rw [h58]; exact en cK
      have e1 : pP T L a = (0, (pK T L a).2.1, 0, 0) := by unfold pP; rw [if_pos cK]
      refine P_expect1 w1 (P_clock1 w1 (fun z13 => ?_))
      rw [h7]
      exact dead (pK T L a).2.1 σ2 z13 (by rw [e1]) (by rw [e1]) (FrA_rfl σ2) (by rw [h58]; exact e12) w1
    have cK1 : (pK T L a).1 = 1 := hK.1.elim (fun c => absurd c cK) id
    obtain ⟨v1, w1⟩ := ey cK1
    have a2 : 0 ≤ (pK T L a).2.1 := by have := hK.2.1.1; omega
    refine P_expect hS2 a2 (by rw [h58]; exact e12) (by rw [h58]; exact w1) (fun cM σ3 f3 e32 e33 => ?_) (fun cM σ3 f3 e32 e33 => ?_)
    rotate_left
    · have e1 : pP T L a = (0, (pK T L a).2.1, 0, 0) := by unfold pP; rw [if_neg cK, if_neg cM]
      refine P_clock1 e33 (fun z13 => ?_)
      rw [f3.2 7 (by omega) (by omega), h7]
      exact dead (pK T L a).2.1 σ3 z13 (by rw [e1]) (by rw [e1]) f3 e32 e33
    have l1 := cM.1
    have hS3 := RS_A f3 hS2
    have hK2 := pK_rg (T := T) (L := L) (a := (pK T L a).2.1 + 1) (by omega)
    refine P_clock hS3 (by omega) e32 e33 (fun z13 σ4 f4 e42 ey2 en2 => ?_)
    rw [f3.2 7 (by omega) (by omega), h7]
    by_cases cK2 : (pK T L ((pK T L a).2.1 + 1)).1 = 0
    · have e1 : pP T L a = (0, (pK T L ((pK T L a).2.1 + 1)).2.1, 0, 0) := by unfold pP; rw [if_neg cK, if_pos cM, if_pos cK2]
      exact dead (pK T L ((pK T L a).2.1 + 1)).2.1 σ4 z13 (by rw [e1]) (by rw [e1]) (FrA_trans f3 f4) e42 (en2 cK2)
    have cK21 : (pK T L ((pK T L a).2.1 + 1)).1 = 1 := hK2.1.elim (fun c => absurd c cK2) id
    obtain ⟨v2, w2⟩ := ey2 cK21
    have eP : pP T L a = (1, (pK T L ((pK T L a).2.1 + 1)).2.1, z7, z13) := by unfold pP; rw [if_neg cK, if_pos cM, if_neg cK2, v1, v2]
    have f34 := FrA_trans f3 f4
    have eH : pH T L (k + 1) h a C = if h + 1 < 3 ∧ hD T L 44 44 (pK T L ((pK T L a).2.1 + 1)).2.1 then pH T L k (h + 1) ((pK T L ((pK T L a).2.1 + 1)).2.1 + 1) (cW C h z7 z13) else (1, (pK T L ((pK T L a).2.1 + 1)).2.1, h + 1, cW C h z7 z13) := by
      rw [pH, eP]
      exact if_neg (fun c => absurd (show (1 : Int) = 0 from c) (by decide))
    rw [eH] at kk
    have b0 : 0 ≤ (pK T L ((pK T L a).2.1 + 1)).2.1 := by have := hK2.2.1.1; omega
    generalize (pK T L ((pK T L a).2.1 + 1)).2.1 = b at e42 kk b0
    have goal : pRest (wp_P_readSpans_L23 k109 Q (k + 1)) σ4 (2 * h + 1) z13 := by
      refine ⟨by omega, ?_⟩
      intro σ5 g5
      have h57 : σ5 58 7 = h := by rw [g5, zU_n (by omega), f34.2 7 (by omega) (by omega)]; exact h7
      rw [h57]
      refine ⟨zRi (by omega) (by omega), ?_⟩
      intro σ6 g6
      have f6 : FrP σ σ6 := by rw [g6, g5]; exact FrP_U58 (by omega) (FrP_U61 (FrP_trans f2 (FrP_A f34)))
      have hS6 := RS_P f6 hS
      have i7 : σ6 58 7 = h + 1 := by rw [g6]; exact zU_s
      have i2 : σ6 58 2 = b := by rw [g6, zU_j (by omega), g5, zU_n (by omega)]; exact e42
      have i3 : σ6 58 3 = 0 := by rw [g6, zU_j (by omega), g5, zU_n (by omega)]; exact w2
      have i4 : σ6 58 4 = σ 58 4 := by rw [g6, zU_j (by omega), g5, zU_n (by omega), f34.2 4 (by omega) (by omega)]; exact h4
      have i60 : σ6 60 = σ 60 := by rw [g6, zU_n (by omega), g5, zU_n (by omega), f34.1 60 (by omega)]; exact h60
      have i61 : ∀ i, 0 ≤ i → i < 2 * (h + 1) → σ6 61 i = cW C h z7 z13 i := by
        intro i i0 i1
        rw [g6, zU_n (by omega), g5, zU_g, f34.1 61 (by omega), h61]
        unfold cW
        by_cases d1 : i = 2 * h
        · rw [if_neg (by omega), if_pos d1, if_pos d1]
        · rw [if_neg d1, if_neg d1]
          by_cases d2 : i = 2 * h + 1
          · rw [if_pos d2, if_pos d2]
          · rw [if_neg d2, if_neg d2]; exact hC i i0 (by omega)
      have done : ¬ (h + 1 < 3 ∧ hD T L 44 44 b) → wp_P_readSpans_L23 k109 Q (k + 1) σ6 0 := by
        intro cc
        rw [if_neg cc] at kk
        exact P_stop (kk σ6 f6 i60 i4 i2 (fun _ => ⟨i3, i7, i61⟩) (fun c => absurd (show (1 : Int) = 0 from c) (by decide)))
      rw [i7]
      refine ⟨fun c => done (fun hh => by omega), fun c => ?_⟩
      refine P_take hS6 b0 i2 i3 (fun cc σ7 f7 e72 e73 => ⟨fun c1 => absurd c1 (by decide), fun _ => ?_⟩) (fun cc => ⟨fun _ => done (fun hh => cc hh.2), fun c1 => absurd rfl c1⟩)
      rw [if_pos ⟨by omega, cc⟩] at kk
      refine ih σ7 (h + 1) (b + 1) (cW C h z7 z13) (by omega) (by omega) (RS_A f7 hS6) (by omega) (by have := cc.1; omega) e72 e73 (by rw [f7.2 7 (by omega) (by omega)]; exact i7) (fun i i0 i1 => by rw [f7.1 61 (by omega)]; exact i61 i i0 i1) (fun σ' f' e60 e4 g2' gy gn => kk σ' (FrP_trans f6 (FrP_trans (FrP_A f7) f')) ?_ ?_ g2' gy gn)
      · rw [e60, f7.1 60 (by omega)]; exact i60
      · rw [e4, f7.2 4 (by omega) (by omega)]; exact i4
    exact goal
/-- what the class knows of an order that was read -/
def xReg (σ : zM) (D : Int → Int) : Prop := σ 58 4 = D 0 ∧ σ 60 0 = D 1 ∧ (D 0 ≠ 115 → σ 60 1 = D 2) ∧ (D 0 = 120 → σ 60 2 = D 3) ∧ (D 0 = 115 → σ 58 7 = D 4 ∧ σ 58 8 = D 5 ∧ ∀ i, 0 ≤ i → i < 2 * D 4 → σ 61 i = D (6 + i))
/-- behind an order -/
def xEnd (T : Int → Int) (L : Int) (σ σ' : zM) (o : Int × Int × (Int → Int)) : Prop := FrP σ σ' ∧ σ' 58 2 = o.2.1 ∧ (o.1 = 1 → σ' 58 3 = 0 ∧ xReg σ' o.2.2) ∧ (o.1 = 0 → σ' 58 3 = 1 ∨ (σ' 58 3 = 0 ∧ hD T L 48 57 o.2.1))
theorem xEnd_fl {σ σ' : zM} {b : Int} (f : FrP σ σ') (e2 : σ' 58 2 = b) (h : σ' 58 3 = 1 ∨ (σ' 58 3 = 0 ∧ hD T L 48 57 b)) : xEnd T L σ σ' (fl b) := ⟨f, e2, fun c => absurd (show (0 : Int) = 1 from c) (by decide), fun _ => h⟩
theorem P_readSpans {σ : zM} {a : Int} {Q : zM → Prop} (hS : RS T L σ) (a0 : 0 ≤ a) (a1 : a ≤ L) (ha : σ 58 2 = a) (hw : σ 58 3 = 0) (h4 : σ 58 4 = 115) (kk : ∀ σ', xEnd T L σ σ' (oS T L a) → Q σ') : wp_P_readSpans σ Q := by
  have hL := hS.2.1
  have hN := pN_rg (T := T) a1
  unfold wp_P_readSpans
  refine P_number hS a0 ha hw (fun v σ1 f1 e12 ey en => ?_)
  intro σ2 g2
  have f2 : FrP σ σ2 := by rw [g2]; exact FrP_U60 (FrP_A f1)
  have h58 : ∀ j, σ2 58 j = σ1 58 j := fun j => by rw [g2, zU_n (by omega)]
  have i0 : σ2 60 0 = v := by rw [g2]; exact zU_s
  have hS2 := RS_P f2 hS
  -- when it is wrong already
  have dead : ∀ (b : Int) (σ3 : zM), oS T L a = fl b → FrA σ2 σ3 → σ3 58 2 = b → σ3 58 3 = 1 → ∀ σ4 : zM, σ4 = zU σ3 58 7 0 → ∃ n26, wp_P_readSpans_L23 (fun σ21 => wp_P_readSpans_b109 Q σ21) Q n26 σ4 1 := by
    intro b σ3 e f3 e2 e3 σ4 g4
    rw [e] at kk
    refine ⟨2, P_spansD (m := 0) (h := 0) (by rw [g4]; exact zU_s) (by omega) (by rw [g4, zU_j (by omega)]; exact e3) (fun σ' f' e60 e4' g2' g3' => ?_)⟩
    unfold wp_P_readSpans_b109
    refine P_take1 g3' ⟨fun _ => ?_, fun c => absurd rfl c⟩
    rintro _ rfl
    refine kk _ (xEnd_fl (FrP_U58 (by omega) (FrP_trans f2 (FrP_trans (FrP_A f3) (FrP_trans (by rw [g4]; exact FrP_U58 (by omega) (FrP_rfl σ3)) f')))) ?_ (Or.inl ?_))
    · rw [zU_j (by omega), g2', g4, zU_j (by omega)]; exact e2
    · rw [zU_j (by omega)]; exact g3'
  by_cases cN : (pN T L a).1 = 0
  · have e : oS T L a = fl (pN T L a).2.1 := by unfold oS; rw [if_pos cN]
    rcases en cN with w | ⟨w, wd⟩
    · exact P_expect1 (by rw [h58]; exact w) (dead _ σ2 e (FrA_rfl σ2) (by rw [h58]; exact e12) (by rw [h58]; exact w))
    · refine P_expect (a := (pN T L a).2.1) hS2 (by have := hN.2.1.1; omega) (by rw [h58]; exact e12) (by rw [h58]; exact w) (fun c => ?_) (fun c σ3 f3 e32 e33 => dead _ σ3 e f3 e32 e33)
      have h1 := c.2
      have h2 := wd.2
      omega
  have cN1 : (pN T L a).1 = 1 := hN.1.elim (fun c => absurd c cN) id
  obtain ⟨v1, w1⟩ := ey cN1
  refine P_expect (a := (pN T L a).2.1) hS2 (by have := hN.2.1.1; omega) (by rw [h58]; exact e12) (by rw [h58]; exact w1) (fun c σ3 f3 e32 e33 => ?_) (fun c σ3 f3 e32 e33 => dead _ σ3 (by unfold oS; rw [if_neg cN, if_neg c]) f3 e32 e33)
  intro σ4 g4
  have l1 := c.1
  have n0 := hN.2.1.1
  have f4 : FrP σ σ4 := by rw [g4]; exact FrP_U58 (by omega) (FrP_trans f2 (FrP_A f3))
  have hS4 := RS_P f4 hS
  refine ⟨4, P_spans 3 σ4 0 ((pN T L a).2.1 + 1) (fun _ => 0) (by omega) (by omega) hS4 (by omega) (by omega) (by rw [g4, zU_j (by omega)]; exact e32) (by rw [g4, zU_j (by omega)]; exact e33) (by rw [g4]; exact zU_s) (fun i j0 j1 => by omega) (fun σ5 f5 e60 e4 g2' gy gn => ?_)⟩
  have hH := pH_rg (T := T) (L := L) 3 0 ((pN T L a).2.1 + 1) (fun _ => 0) (by omega) (by omega) (by omega) (fun i i0 i1 => by omega)
  have eo : oS T L a = if (pH T L 3 0 ((pN T L a).2.1 + 1) (fun _ => 0)).1 = 0 then fl (pH T L 3 0 ((pN T L a).2.1 + 1) (fun _ => 0)).2.1
    else if hD T L 33 33 (pH T L 3 0 ((pN T L a).2.1 + 1) (fun _ => 0)).2.1 then (1, (pH T L 3 0 ((pN T L a).2.1 + 1) (fun _ => 0)).2.1 + 1, oD 115 (pN T L a).2.2 0 0 (pH T L 3 0 ((pN T L a).2.1 + 1) (fun _ => 0)).2.2.1 1 (pH T L 3 0 ((pN T L a).2.1 + 1) (fun _ => 0)).2.2.2)
    else (1, (pH T L 3 0 ((pN T L a).2.1 + 1) (fun _ => 0)).2.1, oD 115 (pN T L a).2.2 0 0 (pH T L 3 0 ((pN T L a).2.1 + 1) (fun _ => 0)).2.2.1 0 (pH T L 3 0 ((pN T L a).2.1 + 1) (fun _ => 0)).2.2.2) := by
    unfold oS
    rw [if_neg cN, if_pos c]
  rw [eo] at kk
  generalize pH T L 3 0 ((pN T L a).2.1 + 1) (fun _ => 0) = H at hH kk gy gn g2'
  unfold wp_P_readSpans_b109
  have f5' := FrP_trans f4 f5
  by_cases cH : H.1 = 0
  · rw [if_pos cH] at kk
    have w5 := gn cH
    refine P_take1 w5 ⟨fun _ => ?_, fun c => absurd rfl c⟩
    rintro _ rfl
    exact kk _ (xEnd_fl (FrP_U58 (by omega) f5') (by rw [zU_j (by omega)]; exact g2') (Or.inl (by rw [zU_j (by omega)]; exact w5)))
  rw [if_neg cH] at kk
  have cH1 : H.1 = 1 := hH.1.elim (fun c => absurd c cH) id
  obtain ⟨w5, i7, i61⟩ := gy cH1
  have n1 := hH.2.1.1
  have reg : ∀ (σ6 : zM) (s : Int), FrA σ5 σ6 → xReg (zU σ6 58 8 s) (oD 115 (pN T L a).2.2 0 0 H.2.2.1 s H.2.2.2) := by
    intro σ6 s f6
    refine ⟨?_, ?_, fun hh => absurd rfl hh, fun hh => absurd (show (115 : Int) = 120 from hh) (by decide), fun _ => ⟨?_, zU_s, fun i i0 i1 => ?_⟩⟩
    · show zU σ6 58 8 s 58 4 = 115
      rw [zU_j (by omega), f6.2 4 (by omega) (by omega), e4, g4, zU_j (by omega), f3.2 4 (by omega) (by omega), h58, f1.2 4 (by omega) (by omega)]; exact h4
    · show zU σ6 58 8 s 60 0 = (pN T L a).2.2
      rw [zU_n (by omega), f6.1 60 (by omega), e60, g4, zU_n (by omega), f3.1 60 (by omega), i0]; exact v1
    · show zU σ6 58 8 s 58 7 = H.2.2.1
      rw [zU_j (by omega), f6.2 7 (by omega) (by omega)]; exact i7
    · have e : oD 115 (pN T L a).2.2 0 0 H.2.2.1 s H.2.2.2 (6 + i) = H.2.2.2 i := by
        unfold oD
        rw [if_neg (by omega), if_neg (by omega), if_neg (by omega), if_neg (by omega), if_neg (by omega), if_neg (by omega)]
        rw [show 6 + i - 6 = i by omega]
      rw [e, zU_n (by omega), f6.1 61 (by omega)]
      exact i61 i i0 i1
  refine P_take (RS_P f5' hS) (by omega) g2' w5 (fun c6 σ6 f6 e62 e63 => ⟨fun c => absurd c (by decide), fun _ => ?_⟩) (fun c6 => ⟨fun _ => ?_, fun c => absurd rfl c⟩)
  · rw [if_pos c6] at kk
    rintro _ rfl
    refine kk _ ⟨FrP_U58 (by omega) (FrP_trans f5' (FrP_A f6)), ?_, fun _ => ⟨?_, reg σ6 1 f6⟩, fun c => absurd (show (1 : Int) = 0 from c) (by decide)⟩
    · rw [zU_j (by omega)]; exact e62
    · rw [zU_j (by omega)]; exact e63
  · rw [if_neg c6] at kk
    rintro _ rfl
    refine kk _ ⟨FrP_U58 (by omega) f5', ?_, fun _ => ⟨?_, reg σ5 0 (FrA_rfl σ5)⟩, fun c => absurd (show (1 : Int) = 0 from c) (by decide)⟩
    · rw [zU_j (by omega)]; exact g2'
    · rw [zU_j (by omega)]; exact w5
end RX3
