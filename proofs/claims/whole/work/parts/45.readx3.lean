section RX4
variable {T : Int → Int} {L : Int}
theorem P_readClosure {σ : zM} {a : Int} {Q : zM → Prop} (hS : RS T L σ) (a0 : 0 ≤ a) (a1 : a ≤ L) (ha : σ 58 2 = a) (hw : σ 58 3 = 0) (h4 : σ 58 4 = 120) (kk : ∀ σ', xEnd T L σ σ' (oX T L a) → Q σ') : wp_P_readClosure σ Q := by
  have hL := hS.2.1
  have hN := pN_rg (T := T) a1
  unfold wp_P_readClosure
  refine P_number hS a0 ha hw (fun v σ1 f1 e12 ey en => ?_)
  intro σ2 g2
  have f2 : FrP σ σ2 := by rw [g2]; exact FrP_U60 (FrP_A f1)
  have h58 : ∀ j, σ2 58 j = σ1 58 j := fun j => by rw [g2, zU_n (by omega)]
  have i0 : σ2 60 0 = v := by rw [g2]; exact zU_s
  have hS2 := RS_P f2 hS
  -- wrong at b, in σ3: nothing more is read
  have fin : ∀ (b : Int) (σ3 : zM), oX T L a = fl b → FrP σ σ3 → σ3 58 2 = b → σ3 58 3 = 1 → ∀ x, Q (zU σ3 60 2 x) := by
    intro b σ3 e f e2 e3 x
    rw [e] at kk
    exact kk _ (xEnd_fl (FrP_U60 f) (by rw [zU_n (by omega)]; exact e2) (Or.inl (by rw [zU_n (by omega)]; exact e3)))
  have dead2 : ∀ (b : Int) (σ3 : zM), oX T L a = fl b → FrP σ σ3 → σ3 58 2 = b → σ3 58 3 = 1 → wp_P_readNumber σ3 (fun z11 σ12 => ∀ σ13 : zM, σ13 = zU σ12 60 2 z11 → Q σ13) := by
    intro b σ3 e f e2 e3
    refine P_number1 e3 ?_
    rintro _ rfl
    exact fin b σ3 e f e2 e3 0
  have dead1 : ∀ (b : Int) (σ3 : zM), oX T L a = fl b → FrP σ σ3 → σ3 58 2 = b → σ3 58 3 = 1 → wp_P_readNumber σ3 (fun z6 σ7 => ∀ σ8 : zM, σ8 = zU σ7 60 1 z6 → wp_P_expect σ8 45 (fun σ10 => wp_P_readNumber σ10 (fun z11 σ12 => ∀ σ13 : zM, σ13 = zU σ12 60 2 z11 → Q σ13))) := by
    intro b σ3 e f e2 e3
    refine P_number1 e3 ?_
    rintro _ rfl
    refine P_expect1 (by rw [zU_n (by omega)]; exact e3) ?_
    exact dead2 b _ e (FrP_U60 f) (by rw [zU_n (by omega)]; exact e2) (by rw [zU_n (by omega)]; exact e3)
  have n1 := hN.2.1.1
  by_cases cN : (pN T L a).1 = 0
  · have e : oX T L a = fl (pN T L a).2.1 := by unfold oX; rw [if_pos cN]
    rcases en cN with w | ⟨w, wd⟩
    · exact P_expect1 (by rw [h58]; exact w) (dead1 _ σ2 e f2 (by rw [h58]; exact e12) (by rw [h58]; exact w))
    · refine P_expect (a := (pN T L a).2.1) hS2 (by omega) (by rw [h58]; exact e12) (by rw [h58]; exact w) (fun c => ?_) (fun c σ3 f3 e32 e33 => dead1 _ σ3 e (FrP_trans f2 (FrP_A f3)) e32 e33)
      have h1 := c.2
      have h2 := wd.2
      omega
  have cN1 : (pN T L a).1 = 1 := hN.1.elim (fun c => absurd c cN) id
  obtain ⟨v1, w1⟩ := ey cN1
  refine P_expect (a := (pN T L a).2.1) hS2 (by omega) (by rw [h58]; exact e12) (by rw [h58]; exact w1) (fun c σ3 f3 e32 e33 => ?_) (fun c σ3 f3 e32 e33 => dead1 _ σ3 (by unfold oX; rw [if_neg cN, if_neg c]) (FrP_trans f2 (FrP_A f3)) e32 e33)
  have l1 := c.1
  have f3' := FrP_trans f2 (FrP_A f3)
  have hN2 := pN_rg (T := T) (L := L) (a := (pN T L a).2.1 + 1) (by omega)
  refine P_number (RS_P f3' hS) (a := (pN T L a).2.1 + 1) (by omega) e32 e33 (fun y σ4 f4 e42 ey2 en2 => ?_)
  intro σ5 g5
  have f5 : FrP σ σ5 := by rw [g5]; exact FrP_U60 (FrP_trans f3' (FrP_A f4))
  have h585 : ∀ j, σ5 58 j = σ4 58 j := fun j => by rw [g5, zU_n (by omega)]
  have hS5 := RS_P f5 hS
  have n2 := hN2.2.1.1
  have eo : oX T L a = if (pN T L ((pN T L a).2.1 + 1)).1 = 0 then fl (pN T L ((pN T L a).2.1 + 1)).2.1
    else if hD T L 45 45 (pN T L ((pN T L a).2.1 + 1)).2.1 then
      if (pN T L ((pN T L ((pN T L a).2.1 + 1)).2.1 + 1)).1 = 0 then fl (pN T L ((pN T L ((pN T L a).2.1 + 1)).2.1 + 1)).2.1
      else (1, (pN T L ((pN T L ((pN T L a).2.1 + 1)).2.1 + 1)).2.1, oD 120 (pN T L a).2.2 (pN T L ((pN T L a).2.1 + 1)).2.2 (pN T L ((pN T L ((pN T L a).2.1 + 1)).2.1 + 1)).2.2 0 0 (fun _ => 0))
    else fl (pN T L ((pN T L a).2.1 + 1)).2.1 := by
    unfold oX
    rw [if_neg cN, if_pos c]
  generalize pN T L ((pN T L a).2.1 + 1) = N2 at hN2 ey2 en2 e42 eo n2
  by_cases cN2 : N2.1 = 0
  · rw [if_pos cN2] at eo
    rcases en2 cN2 with w | ⟨w, wd⟩
    · exact P_expect1 (by rw [h585]; exact w) (dead2 _ σ5 eo f5 (by rw [h585]; exact e42) (by rw [h585]; exact w))
    · refine P_expect (a := N2.2.1) hS5 (by omega) (by rw [h585]; exact e42) (by rw [h585]; exact w) (fun c => ?_) (fun c σ6 f6 e62 e63 => dead2 _ σ6 eo (FrP_trans f5 (FrP_A f6)) e62 e63)
      have h1 := c.2
      have h2 := wd.2
      omega
  rw [if_neg cN2] at eo
  have cN21 : N2.1 = 1 := hN2.1.elim (fun c => absurd c cN2) id
  obtain ⟨v2, w2⟩ := ey2 cN21
  refine P_expect (a := N2.2.1) hS5 (by omega) (by rw [h585]; exact e42) (by rw [h585]; exact w2) (fun c6 σ6 f6 e62 e63 => ?_) (fun c6 σ6 f6 e62 e63 => dead2 _ σ6 (by rw [eo, if_neg c6]) (FrP_trans f5 (FrP_A f6)) e62 e63)
  rw [if_pos c6] at eo
  have l2 := c6.1
  have f6' := FrP_trans f5 (FrP_A f6)
  have hN3 := pN_rg (T := T) (L := L) (a := N2.2.1 + 1) (by omega)
  refine P_number (RS_P f6' hS) (a := N2.2.1 + 1) (by omega) e62 e63 (fun x σ7 f7 e72 ey3 en3 => ?_)
  rintro _ rfl
  generalize pN T L (N2.2.1 + 1) = N3 at hN3 ey3 en3 e72 eo
  have f7' := FrP_trans f6' (FrP_A f7)
  by_cases cN3 : N3.1 = 0
  · rw [if_pos cN3] at eo
    rw [eo] at kk
    exact kk _ (xEnd_fl (FrP_U60 f7') (by rw [zU_n (by omega)]; exact e72) (by rw [zU_n (by omega)]; exact en3 cN3))
  · rw [if_neg cN3] at eo
    rw [eo] at kk
    have cN31 : N3.1 = 1 := hN3.1.elim (fun c => absurd c cN3) id
    obtain ⟨v3, w3⟩ := ey3 cN31
    have k60 : σ7 60 = σ5 60 := by rw [f7.1 60 (by omega), f6.1 60 (by omega)]
    refine kk _ ⟨FrP_U60 f7', by rw [zU_n (by omega)]; exact e72, fun _ => ⟨by rw [zU_n (by omega)]; exact w3, ?_, ?_, fun _ => ?_, fun _ => ?_, fun hh => absurd (show (120 : Int) = 115 from hh) (by decide)⟩, fun c => absurd (show (1 : Int) = 0 from c) (by decide)⟩
    · show zU σ7 60 2 x 58 4 = 120
      rw [zU_n (by omega), f7.2 4 (by omega) (by omega), f6.2 4 (by omega) (by omega), h585, f4.2 4 (by omega) (by omega), f3.2 4 (by omega) (by omega), h58, f1.2 4 (by omega) (by omega)]; exact h4
    · show zU σ7 60 2 x 60 0 = (pN T L a).2.2
      rw [zU_j (by omega), k60, g5, zU_j (by omega), f4.1 60 (by omega), f3.1 60 (by omega), i0]; exact v1
    · show zU σ7 60 2 x 60 1 = N2.2.2
      rw [zU_j (by omega), k60, g5, zU_s]; exact v2
    · show zU σ7 60 2 x 60 2 = N3.2.2
      rw [zU_s]; exact v3
theorem P_readDN {σ : zM} {a s k : Int} {Q : zM → Prop} (hS : RS T L σ) (a0 : 0 ≤ a) (a1 : a ≤ L) (ha : σ 58 2 = a) (hw : σ 58 3 = 0) (hk : k = 103 ∨ k = 119) (h4 : σ 58 4 = k) (kk : ∀ σ', xEnd T L σ σ' (oG T L k s a) → Q σ') : wp_P_readDigitAndNumber σ s Q := by
  have hL := hS.2.1
  unfold wp_P_readDigitAndNumber
  have fin : ∀ (b : Int) (σ3 : zM), oG T L k s a = fl b → FrP σ σ3 → σ3 58 2 = b → σ3 58 3 = 1 → wp_P_readNumber σ3 (fun z6 σ7 => ∀ σ8 : zM, σ8 = zU σ7 60 1 z6 → Q σ8) := by
    intro b σ3 e f e2 e3
    rw [e] at kk
    refine P_number1 e3 ?_
    rintro _ rfl
    exact kk _ (xEnd_fl (FrP_U60 f) (by rw [zU_n (by omega)]; exact e2) (Or.inl (by rw [zU_n (by omega)]; exact e3)))
  refine P_digit hS a0 (by omega) ha hw (fun c1 σ1 f1 e12 e13 => ?_) (fun c1 σ1 f1 e12 e13 => ?_)
  rotate_left
  · rintro _ rfl
    refine P_expect1 (by rw [zU_n (by omega)]; exact e13) ?_
    exact fin a _ (by unfold oG; rw [if_neg (show ¬ hD T L 48 57 a from c1)]) (FrP_U60 (FrP_A f1)) (by rw [zU_n (by omega)]; exact e12) (by rw [zU_n (by omega)]; exact e13)
  have c1' : hD T L 48 57 a := c1
  have l1 := c1.1
  intro σ2 g2
  have f2 : FrP σ σ2 := by rw [g2]; exact FrP_U60 (FrP_A f1)
  have h58 : ∀ j, σ2 58 j = σ1 58 j := fun j => by rw [g2, zU_n (by omega)]
  refine P_expect (a := a + 1) (RS_P f2 hS) (by omega) (by rw [h58]; exact e12) (by rw [h58]; exact e13) (fun c2 σ3 f3 e32 e33 => ?_) (fun c2 σ3 f3 e32 e33 => fin (a + 1) σ3 (by unfold oG; rw [if_pos c1', if_neg c2]) (FrP_trans f2 (FrP_A f3)) e32 e33)
  have l2 := c2.1
  have f3' := FrP_trans f2 (FrP_A f3)
  have hN := pN_rg (T := T) (L := L) (a := a + 2) (by omega)
  have eo : oG T L k s a = if (pN T L (a + 2)).1 = 0 then fl (pN T L (a + 2)).2.1 else (1, (pN T L (a + 2)).2.1, oD k (T a - 48) (pN T L (a + 2)).2.2 0 0 0 (fun _ => 0)) := by
    unfold oG
    rw [if_pos c1', if_pos c2]
  refine P_number (RS_P f3' hS) (a := a + 2) (by omega) (by rw [e32]; omega) e33 (fun x σ4 f4 e42 ey en => ?_)
  rintro _ rfl
  generalize pN T L (a + 2) = N at hN ey en e42 eo
  have f4' := FrP_trans f3' (FrP_A f4)
  by_cases cN : N.1 = 0
  · rw [if_pos cN] at eo
    rw [eo] at kk
    exact kk _ (xEnd_fl (FrP_U60 f4') (by rw [zU_n (by omega)]; exact e42) (by rw [zU_n (by omega)]; exact en cN))
  · rw [if_neg cN] at eo
    rw [eo] at kk
    have cN1 : N.1 = 1 := hN.1.elim (fun c => absurd c cN) id
    obtain ⟨v3, w3⟩ := ey cN1
    refine kk _ ⟨FrP_U60 f4', by rw [zU_n (by omega)]; exact e42, fun _ => ⟨by rw [zU_n (by omega)]; exact w3, ?_, ?_, fun _ => ?_, fun hh => ?_, fun hh => ?_⟩, fun c => absurd (show (1 : Int) = 0 from c) (by decide)⟩
    · show zU σ4 60 1 x 58 4 = k
      rw [zU_n (by omega), f4.2 4 (by omega) (by omega), f3.2 4 (by omega) (by omega), h58, f1.2 4 (by omega) (by omega)]; exact h4
    · show zU σ4 60 1 x 60 0 = T a - 48
      rw [zU_j (by omega), f4.1 60 (by omega), f3.1 60 (by omega), g2, zU_s]
    · show zU σ4 60 1 x 60 1 = N.2.2
      rw [zU_s]; exact v3
    · have hh : k = 120 := hh
      omega
    · have hh : k = 115 := hh
      omega
/-- an order -/
theorem P_readOrder {σ : zM} {a : Int} {Q : zM → Prop} (hS : RS T L σ) (a0 : 0 ≤ a) (a1 : a ≤ L) (ha : σ 58 2 = a) (hw : σ 58 3 = 0) (kk : ∀ σ', xEnd T L σ σ' (pO T L a) → Q σ') : wp_P_readOrder σ Q := by
  have hL := hS.2.1
  unfold wp_P_readOrder
  rw [hw, ha, hS.1]
  have no : ∀ k, (k ≠ 103 ∧ k ≠ 115 ∧ k ≠ 119 ∧ k ≠ 120) → pO T L a = fl a → wp_P_readOrder_b33 Q σ k := by
    intro k hk e
    rw [e] at kk
    unfold wp_P_readOrder_b33
    rintro _ rfl
    rw [zU_s]
    refine ⟨fun c => absurd c hk.1, fun c => absurd c hk.2.1, fun c => absurd c hk.2.2.1, fun c => absurd c hk.2.2.2, fun _ => ?_⟩
    rintro _ rfl
    exact kk _ (xEnd_fl (FrP_U58 (by omega) (FrP_U58 (by omega) (FrP_rfl σ))) (by rw [zU_j (by omega), zU_j (by omega)]; exact ha) (Or.inl zU_s))
  refine ⟨fun c => absurd rfl c, fun _ => ⟨fun c => no 59 (by omega) (by unfold pO; rw [if_neg (by omega)]), fun c => ⟨by omega, ?_⟩⟩⟩
  rw [hS.2.2 a a0 (by omega)]
  have e0 : pO T L a = if T a = 115 then oS T L (a + 1) else if T a = 120 then oX T L (a + 1) else if T a = 103 then oG T L 103 62 (a + 1) else if T a = 119 then oG T L 119 43 (a + 1) else fl a := by
    unfold pO
    rw [if_pos (by omega)]
  by_cases k1 : T a = 115 ∨ T a = 120 ∨ T a = 103 ∨ T a = 119
  rotate_left
  · exact no (T a) (by omega) (by rw [e0, if_neg (by omega), if_neg (by omega), if_neg (by omega), if_neg (by omega)])
  unfold wp_P_readOrder_b33
  intro σ1 g1
  have k4 : σ1 58 4 = T a := by rw [g1]; exact zU_s
  have k2 : σ1 58 2 = a := by rw [g1, zU_j (by omega)]; exact ha
  have k3 : σ1 58 3 = 0 := by rw [g1, zU_j (by omega)]; exact hw
  have f1 : FrP σ σ1 := by rw [g1]; exact FrP_U58 (by omega) (FrP_rfl σ)
  rw [k4, k2]
  have st : ∀ (σ2 : zM) (o : Int × Int × (Int → Int)), σ2 = zU σ1 58 2 (a + 1) → (∀ σ', xEnd T L σ2 σ' o → xEnd T L σ σ' o) := by
    intro σ2 o g2 σ' h
    exact ⟨FrP_trans f1 (FrP_trans (by rw [g2]; exact FrP_U58 (by omega) (FrP_rfl σ1)) h.1), h.2⟩
  have pre : ∀ σ2 : zM, σ2 = zU σ1 58 2 (a + 1) → RS T L σ2 ∧ σ2 58 2 = a + 1 ∧ σ2 58 3 = 0 ∧ σ2 58 4 = T a := by
    intro σ2 g2
    refine ⟨RS_P (FrP_trans f1 (by rw [g2]; exact FrP_U58 (by omega) (FrP_rfl σ1))) hS, by rw [g2]; exact zU_s, by rw [g2, zU_j (by omega)]; exact k3, by rw [g2, zU_j (by omega)]; exact k4⟩
  refine ⟨fun c1 => ⟨zRi (by omega) (by omega), fun σ2 g2 => ?_⟩, fun c1 => ⟨zRi (by omega) (by omega), fun σ2 g2 => ?_⟩, fun c1 => ⟨zRi (by omega) (by omega), fun σ2 g2 => ?_⟩, fun c1 => ⟨zRi (by omega) (by omega), fun σ2 g2 => ?_⟩, fun c1 => by omega⟩
  · obtain ⟨p1, p2, p3, p4⟩ := pre σ2 g2
    rw [if_neg (by omega), if_neg (by omega), if_pos c1] at e0
    rw [e0] at kk
    exact P_readDN (k := 103) p1 (by omega) (by omega) p2 p3 (Or.inl rfl) (p4.trans c1) (fun σ' h => kk σ' (st σ2 _ g2 σ' h))
  · obtain ⟨p1, p2, p3, p4⟩ := pre σ2 g2
    rw [if_pos c1] at e0
    rw [e0] at kk
    exact P_readSpans p1 (by omega) (by omega) p2 p3 (p4.trans c1) (fun σ' h => kk σ' (st σ2 _ g2 σ' h))
  · obtain ⟨p1, p2, p3, p4⟩ := pre σ2 g2
    rw [if_neg (by omega), if_neg (by omega), if_neg (by omega), if_pos c1] at e0
    rw [e0] at kk
    exact P_readDN (k := 119) p1 (by omega) (by omega) p2 p3 (Or.inr rfl) (p4.trans c1) (fun σ' h => kk σ' (st σ2 _ g2 σ' h))
  · obtain ⟨p1, p2, p3, p4⟩ := pre σ2 g2
    rw [if_neg (by omega), if_pos c1] at e0
    rw [e0] at kk
    exact P_readClosure p1 (by omega) (by omega) p2 p3 (p4.trans c1) (fun σ' h => kk σ' (st σ2 _ g2 σ' h))
theorem P_readOrder1 {σ : zM} {Q : zM → Prop} (hw : σ 58 3 = 1) (kk : ∀ σ', FrP σ σ' → σ' 58 2 = σ 58 2 → σ' 58 3 = 1 → Q σ') : wp_P_readOrder σ Q := by
  unfold wp_P_readOrder
  rw [hw]
  refine ⟨fun _ => ?_, fun c => absurd c (by decide)⟩
  unfold wp_P_readOrder_b31 wp_P_readOrder_b33
  rintro _ rfl
  rw [zU_s]
  refine ⟨fun c => absurd c (by decide), fun c => absurd c (by decide), fun c => absurd c (by decide), fun c => absurd c (by decide), fun _ => ?_⟩
  rintro _ rfl
  exact kk _ (FrP_U58 (by omega) (FrP_U58 (by omega) (FrP_rfl σ))) (by rw [zU_j (by omega), zU_j (by omega)]) zU_s
/-- the loop over the orders when it is wrong already -/
theorem P_L8d {k62 : zM → Prop} {Q : Int → zM → Prop} {m : Nat} {σ : zM} {s v : Int} (hv : 0 ≤ v ∧ v ≤ 80) (hw : σ 58 3 = 1) (kk : ∀ σ', FrP σ σ' → σ' 58 2 = σ 58 2 → σ' 58 3 = 1 → k62 σ') : wp_P_firstWrong_L8 k62 Q (m + 2) σ s v := by
  rw [wp_P_firstWrong_L8]
  refine ⟨fun _ => kk σ (FrP_rfl σ) rfl hw, fun c => ⟨fun _ => kk σ (FrP_rfl σ) rfl hw, fun _ => ?_⟩⟩
  refine P_readOrder1 hw (fun σ' f e2 e3 => ⟨fun _ => ?_, fun c1 => absurd (e3.symm.trans c1) (by decide)⟩)
  refine ⟨fun _ => ⟨zRi (by omega) (by omega), ?_⟩, fun c1 => absurd rfl c1⟩
  rw [wp_P_firstWrong_L8]
  exact ⟨fun _ => kk σ' f e2 e3, fun _ => ⟨fun _ => kk σ' f e2 e3, fun c1 => absurd rfl c1⟩⟩
theorem P_L8 {k62 : zM → Prop} {Q : Int → zM → Prop} : ∀ (k : Nat) (σ : zM) (a v : Int), RS T L σ → 0 ≤ a → a ≤ L → L - a < k → (0 ≤ v ∧ 2 * v ≤ a) → σ 58 2 = a → σ 58 3 = 0 → (∀ σ', FrP σ σ' → (pF T L k a = -6 → σ' 58 3 = 0) → (pF T L k a ≠ -6 → σ' 58 2 = pF T L k a ∧ σ' 58 3 = 1) → k62 σ') → wp_P_firstWrong_L8 k62 Q (k + 2) σ 1 v := by
  intro k
  induction k with
  | zero => intro σ a v _ _ _ h; omega
  | succ k ih =>
    intro σ a v hS a0 a1 hk hv ha hw kk
    have hL := hS.2.1
    have hr := pO_rg (T := T) (L := L) a1
    rw [wp_P_firstWrong_L8]
    refine ⟨fun c => by omega, fun _ => ⟨fun c => absurd c (by decide), fun _ => ?_⟩⟩
    refine P_readOrder hS a0 a1 ha hw (fun σ1 hx => ?_)
    obtain ⟨f1, e2, ey, en⟩ := hx
    have hS1 := RS_P f1 hS
    have eF : pF T L (k + 1) a = if (pO T L a).1 = 0 then (pO T L a).2.1 else if L ≤ (pO T L a).2.1 then -6 else if hD T L 59 59 (pO T L a).2.1 then pF T L k ((pO T L a).2.1 + 1) else (pO T L a).2.1 := rfl
    rw [eF] at kk
    have r1 := hr.2.1
    have stop : ∀ (m : Nat) (σ2 : zM) (s : Int), FrP σ σ2 → σ2 58 3 = 0 → k62 σ2 → wp_P_firstWrong_b44 (wp_P_firstWrong_L8 k62 Q (m + 1)) Q σ2 v := by
      intro m σ2 s _ _ h
      refine ⟨fun _ => ⟨zRi (by omega) (by omega), ?_⟩, fun c1 => absurd rfl c1⟩
      rw [wp_P_firstWrong_L8]
      exact ⟨fun _ => h, fun _ => ⟨fun _ => h, fun c1 => absurd rfl c1⟩⟩
    by_cases c0 : (pO T L a).1 = 0
    · rw [if_pos c0] at kk
      have wrong : ∀ (m : Nat) (σ2 : zM) (s : Int), FrP σ σ2 → σ2 58 2 = (pO T L a).2.1 → σ2 58 3 = 1 → wp_P_firstWrong_b56 (wp_P_firstWrong_L8 k62 Q (m + 2)) Q σ2 s v := by
        intro m σ2 s f g2 g3
        exact ⟨zRi (by omega) (by omega), P_L8d (by omega) g3 (fun σ' f' g2' g3' => kk σ' (FrP_trans f f') (fun c => by omega) (fun _ => ⟨g2'.trans g2, g3'⟩))⟩
      rcases en c0 with w | ⟨w, wd⟩
      · refine ⟨fun _ => ⟨fun _ => wrong k σ1 0 f1 e2 w, fun c1 => absurd rfl c1⟩, fun c1 => absurd (w.symm.trans c1) (by decide)⟩
      · refine ⟨fun c1 => absurd w c1, fun _ => ⟨fun c1 => ?_, fun _ => ⟨fun c1 => absurd c1 (by decide), fun _ => ?_⟩⟩⟩
        · rw [hS1.1, e2] at c1
          have := wd.1
          omega
        · refine P_expect (a := (pO T L a).2.1) hS1 (by omega) e2 w (fun c2 => ?_) (fun c2 σ2 f2 g2 g3 => wrong k σ2 1 (FrP_trans f1 (FrP_A f2)) g2 g3)
          have h1 := c2.2
          have h2 := wd.2
          omega
    · rw [if_neg c0] at kk
      have c01 : (pO T L a).1 = 1 := hr.1.elim (fun c => absurd c c0) id
      obtain ⟨w, -⟩ := ey c01
      have r2 := (hr.2.2 c01).1
      refine ⟨fun c1 => absurd w c1, fun _ => ⟨fun c1 => ?_, fun c1 => ⟨fun c2 => absurd c2 (by decide), fun _ => ?_⟩⟩⟩
      · rw [hS1.1, e2] at c1
        rw [if_pos c1] at kk
        exact stop (k + 1) σ1 0 f1 w (kk σ1 f1 (fun _ => w) (fun c => absurd rfl c))
      · rw [hS1.1, e2] at c1
        rw [if_neg c1] at kk
        refine P_expect (a := (pO T L a).2.1) hS1 (by omega) e2 w (fun c2 σ2 f2 g2 g3 => ?_) (fun c2 σ2 f2 g2 g3 => ?_)
        · rw [if_pos c2] at kk
          have := c2.1
          exact ⟨zRi (by omega) (by omega), ih σ2 ((pO T L a).2.1 + 1) (v + 1) (RS_A f2 hS1) (by omega) (by omega) (by omega) (by omega) g2 g3 (fun σ' f' p1 p2 => kk σ' (FrP_trans f1 (FrP_trans (FrP_A f2) f')) p1 p2)⟩
        · rw [if_neg c2] at kk
          exact ⟨zRi (by omega) (by omega), P_L8d (by omega) g3 (fun σ' f' g2' g3' => kk σ' (FrP_trans f1 (FrP_trans (FrP_A f2) f')) (fun c => by omega) (fun _ => ⟨g2'.trans g2, g3'⟩))⟩
theorem P_rewind {σ : zM} {Q : zM → Prop} (kk : ∀ σ', FrA σ σ' → σ' 58 2 = 0 → σ' 58 3 = 0 → Q σ') : wp_P_rewind σ Q := by
  unfold wp_P_rewind
  rintro _ rfl _ rfl
  exact kk _ (FrA_U3 (FrA_U2 (FrA_rfl σ))) (by rw [zU_j (by omega), zU_s]) zU_s
theorem P_firstWrong {σ : zM} {Q : Int → zM → Prop} (hS : RS T L σ) (kk : ∀ σ', FrP σ σ' → Q (pF T L 81 0) σ') : wp_P_firstWrong σ Q := by
  have hL := hS.2.1
  unfold wp_P_firstWrong
  refine P_rewind (fun σ1 f1 e2 e3 => ⟨81 + 2, P_L8 81 σ1 0 0 (RS_A f1 hS) (by omega) (by omega) (by omega) (by omega) e2 e3 (fun σ2 f2 p1 p2 => ?_)⟩)
  have f := FrP_trans (FrP_A f1) f2
  unfold wp_P_firstWrong_b62
  by_cases c : pF T L 81 0 = -6
  · refine ⟨fun _ => ?_, fun c1 => absurd (p1 c) c1⟩
    rw [← c]; exact kk σ2 f
  · obtain ⟨g1, g2⟩ := p2 c
    refine ⟨fun c1 => absurd (g2.symm.trans c1) (by decide), fun _ => ?_⟩
    rw [g1]; exact kk σ2 f
end RX4
