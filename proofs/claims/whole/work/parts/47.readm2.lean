section RM2
variable {T : Int → Int} {L : Int}
theorem M_passesClosing {τ : zM} {a : Int} {Q : Int → zM → Prop} (hS : RM T L τ) (a0 : 0 ≤ a) (a1 : a ≤ L) (ha : τ 79 14 = a) (h15 : τ 79 15 = 120) (kk : ∀ τ', mEnd τ τ' (oX T L a) → Q (oX T L a).1 τ') : wp_M_passesClosing τ Q := by
  have hL := hS.2.1
  have hN := pN_rg (T := T) a1
  unfold wp_M_passesClosing
  have bad : ∀ (b : Int) (τ' : zM), oX T L a = fl b → FrT τ τ' → τ' 79 14 = b → Q 0 τ' := by
    intro b τ' e f g
    rw [e] at kk
    exact kk τ' (mEnd_fl f g)
  refine M_number hS a0 a1 ha (fun n1 τ1 f1 e14 e21 => ⟨fun _ => ?_, fun c => absurd c (by decide)⟩) (fun n1 τ1 f1 e14 => ⟨fun c => absurd rfl c, fun _ => bad _ τ1 (by unfold oX; rw [if_pos n1]) (FrT_V f1) e14⟩)
  have n1' : ¬ (pN T L a).1 = 0 := by omega
  have l0 := hN.2.1
  intro τ2 g2
  have f2 : FrT τ τ2 := by rw [g2]; exact FrT_U79 (by omega) (FrT_V f1)
  refine M_passes (a := (pN T L a).2.1) (RM_T f2 hS) (by omega) (by omega) (by rw [g2, zU_j (by omega)]; exact e14) (by omega) (fun c2 τ3 f3 i14 i21 => ⟨fun c => absurd c (by decide), fun _ => ?_⟩) (fun c2 => ⟨fun _ => bad _ τ2 (by unfold oX; rw [if_neg n1', if_neg c2]) f2 (by rw [g2, zU_j (by omega)]; exact e14), fun c => absurd rfl c⟩)
  have l1 := c2.1
  have f3' := FrT_trans f2 (FrT_V f3)
  have k16 : τ3 79 16 = (pN T L a).2.2 := by rw [f3.2 16 (by omega) (by omega), g2, zU_s]; exact e21
  have k15 : τ3 79 15 = 120 := by rw [f3.2 15 (by omega) (by omega), g2, zU_j (by omega), f1.2 15 (by omega) (by omega)]; exact h15
  have hN2 := pN_rg (T := T) (L := L) (a := (pN T L a).2.1 + 1) (by omega)
  have eo : oX T L a = if (pN T L ((pN T L a).2.1 + 1)).1 = 0 then fl (pN T L ((pN T L a).2.1 + 1)).2.1
    else if hD T L 45 45 (pN T L ((pN T L a).2.1 + 1)).2.1 then
      if (pN T L ((pN T L ((pN T L a).2.1 + 1)).2.1 + 1)).1 = 0 then fl (pN T L ((pN T L ((pN T L a).2.1 + 1)).2.1 + 1)).2.1
      else (1, (pN T L ((pN T L ((pN T L a).2.1 + 1)).2.1 + 1)).2.1, oD 120 (pN T L a).2.2 (pN T L ((pN T L a).2.1 + 1)).2.2 (pN T L ((pN T L ((pN T L a).2.1 + 1)).2.1 + 1)).2.2 0 0 (fun _ => 0))
    else fl (pN T L ((pN T L a).2.1 + 1)).2.1 := by
    unfold oX
    rw [if_neg n1', if_pos c2]
  refine M_number (a := (pN T L a).2.1 + 1) (RM_T f3' hS) (by omega) (by omega) i14 (fun n2 τ4 f4 j14 j21 => ⟨fun _ => ?_, fun c => absurd c (by decide)⟩) (fun n2 τ4 f4 j14 => ⟨fun c => absurd rfl c, fun _ => bad _ τ4 (by rw [eo, if_pos n2]) (FrT_trans f3' (FrT_V f4)) j14⟩)
  generalize pN T L ((pN T L a).2.1 + 1) = N2 at hN2 n2 j14 j21 eo
  have n2' : ¬ N2.1 = 0 := by omega
  rw [if_neg n2'] at eo
  have l2 := hN2.2.1
  intro τ5 g5
  have f5 : FrT τ τ5 := by rw [g5]; exact FrT_U79 (by omega) (FrT_trans f3' (FrT_V f4))
  refine M_passes (a := N2.2.1) (RM_T f5 hS) (by omega) (by omega) (by rw [g5, zU_j (by omega)]; exact j14) (by omega) (fun c6 τ6 f6 m14 m21 => ⟨fun c => absurd c (by decide), fun _ => ?_⟩) (fun c6 => ⟨fun _ => bad _ τ5 (by rw [eo, if_neg c6]) f5 (by rw [g5, zU_j (by omega)]; exact j14), fun c => absurd rfl c⟩)
  rw [if_pos c6] at eo
  have l3 := c6.1
  have f6' := FrT_trans f5 (FrT_V f6)
  have hN3 := pN_rg (T := T) (L := L) (a := N2.2.1 + 1) (by omega)
  refine M_number (a := N2.2.1 + 1) (RM_T f6' hS) (by omega) (by omega) m14 (fun n3 τ7 f7 p14 p21 => ⟨fun _ => ?_, fun c => absurd c (by decide)⟩) (fun n3 τ7 f7 p14 => ⟨fun c => absurd rfl c, fun _ => bad _ τ7 (by rw [eo, if_pos n3]) (FrT_trans f6' (FrT_V f7)) p14⟩)
  generalize pN T L (N2.2.1 + 1) = N3 at hN3 n3 p14 p21 eo
  have n3' : ¬ N3.1 = 0 := by omega
  rw [if_neg n3'] at eo
  rw [eo] at kk
  rintro _ rfl
  refine kk _ ⟨FrT_U79 (by omega) (FrT_trans f6' (FrT_V f7)), by rw [zU_j (by omega)]; exact p14, fun _ => ⟨?_, ?_, fun _ => ?_, fun _ => ?_, fun hh => absurd (show (120 : Int) = 115 from hh) (by decide)⟩⟩
  · show zU τ7 79 18 _ 79 15 = 120
    rw [zU_j (by omega), f7.2 15 (by omega) (by omega), f6.2 15 (by omega) (by omega), g5, zU_j (by omega), f4.2 15 (by omega) (by omega)]; exact k15
  · show zU τ7 79 18 _ 79 16 = (pN T L a).2.2
    rw [zU_j (by omega), f7.2 16 (by omega) (by omega), f6.2 16 (by omega) (by omega), g5, zU_j (by omega), f4.2 16 (by omega) (by omega)]; exact k16
  · show zU τ7 79 18 _ 79 17 = N2.2.2
    rw [zU_j (by omega), f7.2 17 (by omega) (by omega), f6.2 17 (by omega) (by omega), g5, zU_s]; exact j21
  · show zU τ7 79 18 _ 79 18 = N3.2.2
    rw [zU_s]; exact p21
theorem M_passesTravel {τ : zM} {a s k : Int} {Q : Int → zM → Prop} (hS : RM T L τ) (a0 : 0 ≤ a) (a1 : a ≤ L) (ha : τ 79 14 = a) (hs : 0 ≤ s ∧ s ≤ 255) (hk : k = 103 ∨ k = 119) (h15 : τ 79 15 = k) (kk : ∀ τ', mEnd τ τ' (oG T L k s a) → Q (oG T L k s a).1 τ') : wp_M_passesTravel τ s Q := by
  have hL := hS.2.1
  unfold wp_M_passesTravel
  have bad : ∀ (b : Int) (τ' : zM), oG T L k s a = fl b → FrT τ τ' → τ' 79 14 = b → Q 0 τ' := by
    intro b τ' e f g
    rw [e] at kk
    exact kk τ' (mEnd_fl f g)
  refine M_passes hS a0 a1 ha (by omega) (fun c1 τ1 f1 e14 e21 => ⟨fun _ => ?_, fun c => absurd c (by decide)⟩) (fun c1 => ⟨fun c => absurd rfl c, fun _ => bad a τ (by unfold oG; rw [if_neg c1]) (FrT_rfl τ) ha⟩)
  have l1 := c1.1
  intro τ2 g2
  have f2 : FrT τ τ2 := by rw [g2]; exact FrT_U79 (by omega) (FrT_V f1)
  refine M_passes (a := a + 1) (RM_T f2 hS) (by omega) (by omega) (by rw [g2, zU_j (by omega)]; exact e14) hs (fun c2 τ3 f3 i14 i21 => ⟨fun c => absurd c (by decide), fun _ => ?_⟩) (fun c2 => ⟨fun _ => bad (a + 1) τ2 (by unfold oG; rw [if_pos c1, if_neg c2]) f2 (by rw [g2, zU_j (by omega)]; exact e14), fun c => absurd rfl c⟩)
  have l2 := c2.1
  have f3' := FrT_trans f2 (FrT_V f3)
  have eo : oG T L k s a = if (pN T L (a + 2)).1 = 0 then fl (pN T L (a + 2)).2.1 else (1, (pN T L (a + 2)).2.1, oD k (T a - 48) (pN T L (a + 2)).2.2 0 0 0 (fun _ => 0)) := by
    unfold oG
    rw [if_pos c1, if_pos c2]
  refine M_number (a := a + 2) (RM_T f3' hS) (by omega) (by omega) (by rw [i14]; omega) (fun n3 τ4 f4 j14 j21 => ⟨fun _ => ?_, fun c => absurd c (by decide)⟩) (fun n3 τ4 f4 j14 => ⟨fun c => absurd rfl c, fun _ => bad _ τ4 (by rw [eo, if_pos n3]) (FrT_trans f3' (FrT_V f4)) j14⟩)
  generalize pN T L (a + 2) = N at n3 j14 j21 eo
  rw [if_neg (by omega)] at eo
  rw [eo] at kk
  rintro _ rfl
  refine kk _ ⟨FrT_U79 (by omega) (FrT_trans f3' (FrT_V f4)), by rw [zU_j (by omega)]; exact j14, fun _ => ⟨?_, ?_, fun _ => ?_, fun hh => ?_, fun hh => ?_⟩⟩
  · show zU τ4 79 17 _ 79 15 = k
    rw [zU_j (by omega), f4.2 15 (by omega) (by omega), f3.2 15 (by omega) (by omega), g2, zU_j (by omega), f1.2 15 (by omega) (by omega)]; exact h15
  · show zU τ4 79 17 _ 79 16 = T a - 48
    rw [zU_j (by omega), f4.2 16 (by omega) (by omega), f3.2 16 (by omega) (by omega), g2, zU_s]; exact e21
  · show zU τ4 79 17 _ 79 17 = N.2.2
    rw [zU_s]; exact j21
  · have hh : k = 120 := hh
    omega
  · have hh : k = 115 := hh
    omega
theorem M_passesOrder {τ : zM} {a : Int} {Q : Int → zM → Prop} (hS : RM T L τ) (a0 : 0 ≤ a) (a1 : a ≤ L) (ha : τ 79 14 = a) (kk : ∀ τ', mEnd τ τ' (pO T L a) → Q (pO T L a).1 τ') : wp_M_passesOrder τ Q := by
  have hL := hS.2.1
  have hr := pO_rg (T := T) a1
  unfold wp_M_passesOrder
  rw [ha, hS.1]
  refine ⟨fun c => ⟨by omega, ?_⟩, fun c => ?_⟩
  rotate_left
  · have e : pO T L a = fl a := by unfold pO; rw [if_neg (by omega)]
    rw [e] at kk
    exact kk τ (mEnd_fl (FrT_rfl τ) ha)
  rw [hS.2.2 a a0 (by omega)]
  intro τ2 g2
  have b15 : τ2 79 15 = T a := by rw [g2]; exact zU_s
  have b14 : τ2 79 14 = a := by rw [g2, zU_j (by omega)]; exact ha
  have f2 : FrT τ τ2 := by rw [g2]; exact FrT_U79 (by omega) (FrT_rfl τ)
  rw [b15]
  have e0 : pO T L a = if T a = 115 then oS T L (a + 1) else if T a = 120 then oX T L (a + 1) else if T a = 103 then oG T L 103 62 (a + 1) else if T a = 119 then oG T L 119 43 (a + 1) else fl a := by
    unfold pO
    rw [if_pos (by omega)]
  have go : (T a = 115 ∨ T a = 120 ∨ T a = 103 ∨ T a = 119) → wp_M_passesOrder_b64 Q τ2 := by
    intro hk
    unfold wp_M_passesOrder_b64
    rw [b14]
    refine ⟨zRi (by omega) (by omega), ?_⟩
    intro τ4 g4
    have d15 : τ4 79 15 = T a := by rw [g4, zU_j (by omega)]; exact b15
    have d14 : τ4 79 14 = a + 1 := by rw [g4]; exact zU_s
    have f4 : FrT τ τ4 := by rw [g4]; exact FrT_U79 (by omega) f2
    have hS4 := RM_T f4 hS
    have fin : ∀ (o : Int × Int × (Int → Int)), pO T L a = o → ∀ τ', mEnd τ4 τ' o → (o.1 = 0 ∨ o.1 = 1) ∧ Q o.1 τ' := by
      intro o e τ' h
      have h1 := hr.1
      rw [e] at kk h1
      exact ⟨h1, kk τ' ⟨FrT_trans f4 h.1, h.2⟩⟩
    rw [d15]
    refine ⟨fun k1 => ⟨fun k2 => ⟨fun k3 => ?_, fun k3 => ?_⟩, fun k2 => ?_⟩, fun k1 => ?_⟩
    · rw [if_neg k1, if_neg k2, if_neg k3, if_pos (by omega)] at e0
      exact M_passesTravel (k := 119) hS4 (by omega) (by omega) d14 (by omega) (Or.inr rfl) (by omega) (fin _ e0)
    · rw [if_neg k1, if_neg k2, if_pos k3] at e0
      exact M_passesTravel (k := 103) hS4 (by omega) (by omega) d14 (by omega) (Or.inl rfl) (by omega) (fin _ e0)
    · rw [if_neg k1, if_pos k2] at e0
      exact M_passesClosing hS4 (by omega) (by omega) d14 (by omega) (fin _ e0)
    · rw [if_pos k1] at e0
      exact M_passesSpans hS4 (by omega) (by omega) d14 (by omega) (fin _ e0)
  refine ⟨fun c1 => go (Or.inl c1), fun c1 => ⟨fun c2 => go (Or.inr (Or.inl c2)), fun c2 => ⟨fun c3 => go (Or.inr (Or.inr (Or.inl c3))), fun c3 => ⟨fun c4 => go (Or.inr (Or.inr (Or.inr c4))), fun c4 => ?_⟩⟩⟩⟩
  rw [if_neg c1, if_neg c2, if_neg c3, if_neg c4] at e0
  rw [e0] at kk
  exact kk τ2 (mEnd_fl f2 b14)
/-- behind the first order, with the rest of the fault -/
theorem M_L17 {Q : Int → zM → Prop} : ∀ (k : Nat) (τ : zM) (a : Int), RM T L τ → 0 ≤ a → a ≤ L → L - a < k → τ 79 14 = a → (∀ τ', FrT τ τ' → Q (if L ≤ a then -6 else if hD T L 59 59 a then pF T L k (a + 1) else a) τ') → wp_M_fault_L17 Q (k + 1) τ := by
  intro k
  induction k with
  | zero => intro τ a _ _ _ h; omega
  | succ k ih =>
    intro τ a hS a0 a1 hk ha kk
    have hL := hS.2.1
    rw [wp_M_fault_L17, ha, hS.1]
    refine ⟨fun c => ?_, fun c => ?_⟩
    · rw [if_pos c] at kk
      exact kk τ (FrT_rfl τ)
    rw [if_neg c] at kk
    refine M_passes hS a0 a1 ha (by omega) (fun c2 τ1 f1 e14 e21 => ⟨fun c => absurd c (by decide), fun _ => ?_⟩) (fun c2 => ⟨fun _ => ?_, fun c => absurd rfl c⟩)
    rotate_left
    · rw [if_neg c2] at kk
      rw [ha]
      exact kk τ (FrT_rfl τ)
    rw [if_pos c2] at kk
    have l1 := c2.1
    have hr := pO_rg (T := T) (L := L) (a := a + 1) (by omega)
    have f1' := FrT_V f1
    refine M_passesOrder (a := a + 1) (RM_T f1' hS) (by omega) (by omega) e14 (fun τ2 h2 => ?_)
    obtain ⟨f2, g14, -⟩ := h2
    have f2' := FrT_trans f1' f2
    have eF : pF T L (k + 1) (a + 1) = if (pO T L (a + 1)).1 = 0 then (pO T L (a + 1)).2.1 else if L ≤ (pO T L (a + 1)).2.1 then -6 else if hD T L 59 59 (pO T L (a + 1)).2.1 then pF T L k ((pO T L (a + 1)).2.1 + 1) else (pO T L (a + 1)).2.1 := rfl
    rw [eF] at kk
    have r1 := hr.2.1
    refine ⟨fun c3 => ?_, fun c3 => ?_⟩
    · rw [if_neg c3] at kk
      have r2 := (hr.2.2 (hr.1.elim (fun c => absurd c c3) id)).1
      exact ih τ2 (pO T L (a + 1)).2.1 (RM_T f2' hS) (by omega) (by omega) (by omega) g14 (fun τ' f' => kk τ' (FrT_trans f2' f'))
    · rw [if_pos c3] at kk
      rw [g14]
      exact kk τ2 f2'
theorem M_fault {τ : zM} {Q : Int → zM → Prop} (hS : RM T L τ) (kk : ∀ τ', FrT τ τ' → Q (pF T L 81 0) τ') : wp_M_fault τ Q := by
  have hL := hS.2.1
  unfold wp_M_fault
  rintro _ rfl
  have f0 : FrT τ (zU τ 79 14 0) := FrT_U79 (by omega) (FrT_rfl τ)
  have hr := pO_rg (T := T) (L := L) (a := 0) hL.1
  have eF : pF T L 81 0 = if (pO T L 0).1 = 0 then (pO T L 0).2.1 else if L ≤ (pO T L 0).2.1 then -6 else if hD T L 59 59 (pO T L 0).2.1 then pF T L 80 ((pO T L 0).2.1 + 1) else (pO T L 0).2.1 := rfl
  rw [eF] at kk
  have r1 := hr.2.1
  refine M_passesOrder (RM_T f0 hS) (Int.le_refl 0) hL.1 zU_s (fun τ2 h2 => ?_)
  obtain ⟨f2, g14, -⟩ := h2
  have f2' := FrT_trans f0 f2
  refine ⟨fun c3 => ⟨81, ?_⟩, fun c3 => ?_⟩
  · rw [if_neg c3] at kk
    have r2 := (hr.2.2 (hr.1.elim (fun c => absurd c c3) id)).1
    exact M_L17 80 τ2 (pO T L 0).2.1 (RM_T f2' hS) (by omega) (by omega) (by omega) g14 (fun τ' f' => kk τ' (FrT_trans f2' f'))
  · rw [if_pos c3] at kk
    rw [g14]
    exact kk τ2 f2'
end RM2
/-! fault, wipe -/
theorem RS_of {B z : Int} {σ τ : zM} (h : XRep B z σ τ) : RS (τ 84) (τ 79 7) σ := ⟨h.2.2.2.1.2.1, h.2.2.2.2.2.1.2.2.2.2.1, h.2.2.2.1.2.2⟩
theorem RM_of {B z : Int} {σ τ : zM} (h : XRep B z σ τ) : RM (τ 84) (τ 79 7) τ := ⟨rfl, h.2.2.2.2.2.1.2.2.2.2.1, fun _ _ _ => rfl⟩
theorem XRep_P {B z : Int} {σ σ' τ : zM} (f : FrP σ σ') (h : XRep B z σ τ) : XRep B z σ' τ :=
  XRep_eq ⟨fun n hn => f.1 n (by omega) (by omega) (by omega), f.2, f.1 59 (by omega) (by omega) (by omega)⟩ (XG_eq (by rw [f.1 62 (by omega) (by omega) (by omega)]) (f.1 63 (by omega) (by omega) (by omega)) rfl h.2.2.2.2.1) (TEq_rfl τ) h
theorem TEq_T {τ τ' : zM} (f : FrT τ τ') : TEq τ τ' := ⟨f.1 80 (by omega) (by omega), f.1 81 (by omega) (by omega), f.1 82 (by omega) (by omega), f.1 83 (by omega) (by omega), f.1 84 (by omega) (by omega), f.2 4 (by omega), f.2 5 (by omega), f.2 7 (by omega)⟩
theorem FrP_h {σ σ' : zM} (f : FrP σ σ') : ∀ n, 79 ≤ n → σ' n = σ n := fun n hn => f.1 n (by omega) (by omega) (by omega)
theorem op_fault {B : Int} {σ : zM} (h : Rel B σ) : wp_X_fault σ (fun r σ1 => wp_M_fault σ1 (fun r' σ2 => r = r' ∧ Rel B σ2)) := by
  unfold wp_X_fault
  refine P_firstWrong (RS_of h) (fun σ1 f1 => ?_)
  have e79 := FrP_h f1 79 (by omega)
  have e84 := FrP_h f1 84 (by omega)
  have hM : RM (σ 84) (σ 79 7) σ1 := ⟨by rw [e79], (RM_of h).2.1, fun i _ _ => by rw [e84]⟩
  refine M_fault hM (fun σ2 f2 => ⟨rfl, ?_⟩)
  have t1 : TEq σ σ1 := ⟨FrP_h f1 80 (by omega), FrP_h f1 81 (by omega), FrP_h f1 82 (by omega), FrP_h f1 83 (by omega), e84, by rw [e79], by rw [e79], by rw [e79]⟩
  refine XRep_eq (σ := σ) (τ := σ) ⟨fun n hn => ?_, ?_, ?_⟩ ?_ (TEq_trans t1 (TEq_T f2)) h
  · rw [f2.1 n (by omega) (by omega)]; exact f1.1 n (by omega) (by omega) (by omega)
  · rw [f2.1 58 (by omega) (by omega)]; exact f1.2
  · rw [f2.1 59 (by omega) (by omega)]; exact f1.1 59 (by omega) (by omega) (by omega)
  · refine XG_eq ?_ ?_ ?_ h.2.2.2.2.1
    · rw [f2.1 62 (by omega) (by omega), f1.1 62 (by omega) (by omega) (by omega)]
    · rw [f2.1 63 (by omega) (by omega), f1.1 63 (by omega) (by omega) (by omega)]
    · rw [f2.1 80 (by omega) (by omega)]; exact FrP_h f1 80 (by omega)
