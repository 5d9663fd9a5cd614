/-! the law's checks -/
theorem Post_same {B : Int} {σ τ : zM} {ρ : Int} {Q : Int → zM → Prop} (h : Inv B σ τ) (k : ∀ σ1 τ1, Inv (B + 1) σ1 τ1 → Q ρ σ1) : Post B σ τ ρ Q := by
  refine ⟨fun _ _ => k σ τ (Inv_mono (by omega) h), fun e w σ1 _ _ i => ?_, fun _ σ1 τ1 c i => k σ1 τ1 i⟩
  subst e
  exact k σ1 _ (Inv_mono (by omega) i)
theorem L_isUndone {B got : Int} {bef : Int64} {σ τ : zM} {R : Int → Int} {Q : Int → zM → Prop} (h0 : 0 ≤ B) (hB : B ≤ 1000000) (h : Inv B σ τ) (n0 : 1 ≤ τ 79 4) (hR : ∀ i : Int, 0 ≤ i → i < 455 → τ 81 ((τ 79 4 - 1) * 455 + i) = R i) (hZ : ∀ i : Int, i < 0 ∨ 455 ≤ i → R i = 0) (w a b : Int) (hg : got = rTurn R w a b) (g0 : 0 ≤ got) (hb : bef = VW R) (k : ∀ σ2 τ2, Inv (B + 1) σ2 τ2 → Q 1 σ2) : wp_L_isUndone σ w a b got bef Q := by
  have n6 := h.1.2.2.2.2.2.1.2.1
  unfold wp_L_isUndone
  refine R_his h.1 (Z_undo h (by omega) (fun σ4 i4 => ⟨zRi (by omega) (by omega), fun c => absurd rfl c, fun _ => ?_⟩))
  have e4 : mUndo τ 79 4 = τ 79 4 - 1 := by unfold mUndo; rw [zCp_n (by omega), zU_s]
  have e80 : mUndo τ 80 = R := by
    funext i
    by_cases hi : 0 ≤ i ∧ i < 455
    · rw [← hR i hi.1 hi.2]
      unfold mUndo
      rw [zCp_g, if_pos (by omega), zU_n (by omega)]; congr 1; omega
    · rw [hZ i (by omega)]; exact i4.2.2.1 i (by omega)
  refine R_his i4.1 ⟨zRi (by omega) (by omega), fun c => absurd e4 c, fun _ => L_view i4.1.1 i4.1.2.2.2.2.2.1.1 ⟨fun c => absurd ?_ c, fun _ => ?_⟩⟩
  · rw [e80, hb]; exact zLcmp_rfl _
  · refine L_turn h0 hB i4 w a b ?_
    rw [e80, ← hg]
    refine ⟨fun c => by omega, fun c => by omega, fun _ σ5 τ5 c5 i5 => ⟨fun c => absurd rfl c, fun _ => R_his i5.1 ⟨fun c => absurd ?_ c, fun _ => k σ5 τ5 i5⟩⟩⟩
    rw [c5 79 (by omega) (by omega), mRec_4 (by omega), e4, if_pos (by omega)]; omega
theorem L_isSaved {B : Int} {σ τ : zM} {Q : Int → zM → Prop} (h0 : 0 ≤ B) (hB : B ≤ 1000000) (h : Inv B σ τ) (a b : Int) (k : ∀ σ2 τ2, Inv (B + 1) σ2 τ2 → Q 1 σ2) : wp_L_isSaved σ a b Q := by
  have hs : 0 ≤ zAnd a 1 ∧ zAnd a 1 ≤ 1 := by
    rw [zAnd1]
    split <;> omega
  generalize hsl : zAnd a 1 = s at *
  have u : ∀ n, n ≠ 82 → n ≠ 83 → mSave τ s n = τ n := fun n h1 h2 => by unfold mSave; rw [zU_n h2, zCp_n h1]
  have u83 : mSave τ s 83 s = 1 := by unfold mSave; rw [zU_s]
  have u82 : ∀ i : Int, 0 ≤ i → i < 455 → mSave τ s 82 (s * 455 + i) = τ 80 i := fun i i0 i1 => by
    unfold mSave
    rw [zU_n (by omega), zCp_g, if_pos (by omega)]; congr 1; omega
  unfold wp_L_isSaved
  rw [hsl]
  refine L_view h.1.1 h.1.2.2.2.2.2.1.1 (R_his h.1 (Z_save h hs (fun σ6 i6 => R_cnt i6.1.1 (by omega) (by omega) ⟨fun c => absurd ?_ c, fun _ => R_his i6.1 ⟨fun _ => L_up (by decide) (L_turn h0 hB i6 _ _ _ (Post_all i6 (fun r σ14 τ14 i14 e82 e83 => ?_))), fun c => absurd ?_ c⟩⟩)))
  · rw [u 80 (by omega) (by omega)]
  rotate_left
  · rw [u 79 (by omega) (by omega)]
  refine Z_restore i14 hs (by rw [e83]; exact u83) (fun σ16 τ16 i16 er => ?_)
  have e80 : τ16 80 = τ 80 := by
    funext i
    by_cases hi : 0 ≤ i ∧ i < 455
    · rw [er i hi.1 hi.2, e82, u82 i hi.1 hi.2]
    · rw [i16.2.2.1 i (by omega), h.2.2.1 i (by omega)]
  refine R_cnt i16.1.1 (by omega) (by omega) ⟨fun c => absurd (er 0 (by omega) (by omega)).symm c, fun _ => L_view i16.1.1 i16.1.2.2.2.2.2.1.1 ⟨fun c => absurd ?_ c, fun _ => k σ16 τ16 i16⟩⟩
  rw [e80]; exact zLcmp_rfl _
theorem vP_5 {A : Int → Int} {p : Int} : vP A p 5 = sF (fun r => decide (A (375 + 8 * r + 0) = p)) (A 2).toNat := by
  unfold vP
  rw [if_neg (by decide), if_neg (by decide), if_pos rfl]
theorem vT_in {A : Int → Int} {v w : Int} (v0 : 0 ≤ v) (v1 : v < A 2) : vT A v w = A (375 + 8 * v + w) := by
  unfold vT
  rw [if_pos ⟨v0, v1⟩]
theorem vR_lo {A : Int → Int} {r w : Int} (w1 : w < 5) : vR A r w = A (27 + 12 * r + w) := by
  unfold vR
  rw [if_neg (by omega), if_neg (by omega), if_pos w1]
theorem vR_12 {A : Int → Int} {r : Int} : vR A r 12 = A (27 + 12 * r + 11) := by
  unfold vR
  rw [if_neg (by decide), if_pos rfl]
theorem L_dueGo {B : Int} {σ τ : zM} {Q : Int → zM → Prop} (hB : B ≤ 1000000) (h : Inv B σ τ) {v r : Int} (v0 : 0 ≤ v) (r0 : 0 ≤ r) (k : ∀ σ2 τ2, Inv (B + 1) σ2 τ2 → Q 1 σ2) : wp_L_isDue σ v r 0 Q := by
  have hR := h.1.1
  have hA := h.1.2.2.2.2.2.1.1
  have fin : ∀ d, rGo (τ 80) v r = d → wp_L_isDue_b111 Q σ v r d := by
    rintro _ rfl
    unfold wp_L_isDue_b111
    exact Z_go hB h v r (Post_same h (fun σ1 τ1 i => ⟨fun c => absurd rfl c, fun _ => k σ1 τ1 i⟩))
  unfold wp_L_isDue
  refine R_cnt hR (by omega) (by omega) ⟨fun c => ?_, fun c => ?_⟩
  · unfold wp_L_isDue_b14
    refine R_ofTraveller hR hA (by omega) (by omega) ⟨fun cc => absurd rfl cc, fun _ => ⟨fun _ => ?_, fun cc => absurd rfl cc⟩⟩
    unfold wp_L_isDue_b71 wp_L_isDue_b72
    refine ⟨fun _ => ⟨fun _ => ?_, fun cc => absurd rfl cc⟩, fun cc => absurd rfl cc⟩
    exact fin (-1) (by unfold rGo; rw [if_neg (by omega)])
  · have v1 : v < τ 80 2 := by omega
    have ht := (hA.2.2.2.2.2.2 v v0 v1).2.1
    unfold wp_L_isDue_b14
    refine R_ofTraveller hR hA (by omega) (by omega) ⟨fun cc => absurd rfl cc, fun _ => ⟨fun cc => absurd cc (by decide), fun _ => ?_⟩⟩
    rw [vT_in v0 v1]
    refine R_cnt hR (by omega) (by omega) ⟨fun c2 => ?_, fun c2 => ?_⟩
    · unfold wp_L_isDue_b71 wp_L_isDue_b72
      refine ⟨fun _ => ⟨fun cc => absurd cc (by decide), fun _ => R_cnt hR (by omega) (by omega) ⟨fun _ => ?_, fun cc => absurd c2 cc⟩⟩, fun cc => absurd rfl cc⟩
      exact fin (-1) (by unfold rGo; rw [if_neg (by omega)])
    · have r1 : r < τ 80 0 := by omega
      have hr2 := (hA.2.2.2.2.1 r r0 r1).2.2.1
      have no : goW (τ 80) v r ≠ 0 → wp_L_isDue_b71 Q σ v r 1 (τ 80 (375 + 8 * v + 1)) := by
        intro hw
        unfold wp_L_isDue_b71 wp_L_isDue_b72
        refine ⟨fun _ => ⟨fun cc => absurd cc (by decide), fun _ => R_cnt hR (by omega) (by omega) ⟨fun cc => absurd cc c2, fun _ => ?_⟩⟩, fun cc => absurd rfl cc⟩
        exact fin (-5) (by unfold rGo; rw [if_pos ⟨⟨v0, v1⟩, r0, r1⟩, if_neg hw])
      refine R_ofRoad hR hA r0 r1 (by omega) (by omega) (R_ofTraveller hR hA (by omega) (by omega) ?_)
      rw [vR_lo (by omega), vT_in v0 v1]
      refine ⟨fun c3 => no ?_, fun c3 => R_whyShut hR hA r0 r1 (by omega) (by omega) ⟨fun c4 => no ?_, fun c4 => ?_⟩⟩
      · unfold goW; rw [if_neg c3]; decide
      · unfold goW; rw [if_pos c3]; exact c4
      · unfold wp_L_isDue_b72
        refine ⟨fun cc => absurd cc (by decide), fun _ => R_ofRoad hR hA r0 r1 (by omega) (by omega) ?_⟩
        rw [vR_lo (by omega)]
        refine ⟨zRi (by omega) (by omega), fin _ ?_⟩
        unfold rGo
        rw [if_pos ⟨⟨v0, v1⟩, r0, r1⟩, if_pos]
        unfold goW; rw [if_pos c3]; exact c4
theorem stW_sL {A : Int → Int} {v m : Int} (m0 : 1 ≤ m) : stW A v m = 0 ↔ m ≤ sL A v := by
  unfold stW sL
  by_cases c1 : 2880 < A (375 + 8 * v + 1) + m
  · rw [if_pos c1]; omega
  · rw [if_neg c1]
    by_cases c2 : oU A (A (375 + 8 * v + 0)) (A (375 + 8 * v + 1)) < A (375 + 8 * v + 1) + m
    · rw [if_pos c2]; omega
    · rw [if_neg c2]
      by_cases c3 : A (3 + 3 * A (375 + 8 * v + 0) + 2) < A (375 + 8 * v + 1) + m - A (375 + 8 * v + 2)
      · rw [if_pos c3]; omega
      · rw [if_neg c3]; omega
theorem L_dueStay {B : Int} {σ τ : zM} {Q : Int → zM → Prop} (h : Inv B σ τ) {v r m : Int} (v0 : 0 ≤ v) (m0 : 1 ≤ m) (m1 : m ≤ 1000) (k : ∀ σ2 τ2, Inv (B + 1) σ2 τ2 → Q 1 σ2) : wp_L_isDue σ v r m Q := by
  have hR := h.1.1
  have hA := h.1.2.2.2.2.2.1.1
  have fin : ∀ d, rSty (τ 80) v m = d → wp_L_isDue_b174 Q σ v m d := by
    rintro _ rfl
    unfold wp_L_isDue_b174
    exact Z_stay h v m (Post_same h (fun σ1 τ1 i => ⟨fun c => absurd rfl c, fun _ => k σ1 τ1 i⟩))
  unfold wp_L_isDue
  refine R_cnt hR (by omega) (by omega) ⟨fun c => ?_, fun c => ?_⟩
  · unfold wp_L_isDue_b14
    refine R_ofTraveller hR hA (by omega) (by omega) ⟨fun _ => ⟨fun _ => ?_, fun cc => absurd rfl cc⟩, fun cc => by omega⟩
    unfold wp_L_isDue_b148 wp_L_isDue_b149
    refine ⟨fun _ => ⟨fun _ => ?_, fun cc => absurd rfl cc⟩, fun cc => absurd rfl cc⟩
    have hE : stE (τ 80) v m = -1 := by unfold stE; rw [if_pos (by omega)]
    exact fin (-1) (by unfold rSty; rw [hE, if_neg (by decide)])
  · have v1 : v < τ 80 2 := by omega
    have ht := (hA.2.2.2.2.2.2 v v0 v1).2.1
    have hE : stE (τ 80) v m = 0 := by unfold stE; rw [if_neg (by omega), if_neg (by omega)]
    have hW := stW_sL (A := τ 80) (v := v) m0
    unfold wp_L_isDue_b14
    refine R_ofTraveller hR hA (by omega) (by omega) ⟨fun _ => ⟨fun cc => absurd cc (by decide), fun _ => R_canStay hR hA v ?_⟩, fun cc => by omega⟩
    rw [vT_in v0 v1, rCan, if_pos ⟨v0, v1⟩]
    refine ⟨fun c2 => ?_, fun c2 => ?_⟩
    · unfold wp_L_isDue_b148 wp_L_isDue_b149
      refine ⟨fun _ => ⟨fun cc => absurd cc (by decide), fun _ => ?_⟩, fun cc => absurd rfl cc⟩
      exact fin (-5) (by unfold rSty; rw [if_pos hE, if_neg (fun e => by have := hW.1 e; omega)])
    · unfold wp_L_isDue_b149
      refine ⟨fun cc => absurd cc (by decide), fun _ => ⟨zRi (by omega) (by omega), fin _ ?_⟩⟩
      unfold rSty; rw [if_pos hE, if_pos (hW.2 (by omega))]
theorem zB_sF (f : Int → Bool) : ∀ (n : Nat), n ≤ 32 → ∀ k : Int, 0 ≤ k → k < 32 → zB (sF f n) k = (decide (k < n) && f k)
  | 0, _, k, k0, _ => by
    rw [sF, zB_0, decide_eq_false (by omega)]; rfl
  | n + 1, hn, k, k0, k1 => by
    have ih := zB_sF f n (by omega) k k0 k1
    rw [sF]
    by_cases hf : f n = true
    · rw [if_pos hf, zB_or, ih, zB_shl _ _ (by omega) (by omega) k0 k1]
      by_cases hk : k = n
      · subst hk; simp [hf]; omega
      · by_cases h2 : k < n
        · simp [hk, h2]; intro; omega
        · simp [hk, h2]; intro; omega
    · rw [if_neg hf, ih]
      by_cases hk : k = n
      · subst hk; simp [hf]
      · by_cases h2 : k < n
        · simp [h2]; intro; omega
        · simp [h2]; intro; omega
theorem sT_rg {A : Int → Int} {B : Int} (hA : OKA A B) : ∀ n : Nat, n ≤ A 2 → 0 ≤ sT A n ∧ sT A n ≤ 2880 * n
  | 0, _ => by rw [sT]; omega
  | n + 1, h => by
    have ih := sT_rg hA n (by omega)
    obtain ⟨t0, t1, t2, t3, t4, t5⟩ := hA.2.2.2.2.2.2 n (by omega) (by omega)
    show 0 ≤ sT A n + A (375 + 8 * (n : Int) + 3) ∧ sT A n + A (375 + 8 * (n : Int) + 3) ≤ _
    omega
theorem sR_rg {A : Int → Int} {B : Int} (h0 : 0 ≤ B) (hB : B ≤ 1000000) (hA : OKA A B) : ∀ n : Nat, n ≤ A 0 → 0 ≤ sR A n ∧ sR A n ≤ 1000000 * n
  | 0, _ => by rw [sR]; omega
  | n + 1, h => by
    have ih := sR_rg h0 hB hA n (by omega)
    have hr := (hA.2.2.2.2.1 n (by omega) (by omega)).2.2.2.2.2.2.2
    show 0 ≤ sR A n + A (27 + 12 * (n : Int) + 11) ∧ sR A n + A (27 + 12 * (n : Int) + 11) ≤ _
    omega
theorem L_areRight {B : Int} {σ τ : zM} {Q : Int → zM → Prop} (h0 : 0 ≤ B) (hB : B ≤ 1000000) (h : Inv B σ τ) (k : Q 1 σ) : wp_L_areRight σ Q := by
  have hR := h.1.1
  have hA := h.1.2.2.2.2.2.1.1
  have b0 := hA.1
  have b2 := hA.2.2.1
  have hS : sT (τ 80) (τ 80 2).toNat = sR (τ 80) (τ 80 0).toNat := h.2.2.2.1
  generalize hAA : τ 80 = A at *
  unfold wp_L_areRight
  have second : wp_L_areRight_b138 Q σ (sT A (A 2).toNat) 1 := by
    unfold wp_L_areRight_b138
    have key : ∀ (n : Nat) (v : Int), 0 ≤ v → v ≤ A 0 → A 0 - v < n → wp_L_areRight_L140 σ 1 (fun u33 => ((1 : Int) = 0 → Q 0 σ) ∧ (¬ (1 : Int) = 0 → ((¬ u33 = 0 → Q 0 σ) ∧ (u33 = 0 → Q 1 σ)))) Q n (sT A (A 2).toNat - sR A v.toNat) v := by
      intro n
      induction n with
      | zero => intro v _ _ _; omega
      | succ n ih =>
        intro v v0 v1 hn
        have g1 := sT_rg hA (A 2).toNat (by omega)
        have g2 := sR_rg h0 hB hA v.toNat (by omega)
        rw [wp_L_areRight_L140]
        refine R_cnt hR (by omega) (by omega) ⟨fun c => ⟨fun cc => absurd cc (by decide), fun _ => ⟨fun cc => absurd ?_ cc, fun _ => k⟩⟩, fun c => R_ofRoad hR hA v0 (by omega) (by omega) (by omega) ?_⟩
        · rw [hS, show v = A 0 by omega]; omega
        · rw [vR_12]
          have hr := (hA.2.2.2.2.1 v v0 (by omega)).2.2.2.2.2.2.2
          refine ⟨zRi (by omega) (by omega), zRi (by omega) (by omega), ?_⟩
          have := ih (v + 1) (by omega) (by omega) (by omega)
          rw [show (v + 1).toNat = v.toNat + 1 by omega, sR, show ((v.toNat : Nat) : Int) = v by omega, ← Int.sub_sub] at this
          exact this
    refine ⟨(A 0).toNat + 1, ?_⟩
    have := key ((A 0).toNat + 1) 0 (by omega) (by omega) (by omega)
    rw [show (0 : Int).toNat = 0 from rfl, sR, Int.sub_zero] at this
    exact this
  have key : ∀ (n : Nat) (v : Int), 0 ≤ v → v ≤ A 2 → A 2 - v < n → wp_L_areRight_L6 (fun σ24 u25 u26 => wp_L_areRight_b138 Q σ24 u25 u26) Q n σ (sT A v.toNat) 1 v := by
    intro n
    induction n with
    | zero => intro v _ _ _; omega
    | succ n ih =>
      intro v v0 v1 hn
      rw [wp_L_areRight_L6]
      refine R_cnt hR (by omega) (by omega) ⟨fun c => ?_, fun c => ⟨fun cc => absurd cc (by decide), fun _ => ?_⟩⟩
      · rw [show v = A 2 by omega]; exact second
      have v2 : v < A 2 := by omega
      obtain ⟨t0, t1, t2, t3, t4, t5⟩ := hA.2.2.2.2.2.2 v v0 v2
      refine R_ofTraveller hR hA (by omega) (by omega) (R_ofTraveller hR hA (by omega) (by omega) (R_ofTraveller hR hA (by omega) (by omega) (R_ofTraveller hR hA (by omega) (by omega) (R_ofTraveller hR hA (by omega) (by omega) ?_))))
      rw [vT_in v0 v2, vT_in v0 v2, vT_in v0 v2, vT_in v0 v2, vT_in v0 v2]
      refine ⟨zRi (by omega) (by omega), fun cc => absurd (by omega) cc, fun _ => R_ofTraveller hR hA (by omega) (by omega) ?_⟩
      rw [vT_in v0 v2]
      refine ⟨fun cc => absurd cc (by omega), fun _ => ⟨fun cc => absurd cc (by omega), fun _ => ?_⟩⟩
      have g1 := sT_rg hA v.toNat (by omega)
      have nx : wp_L_areRight_b122 (wp_L_areRight_L6 (fun σ24 u25 u26 => wp_L_areRight_b138 Q σ24 u25 u26) Q n) Q σ (sT A v.toNat) v 1 := by
        unfold wp_L_areRight_b122
        refine R_ofTraveller hR hA (by omega) (by omega) ?_
        rw [vT_in v0 v2]
        refine ⟨zRi (by omega) (by omega), zRi (by omega) (by omega), ?_⟩
        have := ih (v + 1) (by omega) (by omega) (by omega)
        rw [show (v + 1).toNat = v.toNat + 1 by omega, sT, show ((v.toNat : Nat) : Int) = v by omega] at this
        exact this
      unfold wp_L_areRight_b85
      refine ⟨fun cc => absurd cc (by decide), fun _ => R_ofPlace hR hA t0.1 t0.2 (by omega) (by omega) ⟨fun cc => absurd ?_ cc, fun _ => R_arrives hR hA v0 v2 ⟨fun cc => absurd rfl cc, fun _ => nx⟩⟩⟩
      rw [vP_5, zAnd1, zB_shr0 v0 (by omega), zB_sF _ _ (by omega) v v0 (by omega)]
      rw [decide_eq_true (show v < ((A 2).toNat : Int) by omega), decide_eq_true rfl]
      rfl
  exact ⟨(A 2).toNat + 1, key _ 0 (by omega) (by omega) (by omega)⟩
