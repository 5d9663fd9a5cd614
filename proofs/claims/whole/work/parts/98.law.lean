/-! the start, and the law -/
theorem zM0_a {n : Nat} {j : Int} (h1 : n ≠ 55) (h2 : n ≠ 56) (h3 : ¬ (n < 54 ∧ n % 6 = 1)) (h4 : n ≠ 80) : zM0 n j = 0 := by
  unfold zM0
  rw [if_neg h1, if_neg h2, if_neg h3, if_neg h4]
theorem zM0_80 (j : Int) : zM0 80 j = zRmI 3 j := by
  unfold zM0
  rw [if_neg (by omega), if_neg (by omega), if_neg (by omega), if_pos rfl]
theorem zM0_1 (j : Int) : zM0 1 j = zRmI 0 j := by
  unfold zM0
  rw [if_neg (by omega), if_neg (by omega), if_pos (by omega)]
theorem zM0_55 (j : Int) (h0 : 0 ≤ j) (h1 : j < 6) : zM0 55 j = j + 1 := by
  unfold zM0
  rw [if_pos rfl, if_pos ⟨h0, h1⟩]
theorem zM0_56 (j : Int) (h0 : 0 ≤ j) (h1 : j < 2) : zM0 56 j = j + 7 := by
  unfold zM0
  rw [if_neg (by omega), if_pos rfl, if_pos ⟨h0, h1⟩]
theorem zRmI_lo {o j : Int} (h : j < o) : zRmI o j = 0 := by
  unfold zRmI
  rw [if_neg (by omega)]
theorem zRmI_at {o p c : Int} (p0 : 0 ≤ p) (p1 : p < 8) (c0 : 0 ≤ c) (c1 : c < 3) : zRmI o (o + 3 * p + c) = if c = 1 then 1440 else if c = 2 then 1000 else 0 := by
  unfold zRmI
  have e : (o + 3 * p + c - o) % 3 = c := by omega
  rw [if_pos (by omega), e]
theorem Rel_0 : Rel 0 zM0 := by
  have c0 : zM0 80 0 = 0 := by rw [zM0_80]; exact zRmI_lo (by omega)
  have c1 : zM0 80 1 = 0 := by rw [zM0_80]; exact zRmI_lo (by omega)
  have c2 : zM0 80 2 = 0 := by rw [zM0_80]; exact zRmI_lo (by omega)
  have s0 : ∀ j, zM0 79 j = 0 := fun j => zM0_a (by omega) (by omega) (by omega) (by omega)
  have s3 : ∀ j, zM0 83 j = 0 := fun j => zM0_a (by omega) (by omega) (by omega) (by omega)
  refine ⟨⟨⟨?_, ?_, ?_⟩, fun p c p0 p1 c0 c1 => ?_, fun r r0 r1 => ?_, fun c j j0 j1 => ?_, fun t j j0 j1 => ?_⟩, ⟨?_, fun i i0 i1 => ?_, fun i j i0 i1 j0 j1 e => ?_, fun i i0 i1 => ?_⟩, ⟨?_, ?_, fun s _ _ => ?_, fun e => ?_, fun e => ?_⟩, ⟨?_, ?_, fun i i0 i1 => ?_⟩, XG_0 ?_, ⟨⟨?_, ?_, ?_, fun p p0 p1 => ?_, fun r r0 r1 => ?_, fun c j0 j1 => ?_, fun t j0 j1 => ?_⟩, ?_, fun i i0 i1 => ?_, fun s _ _ => ⟨Or.inl ?_, fun e => ?_⟩, ?_, fun i i0 i1 => ?_⟩, ?_⟩
  · rw [c0]; exact zM0_a (by omega) (by omega) (by omega) (by omega)
  · rw [c1]; exact zM0_a (by omega) (by omega) (by omega) (by omega)
  · rw [c2]; exact zM0_a (by omega) (by omega) (by omega) (by omega)
  · show zM0 1 (p * 3 + c) = zM0 80 (3 + 3 * p + c)
    rw [zM0_1, zM0_80, zRmI_at p0 p1 c0 c1, show p * 3 + c = 0 + 3 * p + c by omega, zRmI_at p0 p1 c0 c1]
  · rw [c0] at r1; omega
  · rw [c1] at j1; omega
  · rw [c2] at j1; omega
  · rw [s0]; exact zM0_a (by omega) (by omega) (by omega) (by omega)
  · rw [zM0_55 i i0 i1]; omega
  · rw [zM0_55 i i0 i1, zM0_55 j j0 j1] at e; omega
  · rw [s0] at i1; omega
  · exact zM0_56 0 (by omega) (by omega)
  · exact zM0_56 1 (by omega) (by omega)
  · rw [s3]; exact zM0_a (by omega) (by omega) (by omega) (by omega)
  · rw [s3] at e; omega
  · rw [s3] at e; omega
  · rw [s0]; exact zM0_a (by omega) (by omega) (by omega) (by omega)
  · rw [s0]; exact zM0_a (by omega) (by omega) (by omega) (by omega)
  · rw [s0] at i1; omega
  · exact zM0_a (by omega) (by omega) (by omega) (by omega)
  · rw [c0]; omega
  · rw [c1]; omega
  · rw [c2]; omega
  · rw [zM0_80, zM0_80, zM0_80, zRmI_at p0 p1 (by omega) (by omega), zRmI_at p0 p1 (by omega) (by omega), zRmI_at p0 p1 (by omega) (by omega), if_neg (by decide), if_neg (by decide), if_pos rfl, if_neg (by decide), if_pos rfl]
    omega
  · rw [c0] at r1; omega
  · rw [c1] at j1; omega
  · rw [c2] at j1; omega
  · rw [s0]; omega
  · rw [s0] at i1; omega
  · exact s3 s
  · rw [s3] at e; omega
  · rw [s0]; omega
  · rw [s0] at i1; omega
  · exact zM0_a (by omega) (by omega) (by omega) (by omega)
set_option maxRecDepth 100000 in
set_option maxHeartbeats 8000000 in
theorem law_ok : ∀ (scr : Nat → Int32) (N : Nat), N ≤ 2560 → ∃ n, wp_L_law_L18 scr N (fun _ _ => True) n zM0 0 := by
  intro scr N hN
  have key : ∀ (k : Nat) (σ : zM) (i : Int), 0 ≤ i → 5 * i ≤ N → (N : Int) - 5 * i < 5 * k → Rel (81 * i) σ → wp_L_law_L18 scr N (fun _ _ => True) k σ (5 * i) := by
    intro k
    induction k with
    | zero => intro σ i i0 i1 i2; omega
    | succ k ih =>
      intro σ i i0 i1 i2 h
      rw [wp_L_law_L18]
      refine ⟨zRi (by omega) (by omega), fun _ => rfl, fun c => ?_⟩
      have nx : ∀ B' σ', B' ≤ 81 * i + 81 → Rel B' σ' → wp_L_law_b1188 scr N (wp_L_law_L18 scr N (fun _ _ => True) k) (fun _ _ => True) σ' (5 * i) := by
        intro B' σ' hB h'
        refine ⟨zRi (by omega) (by omega), ?_⟩
        have := ih σ' (i + 1) (by omega) (by omega) (by omega) (Rel_mono (by omega) h')
        rw [show 5 * (i + 1) = 5 * i + 5 by omega] at this
        exact this
      have b1 : 0 ≤ 5 * i + 1 ∧ 5 * i + 1 < (N : Int) := by omega
      have b2 : 0 ≤ 5 * i + 2 ∧ 5 * i + 2 < (N : Int) := by omega
      have b3 : 0 ≤ 5 * i + 3 ∧ 5 * i + 3 < (N : Int) := by omega
      have b4 : 0 ≤ 5 * i + 4 ∧ 5 * i + 4 < (N : Int) := by omega
      refine ⟨by omega, ?_, ?_, ?_, ?_, ?_, ?_, ?_, ?_, ?_, ?_, ?_, ?_, ?_, ?_, ?_, ?_, ?_, ?_, ?_, ?_, ?_, ?_, ?_, ?_, ?_, ?_, ?_, ?_, ?_, ?_, ?_⟩
      · intro _
        refine ⟨b1, b2, b3, b4, ?_⟩
        refine mo_wp_X_room ?_ (op_room h _ _ _ _)
        intro r s H
        refine ⟨b1, b2, b3, b4, mo_wp_M_room ?_ H⟩
        intro r' s' H'
        exact ⟨fun _ => nx _ s' (by omega) H'.2, fun c => absurd H'.1 c⟩
      · intro _
        refine ⟨b1, b2, b3, ?_⟩
        refine mo_wp_X_road ?_ (op_road (by omega) h _ _ _)
        intro r s H
        refine ⟨b1, b2, b3, mo_wp_M_road ?_ H⟩
        intro r' s' H'
        exact ⟨fun _ => nx _ s' (by omega) H'.2, fun c => absurd H'.1 c⟩
      · intro _
        refine ⟨b1, b2, b3, b4, ?_⟩
        refine mo_wp_X_open ?_ (op_open h _ _ _ _)
        intro r s H
        refine ⟨b1, b2, b3, b4, mo_wp_M_open ?_ H⟩
        intro r' s' H'
        exact ⟨fun _ => nx _ s' (by omega) H'.2, fun c => absurd H'.1 c⟩
      · intro _
        refine ⟨b1, b2, b3, ?_⟩
        refine mo_wp_X_more ?_ (op_more h _ _ _)
        intro r s H
        refine ⟨b1, b2, b3, mo_wp_M_more ?_ H⟩
        intro r' s' H'
        exact ⟨fun _ => nx _ s' (by omega) H'.2, fun c => absurd H'.1 c⟩
      · intro _
        refine ⟨b1, b2, b3, ?_⟩
        refine mo_wp_X_close ?_ (op_close h _ _ _)
        intro r s H
        refine ⟨b1, b2, b3, mo_wp_M_close ?_ H⟩
        intro r' s' H'
        exact ⟨fun _ => nx _ s' (by omega) H'.2, fun c => absurd H'.1 c⟩
      · intro _
        refine ⟨b1, ?_⟩
        refine mo_wp_X_lift ?_ (op_lift h _)
        intro r s H
        refine ⟨b1, mo_wp_M_lift ?_ H⟩
        intro r' s' H'
        exact ⟨fun _ => nx _ s' (by omega) H'.2, fun c => absurd H'.1 c⟩
      · intro _
        refine ⟨b1, b2, ?_⟩
        refine mo_wp_X_traveller ?_ (op_traveller h _ _)
        intro r s H
        refine ⟨b1, b2, mo_wp_M_traveller ?_ H⟩
        intro r' s' H'
        exact ⟨fun _ => nx _ s' (by omega) H'.2, fun c => absurd H'.1 c⟩
      · intro _
        refine ⟨b1, b2, ?_⟩
        refine mo_wp_X_go ?_ (op_go (by omega) h _ _)
        intro r s H
        refine ⟨b1, b2, mo_wp_M_go ?_ H⟩
        intro r' s' H'
        exact ⟨fun _ => nx _ s' (by omega) H'.2, fun c => absurd H'.1 c⟩
      · intro _
        refine ⟨b1, b2, ?_⟩
        refine mo_wp_X_stay ?_ (op_stay h _ _)
        intro r s H
        refine ⟨b1, b2, mo_wp_M_stay ?_ H⟩
        intro r' s' H'
        exact ⟨fun _ => nx _ s' (by omega) H'.2, fun c => absurd H'.1 c⟩
      · intro _
        refine ⟨b1, b2, ?_⟩
        refine mo_wp_X_ofPlace ?_ (op_ofPlace h _ _)
        intro r H
        refine ⟨b1, b2, mo_wp_M_ofPlace ?_ H⟩
        intro r' H'
        exact ⟨fun _ => nx _ σ (by omega) h, fun c => absurd H' c⟩
      · intro _
        refine ⟨b1, b2, ?_⟩
        refine mo_wp_X_ofRoad ?_ (op_ofRoad h _ _)
        intro r H
        refine ⟨b1, b2, mo_wp_M_ofRoad ?_ H⟩
        intro r' H'
        exact ⟨fun _ => nx _ σ (by omega) h, fun c => absurd H' c⟩
      · intro _
        refine ⟨b1, b2, ?_⟩
        refine mo_wp_X_ofClosure ?_ (op_ofClosure h _ _)
        intro r H
        refine ⟨b1, b2, mo_wp_M_ofClosure ?_ H⟩
        intro r' H'
        exact ⟨fun _ => nx _ σ (by omega) h, fun c => absurd H' c⟩
      · intro _
        refine ⟨b1, b2, ?_⟩
        refine mo_wp_X_ofTraveller ?_ (op_ofTraveller h _ _)
        intro r H
        refine ⟨b1, b2, mo_wp_M_ofTraveller ?_ H⟩
        intro r' H'
        exact ⟨fun _ => nx _ σ (by omega) h, fun c => absurd H' c⟩
      · intro _
        refine ⟨b1, ?_⟩
        refine mo_wp_X_count ?_ (op_count h _)
        intro r H
        refine ⟨b1, mo_wp_M_count ?_ H⟩
        intro r' H'
        exact ⟨fun _ => nx _ σ (by omega) h, fun c => absurd H' c⟩
      · intro _
        refine ⟨b1, b2, ?_⟩
        refine mo_wp_X_whyShut ?_ (op_whyShut h _ _)
        intro r H
        refine ⟨b1, b2, mo_wp_M_whyShut ?_ H⟩
        intro r' H'
        exact ⟨fun _ => nx _ σ (by omega) h, fun c => absurd H' c⟩
      · intro _
        refine ⟨b1, b2, b3, ?_⟩
        refine mo_wp_X_earliest ?_ (op_earliest h _ _ _)
        intro r s H
        refine ⟨b1, b2, b3, mo_wp_M_earliest ?_ H⟩
        intro r' s' H'
        exact ⟨fun _ => nx _ s' (by omega) H'.2, fun c => absurd H'.1 c⟩
      · intro _
        refine ⟨b1, b2, b3, ?_⟩
        refine mo_wp_X_latest ?_ (op_latest h _ _ _)
        intro r s H
        refine ⟨b1, b2, b3, mo_wp_M_latest ?_ H⟩
        intro r' s' H'
        exact ⟨fun _ => nx _ s' (by omega) H'.2, fun c => absurd H'.1 c⟩
      · intro _
        refine ⟨b1, b2, b3, b4, ?_⟩
        refine mo_wp_X_way ?_ (op_way h _ _ _ _)
        intro r s H
        refine ⟨b1, b2, b3, b4, mo_wp_M_way ?_ H⟩
        intro r' s' H'
        exact ⟨fun _ => nx _ s' (by omega) H'.2, fun c => absurd H'.1 c⟩
      · intro _
        refine ⟨b1, b2, b3, ?_⟩
        refine mo_wp_X_reach ?_ (op_reach h _ _ _)
        intro r s H
        refine ⟨b1, b2, b3, mo_wp_M_reach ?_ H⟩
        intro r' s' H'
        exact ⟨fun _ => nx _ s' (by omega) H'.2, fun c => absurd H'.1 c⟩
      · intro _
        refine ⟨b1, b2, b3, ?_⟩
        refine mo_wp_X_needed ?_ (op_needed h _ _ _)
        intro r s H
        refine ⟨b1, b2, b3, mo_wp_M_needed ?_ H⟩
        intro r' s' H'
        exact ⟨fun _ => nx _ s' (by omega) H'.2, fun c => absurd H'.1 c⟩
      · intro _
        refine ⟨b1, b2, b3, ?_⟩
        refine mo_wp_X_meet ?_ (op_meet h _ _ _)
        intro r s H
        refine ⟨b1, b2, b3, mo_wp_M_meet ?_ H⟩
        intro r' s' H'
        exact ⟨fun _ => nx _ s' (by omega) H'.2, fun c => absurd H'.1 c⟩
      · intro _
        refine ⟨b1, b2, ?_⟩
        refine mo_wp_X_arrives ?_ (op_arrives h _ _)
        intro r s H
        refine ⟨b1, b2, mo_wp_M_arrives ?_ H⟩
        intro r' s' H'
        exact ⟨fun _ => nx _ s' (by omega) H'.2, fun c => absurd H'.1 c⟩
      · intro _
        refine ⟨b1, ?_⟩
        refine mo_wp_X_canStay ?_ (op_canStay h _)
        intro r H
        refine ⟨b1, mo_wp_M_canStay ?_ H⟩
        intro r' H'
        exact ⟨fun _ => nx _ σ (by omega) h, fun c => absurd H' c⟩
      · intro _
        refine ⟨b1, b2, ?_⟩
        refine mo_wp_X_put ?_ (op_put h _)
        intro r s H
        refine ⟨b1, b2, mo_wp_M_put ?_ H⟩
        intro r' s' H'
        exact ⟨fun _ => nx _ s' (by omega) H'.2, fun c => absurd H'.1 c⟩
      · intro _

        refine mo_wp_X_wipe ?_ (op_wipe h )
        intro r s H
        refine mo_wp_M_wipe ?_ H
        intro r' s' H'
        exact ⟨fun _ => nx _ s' (by omega) H'.2, fun c => absurd H'.1 c⟩
      · intro _

        refine mo_wp_X_fault ?_ (op_fault h )
        intro r s H
        refine mo_wp_M_fault ?_ H
        intro r' s' H'
        exact ⟨fun _ => nx _ s' (by omega) H'.2, fun c => absurd H'.1 c⟩
      · intro _

        refine mo_wp_X_carryOut ?_ (op_carryOut (by omega) h )
        intro r s H
        refine mo_wp_M_carryOut ?_ H
        intro r' s' H'
        exact ⟨fun _ => nx _ s' (by omega) H'.2, fun c => absurd H'.1 c⟩
      · intro _

        refine mo_wp_X_undo ?_ (op_undo h )
        intro r s H
        refine mo_wp_M_undo ?_ H
        intro r' s' H'
        exact ⟨fun _ => nx _ s' (by omega) H'.2, fun c => absurd H'.1 c⟩
      · intro _
        refine ⟨b1, ?_⟩
        refine mo_wp_X_save ?_ (op_save h _)
        intro r s H
        refine ⟨b1, mo_wp_M_save ?_ H⟩
        intro r' s' H'
        exact ⟨fun _ => nx _ s' (by omega) H'.2, fun c => absurd H'.1 c⟩
      · intro _
        refine ⟨b1, ?_⟩
        refine mo_wp_X_restore ?_ (op_restore h _)
        intro r s H
        refine ⟨b1, mo_wp_M_restore ?_ H⟩
        intro r' s' H'
        exact ⟨fun _ => nx _ s' (by omega) H'.2, fun c => absurd H'.1 c⟩
      · exact fun _ => nx _ σ (by omega) h
  refine ⟨N / 5 + 1, ?_⟩
  have := key (N / 5 + 1) zM0 0 (by omega) (by omega) (by omega) Rel_0
  exact this
