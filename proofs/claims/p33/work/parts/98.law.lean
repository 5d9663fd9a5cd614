/-! the start, and the law -/
theorem zM0_a {n : Nat} {j : Int} (h1 : n ≠ 55) (h2 : n ≠ 56) (h3 : ¬ (n < 54 ∧ n % 6 = 1)) : zM0 n j = 0 := by
  unfold zM0
  rw [if_neg h1, if_neg h2, if_neg h3]
theorem zM0_1 (j : Int) : zM0 1 j = zRmI 0 j := by
  unfold zM0
  rw [if_neg (by omega), if_neg (by omega), if_pos (by omega)]
theorem zM0_55 (j : Int) (h0 : 0 ≤ j) (h1 : j < 6) : zM0 55 j = j + 1 := by
  unfold zM0
  rw [if_pos rfl, if_pos ⟨h0, h1⟩]
theorem zM0_56 (j : Int) (h0 : 0 ≤ j) (h1 : j < 2) : zM0 56 j = j + 7 := by
  unfold zM0
  rw [if_neg (by omega), if_pos rfl, if_pos ⟨h0, h1⟩]
theorem zRmI_lo {o j : Int} (h : j < o) : zRmI o j = 0 := by
  unfold zRmI
  rw [if_neg (by omega)]
theorem zRmI_hi {o j : Int} (h : o + 24 ≤ j) : zRmI o j = 0 := by
  unfold zRmI
  rw [if_neg (by omega)]
theorem zRmI_at {o p c : Int} (p0 : 0 ≤ p) (p1 : p < 8) (c0 : 0 ≤ c) (c1 : c < 3) : zRmI o (o + 3 * p + c) = if c = 1 then 1440 else if c = 2 then 1000 else 0 := by
  unfold zRmI
  have e : (o + 3 * p + c - o) % 3 = c := by omega
  rw [if_pos (by omega), e]
/-- the ghost at the start -/
def zT0 : zM := fun n j => if n = 80 then zRmI 3 j else 0
theorem zT0_80 (j : Int) : zT0 80 j = zRmI 3 j := if_pos rfl
theorem zT0_n {n : Nat} (h : n ≠ 80) (j : Int) : zT0 n j = 0 := if_neg h
theorem Inv_0 : Inv 0 zM0 zT0 := by
  have c0 : zT0 80 0 = 0 := by rw [zT0_80]; exact zRmI_lo (by omega)
  have c1 : zT0 80 1 = 0 := by rw [zT0_80]; exact zRmI_lo (by omega)
  have c2 : zT0 80 2 = 0 := by rw [zT0_80]; exact zRmI_lo (by omega)
  have s0 : ∀ j, zT0 79 j = 0 := fun j => zT0_n (by omega) j
  have s3 : ∀ j, zT0 83 j = 0 := fun j => zT0_n (by omega) j
  refine ⟨?_, zM0_a (by omega) (by omega) (by omega), fun i hi => ?_, ?_, fun i i0 i1 => ?_, fun s _ _ e => ?_⟩
  rotate_left
  · rw [zT0_80]
    rcases hi with hi | hi
    · exact zRmI_lo (by omega)
    · exact zRmI_hi (by omega)
  · unfold OKS
    rw [c0, c2]; rfl
  · rw [s0] at i1; omega
  · rw [s3] at e; omega
  refine ⟨⟨⟨?_, ?_, ?_⟩, fun p c p0 p1 c0 c1 => ?_, fun r r0 r1 => ?_, fun c j j0 j1 => ?_, fun t j j0 j1 => ?_⟩, ⟨?_, fun i i0 i1 => ?_, fun i j i0 i1 j0 j1 e => ?_, fun i i0 i1 => ?_⟩, ⟨?_, ?_, fun s _ _ => ?_, fun e => ?_, fun e => ?_⟩, ⟨?_, ?_, fun i i0 i1 => ?_⟩, XG_0 ?_, ⟨⟨?_, ?_, ?_, fun p p0 p1 => ?_, fun r r0 r1 => ?_, fun c j0 j1 => ?_, fun t j0 j1 => ?_⟩, ?_, fun i i0 i1 => ?_, fun s _ _ => ⟨Or.inl ?_, fun e => ?_⟩, ?_, fun i i0 i1 => ?_⟩, ?_⟩
  · rw [c0]; exact zM0_a (by omega) (by omega) (by omega)
  · rw [c1]; exact zM0_a (by omega) (by omega) (by omega)
  · rw [c2]; exact zM0_a (by omega) (by omega) (by omega)
  · show zM0 1 (p * 3 + c) = zT0 80 (3 + 3 * p + c)
    rw [zM0_1, zT0_80, zRmI_at p0 p1 c0 c1, show p * 3 + c = 0 + 3 * p + c by omega, zRmI_at p0 p1 c0 c1]
  · rw [c0] at r1; omega
  · rw [c1] at j1; omega
  · rw [c2] at j1; omega
  · rw [s0]; exact zM0_a (by omega) (by omega) (by omega)
  · rw [zM0_55 i i0 i1]; omega
  · rw [zM0_55 i i0 i1, zM0_55 j j0 j1] at e; omega
  · rw [s0] at i1; omega
  · exact zM0_56 0 (by omega) (by omega)
  · exact zM0_56 1 (by omega) (by omega)
  · rw [s3]; exact zM0_a (by omega) (by omega) (by omega)
  · rw [s3] at e; omega
  · rw [s3] at e; omega
  · rw [s0]; exact zM0_a (by omega) (by omega) (by omega)
  · rw [s0]; exact zM0_a (by omega) (by omega) (by omega)
  · rw [s0] at i1; omega
  · exact zM0_a (by omega) (by omega) (by omega)
  · rw [c0]; omega
  · rw [c1]; omega
  · rw [c2]; omega
  · rw [zT0_80, zT0_80, zT0_80, zRmI_at p0 p1 (by omega) (by omega), zRmI_at p0 p1 (by omega) (by omega), zRmI_at p0 p1 (by omega) (by omega), if_neg (by decide), if_neg (by decide), if_pos rfl, if_neg (by decide), if_pos rfl]
    omega
  · rw [c0] at r1; omega
  · rw [c1] at j1; omega
  · rw [c2] at j1; omega
  · rw [s0]; omega
  · rw [s0] at i1; omega
  · exact s3 s
  · rw [s3] at e; omega
  · rw [s0]; omega
  · rw [s0] at i1; omega
  · exact zM0_a (by omega) (by omega) (by omega)
/-- what stands behind a turn's own checks -/
theorem L_b258 {scr : Nat → Int32} {N : Nat} {T : Int} {K : zM → Int → Prop} {P : Int → zM → Prop} {B v3 : Int} (h0 : 0 ≤ B) (hB : B ≤ 1000) (w0 : 0 ≤ v3) (w1 : v3 ≤ 1000) (k : ∀ σ τ, Inv (B + 3) σ τ → K σ (v3 + 1)) {σ τ : zM} (h : Inv B σ τ) (x a b : Int) : wp_L_law_b258 scr N T K P σ v3 x a b := by
  have b352 : ∀ (B' : Int) (σ τ : zM), 0 ≤ B' → B' ≤ B + 3 → Inv B' σ τ → wp_L_law_b352 scr N T K P σ v3 := by
    intro B' σ τ g0 g1 i
    unfold wp_L_law_b352
    exact L_areRight g0 (by omega) i ⟨fun _ => ⟨zRi (by omega) (by omega), k σ τ (Inv_mono g1 i)⟩, fun c => absurd c (by decide)⟩
  have b314 : ∀ (B' : Int) (σ τ : zM), 0 ≤ B' → B' ≤ B + 2 → Inv B' σ τ → wp_L_law_b314 scr N T K P σ v3 x a b := by
    intro B' σ τ g0 g1 i
    unfold wp_L_law_b314
    refine ⟨fun _ => b352 B' σ τ g0 (by omega) i, fun _ => L_up (by decide) (L_up (by decide) ?_)⟩
    have u1 := uP_rg (zShr a 4) (m := 4) (by decide)
    have u2 := uP_rg (zShr b 4) (m := 200) (by decide)
    exact ⟨zRi (by omega) (by omega), L_dueStay i u1.1 (by omega) (by omega) (fun σ2 τ2 i2 => ⟨fun c => absurd c (by decide), fun _ => b352 (B' + 1) σ2 τ2 (by omega) (by omega) i2⟩)⟩
  have b277 : ∀ (B' : Int) (σ τ : zM), 0 ≤ B' → B' ≤ B + 1 → Inv B' σ τ → wp_L_law_b277 scr N T K P σ v3 x a b := by
    intro B' σ τ g0 g1 i
    unfold wp_L_law_b277
    refine ⟨fun _ => b314 B' σ τ g0 (by omega) i, fun _ => L_up (by decide) (L_up (by decide) ?_)⟩
    have u1 := uP_rg (zShr a 4) (m := 4) (by decide)
    have u2 := uP_rg (zShr b 4) (m := 6) (by decide)
    exact L_dueGo (by omega) i u1.1 u2.1 (fun σ2 τ2 i2 => ⟨fun _ => b314 (B' + 1) σ2 τ2 (by omega) (by omega) i2, fun c => absurd c (by decide)⟩)
  unfold wp_L_law_b258
  exact ⟨fun _ => b277 B σ τ h0 (by omega) h, fun _ => L_isSaved h0 (by omega) h a b (fun σ2 τ2 i2 => ⟨fun c => absurd c (by decide), fun _ => b277 (B + 1) σ2 τ2 (by omega) (by omega) i2⟩)⟩
theorem law_loop (scr : Nat → Int32) (N : Nat) (hN : N ≤ 260) {T : Int} (t0 : 0 ≤ T) (t1 : T ≤ 36) (t3 : 3 * T ≤ N) (P : Int → zM → Prop) : ∃ n, wp_L_law_L29 scr N T P n zM0 0 := by
  have key : ∀ (k : Nat) (σ τ : zM) (i : Int), 0 ≤ i → i ≤ T → T - i < k → Inv (5 * i) σ τ → wp_L_law_L29 scr N T P k σ i := by
    intro k
    induction k with
    | zero => intro σ τ i i0 i1 i2; omega
    | succ k ih =>
      intro σ τ i i0 i1 i2 h
      rw [wp_L_law_L29]
      refine ⟨fun _ => rfl, fun c => ⟨zRi (by omega) (by omega), by omega, zRi (by omega) (by omega), by omega, zRi (by omega) (by omega), by omega, ?_⟩⟩
      have hA := h.1.2.2.2.2.2.1.1
      have n6 := h.1.2.2.2.2.2.1.2.1
      have nx : ∀ σ' τ', Inv (5 * i + 5) σ' τ' → wp_L_law_L29 scr N T P k σ' (i + 1) := fun σ' τ' i' => ih σ' τ' (i + 1) (by omega) (by omega) (by omega) (by rw [show 5 * (i + 1) = 5 * i + 5 by omega]; exact i')
      have rest : ∀ (B' : Int) (σ' τ' : zM) (x a b : Int), 0 ≤ B' → B' ≤ 5 * i + 2 → Inv B' σ' τ' → wp_L_law_b258 scr N T (wp_L_law_L29 scr N T P k) P σ' i x a b := fun B' σ' τ' x a b g0 g1 i' =>
        L_b258 g0 (by omega) i0 (by omega) (fun σ2 τ2 j2 => nx σ2 τ2 (Inv_mono (by omega) j2)) i' x a b
      refine L_view h.1.1 hA (R_his h.1 (R_rsn h.1 (L_turn (by omega) (by omega) h _ _ _ ?_)))
      generalize hw : zAnd (zSx scr (3 * i)) 15 = w
      generalize zSx scr (3 * i) = x
      generalize zSx scr (3 * i + 1) = a
      generalize zSx scr (3 * i + 2) = b
      refine ⟨fun c1 c2 => ⟨fun cc => by omega, fun _ => ⟨fun _ => ?_, fun cc => absurd cc c2⟩⟩, fun c1 w' σ1 w1 w7 j => ?_, fun c1 σ1 τ1 ch j => ⟨fun _ => ?_, fun cc => absurd c1 cc⟩⟩
      · unfold wp_L_law_b121
        refine L_view h.1.1 hA ⟨fun cc => absurd (zLcmp_rfl _) cc, fun _ => R_his h.1 ⟨fun cc => absurd rfl cc, fun _ => ?_⟩⟩
        unfold wp_L_law_b148
        refine ⟨fun cc => absurd cc (by decide), fun _ => ⟨fun _ => R_rsn h.1 ⟨fun _ => ?_, fun cc => absurd rfl cc⟩, fun cc => absurd rfl cc⟩⟩
        unfold wp_L_law_b194
        exact rest _ σ τ _ _ _ (by omega) (show 5 * i ≤ 5 * i + 2 by omega) h
      · refine ⟨fun cc => absurd cc (by decide), fun _ => ⟨fun cc => absurd rfl cc, fun _ => ?_⟩⟩
        have e80 : zU τ 79 5 w' 80 = τ 80 := zU_n (by omega)
        have e4 : zU τ 79 5 w' 79 4 = τ 79 4 := zU_j (by omega)
        have e5 : zU τ 79 5 w' 79 5 = w' := zU_s
        unfold wp_L_law_b121
        refine L_view j.1.1 j.1.2.2.2.2.2.1.1 ⟨fun cc => absurd (by rw [e80]; exact zLcmp_rfl _) cc, fun _ => R_his j.1 ⟨fun cc => absurd e4 cc, fun _ => ?_⟩⟩
        unfold wp_L_law_b148
        refine ⟨fun cc => absurd cc (by decide), fun _ => ⟨fun cc => absurd cc (by decide), fun _ => R_rsn j.1 ⟨fun cc => by omega, fun _ => R_rsn j.1 ⟨fun _ => ?_, fun cc => by omega⟩⟩⟩⟩
        unfold wp_L_law_b194
        exact rest _ σ1 _ _ _ _ (by omega) (show 5 * i ≤ 5 * i + 2 by omega) j
      · have e4 : τ1 79 4 = if τ 79 4 < 6 then τ 79 4 + 1 else 6 := by rw [ch 79 (by omega) (by omega)]; exact mRec_4 (by omega)
        have e5 : τ1 79 5 = τ 79 5 := by rw [ch 79 (by omega) (by omega), mRec_k (by omega)]
        have main : ∀ s : Int, τ1 79 4 = s → wp_L_law_b218 scr N T (wp_L_law_L29 scr N T P k) P σ1 i x w a b (VW (τ 80)) (τ 79 5) (rTurn (τ 80) w a b) (τ1 79 4) s := by
          intro s hs
          unfold wp_L_law_b218
          refine ⟨fun cc => absurd hs cc, fun _ => R_rsn j.1 ⟨fun cc => absurd e5 cc, fun _ => ⟨fun _ => rest _ σ1 τ1 _ _ _ (by omega) (show 5 * i + 1 ≤ 5 * i + 2 by omega) j, fun _ => ?_⟩⟩⟩
          refine L_isUndone (R := τ 80) (by omega) (by omega) j ?_ (fun q q0 q1 => ?_) h.2.2.1 w a b rfl c1 rfl (fun σ2 τ2 j2 => ⟨fun _ => rest _ σ2 τ2 _ _ _ (by omega) (show 5 * i + 1 + 1 ≤ 5 * i + 2 by omega) j2, fun cc => absurd cc (by decide)⟩)
          · rw [e4]; split <;> omega
          · rw [ch 79 (by omega) (by omega), ch 81 (by omega) (by omega)]
            exact mRec_last (by omega) q0 q1
        refine R_his j.1 ⟨fun cc => main 6 (by rw [e4, if_neg (by omega)]), fun cc => ⟨zRi (by omega) (by omega), main _ (by rw [e4, if_pos (by omega)])⟩⟩
  exact ⟨T.toNat + 1, key _ zM0 zT0 0 (by omega) t0 (by omega) Inv_0⟩
theorem law_ok : ∀ (scr : Nat → Int32) (N : Nat), N ≤ 260 → wp_L_law_b8 scr N (fun _ _ => True) zM0 := by
  intro scr N hN
  unfold wp_L_law_b8 wp_L_law_b26
  exact ⟨by omega, fun c => law_loop scr N hN (by omega) (by omega) (by omega) _, fun c => ⟨by omega, law_loop scr N hN (by omega) (by omega) (by omega) _⟩⟩
