/-! the lowest of a set of places -/
theorem zB_255 : ∀ k : Fin 32, zB 255 (k.val : Int) = decide (k.val < 8) := by decide +kernel
theorem zAnd_255 (x : Int) : ∃ n : Nat, n < 256 ∧ zAnd x 255 = (n : Int) := by
  have hm : (zI x &&& zI 255).toBitVec.toNat = (zI x).toBitVec.toNat % 256 := by
    rw [Int32.toBitVec_and, BitVec.toNat_and, zI_toNat (x := 255) (by omega) (by omega)]
    exact Nat.and_two_pow_sub_one_eq_mod _ 8
  refine ⟨(zI x).toBitVec.toNat % 256, by omega, ?_⟩
  show (zI x &&& zI 255).toInt = _
  rw [Int32.toInt, BitVec.toInt_eq_toNat_cond, hm, if_pos (by omega)]
theorem z_small {x : Int} (hx : zR x) (h : ∀ k : Int, 8 ≤ k → k < 32 → zB x k = false) : ∃ n : Nat, n < 256 ∧ x = (n : Int) := by
  obtain ⟨n, hn, e⟩ := zAnd_255 x
  refine ⟨n, hn, ?_⟩
  rw [← e]
  refine zB_ext hx (zAnd_rg _ _) (fun k k0 k1 => ?_)
  obtain ⟨j, rfl⟩ := Int.eq_ofNat_of_zero_le k0
  have := zB_255 ⟨j, by omega⟩
  simp only at this
  rw [zB_and, this]
  by_cases hj : j < 8
  · simp [hj]
  · rw [h j (by omega) k1]; rfl
def lw2 (x : Int) : Int := (zAnd x (-x) - 1) - zAnd (zUshr (zAnd x (-x) - 1) 1) 1431655765
def lw4 (x : Int) : Int := zAnd (lw2 x) 858993459 + zAnd (zUshr (lw2 x) 2) 858993459
def lw5 (x : Int) : Int := zAnd (lw4 x + zUshr (lw4 x) 4) 252645135
def lw8 (x : Int) : Int := (lw5 x + zUshr (lw5 x) 8) + zUshr (lw5 x + zUshr (lw5 x) 8) 16
def lwOk (x : Int) : Bool := decide (-2147483648 ≤ zAnd x (-x) - 1 ∧ zAnd x (-x) - 1 ≤ 2147483647) && decide (-2147483648 ≤ lw2 x ∧ lw2 x ≤ 2147483647) && decide (-2147483648 ≤ lw4 x ∧ lw4 x ≤ 2147483647) && decide (-2147483648 ≤ lw5 x + zUshr (lw5 x) 8 ∧ lw5 x + zUshr (lw5 x) 8 ≤ 2147483647) && decide (-2147483648 ≤ lw8 x ∧ lw8 x ≤ 2147483647) && decide (0 ≤ zAnd (lw8 x) 63 ∧ zAnd (lw8 x) 63 < 8) && zB x (zAnd (lw8 x) 63) && decide (∀ j : Fin 8, (j.val : Int) < zAnd (lw8 x) 63 → zB x (j.val : Int) = false)
theorem lw_all : ∀ n : Fin 256, n.val ≠ 0 → lwOk (n.val : Int) = true := by decide +kernel
theorem X_lowest {σ : zM} {x : Int} {Q : Int → Prop} (hx : zR x) (h0 : x ≠ 0) (h : ∀ k : Int, 8 ≤ k → k < 32 → zB x k = false) (kk : ∀ p, 0 ≤ p → p < 8 → zB x p = true → (∀ j, 0 ≤ j → j < p → zB x j = false) → Q p) : wp_X_lowest σ x Q := by
  obtain ⟨n, hn, rfl⟩ := z_small hx h
  have ok := lw_all ⟨n, hn⟩ (fun c => h0 (by simp only at c; omega))
  simp only [lwOk, Bool.and_eq_true, decide_eq_true_eq] at ok
  obtain ⟨⟨⟨⟨⟨⟨⟨o1, o2⟩, o3⟩, o4⟩, o5⟩, o6⟩, o7⟩, o8⟩ := ok
  unfold wp_X_lowest wp_In_bitCount
  refine ⟨o1, o2, ?_⟩
  rintro _ rfl
  refine ⟨o3, ?_⟩
  rintro _ rfl _ rfl
  refine ⟨o4, o5, ?_⟩
  rintro _ rfl
  refine kk _ o6.1 o6.2 o7 (fun j j0 j1 => ?_)
  obtain ⟨i, rfl⟩ := Int.eq_ofNat_of_zero_le j0
  have := o6.2
  exact o8 ⟨i, by unfold lw8 lw5 lw4 lw2 at this; omega⟩ j1
/-! meet -/
/-- the first minute, and of it the lowest place, at which both are -/
def MT (P : Int → Int → Prop) (w r : Int) : Prop := (r = -6 ∧ ∀ t, t ≤ 2880 → ∀ p, ¬ P p t) ∨ ∃ t p, 0 ≤ t ∧ t ≤ 2880 ∧ 0 ≤ p ∧ p < 8 ∧ P p t ∧ (∀ s q, s < t → ¬ P q s) ∧ (∀ q, 0 ≤ q → q < p → ¬ P q t) ∧ r = if w = 0 then t else p
theorem MT_uniq {P : Int → Int → Prop} {w a b : Int} (h : MT P w a) (g : MT P w b) : a = b := by
  rcases h with ⟨h1, h2⟩ | ⟨t, p, h0, h1, h2, h3, h4, h5, h6, h7⟩ <;> rcases g with ⟨g1, g2⟩ | ⟨s, q, g0, g1, g2, g3, g4, g5, g6, g7⟩
  · omega
  · exact absurd g4 (h2 s g1 q)
  · exact absurd h4 (g2 t h1 p)
  · have e1 : t = s := by
      apply Classical.byContradiction
      intro hne
      by_cases hl : t < s
      · exact g5 t p hl h4
      · exact h5 s q (by omega) g4
    subst e1
    have e2 : p = q := by
      apply Classical.byContradiction
      intro hne
      by_cases hl : p < q
      · exact g6 p h2 hl h4
      · exact h6 q g2 (by omega) g4
    subst e2
    rw [h7, g7]
theorem op_meet {B : Int} {σ : zM} (h : Rel B σ) (a b c : Int) : wp_X_meet σ a b c (fun r σ1 => wp_M_meet σ1 a b c (fun r' σ2 => r = r' ∧ Rel B σ2)) := by
  have hA := h.2.2.2.2.2.1.1
  have e7 : σ 0 7 = σ 80 2 := h.1.1.2.2
  have bb := hA.2.2.1
  by_cases h1 : 0 ≤ a ∧ a < σ 80 2
  rotate_left
  · simp [wp_X_meet, wp_M_meet, S_hasTraveller, M_isTraveller bb.1 bb.2, e7, h1, h]
  by_cases h2 : 0 ≤ b ∧ b < σ 80 2
  rotate_left
  · simp [wp_X_meet, wp_M_meet, S_hasTraveller, M_isTraveller bb.1 bb.2, e7, h1, h2, h]
  by_cases h3 : 0 ≤ c ∧ c ≤ 1
  rotate_left
  · simp [wp_X_meet, wp_M_meet, S_hasTraveller, M_isTraveller bb.1 bb.2, X_within, M_isIn, e7, h1, h2, h3, h]
  obtain ⟨t0, t1, t2, t3, t4, t5⟩ := hA.2.2.2.2.2.2 a h1.1 h1.2
  obtain ⟨s0, s1, s2, s3, s4, s5⟩ := hA.2.2.2.2.2.2 b h2.1 h2.2
  have hrg := sL_rg hA h1.1 h1.2
  have hrg2 := sL_rg hA h2.1 h2.2
  unfold wp_X_meet
  simp only [S_hasTraveller, X_within, e7, zIf1, h1, h2, h3, true_and, not_true, not_false_eq_true, false_implies, true_implies, and_true, and_self]
  have mside : ∀ (σ1 : zM) (Q : Int → zM → Prop), σ1 80 = σ 80 → (∀ res τ, (∀ n, n < 85 → τ n = σ1 n) → MT (fun p t => wH (σ 80) (σ 80 (375 + 8 * a + 0)) (σ 80 (375 + 8 * a + 1)) (σ 80 (375 + 8 * a + 2)) (-6) p t ∧ wH (σ 80) (σ 80 (375 + 8 * b + 0)) (σ 80 (375 + 8 * b + 1)) (σ 80 (375 + 8 * b + 2)) (-6) p t) c res → Q res τ) → wp_M_meet σ1 a b c Q := by
    intro σ1 Q e80 kk
    unfold wp_M_meet
    rw [M_isTraveller (by rw [e80]; exact bb.1) (by rw [e80]; exact bb.2), M_isTraveller (by rw [e80]; exact bb.1) (by rw [e80]; exact bb.2), e80]
    simp only [M_isIn, zIf1, h1, h2, h3, true_and, not_true, not_false_eq_true, false_implies, true_implies, and_true, and_self]
    unfold wp_M_spreadsFrom
    rw [M_ofT (by omega) (by omega), M_ofT (by omega) (by omega), M_ofT (by omega) (by omega), e80]
    refine M_spreads hA e80 s0 (by omega) (by omega) (fun τ1 fs1 ms1 => ?_)
    refine zFor (fun σ' v => 0 ≤ v ∧ (∀ n, n ≠ 87 → σ' n = τ1 n) ∧ ∀ u, 0 ≤ u → u < v → σ' 87 u = τ1 86 u) 2881 ?_ τ1 0 ⟨by omega, fun _ _ => rfl, fun u u0 u1 => by omega⟩ (by omega)
    intro m σ' v hI hv ih
    obtain ⟨v0, fr, cp⟩ := hI
    rw [wp_M_meet_L38]
    refine ⟨fun cc => ?_, fun cc => ⟨by omega, by omega, ?_⟩⟩
    rotate_left
    · rintro _ rfl
      refine ⟨zRi (by omega) (by omega), ih _ ⟨by omega, fun n hn => by rw [zU_n hn]; exact fr n hn, fun u u0 u1 => ?_⟩ (by omega)⟩
      rw [zU_g]
      by_cases hu : u = v
      · rw [if_pos hu, fr 86 (by omega), hu]
      · rw [if_neg hu]; exact cp u u0 (by omega)
    have e80' : σ' 80 = σ 80 := by rw [fr 80 (by omega), fs1 80 (by omega) (by omega) (by omega), e80]
    rw [M_ofT (by omega) (by omega), M_ofT (by omega) (by omega), M_ofT (by omega) (by omega), e80']
    refine M_spreads hA e80' t0 (by omega) (by omega) (fun τ2 fs2 ms2 => ?_)
    have e87 : ∀ u, 0 ≤ u → u ≤ 2880 → τ2 87 u = τ1 86 u := fun u u0 u1 => by rw [fs2 87 (by omega) (by omega) (by omega)]; exact cp u u0 (by omega)
    have bits : ∀ u, 0 ≤ u → u ≤ 2880 → ∀ k, 0 ≤ k → k < 32 → (zB (zAnd (τ2 86 u) (τ2 87 u)) k = true ↔ wH (σ 80) (σ 80 (375 + 8 * a + 0)) (σ 80 (375 + 8 * a + 1)) (σ 80 (375 + 8 * a + 2)) (-6) k u ∧ wH (σ 80) (σ 80 (375 + 8 * b + 0)) (σ 80 (375 + 8 * b + 1)) (σ 80 (375 + 8 * b + 2)) (-6) k u) := fun u u0 u1 k k0 k1 => by
      rw [zB_and, Bool.and_eq_true, e87 u u0 u1, ms2.2 u u0 u1 k k0 k1, ms1.2 u u0 u1 k k0 k1]
    have hm : ∀ n, n < 85 → τ2 n = σ1 n := fun n hn => by rw [fs2 n (by omega) (by omega) (by omega), fr n (by omega), fs1 n (by omega) (by omega) (by omega)]
    refine zFor0 (fun t => 0 ≤ t ∧ ∀ s q, s < t → ¬ (wH (σ 80) (σ 80 (375 + 8 * a + 0)) (σ 80 (375 + 8 * a + 1)) (σ 80 (375 + 8 * a + 2)) (-6) q s ∧ wH (σ 80) (σ 80 (375 + 8 * b + 0)) (σ 80 (375 + 8 * b + 1)) (σ 80 (375 + 8 * b + 2)) (-6) q s)) 2881 ?_ 0 ⟨by omega, fun s q hs cc => by have := wH_rg hA t0 (by omega) cc.1; omega⟩ (by omega)
    intro n t hI2 ht ih2
    obtain ⟨tt0, hno⟩ := hI2
    rw [wp_M_meet_L74]
    refine ⟨fun c1 => kk (-6) τ2 hm (Or.inl ⟨rfl, fun s hs q => hno s q (by omega)⟩), fun c1 => ?_⟩
    refine zFor0 (fun p => 0 ≤ p ∧ ∀ q, 0 ≤ q → q < p → ¬ (wH (σ 80) (σ 80 (375 + 8 * a + 0)) (σ 80 (375 + 8 * a + 1)) (σ 80 (375 + 8 * a + 2)) (-6) q t ∧ wH (σ 80) (σ 80 (375 + 8 * b + 0)) (σ 80 (375 + 8 * b + 1)) (σ 80 (375 + 8 * b + 2)) (-6) q t)) 8 ?_ 0 ⟨by omega, fun q q0 q1 => by omega⟩ (by omega)
    intro n2 p hI3 hp ih3
    obtain ⟨p0, hnp⟩ := hI3
    rw [wp_M_meet_L85]
    refine ⟨fun c2 => ⟨zRi (by omega) (by omega), ih2 ⟨by omega, fun s q hs cc => ?_⟩ (by omega)⟩, fun c2 => ⟨by omega, by omega, ?_⟩⟩
    · by_cases hst : s = t
      · subst hst
        have := wH_rg hA t0 (by omega) cc.1
        exact hnp q this.2.1 (by omega) cc
      · exact hno s q (by omega) cc
    rw [M_has p0 (by omega)]
    have hb := bits t tt0 (by omega) p p0 (by omega)
    refine ⟨fun c3 => ⟨zRi (by omega) (by omega), ih3 ⟨by omega, fun q q0 q1 cc => ?_⟩ (by omega)⟩, fun c3 => ?_⟩
    · rw [zIf1, hb] at c3
      by_cases hqp : q = p
      · subst hqp; exact c3 cc
      · exact hnp q q0 (by omega) cc
    · rw [zIf1, Classical.not_not, hb] at c3
      refine ⟨fun w0 => kk p τ2 hm (Or.inr ⟨t, p, tt0, by omega, p0, by omega, c3, hno, hnp, by rw [if_neg w0]⟩), fun w0 => kk t τ2 hm (Or.inr ⟨t, p, tt0, by omega, p0, by omega, c3, hno, hnp, by rw [if_pos w0]⟩)⟩
  refine G_prepare h.1 hA h.2.2.2.2.1 (fun σ1 f1 g1 tab => ?_)
  have wq1 : WQ (σ 80) σ σ1 := ⟨fun n hn => f1 n (by omega) (by omega), g1, tab⟩
  have hR1 := WQ_RX wq1 h.1
  rw [S_ofT' hR1 h1.1 h1.2 bb.2 (by omega) (by omega), S_ofT' hR1 h2.1 h2.2 bb.2 (by omega) (by omega), S_ofT' hR1 h1.1 h1.2 bb.2 (by omega) (by omega)]
  refine S_stayLeft hR1 hA h1.1 h1.2 ⟨zRi (by omega) (by omega), ?_⟩
  refine O_start (w := -6) (c0 := σ 80 (375 + 8 * a + 2)) (t0 := σ 80 (375 + 8 * a + 1)) hA t0 (by omega) (sT_sL hA h1.1 h1.2) (fun σ2 f2 oi => ?_)
  have wq2 : WQ (σ 80) σ σ2 := WQ_o wq1 (fun n hn => f2 n (by omega) (by omega))
  have hR2 := WQ_RX wq2 h.1
  rw [S_ofT' hR2 h2.1 h2.2 bb.2 (by omega) (by omega)]
  refine S_stayLeft hR2 hA h2.1 h2.2 ⟨zRi (by omega) (by omega), ?_⟩
  refine O_start (w := -6) (c0 := σ 80 (375 + 8 * b + 2)) (t0 := σ 80 (375 + 8 * b + 1)) hA s0 (by omega) (sT_sL hA h2.1 h2.2) (fun σ3 f3 oj => ?_)
  have wq3 : WQ (σ 80) σ σ3 := WQ_o wq2 (fun n hn => f3 n (by omega) (by omega))
  have OIc : ∀ {o : Nat} {p0 t0 c0 : Int} {x y : zM} {t : Int}, y (o + 1) = x (o + 1) → y (o + 2) = x (o + 2) → OI (σ 80) p0 t0 c0 (-6) o x t → OI (σ 80) p0 t0 c0 (-6) o y t := by
    intro o p0 t0 c0 x y t e1 e2 hh
    unfold OI at *
    rw [e1, e2]; exact hh
  have oi3 : OI (σ 80) (σ 80 (375 + 8 * a + 0)) (σ 80 (375 + 8 * a + 1)) (σ 80 (375 + 8 * a + 2)) (-6) 64 σ3 (σ 80 (375 + 8 * a + 1)) := OIc (f3 65 (by omega) (by omega)) (f3 66 (by omega) (by omega)) oi
  refine zFor (fun σ' t => min (σ 80 (375 + 8 * a + 1)) (σ 80 (375 + 8 * b + 1)) ≤ t ∧ WQ (σ 80) σ σ' ∧ OI (σ 80) (σ 80 (375 + 8 * a + 0)) (σ 80 (375 + 8 * a + 1)) (σ 80 (375 + 8 * a + 2)) (-6) 64 σ' (max t (σ 80 (375 + 8 * a + 1))) ∧ OI (σ 80) (σ 80 (375 + 8 * b + 0)) (σ 80 (375 + 8 * b + 1)) (σ 80 (375 + 8 * b + 2)) (-6) 67 σ' (max t (σ 80 (375 + 8 * b + 1))) ∧ ∀ s q, s < t → ¬ (wH (σ 80) (σ 80 (375 + 8 * a + 0)) (σ 80 (375 + 8 * a + 1)) (σ 80 (375 + 8 * a + 2)) (-6) q s ∧ wH (σ 80) (σ 80 (375 + 8 * b + 0)) (σ 80 (375 + 8 * b + 1)) (σ 80 (375 + 8 * b + 2)) (-6) q s)) 2881 ?_ σ3 _ ⟨Int.le_refl _, wq3, by rw [show max (min (σ 80 (375 + 8 * a + 1)) (σ 80 (375 + 8 * b + 1))) (σ 80 (375 + 8 * a + 1)) = σ 80 (375 + 8 * a + 1) by omega]; exact oi3, by rw [show max (min (σ 80 (375 + 8 * a + 1)) (σ 80 (375 + 8 * b + 1))) (σ 80 (375 + 8 * b + 1)) = σ 80 (375 + 8 * b + 1) by omega]; exact oj, fun s q hs cc => by have := wH_rg hA t0 (by omega) cc.1; have := wH_rg hA s0 (by omega) cc.2; omega⟩ (by omega)
  intro n σ' t hI ht ih
  obtain ⟨tt0, wq, i1, i2, hno⟩ := hI
  rw [wp_X_meet_L132]
  refine ⟨fun cc => mside σ' _ (wq.1 80 (by omega)) (fun res τ hm mt => ⟨MT_uniq (Or.inl ⟨rfl, fun s hs q => hno s q (by omega)⟩) mt, Rel_way h wq hm⟩), fun cc => ?_⟩
  rw [G_at (by omega) (by omega)]
  have hb0 := hA.1
  have us : ∀ σ4, WQ (σ 80) σ σ4 → ∀ r, 0 ≤ r → r < σ 80 0 → (zB (σ4 63 t) r = true ↔ uR (σ 80) (-6) r t) := fun σ4 wq4 r r0 r1 => by
    rw [wq4.2.2 t (by omega) (by omega) r r0 (by omega)]
    exact ⟨fun hh => ⟨⟨r0, r1⟩, by omega, hh.2⟩, fun hh => ⟨r1, hh.2.2⟩⟩
  -- both are known
  have fin : ∀ (σ4 : zM) (x y : Int), WQ (σ 80) σ σ4 → OI (σ 80) (σ 80 (375 + 8 * a + 0)) (σ 80 (375 + 8 * a + 1)) (σ 80 (375 + 8 * a + 2)) (-6) 64 σ4 (max (t + 1) (σ 80 (375 + 8 * a + 1))) → OI (σ 80) (σ 80 (375 + 8 * b + 0)) (σ 80 (375 + 8 * b + 1)) (σ 80 (375 + 8 * b + 2)) (-6) 67 σ4 (max (t + 1) (σ 80 (375 + 8 * b + 1))) → (∀ k, 0 ≤ k → k < 32 → (zB x k = true ↔ wH (σ 80) (σ 80 (375 + 8 * a + 0)) (σ 80 (375 + 8 * a + 1)) (σ 80 (375 + 8 * a + 2)) (-6) k t)) → (∀ k, 0 ≤ k → k < 32 → (zB y k = true ↔ wH (σ 80) (σ 80 (375 + 8 * b + 0)) (σ 80 (375 + 8 * b + 1)) (σ 80 (375 + 8 * b + 2)) (-6) k t)) → wp_X_meet_b205 c (σ 80 (375 + 8 * a + 1)) (σ 80 (375 + 8 * b + 1)) (wp_X_meet_L132 c (σ 80 (375 + 8 * a + 1)) (σ 80 (375 + 8 * b + 1)) (fun r σ1 => wp_M_meet σ1 a b c (fun r' σ2 => r = r' ∧ Rel B σ2)) n) (fun r σ1 => wp_M_meet σ1 a b c (fun r' σ2 => r = r' ∧ Rel B σ2)) σ4 t x y := by
    intro σ4 x y wq4 j1 j2 hx hy
    have hxy : ∀ k, 0 ≤ k → k < 32 → (zB (zAnd x y) k = true ↔ wH (σ 80) (σ 80 (375 + 8 * a + 0)) (σ 80 (375 + 8 * a + 1)) (σ 80 (375 + 8 * a + 2)) (-6) k t ∧ wH (σ 80) (σ 80 (375 + 8 * b + 0)) (σ 80 (375 + 8 * b + 1)) (σ 80 (375 + 8 * b + 2)) (-6) k t) := fun k k0 k1 => by
      rw [zB_and, Bool.and_eq_true, hx k k0 k1, hy k k0 k1]
    have hhi : ∀ k : Int, 8 ≤ k → k < 32 → zB (zAnd x y) k = false := fun k k0 k1 => by
      rw [Bool.eq_false_iff]
      intro hc
      have := wH_rg hA t0 (by omega) ((hxy k (by omega) k1).1 hc).1
      omega
    refine ⟨fun z0 => ⟨zRi (by omega) (by omega), ih σ4 ⟨by omega, wq4, j1, j2, fun s q hs hc => ?_⟩ (by omega)⟩, fun z0 => ?_⟩
    · by_cases hst : s = t
      · subst hst
        have := wH_rg hA t0 (by omega) hc.1
        have := (hxy q this.2.1 (by omega)).2 hc
        rw [z0, zB_0] at this
        cases this
      · exact hno s q (by omega) hc
    · refine ⟨fun w0 => X_lowest (zAnd_rg _ _) z0 hhi (fun p p0 p1 hp hlo => ?_), fun w0 => ?_⟩
      · refine mside σ4 _ (wq4.1 80 (by omega)) (fun res τ hm mt => ⟨MT_uniq (Or.inr ⟨t, p, by omega, by omega, p0, p1, (hxy p p0 (by omega)).1 hp, hno, fun q q0 q1 hc => ?_, by rw [if_neg w0]⟩) mt, Rel_way h wq4 hm⟩)
        have := (hxy q q0 (by omega)).2 hc
        rw [hlo q q0 q1] at this
        cases this
      · refine mside σ4 _ (wq4.1 80 (by omega)) (fun res τ hm mt => ⟨?_, Rel_way h wq4 hm⟩)
        have hex : wp_X_lowest σ4 (zAnd x y) (fun p => MT (fun p t => wH (σ 80) (σ 80 (375 + 8 * a + 0)) (σ 80 (375 + 8 * a + 1)) (σ 80 (375 + 8 * a + 2)) (-6) p t ∧ wH (σ 80) (σ 80 (375 + 8 * b + 0)) (σ 80 (375 + 8 * b + 1)) (σ 80 (375 + 8 * b + 2)) (-6) p t) c t) := by
          refine X_lowest (zAnd_rg _ _) z0 hhi (fun p p0 p1 hp hlo => Or.inr ⟨t, p, by omega, by omega, p0, p1, (hxy p p0 (by omega)).1 hp, hno, fun q q0 q1 hc => ?_, by rw [if_pos w0]⟩)
          have := (hxy q q0 (by omega)).2 hc
          rw [hlo q q0 q1] at this
          cases this
        unfold wp_X_lowest wp_In_bitCount at hex
        obtain ⟨-, -, hex⟩ := hex
        obtain ⟨-, hex⟩ := hex _ rfl
        obtain ⟨-, -, hex⟩ := hex _ rfl _ rfl
        exact MT_uniq (hex _ rfl) mt
  -- the other one
  have second : ∀ (σ4 : zM) (x : Int), WQ (σ 80) σ σ4 → OI (σ 80) (σ 80 (375 + 8 * a + 0)) (σ 80 (375 + 8 * a + 1)) (σ 80 (375 + 8 * a + 2)) (-6) 64 σ4 (max (t + 1) (σ 80 (375 + 8 * a + 1))) → OI (σ 80) (σ 80 (375 + 8 * b + 0)) (σ 80 (375 + 8 * b + 1)) (σ 80 (375 + 8 * b + 2)) (-6) 67 σ4 (max t (σ 80 (375 + 8 * b + 1))) → (∀ k, 0 ≤ k → k < 32 → (zB x k = true ↔ wH (σ 80) (σ 80 (375 + 8 * a + 0)) (σ 80 (375 + 8 * a + 1)) (σ 80 (375 + 8 * a + 2)) (-6) k t)) → wp_X_meet_b177 c (σ 80 (375 + 8 * a + 1)) (σ 80 (375 + 8 * b + 1)) (wp_X_meet_L132 c (σ 80 (375 + 8 * a + 1)) (σ 80 (375 + 8 * b + 1)) (fun r σ1 => wp_M_meet σ1 a b c (fun r' σ2 => r = r' ∧ Rel B σ2)) n) (fun r σ1 => wp_M_meet σ1 a b c (fun r' σ2 => r = r' ∧ Rel B σ2)) σ4 t (σ' 63 t) x := by
    intro σ4 x wq4 j1 j2 hx
    refine ⟨fun c1 => ?_, fun c1 => ?_⟩
    · rw [show max t (σ 80 (375 + 8 * b + 1)) = t by omega] at j2
      refine O_minute (by omega) (WQ_RX wq4 h.1) hA s0 (by omega) (by omega) (us σ' wq) j2 (fun y σ5 _ hy f5 j5 => fin σ5 x y (WQ_o wq4 (fun n hn => f5 n (by omega) (by omega))) (OIc (f5 65 (by omega) (by omega)) (f5 66 (by omega) (by omega)) j1) (by rw [show max (t + 1) (σ 80 (375 + 8 * b + 1)) = t + 1 by omega]; exact j5) hx hy)
    · refine fin σ4 x 0 wq4 j1 (by rw [show max (t + 1) (σ 80 (375 + 8 * b + 1)) = max t (σ 80 (375 + 8 * b + 1)) by omega]; exact j2) hx (fun k k0 k1 => ?_)
      rw [zB_0]
      exact ⟨fun hc => absurd hc (by decide), fun hc => by have := wH_rg hA s0 (by omega) hc; omega⟩
  refine ⟨fun c1 => ?_, fun c1 => ?_⟩
  · rw [show max t (σ 80 (375 + 8 * a + 1)) = t by omega] at i1
    refine O_minute (by omega) (WQ_RX wq h.1) hA t0 (by omega) (by omega) (us σ' wq) i1 (fun x σ5 _ hx f5 j5 => second σ5 x (WQ_o wq (fun n hn => f5 n (by omega) (by omega))) (by rw [show max (t + 1) (σ 80 (375 + 8 * a + 1)) = t + 1 by omega]; exact j5) (OIc (f5 68 (by omega) (by omega)) (f5 69 (by omega) (by omega)) i2) hx)
  · refine second σ' 0 wq (by rw [show max (t + 1) (σ 80 (375 + 8 * a + 1)) = max t (σ 80 (375 + 8 * a + 1)) by omega]; exact i1) i2 (fun k k0 k1 => ?_)
    rw [zB_0]
    exact ⟨fun hc => absurd hc (by decide), fun hc => by have := wH_rg hA t0 (by omega) hc; omega⟩
