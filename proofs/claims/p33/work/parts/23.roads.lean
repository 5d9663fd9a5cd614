/-! roads, their spans, closures, travellers: the changes -/
theorem RXr_OKs {σ : zM} {A : Int → Int} {r : Int} (h : RXr σ A r) (n0 : 0 ≤ A (27 + 12 * r + 4)) (n3 : A (27 + 12 * r + 4) ≤ 3) (hs : OKs A (27 + 12 * r)) : OKs (σ 2) (r * 11) := by
  obtain ⟨h1, h2, -⟩ := h
  have e4 : σ 2 (r * 11 + 4) = A (27 + 12 * r + 4) := h1 4 (by omega) (by omega)
  have ef : ∀ s, 0 ≤ s → s < A (27 + 12 * r + 4) → σ 2 (r * 11 + (5 + 2 * s)) = A (27 + 12 * r + (5 + 2 * s)) := fun s s0 s1 => by
    have := (h2 s s0 (by omega)).1
    rw [if_pos s1] at this
    rw [← this]; congr 1; omega
  have et : ∀ s, 0 ≤ s → s < A (27 + 12 * r + 4) → σ 2 (r * 11 + (5 + 2 * s + 1)) = A (27 + 12 * r + (5 + 2 * s + 1)) := fun s s0 s1 => by
    have := (h2 s s0 (by omega)).2
    rw [if_pos s1] at this
    rw [← this]; congr 1; omega
  refine ⟨fun s s0 s1 => ?_, fun s u s0 su u1 => ?_⟩
  · rw [e4] at s1
    rw [ef s s0 s1, et s s0 s1]; exact hs.1 s s0 s1
  · rw [e4] at u1
    rw [ef u (by omega) u1, et s s0 (by omega)]; exact hs.2 s u s0 su u1
theorem RXr_iK {σ : zM} {A : Int → Int} {r : Int} (h : RXr σ A r) (n0 : 0 ≤ A (27 + 12 * r + 4)) (n3 : A (27 + 12 * r + 4) ≤ 3) (f : Int) : iK (σ 2) (r * 11) f = iK A (27 + 12 * r) f := by
  obtain ⟨h1, h2, -⟩ := h
  have e4 : σ 2 (r * 11 + 4) = A (27 + 12 * r + 4) := h1 4 (by omega) (by omega)
  have ef : ∀ s, 0 ≤ s → s < 3 → (s < A (27 + 12 * r + 4) ∧ σ 2 (r * 11 + (5 + 2 * s)) ≤ f ↔ s < A (27 + 12 * r + 4) ∧ A (27 + 12 * r + (5 + 2 * s)) ≤ f) := fun s s0 s3 => by
    by_cases s1 : s < A (27 + 12 * r + 4)
    · have := (h2 s s0 (by omega)).1
      rw [if_pos s1, show r * 11 + 5 + 2 * s = r * 11 + (5 + 2 * s) by omega] at this
      rw [this]
    · exact ⟨fun c => absurd c.1 s1, fun c => absurd c.1 s1⟩
  unfold iK
  rw [e4]
  simp only [ef 0 (by omega) (by omega), ef 1 (by omega) (by omega), ef 2 (by omega) (by omega)]
theorem RXr_ins {σ σ' : zM} {A A' : Int → Int} {r f t : Int} (h : RXr σ A r) (n0 : 0 ≤ A (27 + 12 * r + 4)) (n2 : A (27 + 12 * r + 4) ≤ 2) (hs : OKs A (27 + 12 * r)) (e2 : ∀ i, r * 11 ≤ i → i < r * 11 + 11 → σ' 2 i = iA (σ 2) (r * 11) f t i) (e3 : σ' 3 r = σ 3 r) (eA : ∀ c : Int, 0 ≤ c → c < 12 → A' (27 + 12 * r + c) = iA A (27 + 12 * r) f t (27 + 12 * r + c)) : RXr σ' A' r := by
  have hK := RXr_iK h n0 (by omega) f
  have hk1 := (iK_spec (f := f) hs n0 n2).2.1
  have hk0 := iK_rg A (27 + 12 * r) f
  obtain ⟨h1, h2, h3⟩ := h
  have e4 : σ 2 (r * 11 + 4) = A (27 + 12 * r + 4) := h1 4 (by omega) (by omega)
  refine ⟨fun c c0 c1 => ?_, fun s s0 s1 => ?_, ?_⟩
  · rw [e2 _ (by omega) (by omega), eA c c0 (by omega)]
    by_cases hc : c = 4
    · subst hc; rw [iA_4, iA_4, e4]
    · rw [iA_old (by omega) (by omega), iA_old (by omega) (by omega)]; exact h1 c c0 c1
  · rw [e2 _ (by omega) (by omega), e2 _ (by omega) (by omega), eA 4 (by omega) (by omega), eA _ (by omega) (by omega), eA _ (by omega) (by omega)]
    rw [show r * 11 + 5 + 2 * s = r * 11 + (5 + 2 * s) by omega, show r * 11 + (5 + 2 * s) + 1 = r * 11 + (5 + 2 * s + 1) by omega, iA_from s0, iA_to s0, iA_from s0, iA_to s0, iA_4, hK, e4]
    by_cases c1 : s = iK A (27 + 12 * r) f
    · rw [if_pos c1, if_pos c1, if_pos c1, if_pos c1, if_pos (by omega), if_pos (by omega)]; exact ⟨rfl, rfl⟩
    · rw [if_neg c1, if_neg c1, if_neg c1, if_neg c1]
      by_cases c2 : iK A (27 + 12 * r) f < s ∧ s ≤ A (27 + 12 * r + 4)
      · rw [if_pos c2, if_pos c2, if_pos c2, if_pos c2, if_pos (by omega), if_pos (by omega)]
        have := h2 (s - 1) (by omega) (by omega)
        rw [if_pos (by omega), if_pos (by omega)] at this
        rw [show r * 11 + (5 + 2 * (s - 1)) = r * 11 + 5 + 2 * (s - 1) by omega, show r * 11 + (5 + 2 * (s - 1) + 1) = r * 11 + 5 + 2 * (s - 1) + 1 by omega]
        exact this
      · rw [if_neg c2, if_neg c2, if_neg c2, if_neg c2]
        have := h2 s s0 s1
        rw [show r * 11 + (5 + 2 * s) = r * 11 + 5 + 2 * s by omega, show r * 11 + (5 + 2 * s + 1) = r * 11 + 5 + 2 * s + 1 by omega]
        by_cases c3 : s < A (27 + 12 * r + 4)
        · rw [if_pos c3, if_pos c3] at this
          rw [if_pos (by omega), if_pos (by omega)]; exact this
        · rw [if_neg c3, if_neg c3] at this
          rw [if_neg (by omega), if_neg (by omega)]; exact this
  · rw [e3, eA 11 (by omega) (by omega), iA_old (by omega) (by omega)]; exact h3
def mD (σ : zM) (r s : Int) : zM := zFl (zU (zU σ 2 (r * 11 + 3) s) 2 (r * 11 + 4) 0) 2 (r * 11 + 5) (r * 11 + 11) (-6)
theorem mD_n {σ : zM} {r s : Int} {p : Nat} (h : p ≠ 2) : mD σ r s p = σ p := by
  unfold mD
  rw [zFl_n h, zU_n h, zU_n h]
theorem mD_g {σ : zM} {r s i : Int} : mD σ r s 2 i = if r * 11 + 5 ≤ i ∧ i < r * 11 + 11 then -6 else if i = r * 11 + 4 then 0 else if i = r * 11 + 3 then s else σ 2 i := by
  unfold mD
  rw [zFl_g, zU_g, zU_g]
theorem S_dropSpans {σ : zM} {r s : Int} {Q : zM → Prop} (r0 : 0 ≤ r) (r1 : r < 24) (k : Q (mD σ r s)) : wp_S_dropSpans σ r s Q := by
  unfold wp_S_dropSpans
  refine ⟨zRi (by omega) (by omega), by omega, ?_⟩
  rintro _ rfl
  refine ⟨by omega, ?_⟩
  rintro _ rfl
  refine ⟨zRi (by omega) (by omega), zRi (by omega) (by omega), by omega, ?_⟩
  rintro _ rfl
  exact k
theorem RXr_drop {σ σ' : zM} {A A' : Int → Int} {r s : Int} (h : RXr σ A r) (e2 : ∀ i, r * 11 ≤ i → i < r * 11 + 11 → σ' 2 i = mD σ r s 2 i) (e3 : σ' 3 r = σ 3 r) (eA : ∀ c : Int, (0 ≤ c ∧ c < 3) ∨ c = 11 → A' (27 + 12 * r + c) = A (27 + 12 * r + c)) (es : A' (27 + 12 * r + 3) = s) (e4 : A' (27 + 12 * r + 4) = 0) : RXr σ' A' r := by
  obtain ⟨h1, h2, h3⟩ := h
  refine ⟨fun c c0 c1 => ?_, fun s s0 s1 => ?_, ?_⟩
  · rw [e2 _ (by omega) (by omega), mD_g, if_neg (by omega)]
    by_cases hc : c = 4
    · subst hc; rw [if_pos rfl, e4]
    · rw [if_neg (by omega)]
      by_cases hc : c = 3
      · subst hc; rw [if_pos rfl, es]
      · rw [if_neg (by omega), eA c (by omega)]; exact h1 c c0 c1
  · rw [e2 _ (by omega) (by omega), e2 _ (by omega) (by omega), mD_g, mD_g, if_pos (by omega), e4, if_neg (by omega), if_pos (by omega), if_neg (by omega)]; exact ⟨rfl, rfl⟩
  · rw [e3, eA 11 (by omega)]; exact h3
/-- the row of a road with one span -/
theorem RXr_one {σ σ' : zM} {A A' : Int → Int} {r s f t : Int} (h : RXr σ A r) (e2 : ∀ i, r * 11 ≤ i → i < r * 11 + 11 → σ' 2 i = iA (mD σ r s 2) (r * 11) f t i) (e3 : σ' 3 r = σ 3 r) (eA : ∀ c : Int, (0 ≤ c ∧ c < 3) ∨ c = 11 → A' (27 + 12 * r + c) = A (27 + 12 * r + c)) (es : A' (27 + 12 * r + 3) = s) (e4 : A' (27 + 12 * r + 4) = 1) (ef : A' (27 + 12 * r + 5) = f) (et : A' (27 + 12 * r + 6) = t) : RXr σ' A' r := by
  obtain ⟨h1, h2, h3⟩ := h
  have d4 : mD σ r s 2 (r * 11 + 4) = 0 := by rw [mD_g, if_neg (by omega), if_pos rfl]
  have hk : iK (mD σ r s 2) (r * 11) f = 0 := by
    unfold iK
    rw [d4, if_neg (by omega), if_neg (by omega), if_neg (by omega)]; rfl
  refine ⟨fun c c0 c1 => ?_, fun u s0 s1 => ?_, ?_⟩
  · rw [e2 _ (by omega) (by omega)]
    by_cases hc : c = 4
    · subst hc; rw [iA_4, d4, e4]; rfl
    · rw [iA_old (by omega) (by omega), mD_g, if_neg (by omega), if_neg (by omega)]
      by_cases hc : c = 3
      · subst hc; rw [if_pos rfl, es]
      · rw [if_neg (by omega), eA c (by omega)]; exact h1 c c0 c1
  · rw [e2 _ (by omega) (by omega), e2 _ (by omega) (by omega), show r * 11 + 5 + 2 * u = r * 11 + (5 + 2 * u) by omega, show r * 11 + (5 + 2 * u) + 1 = r * 11 + (5 + 2 * u + 1) by omega, iA_from s0, iA_to s0, hk, d4, e4]
    by_cases hu : u = 0
    · subst hu
      rw [if_pos rfl, if_pos rfl, if_pos (by omega), if_pos (by omega)]
      exact ⟨by rw [← ef]; rfl, by rw [← et]; rfl⟩
    · rw [if_neg hu, if_neg hu, if_neg (by omega), if_neg (by omega), if_neg (by omega), if_neg (by omega), mD_g, mD_g, if_pos (by omega), if_pos (by omega)]; exact ⟨rfl, rfl⟩
  · rw [e3, eA 11 (by omega)]; exact h3
theorem OKr_OKs {A : Int → Int} {B r : Int} (h : OKr A B r) : OKs A (27 + 12 * r) := ⟨h.2.2.2.2.2.1, h.2.2.2.2.2.2.1⟩
/-- road -/
def mRoad (τ : zM) (a b c : Int) : zM := zU (zU (zU (zU (zU (zU (zU (zU (zU τ 80 (27 + 12 * τ 80 0 + 0) a) 80 (27 + 12 * τ 80 0 + 1) b) 80 (27 + 12 * τ 80 0 + 2) c) 80 (27 + 12 * τ 80 0 + 3) 0) 80 (27 + 12 * τ 80 0 + 4) 1) 80 (27 + 12 * τ 80 0 + 5) 0) 80 (27 + 12 * τ 80 0 + 5 + 1) 1440) 80 (27 + 12 * τ 80 0 + 11) 0) 80 0 (τ 80 0 + 1)
theorem Fr_mRoad {x y : zM} {a b c : Int} (h : Fr x y) : Fr (mRoad x a b c) (mRoad y a b c) := by
  unfold mRoad
  rw [h 80 (by omega)]
  exact Fr_zU2 (Fr_zU2 (Fr_zU2 (Fr_zU2 (Fr_zU2 (Fr_zU2 (Fr_zU2 (Fr_zU2 (Fr_zU2 h))))))))
theorem FrM_mRoad {x : zM} {a b c : Int} : FrM x (mRoad x a b c) := fun n hn => by
  unfold mRoad
  simp (disch := omega) only [zU_n]