/-! history and slots -/
theorem zCp_0 (σ : zM) (a b : Nat) (s d : Int) : zCp σ a b s d 0 = σ := by
  funext q j
  unfold zCp
  rw [if_neg (by omega)]
theorem zCp_s (σ : zM) {a b : Nat} {s d v : Int} (hv : 0 ≤ v) (h : a ≠ b ∨ d ≤ s) : zU (zCp σ a b s d v) b (d + v) (zCp σ a b s d v a (s + v)) = zCp σ a b s d (v + 1) := by
  have e : zCp σ a b s d v a (s + v) = σ a (s + v) := by
    by_cases hab : a = b
    · subst hab
      rw [zCp_g, if_neg (by omega)]
    · rw [zCp_n hab]
  rw [e]
  funext q j
  unfold zU zCp
  by_cases h1 : q = b ∧ j = d + v
  · rw [if_pos h1, if_pos ⟨h1.1, by omega, by omega⟩]
    congr 1; omega
  · rw [if_neg h1]
    by_cases h2 : q = b ∧ d ≤ j ∧ j < d + v
    · rw [if_pos h2, if_pos ⟨h2.1, h2.2.1, by omega⟩]
    · rw [if_neg h2, if_neg (fun hh => by
        have : ¬ j = d + v := fun e => h1 ⟨hh.1, e⟩
        exact h2 ⟨hh.1, hh.2.1, by omega⟩)]
def mApp (τ : zM) : zM := zU (zCp τ 80 81 0 (τ 79 4 * 455) 455) 79 4 (τ 79 4 + 1)
def mSh (τ : zM) : zM := zU (zCp τ 81 81 455 0 2275) 79 4 5
noncomputable def mRec (τ : zM) : zM := if τ 79 4 = 6 then mApp (mSh τ) else mApp τ
/-- a state copied to another one -/
theorem S_copyFrom {σ : zM} {a b : Nat} {Q : zM → Prop} (ha : a < 9) (hb : b < 9) (hab : a ≠ b) (k : ∀ σ', (∀ n, (n < 6 * a ∨ 6 * a + 5 < n) → σ' n = σ n) → (∀ A : Int → Int, A 0 ≤ 24 → A 1 ≤ 20 → A 2 ≤ 10 → RX σ b A → RX σ' a A) → Q σ') : wp_S_copyFrom σ a b Q := by
  unfold wp_S_copyFrom
  refine ⟨by omega, fun σ2 e2 => ⟨by omega, fun σ4 e4 => ⟨by omega, fun σ6 e6 => ⟨by omega, fun σ8 e8 => ⟨by omega, fun σ10 e10 => ?_⟩⟩⟩⟩⟩
  intro σ11 e11 σ12 e12 σ13 e13
  have fr : ∀ n, (n < 6 * a ∨ 6 * a + 5 < n) → σ13 n = σ n := by
    intro n hn
    rw [e13, zU_n (by omega), e12, zU_n (by omega), e11, zU_n (by omega), e10, zCp_n (by omega), e8, zCp_n (by omega), e6, zCp_n (by omega), e4, zCp_n (by omega), e2, zCp_n (by omega)]
  refine k σ13 fr (fun A h0 h1 h2 hR => ?_)
  have f5 : ∀ i, σ13 (6 * a) i = if i = 7 then σ (6 * b) 7 else if i = 6 then σ (6 * b) 6 else if i = 5 then σ (6 * b) 5 else σ (6 * a) i := by
    intro i
    rw [e13, zU_g]
    have g7 : σ12 (6 * b) 7 = σ (6 * b) 7 := by
      rw [e12, zU_n (by omega), e11, zU_n (by omega), e10, zCp_n (by omega), e8, zCp_n (by omega), e6, zCp_n (by omega), e4, zCp_n (by omega), e2, zCp_n (by omega)]
    rw [g7, e12, zU_g]
    have g6 : σ11 (6 * b) 6 = σ (6 * b) 6 := by
      rw [e11, zU_n (by omega), e10, zCp_n (by omega), e8, zCp_n (by omega), e6, zCp_n (by omega), e4, zCp_n (by omega), e2, zCp_n (by omega)]
    rw [g6, e11, zU_g]
    have g5 : σ10 (6 * b) 5 = σ (6 * b) 5 := by
      rw [e10, zCp_n (by omega), e8, zCp_n (by omega), e6, zCp_n (by omega), e4, zCp_n (by omega), e2, zCp_n (by omega)]
    rw [g5, e10, zCp_n (by omega), e8, zCp_n (by omega), e6, zCp_n (by omega), e4, zCp_n (by omega), e2, zCp_n (by omega)]
  have f1 : ∀ i, 0 ≤ i → i < 24 → σ13 (6 * a + 1) i = σ (6 * b + 1) i := by
    intro i i0 i1
    rw [e13, zU_n (by omega), e12, zU_n (by omega), e11, zU_n (by omega), e10, zCp_n (by omega), e8, zCp_n (by omega), e6, zCp_n (by omega), e4, zCp_n (by omega), e2, zCp_g, if_pos ⟨by omega, by omega⟩]
    congr 1; omega
  have f2 : ∀ i, 0 ≤ i → i < 264 → σ13 (6 * a + 2) i = σ (6 * b + 2) i := by
    intro i i0 i1
    rw [e13, zU_n (by omega), e12, zU_n (by omega), e11, zU_n (by omega), e10, zCp_n (by omega), e8, zCp_n (by omega), e6, zCp_n (by omega), e4, zCp_g, if_pos ⟨by omega, by omega⟩, e2, zCp_n (by omega)]
    congr 1; omega
  have f3 : ∀ i, 0 ≤ i → i < 24 → σ13 (6 * a + 3) i = σ (6 * b + 3) i := by
    intro i i0 i1
    rw [e13, zU_n (by omega), e12, zU_n (by omega), e11, zU_n (by omega), e10, zCp_n (by omega), e8, zCp_n (by omega), e6, zCp_g, if_pos ⟨by omega, by omega⟩, e4, zCp_n (by omega), e2, zCp_n (by omega)]
    congr 1; omega
  have f4 : ∀ i, 0 ≤ i → i < 60 → σ13 (6 * a + 4) i = σ (6 * b + 4) i := by
    intro i i0 i1
    rw [e13, zU_n (by omega), e12, zU_n (by omega), e11, zU_n (by omega), e10, zCp_n (by omega), e8, zCp_g, if_pos ⟨by omega, by omega⟩, e6, zCp_n (by omega), e4, zCp_n (by omega), e2, zCp_n (by omega)]
    congr 1; omega
  have f6 : ∀ i, 0 ≤ i → i < 80 → σ13 (6 * a + 5) i = σ (6 * b + 5) i := by
    intro i i0 i1
    rw [e13, zU_n (by omega), e12, zU_n (by omega), e11, zU_n (by omega), e10, zCp_g, if_pos ⟨by omega, by omega⟩, e8, zCp_n (by omega), e6, zCp_n (by omega), e4, zCp_n (by omega), e2, zCp_n (by omega)]
    congr 1; omega
  obtain ⟨⟨a0, a1, a2⟩, ap, ar, ac, at'⟩ := hR
  refine ⟨⟨by rw [f5]; simpa using a0, by rw [f5]; simpa using a1, by rw [f5]; simpa using a2⟩, fun p c p0 p1 c0 c1 => ?_, fun r r0 r1 => ⟨fun c c0 c1 => ?_, fun s s0 s1 => ?_, ?_⟩, fun c j c0 c1 j0 j1 => ?_, fun t j t0 t1 j0 j1 => ?_⟩
  · rw [f1 _ (by omega) (by omega)]; exact ap p c p0 p1 c0 c1
  · rw [f2 _ (by omega) (by omega)]; exact (ar r r0 r1).1 c c0 c1
  · rw [f2 _ (by omega) (by omega), f2 _ (by omega) (by omega)]; exact (ar r r0 r1).2.1 s s0 s1
  · rw [f3 _ (by omega) (by omega)]; exact (ar r r0 r1).2.2
  · rw [f4 _ (by omega) (by omega)]; exact ac c j c0 c1 j0 j1
  · rw [f6 _ (by omega) (by omega)]; exact at' t j t0 t1 j0 j1
