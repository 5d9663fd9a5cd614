/-! a span put into those of a road: b the cell of the row's beginning, as b + 4 holds the number of its spans -/
def iK (A : Int → Int) (b f : Int) : Int :=
  (if 0 < A (b + 4) ∧ A (b + (5 + 2 * 0)) ≤ f then 1 else 0) + (if 1 < A (b + 4) ∧ A (b + (5 + 2 * 1)) ≤ f then 1 else 0) + (if 2 < A (b + 4) ∧ A (b + (5 + 2 * 2)) ≤ f then 1 else 0)
def iA (A : Int → Int) (b f t : Int) : Int → Int := fun i =>
  if i = b + 4 then A (b + 4) + 1 else if i = b + (5 + 2 * iK A b f) then f else if i = b + (5 + 2 * iK A b f + 1) then t
  else if b + (5 + 2 * iK A b f) + 2 ≤ i ∧ i < b + (5 + 2 * A (b + 4)) + 2 then A (i - 2) else A i
def mI (τ : zM) (q : Nat) (b f t : Int) : zM := fun p i => if p = q then iA (τ q) b f t i else τ p i
/-- the spans of a road in their order, apart -/
def OKs (A : Int → Int) (b : Int) : Prop :=
  (∀ s : Int, 0 ≤ s → s < A (b + 4) → 0 ≤ A (b + (5 + 2 * s)) ∧ A (b + (5 + 2 * s)) < A (b + (5 + 2 * s + 1)) ∧ A (b + (5 + 2 * s + 1)) ≤ 1440) ∧
  (∀ s u : Int, 0 ≤ s → s < u → u < A (b + 4) → A (b + (5 + 2 * s + 1)) ≤ A (b + (5 + 2 * u)))
theorem mI_n {τ : zM} {q p : Nat} {b f t : Int} (h : p ≠ q) : mI τ q b f t p = τ p := by
  funext i; unfold mI; rw [if_neg h]
theorem mI_s {τ : zM} {q : Nat} {b f t : Int} : mI τ q b f t q = iA (τ q) b f t := by
  funext i; unfold mI; rw [if_pos rfl]
theorem Fr_mI {a c : zM} {b f t : Int} (h : Fr a c) : Fr (mI a 80 b f t) (mI c 80 b f t) := by
  intro q hq
  funext i
  unfold mI
  rw [h 80 (by omega), h q hq]
theorem FrM_mI {a : zM} {b f t : Int} : FrM a (mI a 80 b f t) := fun n hn => mI_n (by omega)
/-- the place of the span: what lies before it begins no later -/
theorem iK_at {A : Int → Int} {b f v : Int} (h : OKs A b) (n2 : A (b + 4) ≤ 2) (v0 : 0 ≤ v) (v1 : v ≤ A (b + 4)) (lo : v = 0 ∨ A (b + (5 + 2 * (v - 1))) ≤ f) (hi : ∀ s, v ≤ s → s < A (b + 4) → f < A (b + (5 + 2 * s))) : iK A b f = v := by
  obtain ⟨h1, h2⟩ := h
  have h01 := h2 0 1 (by omega) (by omega)
  have g0 := h1 0 (by omega)
  have hi0 := hi 0
  have hi1 := hi 1
  unfold iK
  rcases (show v = 0 ∨ v = 1 ∨ v = 2 by omega) with rfl | rfl | rfl
  · rw [if_neg (by omega), if_neg (by omega), if_neg (by omega)]; rfl
  · rw [show (1 : Int) - 1 = 0 by omega] at lo
    rw [if_pos (by omega), if_neg (by omega), if_neg (by omega)]; rfl
  · rw [show (2 : Int) - 1 = 1 by omega] at lo
    rw [if_pos (by omega), if_pos (by omega), if_neg (by omega)]; rfl
theorem iK_rg (A : Int → Int) (b f : Int) : 0 ≤ iK A b f := by
  unfold iK
  split <;> split <;> split <;> omega
theorem iK_spec {A : Int → Int} {b f : Int} (h : OKs A b) (n0 : 0 ≤ A (b + 4)) (n2 : A (b + 4) ≤ 2) : 0 ≤ iK A b f ∧ iK A b f ≤ A (b + 4) ∧ (∀ s, 0 ≤ s → s < iK A b f → A (b + (5 + 2 * s)) ≤ f) ∧ ∀ s, iK A b f ≤ s → s < A (b + 4) → f < A (b + (5 + 2 * s)) := by
  obtain ⟨h1, h2⟩ := h
  have h01 := h2 0 1 (by omega) (by omega)
  have g0 := h1 0 (by omega)
  have key : ∃ v, 0 ≤ v ∧ v ≤ A (b + 4) ∧ (∀ s, 0 ≤ s → s < v → A (b + (5 + 2 * s)) ≤ f) ∧ ∀ s, v ≤ s → s < A (b + 4) → f < A (b + (5 + 2 * s)) := by
    by_cases c1 : 0 < A (b + 4) ∧ A (b + (5 + 2 * 0)) ≤ f
    · by_cases c2 : 1 < A (b + 4) ∧ A (b + (5 + 2 * 1)) ≤ f
      · exact ⟨2, by omega, by omega, fun s s0 s1 => by rcases (show s = 0 ∨ s = 1 by omega) with rfl | rfl <;> omega, fun s s0 s1 => by omega⟩
      · exact ⟨1, by omega, by omega, fun s s0 s1 => by rcases (show s = 0 by omega) with rfl; omega, fun s s0 s1 => by rcases (show s = 1 by omega) with rfl; omega⟩
    · exact ⟨0, by omega, by omega, fun s s0 s1 => by omega, fun s s0 s1 => by rcases (show s = 0 ∨ s = 1 by omega) with rfl | rfl <;> omega⟩
  obtain ⟨v, v0, v1, v2, v3⟩ := key
  rw [iK_at ⟨h1, h2⟩ n2 v0 v1 (by by_cases hv : v = 0; exact Or.inl hv; exact Or.inr (v2 _ (by omega) (by omega))) v3]
  exact ⟨v0, v1, v2, v3⟩
theorem iA_old {A : Int → Int} {b f t i : Int} (h : i < b + 4 ∨ b + (5 + 2 * A (b + 4)) + 2 ≤ i) (hk : iK A b f ≤ A (b + 4)) : iA A b f t i = A i := by
  have := iK_rg A b f
  unfold iA
  rw [if_neg (by omega), if_neg (by omega), if_neg (by omega), if_neg (by omega)]
theorem iA_4 {A : Int → Int} {b f t : Int} : iA A b f t (b + 4) = A (b + 4) + 1 := by
  unfold iA
  rw [if_pos rfl]
theorem iA_from {A : Int → Int} {b f t s : Int} (s0 : 0 ≤ s) : iA A b f t (b + (5 + 2 * s)) = if s = iK A b f then f else if iK A b f < s ∧ s ≤ A (b + 4) then A (b + (5 + 2 * (s - 1))) else A (b + (5 + 2 * s)) := by
  unfold iA
  rw [if_neg (by omega)]
  by_cases h1 : s = iK A b f
  · rw [if_pos (by omega), if_pos h1]
  · rw [if_neg (by omega), if_neg (by omega), if_neg h1]
    by_cases h2 : iK A b f < s ∧ s ≤ A (b + 4)
    · rw [if_pos (by omega), if_pos h2]; congr 1; omega
    · rw [if_neg (by omega), if_neg h2]
theorem iA_to {A : Int → Int} {b f t s : Int} (s0 : 0 ≤ s) : iA A b f t (b + (5 + 2 * s + 1)) = if s = iK A b f then t else if iK A b f < s ∧ s ≤ A (b + 4) then A (b + (5 + 2 * (s - 1) + 1)) else A (b + (5 + 2 * s + 1)) := by
  unfold iA
  rw [if_neg (by omega), if_neg (by omega)]
  by_cases h1 : s = iK A b f
  · rw [if_pos (by omega), if_pos h1]
  · rw [if_neg (by omega), if_neg h1]
    by_cases h2 : iK A b f < s ∧ s ≤ A (b + 4)
    · rw [if_pos (by omega), if_pos h2]; congr 1; omega
    · rw [if_neg (by omega), if_neg h2]
theorem OKs_ins {A : Int → Int} {b f t : Int} (h : OKs A b) (n0 : 0 ≤ A (b + 4)) (n2 : A (b + 4) ≤ 2) (hf : 0 ≤ f ∧ f < t ∧ t ≤ 1440) (ap : ∀ s, 0 ≤ s → s < A (b + 4) → ¬ (f < A (b + (5 + 2 * s + 1)) ∧ A (b + (5 + 2 * s)) < t)) : OKs (iA A b f t) b := by
  obtain ⟨k0, k1, k2, k3⟩ := iK_spec (f := f) h n0 n2
  obtain ⟨h1, h2⟩ := h
  generalize hk : iK A b f = k at *
  refine ⟨fun s s0 s1 => ?_, fun s u s0 su u1 => ?_⟩
  · rw [iA_4] at s1
    rw [iA_from s0, iA_to s0, hk]
    by_cases c1 : s = k
    · rw [if_pos c1, if_pos c1]; exact hf
    · rw [if_neg c1, if_neg c1]
      by_cases c2 : k < s ∧ s ≤ A (b + 4)
      · rw [if_pos c2, if_pos c2]; exact h1 (s - 1) (by omega) (by omega)
      · rw [if_neg c2, if_neg c2]; exact h1 s (by omega) (by omega)
  · rw [iA_4] at u1
    rw [iA_from (by omega), iA_to s0, hk]
    by_cases c1 : s = k
    · rw [if_pos c1, if_neg (by omega), if_pos (by omega)]
      have a1 := ap (u - 1) (by omega) (by omega)
      have a2 := k3 (u - 1) (by omega) (by omega)
      have a3 := h1 (u - 1) (by omega) (by omega)
      omega
    · rw [if_neg c1]
      by_cases c2 : k < s ∧ s ≤ A (b + 4)
      · rw [if_pos c2, if_neg (by omega), if_pos (by omega)]; exact h2 (s - 1) (u - 1) (by omega) (by omega) (by omega)
      · rw [if_neg c2]
        by_cases c3 : u = k
        · rw [if_pos c3]
          have a1 := ap s (by omega) (by omega)
          have a2 := k2 s (by omega) (by omega)
          omega
        · rw [if_neg c3]
          by_cases c4 : k < u ∧ u ≤ A (b + 4)
          · rw [if_pos c4]
            by_cases c5 : s = u - 1
            · exact absurd c5 (by omega)
            · exact h2 s (u - 1) s0 (by omega) (by omega)
          · rw [if_neg c4]; exact h2 s u s0 su (by omega)
/-- the spans from v on moved by one place -/
def mV (τ : zM) (q : Nat) (b v : Int) : zM := fun p i => if p = q ∧ b + (5 + 2 * v) + 2 ≤ i ∧ i < b + (5 + 2 * τ q (b + 4)) + 2 then τ q (i - 2) else τ p i
theorem mV_0 (τ : zM) (q : Nat) (b : Int) : mV τ q b (τ q (b + 4)) = τ := by
  funext p i
  unfold mV
  rw [if_neg (by omega)]
theorem mV_lo {τ : zM} {q : Nat} {b v i : Int} (h : i < b + (5 + 2 * v) + 2) : mV τ q b v q i = τ q i := by
  unfold mV
  rw [if_neg (by omega)]
theorem mV_n {τ : zM} {q p : Nat} {b v : Int} (h : p ≠ q) : mV τ q b v p = τ p := by
  funext i
  unfold mV
  rw [if_neg (fun c => h c.1)]
theorem mV_s {τ : zM} {q : Nat} {b v : Int} (v1 : v ≤ τ q (b + 4)) : zU (zU (mV τ q b v) q (b + (5 + 2 * v)) (τ q (b + (5 + 2 * (v - 1))))) q (b + (5 + 2 * v) + 1) (τ q (b + (5 + 2 * (v - 1)) + 1)) = mV τ q b (v - 1) := by
  funext p i
  by_cases hp : p = q
  · subst hp
    rw [zU_g, zU_g]
    unfold mV
    by_cases c1 : i = b + (5 + 2 * v) + 1
    · rw [if_pos c1, if_pos ⟨rfl, by omega, by omega⟩]; congr 1; omega
    · rw [if_neg c1]
      by_cases c2 : i = b + (5 + 2 * v)
      · rw [if_pos c2, if_pos ⟨rfl, by omega, by omega⟩]; congr 1; omega
      · rw [if_neg c2]
        by_cases c3 : b + (5 + 2 * v) + 2 ≤ i ∧ i < b + (5 + 2 * τ p (b + 4)) + 2
        · rw [if_pos ⟨rfl, c3⟩, if_pos ⟨rfl, by omega, by omega⟩]
        · rw [if_neg (fun c => c3 c.2), if_neg (by omega)]
  · rw [zU_n hp, zU_n hp, mV_n hp, mV_n hp]
theorem mV_e {τ : zM} {q : Nat} {b v f t : Int} (v1 : v ≤ τ q (b + 4)) (hv : 0 ≤ v) (hk : iK (τ q) b f = v) : zU (zU (zU (mV τ q b v) q (b + (5 + 2 * v)) f) q (b + (5 + 2 * v) + 1) t) q (b + 4) (τ q (b + 4) + 1) = mI τ q b f t := by
  funext p i
  by_cases hp : p = q
  · subst hp
    rw [zU_g, zU_g, zU_g]
    unfold mI iA mV
    rw [if_pos rfl, hk]
    by_cases c0 : i = b + 4
    · rw [if_pos c0, if_pos c0]
    · rw [if_neg c0, if_neg c0]
      by_cases c1 : i = b + (5 + 2 * v) + 1
      · rw [if_pos c1, if_neg (by omega), if_pos (by omega)]
      · rw [if_neg c1]
        by_cases c2 : i = b + (5 + 2 * v)
        · rw [if_pos c2, if_pos c2]
        · rw [if_neg c2, if_neg c2, if_neg (show ¬ i = b + (5 + 2 * v + 1) by omega)]
          by_cases c3 : b + (5 + 2 * v) + 2 ≤ i ∧ i < b + (5 + 2 * τ p (b + 4)) + 2
          · rw [if_pos ⟨rfl, c3⟩, if_pos c3]
          · rw [if_neg (fun c => c3 c.2), if_neg c3]
  · rw [zU_n hp, zU_n hp, zU_n hp, mV_n hp, mI_n hp]
theorem S_addSpan {σ : zM} {r f t : Int} {Q : zM → Prop} (r0 : 0 ≤ r) (r1 : r < 24) (hs : OKs (σ 2) (r * 11)) (n0 : 0 ≤ σ 2 (r * 11 + 4)) (n2 : σ 2 (r * 11 + 4) ≤ 2) (k : Q (mI σ 2 (r * 11) f t)) : wp_S_addSpan σ r f t Q := by
  unfold wp_S_addSpan
  rw [S_ofRoads (by omega) (by omega)]
  refine ⟨fun _ => ⟨zRi (by omega) (by omega), ?_⟩, fun c => by omega⟩
  refine zForD (fun σ' v => v ≤ σ 2 (r * 11 + 4) ∧ σ' = mV σ 2 (r * 11) v ∧ ∀ s, v ≤ s → s < σ 2 (r * 11 + 4) → f < σ 2 (r * 11 + (5 + 2 * s))) 0 ?_ σ _ ⟨Int.le_refl _, (mV_0 _ _ _).symm, fun s s0 s1 => by omega⟩ n0
  intro m σ' v hI hv ih
  obtain ⟨v1, e, hi⟩ := hI
  rw [wp_S_addSpan_L27]
  have done : v ≤ 0 ∨ σ 2 (r * 11 + (5 + 2 * (v - 1))) ≤ f → wp_S_addSpan_b95 Q σ' r f t (σ 2 (r * 11 + 4)) (r * 11 + 5) v := by
    intro c
    have hk : iK (σ 2) (r * 11) f = v := iK_at hs n2 hv v1 (by rcases c with c | c; exact Or.inl (by omega); exact Or.inr c) hi
    have := mV_e (t := t) v1 hv hk
    unfold wp_S_addSpan_b95
    refine ⟨by omega, ?_⟩
    rintro _ rfl
    refine ⟨by omega, ?_⟩
    rintro _ rfl
    refine ⟨by omega, zRi (by omega) (by omega), ?_⟩
    rintro _ rfl
    rw [← this, ← e] at k
    rw [show (r * 11 + (5 + 2 * v) : Int) = r * 11 + 5 + 2 * v by omega] at k
    exact k
  refine ⟨fun c => done (Or.inl c), fun c => ⟨zRi (by omega) (by omega), ?_⟩⟩
  rw [S_spanFrom (by omega) (by omega)]
  have e1 : σ' 2 (r * 11 + 5 + 2 * (v - 1)) = σ 2 (r * 11 + (5 + 2 * (v - 1))) := by
    rw [e, mV_lo (by omega)]; congr 1; omega
  rw [e1]
  refine ⟨fun c2 => done (Or.inr c2), fun c2 => ⟨zRi (by omega) (by omega), ?_⟩⟩
  rw [S_spanFrom (by omega) (by omega), e1]
  refine ⟨by omega, ?_⟩
  rintro _ rfl
  refine ⟨zRi (by omega) (by omega), ?_⟩
  rw [S_spanTo (by omega) (by omega)]
  refine ⟨by omega, ?_⟩
  rintro _ rfl
  refine ⟨zRi (by omega) (by omega), ih _ ⟨by omega, ?_, fun s s0 s1 => ?_⟩ (by omega)⟩
  · have := mV_s (τ := σ) (q := 2) (b := r * 11) v1
    rw [show v + (-1) = v - 1 by omega, ← this, ← e, zU_j (by omega), e, mV_lo (by omega), ← e]
    rw [show (r * 11 + (5 + 2 * v) : Int) = r * 11 + 5 + 2 * v by omega, show (r * 11 + (5 + 2 * (v - 1)) + 1 : Int) = r * 11 + 5 + 2 * (v - 1) + 1 by omega]
  · by_cases hs : s = v - 1
    · subst hs; omega
    · exact hi s (by omega) s1
