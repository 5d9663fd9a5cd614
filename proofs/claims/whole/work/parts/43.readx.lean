/-! the class reads the pad -/
def FrA (σ σ' : zM) : Prop := (∀ n, n ≠ 58 → σ' n = σ n) ∧ ∀ j, j ≠ 2 → j ≠ 3 → σ' 58 j = σ 58 j
theorem FrA_rfl (σ : zM) : FrA σ σ := ⟨fun _ _ => rfl, fun _ _ _ => rfl⟩
theorem FrA_trans {a b c : zM} (h : FrA a b) (g : FrA b c) : FrA a c := ⟨fun n hn => (g.1 n hn).trans (h.1 n hn), fun j h2 h3 => (g.2 j h2 h3).trans (h.2 j h2 h3)⟩
theorem FrA_U2 {a b : zM} {v : Int} (h : FrA a b) : FrA a (zU b 58 2 v) := ⟨fun n hn => by rw [zU_n hn]; exact h.1 n hn, fun j h2 h3 => by rw [zU_j h2]; exact h.2 j h2 h3⟩
theorem FrA_U3 {a b : zM} {v : Int} (h : FrA a b) : FrA a (zU b 58 3 v) := ⟨fun n hn => by rw [zU_n hn]; exact h.1 n hn, fun j h2 h3 => by rw [zU_j h3]; exact h.2 j h2 h3⟩
def FrP (σ σ' : zM) : Prop := (∀ n, n ≠ 58 → n ≠ 60 → n ≠ 61 → σ' n = σ n) ∧ σ' 58 1 = σ 58 1
theorem FrP_rfl (σ : zM) : FrP σ σ := ⟨fun _ _ _ _ => rfl, rfl⟩
theorem FrP_trans {a b c : zM} (h : FrP a b) (g : FrP b c) : FrP a c := ⟨fun n h1 h2 h3 => (g.1 n h1 h2 h3).trans (h.1 n h1 h2 h3), g.2.trans h.2⟩
theorem FrP_A {a b : zM} (h : FrA a b) : FrP a b := ⟨fun n h1 _ _ => h.1 n h1, h.2 1 (by omega) (by omega)⟩
theorem FrP_U60 {a b : zM} {j v : Int} (h : FrP a b) : FrP a (zU b 60 j v) := ⟨fun n h1 h2 h3 => by rw [zU_n h2]; exact h.1 n h1 h2 h3, by rw [zU_n (by omega)]; exact h.2⟩
theorem FrP_U61 {a b : zM} {j v : Int} (h : FrP a b) : FrP a (zU b 61 j v) := ⟨fun n h1 h2 h3 => by rw [zU_n h3]; exact h.1 n h1 h2 h3, by rw [zU_n (by omega)]; exact h.2⟩
theorem FrP_U58 {a b : zM} {j v : Int} (hj : j ≠ 1) (h : FrP a b) : FrP a (zU b 58 j v) := ⟨fun n h1 h2 h3 => by rw [zU_n h1]; exact h.1 n h1 h2 h3, by rw [zU_j (Ne.symm hj)]; exact h.2⟩
def RS (T : Int → Int) (L : Int) (σ : zM) : Prop := σ 58 1 = L ∧ (0 ≤ L ∧ L ≤ 80) ∧ ∀ i, 0 ≤ i → i < L → σ 59 i = T i
theorem RS_P {T : Int → Int} {L : Int} {a b : zM} (f : FrP a b) (h : RS T L a) : RS T L b := ⟨f.2.trans h.1, h.2.1, fun i i0 i1 => by rw [f.1 59 (by omega) (by omega) (by omega)]; exact h.2.2 i i0 i1⟩
theorem RS_A {T : Int → Int} {L : Int} {a b : zM} (f : FrA a b) (h : RS T L a) : RS T L b := RS_P (FrP_A f) h
theorem zU_same {σ : zM} {n : Nat} {j v : Int} (h : σ n j = v) : zU σ n j v = σ := by
  funext m i
  by_cases hm : m = n
  · subst hm
    rw [zU_g]
    by_cases hi : i = j
    · rw [if_pos hi, hi, h]
    · rw [if_neg hi]
  · rw [zU_n hm]
section RX1
variable {T : Int → Int} {L : Int} {σ : zM} {a : Int}
theorem P_stands {c : Int} {Q : Int → Prop} (hS : RS T L σ) (a0 : 0 ≤ a) (ha : σ 58 2 = a) (hw : σ 58 3 = 0) (ky : hD T L c c a → Q 1) (kn : ¬ hD T L c c a → Q 0) : wp_P_stands σ c Q := by
  unfold wp_P_stands
  have hL := hS.2.1
  rw [ha, hw, hS.1]
  refine ⟨fun c1 => absurd rfl c1, fun _ => ⟨fun c1 => kn (fun hh => by have := hh.1; omega), fun c1 => ⟨by omega, ?_⟩⟩⟩
  rw [hS.2.2 a a0 (by omega)]
  exact ⟨fun c2 => kn (fun hh => c2 (by have := hh.2; omega)), fun c2 => ky ⟨by omega, by omega, by omega⟩⟩
theorem P_take {c : Int} {Q : Int → zM → Prop} (hS : RS T L σ) (a0 : 0 ≤ a) (ha : σ 58 2 = a) (hw : σ 58 3 = 0) (ky : hD T L c c a → ∀ σ', FrA σ σ' → σ' 58 2 = a + 1 → σ' 58 3 = 0 → Q 1 σ') (kn : ¬ hD T L c c a → Q 0 σ) : wp_P_take σ c Q := by
  unfold wp_P_take
  have hL := hS.2.1
  refine P_stands hS a0 ha hw (fun h => ⟨fun _ => ⟨by rw [ha]; have := h.1; exact zRi (by omega) (by omega), ?_⟩, fun c1 => absurd c1 (by decide)⟩) (fun h => ⟨fun c1 => absurd rfl c1, fun _ => kn h⟩)
  rintro _ rfl
  exact ky h _ (FrA_U2 (FrA_rfl σ)) (by rw [zU_s, ha]) (by rw [zU_j (by omega)]; exact hw)
theorem P_take1 {c : Int} {Q : Int → zM → Prop} (hw : σ 58 3 = 1) (k : Q 0 σ) : wp_P_take σ c Q := by
  unfold wp_P_take wp_P_stands
  rw [hw]
  exact ⟨fun _ => ⟨fun c1 => absurd rfl c1, fun _ => k⟩, fun c1 => absurd c1 (by decide)⟩
theorem P_expect {c : Int} {Q : zM → Prop} (hS : RS T L σ) (a0 : 0 ≤ a) (ha : σ 58 2 = a) (hw : σ 58 3 = 0) (ky : hD T L c c a → ∀ σ', FrA σ σ' → σ' 58 2 = a + 1 → σ' 58 3 = 0 → Q σ') (kn : ¬ hD T L c c a → ∀ σ', FrA σ σ' → σ' 58 2 = a → σ' 58 3 = 1 → Q σ') : wp_P_expect σ c Q := by
  unfold wp_P_expect
  refine P_take hS a0 ha hw (fun h σ' f e2 e3 => ⟨fun _ => ky h σ' f e2 e3, fun c1 => absurd c1 (by decide)⟩) (fun h => ⟨fun c1 => absurd rfl c1, fun _ => ?_⟩)
  rintro _ rfl
  exact kn h _ (FrA_U3 (FrA_rfl σ)) (by rw [zU_j (by omega)]; exact ha) zU_s
theorem P_expect1 {c : Int} {Q : zM → Prop} (hw : σ 58 3 = 1) (k : Q σ) : wp_P_expect σ c Q := by
  unfold wp_P_expect
  refine P_take1 hw ⟨fun c1 => absurd rfl c1, fun _ => ?_⟩
  rintro _ rfl
  rw [zU_same hw]; exact k
theorem P_digitStands {m : Int} {Q : Int → Prop} (hS : RS T L σ) (a0 : 0 ≤ a) (m0 : 0 ≤ m ∧ m ≤ 9) (ha : σ 58 2 = a) (hw : σ 58 3 = 0) (ky : hD T L 48 (48 + m) a → Q 1) (kn : ¬ hD T L 48 (48 + m) a → Q 0) : wp_P_digitStands σ m Q := by
  unfold wp_P_digitStands
  have hL := hS.2.1
  rw [ha, hw, hS.1]
  refine ⟨fun c1 => absurd rfl c1, fun _ => ⟨fun c1 => kn (fun hh => by have := hh.1; omega), fun c1 => ⟨by omega, ?_⟩⟩⟩
  rw [hS.2.2 a a0 (by omega)]
  exact ⟨fun c2 => kn (fun hh => by have := hh.2; omega), fun c2 => ⟨by omega, zRi (by omega) (by omega), fun c3 => kn (fun hh => by have := hh.2; omega), fun c3 => ky ⟨by omega, by omega, by omega⟩⟩⟩
theorem P_digit {m : Int} {Q : Int → zM → Prop} (hS : RS T L σ) (a0 : 0 ≤ a) (m0 : 0 ≤ m ∧ m ≤ 9) (ha : σ 58 2 = a) (hw : σ 58 3 = 0) (ky : hD T L 48 (48 + m) a → ∀ σ', FrA σ σ' → σ' 58 2 = a + 1 → σ' 58 3 = 0 → Q (T a - 48) σ') (kn : ¬ hD T L 48 (48 + m) a → ∀ σ', FrA σ σ' → σ' 58 2 = a → σ' 58 3 = 1 → Q 0 σ') : wp_P_readDigit σ m Q := by
  unfold wp_P_readDigit
  have hL := hS.2.1
  refine P_digitStands hS a0 m0 ha hw (fun h => ⟨fun _ => ⟨by rw [ha]; have := h.1; exact zRi (by omega) (by omega), ?_⟩, fun c1 => absurd c1 (by decide)⟩) (fun h => ⟨fun c1 => absurd rfl c1, fun _ => ?_⟩)
  · rintro _ rfl
    have h1 := h.1
    have h2 := h.2
    rw [zU_s, ha, zU_n (by omega), show a + 1 - 1 = a by omega, hS.2.2 a a0 h1]
    exact ⟨by omega, zRi (by omega) (by omega), ky h _ (FrA_U2 (FrA_rfl σ)) zU_s (by rw [zU_j (by omega)]; exact hw)⟩
  · rintro _ rfl
    exact kn h _ (FrA_U3 (FrA_rfl σ)) (by rw [zU_j (by omega)]; exact ha) zU_s
theorem P_digit1 {m : Int} {Q : Int → zM → Prop} (hw : σ 58 3 = 1) (k : Q 0 σ) : wp_P_readDigit σ m Q := by
  unfold wp_P_readDigit wp_P_digitStands
  rw [hw]
  refine ⟨fun _ => ⟨fun c1 => absurd rfl c1, fun _ => ?_⟩, fun c1 => absurd c1 (by decide)⟩
  rintro _ rfl
  rw [zU_same hw]; exact k
end RX1
section RX2
variable {T : Int → Int} {L : Int}
/-- a number, but for its first digit -/
theorem P_L9 {Q : Int → zM → Prop} : ∀ (k : Nat) (σ : zM) (v d a : Int), (k : Int) = 5 - d → (1 ≤ d ∧ d ≤ 4) → (0 < v → (d = 1 ∧ 1 ≤ v) ∨ (d = 2 ∧ 10 ≤ v) ∨ (d = 3 ∧ 100 ≤ v) ∨ (d = 4 ∧ 1000 ≤ v)) → (0 ≤ v ∧ v ≤ 2880) → RS T L σ → 0 ≤ a → σ 58 2 = a → σ 58 3 = 0 → (∀ w σ', FrA σ σ' → σ' 58 2 = (nL T L k v a).2.1 → σ' 58 3 = 0 → ((nL T L k v a).1 = 1 → w = (nL T L k v a).2.2) → Q w σ') → wp_P_readNumber_L9 Q k σ v d := by
  intro k
  induction k with
  | zero => intro σ v d a hk hd; omega
  | succ k ih =>
    intro σ v d a hk hd hv v1 hS a0 ha hw kk
    have hL := hS.2.1
    rw [wp_P_readNumber_L9]
    refine ⟨fun c => ?_, fun c => ⟨fun c1 => ?_, fun c1 => ?_⟩⟩
    · -- four digits
      have k0 : k = 0 := by omega
      subst k0
      by_cases c1 : v ≤ 0
      · have e : nL T L (0 + 1) v a = (1, a, v) := by unfold nL; rw [if_pos c1]
        rw [e] at kk
        exact kk v σ (FrA_rfl σ) ha hw (fun _ => rfl)
      · by_cases c2 : hD T L 48 57 a
        · have e : nL T L (0 + 1) v a = (0, a, v) := by
            have h2 := c2.2
            unfold nL; rw [if_neg c1, if_pos c2, if_pos (by omega)]
          rw [e] at kk
          exact kk v σ (FrA_rfl σ) ha hw (fun _ => rfl)
        · have e : nL T L (0 + 1) v a = (1, a, v) := by unfold nL; rw [if_neg c1, if_neg c2]
          rw [e] at kk
          exact kk v σ (FrA_rfl σ) ha hw (fun _ => rfl)
    · have e : nL T L (k + 1) v a = (1, a, v) := by unfold nL; rw [if_pos c1]
      rw [e] at kk
      exact kk v σ (FrA_rfl σ) ha hw (fun _ => rfl)
    · refine P_digitStands hS a0 (by omega) ha hw (fun h => ⟨fun c2 => absurd c2 (by decide), fun _ => ?_⟩) (fun h => ⟨fun _ => ?_, fun c2 => absurd rfl c2⟩)
      · have h1 := h.1
        have h2 := h.2
        rw [ha, hS.2.2 a a0 h1]
        refine ⟨by omega, zRi (by omega) (by omega), ?_⟩
        rintro _ rfl
        have e0 : v * 10 + T a - 48 = 10 * v + T a - 48 := by omega
        rw [e0]
        refine ⟨fun c2 => ⟨zRi (by omega) (by omega), ?_⟩, fun c2 => ?_⟩
        · rintro _ rfl
          refine ⟨zRi (by omega) (by omega), ih _ _ (d + 1) (a + 1) (by omega) (by omega) (fun _ => by omega) (by omega) (RS_A (FrA_U2 (FrA_rfl σ)) hS) (by omega) zU_s (by rw [zU_j (by omega)]; exact hw) (fun w σ' f e2 e3 ew => ?_)⟩
          have e : nL T L (k + 1) v a = nL T L k (10 * v + T a - 48) (a + 1) := by
            rw [nL, if_neg c1, if_pos (show hD T L 48 57 a from h), if_neg (by omega)]
          rw [e] at kk
          exact kk w σ' (FrA_trans (FrA_U2 (FrA_rfl σ)) f) e2 e3 ew
        · have e : nL T L (k + 1) v a = (0, a, v) := by
            rw [nL, if_neg c1, if_pos (show hD T L 48 57 a from h), if_pos (by omega)]
          rw [e] at kk
          exact kk v σ (FrA_rfl σ) ha hw (fun _ => rfl)
      · have e : nL T L (k + 1) v a = (1, a, v) := by
          rw [nL, if_neg c1, if_neg (show ¬ hD T L 48 57 a from h)]
        rw [e] at kk
        exact kk v σ (FrA_rfl σ) ha hw (fun _ => rfl)
theorem P_number {σ : zM} {a : Int} {Q : Int → zM → Prop} (hS : RS T L σ) (a0 : 0 ≤ a) (ha : σ 58 2 = a) (hw : σ 58 3 = 0) (kk : ∀ v σ', FrA σ σ' → σ' 58 2 = (pN T L a).2.1 → ((pN T L a).1 = 1 → v = (pN T L a).2.2 ∧ σ' 58 3 = 0) → ((pN T L a).1 = 0 → σ' 58 3 = 1 ∨ (σ' 58 3 = 0 ∧ hD T L 48 57 (pN T L a).2.1)) → Q v σ') : wp_P_readNumber σ Q := by
  unfold wp_P_readNumber
  have hL := hS.2.1
  refine P_digit hS a0 (by omega) ha hw (fun h σ' f e2 e3 => ?_) (fun h σ' f e2 e3 => ?_)
  · have h1 := h.1
    have h2 := h.2
    have e : pN T L a = nL T L 4 (T a - 48) (a + 1) := by unfold pN; rw [if_pos (show hD T L 48 57 a from h)]
    rw [e] at kk
    refine ⟨4, P_L9 4 σ' (T a - 48) 1 (a + 1) (by omega) (by omega) (fun _ => by omega) (by omega) (RS_A f hS) (by omega) e2 e3 (fun w σ2 f2 g2 g3 gw => ?_)⟩
    have hr := nL_rg (T := T) (L := L) 4 (T a - 48) (a + 1) (by omega) (by omega) (by omega)
    exact kk w σ2 (FrA_trans f f2) g2 (fun c => ⟨gw c, g3⟩) (fun c => Or.inr ⟨g3, hr.2.2.2 c⟩)
  · have e : pN T L a = (0, a, 0) := by unfold pN; rw [if_neg (show ¬ hD T L 48 57 a from h)]
    rw [e] at kk
    refine ⟨1, ?_⟩
    rw [wp_P_readNumber_L9]
    exact ⟨fun c => by omega, fun _ => ⟨fun _ => kk 0 σ' f e2 (fun c => absurd (show (0 : Int) = 1 from c) (by decide)) (fun _ => Or.inl e3), fun c => absurd (Int.le_refl 0) c⟩⟩
theorem P_number1 {σ : zM} {Q : Int → zM → Prop} (hw : σ 58 3 = 1) (k : Q 0 σ) : wp_P_readNumber σ Q := by
  unfold wp_P_readNumber
  refine P_digit1 hw ⟨1, ?_⟩
  rw [wp_P_readNumber_L9]
  exact ⟨fun c => by omega, fun _ => ⟨fun _ => k, fun c => absurd (Int.le_refl 0) c⟩⟩
/-! a clock -/
theorem P_74d {σ : zM} {Q : Int → zM → Prop} {h s m : Int} (hh : 0 ≤ h ∧ h ≤ 99) (hs : 0 ≤ s ∧ s ≤ 90) (hw : σ 58 3 = 1) (k : ∀ v, Q v σ) : wp_P_readClock_b74 Q σ h s m := by
  unfold wp_P_readClock_b74
  exact P_digit1 hw ⟨zRi (by omega) (by omega), zRi (by omega) (by omega), k _⟩
theorem P_53d {σ : zM} {Q : Int → zM → Prop} {h v m : Int} (hh : 0 ≤ h ∧ h ≤ 99) (hw : σ 58 3 = 1) (k : ∀ v, Q v σ) : wp_P_readClock_b53 Q σ h v m := by
  unfold wp_P_readClock_b53
  exact P_digit1 hw ⟨zRi (by omega) (by omega), fun _ => P_74d hh (by omega) hw k, fun _ => P_74d hh (by omega) hw k⟩
theorem P_42d {σ : zM} {Q : Int → zM → Prop} {h s : Int} (hh : 0 ≤ h ∧ h ≤ 99) (hw : σ 58 3 = 1) (k : ∀ v, Q v σ) : wp_P_readClock_b42 Q σ h s :=
  ⟨fun _ => P_53d hh hw k, fun _ => P_53d hh hw k⟩
theorem P_22d {σ : zM} {Q : Int → zM → Prop} {s m : Int} (hs : 0 ≤ s ∧ s ≤ 90) (hw : σ 58 3 = 1) (k : ∀ v, Q v σ) : wp_P_readClock_b22 Q σ s m := by
  unfold wp_P_readClock_b22
  exact P_digit1 hw ⟨zRi (by omega) (by omega), zRi (by omega) (by omega), fun _ => P_42d (by omega) hw k, fun _ => P_42d (by omega) hw k⟩
theorem P_clock1 {σ : zM} {Q : Int → zM → Prop} (hw : σ 58 3 = 1) (k : ∀ v, Q v σ) : wp_P_readClock σ Q := by
  unfold wp_P_readClock
  exact P_digit1 hw ⟨fun _ => ⟨zRi (by omega) (by omega), P_22d (by omega) hw k⟩, fun c => absurd c (by decide)⟩
theorem P_74 {σ : zM} {a h s m : Int} {Q : Int → zM → Prop} (hS : RS T L σ) (a0 : 0 ≤ a) (hm : 0 ≤ m ∧ m ≤ 9) (hh : 0 ≤ h ∧ h ≤ 99) (hs : 0 ≤ s ∧ s ≤ 90) (ha : σ 58 2 = a) (hw : σ 58 3 = 0) (ky : hD T L 48 (48 + m) a → ∀ σ', FrA σ σ' → σ' 58 2 = a + 1 → σ' 58 3 = 0 → Q (h * 60 + (s + (T a - 48))) σ') (kn : ¬ hD T L 48 (48 + m) a → ∀ v σ', FrA σ σ' → σ' 58 2 = a → σ' 58 3 = 1 → Q v σ') : wp_P_readClock_b74 Q σ h s m := by
  unfold wp_P_readClock_b74
  refine P_digit hS a0 hm ha hw (fun c σ' f e2 e3 => ?_) (fun c σ' f e2 e3 => ⟨zRi (by omega) (by omega), zRi (by omega) (by omega), kn c _ σ' f e2 e3⟩)
  have h2 := c.2
  exact ⟨zRi (by omega) (by omega), zRi (by omega) (by omega), ky c σ' f e2 e3⟩
theorem P_clock {σ : zM} {a : Int} {Q : Int → zM → Prop} (hS : RS T L σ) (a0 : 0 ≤ a) (ha : σ 58 2 = a) (hw : σ 58 3 = 0) (kk : ∀ v σ', FrA σ σ' → σ' 58 2 = (pK T L a).2.1 → ((pK T L a).1 = 1 → v = (pK T L a).2.2 ∧ σ' 58 3 = 0) → ((pK T L a).1 = 0 → σ' 58 3 = 1) → Q v σ') : wp_P_readClock σ Q := by
  have hL := hS.2.1
  have bad : ∀ (b : Int) (σ' : zM), pK T L a = (0, b, 0) → FrA σ σ' → σ' 58 2 = b → σ' 58 3 = 1 → ∀ v, Q v σ' := by
    intro b σ' e f e2 e3 v
    rw [e] at kk
    exact kk v σ' f e2 (fun c => absurd (show (0 : Int) = 1 from c) (by decide)) (fun _ => e3)
  unfold wp_P_readClock
  refine P_digit hS a0 (by omega) ha hw (fun c1 σ1 f1 e12 e13 => ?_) (fun c1 σ1 f1 e12 e13 => ?_)
  rotate_left
  · have hb := bad a σ1 (by unfold pK; rw [if_neg (show ¬ hD T L 48 50 a from c1)]) f1 e12 e13
    exact ⟨fun _ => ⟨zRi (by omega) (by omega), P_22d (by omega) e13 hb⟩, fun c => absurd c (by decide)⟩
  have h1 := c1.1
  have h2 := c1.2
  have hS1 := RS_A f1 hS
  have c1' : hD T L 48 50 a := c1
  have next : ∀ m, (0 ≤ m ∧ m ≤ 9) → m = (if T a - 48 = 2 then 4 else 9) → wp_P_readClock_b22 Q σ1 ((T a - 48) * 10) m := by
    intro m hm0 hm
    have em : (if T a - 48 = 2 then (52 : Int) else 57) = 48 + m := by
      rw [hm]; split <;> rfl
    unfold wp_P_readClock_b22
    refine P_digit hS1 (by omega) hm0 e12 e13 (fun c2 σ2 f2 e22 e23 => ?_) (fun c2 σ2 f2 e22 e23 => ?_)
    rotate_left
    · have hb := bad (a + 1) σ2 (by unfold pK; rw [if_pos c1', if_neg (by rw [em]; exact c2)]) (FrA_trans f1 f2) e22 e23
      exact ⟨zRi (by omega) (by omega), zRi (by omega) (by omega), fun _ => P_42d (by omega) e23 hb, fun _ => P_42d (by omega) e23 hb⟩
    have g1 := c2.1
    have g2 := c2.2
    have hS2 := RS_A f2 hS1
    have c2' : hD T L 48 (if T a - 48 = 2 then 52 else 57) (a + 1) := by rw [em]; exact c2
    -- the hour
    have hh : 0 ≤ (T a - 48) * 10 + (T (a + 1) - 48) ∧ (T a - 48) * 10 + (T (a + 1) - 48) ≤ 24 := by
      rw [hm] at g2
      by_cases ht : T a - 48 = 2
      · rw [if_pos ht] at g2; omega
      · rw [if_neg ht] at g2; omega
    have eh : 10 * (T a - 48) + (T (a + 1) - 48) = (T a - 48) * 10 + (T (a + 1) - 48) := by omega
    generalize hH : (T a - 48) * 10 + (T (a + 1) - 48) = H at hh eh ⊢
    have b53 : ∀ v n, (v = 0 ∨ v = 1) → (v = if H = 24 then 1 else 0) → n = (if H = 24 then 0 else 5) → wp_P_readClock_b53 Q σ2 H v n := by
      intro v n hv01 hv hn
      have en : (if 10 * (T a - 48) + (T (a + 1) - 48) = 24 then (48 : Int) else 53) = 48 + n := by
        rw [eh, hn]; split <;> rfl
      have hn9 : 0 ≤ n ∧ n ≤ 9 := by rw [hn]; split <;> omega
      unfold wp_P_readClock_b53
      refine P_digit hS2 (by omega) hn9 e22 e23 (fun c3 σ3 f3 e32 e33 => ?_) (fun c3 σ3 f3 e32 e33 => ?_)
      rotate_left
      · have hb := bad (a + 1 + 1) σ3 (by unfold pK; rw [if_pos c1', if_pos c2', if_neg (by rw [en, show a + 2 = a + 1 + 1 by omega]; exact c3), show a + 2 = a + 1 + 1 by omega]) (FrA_trans f1 (FrA_trans f2 f3)) e32 e33
        exact ⟨zRi (by omega) (by omega), fun _ => P_74d (by omega) (by omega) e33 hb, fun _ => P_74d (by omega) (by omega) e33 hb⟩
      have i1 := c3.1
      have i2 := c3.2
      have hS3 := RS_A f3 hS2
      have c3' : hD T L 48 (if 10 * (T a - 48) + (T (a + 1) - 48) = 24 then 48 else 53) (a + 2) := by rw [en, show a + 2 = a + 1 + 1 by omega]; exact c3
      have last : ∀ w, (0 ≤ w ∧ w ≤ 9) → w = (if H = 24 then 0 else 9) → wp_P_readClock_b74 Q σ3 H ((T (a + 1 + 1) - 48) * 10) w := by
        intro w hw9 hw
        have ew : (if 10 * (T a - 48) + (T (a + 1) - 48) = 24 then (48 : Int) else 57) = 48 + w := by
          rw [eh, hw]; split <;> rfl
        refine P_74 hS3 (by omega) hw9 (by omega) (by omega) e32 e33 (fun c4 σ4 f4 e42 e43 => ?_) (fun c4 v σ4 f4 e42 e43 => ?_)
        · have c4' : hD T L 48 (if 10 * (T a - 48) + (T (a + 1) - 48) = 24 then 48 else 57) (a + 3) := by rw [ew, show a + 3 = a + 1 + 1 + 1 by omega]; exact c4
          have e : pK T L a = (1, a + 4, 60 * (10 * (T a - 48) + (T (a + 1) - 48)) + 10 * (T (a + 2) - 48) + (T (a + 3) - 48)) := by
            unfold pK; rw [if_pos c1', if_pos c2', if_pos c3', if_pos c4']
          rw [e] at kk
          refine kk _ σ4 (FrA_trans f1 (FrA_trans f2 (FrA_trans f3 f4))) (by show σ4 58 2 = a + 4; omega) (fun _ => ⟨?_, e43⟩) (fun c => absurd (show (1 : Int) = 0 from c) (by decide))
          show H * 60 + ((T (a + 1 + 1) - 48) * 10 + (T (a + 1 + 1 + 1) - 48)) = 60 * (10 * (T a - 48) + (T (a + 1) - 48)) + 10 * (T (a + 2) - 48) + (T (a + 3) - 48)
          rw [eh, show a + 2 = a + 1 + 1 by omega, show a + 3 = a + 1 + 1 + 1 by omega]
          omega
        · exact bad (a + 1 + 1 + 1) σ4 (by unfold pK; rw [if_pos c1', if_pos c2', if_pos c3', if_neg (by rw [ew, show a + 3 = a + 1 + 1 + 1 by omega]; exact c4), show a + 3 = a + 1 + 1 + 1 by omega]) (FrA_trans f1 (FrA_trans f2 (FrA_trans f3 f4))) e42 e43 v
      refine ⟨zRi (by omega) (by omega), fun c5 => last 9 (by omega) ?_, fun c5 => last 0 (by omega) ?_⟩
      · rw [if_neg]
        intro h24
        rw [if_pos h24] at hv
        omega
      · rw [if_pos]
        apply Classical.byContradiction
        intro h24
        rw [if_neg h24] at hv
        omega
    refine ⟨zRi (by omega) (by omega), zRi (by omega) (by omega), fun c5 => ⟨fun _ => b53 0 5 (Or.inl rfl) ?_ ?_, fun c => absurd rfl c⟩, fun c5 => ⟨fun c => absurd c (by decide), fun _ => b53 1 0 (Or.inr rfl) ?_ ?_⟩⟩
    · rw [if_neg (by omega)]
    · rw [if_neg (by omega)]
    · rw [if_pos (by omega)]
    · rw [if_pos (by omega)]
  exact ⟨fun c5 => ⟨zRi (by omega) (by omega), next 9 (by omega) (by rw [if_neg c5])⟩, fun c5 => ⟨zRi (by omega) (by omega), next 4 (by omega) (by rw [if_pos c5])⟩⟩
end RX2
