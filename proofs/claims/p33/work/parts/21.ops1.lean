/-! the changes: what they come to on the reference's part -/
theorem Fr_zU2 {a b : zM} {n : Nat} {j v : Int} (h : Fr a b) : Fr (zU a n j v) (zU b n j v) := by
  intro q hq
  funext i
  unfold zU
  rw [h q hq]
theorem Fr_zCp2 {a b : zM} {x y : Nat} {s d n : Int} (h : Fr a b) (hx : 79 ≤ x) : Fr (zCp a x y s d n) (zCp b x y s d n) := by
  intro q hq
  funext i
  unfold zCp
  rw [h q hq, h x (Or.inl hx)]
theorem Fr_mApp {a b : zM} (h : Fr a b) : Fr (mApp a) (mApp b) := by
  unfold mApp
  rw [h 79 (by omega)]
  exact Fr_zU2 (Fr_zCp2 h (by omega))
theorem Fr_mSh {a b : zM} (h : Fr a b) : Fr (mSh a) (mSh b) := Fr_zU2 (Fr_zCp2 h (by omega))
theorem Fr_mRec {a b : zM} (h : Fr a b) : Fr (mRec a) (mRec b) := by
  unfold mRec
  rw [h 79 (by omega)]
  split
  · exact Fr_mApp (Fr_mSh h)
  · exact Fr_mApp h
theorem FrM_mRec (a : zM) : FrM a (mRec a) := fun n hn => mRec_n (by omega) (by omega)
theorem Rel_fin {B : Int} {σ1 σ2 τ : zM} (h : XRep B 0 σ1 τ) (m : FrM σ1 σ2) (f : Fr τ σ2) : Rel B σ2 :=
  XRep_eq ⟨fun n hn => m n (by omega), by rw [m 58 (by omega)], m 59 (by omega)⟩ (XG_eq (by rw [m 62 (by omega)]) (m 63 (by omega)) (f 80 (by omega)) h.2.2.2.2.1) (TEq_of_Fr f) h
/-- the state of now changed, after remember -/
theorem XRep_now {B B' z : Int} {σ1 τ1 σ2 τ2 : zM} (h : XRep B z σ1 τ1) (g0 : σ1 62 1 = 0) (ex : ∀ n, 6 ≤ n → n < 79 → σ2 n = σ1 n) (et : ∀ n, 79 ≤ n → n ≠ 80 → τ2 n = τ1 n) (hR : RX σ2 0 (τ2 80)) (hA : OKA (τ2 80) B') (hB : B ≤ B') : XRep B' z σ2 τ2 := by
  obtain ⟨-, hH, hS, hM, hG, hT, hz⟩ := h
  have e79 := et 79 (by omega) (by omega)
  have e81 := et 81 (by omega) (by omega)
  have e82 := et 82 (by omega) (by omega)
  have e83 := et 83 (by omega) (by omega)
  have e84 := et 84 (by omega) (by omega)
  obtain ⟨-, ht⟩ := TOK_mono hB hT
  have ht4 := hT.2.1
  refine ⟨hR, ⟨?_, ?_, ?_, ?_⟩, ⟨?_, ?_, ?_, ?_, ?_⟩, ⟨?_, ?_, ?_⟩, XG_0 ?_, ⟨hA, ?_⟩, ?_⟩
  · rw [ex 54 (by omega) (by omega), e79]; exact hH.1
  · rw [ex 55 (by omega) (by omega)]; exact hH.2.1
  · rw [ex 55 (by omega) (by omega)]; exact hH.2.2.1
  · intro i i0 i1
    rw [e79] at i1
    rw [ex 55 (by omega) (by omega), e81]
    have hb := hH.2.1 i i0 (by omega)
    exact RX_congr (fun n h1 h2 => ex n (by omega) (by omega)) (hH.2.2.2 i i0 i1)
  · rw [ex 56 (by omega) (by omega)]; exact hS.1
  · rw [ex 56 (by omega) (by omega)]; exact hS.2.1
  · rw [ex 57 (by omega) (by omega), e83]; exact hS.2.2.1
  · rw [e83, e82]; exact fun q => RX_congr (fun n h1 h2 => ex n (by omega) (by omega)) (hS.2.2.2.1 q)
  · rw [e83, e82]; exact fun q => RX_congr (fun n h1 h2 => ex n (by omega) (by omega)) (hS.2.2.2.2 q)
  · rw [ex 54 (by omega) (by omega), e79]; exact hM.1
  · rw [ex 58 (by omega) (by omega), e79]; exact hM.2.1
  · rw [ex 59 (by omega) (by omega), e79, e84]; exact hM.2.2
  · rw [ex 62 (by omega) (by omega)]; exact g0
  · rw [e79, e81, e82, e83, e84]; exact ht
  · rw [ex 54 (by omega) (by omega)]; exact hz
noncomputable def zRec (z : Int) (τ : zM) : zM := if z = 0 then mRec τ else τ
theorem X_rem {B z : Int} {σ τ : zM} {Q : zM → Prop} (hz : z = 0 ∨ z = 1) (h : XRep B z σ τ) (k : ∀ σ1, XRep B z σ1 (zRec z τ) → Fr σ σ1 → σ1 62 1 = 0 → Q σ1) : wp_X_remember σ Q := by
  unfold zRec at k
  rcases hz with rfl | rfl
  · rw [if_pos rfl] at k; exact X_remember h k
  · rw [if_neg (by decide)] at k; exact X_remember1 h k
theorem Fr_zRec {z : Int} {a b : zM} (h : Fr a b) : Fr (zRec z a) (zRec z b) := by
  unfold zRec
  split
  · exact Fr_mRec h
  · exact h
theorem zRec_n {z : Int} {τ : zM} {q : Nat} (h1 : q ≠ 79) (h2 : q ≠ 81) : zRec z τ q = τ q := by
  unfold zRec
  split
  · exact mRec_n h1 h2
  · rfl
/-- one road of a state -/
def RXr (σ : zM) (A : Int → Int) (r : Int) : Prop :=
  (∀ c : Int, 0 ≤ c → c < 5 → σ 2 (r * 11 + c) = A (27 + 12 * r + c)) ∧
  (∀ s : Int, 0 ≤ s → s < 3 → σ 2 (r * 11 + 5 + 2 * s) = (if s < A (27 + 12 * r + 4) then A (27 + 12 * r + (5 + 2 * s)) else -6) ∧ σ 2 (r * 11 + 5 + 2 * s + 1) = (if s < A (27 + 12 * r + 4) then A (27 + 12 * r + (5 + 2 * s + 1)) else -6)) ∧
  σ 3 r = A (27 + 12 * r + 11)
theorem RXr_congr {σ σ' : zM} {A A' : Int → Int} {r : Int} (e2 : ∀ i, r * 11 ≤ i → i < r * 11 + 11 → σ' 2 i = σ 2 i) (e3 : σ' 3 r = σ 3 r) (eA : ∀ c : Int, 0 ≤ c → c < 12 → A' (27 + 12 * r + c) = A (27 + 12 * r + c)) (h : RXr σ A r) : RXr σ' A' r := by
  obtain ⟨h1, h2, h3⟩ := h
  refine ⟨fun c c0 c1 => ?_, fun s s0 s1 => ?_, ?_⟩
  · rw [e2 _ (by omega) (by omega), eA c c0 (by omega)]; exact h1 c c0 c1
  · rw [e2 _ (by omega) (by omega), e2 _ (by omega) (by omega), eA 4 (by omega) (by omega), eA _ (by omega) (by omega), eA _ (by omega) (by omega)]; exact h2 s s0 s1
  · rw [e3, eA 11 (by omega) (by omega)]; exact h3
theorem OKr_row {A A' : Int → Int} {B r : Int} (g : ∀ c : Int, 0 ≤ c → c < 12 → A' (27 + 12 * r + c) = A (27 + 12 * r + c)) (h : OKr A B r) : OKr A' B r := by
  obtain ⟨h0, h1, h2, h3, h4, h5, h6, h7⟩ := h
  refine ⟨by rw [g 0 (by omega) (by omega)]; exact h0, by rw [g 1 (by omega) (by omega)]; exact h1, by rw [g 2 (by omega) (by omega)]; exact h2, by rw [g 3 (by omega) (by omega)]; exact h3, by rw [g 4 (by omega) (by omega)]; exact h4, fun s s0 s1 => ?_, fun s u s0 su u1 => ?_, by rw [g 11 (by omega) (by omega)]; exact h7⟩
  · rw [g 4 (by omega) (by omega)] at s1
    rw [g (5 + 2 * s) (by omega) (by omega), g (5 + 2 * s + 1) (by omega) (by omega)]
    exact h5 s s0 s1
  · rw [g 4 (by omega) (by omega)] at u1
    rw [g (5 + 2 * s + 1) (by omega) (by omega), g (5 + 2 * u) (by omega) (by omega)]
    exact h6 s u s0 su u1
theorem OKr_mono {A : Int → Int} {B B' r : Int} (hB : B ≤ B') (h : OKr A B r) : OKr A B' r := by
  obtain ⟨g0, g1, g2, g3, g4, g5, g6, g7⟩ := h
  exact ⟨g0, g1, g2, g3, g4, g5, g6, g7.1, by omega⟩
theorem OKt_row {A A' : Int → Int} {t : Int} (g : ∀ c : Int, 0 ≤ c → c < 8 → A' (375 + 8 * t + c) = A (375 + 8 * t + c)) (h : OKt A t) : OKt A' t := by
  unfold OKt
  rw [g 0 (by omega) (by omega), g 1 (by omega) (by omega), g 2 (by omega) (by omega), g 3 (by omega) (by omega), g 4 (by omega) (by omega), g 5 (by omega) (by omega), g 7 (by omega) (by omega)]
  exact h
/-- a state whose parts are the same or right anew -/
theorem RX_parts {σ σ' : zM} {A A' : Int → Int} (h : RX σ 0 A) (b : A 0 ≤ 24 ∧ A 1 ≤ 20 ∧ A 2 ≤ 10)
    (hc : σ' 0 5 = A' 0 ∧ σ' 0 6 = A' 1 ∧ σ' 0 7 = A' 2)
    (hp : (σ' 1 = σ 1 ∧ ∀ i : Int, 3 ≤ i → i < 27 → A' i = A i) ∨ ∀ p c : Int, 0 ≤ p → p < 8 → 0 ≤ c → c < 3 → σ' 1 (p * 3 + c) = A' (3 + 3 * p + c))
    (hr : (σ' 2 = σ 2 ∧ σ' 3 = σ 3 ∧ A' 0 = A 0 ∧ ∀ i : Int, 27 ≤ i → i < 315 → A' i = A i) ∨ ∀ r : Int, 0 ≤ r → r < A' 0 → RXr σ' A' r)
    (hl : (σ' 4 = σ 4 ∧ A' 1 = A 1 ∧ ∀ i : Int, 315 ≤ i → i < 375 → A' i = A i) ∨ ∀ c j : Int, 0 ≤ c → c < A' 1 → 0 ≤ j → j < 3 → σ' 4 (c * 3 + j) = A' (315 + 3 * c + j))
    (ht : (σ' 5 = σ 5 ∧ A' 2 = A 2 ∧ ∀ i : Int, 375 ≤ i → i < 455 → A' i = A i) ∨ ∀ t j : Int, 0 ≤ t → t < A' 2 → 0 ≤ j → j < 8 → σ' 5 (t * 8 + j) = A' (375 + 8 * t + j)) : RX σ' 0 A' := by
  obtain ⟨-, ap, ar, ac, at'⟩ := h
  refine ⟨hc, ?_, ?_, ?_, ?_⟩
  · rcases hp with ⟨e, eA⟩ | hp
    · intro p c p0 p1 c0 c1
      show σ' 1 _ = _
      rw [e, eA _ (by omega) (by omega)]; exact ap p c p0 p1 c0 c1
    · exact hp
  · rcases hr with ⟨e2, e3, e0, eA⟩ | hr
    · intro r r0 r1
      rw [e0] at r1
      exact RXr_congr (A := A) (fun i _ _ => by rw [e2]) (by rw [e3]) (fun c c0 c1 => eA _ (by omega) (by omega)) (ar r r0 r1)
    · exact hr
  · rcases hl with ⟨e, e1, eA⟩ | hl
    · intro c j c0 c1 j0 j1
      rw [e1] at c1
      show σ' 4 _ = _
      rw [e, eA _ (by omega) (by omega)]; exact ac c j c0 c1 j0 j1
    · exact hl
  · rcases ht with ⟨e, e2, eA⟩ | ht
    · intro t j t0 t1 j0 j1
      rw [e2] at t1
      show σ' 5 _ = _
      rw [e, eA _ (by omega) (by omega)]; exact at' t j t0 t1 j0 j1
    · exact ht
theorem OKA_parts {A A' : Int → Int} {B : Int} (h : OKA A B)
    (hc : (0 ≤ A' 0 ∧ A' 0 ≤ 24) ∧ (0 ≤ A' 1 ∧ A' 1 ≤ 20) ∧ (0 ≤ A' 2 ∧ A' 2 ≤ 10))
    (hp : (∀ i : Int, 3 ≤ i → i < 27 → A' i = A i) ∨ ∀ p : Int, 0 ≤ p → p < 8 → 0 ≤ A' (3 + 3 * p + 0) ∧ A' (3 + 3 * p + 0) ≤ A' (3 + 3 * p + 1) ∧ A' (3 + 3 * p + 1) ≤ 1440 ∧ 0 ≤ A' (3 + 3 * p + 2) ∧ A' (3 + 3 * p + 2) ≤ 1000)
    (hr : (A' 0 = A 0 ∧ ∀ i : Int, 27 ≤ i → i < 315 → A' i = A i) ∨ ∀ r : Int, 0 ≤ r → r < A' 0 → OKr A' B r)
    (hl : (A 0 ≤ A' 0 ∧ A' 1 = A 1 ∧ ∀ i : Int, 315 ≤ i → i < 375 → A' i = A i) ∨ ∀ c : Int, 0 ≤ c → c < A' 1 → (0 ≤ A' (315 + 3 * c + 0) ∧ A' (315 + 3 * c + 0) < A' 0) ∧ 0 ≤ A' (315 + 3 * c + 1) ∧ A' (315 + 3 * c + 1) < A' (315 + 3 * c + 2) ∧ A' (315 + 3 * c + 2) ≤ 2880)
    (ht : (A' 2 = A 2 ∧ ∀ i : Int, 375 ≤ i → i < 455 → A' i = A i) ∨ ∀ t : Int, 0 ≤ t → t < A' 2 → OKt A' t) : OKA A' B := by
  obtain ⟨h0, h1, h2, ap, ar, ac, at'⟩ := h
  refine ⟨hc.1, hc.2.1, hc.2.2, ?_, ?_, ?_, ?_⟩
  · rcases hp with e | hp
    · intro p p0 p1
      rw [e _ (by omega) (by omega), e _ (by omega) (by omega), e _ (by omega) (by omega)]; exact ap p p0 p1
    · exact hp
  · rcases hr with ⟨e0, e⟩ | hr
    · intro r r0 r1
      rw [e0] at r1
      exact OKr_row (fun c c0 c1 => e _ (by omega) (by omega)) (ar r r0 r1)
    · exact hr
  · rcases hl with ⟨e0, e1, e⟩ | hl
    · intro c c0 c1
      rw [e1] at c1
      rw [e (315 + 3 * c + 0) (by omega) (by omega), e (315 + 3 * c + 1) (by omega) (by omega), e (315 + 3 * c + 2) (by omega) (by omega)]
      have := ac c c0 c1
      exact ⟨⟨this.1.1, by omega⟩, this.2⟩
    · exact hl
  · rcases ht with ⟨e2, e⟩ | ht
    · intro t t0 t1
      rw [e2] at t1
      exact OKt_row (fun c c0 c1 => e _ (by omega) (by omega)) (at' t t0 t1)
    · exact ht
def mRoom (τ : zM) (p f t l : Int) : zM := zU (zU (zU τ 80 (3 + 3 * p) f) 80 (3 + 3 * p + 1) t) 80 (3 + 3 * p + 2) l