/-! what a row of the reference holds: counts 0..2, rooms 3.., roads 27.., closures 315.., travellers 375.. -/
/-- a state of the class, held by the object k and its arrays, is a row of the reference -/
def RX (σ : zM) (k : Nat) (A : Int → Int) : Prop :=
  (σ (6 * k) 5 = A 0 ∧ σ (6 * k) 6 = A 1 ∧ σ (6 * k) 7 = A 2) ∧
  (∀ p c : Int, 0 ≤ p → p < 8 → 0 ≤ c → c < 3 → σ (6 * k + 1) (p * 3 + c) = A (3 + 3 * p + c)) ∧
  (∀ r : Int, 0 ≤ r → r < A 0 →
    (∀ c : Int, 0 ≤ c → c < 5 → σ (6 * k + 2) (r * 11 + c) = A (27 + 12 * r + c)) ∧
    (∀ s : Int, 0 ≤ s → s < 3 → σ (6 * k + 2) (r * 11 + 5 + 2 * s) = (if s < A (27 + 12 * r + 4) then A (27 + 12 * r + (5 + 2 * s)) else -6) ∧ σ (6 * k + 2) (r * 11 + 5 + 2 * s + 1) = (if s < A (27 + 12 * r + 4) then A (27 + 12 * r + (5 + 2 * s + 1)) else -6)) ∧
    σ (6 * k + 3) r = A (27 + 12 * r + 11)) ∧
  (∀ c j : Int, 0 ≤ c → c < A 1 → 0 ≤ j → j < 3 → σ (6 * k + 4) (c * 3 + j) = A (315 + 3 * c + j)) ∧
  (∀ t j : Int, 0 ≤ t → t < A 2 → 0 ≤ j → j < 8 → σ (6 * k + 5) (t * 8 + j) = A (375 + 8 * t + j))
/-- a road of a row keeps its bounds -/
def OKr (A : Int → Int) (B r : Int) : Prop :=
  (0 ≤ A (27 + 12 * r + 0) ∧ A (27 + 12 * r + 0) < 8) ∧ (0 ≤ A (27 + 12 * r + 1) ∧ A (27 + 12 * r + 1) < 8) ∧ (1 ≤ A (27 + 12 * r + 2) ∧ A (27 + 12 * r + 2) ≤ 600) ∧ (A (27 + 12 * r + 3) = 0 ∨ A (27 + 12 * r + 3) = 1) ∧ (1 ≤ A (27 + 12 * r + 4) ∧ A (27 + 12 * r + 4) ≤ 3) ∧
  (∀ s : Int, 0 ≤ s → s < A (27 + 12 * r + 4) → 0 ≤ A (27 + 12 * r + (5 + 2 * s)) ∧ A (27 + 12 * r + (5 + 2 * s)) < A (27 + 12 * r + (5 + 2 * s + 1)) ∧ A (27 + 12 * r + (5 + 2 * s + 1)) ≤ 1440) ∧
  (∀ s u : Int, 0 ≤ s → s < u → u < A (27 + 12 * r + 4) → A (27 + 12 * r + (5 + 2 * s + 1)) ≤ A (27 + 12 * r + (5 + 2 * u))) ∧
  (0 ≤ A (27 + 12 * r + 11) ∧ A (27 + 12 * r + 11) ≤ B)
def OKt (A : Int → Int) (t : Int) : Prop :=
  (0 ≤ A (375 + 8 * t + 0) ∧ A (375 + 8 * t + 0) < 8) ∧ (0 ≤ A (375 + 8 * t + 2) ∧ A (375 + 8 * t + 2) ≤ A (375 + 8 * t + 1) ∧ A (375 + 8 * t + 1) ≤ 2880) ∧ (0 ≤ A (375 + 8 * t + 3) ∧ A (375 + 8 * t + 3) ≤ A (375 + 8 * t + 5)) ∧ 0 ≤ A (375 + 8 * t + 4) ∧ 0 ≤ A (375 + 8 * t + 7) ∧ A (375 + 8 * t + 4) + A (375 + 8 * t + 5) + A (375 + 8 * t + 7) = A (375 + 8 * t + 1)
def OKA (A : Int → Int) (B : Int) : Prop :=
  (0 ≤ A 0 ∧ A 0 ≤ 24) ∧ (0 ≤ A 1 ∧ A 1 ≤ 20) ∧ (0 ≤ A 2 ∧ A 2 ≤ 10) ∧
  (∀ p : Int, 0 ≤ p → p < 8 → 0 ≤ A (3 + 3 * p + 0) ∧ A (3 + 3 * p + 0) ≤ A (3 + 3 * p + 1) ∧ A (3 + 3 * p + 1) ≤ 1440 ∧ 0 ≤ A (3 + 3 * p + 2) ∧ A (3 + 3 * p + 2) ≤ 1000) ∧
  (∀ r : Int, 0 ≤ r → r < A 0 → OKr A B r) ∧
  (∀ c : Int, 0 ≤ c → c < A 1 → (0 ≤ A (315 + 3 * c + 0) ∧ A (315 + 3 * c + 0) < A 0) ∧ 0 ≤ A (315 + 3 * c + 1) ∧ A (315 + 3 * c + 1) < A (315 + 3 * c + 2) ∧ A (315 + 3 * c + 2) ≤ 2880) ∧
  (∀ t : Int, 0 ≤ t → t < A 2 → OKt A t)
/-- the end of the span of road r in which the minute m is; 0: none -/
def spE (A : Int → Int) (r m : Int) : Int :=
  if 2 < A (27 + 12 * r + 4) ∧ A (27 + 12 * r + (5 + 2 * 2)) ≤ m ∧ m < A (27 + 12 * r + (5 + 2 * 2 + 1)) then A (27 + 12 * r + (5 + 2 * 2 + 1))
  else if 1 < A (27 + 12 * r + 4) ∧ A (27 + 12 * r + (5 + 2 * 1)) ≤ m ∧ m < A (27 + 12 * r + (5 + 2 * 1 + 1)) then A (27 + 12 * r + (5 + 2 * 1 + 1))
  else if 0 < A (27 + 12 * r + 4) ∧ A (27 + 12 * r + (5 + 2 * 0)) ≤ m ∧ m < A (27 + 12 * r + (5 + 2 * 0 + 1)) then A (27 + 12 * r + (5 + 2 * 0 + 1)) else 0
def clA (A : Int → Int) (r t : Int) : Prop := ∃ c : Int, 0 ≤ c ∧ c < A 1 ∧ A (315 + 3 * c + 0) = r ∧ A (315 + 3 * c + 1) ≤ t ∧ t < A (315 + 3 * c + 2)
/-- why road r cannot be entered at t; 0: it can -/
noncomputable def why (A : Int → Int) (r t : Int) : Int :=
  haveI := Classical.propDecidable (clA A r t)
  if spE A r (t % 1440) = 0 then 2 else if A (27 + 12 * r + 3) = 1 ∧ spE A r (t % 1440) < t % 1440 + A (27 + 12 * r + 2) then 3 else if clA A r t then 4 else if 2880 < t + A (27 + 12 * r + 2) then 5 else 0
/-- the gates' table is right -/
def GTab (σ : zM) (A : Int → Int) : Prop := ∀ t : Int, 0 ≤ t → t ≤ 2880 → ∀ r : Int, 0 ≤ r → r < 32 → (zB (σ 63 t) r = true ↔ r < A 0 ∧ why A r t = 0)
def XH (σ τ : zM) : Prop :=
  σ 54 2 = τ 79 4 ∧ (∀ i : Int, 0 ≤ i → i < 6 → 1 ≤ σ 55 i ∧ σ 55 i ≤ 6) ∧ (∀ i j : Int, 0 ≤ i → i < 6 → 0 ≤ j → j < 6 → σ 55 i = σ 55 j → i = j) ∧ ∀ i : Int, 0 ≤ i → i < τ 79 4 → RX σ (σ 55 i).toNat (fun j => τ 81 (i * 455 + j))
def XS (σ τ : zM) : Prop := σ 56 0 = 7 ∧ σ 56 1 = 8 ∧ (∀ s : Int, 0 ≤ s → s < 2 → σ 57 s = τ 83 s) ∧ (τ 83 0 = 1 → RX σ 7 (fun j => τ 82 (0 * 455 + j))) ∧ (τ 83 1 = 1 → RX σ 8 (fun j => τ 82 (1 * 455 + j)))
def XM (σ τ : zM) : Prop := σ 54 5 = τ 79 5 ∧ σ 58 1 = τ 79 7 ∧ ∀ i : Int, 0 ≤ i → i < τ 79 7 → σ 59 i = τ 84 i
def XG (σ τ : zM) : Prop := (σ 62 1 = 0 ∨ σ 62 1 = 1) ∧ (σ 62 1 = 1 → GTab σ (τ 80))
def TOK (B : Int) (τ : zM) : Prop :=
  OKA (τ 80) B ∧ (0 ≤ τ 79 4 ∧ τ 79 4 ≤ 6) ∧ (∀ i : Int, 0 ≤ i → i < τ 79 4 → OKA (fun j => τ 81 (i * 455 + j)) B) ∧ (∀ s : Int, 0 ≤ s → s < 2 → (τ 83 s = 0 ∨ τ 83 s = 1) ∧ (τ 83 s = 1 → OKA (fun j => τ 82 (s * 455 + j)) B)) ∧ (0 ≤ τ 79 7 ∧ τ 79 7 ≤ 80) ∧ ∀ i : Int, 0 ≤ i → i < τ 79 7 → 33 ≤ τ 84 i ∧ τ 84 i ≤ 126
/-- the class's part of σ stands for the reference's part of τ; carrying: z -/
def XRep (B z : Int) (σ τ : zM) : Prop := RX σ 0 (τ 80) ∧ XH σ τ ∧ XS σ τ ∧ XM σ τ ∧ XG σ τ ∧ TOK B τ ∧ σ 54 7 = z
/-- the reference's lasting part is the same -/
def TEq (τ τ' : zM) : Prop := τ' 80 = τ 80 ∧ τ' 81 = τ 81 ∧ τ' 82 = τ 82 ∧ τ' 83 = τ 83 ∧ τ' 84 = τ 84 ∧ τ' 79 4 = τ 79 4 ∧ τ' 79 5 = τ 79 5 ∧ τ' 79 7 = τ 79 7
/-- the class's lasting part is the same (the gates apart) -/
def XEq (σ σ' : zM) : Prop := (∀ n, n < 58 → σ' n = σ n) ∧ σ' 58 1 = σ 58 1 ∧ σ' 59 = σ 59
def Fr (σ σ' : zM) : Prop := ∀ n, 79 ≤ n ∨ n = 58 → σ' n = σ n
def FrM (σ σ' : zM) : Prop := ∀ n, n < 79 → σ' n = σ n
theorem RX_congr {σ σ' : zM} {k : Nat} {A : Int → Int} (e : ∀ n, 6 * k ≤ n → n ≤ 6 * k + 5 → σ' n = σ n) (h : RX σ k A) : RX σ' k A := by
  unfold RX at *
  rw [e (6 * k) (by omega) (by omega), e (6 * k + 1) (by omega) (by omega), e (6 * k + 2) (by omega) (by omega), e (6 * k + 3) (by omega) (by omega), e (6 * k + 4) (by omega) (by omega), e (6 * k + 5) (by omega) (by omega)]
  exact h
theorem RX_congrA {σ : zM} {k : Nat} {A A' : Int → Int} (e : ∀ i : Int, 0 ≤ i → i < 455 → A' i = A i) (h0 : A 0 ≤ 24) (h1 : A 1 ≤ 20) (h2 : A 2 ≤ 10) (h : RX σ k A) : RX σ k A' := by
  obtain ⟨⟨a0, a1, a2⟩, ap, ar, ac, at'⟩ := h
  have e0 := e 0 (by omega) (by omega)
  have e1 := e 1 (by omega) (by omega)
  have e2 := e 2 (by omega) (by omega)
  refine ⟨⟨by rw [e0, a0], by rw [e1, a1], by rw [e2, a2]⟩, fun p c p0 p1 c0 c1 => by rw [ap p c p0 p1 c0 c1, e _ (by omega) (by omega)], fun r r0 r1 => ?_, fun c j c0 c1 j0 j1 => ?_, fun t j t0 t1 j0 j1 => ?_⟩
  · rw [e0] at r1
    obtain ⟨b1, b2, b3⟩ := ar r r0 r1
    refine ⟨fun c c0 c1 => by rw [b1 c c0 c1, e _ (by omega) (by omega)], fun s s0 s1 => ?_, by rw [b3, e _ (by omega) (by omega)]⟩
    rw [e (27 + 12 * r + 4) (by omega) (by omega), e (27 + 12 * r + (5 + 2 * s)) (by omega) (by omega), e (27 + 12 * r + (5 + 2 * s + 1)) (by omega) (by omega)]
    exact b2 s s0 s1
  · rw [e1] at c1
    rw [ac c j c0 c1 j0 j1, e _ (by omega) (by omega)]
  · rw [e2] at t1
    rw [at' t j t0 t1 j0 j1, e _ (by omega) (by omega)]
theorem OKr_congr {A A' : Int → Int} {B r : Int} (e : ∀ i : Int, 27 ≤ i → i < 315 → A' i = A i) (r0 : 0 ≤ r) (r1 : r < 24) (h : OKr A B r) : OKr A' B r := by
  obtain ⟨h0, h1, h2, h3, h4, h5, h6, h7⟩ := h
  have g := fun c (c0 : 0 ≤ c) (c1 : c < 12) => e (27 + 12 * r + c) (by omega) (by omega)
  refine ⟨by rw [g 0 (by omega) (by omega)]; exact h0, by rw [g 1 (by omega) (by omega)]; exact h1, by rw [g 2 (by omega) (by omega)]; exact h2, by rw [g 3 (by omega) (by omega)]; exact h3, by rw [g 4 (by omega) (by omega)]; exact h4, fun s s0 s1 => ?_, fun s u s0 su u1 => ?_, by rw [g 11 (by omega) (by omega)]; exact h7⟩
  · rw [g 4 (by omega) (by omega)] at s1
    rw [g (5 + 2 * s) (by omega) (by omega), g (5 + 2 * s + 1) (by omega) (by omega)]
    exact h5 s s0 s1
  · rw [g 4 (by omega) (by omega)] at u1
    rw [g (5 + 2 * s + 1) (by omega) (by omega), g (5 + 2 * u) (by omega) (by omega)]
    exact h6 s u s0 su u1
theorem OKA_congr {A A' : Int → Int} {B : Int} (e : ∀ i : Int, 0 ≤ i → i < 455 → A' i = A i) (h : OKA A B) : OKA A' B := by
  obtain ⟨h0, h1, h2, hp, hr, hc, ht⟩ := h
  refine ⟨by rw [e 0 (by omega) (by omega)]; exact h0, by rw [e 1 (by omega) (by omega)]; exact h1, by rw [e 2 (by omega) (by omega)]; exact h2, fun p p0 p1 => ?_, fun r r0 r1 => ?_, fun c c0 c1 => ?_, fun t t0 t1 => ?_⟩
  · rw [e (3 + 3 * p + 0) (by omega) (by omega), e (3 + 3 * p + 1) (by omega) (by omega), e (3 + 3 * p + 2) (by omega) (by omega)]
    exact hp p p0 p1
  · rw [e 0 (by omega) (by omega)] at r1
    exact OKr_congr (fun i i0 i1 => e i (by omega) (by omega)) r0 (by omega) (hr r r0 r1)
  · rw [e 1 (by omega) (by omega)] at c1
    rw [e (315 + 3 * c + 0) (by omega) (by omega), e (315 + 3 * c + 1) (by omega) (by omega), e (315 + 3 * c + 2) (by omega) (by omega), e 0 (by omega) (by omega)]
    exact hc c c0 c1
  · rw [e 2 (by omega) (by omega)] at t1
    unfold OKt
    have g := fun c (c0 : 0 ≤ c) (c1 : c < 8) => e (375 + 8 * t + c) (by omega) (by omega)
    rw [g 0 (by omega) (by omega), g 1 (by omega) (by omega), g 2 (by omega) (by omega), g 3 (by omega) (by omega), g 4 (by omega) (by omega), g 5 (by omega) (by omega), g 7 (by omega) (by omega)]
    exact ht t t0 t1
theorem OKA_mono {A : Int → Int} {B B' : Int} (hB : B ≤ B') (h : OKA A B) : OKA A B' := by
  obtain ⟨h0, h1, h2, hp, hr, hc, ht⟩ := h
  refine ⟨h0, h1, h2, hp, fun r r0 r1 => ?_, hc, ht⟩
  obtain ⟨g0, g1, g2, g3, g4, g5, g6, g7⟩ := hr r r0 r1
  exact ⟨g0, g1, g2, g3, g4, g5, g6, g7.1, by omega⟩
theorem TOK_mono {B B' : Int} {τ : zM} (hB : B ≤ B') (h : TOK B τ) : TOK B' τ :=
  ⟨OKA_mono hB h.1, h.2.1, fun i i0 i1 => OKA_mono hB (h.2.2.1 i i0 i1), fun s s0 s1 => ⟨(h.2.2.2.1 s s0 s1).1, fun e => OKA_mono hB ((h.2.2.2.1 s s0 s1).2 e)⟩, h.2.2.2.2.1, h.2.2.2.2.2⟩
theorem TOK_eq {B : Int} {τ τ' : zM} (e : TEq τ τ') (h : TOK B τ) : TOK B τ' := by
  obtain ⟨e0, e1, e2, e3, e4, e5, e6, e7⟩ := e
  unfold TOK at *
  rw [e0, e1, e2, e3, e4, e5, e7]; exact h
theorem TEq_rfl (τ : zM) : TEq τ τ := ⟨rfl, rfl, rfl, rfl, rfl, rfl, rfl, rfl⟩
theorem TEq_trans {a b c : zM} (h : TEq a b) (g : TEq b c) : TEq a c := by
  obtain ⟨e0, e1, e2, e3, e4, e5, e6, e7⟩ := h
  obtain ⟨g0, g1, g2, g3, g4, g5, g6, g7⟩ := g
  exact ⟨g0.trans e0, g1.trans e1, g2.trans e2, g3.trans e3, g4.trans e4, g5.trans e5, g6.trans e6, g7.trans e7⟩
theorem TEq_of_Fr {σ σ' : zM} (h : Fr σ σ') : TEq σ σ' := by
  unfold TEq
  rw [h 80 (by omega), h 81 (by omega), h 82 (by omega), h 83 (by omega), h 84 (by omega), h 79 (by omega)]
  exact ⟨rfl, rfl, rfl, rfl, rfl, rfl, rfl, rfl⟩
theorem Fr_rfl (σ : zM) : Fr σ σ := fun _ _ => rfl
theorem Fr_trans {a b c : zM} (h : Fr a b) (g : Fr b c) : Fr a c := fun n hn => (g n hn).trans (h n hn)
theorem Fr_U {σ σ' : zM} {n : Nat} {j v : Int} (h : Fr σ σ') (hn : n < 79 ∧ n ≠ 58) : Fr σ (zU σ' n j v) := fun q hq => by rw [zU_n (by omega)]; exact h q hq
theorem FrM_rfl (σ : zM) : FrM σ σ := fun _ _ => rfl
theorem FrM_trans {a b c : zM} (h : FrM a b) (g : FrM b c) : FrM a c := fun n hn => (g n hn).trans (h n hn)
theorem FrM_U {σ σ' : zM} {n : Nat} {j v : Int} (h : FrM σ σ') (hn : 79 ≤ n) : FrM σ (zU σ' n j v) := fun q hq => by rw [zU_n (by omega)]; exact h q hq
/-- the class's part may be moved along what is the same -/
theorem XRep_eq {B z : Int} {σ σ' τ τ' : zM} (ex : XEq σ σ') (eg : XG σ' τ') (et : TEq τ τ') (h : XRep B z σ τ) : XRep B z σ' τ' := by
  obtain ⟨hR, hH, hS, hM, hG, hT, hz⟩ := h
  obtain ⟨ex1, ex2, ex3⟩ := ex
  have hT' := TOK_eq et hT
  obtain ⟨e0, e1, e2, e3, e4, e5, e6, e7⟩ := et
  have hb : ∀ i : Int, 0 ≤ i → i < 6 → (σ 55 i).toNat < 9 := fun i i0 i1 => by have := hH.2.1 i i0 i1; omega
  refine ⟨?_, ⟨?_, ?_, ?_, ?_⟩, ⟨?_, ?_, ?_, ?_, ?_⟩, ⟨?_, ?_, ?_⟩, eg, hT', ?_⟩
  · rw [e0]; exact RX_congr (fun n h1 h2 => ex1 n (by omega)) hR
  · rw [ex1 54 (by omega), e5]; exact hH.1
  · rw [ex1 55 (by omega)]; exact hH.2.1
  · rw [ex1 55 (by omega)]; exact hH.2.2.1
  · intro i i0 i1
    rw [e5] at i1
    rw [ex1 55 (by omega), e1]
    have hb' := hb i i0 (by have := hT.2.1; omega)
    exact RX_congr (fun n h1 h2 => ex1 n (by omega)) (hH.2.2.2 i i0 i1)
  · rw [ex1 56 (by omega)]; exact hS.1
  · rw [ex1 56 (by omega)]; exact hS.2.1
  · rw [ex1 57 (by omega), e3]; exact hS.2.2.1
  · rw [e3, e2]; exact fun q => RX_congr (fun n h1 h2 => ex1 n (by omega)) (hS.2.2.2.1 q)
  · rw [e3, e2]; exact fun q => RX_congr (fun n h1 h2 => ex1 n (by omega)) (hS.2.2.2.2 q)
  · rw [ex1 54 (by omega), e6]; exact hM.1
  · rw [ex2, e7]; exact hM.2.1
  · rw [ex3, e7, e4]; exact hM.2.2
  · rw [ex1 54 (by omega)]; exact hz
theorem XG_eq {σ σ' τ τ' : zM} (h2 : σ' 62 1 = σ 62 1) (h3 : σ' 63 = σ 63) (et : τ' 80 = τ 80) (h : XG σ τ) : XG σ' τ' := by
  unfold XG GTab at *
  rw [h2, h3, et]; exact h
/-- between two calls: the one stands for the other -/
def Rel (B : Int) (σ : zM) : Prop := XRep B 0 σ σ
