/-! the text, read: T the characters, L the length; an answer: whether it could be read, the place behind (or of the fault), what was read -/
abbrev hD (T : Int → Int) (L lo hi a : Int) : Prop := a < L ∧ lo ≤ T a ∧ T a ≤ hi
def nL (T : Int → Int) (L : Int) : Nat → Int → Int → Int × Int × Int
  | 0, v, a => (1, a, v)
  | k + 1, v, a => if v ≤ 0 then (1, a, v) else if hD T L 48 57 a then (if 2880 < 10 * v + T a - 48 then (0, a, v) else nL T L k (10 * v + T a - 48) (a + 1)) else (1, a, v)
def pN (T : Int → Int) (L a : Int) : Int × Int × Int := if hD T L 48 57 a then nL T L 4 (T a - 48) (a + 1) else (0, a, 0)
def pK (T : Int → Int) (L a : Int) : Int × Int × Int :=
  if hD T L 48 50 a then
    if hD T L 48 (if T a - 48 = 2 then 52 else 57) (a + 1) then
      if hD T L 48 (if 10 * (T a - 48) + (T (a + 1) - 48) = 24 then 48 else 53) (a + 2) then
        if hD T L 48 (if 10 * (T a - 48) + (T (a + 1) - 48) = 24 then 48 else 57) (a + 3) then (1, a + 4, 60 * (10 * (T a - 48) + (T (a + 1) - 48)) + 10 * (T (a + 2) - 48) + (T (a + 3) - 48))
        else (0, a + 3, 0)
      else (0, a + 2, 0)
    else (0, a + 1, 0)
  else (0, a, 0)
/-- a span of a day: two clocks -/
def pP (T : Int → Int) (L a : Int) : Int × Int × Int × Int :=
  if (pK T L a).1 = 0 then (0, (pK T L a).2.1, 0, 0)
  else if hD T L 45 45 (pK T L a).2.1 then
    if (pK T L ((pK T L a).2.1 + 1)).1 = 0 then (0, (pK T L ((pK T L a).2.1 + 1)).2.1, 0, 0)
    else (1, (pK T L ((pK T L a).2.1 + 1)).2.1, (pK T L a).2.2, (pK T L ((pK T L a).2.1 + 1)).2.2)
  else (0, (pK T L a).2.1, 0, 0)
def cW (C : Int → Int) (h x y : Int) : Int → Int := fun i => if i = 2 * h then x else if i = 2 * h + 1 then y else C i
/-- spans, from the h-th on -/
def pH (T : Int → Int) (L : Int) : Nat → Int → Int → (Int → Int) → Int × Int × Int × (Int → Int)
  | 0, h, a, C => (0, a, h, C)
  | k + 1, h, a, C => if (pP T L a).1 = 0 then (0, (pP T L a).2.1, h, C)
    else if h + 1 < 3 ∧ hD T L 44 44 (pP T L a).2.1 then pH T L k (h + 1) ((pP T L a).2.1 + 1) (cW C h (pP T L a).2.2.1 (pP T L a).2.2.2)
    else (1, (pP T L a).2.1, h + 1, cW C h (pP T L a).2.2.1 (pP T L a).2.2.2)
/-- what an order says: its kind, three numbers, how many spans, whether strict, the clocks -/
def oD (k x y z h s : Int) (C : Int → Int) : Int → Int := fun i => if i = 0 then k else if i = 1 then x else if i = 2 then y else if i = 3 then z else if i = 4 then h else if i = 5 then s else C (i - 6)
abbrev fl (a : Int) : Int × Int × (Int → Int) := (0, a, fun _ => 0)
def oS (T : Int → Int) (L a : Int) : Int × Int × (Int → Int) :=
  if (pN T L a).1 = 0 then fl (pN T L a).2.1
  else if hD T L 58 58 (pN T L a).2.1 then
    if (pH T L 3 0 ((pN T L a).2.1 + 1) (fun _ => 0)).1 = 0 then fl (pH T L 3 0 ((pN T L a).2.1 + 1) (fun _ => 0)).2.1
    else if hD T L 33 33 (pH T L 3 0 ((pN T L a).2.1 + 1) (fun _ => 0)).2.1 then (1, (pH T L 3 0 ((pN T L a).2.1 + 1) (fun _ => 0)).2.1 + 1, oD 115 (pN T L a).2.2 0 0 (pH T L 3 0 ((pN T L a).2.1 + 1) (fun _ => 0)).2.2.1 1 (pH T L 3 0 ((pN T L a).2.1 + 1) (fun _ => 0)).2.2.2)
    else (1, (pH T L 3 0 ((pN T L a).2.1 + 1) (fun _ => 0)).2.1, oD 115 (pN T L a).2.2 0 0 (pH T L 3 0 ((pN T L a).2.1 + 1) (fun _ => 0)).2.2.1 0 (pH T L 3 0 ((pN T L a).2.1 + 1) (fun _ => 0)).2.2.2)
  else fl (pN T L a).2.1
def oX (T : Int → Int) (L a : Int) : Int × Int × (Int → Int) :=
  if (pN T L a).1 = 0 then fl (pN T L a).2.1
  else if hD T L 58 58 (pN T L a).2.1 then
    if (pN T L ((pN T L a).2.1 + 1)).1 = 0 then fl (pN T L ((pN T L a).2.1 + 1)).2.1
    else if hD T L 45 45 (pN T L ((pN T L a).2.1 + 1)).2.1 then
      if (pN T L ((pN T L ((pN T L a).2.1 + 1)).2.1 + 1)).1 = 0 then fl (pN T L ((pN T L ((pN T L a).2.1 + 1)).2.1 + 1)).2.1
      else (1, (pN T L ((pN T L ((pN T L a).2.1 + 1)).2.1 + 1)).2.1, oD 120 (pN T L a).2.2 (pN T L ((pN T L a).2.1 + 1)).2.2 (pN T L ((pN T L ((pN T L a).2.1 + 1)).2.1 + 1)).2.2 0 0 (fun _ => 0))
    else fl (pN T L ((pN T L a).2.1 + 1)).2.1
  else fl (pN T L a).2.1
def oG (T : Int → Int) (L k s a : Int) : Int × Int × (Int → Int) :=
  if hD T L 48 57 a then
    if hD T L s s (a + 1) then
      if (pN T L (a + 2)).1 = 0 then fl (pN T L (a + 2)).2.1
      else (1, (pN T L (a + 2)).2.1, oD k (T a - 48) (pN T L (a + 2)).2.2 0 0 0 (fun _ => 0))
    else fl (a + 1)
  else fl a
def pO (T : Int → Int) (L a : Int) : Int × Int × (Int → Int) :=
  if a < L then
    if T a = 115 then oS T L (a + 1) else if T a = 120 then oX T L (a + 1) else if T a = 103 then oG T L 103 62 (a + 1) else if T a = 119 then oG T L 119 43 (a + 1) else fl a
  else fl a
/-- the fault of the orders from a on -/
def pF (T : Int → Int) (L : Int) : Nat → Int → Int
  | 0, _ => -6
  | k + 1, a => if (pO T L a).1 = 0 then (pO T L a).2.1 else if L ≤ (pO T L a).2.1 then -6 else if hD T L 59 59 (pO T L a).2.1 then pF T L k ((pO T L a).2.1 + 1) else (pO T L a).2.1
theorem zX10 {P : Prop} (c : (1 : Int) = 0) : P := absurd c (by decide)
theorem zX01 {P : Prop} (c : (0 : Int) = 1) : P := absurd c (by decide)
theorem zLe0 {b : Int} (h : (0 : Int) ≤ b) : (0 : Int) ≤ b := h
section PARSE
variable {T : Int → Int} {L : Int}
theorem nL_rg : ∀ (k : Nat) (v a : Int), 0 ≤ v → v ≤ 2880 → a ≤ L → ((nL T L k v a).1 = 0 ∨ (nL T L k v a).1 = 1) ∧ (a ≤ (nL T L k v a).2.1 ∧ (nL T L k v a).2.1 ≤ L) ∧ (0 ≤ (nL T L k v a).2.2 ∧ (nL T L k v a).2.2 ≤ 2880) ∧ ((nL T L k v a).1 = 0 → hD T L 48 57 (nL T L k v a).2.1) := by
  intro k
  induction k with
  | zero => intro v a v0 v1 a1; exact ⟨Or.inr rfl, ⟨Int.le_refl _, a1⟩, ⟨v0, v1⟩, by first | exact fun c => zX10 c | exact fun c => zX01 c⟩
  | succ k ih =>
    intro v a v0 v1 a1
    unfold nL
    by_cases c1 : v ≤ 0
    · rw [if_pos c1]; exact ⟨Or.inr rfl, ⟨Int.le_refl _, a1⟩, ⟨v0, v1⟩, by first | exact fun c => zX10 c | exact fun c => zX01 c⟩
    rw [if_neg c1]
    by_cases c2 : hD T L 48 57 a
    · rw [if_pos c2]
      by_cases c3 : 2880 < 10 * v + T a - 48
      · rw [if_pos c3]; exact ⟨Or.inl rfl, ⟨Int.le_refl _, a1⟩, ⟨v0, v1⟩, fun _ => c2⟩
      · rw [if_neg c3]
        have h1 := c2.1
        have h2 := c2.2.1
        have := ih (10 * v + T a - 48) (a + 1) (by omega) (by omega) (by omega)
        exact ⟨this.1, ⟨by have := this.2.1.1; omega, this.2.1.2⟩, this.2.2⟩
    · rw [if_neg c2]; exact ⟨Or.inr rfl, ⟨Int.le_refl _, a1⟩, ⟨v0, v1⟩, by first | exact fun c => zX10 c | exact fun c => zX01 c⟩
theorem pN_rg {a : Int} (a1 : a ≤ L) : ((pN T L a).1 = 0 ∨ (pN T L a).1 = 1) ∧ (a ≤ (pN T L a).2.1 ∧ (pN T L a).2.1 ≤ L) ∧ (0 ≤ (pN T L a).2.2 ∧ (pN T L a).2.2 ≤ 2880) ∧ ((pN T L a).1 = 1 → a < (pN T L a).2.1) := by
  unfold pN
  by_cases c : hD T L 48 57 a
  · rw [if_pos c]
    have h1 := c.1
    have h2 := c.2.1
    have h3 := c.2.2
    have := nL_rg (T := T) (L := L) 4 (T a - 48) (a + 1) (by omega) (by omega) (by omega)
    exact ⟨this.1, ⟨by have := this.2.1.1; omega, this.2.1.2⟩, this.2.2.1, fun _ => by have := this.2.1.1; omega⟩
  · rw [if_neg c]; exact ⟨Or.inl rfl, ⟨Int.le_refl _, a1⟩, ⟨Int.le_refl 0, zLe0 (by decide)⟩, by first | exact fun c => zX10 c | exact fun c => zX01 c⟩
theorem pK_rg {a : Int} (a1 : a ≤ L) : ((pK T L a).1 = 0 ∨ (pK T L a).1 = 1) ∧ (a ≤ (pK T L a).2.1 ∧ (pK T L a).2.1 ≤ L) ∧ (0 ≤ (pK T L a).2.2 ∧ (pK T L a).2.2 ≤ 1440) ∧ ((pK T L a).1 = 1 → a < (pK T L a).2.1) := by
  unfold pK
  by_cases c1 : hD T L 48 50 a
  rotate_left
  · rw [if_neg c1]; exact ⟨Or.inl rfl, ⟨Int.le_refl _, a1⟩, ⟨Int.le_refl 0, zLe0 (by decide)⟩, by first | exact fun c => zX10 c | exact fun c => zX01 c⟩
  rw [if_pos c1]
  have h1 := c1.1
  have h2 := c1.2.1
  have h3 := c1.2.2
  by_cases c2 : hD T L 48 (if T a - 48 = 2 then 52 else 57) (a + 1)
  rotate_left
  · rw [if_neg c2]; exact ⟨Or.inl rfl, ⟨by show a ≤ a + 1; omega, by show a + 1 ≤ L; omega⟩, ⟨Int.le_refl 0, zLe0 (by decide)⟩, by first | exact fun c => zX10 c | exact fun c => zX01 c⟩
  rw [if_pos c2]
  have g1 := c2.1
  have g2 := c2.2.1
  have g3 := c2.2.2
  by_cases c3 : hD T L 48 (if 10 * (T a - 48) + (T (a + 1) - 48) = 24 then 48 else 53) (a + 2)
  rotate_left
  · rw [if_neg c3]; exact ⟨Or.inl rfl, ⟨by show a ≤ a + 2; omega, by show a + 2 ≤ L; omega⟩, ⟨Int.le_refl 0, zLe0 (by decide)⟩, by first | exact fun c => zX10 c | exact fun c => zX01 c⟩
  rw [if_pos c3]
  have e1 := c3.1
  have e2 := c3.2.1
  have e3 := c3.2.2
  by_cases c4 : hD T L 48 (if 10 * (T a - 48) + (T (a + 1) - 48) = 24 then 48 else 57) (a + 3)
  rotate_left
  · rw [if_neg c4]; exact ⟨Or.inl rfl, ⟨by show a ≤ a + 3; omega, by show a + 3 ≤ L; omega⟩, ⟨Int.le_refl 0, zLe0 (by decide)⟩, by first | exact fun c => zX10 c | exact fun c => zX01 c⟩
  rw [if_pos c4]
  have f1 := c4.1
  have f2 := c4.2.1
  have f3 := c4.2.2
  refine ⟨Or.inr rfl, ⟨by show a ≤ a + 4; omega, by show a + 4 ≤ L; omega⟩, ⟨?_, ?_⟩, fun _ => by show a < a + 4; omega⟩
  · show 0 ≤ 60 * (10 * (T a - 48) + (T (a + 1) - 48)) + 10 * (T (a + 2) - 48) + (T (a + 3) - 48)
    omega
  · show 60 * (10 * (T a - 48) + (T (a + 1) - 48)) + 10 * (T (a + 2) - 48) + (T (a + 3) - 48) ≤ 1440
    by_cases h24 : 10 * (T a - 48) + (T (a + 1) - 48) = 24
    · rw [if_pos h24] at e3 f3
      omega
    · rw [if_neg h24] at e3 f3
      by_cases ht : T a - 48 = 2
      · rw [if_pos ht] at g3
        omega
      · rw [if_neg ht] at g3
        omega
theorem pP_rg {a : Int} (a1 : a ≤ L) : ((pP T L a).1 = 0 ∨ (pP T L a).1 = 1) ∧ (a ≤ (pP T L a).2.1 ∧ (pP T L a).2.1 ≤ L) ∧ (0 ≤ (pP T L a).2.2.1 ∧ (pP T L a).2.2.1 ≤ 1440) ∧ (0 ≤ (pP T L a).2.2.2 ∧ (pP T L a).2.2.2 ≤ 1440) ∧ ((pP T L a).1 = 1 → a < (pP T L a).2.1) := by
  have h1 := pK_rg (T := T) a1
  unfold pP
  by_cases c1 : (pK T L a).1 = 0
  · rw [if_pos c1]; exact ⟨Or.inl rfl, h1.2.1, ⟨Int.le_refl 0, zLe0 (by decide)⟩, ⟨Int.le_refl 0, zLe0 (by decide)⟩, by first | exact fun c => zX10 c | exact fun c => zX01 c⟩
  rw [if_neg c1]
  by_cases c2 : hD T L 45 45 (pK T L a).2.1
  rotate_left
  · rw [if_neg c2]; exact ⟨Or.inl rfl, h1.2.1, ⟨Int.le_refl 0, zLe0 (by decide)⟩, ⟨Int.le_refl 0, zLe0 (by decide)⟩, by first | exact fun c => zX10 c | exact fun c => zX01 c⟩
  rw [if_pos c2]
  have h2 := pK_rg (T := T) (L := L) (a := (pK T L a).2.1 + 1) (by have := c2.1; omega)
  by_cases c3 : (pK T L ((pK T L a).2.1 + 1)).1 = 0
  · rw [if_pos c3]; exact ⟨Or.inl rfl, ⟨by have := h1.2.1.1; have := h2.2.1.1; show a ≤ (pK T L ((pK T L a).2.1 + 1)).2.1; omega, h2.2.1.2⟩, ⟨Int.le_refl 0, zLe0 (by decide)⟩, ⟨Int.le_refl 0, zLe0 (by decide)⟩, by first | exact fun c => zX10 c | exact fun c => zX01 c⟩
  rw [if_neg c3]
  exact ⟨Or.inr rfl, ⟨by have := h1.2.1.1; have := h2.2.1.1; show a ≤ (pK T L ((pK T L a).2.1 + 1)).2.1; omega, h2.2.1.2⟩, h1.2.2.1, h2.2.2.1, fun _ => by have := h1.2.1.1; have := h2.2.1.1; show a < (pK T L ((pK T L a).2.1 + 1)).2.1; omega⟩
theorem pH_rg : ∀ (k : Nat) (h a : Int) (C : Int → Int), a ≤ L → 0 ≤ h → h + k ≤ 3 → (∀ i, 0 ≤ i → i < 2 * h → 0 ≤ C i ∧ C i ≤ 1440) → ((pH T L k h a C).1 = 0 ∨ (pH T L k h a C).1 = 1) ∧ (a ≤ (pH T L k h a C).2.1 ∧ (pH T L k h a C).2.1 ≤ L) ∧ ((pH T L k h a C).1 = 1 → a < (pH T L k h a C).2.1 ∧ (1 ≤ (pH T L k h a C).2.2.1 ∧ (pH T L k h a C).2.2.1 ≤ 3) ∧ ∀ i, 0 ≤ i → i < 2 * (pH T L k h a C).2.2.1 → 0 ≤ (pH T L k h a C).2.2.2 i ∧ (pH T L k h a C).2.2.2 i ≤ 1440) := by
  intro k
  induction k with
  | zero => intro h a C a1 h0 h1 hC; exact ⟨Or.inl rfl, ⟨Int.le_refl _, a1⟩, by first | exact fun c => zX10 c | exact fun c => zX01 c⟩
  | succ k ih =>
    intro h a C a1 h0 h1 hC
    have hp := pP_rg (T := T) a1
    unfold pH
    by_cases c1 : (pP T L a).1 = 0
    · rw [if_pos c1]; exact ⟨Or.inl rfl, hp.2.1, by first | exact fun c => zX10 c | exact fun c => zX01 c⟩
    rw [if_neg c1]
    have hp1 : (pP T L a).1 = 1 := hp.1.elim (fun c => absurd c c1) id
    have hlt := hp.2.2.2.2 hp1
    have hC' : ∀ i, 0 ≤ i → i < 2 * (h + 1) → 0 ≤ cW C h (pP T L a).2.2.1 (pP T L a).2.2.2 i ∧ cW C h (pP T L a).2.2.1 (pP T L a).2.2.2 i ≤ 1440 := by
      intro i i0 i1
      unfold cW
      by_cases d1 : i = 2 * h
      · rw [if_pos d1]; exact hp.2.2.1
      rw [if_neg d1]
      by_cases d2 : i = 2 * h + 1
      · rw [if_pos d2]; exact hp.2.2.2.1
      rw [if_neg d2]
      exact hC i i0 (by omega)
    by_cases c2 : h + 1 < 3 ∧ hD T L 44 44 (pP T L a).2.1
    · rw [if_pos c2]
      have := ih (h + 1) ((pP T L a).2.1 + 1) _ (by have := c2.2.1; omega) (by omega) (by omega) hC'
      exact ⟨this.1, ⟨by have := this.2.1.1; omega, this.2.1.2⟩, fun c => ⟨by have := this.2.1.1; omega, (this.2.2 c).2⟩⟩
    · rw [if_neg c2]
      exact ⟨Or.inr rfl, hp.2.1, fun _ => ⟨hlt, ⟨by show 1 ≤ h + 1; omega, by show h + 1 ≤ 3; omega⟩, hC'⟩⟩
/-- an order that can be read -/
def oOK (D : Int → Int) : Prop := (D 0 = 115 ∨ D 0 = 120 ∨ D 0 = 103 ∨ D 0 = 119) ∧ (D 0 = 115 → (1 ≤ D 4 ∧ D 4 ≤ 3) ∧ (D 5 = 0 ∨ D 5 = 1) ∧ ∀ i, 0 ≤ i → i < 2 * D 4 → 0 ≤ D (6 + i) ∧ D (6 + i) ≤ 1440)
def oRg (T : Int → Int) (L a : Int) (o : Int × Int × (Int → Int)) : Prop := (o.1 = 0 ∨ o.1 = 1) ∧ (a ≤ o.2.1 ∧ o.2.1 ≤ L) ∧ (o.1 = 1 → a < o.2.1 ∧ oOK o.2.2)
theorem oRg_fl {a b : Int} (h0 : a ≤ b) (h1 : b ≤ L) : oRg T L a (fl b) := ⟨Or.inl rfl, ⟨h0, h1⟩, by first | exact fun c => zX10 c | exact fun c => zX01 c⟩
theorem oS_rg {a : Int} (a1 : a ≤ L) : oRg T L a (oS T L a) := by
  have hn := pN_rg (T := T) a1
  unfold oS
  by_cases c1 : (pN T L a).1 = 0
  · rw [if_pos c1]; exact oRg_fl hn.2.1.1 hn.2.1.2
  rw [if_neg c1]
  by_cases c2 : hD T L 58 58 (pN T L a).2.1
  rotate_left
  · rw [if_neg c2]; exact oRg_fl hn.2.1.1 hn.2.1.2
  rw [if_pos c2]
  have hh := pH_rg (T := T) (L := L) 3 0 ((pN T L a).2.1 + 1) (fun _ => 0) (by have := c2.1; omega) (by omega) (by omega) (fun i i0 i1 => by omega)
  generalize pH T L 3 0 ((pN T L a).2.1 + 1) (fun _ => 0) = H at hh ⊢
  have hle := hn.2.1.1
  have hle2 := hh.2.1.1
  by_cases c3 : H.1 = 0
  · rw [if_pos c3]; exact oRg_fl (by omega) hh.2.1.2
  rw [if_neg c3]
  have h1 : H.1 = 1 := hh.1.elim (fun c => absurd c c3) id
  obtain ⟨g1, g2, g3⟩ := hh.2.2 h1
  have ok : ∀ s : Int, (s = 0 ∨ s = 1) → oOK (oD 115 (pN T L a).2.2 0 0 H.2.2.1 s H.2.2.2) := by
    intro s hs
    refine ⟨Or.inl rfl, fun _ => ⟨g2, hs, fun i i0 i1 => ?_⟩⟩
    have e : oD 115 (pN T L a).2.2 0 0 H.2.2.1 s H.2.2.2 (6 + i) = H.2.2.2 i := by
      unfold oD
      rw [if_neg (by omega), if_neg (by omega), if_neg (by omega), if_neg (by omega), if_neg (by omega), if_neg (by omega)]
      rw [show 6 + i - 6 = i by omega]
    rw [e]
    exact g3 i i0 i1
  by_cases c4 : hD T L 33 33 H.2.1
  · rw [if_pos c4]
    exact ⟨Or.inr rfl, ⟨by show a ≤ H.2.1 + 1; omega, by have := c4.1; show H.2.1 + 1 ≤ L; omega⟩, fun _ => ⟨by show a < H.2.1 + 1; omega, ok 1 (Or.inr rfl)⟩⟩
  · rw [if_neg c4]
    exact ⟨Or.inr rfl, ⟨by show a ≤ H.2.1; omega, hh.2.1.2⟩, fun _ => ⟨by show a < H.2.1; omega, ok 0 (Or.inl rfl)⟩⟩
theorem oX_rg {a : Int} (a1 : a ≤ L) : oRg T L a (oX T L a) := by
  have hn := pN_rg (T := T) a1
  unfold oX
  by_cases c1 : (pN T L a).1 = 0
  · rw [if_pos c1]; exact oRg_fl hn.2.1.1 hn.2.1.2
  rw [if_neg c1]
  by_cases c2 : hD T L 58 58 (pN T L a).2.1
  rotate_left
  · rw [if_neg c2]; exact oRg_fl hn.2.1.1 hn.2.1.2
  rw [if_pos c2]
  have l1 := hn.2.1.1
  have hn2 := pN_rg (T := T) (L := L) (a := (pN T L a).2.1 + 1) (by have := c2.1; omega)
  generalize pN T L ((pN T L a).2.1 + 1) = N2 at hn2 ⊢
  have l2 := hn2.2.1.1
  by_cases c3 : N2.1 = 0
  · rw [if_pos c3]; exact oRg_fl (by omega) hn2.2.1.2
  rw [if_neg c3]
  by_cases c4 : hD T L 45 45 N2.2.1
  rotate_left
  · rw [if_neg c4]; exact oRg_fl (by omega) hn2.2.1.2
  rw [if_pos c4]
  have hn3 := pN_rg (T := T) (L := L) (a := N2.2.1 + 1) (by have := c4.1; omega)
  generalize pN T L (N2.2.1 + 1) = N3 at hn3 ⊢
  have l3 := hn3.2.1.1
  by_cases c5 : N3.1 = 0
  · rw [if_pos c5]; exact oRg_fl (by omega) hn3.2.1.2
  rw [if_neg c5]
  exact ⟨Or.inr rfl, ⟨by show a ≤ N3.2.1; omega, hn3.2.1.2⟩, fun _ => ⟨by show a < N3.2.1; omega, Or.inr (Or.inl rfl), fun c => absurd (show (120 : Int) = 115 from c) (by decide)⟩⟩
theorem oG_rg {a k s : Int} (hk : k = 103 ∨ k = 119) (a1 : a ≤ L) : oRg T L a (oG T L k s a) := by
  unfold oG
  by_cases c1 : hD T L 48 57 a
  rotate_left
  · rw [if_neg c1]; exact oRg_fl (Int.le_refl _) a1
  rw [if_pos c1]
  have l1 := c1.1
  by_cases c2 : hD T L s s (a + 1)
  rotate_left
  · rw [if_neg c2]; exact oRg_fl (by omega) (by omega)
  rw [if_pos c2]
  have l2 := c2.1
  have hn := pN_rg (T := T) (L := L) (a := a + 2) (by omega)
  generalize pN T L (a + 2) = N at hn ⊢
  have l3 := hn.2.1.1
  by_cases c3 : N.1 = 0
  · rw [if_pos c3]; exact oRg_fl (by omega) hn.2.1.2
  rw [if_neg c3]
  refine ⟨Or.inr rfl, ⟨by show a ≤ N.2.1; omega, hn.2.1.2⟩, fun _ => ⟨by show a < N.2.1; omega, ?_⟩⟩
  refine ⟨?_, fun c => ?_⟩
  · show k = 115 ∨ k = 120 ∨ k = 103 ∨ k = 119
    omega
  · have c : k = 115 := c
    omega
theorem pO_rg {a : Int} (a1 : a ≤ L) : oRg T L a (pO T L a) := by
  unfold pO
  by_cases c : a < L
  rotate_left
  · rw [if_neg c]; exact oRg_fl (Int.le_refl _) a1
  rw [if_pos c]
  have up : ∀ o, oRg T L (a + 1) o → oRg T L a o := fun o h => ⟨h.1, ⟨by have := h.2.1.1; omega, h.2.1.2⟩, fun e => ⟨by have := (h.2.2 e).1; omega, (h.2.2 e).2⟩⟩
  split
  · exact up _ (oS_rg (by omega))
  split
  · exact up _ (oX_rg (by omega))
  split
  · exact up _ (oG_rg (Or.inl rfl) (by omega))
  split
  · exact up _ (oG_rg (Or.inr rfl) (by omega))
  · exact oRg_fl (Int.le_refl _) a1
end PARSE
