/-! the pure part: memories, loops, sets -/
theorem zU_s {σ : zM} {n : Nat} {j v : Int} : zU σ n j v n j = v := by
  unfold zU
  rw [if_pos ⟨rfl, rfl⟩]
theorem zU_n {σ : zM} {n m : Nat} {j v : Int} (h : m ≠ n) : zU σ n j v m = σ m := by
  funext i
  unfold zU
  rw [if_neg (fun hh => h hh.1)]
theorem zU_j {σ : zM} {n : Nat} {i j v : Int} (h : i ≠ j) : zU σ n j v n i = σ n i := by
  unfold zU
  rw [if_neg (fun hh => h hh.2)]
theorem zU_g {σ : zM} {n : Nat} {i j v : Int} : zU σ n j v n i = if i = j then v else σ n i := by
  unfold zU
  by_cases h : i = j
  · rw [if_pos ⟨rfl, h⟩, if_pos h]
  · rw [if_neg (fun hh => h hh.2), if_neg h]
theorem zFl_n {σ : zM} {n m : Nat} {a b v : Int} (h : m ≠ n) : zFl σ n a b v m = σ m := by
  funext i
  unfold zFl
  rw [if_neg (fun hh => h hh.1)]
theorem zFl_g {σ : zM} {n : Nat} {a b v i : Int} : zFl σ n a b v n i = if a ≤ i ∧ i < b then v else σ n i := by
  unfold zFl
  by_cases h : a ≤ i ∧ i < b
  · rw [if_pos ⟨rfl, h⟩, if_pos h]
  · rw [if_neg (fun hh => h hh.2), if_neg h]
theorem zCp_n {σ : zM} {a b m : Nat} {s d n : Int} (h : m ≠ b) : zCp σ a b s d n m = σ m := by
  funext i
  unfold zCp
  rw [if_neg (fun hh => h hh.1)]
theorem zCp_g {σ : zM} {a b : Nat} {s d n i : Int} : zCp σ a b s d n b i = if d ≤ i ∧ i < d + n then σ a (s + (i - d)) else σ b i := by
  unfold zCp
  by_cases h : d ≤ i ∧ i < d + n
  · rw [if_pos ⟨rfl, h⟩, if_pos h]
  · rw [if_neg (fun hh => h hh.2), if_neg h]
theorem zRi {x : Int} (h1 : -2147483648 ≤ x) (h2 : x ≤ 2147483647) : zR x := ⟨h1, h2⟩
/-- a loop whose counter climbs to hi, over a memory -/
theorem zFor {F : Nat → zM → Int → Prop} (I : zM → Int → Prop) (hi : Int) (step : ∀ n σ v, I σ v → v ≤ hi → (∀ σ', I σ' (v + 1) → v + 1 ≤ hi → F n σ' (v + 1)) → F (n + 1) σ v) : ∀ (σ : zM) (v : Int), I σ v → v ≤ hi → ∃ n, F n σ v := by
  have key : ∀ (k : Nat) (σ : zM) (v : Int), I σ v → v ≤ hi → hi - v < k → F k σ v := by
    intro k
    induction k with
    | zero => intro σ v _ h1 h2; omega
    | succ k ih => intro σ v hI h1 h2; exact step k σ v hI h1 (fun σ' hI' h1' => ih σ' (v + 1) hI' h1' (by omega))
  intro σ v hI h
  exact ⟨(hi - v).toNat + 1, key _ σ v hI h (by omega)⟩
/-- the same, over the counter alone -/
theorem zFor0 {F : Nat → Int → Prop} (I : Int → Prop) (hi : Int) (step : ∀ n v, I v → v ≤ hi → (I (v + 1) → v + 1 ≤ hi → F n (v + 1)) → F (n + 1) v) : ∀ (v : Int), I v → v ≤ hi → ∃ n, F n v := by
  have key : ∀ (k : Nat) (v : Int), I v → v ≤ hi → hi - v < k → F k v := by
    intro k
    induction k with
    | zero => intro v _ h1 h2; omega
    | succ k ih => intro v hI h1 h2; exact step k v hI h1 (fun hI' h1' => ih (v + 1) hI' h1' (by omega))
  intro v hI h
  exact ⟨(hi - v).toNat + 1, key _ v hI h (by omega)⟩
/-- a loop whose counter falls to lo -/
theorem zForD {F : Nat → zM → Int → Prop} (I : zM → Int → Prop) (lo : Int) (step : ∀ n σ v, I σ v → lo ≤ v → (∀ σ', I σ' (v + (-1)) → lo ≤ v + (-1) → F n σ' (v + (-1))) → F (n + 1) σ v) : ∀ (σ : zM) (v : Int), I σ v → lo ≤ v → ∃ n, F n σ v := by
  have key : ∀ (k : Nat) (σ : zM) (v : Int), I σ v → lo ≤ v → v - lo < k → F k σ v := by
    intro k
    induction k with
    | zero => intro σ v _ h1 h2; omega
    | succ k ih => intro σ v hI h1 h2; exact step k σ v hI h1 (fun σ' hI' h1' => ih σ' (v + (-1)) hI' h1' (by omega))
  intro σ v hI h
  exact ⟨(v - lo).toNat + 1, key _ σ v hI h (by omega)⟩
theorem zForD0 {F : Nat → Int → Prop} (I : Int → Prop) (lo : Int) (step : ∀ n v, I v → lo ≤ v → (I (v + (-1)) → lo ≤ v + (-1) → F n (v + (-1))) → F (n + 1) v) : ∀ (v : Int), I v → lo ≤ v → ∃ n, F n v := by
  have key : ∀ (k : Nat) (v : Int), I v → lo ≤ v → v - lo < k → F k v := by
    intro k
    induction k with
    | zero => intro v _ h1 h2; omega
    | succ k ih => intro v hI h1 h2; exact step k v hI h1 (fun hI' h1' => ih (v + (-1)) hI' h1' (by omega))
  intro v hI h
  exact ⟨(v - lo).toNat + 1, key _ v hI h (by omega)⟩
/-- a loop with another measure, over any state -/
theorem zLp {α : Type} {F : Nat → α → Prop} (I : α → Prop) (μ : α → Nat) (step : ∀ n a, I a → (∀ b, I b → μ b < μ a → F n b) → F (n + 1) a) (a : α) (h : I a) : ∃ n, F n a := by
  have key : ∀ (k : Nat) (a : α), I a → μ a < k → F k a := by
    intro k
    induction k with
    | zero => intro a _ h2; omega
    | succ k ih => intro a hI h2; exact step k a hI (fun b hb h3 => ih b hb (by omega))
  exact ⟨μ a + 1, key _ a h (by omega)⟩
/-! sets: the bits of a number -/
def zB (x k : Int) : Bool := (zI x).toBitVec.getLsbD k.toNat
theorem zB_0 (k : Int) : zB 0 k = false := by
  show (0#32).getLsbD _ = false
  simp
theorem zB_or (x y k : Int) : zB (zOr x y) k = (zB x k || zB y k) := by
  unfold zB zOr
  rw [zI_of, Int32.toBitVec_or, BitVec.getLsbD_or]
theorem zB_and (x y k : Int) : zB (zAnd x y) k = (zB x k && zB y k) := by
  unfold zB zAnd
  rw [zI_of, Int32.toBitVec_and, BitVec.getLsbD_and]
theorem zB_not (x k : Int) (h0 : 0 ≤ k) (h : k < 32) : zB (zXor x (-1)) k = !zB x k := by
  unfold zB zXor
  rw [zI_of, Int32.toBitVec_xor, BitVec.getLsbD_xor]
  have : (zI (-1)).toBitVec.getLsbD k.toNat = true := by
    show (BitVec.allOnes 32).getLsbD k.toNat = true
    rw [BitVec.getLsbD_allOnes]
    simp; omega
  rw [this]
  simp
theorem zI_nI (n : Nat) : zI (n : Int) = nI n := Int32.ofInt_eq_ofNat
theorem zShT : ∀ l, l < 32 → ((1 : Int32) <<< (nI l &&& 31)).toBitVec = BitVec.twoPow 32 l := by decide +kernel
theorem zB_shl (j k : Int) (hj0 : 0 ≤ j) (hj : j < 32) (hk0 : 0 ≤ k) (hk : k < 32) : zB (zShl 1 j) k = decide (k = j) := by
  obtain ⟨a, rfl⟩ := Int.eq_ofNat_of_zero_le hj0
  obtain ⟨b, rfl⟩ := Int.eq_ofNat_of_zero_le hk0
  unfold zB zShl
  rw [zI_of, zI_nI, show zI 1 = (1 : Int32) from rfl, zShT a (by omega), BitVec.getLsbD_twoPow]
  simp
  by_cases h : a = b
  · subst h; simp; omega
  · simp [h]; omega
theorem zB_big {x k : Int} (h : 32 ≤ k) : zB x k = false := by
  unfold zB
  exact BitVec.getLsbD_of_ge _ _ (by omega)
theorem zB_ext {x y : Int} (hx : zR x) (hy : zR y) (h : ∀ k : Int, 0 ≤ k → k < 32 → zB x k = zB y k) : x = y := by
  rw [← zI_eq hx hy, ← Int32.toBitVec_inj]
  apply BitVec.eq_of_getLsbD_eq
  intro i hi
  have := h i (by omega) (by omega)
  unfold zB at this
  simpa using this
theorem zB_ne0 {x : Int} (hx : zR x) : x ≠ 0 ↔ ∃ k : Int, 0 ≤ k ∧ k < 32 ∧ zB x k = true := by
  constructor
  · intro h
    apply Classical.byContradiction
    intro hn
    apply h
    refine zB_ext hx zR_0 (fun k h0 h1 => ?_)
    rw [zB_0]
    cases hb : zB x k with
    | false => rfl
    | true => exact absurd ⟨k, h0, h1, hb⟩ hn
  · intro h1 h
    obtain ⟨k, -, -, hb⟩ := h1
    rw [h, zB_0] at hb
    cases hb
