theorem zR_of {x : Int} (h : (decide (-2147483648 ≤ x) && decide (x ≤ 2147483647)) = true) : zR x := by
  simp only [Bool.and_eq_true, decide_eq_true_eq] at h
  exact h
theorem zIx {i : Int} {n : Nat} (h : (decide (0 ≤ i) && decide (i < (n : Int))) = true) : 0 ≤ i ∧ i < (n : Int) := by
  simp only [Bool.and_eq_true, decide_eq_true_eq] at h
  exact h
theorem zMod_rg {x y : Int} (hx : zR x) (h0 : 0 ≤ x) (hy : zR y) (hp : 0 < y) : zR (x % y) := by
  have h1 := Int.emod_nonneg x (by omega : y ≠ 0)
  have h2 := Int.emod_lt_of_pos x hp
  exact ⟨by omega, by have := hy.2; omega⟩
theorem zDiv_rg {x y : Int} (hx : zR x) (h0 : 0 ≤ x) (hy : zR y) (hp : 0 < y) : zR (x / y) := by
  have h1 : x / y ≤ x := Int.ediv_le_self y h0
  have h2 : 0 ≤ x / y := Int.ediv_nonneg h0 (by omega)
  exact ⟨by omega, by have := hx.2; omega⟩
theorem zMax_rg {x y : Int} (hx : zR x) (hy : zR y) : zR (max x y) := by
  unfold zR at *; omega
theorem zMin_rg {x y : Int} (hx : zR x) (hy : zR y) : zR (min x y) := by
  unfold zR at *; omega
theorem zR_nat {a : Nat} (h : a < 9) : zR (a : Int) := by unfold zR; omega
theorem j_mem {X : zX} {G : zG} {Q : State → Prop} {nL pc : Nat} {L : List (Nat × Value)} {st : List Value} {σ : zM} (k : ∀ τ : zM, τ = σ → zJ X G Q nL pc L st τ) : zJ X G Q nL pc L st σ := k σ rfl
def zOn (o : Nat) : Prop := zShp[o]? = some (.inr (4, [((o + 1 : Nat) : Int), ((o + 2 : Nat) : Int)])) ∧ zShp[o + 1]? = some (.inl (0, 1024)) ∧ zShp[o + 2]? = some (.inl (0, 8))
theorem zOn64 : zOn 64 := ⟨rfl, rfl, rfl⟩
theorem zOn67 : zOn 67 := ⟨rfl, rfl, rfl⟩
theorem zIf_no {a o x d : Int} {r : List (Int × Int)} (h : ¬ x = a) : Op.lookupswitch.offset ((a, o) :: r) d x = Op.lookupswitch.offset r d x := by
  rw [Op.lookupswitch.offset_cons, if_neg (fun e => h e.symm)]
theorem zLk4 {a1 a2 a3 a4 o1 o2 o3 o4 x d : Int} (h : ¬ x = a1 ∧ ¬ x = a2 ∧ ¬ x = a3 ∧ ¬ x = a4) : Op.lookupswitch.offset (#[(a1, o1), (a2, o2), (a3, o3), (a4, o4)] : Array (Int × Int)).toList d x = d := by
  show Op.lookupswitch.offset [(a1, o1), (a2, o2), (a3, o3), (a4, o4)] d x = d
  rw [zIf_no h.1, zIf_no h.2.1, zIf_no h.2.2.1, zIf_no h.2.2.2]
  rfl
def zFl (σ : zM) (n : Nat) (a b v : Int) : zM := fun q j => if q = n ∧ a ≤ j ∧ j < b then v else σ q j
theorem zFl_rg {σ : zM} (h : zRM σ) (n : Nat) (a b : Int) {v : Int} (hv : zR v) : zRM (zFl σ n a b v) := by
  intro q j
  unfold zFl
  split
  · exact hv
  · exact h q j
theorem zFl_0 (σ : zM) (n : Nat) (a v : Int) : zFl σ n a a v = σ := by
  funext q j
  unfold zFl
  rw [if_neg (fun h => by omega)]
theorem zFl_1 (σ : zM) (n : Nat) {a b : Int} (h : a ≤ b) (v : Int) : zU (zFl σ n a b v) n b v = zFl σ n a (b + 1) v := by
  funext q j
  unfold zFl zU
  by_cases hq : q = n ∧ j = b
  · rw [if_pos hq, if_pos ⟨hq.1, by omega, by omega⟩]
  · rw [if_neg hq]
    dsimp only
    by_cases hq2 : q = n ∧ a ≤ j ∧ j < b
    · rw [if_pos hq2, if_pos ⟨hq2.1, by omega, by omega⟩]
    · rw [if_neg hq2, if_neg (fun h => hq2 ⟨h.1, h.2.1, by have := h.2.2; have : ¬ j = b := fun e => hq ⟨h.1, e⟩; omega⟩)]
