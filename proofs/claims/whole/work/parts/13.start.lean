def zRmI (o j : Int) : Int := if o ≤ j ∧ j < o + 24 then (if (j - o) % 3 = 1 then 1440 else if (j - o) % 3 = 2 then 1000 else 0) else 0
theorem zRmI_F (o : Nat) : (fun j : Nat => zI (zRmI (o : Int) (j : Int))) = zRmF o 8 := by
  funext j
  unfold zRmI zRmF
  by_cases h : o ≤ j ∧ j < o + 3 * 8
  · rw [if_pos h, if_pos (by omega)]
    by_cases h1 : (j - o) % 3 = 1
    · rw [if_pos h1, if_pos (by omega)]
    · rw [if_neg h1, if_neg (by omega)]
      by_cases h2 : (j - o) % 3 = 2
      · rw [if_pos h2, if_pos (by omega)]
      · rw [if_neg h2, if_neg (by omega)]; rfl
  · rw [if_neg h, if_neg (by omega)]; rfl
/-- the memory behind the constructors -/
def zM0 : zM := fun n j => if n = 55 then (if 0 ≤ j ∧ j < 6 then j + 1 else 1) else if n = 56 then (if 0 ≤ j ∧ j < 2 then j + 7 else 7) else if n < 54 ∧ n % 6 = 1 then zRmI 0 j else if n = 80 then zRmI 3 j else 0
theorem zRmI_rg (o j : Int) : zR (zRmI o j) := by
  unfold zRmI
  split
  · split
    · exact zR_of rfl
    · split
      · exact zR_of rfl
      · exact zR_0
  · exact zR_0
theorem zM0_rg : zRM zM0 := by
  intro n j
  unfold zM0
  split
  · split
    · exact ⟨by omega, by omega⟩
    · exact zR_of rfl
  · split
    · split
      · exact ⟨by omega, by omega⟩
      · exact zR_of rfl
    · split
      · exact zRmI_rg _ _
      · split
        · exact zRmI_rg _ _
        · exact zR_0
theorem zAt_i {D : va_G} {cl : List vw_C} {a len : Nat} {c : ClassId} {f g : Nat → Int32} (h : ∀ j, j < len → f j = g j) {H : Heap} (hp : va_at D cl (a, .inl (c, (len, .inl f))) H) : va_at D cl (a, .inl (c, (len, .inl g))) H := by
  have e : vp_cell c (len, .inl f) = vp_cell c (len, .inl g) := by
    rw [vp_cell_i, vp_cell_i]
    unfold arrV
    congr 2
    funext j
    show Value.int (f j.val) = Value.int (g j.val)
    rw [h j.val j.isLt]
  show H[a]? = some (vp_cell c (len, .inl g))
  rw [← e]; exact hp
theorem zAt_q {D : va_G} {cl : List vw_C} {a len : Nat} {c : ClassId} {f g : Nat → Option Nat} (h : ∀ j, j < len → f j = g j) {H : Heap} (hp : va_at D cl (a, .inl (c, (len, .inr (.inr (.inr (.inr f)))))) H) : va_at D cl (a, .inl (c, (len, .inr (.inr (.inr (.inr g)))))) H := by
  have e : vp_cell c (len, .inr (.inr (.inr (.inr f)))) = vp_cell c (len, .inr (.inr (.inr (.inr g)))) := by
    rw [vp_cell_q, vp_cell_q]
    unfold arrV
    congr 2
    funext j
    show va_rf (f j.val) = va_rf (g j.val)
    rw [h j.val j.isLt]
  show H[a]? = some (vp_cell c (len, .inr (.inr (.inr (.inr g)))))
  rw [← e]; exact hp
theorem zWorld {D : va_G} {A : Nat → Prop} {ws : va_W} {H : Heap} {ad : Nat → Nat} {ca : Nat → ClassId} {σ : zM} (pos : Nat → Nat) (inj : ∀ i, i < 92 → ∀ j, j < 92 → pos i = pos j → i = j) (key : ∀ a, a < 92 → ∃ e, ws[pos a]? = some (ad a, e) ∧ ∀ sh, zShp[a]? = some sh → va_at D zCl (ad a, e) H → va_at D zCl (ad a, zEnt ad ca σ a sh) H) (hP : va_P D zCl ws H) (hD : va_D A ws) : va_P D zCl (zWs ad ca σ) H ∧ va_D A (zWs ad ca σ) := by
  constructor
  · intro k q hk
    obtain ⟨hk92, hq⟩ := zWs_inv hk
    obtain ⟨e, h1, h2⟩ := key k hk92
    have hl : k < zShp.length := hk92
    have hs := List.getElem?_eq_getElem hl
    have := zWs_get (ad := ad) (ca := ca) (σ := σ) hs
    rw [this] at hk
    cases hk
    exact h2 _ hs (hP _ _ h1)
  · refine ⟨fun i j p q hi hj e => ?_, fun k q hk => ?_⟩
    · obtain ⟨hi92, hp⟩ := zWs_inv hi
      obtain ⟨hj92, hq⟩ := zWs_inv hj
      obtain ⟨e1, h1, -⟩ := key i hi92
      obtain ⟨e2, h2, -⟩ := key j hj92
      exact inj i hi92 j hj92 (hD.1 _ _ _ _ h1 h2 (by show ad i = ad j; rw [← hp, ← hq]; exact e))
    · obtain ⟨hk92, hq⟩ := zWs_inv hk
      obtain ⟨e1, h1, -⟩ := key k hk92
      rw [hq]
      exact hD.2 _ _ h1
def zPos : Nat → Nat := fun n => [73, 74, 75, 76, 77, 78, 45, 46, 47, 48, 49, 50, 39, 40, 41, 42, 43, 44, 33, 34, 35, 36, 37, 38, 27, 28, 29, 30, 31, 32, 21, 22, 23, 24, 25, 26, 15, 16, 17, 18, 19, 20, 9, 10, 11, 12, 13, 14, 3, 4, 5, 6, 7, 8, 0, 1, 2, 72, 68, 69, 70, 71, 66, 67, 63, 64, 65, 60, 61, 62, 57, 58, 59, 51, 52, 53, 54, 55, 56, 79, 80, 81, 82, 83, 84, 85, 86, 87, 88, 89, 90, 91].getD n 0
set_option maxRecDepth 100000 in
theorem zPos_inj : ∀ i, i < 92 → ∀ j, j < 92 → zPos i = zPos j → i = j := by decide +kernel
def zAd (x m : Nat) (u : Nat → Nat → Nat) (v : Nat → Nat) : Nat → Nat := fun n => [(u 0 2), (u 1 0), (u 1 1), (u 1 2), (u 1 3), (u 1 4), (u 0 10), (u 8 0), (u 8 1), (u 8 2), (u 8 3), (u 8 4), (u 0 11), (u 9 0), (u 9 1), (u 9 2), (u 9 3), (u 9 4), (u 0 12), (u 10 0), (u 10 1), (u 10 2), (u 10 3), (u 10 4), (u 0 13), (u 11 0), (u 11 1), (u 11 2), (u 11 3), (u 11 4), (u 0 14), (u 12 0), (u 12 1), (u 12 2), (u 12 3), (u 12 4), (u 0 15), (u 13 0), (u 13 1), (u 13 2), (u 13 3), (u 13 4), (u 0 16), (u 14 0), (u 14 1), (u 14 2), (u 14 3), (u 14 4), (u 0 17), (u 15 0), (u 15 1), (u 15 2), (u 15 3), (u 15 4), x, (u 0 0), (u 0 1), (u 0 3), (u 0 4), (u 2 0), (u 2 1), (u 2 2), (u 0 5), (u 3 0), (u 0 6), (u 4 0), (u 4 1), (u 0 7), (u 5 0), (u 5 1), (u 0 8), (u 6 0), (u 6 1), (u 0 9), (u 7 0), (u 7 1), (u 7 2), (u 7 3), (u 7 4), m, (v 0), (v 1), (v 2), (v 3), (v 4), (v 5), (v 6), (v 7), (v 8), (v 9), (v 10), (v 11)].getD n 0
def zKeyP (D : va_G) (ca : Nat → ClassId) (x m : Nat) (u : Nat → Nat → Nat) (v : Nat → Nat) (H : Heap) (a : Nat) : Prop := ∃ e, (w_X ca x u ++ w_M ca m v)[zPos a]? = some (zAd x m u v a, e) ∧ ∀ sh, zShp[a]? = some sh → va_at D zCl (zAd x m u v a, e) H → va_at D zCl (zAd x m u v a, zEnt (zAd x m u v) ca zM0 a sh) H
set_option maxRecDepth 100000 in
set_option maxHeartbeats 4000000 in
theorem zKey_0 (D : va_G) (ca : Nat → ClassId) (x m : Nat) (u : Nat → Nat → Nat) (v : Nat → Nat) (H : Heap) : zKeyP D ca x m u v H 0 := by
  refine ⟨_, rfl, fun sh hs hp => ?_⟩
  cases hs
  exact hp
set_option maxRecDepth 100000 in
set_option maxHeartbeats 4000000 in
theorem zKey_1 (D : va_G) (ca : Nat → ClassId) (x m : Nat) (u : Nat → Nat → Nat) (v : Nat → Nat) (H : Heap) : zKeyP D ca x m u v H 1 := by
  refine ⟨_, rfl, fun sh hs hp => ?_⟩
  cases hs
  refine zAt_i (fun j hj => ?_) hp
  exact (congrFun (zRmI_F 0) j).symm
set_option maxRecDepth 100000 in
set_option maxHeartbeats 4000000 in
theorem zKey_2 (D : va_G) (ca : Nat → ClassId) (x m : Nat) (u : Nat → Nat → Nat) (v : Nat → Nat) (H : Heap) : zKeyP D ca x m u v H 2 := by
  refine ⟨_, rfl, fun sh hs hp => ?_⟩
  cases hs
  exact hp
set_option maxRecDepth 100000 in
set_option maxHeartbeats 4000000 in
theorem zKey_3 (D : va_G) (ca : Nat → ClassId) (x m : Nat) (u : Nat → Nat → Nat) (v : Nat → Nat) (H : Heap) : zKeyP D ca x m u v H 3 := by
  refine ⟨_, rfl, fun sh hs hp => ?_⟩
  cases hs
  exact hp
set_option maxRecDepth 100000 in
set_option maxHeartbeats 4000000 in
theorem zKey_4 (D : va_G) (ca : Nat → ClassId) (x m : Nat) (u : Nat → Nat → Nat) (v : Nat → Nat) (H : Heap) : zKeyP D ca x m u v H 4 := by
  refine ⟨_, rfl, fun sh hs hp => ?_⟩
  cases hs
  exact hp
set_option maxRecDepth 100000 in
set_option maxHeartbeats 4000000 in
theorem zKey_5 (D : va_G) (ca : Nat → ClassId) (x m : Nat) (u : Nat → Nat → Nat) (v : Nat → Nat) (H : Heap) : zKeyP D ca x m u v H 5 := by
  refine ⟨_, rfl, fun sh hs hp => ?_⟩
  cases hs
  exact hp
set_option maxRecDepth 100000 in
set_option maxHeartbeats 4000000 in
theorem zKey_6 (D : va_G) (ca : Nat → ClassId) (x m : Nat) (u : Nat → Nat → Nat) (v : Nat → Nat) (H : Heap) : zKeyP D ca x m u v H 6 := by
  refine ⟨_, rfl, fun sh hs hp => ?_⟩
  cases hs
  exact hp
set_option maxRecDepth 100000 in
set_option maxHeartbeats 4000000 in
theorem zKey_7 (D : va_G) (ca : Nat → ClassId) (x m : Nat) (u : Nat → Nat → Nat) (v : Nat → Nat) (H : Heap) : zKeyP D ca x m u v H 7 := by
  refine ⟨_, rfl, fun sh hs hp => ?_⟩
  cases hs
  refine zAt_i (fun j hj => ?_) hp
  exact (congrFun (zRmI_F 0) j).symm
set_option maxRecDepth 100000 in
set_option maxHeartbeats 4000000 in
theorem zKey_8 (D : va_G) (ca : Nat → ClassId) (x m : Nat) (u : Nat → Nat → Nat) (v : Nat → Nat) (H : Heap) : zKeyP D ca x m u v H 8 := by
  refine ⟨_, rfl, fun sh hs hp => ?_⟩
  cases hs
  exact hp
set_option maxRecDepth 100000 in
set_option maxHeartbeats 4000000 in
theorem zKey_9 (D : va_G) (ca : Nat → ClassId) (x m : Nat) (u : Nat → Nat → Nat) (v : Nat → Nat) (H : Heap) : zKeyP D ca x m u v H 9 := by
  refine ⟨_, rfl, fun sh hs hp => ?_⟩
  cases hs
  exact hp
set_option maxRecDepth 100000 in
set_option maxHeartbeats 4000000 in
theorem zKey_10 (D : va_G) (ca : Nat → ClassId) (x m : Nat) (u : Nat → Nat → Nat) (v : Nat → Nat) (H : Heap) : zKeyP D ca x m u v H 10 := by
  refine ⟨_, rfl, fun sh hs hp => ?_⟩
  cases hs
  exact hp
set_option maxRecDepth 100000 in
set_option maxHeartbeats 4000000 in
theorem zKey_11 (D : va_G) (ca : Nat → ClassId) (x m : Nat) (u : Nat → Nat → Nat) (v : Nat → Nat) (H : Heap) : zKeyP D ca x m u v H 11 := by
  refine ⟨_, rfl, fun sh hs hp => ?_⟩
  cases hs
  exact hp
set_option maxRecDepth 100000 in
set_option maxHeartbeats 4000000 in
theorem zKey_12 (D : va_G) (ca : Nat → ClassId) (x m : Nat) (u : Nat → Nat → Nat) (v : Nat → Nat) (H : Heap) : zKeyP D ca x m u v H 12 := by
  refine ⟨_, rfl, fun sh hs hp => ?_⟩
  cases hs
  exact hp
set_option maxRecDepth 100000 in
set_option maxHeartbeats 4000000 in
theorem zKey_13 (D : va_G) (ca : Nat → ClassId) (x m : Nat) (u : Nat → Nat → Nat) (v : Nat → Nat) (H : Heap) : zKeyP D ca x m u v H 13 := by
  refine ⟨_, rfl, fun sh hs hp => ?_⟩
  cases hs
  refine zAt_i (fun j hj => ?_) hp
  exact (congrFun (zRmI_F 0) j).symm
set_option maxRecDepth 100000 in
set_option maxHeartbeats 4000000 in
theorem zKey_14 (D : va_G) (ca : Nat → ClassId) (x m : Nat) (u : Nat → Nat → Nat) (v : Nat → Nat) (H : Heap) : zKeyP D ca x m u v H 14 := by
  refine ⟨_, rfl, fun sh hs hp => ?_⟩
  cases hs
  exact hp
set_option maxRecDepth 100000 in
set_option maxHeartbeats 4000000 in
theorem zKey_15 (D : va_G) (ca : Nat → ClassId) (x m : Nat) (u : Nat → Nat → Nat) (v : Nat → Nat) (H : Heap) : zKeyP D ca x m u v H 15 := by
  refine ⟨_, rfl, fun sh hs hp => ?_⟩
  cases hs
  exact hp
set_option maxRecDepth 100000 in
set_option maxHeartbeats 4000000 in
theorem zKey_16 (D : va_G) (ca : Nat → ClassId) (x m : Nat) (u : Nat → Nat → Nat) (v : Nat → Nat) (H : Heap) : zKeyP D ca x m u v H 16 := by
  refine ⟨_, rfl, fun sh hs hp => ?_⟩
  cases hs
  exact hp
set_option maxRecDepth 100000 in
set_option maxHeartbeats 4000000 in
theorem zKey_17 (D : va_G) (ca : Nat → ClassId) (x m : Nat) (u : Nat → Nat → Nat) (v : Nat → Nat) (H : Heap) : zKeyP D ca x m u v H 17 := by
  refine ⟨_, rfl, fun sh hs hp => ?_⟩
  cases hs
  exact hp
set_option maxRecDepth 100000 in
set_option maxHeartbeats 4000000 in
theorem zKey_18 (D : va_G) (ca : Nat → ClassId) (x m : Nat) (u : Nat → Nat → Nat) (v : Nat → Nat) (H : Heap) : zKeyP D ca x m u v H 18 := by
  refine ⟨_, rfl, fun sh hs hp => ?_⟩
  cases hs
  exact hp
set_option maxRecDepth 100000 in
set_option maxHeartbeats 4000000 in
theorem zKey_19 (D : va_G) (ca : Nat → ClassId) (x m : Nat) (u : Nat → Nat → Nat) (v : Nat → Nat) (H : Heap) : zKeyP D ca x m u v H 19 := by
  refine ⟨_, rfl, fun sh hs hp => ?_⟩
  cases hs
  refine zAt_i (fun j hj => ?_) hp
  exact (congrFun (zRmI_F 0) j).symm
set_option maxRecDepth 100000 in
set_option maxHeartbeats 4000000 in
theorem zKey_20 (D : va_G) (ca : Nat → ClassId) (x m : Nat) (u : Nat → Nat → Nat) (v : Nat → Nat) (H : Heap) : zKeyP D ca x m u v H 20 := by
  refine ⟨_, rfl, fun sh hs hp => ?_⟩
  cases hs
  exact hp
set_option maxRecDepth 100000 in
set_option maxHeartbeats 4000000 in
theorem zKey_21 (D : va_G) (ca : Nat → ClassId) (x m : Nat) (u : Nat → Nat → Nat) (v : Nat → Nat) (H : Heap) : zKeyP D ca x m u v H 21 := by
  refine ⟨_, rfl, fun sh hs hp => ?_⟩
  cases hs
  exact hp
set_option maxRecDepth 100000 in
set_option maxHeartbeats 4000000 in
theorem zKey_22 (D : va_G) (ca : Nat → ClassId) (x m : Nat) (u : Nat → Nat → Nat) (v : Nat → Nat) (H : Heap) : zKeyP D ca x m u v H 22 := by
  refine ⟨_, rfl, fun sh hs hp => ?_⟩
  cases hs
  exact hp
set_option maxRecDepth 100000 in
set_option maxHeartbeats 4000000 in
theorem zKey_23 (D : va_G) (ca : Nat → ClassId) (x m : Nat) (u : Nat → Nat → Nat) (v : Nat → Nat) (H : Heap) : zKeyP D ca x m u v H 23 := by
  refine ⟨_, rfl, fun sh hs hp => ?_⟩
  cases hs
  exact hp
set_option maxRecDepth 100000 in
set_option maxHeartbeats 4000000 in
theorem zKey_24 (D : va_G) (ca : Nat → ClassId) (x m : Nat) (u : Nat → Nat → Nat) (v : Nat → Nat) (H : Heap) : zKeyP D ca x m u v H 24 := by
  refine ⟨_, rfl, fun sh hs hp => ?_⟩
  cases hs
  exact hp
set_option maxRecDepth 100000 in
set_option maxHeartbeats 4000000 in
theorem zKey_25 (D : va_G) (ca : Nat → ClassId) (x m : Nat) (u : Nat → Nat → Nat) (v : Nat → Nat) (H : Heap) : zKeyP D ca x m u v H 25 := by
  refine ⟨_, rfl, fun sh hs hp => ?_⟩
  cases hs
  refine zAt_i (fun j hj => ?_) hp
  exact (congrFun (zRmI_F 0) j).symm
set_option maxRecDepth 100000 in
set_option maxHeartbeats 4000000 in
theorem zKey_26 (D : va_G) (ca : Nat → ClassId) (x m : Nat) (u : Nat → Nat → Nat) (v : Nat → Nat) (H : Heap) : zKeyP D ca x m u v H 26 := by
  refine ⟨_, rfl, fun sh hs hp => ?_⟩
  cases hs
  exact hp
set_option maxRecDepth 100000 in
set_option maxHeartbeats 4000000 in
theorem zKey_27 (D : va_G) (ca : Nat → ClassId) (x m : Nat) (u : Nat → Nat → Nat) (v : Nat → Nat) (H : Heap) : zKeyP D ca x m u v H 27 := by
  refine ⟨_, rfl, fun sh hs hp => ?_⟩
  cases hs
  exact hp
set_option maxRecDepth 100000 in
set_option maxHeartbeats 4000000 in
theorem zKey_28 (D : va_G) (ca : Nat → ClassId) (x m : Nat) (u : Nat → Nat → Nat) (v : Nat → Nat) (H : Heap) : zKeyP D ca x m u v H 28 := by
  refine ⟨_, rfl, fun sh hs hp => ?_⟩
  cases hs
  exact hp
set_option maxRecDepth 100000 in
set_option maxHeartbeats 4000000 in
theorem zKey_29 (D : va_G) (ca : Nat → ClassId) (x m : Nat) (u : Nat → Nat → Nat) (v : Nat → Nat) (H : Heap) : zKeyP D ca x m u v H 29 := by
  refine ⟨_, rfl, fun sh hs hp => ?_⟩
  cases hs
  exact hp
set_option maxRecDepth 100000 in
set_option maxHeartbeats 4000000 in
theorem zKey_30 (D : va_G) (ca : Nat → ClassId) (x m : Nat) (u : Nat → Nat → Nat) (v : Nat → Nat) (H : Heap) : zKeyP D ca x m u v H 30 := by
  refine ⟨_, rfl, fun sh hs hp => ?_⟩
  cases hs
  exact hp
set_option maxRecDepth 100000 in
set_option maxHeartbeats 4000000 in
theorem zKey_31 (D : va_G) (ca : Nat → ClassId) (x m : Nat) (u : Nat → Nat → Nat) (v : Nat → Nat) (H : Heap) : zKeyP D ca x m u v H 31 := by
  refine ⟨_, rfl, fun sh hs hp => ?_⟩
  cases hs
  refine zAt_i (fun j hj => ?_) hp
  exact (congrFun (zRmI_F 0) j).symm
set_option maxRecDepth 100000 in
set_option maxHeartbeats 4000000 in
theorem zKey_32 (D : va_G) (ca : Nat → ClassId) (x m : Nat) (u : Nat → Nat → Nat) (v : Nat → Nat) (H : Heap) : zKeyP D ca x m u v H 32 := by
  refine ⟨_, rfl, fun sh hs hp => ?_⟩
  cases hs
  exact hp
set_option maxRecDepth 100000 in
set_option maxHeartbeats 4000000 in
theorem zKey_33 (D : va_G) (ca : Nat → ClassId) (x m : Nat) (u : Nat → Nat → Nat) (v : Nat → Nat) (H : Heap) : zKeyP D ca x m u v H 33 := by
  refine ⟨_, rfl, fun sh hs hp => ?_⟩
  cases hs
  exact hp
set_option maxRecDepth 100000 in
set_option maxHeartbeats 4000000 in
theorem zKey_34 (D : va_G) (ca : Nat → ClassId) (x m : Nat) (u : Nat → Nat → Nat) (v : Nat → Nat) (H : Heap) : zKeyP D ca x m u v H 34 := by
  refine ⟨_, rfl, fun sh hs hp => ?_⟩
  cases hs
  exact hp
set_option maxRecDepth 100000 in
set_option maxHeartbeats 4000000 in
theorem zKey_35 (D : va_G) (ca : Nat → ClassId) (x m : Nat) (u : Nat → Nat → Nat) (v : Nat → Nat) (H : Heap) : zKeyP D ca x m u v H 35 := by
  refine ⟨_, rfl, fun sh hs hp => ?_⟩
  cases hs
  exact hp
set_option maxRecDepth 100000 in
set_option maxHeartbeats 4000000 in
theorem zKey_36 (D : va_G) (ca : Nat → ClassId) (x m : Nat) (u : Nat → Nat → Nat) (v : Nat → Nat) (H : Heap) : zKeyP D ca x m u v H 36 := by
  refine ⟨_, rfl, fun sh hs hp => ?_⟩
  cases hs
  exact hp
set_option maxRecDepth 100000 in
set_option maxHeartbeats 4000000 in
theorem zKey_37 (D : va_G) (ca : Nat → ClassId) (x m : Nat) (u : Nat → Nat → Nat) (v : Nat → Nat) (H : Heap) : zKeyP D ca x m u v H 37 := by
  refine ⟨_, rfl, fun sh hs hp => ?_⟩
  cases hs
  refine zAt_i (fun j hj => ?_) hp
  exact (congrFun (zRmI_F 0) j).symm
set_option maxRecDepth 100000 in
set_option maxHeartbeats 4000000 in
theorem zKey_38 (D : va_G) (ca : Nat → ClassId) (x m : Nat) (u : Nat → Nat → Nat) (v : Nat → Nat) (H : Heap) : zKeyP D ca x m u v H 38 := by
  refine ⟨_, rfl, fun sh hs hp => ?_⟩
  cases hs
  exact hp
set_option maxRecDepth 100000 in
set_option maxHeartbeats 4000000 in
theorem zKey_39 (D : va_G) (ca : Nat → ClassId) (x m : Nat) (u : Nat → Nat → Nat) (v : Nat → Nat) (H : Heap) : zKeyP D ca x m u v H 39 := by
  refine ⟨_, rfl, fun sh hs hp => ?_⟩
  cases hs
  exact hp
set_option maxRecDepth 100000 in
set_option maxHeartbeats 4000000 in
theorem zKey_40 (D : va_G) (ca : Nat → ClassId) (x m : Nat) (u : Nat → Nat → Nat) (v : Nat → Nat) (H : Heap) : zKeyP D ca x m u v H 40 := by
  refine ⟨_, rfl, fun sh hs hp => ?_⟩
  cases hs
  exact hp
set_option maxRecDepth 100000 in
set_option maxHeartbeats 4000000 in
theorem zKey_41 (D : va_G) (ca : Nat → ClassId) (x m : Nat) (u : Nat → Nat → Nat) (v : Nat → Nat) (H : Heap) : zKeyP D ca x m u v H 41 := by
  refine ⟨_, rfl, fun sh hs hp => ?_⟩
  cases hs
  exact hp
set_option maxRecDepth 100000 in
set_option maxHeartbeats 4000000 in
theorem zKey_42 (D : va_G) (ca : Nat → ClassId) (x m : Nat) (u : Nat → Nat → Nat) (v : Nat → Nat) (H : Heap) : zKeyP D ca x m u v H 42 := by
  refine ⟨_, rfl, fun sh hs hp => ?_⟩
  cases hs
  exact hp
set_option maxRecDepth 100000 in
set_option maxHeartbeats 4000000 in
theorem zKey_43 (D : va_G) (ca : Nat → ClassId) (x m : Nat) (u : Nat → Nat → Nat) (v : Nat → Nat) (H : Heap) : zKeyP D ca x m u v H 43 := by
  refine ⟨_, rfl, fun sh hs hp => ?_⟩
  cases hs
  refine zAt_i (fun j hj => ?_) hp
  exact (congrFun (zRmI_F 0) j).symm
set_option maxRecDepth 100000 in
set_option maxHeartbeats 4000000 in
theorem zKey_44 (D : va_G) (ca : Nat → ClassId) (x m : Nat) (u : Nat → Nat → Nat) (v : Nat → Nat) (H : Heap) : zKeyP D ca x m u v H 44 := by
  refine ⟨_, rfl, fun sh hs hp => ?_⟩
  cases hs
  exact hp
set_option maxRecDepth 100000 in
set_option maxHeartbeats 4000000 in
theorem zKey_45 (D : va_G) (ca : Nat → ClassId) (x m : Nat) (u : Nat → Nat → Nat) (v : Nat → Nat) (H : Heap) : zKeyP D ca x m u v H 45 := by
  refine ⟨_, rfl, fun sh hs hp => ?_⟩
  cases hs
  exact hp
set_option maxRecDepth 100000 in
set_option maxHeartbeats 4000000 in
theorem zKey_46 (D : va_G) (ca : Nat → ClassId) (x m : Nat) (u : Nat → Nat → Nat) (v : Nat → Nat) (H : Heap) : zKeyP D ca x m u v H 46 := by
  refine ⟨_, rfl, fun sh hs hp => ?_⟩
  cases hs
  exact hp
set_option maxRecDepth 100000 in
set_option maxHeartbeats 4000000 in
theorem zKey_47 (D : va_G) (ca : Nat → ClassId) (x m : Nat) (u : Nat → Nat → Nat) (v : Nat → Nat) (H : Heap) : zKeyP D ca x m u v H 47 := by
  refine ⟨_, rfl, fun sh hs hp => ?_⟩
  cases hs
  exact hp
set_option maxRecDepth 100000 in
set_option maxHeartbeats 4000000 in
theorem zKey_48 (D : va_G) (ca : Nat → ClassId) (x m : Nat) (u : Nat → Nat → Nat) (v : Nat → Nat) (H : Heap) : zKeyP D ca x m u v H 48 := by
  refine ⟨_, rfl, fun sh hs hp => ?_⟩
  cases hs
  exact hp
set_option maxRecDepth 100000 in
set_option maxHeartbeats 4000000 in
theorem zKey_49 (D : va_G) (ca : Nat → ClassId) (x m : Nat) (u : Nat → Nat → Nat) (v : Nat → Nat) (H : Heap) : zKeyP D ca x m u v H 49 := by
  refine ⟨_, rfl, fun sh hs hp => ?_⟩
  cases hs
  refine zAt_i (fun j hj => ?_) hp
  exact (congrFun (zRmI_F 0) j).symm
set_option maxRecDepth 100000 in
set_option maxHeartbeats 4000000 in
theorem zKey_50 (D : va_G) (ca : Nat → ClassId) (x m : Nat) (u : Nat → Nat → Nat) (v : Nat → Nat) (H : Heap) : zKeyP D ca x m u v H 50 := by
  refine ⟨_, rfl, fun sh hs hp => ?_⟩
  cases hs
  exact hp
set_option maxRecDepth 100000 in
set_option maxHeartbeats 4000000 in
theorem zKey_51 (D : va_G) (ca : Nat → ClassId) (x m : Nat) (u : Nat → Nat → Nat) (v : Nat → Nat) (H : Heap) : zKeyP D ca x m u v H 51 := by
  refine ⟨_, rfl, fun sh hs hp => ?_⟩
  cases hs
  exact hp
set_option maxRecDepth 100000 in
set_option maxHeartbeats 4000000 in
theorem zKey_52 (D : va_G) (ca : Nat → ClassId) (x m : Nat) (u : Nat → Nat → Nat) (v : Nat → Nat) (H : Heap) : zKeyP D ca x m u v H 52 := by
  refine ⟨_, rfl, fun sh hs hp => ?_⟩
  cases hs
  exact hp
set_option maxRecDepth 100000 in
set_option maxHeartbeats 4000000 in
theorem zKey_53 (D : va_G) (ca : Nat → ClassId) (x m : Nat) (u : Nat → Nat → Nat) (v : Nat → Nat) (H : Heap) : zKeyP D ca x m u v H 53 := by
  refine ⟨_, rfl, fun sh hs hp => ?_⟩
  cases hs
  exact hp
set_option maxRecDepth 100000 in
set_option maxHeartbeats 4000000 in
theorem zKey_54 (D : va_G) (ca : Nat → ClassId) (x m : Nat) (u : Nat → Nat → Nat) (v : Nat → Nat) (H : Heap) : zKeyP D ca x m u v H 54 := by
  refine ⟨_, rfl, fun sh hs hp => ?_⟩
  cases hs
  exact hp
set_option maxRecDepth 100000 in
set_option maxHeartbeats 4000000 in
theorem zKey_55 (D : va_G) (ca : Nat → ClassId) (x m : Nat) (u : Nat → Nat → Nat) (v : Nat → Nat) (H : Heap) : zKeyP D ca x m u v H 55 := by
  refine ⟨_, rfl, fun sh hs hp => ?_⟩
  cases hs
  refine zAt_q (fun j hj => ?_) hp
  rcases (show j = 0 ∨ j = 1 ∨ j = 2 ∨ j = 3 ∨ j = 4 ∨ j = 5 by omega) with rfl | rfl | rfl | rfl | rfl | rfl
  · rfl
  · rfl
  · rfl
  · rfl
  · rfl
  · rfl
set_option maxRecDepth 100000 in
set_option maxHeartbeats 4000000 in
theorem zKey_56 (D : va_G) (ca : Nat → ClassId) (x m : Nat) (u : Nat → Nat → Nat) (v : Nat → Nat) (H : Heap) : zKeyP D ca x m u v H 56 := by
  refine ⟨_, rfl, fun sh hs hp => ?_⟩
  cases hs
  refine zAt_q (fun j hj => ?_) hp
  rcases (show j = 0 ∨ j = 1 by omega) with rfl | rfl
  · rfl
  · rfl
set_option maxRecDepth 100000 in
set_option maxHeartbeats 4000000 in
theorem zKey_57 (D : va_G) (ca : Nat → ClassId) (x m : Nat) (u : Nat → Nat → Nat) (v : Nat → Nat) (H : Heap) : zKeyP D ca x m u v H 57 := by
  refine ⟨_, rfl, fun sh hs hp => ?_⟩
  cases hs
  exact hp
set_option maxRecDepth 100000 in
set_option maxHeartbeats 4000000 in
theorem zKey_58 (D : va_G) (ca : Nat → ClassId) (x m : Nat) (u : Nat → Nat → Nat) (v : Nat → Nat) (H : Heap) : zKeyP D ca x m u v H 58 := by
  refine ⟨_, rfl, fun sh hs hp => ?_⟩
  cases hs
  exact hp
set_option maxRecDepth 100000 in
set_option maxHeartbeats 4000000 in
theorem zKey_59 (D : va_G) (ca : Nat → ClassId) (x m : Nat) (u : Nat → Nat → Nat) (v : Nat → Nat) (H : Heap) : zKeyP D ca x m u v H 59 := by
  refine ⟨_, rfl, fun sh hs hp => ?_⟩
  cases hs
  exact hp
set_option maxRecDepth 100000 in
set_option maxHeartbeats 4000000 in
theorem zKey_60 (D : va_G) (ca : Nat → ClassId) (x m : Nat) (u : Nat → Nat → Nat) (v : Nat → Nat) (H : Heap) : zKeyP D ca x m u v H 60 := by
  refine ⟨_, rfl, fun sh hs hp => ?_⟩
  cases hs
  exact hp
set_option maxRecDepth 100000 in
set_option maxHeartbeats 4000000 in
theorem zKey_61 (D : va_G) (ca : Nat → ClassId) (x m : Nat) (u : Nat → Nat → Nat) (v : Nat → Nat) (H : Heap) : zKeyP D ca x m u v H 61 := by
  refine ⟨_, rfl, fun sh hs hp => ?_⟩
  cases hs
  exact hp
set_option maxRecDepth 100000 in
set_option maxHeartbeats 4000000 in
theorem zKey_62 (D : va_G) (ca : Nat → ClassId) (x m : Nat) (u : Nat → Nat → Nat) (v : Nat → Nat) (H : Heap) : zKeyP D ca x m u v H 62 := by
  refine ⟨_, rfl, fun sh hs hp => ?_⟩
  cases hs
  exact hp
set_option maxRecDepth 100000 in
set_option maxHeartbeats 4000000 in
theorem zKey_63 (D : va_G) (ca : Nat → ClassId) (x m : Nat) (u : Nat → Nat → Nat) (v : Nat → Nat) (H : Heap) : zKeyP D ca x m u v H 63 := by
  refine ⟨_, rfl, fun sh hs hp => ?_⟩
  cases hs
  exact hp
set_option maxRecDepth 100000 in
set_option maxHeartbeats 4000000 in
theorem zKey_64 (D : va_G) (ca : Nat → ClassId) (x m : Nat) (u : Nat → Nat → Nat) (v : Nat → Nat) (H : Heap) : zKeyP D ca x m u v H 64 := by
  refine ⟨_, rfl, fun sh hs hp => ?_⟩
  cases hs
  exact hp
set_option maxRecDepth 100000 in
set_option maxHeartbeats 4000000 in
theorem zKey_65 (D : va_G) (ca : Nat → ClassId) (x m : Nat) (u : Nat → Nat → Nat) (v : Nat → Nat) (H : Heap) : zKeyP D ca x m u v H 65 := by
  refine ⟨_, rfl, fun sh hs hp => ?_⟩
  cases hs
  exact hp
set_option maxRecDepth 100000 in
set_option maxHeartbeats 4000000 in
theorem zKey_66 (D : va_G) (ca : Nat → ClassId) (x m : Nat) (u : Nat → Nat → Nat) (v : Nat → Nat) (H : Heap) : zKeyP D ca x m u v H 66 := by
  refine ⟨_, rfl, fun sh hs hp => ?_⟩
  cases hs
  exact hp
set_option maxRecDepth 100000 in
set_option maxHeartbeats 4000000 in
theorem zKey_67 (D : va_G) (ca : Nat → ClassId) (x m : Nat) (u : Nat → Nat → Nat) (v : Nat → Nat) (H : Heap) : zKeyP D ca x m u v H 67 := by
  refine ⟨_, rfl, fun sh hs hp => ?_⟩
  cases hs
  exact hp
set_option maxRecDepth 100000 in
set_option maxHeartbeats 4000000 in
theorem zKey_68 (D : va_G) (ca : Nat → ClassId) (x m : Nat) (u : Nat → Nat → Nat) (v : Nat → Nat) (H : Heap) : zKeyP D ca x m u v H 68 := by
  refine ⟨_, rfl, fun sh hs hp => ?_⟩
  cases hs
  exact hp
set_option maxRecDepth 100000 in
set_option maxHeartbeats 4000000 in
theorem zKey_69 (D : va_G) (ca : Nat → ClassId) (x m : Nat) (u : Nat → Nat → Nat) (v : Nat → Nat) (H : Heap) : zKeyP D ca x m u v H 69 := by
  refine ⟨_, rfl, fun sh hs hp => ?_⟩
  cases hs
  exact hp
set_option maxRecDepth 100000 in
set_option maxHeartbeats 4000000 in
theorem zKey_70 (D : va_G) (ca : Nat → ClassId) (x m : Nat) (u : Nat → Nat → Nat) (v : Nat → Nat) (H : Heap) : zKeyP D ca x m u v H 70 := by
  refine ⟨_, rfl, fun sh hs hp => ?_⟩
  cases hs
  exact hp
set_option maxRecDepth 100000 in
set_option maxHeartbeats 4000000 in
theorem zKey_71 (D : va_G) (ca : Nat → ClassId) (x m : Nat) (u : Nat → Nat → Nat) (v : Nat → Nat) (H : Heap) : zKeyP D ca x m u v H 71 := by
  refine ⟨_, rfl, fun sh hs hp => ?_⟩
  cases hs
  exact hp
set_option maxRecDepth 100000 in
set_option maxHeartbeats 4000000 in
theorem zKey_72 (D : va_G) (ca : Nat → ClassId) (x m : Nat) (u : Nat → Nat → Nat) (v : Nat → Nat) (H : Heap) : zKeyP D ca x m u v H 72 := by
  refine ⟨_, rfl, fun sh hs hp => ?_⟩
  cases hs
  exact hp
set_option maxRecDepth 100000 in
set_option maxHeartbeats 4000000 in
theorem zKey_73 (D : va_G) (ca : Nat → ClassId) (x m : Nat) (u : Nat → Nat → Nat) (v : Nat → Nat) (H : Heap) : zKeyP D ca x m u v H 73 := by
  refine ⟨_, rfl, fun sh hs hp => ?_⟩
  cases hs
  exact hp
set_option maxRecDepth 100000 in
set_option maxHeartbeats 4000000 in
theorem zKey_74 (D : va_G) (ca : Nat → ClassId) (x m : Nat) (u : Nat → Nat → Nat) (v : Nat → Nat) (H : Heap) : zKeyP D ca x m u v H 74 := by
  refine ⟨_, rfl, fun sh hs hp => ?_⟩
  cases hs
  exact hp
set_option maxRecDepth 100000 in
set_option maxHeartbeats 4000000 in
theorem zKey_75 (D : va_G) (ca : Nat → ClassId) (x m : Nat) (u : Nat → Nat → Nat) (v : Nat → Nat) (H : Heap) : zKeyP D ca x m u v H 75 := by
  refine ⟨_, rfl, fun sh hs hp => ?_⟩
  cases hs
  exact hp
set_option maxRecDepth 100000 in
set_option maxHeartbeats 4000000 in
theorem zKey_76 (D : va_G) (ca : Nat → ClassId) (x m : Nat) (u : Nat → Nat → Nat) (v : Nat → Nat) (H : Heap) : zKeyP D ca x m u v H 76 := by
  refine ⟨_, rfl, fun sh hs hp => ?_⟩
  cases hs
  exact hp
set_option maxRecDepth 100000 in
set_option maxHeartbeats 4000000 in
theorem zKey_77 (D : va_G) (ca : Nat → ClassId) (x m : Nat) (u : Nat → Nat → Nat) (v : Nat → Nat) (H : Heap) : zKeyP D ca x m u v H 77 := by
  refine ⟨_, rfl, fun sh hs hp => ?_⟩
  cases hs
  exact hp
set_option maxRecDepth 100000 in
set_option maxHeartbeats 4000000 in
theorem zKey_78 (D : va_G) (ca : Nat → ClassId) (x m : Nat) (u : Nat → Nat → Nat) (v : Nat → Nat) (H : Heap) : zKeyP D ca x m u v H 78 := by
  refine ⟨_, rfl, fun sh hs hp => ?_⟩
  cases hs
  exact hp
set_option maxRecDepth 100000 in
set_option maxHeartbeats 4000000 in
theorem zKey_79 (D : va_G) (ca : Nat → ClassId) (x m : Nat) (u : Nat → Nat → Nat) (v : Nat → Nat) (H : Heap) : zKeyP D ca x m u v H 79 := by
  refine ⟨_, rfl, fun sh hs hp => ?_⟩
  cases hs
  exact hp
set_option maxRecDepth 100000 in
set_option maxHeartbeats 4000000 in
theorem zKey_80 (D : va_G) (ca : Nat → ClassId) (x m : Nat) (u : Nat → Nat → Nat) (v : Nat → Nat) (H : Heap) : zKeyP D ca x m u v H 80 := by
  refine ⟨_, rfl, fun sh hs hp => ?_⟩
  cases hs
  refine zAt_i (fun j hj => ?_) hp
  exact (congrFun (zRmI_F 3) j).symm
set_option maxRecDepth 100000 in
set_option maxHeartbeats 4000000 in
theorem zKey_81 (D : va_G) (ca : Nat → ClassId) (x m : Nat) (u : Nat → Nat → Nat) (v : Nat → Nat) (H : Heap) : zKeyP D ca x m u v H 81 := by
  refine ⟨_, rfl, fun sh hs hp => ?_⟩
  cases hs
  exact hp
set_option maxRecDepth 100000 in
set_option maxHeartbeats 4000000 in
theorem zKey_82 (D : va_G) (ca : Nat → ClassId) (x m : Nat) (u : Nat → Nat → Nat) (v : Nat → Nat) (H : Heap) : zKeyP D ca x m u v H 82 := by
  refine ⟨_, rfl, fun sh hs hp => ?_⟩
  cases hs
  exact hp
set_option maxRecDepth 100000 in
set_option maxHeartbeats 4000000 in
theorem zKey_83 (D : va_G) (ca : Nat → ClassId) (x m : Nat) (u : Nat → Nat → Nat) (v : Nat → Nat) (H : Heap) : zKeyP D ca x m u v H 83 := by
  refine ⟨_, rfl, fun sh hs hp => ?_⟩
  cases hs
  exact hp
set_option maxRecDepth 100000 in
set_option maxHeartbeats 4000000 in
theorem zKey_84 (D : va_G) (ca : Nat → ClassId) (x m : Nat) (u : Nat → Nat → Nat) (v : Nat → Nat) (H : Heap) : zKeyP D ca x m u v H 84 := by
  refine ⟨_, rfl, fun sh hs hp => ?_⟩
  cases hs
  exact hp
set_option maxRecDepth 100000 in
set_option maxHeartbeats 4000000 in
theorem zKey_85 (D : va_G) (ca : Nat → ClassId) (x m : Nat) (u : Nat → Nat → Nat) (v : Nat → Nat) (H : Heap) : zKeyP D ca x m u v H 85 := by
  refine ⟨_, rfl, fun sh hs hp => ?_⟩
  cases hs
  exact hp
set_option maxRecDepth 100000 in
set_option maxHeartbeats 4000000 in
theorem zKey_86 (D : va_G) (ca : Nat → ClassId) (x m : Nat) (u : Nat → Nat → Nat) (v : Nat → Nat) (H : Heap) : zKeyP D ca x m u v H 86 := by
  refine ⟨_, rfl, fun sh hs hp => ?_⟩
  cases hs
  exact hp
set_option maxRecDepth 100000 in
set_option maxHeartbeats 4000000 in
theorem zKey_87 (D : va_G) (ca : Nat → ClassId) (x m : Nat) (u : Nat → Nat → Nat) (v : Nat → Nat) (H : Heap) : zKeyP D ca x m u v H 87 := by
  refine ⟨_, rfl, fun sh hs hp => ?_⟩
  cases hs
  exact hp
set_option maxRecDepth 100000 in
set_option maxHeartbeats 4000000 in
theorem zKey_88 (D : va_G) (ca : Nat → ClassId) (x m : Nat) (u : Nat → Nat → Nat) (v : Nat → Nat) (H : Heap) : zKeyP D ca x m u v H 88 := by
  refine ⟨_, rfl, fun sh hs hp => ?_⟩
  cases hs
  exact hp
set_option maxRecDepth 100000 in
set_option maxHeartbeats 4000000 in
theorem zKey_89 (D : va_G) (ca : Nat → ClassId) (x m : Nat) (u : Nat → Nat → Nat) (v : Nat → Nat) (H : Heap) : zKeyP D ca x m u v H 89 := by
  refine ⟨_, rfl, fun sh hs hp => ?_⟩
  cases hs
  exact hp
set_option maxRecDepth 100000 in
set_option maxHeartbeats 4000000 in
theorem zKey_90 (D : va_G) (ca : Nat → ClassId) (x m : Nat) (u : Nat → Nat → Nat) (v : Nat → Nat) (H : Heap) : zKeyP D ca x m u v H 90 := by
  refine ⟨_, rfl, fun sh hs hp => ?_⟩
  cases hs
  exact hp
set_option maxRecDepth 100000 in
set_option maxHeartbeats 4000000 in
theorem zKey_91 (D : va_G) (ca : Nat → ClassId) (x m : Nat) (u : Nat → Nat → Nat) (v : Nat → Nat) (H : Heap) : zKeyP D ca x m u v H 91 := by
  refine ⟨_, rfl, fun sh hs hp => ?_⟩
  cases hs
  exact hp
set_option maxRecDepth 100000 in
set_option maxHeartbeats 4000000 in
theorem zKey (D : va_G) (ca : Nat → ClassId) (x m : Nat) (u : Nat → Nat → Nat) (v : Nat → Nat) (H : Heap) : ∀ a, a < 92 → zKeyP D ca x m u v H a := by
  have h0 : ∀ a, a < 0 → zKeyP D ca x m u v H a := lt_0
  have h1 : ∀ a, a < 1 → zKeyP D ca x m u v H a := lt_s h0 (zKey_0 D ca x m u v H)
  have h2 : ∀ a, a < 2 → zKeyP D ca x m u v H a := lt_s h1 (zKey_1 D ca x m u v H)
  have h3 : ∀ a, a < 3 → zKeyP D ca x m u v H a := lt_s h2 (zKey_2 D ca x m u v H)
  have h4 : ∀ a, a < 4 → zKeyP D ca x m u v H a := lt_s h3 (zKey_3 D ca x m u v H)
  have h5 : ∀ a, a < 5 → zKeyP D ca x m u v H a := lt_s h4 (zKey_4 D ca x m u v H)
  have h6 : ∀ a, a < 6 → zKeyP D ca x m u v H a := lt_s h5 (zKey_5 D ca x m u v H)
  have h7 : ∀ a, a < 7 → zKeyP D ca x m u v H a := lt_s h6 (zKey_6 D ca x m u v H)
  have h8 : ∀ a, a < 8 → zKeyP D ca x m u v H a := lt_s h7 (zKey_7 D ca x m u v H)
  have h9 : ∀ a, a < 9 → zKeyP D ca x m u v H a := lt_s h8 (zKey_8 D ca x m u v H)
  have h10 : ∀ a, a < 10 → zKeyP D ca x m u v H a := lt_s h9 (zKey_9 D ca x m u v H)
  have h11 : ∀ a, a < 11 → zKeyP D ca x m u v H a := lt_s h10 (zKey_10 D ca x m u v H)
  have h12 : ∀ a, a < 12 → zKeyP D ca x m u v H a := lt_s h11 (zKey_11 D ca x m u v H)
  have h13 : ∀ a, a < 13 → zKeyP D ca x m u v H a := lt_s h12 (zKey_12 D ca x m u v H)
  have h14 : ∀ a, a < 14 → zKeyP D ca x m u v H a := lt_s h13 (zKey_13 D ca x m u v H)
  have h15 : ∀ a, a < 15 → zKeyP D ca x m u v H a := lt_s h14 (zKey_14 D ca x m u v H)
  have h16 : ∀ a, a < 16 → zKeyP D ca x m u v H a := lt_s h15 (zKey_15 D ca x m u v H)
  have h17 : ∀ a, a < 17 → zKeyP D ca x m u v H a := lt_s h16 (zKey_16 D ca x m u v H)
  have h18 : ∀ a, a < 18 → zKeyP D ca x m u v H a := lt_s h17 (zKey_17 D ca x m u v H)
  have h19 : ∀ a, a < 19 → zKeyP D ca x m u v H a := lt_s h18 (zKey_18 D ca x m u v H)
  have h20 : ∀ a, a < 20 → zKeyP D ca x m u v H a := lt_s h19 (zKey_19 D ca x m u v H)
  have h21 : ∀ a, a < 21 → zKeyP D ca x m u v H a := lt_s h20 (zKey_20 D ca x m u v H)
  have h22 : ∀ a, a < 22 → zKeyP D ca x m u v H a := lt_s h21 (zKey_21 D ca x m u v H)
  have h23 : ∀ a, a < 23 → zKeyP D ca x m u v H a := lt_s h22 (zKey_22 D ca x m u v H)
  have h24 : ∀ a, a < 24 → zKeyP D ca x m u v H a := lt_s h23 (zKey_23 D ca x m u v H)
  have h25 : ∀ a, a < 25 → zKeyP D ca x m u v H a := lt_s h24 (zKey_24 D ca x m u v H)
  have h26 : ∀ a, a < 26 → zKeyP D ca x m u v H a := lt_s h25 (zKey_25 D ca x m u v H)
  have h27 : ∀ a, a < 27 → zKeyP D ca x m u v H a := lt_s h26 (zKey_26 D ca x m u v H)
  have h28 : ∀ a, a < 28 → zKeyP D ca x m u v H a := lt_s h27 (zKey_27 D ca x m u v H)
  have h29 : ∀ a, a < 29 → zKeyP D ca x m u v H a := lt_s h28 (zKey_28 D ca x m u v H)
  have h30 : ∀ a, a < 30 → zKeyP D ca x m u v H a := lt_s h29 (zKey_29 D ca x m u v H)
  have h31 : ∀ a, a < 31 → zKeyP D ca x m u v H a := lt_s h30 (zKey_30 D ca x m u v H)
  have h32 : ∀ a, a < 32 → zKeyP D ca x m u v H a := lt_s h31 (zKey_31 D ca x m u v H)
  have h33 : ∀ a, a < 33 → zKeyP D ca x m u v H a := lt_s h32 (zKey_32 D ca x m u v H)
  have h34 : ∀ a, a < 34 → zKeyP D ca x m u v H a := lt_s h33 (zKey_33 D ca x m u v H)
  have h35 : ∀ a, a < 35 → zKeyP D ca x m u v H a := lt_s h34 (zKey_34 D ca x m u v H)
  have h36 : ∀ a, a < 36 → zKeyP D ca x m u v H a := lt_s h35 (zKey_35 D ca x m u v H)
  have h37 : ∀ a, a < 37 → zKeyP D ca x m u v H a := lt_s h36 (zKey_36 D ca x m u v H)
  have h38 : ∀ a, a < 38 → zKeyP D ca x m u v H a := lt_s h37 (zKey_37 D ca x m u v H)
  have h39 : ∀ a, a < 39 → zKeyP D ca x m u v H a := lt_s h38 (zKey_38 D ca x m u v H)
  have h40 : ∀ a, a < 40 → zKeyP D ca x m u v H a := lt_s h39 (zKey_39 D ca x m u v H)
  have h41 : ∀ a, a < 41 → zKeyP D ca x m u v H a := lt_s h40 (zKey_40 D ca x m u v H)
  have h42 : ∀ a, a < 42 → zKeyP D ca x m u v H a := lt_s h41 (zKey_41 D ca x m u v H)
  have h43 : ∀ a, a < 43 → zKeyP D ca x m u v H a := lt_s h42 (zKey_42 D ca x m u v H)
  have h44 : ∀ a, a < 44 → zKeyP D ca x m u v H a := lt_s h43 (zKey_43 D ca x m u v H)
  have h45 : ∀ a, a < 45 → zKeyP D ca x m u v H a := lt_s h44 (zKey_44 D ca x m u v H)
  have h46 : ∀ a, a < 46 → zKeyP D ca x m u v H a := lt_s h45 (zKey_45 D ca x m u v H)
  have h47 : ∀ a, a < 47 → zKeyP D ca x m u v H a := lt_s h46 (zKey_46 D ca x m u v H)
  have h48 : ∀ a, a < 48 → zKeyP D ca x m u v H a := lt_s h47 (zKey_47 D ca x m u v H)
  have h49 : ∀ a, a < 49 → zKeyP D ca x m u v H a := lt_s h48 (zKey_48 D ca x m u v H)
  have h50 : ∀ a, a < 50 → zKeyP D ca x m u v H a := lt_s h49 (zKey_49 D ca x m u v H)
  have h51 : ∀ a, a < 51 → zKeyP D ca x m u v H a := lt_s h50 (zKey_50 D ca x m u v H)
  have h52 : ∀ a, a < 52 → zKeyP D ca x m u v H a := lt_s h51 (zKey_51 D ca x m u v H)
  have h53 : ∀ a, a < 53 → zKeyP D ca x m u v H a := lt_s h52 (zKey_52 D ca x m u v H)
  have h54 : ∀ a, a < 54 → zKeyP D ca x m u v H a := lt_s h53 (zKey_53 D ca x m u v H)
  have h55 : ∀ a, a < 55 → zKeyP D ca x m u v H a := lt_s h54 (zKey_54 D ca x m u v H)
  have h56 : ∀ a, a < 56 → zKeyP D ca x m u v H a := lt_s h55 (zKey_55 D ca x m u v H)
  have h57 : ∀ a, a < 57 → zKeyP D ca x m u v H a := lt_s h56 (zKey_56 D ca x m u v H)
  have h58 : ∀ a, a < 58 → zKeyP D ca x m u v H a := lt_s h57 (zKey_57 D ca x m u v H)
  have h59 : ∀ a, a < 59 → zKeyP D ca x m u v H a := lt_s h58 (zKey_58 D ca x m u v H)
  have h60 : ∀ a, a < 60 → zKeyP D ca x m u v H a := lt_s h59 (zKey_59 D ca x m u v H)
  have h61 : ∀ a, a < 61 → zKeyP D ca x m u v H a := lt_s h60 (zKey_60 D ca x m u v H)
  have h62 : ∀ a, a < 62 → zKeyP D ca x m u v H a := lt_s h61 (zKey_61 D ca x m u v H)
  have h63 : ∀ a, a < 63 → zKeyP D ca x m u v H a := lt_s h62 (zKey_62 D ca x m u v H)
  have h64 : ∀ a, a < 64 → zKeyP D ca x m u v H a := lt_s h63 (zKey_63 D ca x m u v H)
  have h65 : ∀ a, a < 65 → zKeyP D ca x m u v H a := lt_s h64 (zKey_64 D ca x m u v H)
  have h66 : ∀ a, a < 66 → zKeyP D ca x m u v H a := lt_s h65 (zKey_65 D ca x m u v H)
  have h67 : ∀ a, a < 67 → zKeyP D ca x m u v H a := lt_s h66 (zKey_66 D ca x m u v H)
  have h68 : ∀ a, a < 68 → zKeyP D ca x m u v H a := lt_s h67 (zKey_67 D ca x m u v H)
  have h69 : ∀ a, a < 69 → zKeyP D ca x m u v H a := lt_s h68 (zKey_68 D ca x m u v H)
  have h70 : ∀ a, a < 70 → zKeyP D ca x m u v H a := lt_s h69 (zKey_69 D ca x m u v H)
  have h71 : ∀ a, a < 71 → zKeyP D ca x m u v H a := lt_s h70 (zKey_70 D ca x m u v H)
  have h72 : ∀ a, a < 72 → zKeyP D ca x m u v H a := lt_s h71 (zKey_71 D ca x m u v H)
  have h73 : ∀ a, a < 73 → zKeyP D ca x m u v H a := lt_s h72 (zKey_72 D ca x m u v H)
  have h74 : ∀ a, a < 74 → zKeyP D ca x m u v H a := lt_s h73 (zKey_73 D ca x m u v H)
  have h75 : ∀ a, a < 75 → zKeyP D ca x m u v H a := lt_s h74 (zKey_74 D ca x m u v H)
  have h76 : ∀ a, a < 76 → zKeyP D ca x m u v H a := lt_s h75 (zKey_75 D ca x m u v H)
  have h77 : ∀ a, a < 77 → zKeyP D ca x m u v H a := lt_s h76 (zKey_76 D ca x m u v H)
  have h78 : ∀ a, a < 78 → zKeyP D ca x m u v H a := lt_s h77 (zKey_77 D ca x m u v H)
  have h79 : ∀ a, a < 79 → zKeyP D ca x m u v H a := lt_s h78 (zKey_78 D ca x m u v H)
  have h80 : ∀ a, a < 80 → zKeyP D ca x m u v H a := lt_s h79 (zKey_79 D ca x m u v H)
  have h81 : ∀ a, a < 81 → zKeyP D ca x m u v H a := lt_s h80 (zKey_80 D ca x m u v H)
  have h82 : ∀ a, a < 82 → zKeyP D ca x m u v H a := lt_s h81 (zKey_81 D ca x m u v H)
  have h83 : ∀ a, a < 83 → zKeyP D ca x m u v H a := lt_s h82 (zKey_82 D ca x m u v H)
  have h84 : ∀ a, a < 84 → zKeyP D ca x m u v H a := lt_s h83 (zKey_83 D ca x m u v H)
  have h85 : ∀ a, a < 85 → zKeyP D ca x m u v H a := lt_s h84 (zKey_84 D ca x m u v H)
  have h86 : ∀ a, a < 86 → zKeyP D ca x m u v H a := lt_s h85 (zKey_85 D ca x m u v H)
  have h87 : ∀ a, a < 87 → zKeyP D ca x m u v H a := lt_s h86 (zKey_86 D ca x m u v H)
  have h88 : ∀ a, a < 88 → zKeyP D ca x m u v H a := lt_s h87 (zKey_87 D ca x m u v H)
  have h89 : ∀ a, a < 89 → zKeyP D ca x m u v H a := lt_s h88 (zKey_88 D ca x m u v H)
  have h90 : ∀ a, a < 90 → zKeyP D ca x m u v H a := lt_s h89 (zKey_89 D ca x m u v H)
  have h91 : ∀ a, a < 91 → zKeyP D ca x m u v H a := lt_s h90 (zKey_90 D ca x m u v H)
  have h92 : ∀ a, a < 92 → zKeyP D ca x m u v H a := lt_s h91 (zKey_91 D ca x m u v H)
  exact h92
theorem zin_t (i : Nat) {w : Cond} (h : tables_1[i]? = some w) : w ∈ lw_tbl := List.mem_append_right _ (List.mem_of_getElem? h)
set_option maxRecDepth 100000 in
theorem zao : Cond.arrayOver (.object "GateRoads$State") ∈ lw_tbl := zin_t 63 rfl
set_option maxRecDepth 100000 in
theorem znw : ∀ q ∈ zNw, Cond.methodLinkNest q.1 q.2.1 q.2.2.1 q.2.2.2 ∈ lw_tbl := by
  unfold zNw
  intro q hq
  simp only [List.mem_cons, List.not_mem_nil, or_false] at hq
  rcases hq with rfl | rfl | rfl
  · exact zin_t 477 rfl
  · exact zin_t 500 rfl
  · exact zin_t 537 rfl
set_option maxRecDepth 100000 in
theorem znc : ∀ q ∈ zNc, Cond.methodLinkNest q.1 q.2.1 q.2.2.1 q.2.2.2 ∈ lw_tbl := by
  unfold zNc
  intro q hq
  simp only [List.mem_cons, List.not_mem_nil, or_false] at hq
  rcases hq with rfl | rfl | rfl | rfl | rfl
  · exact zin_t 66 rfl
  · exact zin_t 107 rfl
  · exact zin_t 121 rfl
  · exact zin_t 134 rfl
  · exact zin_t 153 rfl
