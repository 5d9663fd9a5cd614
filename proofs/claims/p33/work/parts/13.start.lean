def zRmI (o j : Int) : Int := if o ≤ j ∧ j < o + 24 then (if (j - o) % 3 = 1 then 1440 else if (j - o) % 3 = 2 then 1000 else 0) else 0
theorem zRmI_F (o : Nat) : (fun j : Nat => zI (zRmI (o : Int) (j : Int))) = zRmF o 8 := by
  funext j
  unfold zRmI zRmF
  by_cases h : o ≤ j ∧ j < o + 3 * 8
  · rw [if_pos h, if_pos (by omega)]
    by_cases h1 : (j - o) % 3 = 1
    · rw [if_pos h1, if_pos (by omega)]
    · rw [if_neg h1, if_neg (by omega)]
      by_cases h2 : (j - o) % 3 = 2
      · rw [if_pos h2, if_pos (by omega)]
      · rw [if_neg h2, if_neg (by omega)]; rfl
  · rw [if_neg h, if_neg (by omega)]; rfl
/-- the memory behind the constructors -/
def zM0 : zM := fun n j => if n = 55 then (if 0 ≤ j ∧ j < 6 then j + 1 else 1) else if n = 56 then (if 0 ≤ j ∧ j < 2 then j + 7 else 7) else if n < 54 ∧ n % 6 = 1 then zRmI 0 j else 0
theorem zRmI_rg (o j : Int) : zR (zRmI o j) := by
  unfold zRmI
  split
  · split
    · exact zR_of rfl
    · split
      · exact zR_of rfl
      · exact zR_0
  · exact zR_0
theorem zM0_rg : zRM zM0 := by
  intro n j
  unfold zM0
  split
  · split
    · exact ⟨by omega, by omega⟩
    · exact zR_of rfl
  · split
    · split
      · exact ⟨by omega, by omega⟩
      · exact zR_of rfl
    · split
      · exact zRmI_rg _ _
      · exact zR_0
theorem zAt_i {D : va_G} {cl : List vw_C} {a len : Nat} {c : ClassId} {f g : Nat → Int32} (h : ∀ j, j < len → f j = g j) {H : Heap} (hp : va_at D cl (a, .inl (c, (len, .inl f))) H) : va_at D cl (a, .inl (c, (len, .inl g))) H := by
  have e : vp_cell c (len, .inl f) = vp_cell c (len, .inl g) := by
    rw [vp_cell_i, vp_cell_i]
    unfold arrV
    congr 2
    funext j
    show Value.int (f j.val) = Value.int (g j.val)
    rw [h j.val j.isLt]
  show H[a]? = some (vp_cell c (len, .inl g))
  rw [← e]; exact hp
theorem zAt_q {D : va_G} {cl : List vw_C} {a len : Nat} {c : ClassId} {f g : Nat → Option Nat} (h : ∀ j, j < len → f j = g j) {H : Heap} (hp : va_at D cl (a, .inl (c, (len, .inr (.inr (.inr (.inr f)))))) H) : va_at D cl (a, .inl (c, (len, .inr (.inr (.inr (.inr g)))))) H := by
  have e : vp_cell c (len, .inr (.inr (.inr (.inr f)))) = vp_cell c (len, .inr (.inr (.inr (.inr g)))) := by
    rw [vp_cell_q, vp_cell_q]
    unfold arrV
    congr 2
    funext j
    show va_rf (f j.val) = va_rf (g j.val)
    rw [h j.val j.isLt]
  show H[a]? = some (vp_cell c (len, .inr (.inr (.inr (.inr g)))))
  rw [← e]; exact hp
theorem zWorld {D : va_G} {A : Nat → Prop} {ws : va_W} {H : Heap} {ad : Nat → Nat} {ca : Nat → ClassId} {σ : zM} (pos : Nat → Nat) (inj : ∀ i, i < 79 → ∀ j, j < 79 → pos i = pos j → i = j) (key : ∀ a, a < 79 → ∃ e, ws[pos a]? = some (ad a, e) ∧ ∀ sh, zShp[a]? = some sh → va_at D zCl (ad a, e) H → va_at D zCl (ad a, zEnt ad ca σ a sh) H) (hP : va_P D zCl ws H) (hD : va_D A ws) : va_P D zCl (zWs ad ca σ) H ∧ va_D A (zWs ad ca σ) := by
  constructor
  · intro k q hk
    obtain ⟨hk79, hq⟩ := zWs_inv hk
    obtain ⟨e, h1, h2⟩ := key k hk79
    have hl : k < zShp.length := hk79
    have hs := List.getElem?_eq_getElem hl
    have := zWs_get (ad := ad) (ca := ca) (σ := σ) hs
    rw [this] at hk
    cases hk
    exact h2 _ hs (hP _ _ h1)
  · refine ⟨fun i j p q hi hj e => ?_, fun k q hk => ?_⟩
    · obtain ⟨hi79, hp⟩ := zWs_inv hi
      obtain ⟨hj79, hq⟩ := zWs_inv hj
      obtain ⟨e1, h1, -⟩ := key i hi79
      obtain ⟨e2, h2, -⟩ := key j hj79
      exact inj i hi79 j hj79 (hD.1 _ _ _ _ h1 h2 (by show ad i = ad j; rw [← hp, ← hq]; exact e))
    · obtain ⟨hk79, hq⟩ := zWs_inv hk
      obtain ⟨e1, h1, -⟩ := key k hk79
      rw [hq]
      exact hD.2 _ _ h1
def zPos : Nat → Nat := fun n => [73, 74, 75, 76, 77, 78, 45, 46, 47, 48, 49, 50, 39, 40, 41, 42, 43, 44, 33, 34, 35, 36, 37, 38, 27, 28, 29, 30, 31, 32, 21, 22, 23, 24, 25, 26, 15, 16, 17, 18, 19, 20, 9, 10, 11, 12, 13, 14, 3, 4, 5, 6, 7, 8, 0, 1, 2, 72, 68, 69, 70, 71, 66, 67, 63, 64, 65, 60, 61, 62, 57, 58, 59, 51, 52, 53, 54, 55, 56].getD n 0
set_option maxRecDepth 100000 in
theorem zPos_inj : ∀ i, i < 79 → ∀ j, j < 79 → zPos i = zPos j → i = j := by decide +kernel
def zAd (x : Nat) (u : Nat → Nat → Nat) : Nat → Nat := fun n => [(u 0 2), (u 1 0), (u 1 1), (u 1 2), (u 1 3), (u 1 4), (u 0 10), (u 8 0), (u 8 1), (u 8 2), (u 8 3), (u 8 4), (u 0 11), (u 9 0), (u 9 1), (u 9 2), (u 9 3), (u 9 4), (u 0 12), (u 10 0), (u 10 1), (u 10 2), (u 10 3), (u 10 4), (u 0 13), (u 11 0), (u 11 1), (u 11 2), (u 11 3), (u 11 4), (u 0 14), (u 12 0), (u 12 1), (u 12 2), (u 12 3), (u 12 4), (u 0 15), (u 13 0), (u 13 1), (u 13 2), (u 13 3), (u 13 4), (u 0 16), (u 14 0), (u 14 1), (u 14 2), (u 14 3), (u 14 4), (u 0 17), (u 15 0), (u 15 1), (u 15 2), (u 15 3), (u 15 4), x, (u 0 0), (u 0 1), (u 0 3), (u 0 4), (u 2 0), (u 2 1), (u 2 2), (u 0 5), (u 3 0), (u 0 6), (u 4 0), (u 4 1), (u 0 7), (u 5 0), (u 5 1), (u 0 8), (u 6 0), (u 6 1), (u 0 9), (u 7 0), (u 7 1), (u 7 2), (u 7 3), (u 7 4)].getD n 0
def zKeyP (D : va_G) (ca : Nat → ClassId) (x : Nat) (u : Nat → Nat → Nat) (H : Heap) (a : Nat) : Prop := ∃ e, (w_X ca x u)[zPos a]? = some (zAd x u a, e) ∧ ∀ sh, zShp[a]? = some sh → va_at D zCl (zAd x u a, e) H → va_at D zCl (zAd x u a, zEnt (zAd x u) ca zM0 a sh) H
set_option maxRecDepth 100000 in
set_option maxHeartbeats 4000000 in
theorem zKey_0 (D : va_G) (ca : Nat → ClassId) (x : Nat) (u : Nat → Nat → Nat) (H : Heap) : zKeyP D ca x u H 0 := by
  refine ⟨_, rfl, fun sh hs hp => ?_⟩
  cases hs
  exact hp
set_option maxRecDepth 100000 in
set_option maxHeartbeats 4000000 in
theorem zKey_1 (D : va_G) (ca : Nat → ClassId) (x : Nat) (u : Nat → Nat → Nat) (H : Heap) : zKeyP D ca x u H 1 := by
  refine ⟨_, rfl, fun sh hs hp => ?_⟩
  cases hs
  refine zAt_i (fun j hj => ?_) hp
  exact (congrFun (zRmI_F 0) j).symm
set_option maxRecDepth 100000 in
set_option maxHeartbeats 4000000 in
theorem zKey_2 (D : va_G) (ca : Nat → ClassId) (x : Nat) (u : Nat → Nat → Nat) (H : Heap) : zKeyP D ca x u H 2 := by
  refine ⟨_, rfl, fun sh hs hp => ?_⟩
  cases hs
  exact hp
set_option maxRecDepth 100000 in
set_option maxHeartbeats 4000000 in
theorem zKey_3 (D : va_G) (ca : Nat → ClassId) (x : Nat) (u : Nat → Nat → Nat) (H : Heap) : zKeyP D ca x u H 3 := by
  refine ⟨_, rfl, fun sh hs hp => ?_⟩
  cases hs
  exact hp
set_option maxRecDepth 100000 in
set_option maxHeartbeats 4000000 in
theorem zKey_4 (D : va_G) (ca : Nat → ClassId) (x : Nat) (u : Nat → Nat → Nat) (H : Heap) : zKeyP D ca x u H 4 := by
  refine ⟨_, rfl, fun sh hs hp => ?_⟩
  cases hs
  exact hp
set_option maxRecDepth 100000 in
set_option maxHeartbeats 4000000 in
theorem zKey_5 (D : va_G) (ca : Nat → ClassId) (x : Nat) (u : Nat → Nat → Nat) (H : Heap) : zKeyP D ca x u H 5 := by
  refine ⟨_, rfl, fun sh hs hp => ?_⟩
  cases hs
  exact hp
set_option maxRecDepth 100000 in
set_option maxHeartbeats 4000000 in
theorem zKey_6 (D : va_G) (ca : Nat → ClassId) (x : Nat) (u : Nat → Nat → Nat) (H : Heap) : zKeyP D ca x u H 6 := by
  refine ⟨_, rfl, fun sh hs hp => ?_⟩
  cases hs
  exact hp
set_option maxRecDepth 100000 in
set_option maxHeartbeats 4000000 in
theorem zKey_7 (D : va_G) (ca : Nat → ClassId) (x : Nat) (u : Nat → Nat → Nat) (H : Heap) : zKeyP D ca x u H 7 := by
  refine ⟨_, rfl, fun sh hs hp => ?_⟩
  cases hs
  refine zAt_i (fun j hj => ?_) hp
  exact (congrFun (zRmI_F 0) j).symm
set_option maxRecDepth 100000 in
set_option maxHeartbeats 4000000 in
theorem zKey_8 (D : va_G) (ca : Nat → ClassId) (x : Nat) (u : Nat → Nat → Nat) (H : Heap) : zKeyP D ca x u H 8 := by
  refine ⟨_, rfl, fun sh hs hp => ?_⟩
  cases hs
  exact hp
set_option maxRecDepth 100000 in
set_option maxHeartbeats 4000000 in
theorem zKey_9 (D : va_G) (ca : Nat → ClassId) (x : Nat) (u : Nat → Nat → Nat) (H : Heap) : zKeyP D ca x u H 9 := by
  refine ⟨_, rfl, fun sh hs hp => ?_⟩
  cases hs
  exact hp
set_option maxRecDepth 100000 in
set_option maxHeartbeats 4000000 in
theorem zKey_10 (D : va_G) (ca : Nat → ClassId) (x : Nat) (u : Nat → Nat → Nat) (H : Heap) : zKeyP D ca x u H 10 := by
  refine ⟨_, rfl, fun sh hs hp => ?_⟩
  cases hs
  exact hp
set_option maxRecDepth 100000 in
set_option maxHeartbeats 4000000 in
theorem zKey_11 (D : va_G) (ca : Nat → ClassId) (x : Nat) (u : Nat → Nat → Nat) (H : Heap) : zKeyP D ca x u H 11 := by
  refine ⟨_, rfl, fun sh hs hp => ?_⟩
  cases hs
  exact hp
set_option maxRecDepth 100000 in
set_option maxHeartbeats 4000000 in
theorem zKey_12 (D : va_G) (ca : Nat → ClassId) (x : Nat) (u : Nat → Nat → Nat) (H : Heap) : zKeyP D ca x u H 12 := by
  refine ⟨_, rfl, fun sh hs hp => ?_⟩
  cases hs
  exact hp
set_option maxRecDepth 100000 in
set_option maxHeartbeats 4000000 in
theorem zKey_13 (D : va_G) (ca : Nat → ClassId) (x : Nat) (u : Nat → Nat → Nat) (H : Heap) : zKeyP D ca x u H 13 := by
  refine ⟨_, rfl, fun sh hs hp => ?_⟩
  cases hs
  refine zAt_i (fun j hj => ?_) hp
  exact (congrFun (zRmI_F 0) j).symm
set_option maxRecDepth 100000 in
set_option maxHeartbeats 4000000 in
theorem zKey_14 (D : va_G) (ca : Nat → ClassId) (x : Nat) (u : Nat → Nat → Nat) (H : Heap) : zKeyP D ca x u H 14 := by
  refine ⟨_, rfl, fun sh hs hp => ?_⟩
  cases hs
  exact hp
set_option maxRecDepth 100000 in
set_option maxHeartbeats 4000000 in
theorem zKey_15 (D : va_G) (ca : Nat → ClassId) (x : Nat) (u : Nat → Nat → Nat) (H : Heap) : zKeyP D ca x u H 15 := by
  refine ⟨_, rfl, fun sh hs hp => ?_⟩
  cases hs
  exact hp
set_option maxRecDepth 100000 in
set_option maxHeartbeats 4000000 in
theorem zKey_16 (D : va_G) (ca : Nat → ClassId) (x : Nat) (u : Nat → Nat → Nat) (H : Heap) : zKeyP D ca x u H 16 := by
  refine ⟨_, rfl, fun sh hs hp => ?_⟩
  cases hs
  exact hp
set_option maxRecDepth 100000 in
set_option maxHeartbeats 4000000 in
theorem zKey_17 (D : va_G) (ca : Nat → ClassId) (x : Nat) (u : Nat → Nat → Nat) (H : Heap) : zKeyP D ca x u H 17 := by
  refine ⟨_, rfl, fun sh hs hp => ?_⟩
  cases hs
  exact hp
set_option maxRecDepth 100000 in
set_option maxHeartbeats 4000000 in
theorem zKey_18 (D : va_G) (ca : Nat → ClassId) (x : Nat) (u : Nat → Nat → Nat) (H : Heap) : zKeyP D ca x u H 18 := by
  refine ⟨_, rfl, fun sh hs hp => ?_⟩
  cases hs
  exact hp
set_option maxRecDepth 100000 in
set_option maxHeartbeats 4000000 in
theorem zKey_19 (D : va_G) (ca : Nat → ClassId) (x : Nat) (u : Nat → Nat → Nat) (H : Heap) : zKeyP D ca x u H 19 := by
  refine ⟨_, rfl, fun sh hs hp => ?_⟩
  cases hs
  refine zAt_i (fun j hj => ?_) hp
  exact (congrFun (zRmI_F 0) j).symm
set_option maxRecDepth 100000 in
set_option maxHeartbeats 4000000 in
theorem zKey_20 (D : va_G) (ca : Nat → ClassId) (x : Nat) (u : Nat → Nat → Nat) (H : Heap) : zKeyP D ca x u H 20 := by
  refine ⟨_, rfl, fun sh hs hp => ?_⟩
  cases hs
  exact hp
set_option maxRecDepth 100000 in
set_option maxHeartbeats 4000000 in
theorem zKey_21 (D : va_G) (ca : Nat → ClassId) (x : Nat) (u : Nat → Nat → Nat) (H : Heap) : zKeyP D ca x u H 21 := by
  refine ⟨_, rfl, fun sh hs hp => ?_⟩
  cases hs
  exact hp
set_option maxRecDepth 100000 in
set_option maxHeartbeats 4000000 in
theorem zKey_22 (D : va_G) (ca : Nat → ClassId) (x : Nat) (u : Nat → Nat → Nat) (H : Heap) : zKeyP D ca x u H 22 := by
  refine ⟨_, rfl, fun sh hs hp => ?_⟩
  cases hs
  exact hp
set_option maxRecDepth 100000 in
set_option maxHeartbeats 4000000 in
theorem zKey_23 (D : va_G) (ca : Nat → ClassId) (x : Nat) (u : Nat → Nat → Nat) (H : Heap) : zKeyP D ca x u H 23 := by
  refine ⟨_, rfl, fun sh hs hp => ?_⟩
  cases hs
  exact hp
set_option maxRecDepth 100000 in
set_option maxHeartbeats 4000000 in
theorem zKey_24 (D : va_G) (ca : Nat → ClassId) (x : Nat) (u : Nat → Nat → Nat) (H : Heap) : zKeyP D ca x u H 24 := by
  refine ⟨_, rfl, fun sh hs hp => ?_⟩
  cases hs
  exact hp
set_option maxRecDepth 100000 in
set_option maxHeartbeats 4000000 in
theorem zKey_25 (D : va_G) (ca : Nat → ClassId) (x : Nat) (u : Nat → Nat → Nat) (H : Heap) : zKeyP D ca x u H 25 := by
  refine ⟨_, rfl, fun sh hs hp => ?_⟩
  cases hs
  refine zAt_i (fun j hj => ?_) hp
  exact (congrFun (zRmI_F 0) j).symm
set_option maxRecDepth 100000 in
set_option maxHeartbeats 4000000 in
theorem zKey_26 (D : va_G) (ca : Nat → ClassId) (x : Nat) (u : Nat → Nat → Nat) (H : Heap) : zKeyP D ca x u H 26 := by
  refine ⟨_, rfl, fun sh hs hp => ?_⟩
  cases hs
  exact hp
set_option maxRecDepth 100000 in
set_option maxHeartbeats 4000000 in
theorem zKey_27 (D : va_G) (ca : Nat → ClassId) (x : Nat) (u : Nat → Nat → Nat) (H : Heap) : zKeyP D ca x u H 27 := by
  refine ⟨_, rfl, fun sh hs hp => ?_⟩
  cases hs
  exact hp
set_option maxRecDepth 100000 in
set_option maxHeartbeats 4000000 in
theorem zKey_28 (D : va_G) (ca : Nat → ClassId) (x : Nat) (u : Nat → Nat → Nat) (H : Heap) : zKeyP D ca x u H 28 := by
  refine ⟨_, rfl, fun sh hs hp => ?_⟩
  cases hs
  exact hp
set_option maxRecDepth 100000 in
set_option maxHeartbeats 4000000 in
theorem zKey_29 (D : va_G) (ca : Nat → ClassId) (x : Nat) (u : Nat → Nat → Nat) (H : Heap) : zKeyP D ca x u H 29 := by
  refine ⟨_, rfl, fun sh hs hp => ?_⟩
  cases hs
  exact hp
set_option maxRecDepth 100000 in
set_option maxHeartbeats 4000000 in
theorem zKey_30 (D : va_G) (ca : Nat → ClassId) (x : Nat) (u : Nat → Nat → Nat) (H : Heap) : zKeyP D ca x u H 30 := by
  refine ⟨_, rfl, fun sh hs hp => ?_⟩
  cases hs
  exact hp
set_option maxRecDepth 100000 in
set_option maxHeartbeats 4000000 in
theorem zKey_31 (D : va_G) (ca : Nat → ClassId) (x : Nat) (u : Nat → Nat → Nat) (H : Heap) : zKeyP D ca x u H 31 := by
  refine ⟨_, rfl, fun sh hs hp => ?_⟩
  cases hs
  refine zAt_i (fun j hj => ?_) hp
  exact (congrFun (zRmI_F 0) j).symm
set_option maxRecDepth 100000 in
set_option maxHeartbeats 4000000 in
theorem zKey_32 (D : va_G) (ca : Nat → ClassId) (x : Nat) (u : Nat → Nat → Nat) (H : Heap) : zKeyP D ca x u H 32 := by
  refine ⟨_, rfl, fun sh hs hp => ?_⟩
  cases hs
  exact hp
set_option maxRecDepth 100000 in
set_option maxHeartbeats 4000000 in
theorem zKey_33 (D : va_G) (ca : Nat → ClassId) (x : Nat) (u : Nat → Nat → Nat) (H : Heap) : zKeyP D ca x u H 33 := by
  refine ⟨_, rfl, fun sh hs hp => ?_⟩
  cases hs
  exact hp
set_option maxRecDepth 100000 in
set_option maxHeartbeats 4000000 in
theorem zKey_34 (D : va_G) (ca : Nat → ClassId) (x : Nat) (u : Nat → Nat → Nat) (H : Heap) : zKeyP D ca x u H 34 := by
  refine ⟨_, rfl, fun sh hs hp => ?_⟩
  cases hs
  exact hp
set_option maxRecDepth 100000 in
set_option maxHeartbeats 4000000 in
theorem zKey_35 (D : va_G) (ca : Nat → ClassId) (x : Nat) (u : Nat → Nat → Nat) (H : Heap) : zKeyP D ca x u H 35 := by
  refine ⟨_, rfl, fun sh hs hp => ?_⟩
  cases hs
  exact hp
set_option maxRecDepth 100000 in
set_option maxHeartbeats 4000000 in
theorem zKey_36 (D : va_G) (ca : Nat → ClassId) (x : Nat) (u : Nat → Nat → Nat) (H : Heap) : zKeyP D ca x u H 36 := by
  refine ⟨_, rfl, fun sh hs hp => ?_⟩
  cases hs
  exact hp
set_option maxRecDepth 100000 in
set_option maxHeartbeats 4000000 in
theorem zKey_37 (D : va_G) (ca : Nat → ClassId) (x : Nat) (u : Nat → Nat → Nat) (H : Heap) : zKeyP D ca x u H 37 := by
  refine ⟨_, rfl, fun sh hs hp => ?_⟩
  cases hs
  refine zAt_i (fun j hj => ?_) hp
  exact (congrFun (zRmI_F 0) j).symm
set_option maxRecDepth 100000 in
set_option maxHeartbeats 4000000 in
theorem zKey_38 (D : va_G) (ca : Nat → ClassId) (x : Nat) (u : Nat → Nat → Nat) (H : Heap) : zKeyP D ca x u H 38 := by
  refine ⟨_, rfl, fun sh hs hp => ?_⟩
  cases hs
  exact hp
set_option maxRecDepth 100000 in
set_option maxHeartbeats 4000000 in
theorem zKey_39 (D : va_G) (ca : Nat → ClassId) (x : Nat) (u : Nat → Nat → Nat) (H : Heap) : zKeyP D ca x u H 39 := by
  refine ⟨_, rfl, fun sh hs hp => ?_⟩
  cases hs
  exact hp
set_option maxRecDepth 100000 in
set_option maxHeartbeats 4000000 in
theorem zKey_40 (D : va_G) (ca : Nat → ClassId) (x : Nat) (u : Nat → Nat → Nat) (H : Heap) : zKeyP D ca x u H 40 := by
  refine ⟨_, rfl, fun sh hs hp => ?_⟩
  cases hs
  exact hp
set_option maxRecDepth 100000 in
set_option maxHeartbeats 4000000 in
theorem zKey_41 (D : va_G) (ca : Nat → ClassId) (x : Nat) (u : Nat → Nat → Nat) (H : Heap) : zKeyP D ca x u H 41 := by
  refine ⟨_, rfl, fun sh hs hp => ?_⟩
  cases hs
  exact hp
set_option maxRecDepth 100000 in
set_option maxHeartbeats 4000000 in
theorem zKey_42 (D : va_G) (ca : Nat → ClassId) (x : Nat) (u : Nat → Nat → Nat) (H : Heap) : zKeyP D ca x u H 42 := by
  refine ⟨_, rfl, fun sh hs hp => ?_⟩
  cases hs
  exact hp
set_option maxRecDepth 100000 in
set_option maxHeartbeats 4000000 in
theorem zKey_43 (D : va_G) (ca : Nat → ClassId) (x : Nat) (u : Nat → Nat → Nat) (H : Heap) : zKeyP D ca x u H 43 := by
  refine ⟨_, rfl, fun sh hs hp => ?_⟩
  cases hs
  refine zAt_i (fun j hj => ?_) hp
  exact (congrFun (zRmI_F 0) j).symm
set_option maxRecDepth 100000 in
set_option maxHeartbeats 4000000 in
theorem zKey_44 (D : va_G) (ca : Nat → ClassId) (x : Nat) (u : Nat → Nat → Nat) (H : Heap) : zKeyP D ca x u H 44 := by
  refine ⟨_, rfl, fun sh hs hp => ?_⟩
  cases hs
  exact hp
set_option maxRecDepth 100000 in
set_option maxHeartbeats 4000000 in
theorem zKey_45 (D : va_G) (ca : Nat → ClassId) (x : Nat) (u : Nat → Nat → Nat) (H : Heap) : zKeyP D ca x u H 45 := by
  refine ⟨_, rfl, fun sh hs hp => ?_⟩
  cases hs
  exact hp
set_option maxRecDepth 100000 in
set_option maxHeartbeats 4000000 in
theorem zKey_46 (D : va_G) (ca : Nat → ClassId) (x : Nat) (u : Nat → Nat → Nat) (H : Heap) : zKeyP D ca x u H 46 := by
  refine ⟨_, rfl, fun sh hs hp => ?_⟩
  cases hs
  exact hp
set_option maxRecDepth 100000 in
set_option maxHeartbeats 4000000 in
theorem zKey_47 (D : va_G) (ca : Nat → ClassId) (x : Nat) (u : Nat → Nat → Nat) (H : Heap) : zKeyP D ca x u H 47 := by
  refine ⟨_, rfl, fun sh hs hp => ?_⟩
  cases hs
  exact hp
set_option maxRecDepth 100000 in
set_option maxHeartbeats 4000000 in
theorem zKey_48 (D : va_G) (ca : Nat → ClassId) (x : Nat) (u : Nat → Nat → Nat) (H : Heap) : zKeyP D ca x u H 48 := by
  refine ⟨_, rfl, fun sh hs hp => ?_⟩
  cases hs
  exact hp
set_option maxRecDepth 100000 in
set_option maxHeartbeats 4000000 in
theorem zKey_49 (D : va_G) (ca : Nat → ClassId) (x : Nat) (u : Nat → Nat → Nat) (H : Heap) : zKeyP D ca x u H 49 := by
  refine ⟨_, rfl, fun sh hs hp => ?_⟩
  cases hs
  refine zAt_i (fun j hj => ?_) hp
  exact (congrFun (zRmI_F 0) j).symm
set_option maxRecDepth 100000 in
set_option maxHeartbeats 4000000 in
theorem zKey_50 (D : va_G) (ca : Nat → ClassId) (x : Nat) (u : Nat → Nat → Nat) (H : Heap) : zKeyP D ca x u H 50 := by
  refine ⟨_, rfl, fun sh hs hp => ?_⟩
  cases hs
  exact hp
set_option maxRecDepth 100000 in
set_option maxHeartbeats 4000000 in
theorem zKey_51 (D : va_G) (ca : Nat → ClassId) (x : Nat) (u : Nat → Nat → Nat) (H : Heap) : zKeyP D ca x u H 51 := by
  refine ⟨_, rfl, fun sh hs hp => ?_⟩
  cases hs
  exact hp
set_option maxRecDepth 100000 in
set_option maxHeartbeats 4000000 in
theorem zKey_52 (D : va_G) (ca : Nat → ClassId) (x : Nat) (u : Nat → Nat → Nat) (H : Heap) : zKeyP D ca x u H 52 := by
  refine ⟨_, rfl, fun sh hs hp => ?_⟩
  cases hs
  exact hp
set_option maxRecDepth 100000 in
set_option maxHeartbeats 4000000 in
theorem zKey_53 (D : va_G) (ca : Nat → ClassId) (x : Nat) (u : Nat → Nat → Nat) (H : Heap) : zKeyP D ca x u H 53 := by
  refine ⟨_, rfl, fun sh hs hp => ?_⟩
  cases hs
  exact hp
set_option maxRecDepth 100000 in
set_option maxHeartbeats 4000000 in
theorem zKey_54 (D : va_G) (ca : Nat → ClassId) (x : Nat) (u : Nat → Nat → Nat) (H : Heap) : zKeyP D ca x u H 54 := by
  refine ⟨_, rfl, fun sh hs hp => ?_⟩
  cases hs
  exact hp
set_option maxRecDepth 100000 in
set_option maxHeartbeats 4000000 in
theorem zKey_55 (D : va_G) (ca : Nat → ClassId) (x : Nat) (u : Nat → Nat → Nat) (H : Heap) : zKeyP D ca x u H 55 := by
  refine ⟨_, rfl, fun sh hs hp => ?_⟩
  cases hs
  refine zAt_q (fun j hj => ?_) hp
  rcases (show j = 0 ∨ j = 1 ∨ j = 2 ∨ j = 3 ∨ j = 4 ∨ j = 5 by omega) with rfl | rfl | rfl | rfl | rfl | rfl
  · rfl
  · rfl
  · rfl
  · rfl
  · rfl
  · rfl
set_option maxRecDepth 100000 in
set_option maxHeartbeats 4000000 in
theorem zKey_56 (D : va_G) (ca : Nat → ClassId) (x : Nat) (u : Nat → Nat → Nat) (H : Heap) : zKeyP D ca x u H 56 := by
  refine ⟨_, rfl, fun sh hs hp => ?_⟩
  cases hs
  refine zAt_q (fun j hj => ?_) hp
  rcases (show j = 0 ∨ j = 1 by omega) with rfl | rfl
  · rfl
  · rfl
set_option maxRecDepth 100000 in
set_option maxHeartbeats 4000000 in
theorem zKey_57 (D : va_G) (ca : Nat → ClassId) (x : Nat) (u : Nat → Nat → Nat) (H : Heap) : zKeyP D ca x u H 57 := by
  refine ⟨_, rfl, fun sh hs hp => ?_⟩
  cases hs
  exact hp
set_option maxRecDepth 100000 in
set_option maxHeartbeats 4000000 in
theorem zKey_58 (D : va_G) (ca : Nat → ClassId) (x : Nat) (u : Nat → Nat → Nat) (H : Heap) : zKeyP D ca x u H 58 := by
  refine ⟨_, rfl, fun sh hs hp => ?_⟩
  cases hs
  exact hp
set_option maxRecDepth 100000 in
set_option maxHeartbeats 4000000 in
theorem zKey_59 (D : va_G) (ca : Nat → ClassId) (x : Nat) (u : Nat → Nat → Nat) (H : Heap) : zKeyP D ca x u H 59 := by
  refine ⟨_, rfl, fun sh hs hp => ?_⟩
  cases hs
  exact hp
set_option maxRecDepth 100000 in
set_option maxHeartbeats 4000000 in
theorem zKey_60 (D : va_G) (ca : Nat → ClassId) (x : Nat) (u : Nat → Nat → Nat) (H : Heap) : zKeyP D ca x u H 60 := by
  refine ⟨_, rfl, fun sh hs hp => ?_⟩
  cases hs
  exact hp
set_option maxRecDepth 100000 in
set_option maxHeartbeats 4000000 in
theorem zKey_61 (D : va_G) (ca : Nat → ClassId) (x : Nat) (u : Nat → Nat → Nat) (H : Heap) : zKeyP D ca x u H 61 := by
  refine ⟨_, rfl, fun sh hs hp => ?_⟩
  cases hs
  exact hp
set_option maxRecDepth 100000 in
set_option maxHeartbeats 4000000 in
theorem zKey_62 (D : va_G) (ca : Nat → ClassId) (x : Nat) (u : Nat → Nat → Nat) (H : Heap) : zKeyP D ca x u H 62 := by
  refine ⟨_, rfl, fun sh hs hp => ?_⟩
  cases hs
  exact hp
set_option maxRecDepth 100000 in
set_option maxHeartbeats 4000000 in
theorem zKey_63 (D : va_G) (ca : Nat → ClassId) (x : Nat) (u : Nat → Nat → Nat) (H : Heap) : zKeyP D ca x u H 63 := by
  refine ⟨_, rfl, fun sh hs hp => ?_⟩
  cases hs
  exact hp
set_option maxRecDepth 100000 in
set_option maxHeartbeats 4000000 in
theorem zKey_64 (D : va_G) (ca : Nat → ClassId) (x : Nat) (u : Nat → Nat → Nat) (H : Heap) : zKeyP D ca x u H 64 := by
  refine ⟨_, rfl, fun sh hs hp => ?_⟩
  cases hs
  exact hp
set_option maxRecDepth 100000 in
set_option maxHeartbeats 4000000 in
theorem zKey_65 (D : va_G) (ca : Nat → ClassId) (x : Nat) (u : Nat → Nat → Nat) (H : Heap) : zKeyP D ca x u H 65 := by
  refine ⟨_, rfl, fun sh hs hp => ?_⟩
  cases hs
  exact hp
set_option maxRecDepth 100000 in
set_option maxHeartbeats 4000000 in
theorem zKey_66 (D : va_G) (ca : Nat → ClassId) (x : Nat) (u : Nat → Nat → Nat) (H : Heap) : zKeyP D ca x u H 66 := by
  refine ⟨_, rfl, fun sh hs hp => ?_⟩
  cases hs
  exact hp
set_option maxRecDepth 100000 in
set_option maxHeartbeats 4000000 in
theorem zKey_67 (D : va_G) (ca : Nat → ClassId) (x : Nat) (u : Nat → Nat → Nat) (H : Heap) : zKeyP D ca x u H 67 := by
  refine ⟨_, rfl, fun sh hs hp => ?_⟩
  cases hs
  exact hp
set_option maxRecDepth 100000 in
set_option maxHeartbeats 4000000 in
theorem zKey_68 (D : va_G) (ca : Nat → ClassId) (x : Nat) (u : Nat → Nat → Nat) (H : Heap) : zKeyP D ca x u H 68 := by
  refine ⟨_, rfl, fun sh hs hp => ?_⟩
  cases hs
  exact hp
set_option maxRecDepth 100000 in
set_option maxHeartbeats 4000000 in
theorem zKey_69 (D : va_G) (ca : Nat → ClassId) (x : Nat) (u : Nat → Nat → Nat) (H : Heap) : zKeyP D ca x u H 69 := by
  refine ⟨_, rfl, fun sh hs hp => ?_⟩
  cases hs
  exact hp
set_option maxRecDepth 100000 in
set_option maxHeartbeats 4000000 in
theorem zKey_70 (D : va_G) (ca : Nat → ClassId) (x : Nat) (u : Nat → Nat → Nat) (H : Heap) : zKeyP D ca x u H 70 := by
  refine ⟨_, rfl, fun sh hs hp => ?_⟩
  cases hs
  exact hp
set_option maxRecDepth 100000 in
set_option maxHeartbeats 4000000 in
theorem zKey_71 (D : va_G) (ca : Nat → ClassId) (x : Nat) (u : Nat → Nat → Nat) (H : Heap) : zKeyP D ca x u H 71 := by
  refine ⟨_, rfl, fun sh hs hp => ?_⟩
  cases hs
  exact hp
set_option maxRecDepth 100000 in
set_option maxHeartbeats 4000000 in
theorem zKey_72 (D : va_G) (ca : Nat → ClassId) (x : Nat) (u : Nat → Nat → Nat) (H : Heap) : zKeyP D ca x u H 72 := by
  refine ⟨_, rfl, fun sh hs hp => ?_⟩
  cases hs
  exact hp
set_option maxRecDepth 100000 in
set_option maxHeartbeats 4000000 in
theorem zKey_73 (D : va_G) (ca : Nat → ClassId) (x : Nat) (u : Nat → Nat → Nat) (H : Heap) : zKeyP D ca x u H 73 := by
  refine ⟨_, rfl, fun sh hs hp => ?_⟩
  cases hs
  exact hp
set_option maxRecDepth 100000 in
set_option maxHeartbeats 4000000 in
theorem zKey_74 (D : va_G) (ca : Nat → ClassId) (x : Nat) (u : Nat → Nat → Nat) (H : Heap) : zKeyP D ca x u H 74 := by
  refine ⟨_, rfl, fun sh hs hp => ?_⟩
  cases hs
  exact hp
set_option maxRecDepth 100000 in
set_option maxHeartbeats 4000000 in
theorem zKey_75 (D : va_G) (ca : Nat → ClassId) (x : Nat) (u : Nat → Nat → Nat) (H : Heap) : zKeyP D ca x u H 75 := by
  refine ⟨_, rfl, fun sh hs hp => ?_⟩
  cases hs
  exact hp
set_option maxRecDepth 100000 in
set_option maxHeartbeats 4000000 in
theorem zKey_76 (D : va_G) (ca : Nat → ClassId) (x : Nat) (u : Nat → Nat → Nat) (H : Heap) : zKeyP D ca x u H 76 := by
  refine ⟨_, rfl, fun sh hs hp => ?_⟩
  cases hs
  exact hp
set_option maxRecDepth 100000 in
set_option maxHeartbeats 4000000 in
theorem zKey_77 (D : va_G) (ca : Nat → ClassId) (x : Nat) (u : Nat → Nat → Nat) (H : Heap) : zKeyP D ca x u H 77 := by
  refine ⟨_, rfl, fun sh hs hp => ?_⟩
  cases hs
  exact hp
set_option maxRecDepth 100000 in
set_option maxHeartbeats 4000000 in
theorem zKey_78 (D : va_G) (ca : Nat → ClassId) (x : Nat) (u : Nat → Nat → Nat) (H : Heap) : zKeyP D ca x u H 78 := by
  refine ⟨_, rfl, fun sh hs hp => ?_⟩
  cases hs
  exact hp
set_option maxRecDepth 100000 in
set_option maxHeartbeats 4000000 in
theorem zKey (D : va_G) (ca : Nat → ClassId) (x : Nat) (u : Nat → Nat → Nat) (H : Heap) : ∀ a, a < 79 → zKeyP D ca x u H a := by
  have h0 : ∀ a, a < 0 → zKeyP D ca x u H a := lt_0
  have h1 : ∀ a, a < 1 → zKeyP D ca x u H a := lt_s h0 (zKey_0 D ca x u H)
  have h2 : ∀ a, a < 2 → zKeyP D ca x u H a := lt_s h1 (zKey_1 D ca x u H)
  have h3 : ∀ a, a < 3 → zKeyP D ca x u H a := lt_s h2 (zKey_2 D ca x u H)
  have h4 : ∀ a, a < 4 → zKeyP D ca x u H a := lt_s h3 (zKey_3 D ca x u H)
  have h5 : ∀ a, a < 5 → zKeyP D ca x u H a := lt_s h4 (zKey_4 D ca x u H)
  have h6 : ∀ a, a < 6 → zKeyP D ca x u H a := lt_s h5 (zKey_5 D ca x u H)
  have h7 : ∀ a, a < 7 → zKeyP D ca x u H a := lt_s h6 (zKey_6 D ca x u H)
  have h8 : ∀ a, a < 8 → zKeyP D ca x u H a := lt_s h7 (zKey_7 D ca x u H)
  have h9 : ∀ a, a < 9 → zKeyP D ca x u H a := lt_s h8 (zKey_8 D ca x u H)
  have h10 : ∀ a, a < 10 → zKeyP D ca x u H a := lt_s h9 (zKey_9 D ca x u H)
  have h11 : ∀ a, a < 11 → zKeyP D ca x u H a := lt_s h10 (zKey_10 D ca x u H)
  have h12 : ∀ a, a < 12 → zKeyP D ca x u H a := lt_s h11 (zKey_11 D ca x u H)
  have h13 : ∀ a, a < 13 → zKeyP D ca x u H a := lt_s h12 (zKey_12 D ca x u H)
  have h14 : ∀ a, a < 14 → zKeyP D ca x u H a := lt_s h13 (zKey_13 D ca x u H)
  have h15 : ∀ a, a < 15 → zKeyP D ca x u H a := lt_s h14 (zKey_14 D ca x u H)
  have h16 : ∀ a, a < 16 → zKeyP D ca x u H a := lt_s h15 (zKey_15 D ca x u H)
  have h17 : ∀ a, a < 17 → zKeyP D ca x u H a := lt_s h16 (zKey_16 D ca x u H)
  have h18 : ∀ a, a < 18 → zKeyP D ca x u H a := lt_s h17 (zKey_17 D ca x u H)
  have h19 : ∀ a, a < 19 → zKeyP D ca x u H a := lt_s h18 (zKey_18 D ca x u H)
  have h20 : ∀ a, a < 20 → zKeyP D ca x u H a := lt_s h19 (zKey_19 D ca x u H)
  have h21 : ∀ a, a < 21 → zKeyP D ca x u H a := lt_s h20 (zKey_20 D ca x u H)
  have h22 : ∀ a, a < 22 → zKeyP D ca x u H a := lt_s h21 (zKey_21 D ca x u H)
  have h23 : ∀ a, a < 23 → zKeyP D ca x u H a := lt_s h22 (zKey_22 D ca x u H)
  have h24 : ∀ a, a < 24 → zKeyP D ca x u H a := lt_s h23 (zKey_23 D ca x u H)
  have h25 : ∀ a, a < 25 → zKeyP D ca x u H a := lt_s h24 (zKey_24 D ca x u H)
  have h26 : ∀ a, a < 26 → zKeyP D ca x u H a := lt_s h25 (zKey_25 D ca x u H)
  have h27 : ∀ a, a < 27 → zKeyP D ca x u H a := lt_s h26 (zKey_26 D ca x u H)
  have h28 : ∀ a, a < 28 → zKeyP D ca x u H a := lt_s h27 (zKey_27 D ca x u H)
  have h29 : ∀ a, a < 29 → zKeyP D ca x u H a := lt_s h28 (zKey_28 D ca x u H)
  have h30 : ∀ a, a < 30 → zKeyP D ca x u H a := lt_s h29 (zKey_29 D ca x u H)
  have h31 : ∀ a, a < 31 → zKeyP D ca x u H a := lt_s h30 (zKey_30 D ca x u H)
  have h32 : ∀ a, a < 32 → zKeyP D ca x u H a := lt_s h31 (zKey_31 D ca x u H)
  have h33 : ∀ a, a < 33 → zKeyP D ca x u H a := lt_s h32 (zKey_32 D ca x u H)
  have h34 : ∀ a, a < 34 → zKeyP D ca x u H a := lt_s h33 (zKey_33 D ca x u H)
  have h35 : ∀ a, a < 35 → zKeyP D ca x u H a := lt_s h34 (zKey_34 D ca x u H)
  have h36 : ∀ a, a < 36 → zKeyP D ca x u H a := lt_s h35 (zKey_35 D ca x u H)
  have h37 : ∀ a, a < 37 → zKeyP D ca x u H a := lt_s h36 (zKey_36 D ca x u H)
  have h38 : ∀ a, a < 38 → zKeyP D ca x u H a := lt_s h37 (zKey_37 D ca x u H)
  have h39 : ∀ a, a < 39 → zKeyP D ca x u H a := lt_s h38 (zKey_38 D ca x u H)
  have h40 : ∀ a, a < 40 → zKeyP D ca x u H a := lt_s h39 (zKey_39 D ca x u H)
  have h41 : ∀ a, a < 41 → zKeyP D ca x u H a := lt_s h40 (zKey_40 D ca x u H)
  have h42 : ∀ a, a < 42 → zKeyP D ca x u H a := lt_s h41 (zKey_41 D ca x u H)
  have h43 : ∀ a, a < 43 → zKeyP D ca x u H a := lt_s h42 (zKey_42 D ca x u H)
  have h44 : ∀ a, a < 44 → zKeyP D ca x u H a := lt_s h43 (zKey_43 D ca x u H)
  have h45 : ∀ a, a < 45 → zKeyP D ca x u H a := lt_s h44 (zKey_44 D ca x u H)
  have h46 : ∀ a, a < 46 → zKeyP D ca x u H a := lt_s h45 (zKey_45 D ca x u H)
  have h47 : ∀ a, a < 47 → zKeyP D ca x u H a := lt_s h46 (zKey_46 D ca x u H)
  have h48 : ∀ a, a < 48 → zKeyP D ca x u H a := lt_s h47 (zKey_47 D ca x u H)
  have h49 : ∀ a, a < 49 → zKeyP D ca x u H a := lt_s h48 (zKey_48 D ca x u H)
  have h50 : ∀ a, a < 50 → zKeyP D ca x u H a := lt_s h49 (zKey_49 D ca x u H)
  have h51 : ∀ a, a < 51 → zKeyP D ca x u H a := lt_s h50 (zKey_50 D ca x u H)
  have h52 : ∀ a, a < 52 → zKeyP D ca x u H a := lt_s h51 (zKey_51 D ca x u H)
  have h53 : ∀ a, a < 53 → zKeyP D ca x u H a := lt_s h52 (zKey_52 D ca x u H)
  have h54 : ∀ a, a < 54 → zKeyP D ca x u H a := lt_s h53 (zKey_53 D ca x u H)
  have h55 : ∀ a, a < 55 → zKeyP D ca x u H a := lt_s h54 (zKey_54 D ca x u H)
  have h56 : ∀ a, a < 56 → zKeyP D ca x u H a := lt_s h55 (zKey_55 D ca x u H)
  have h57 : ∀ a, a < 57 → zKeyP D ca x u H a := lt_s h56 (zKey_56 D ca x u H)
  have h58 : ∀ a, a < 58 → zKeyP D ca x u H a := lt_s h57 (zKey_57 D ca x u H)
  have h59 : ∀ a, a < 59 → zKeyP D ca x u H a := lt_s h58 (zKey_58 D ca x u H)
  have h60 : ∀ a, a < 60 → zKeyP D ca x u H a := lt_s h59 (zKey_59 D ca x u H)
  have h61 : ∀ a, a < 61 → zKeyP D ca x u H a := lt_s h60 (zKey_60 D ca x u H)
  have h62 : ∀ a, a < 62 → zKeyP D ca x u H a := lt_s h61 (zKey_61 D ca x u H)
  have h63 : ∀ a, a < 63 → zKeyP D ca x u H a := lt_s h62 (zKey_62 D ca x u H)
  have h64 : ∀ a, a < 64 → zKeyP D ca x u H a := lt_s h63 (zKey_63 D ca x u H)
  have h65 : ∀ a, a < 65 → zKeyP D ca x u H a := lt_s h64 (zKey_64 D ca x u H)
  have h66 : ∀ a, a < 66 → zKeyP D ca x u H a := lt_s h65 (zKey_65 D ca x u H)
  have h67 : ∀ a, a < 67 → zKeyP D ca x u H a := lt_s h66 (zKey_66 D ca x u H)
  have h68 : ∀ a, a < 68 → zKeyP D ca x u H a := lt_s h67 (zKey_67 D ca x u H)
  have h69 : ∀ a, a < 69 → zKeyP D ca x u H a := lt_s h68 (zKey_68 D ca x u H)
  have h70 : ∀ a, a < 70 → zKeyP D ca x u H a := lt_s h69 (zKey_69 D ca x u H)
  have h71 : ∀ a, a < 71 → zKeyP D ca x u H a := lt_s h70 (zKey_70 D ca x u H)
  have h72 : ∀ a, a < 72 → zKeyP D ca x u H a := lt_s h71 (zKey_71 D ca x u H)
  have h73 : ∀ a, a < 73 → zKeyP D ca x u H a := lt_s h72 (zKey_72 D ca x u H)
  have h74 : ∀ a, a < 74 → zKeyP D ca x u H a := lt_s h73 (zKey_73 D ca x u H)
  have h75 : ∀ a, a < 75 → zKeyP D ca x u H a := lt_s h74 (zKey_74 D ca x u H)
  have h76 : ∀ a, a < 76 → zKeyP D ca x u H a := lt_s h75 (zKey_75 D ca x u H)
  have h77 : ∀ a, a < 77 → zKeyP D ca x u H a := lt_s h76 (zKey_76 D ca x u H)
  have h78 : ∀ a, a < 78 → zKeyP D ca x u H a := lt_s h77 (zKey_77 D ca x u H)
  have h79 : ∀ a, a < 79 → zKeyP D ca x u H a := lt_s h78 (zKey_78 D ca x u H)
  exact h79
theorem zin_t (i : Nat) {w : Cond} (h : tables_1[i]? = some w) : w ∈ lw_tbl := List.mem_append_right _ (List.mem_of_getElem? h)
set_option maxRecDepth 100000 in
theorem zao : Cond.arrayOver (.object "GateRoads$State") ∈ lw_tbl := zin_t 59 rfl
set_option maxRecDepth 100000 in
theorem znw : ∀ q ∈ zNw, Cond.methodLinkNest q.1 q.2.1 q.2.2.1 q.2.2.2 ∈ lw_tbl := by
  unfold zNw
  intro q hq
  simp only [List.mem_cons, List.not_mem_nil, or_false] at hq
  rcases hq with rfl
  · exact zin_t 481 rfl
set_option maxRecDepth 100000 in
theorem znc : ∀ q ∈ zNc, Cond.methodLinkNest q.1 q.2.1 q.2.2.1 q.2.2.2 ∈ lw_tbl := by
  unfold zNc
  intro q hq
  simp only [List.mem_cons, List.not_mem_nil, or_false] at hq
  rcases hq with rfl | rfl | rfl | rfl | rfl
  · exact zin_t 62 rfl
  · exact zin_t 93 rfl
  · exact zin_t 107 rfl
  · exact zin_t 120 rfl
  · exact zin_t 137 rfl
