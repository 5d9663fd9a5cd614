/-! small methods, as equations -/
section ACC
variable {σ : zM} {Q : Int → Prop}
theorem X_within {v lo hi : Int} : wp_X_within σ v lo hi Q = Q (if lo ≤ v ∧ v ≤ hi then 1 else 0) := by
  unfold wp_X_within
  by_cases h1 : v < lo
  · rw [if_neg (by omega)]; simp [h1]
  · by_cases h2 : hi < v
    · rw [if_neg (by omega)]; simp [h1, h2]
    · rw [if_pos ⟨by omega, by omega⟩]; simp [h1, h2]
theorem zIf01 {c : Prop} [Decidable c] : ((if c then (1 : Int) else 0) = 0 ∨ (if c then (1 : Int) else 0) = 1) := by
  split
  · exact Or.inr rfl
  · exact Or.inl rfl
theorem zIf1 {c : Prop} [Decidable c] : ((if c then (1 : Int) else 0) = 0) = ¬ c := by
  by_cases h : c <;> simp [h]
theorem X_isPlace {p : Int} : wp_X_isPlace σ p Q = Q (if 0 ≤ p ∧ p ≤ 7 then 1 else 0) := by
  unfold wp_X_isPlace
  rw [X_within]
  exact propext ⟨fun h => h.2, fun h => ⟨zIf01, h⟩⟩
theorem X_isSpan {f t e : Int} (h0 : 1 ≤ e) (h1 : e ≤ 1000000) : wp_X_isSpan σ f t e Q = Q (if 0 ≤ f ∧ f < t ∧ t ≤ e then 1 else 0) := by
  unfold wp_X_isSpan
  rw [X_within]
  have hr : zR (e - 1) := zRi (by omega) (by omega)
  by_cases hf : 0 ≤ f ∧ f ≤ e - 1
  · have hr2 : zR (f + 1) := zRi (by omega) (by omega)
    simp only [if_pos hf, hr, hr2, true_and, X_within]
    by_cases ht : f + 1 ≤ t ∧ t ≤ e
    · rw [if_pos ht, if_pos ⟨by omega, by omega, by omega⟩]; simp
    · rw [if_neg ht, if_neg (by omega)]; simp
  · simp only [if_neg hf, hr, true_and]
    rw [if_neg (by omega)]; simp
theorem S_hasRoad {r : Int} : wp_S_hasRoad σ r Q = Q (if 0 ≤ r ∧ r < σ 0 5 then 1 else 0) := by
  unfold wp_S_hasRoad
  by_cases h1 : r < 0
  · rw [if_neg (by omega)]; simp [h1]
  · by_cases h2 : σ 0 5 ≤ r
    · rw [if_neg (by omega)]; simp [h1, h2]
    · rw [if_pos ⟨by omega, by omega⟩]; simp [h1, h2]
theorem S_hasClosure {r : Int} : wp_S_hasClosure σ r Q = Q (if 0 ≤ r ∧ r < σ 0 6 then 1 else 0) := by
  unfold wp_S_hasClosure
  by_cases h1 : r < 0
  · rw [if_neg (by omega)]; simp [h1]
  · by_cases h2 : σ 0 6 ≤ r
    · rw [if_neg (by omega)]; simp [h1, h2]
    · rw [if_pos ⟨by omega, by omega⟩]; simp [h1, h2]
theorem S_hasTraveller {r : Int} : wp_S_hasTraveller σ r Q = Q (if 0 ≤ r ∧ r < σ 0 7 then 1 else 0) := by
  unfold wp_S_hasTraveller
  by_cases h1 : r < 0
  · rw [if_neg (by omega)]; simp [h1]
  · by_cases h2 : σ 0 7 ≤ r
    · rw [if_neg (by omega)]; simp [h1, h2]
    · rw [if_pos ⟨by omega, by omega⟩]; simp [h1, h2]
theorem zAnd_t {P R : Prop} (h : P) : (P ∧ R) = R := propext ⟨fun q => q.2, fun q => ⟨h, q⟩⟩
theorem S_ofRooms {p c : Int} (h0 : 0 ≤ p * 3 + c) (h1 : p * 3 + c < 24) : wp_S_ofRooms σ p c Q = Q (σ 1 (p * 3 + c)) := zAnd_t ⟨h0, h1⟩
theorem S_ofRoads {r c : Int} (h0 : 0 ≤ r * 11 + c) (h1 : r * 11 + c < 264) : wp_S_ofRoads σ r c Q = Q (σ 2 (r * 11 + c)) := zAnd_t ⟨h0, h1⟩
theorem S_ofClosures {r c : Int} (h0 : 0 ≤ r * 3 + c) (h1 : r * 3 + c < 60) : wp_S_ofClosures σ r c Q = Q (σ 4 (r * 3 + c)) := zAnd_t ⟨h0, h1⟩
theorem S_ofTravellers {r c : Int} (h0 : 0 ≤ r * 8 + c) (h1 : r * 8 + c < 80) : wp_S_ofTravellers σ r c Q = Q (σ 5 (r * 8 + c)) := zAnd_t ⟨h0, h1⟩
theorem S_spanFrom {r s : Int} (h0 : 0 ≤ r * 11 + 5 + 2 * s) (h1 : r * 11 + 5 + 2 * s < 264) : wp_S_spanFrom σ r s Q = Q (σ 2 (r * 11 + 5 + 2 * s)) := zAnd_t ⟨h0, h1⟩
theorem S_spanTo {r s : Int} (h0 : 0 ≤ r * 11 + 5 + 2 * s + 1) (h1 : r * 11 + 5 + 2 * s + 1 < 264) : wp_S_spanTo σ r s Q = Q (σ 2 (r * 11 + 5 + 2 * s + 1)) := zAnd_t ⟨h0, h1⟩
/-- whether the waiting room of p is open in the minute u -/
def rO (A : Int → Int) (p u : Int) : Prop := A (3 + 3 * p + 0) ≤ u % 1440 ∧ u % 1440 < A (3 + 3 * p + 1)
theorem rO_dec (A : Int → Int) (p u : Int) : rO A p u ∨ ¬ rO A p u := by
  unfold rO
  omega
theorem zUl : ∀ n, n < 32 → ((nI n &&& 31).toBitVec.smod 32).toNat = n := by decide +kernel
theorem zUu : ∀ n, n < 32 → (((nI n).toUInt32 &&& Int32.toUInt32 31).toBitVec % 32).toNat = n := by decide +kernel
theorem zB_ushr0 {x k : Int} (h0 : 0 ≤ k) (h1 : k < 32) : zB (zUshr x k) 0 = zB x k := by
  obtain ⟨n, rfl⟩ := Int.eq_ofNat_of_zero_le h0
  unfold zB zUshr
  rw [zI_of, zI_nI]
  show ((zI x).toUInt32 >>> ((nI n).toUInt32 &&& Int32.toUInt32 31)).toBitVec.getLsbD 0 = (zI x).toUInt32.toBitVec.getLsbD n
  rw [UInt32.toBitVec_shiftRight]
  show ((zI x).toUInt32.toBitVec >>> (((nI n).toUInt32 &&& Int32.toUInt32 31).toBitVec % 32).toNat).getLsbD 0 = _
  rw [zUu n (by omega), BitVec.getLsbD_ushiftRight]; rfl
theorem zB_shr0 {x k : Int} (h0 : 0 ≤ k) (h1 : k < 32) : zB (zShr x k) 0 = zB x k := by
  obtain ⟨n, rfl⟩ := Int.eq_ofNat_of_zero_le h0
  unfold zB zShr
  rw [zI_of, zI_nI, Int32.toBitVec_shiftRight]
  show ((zI x).toBitVec.sshiftRight ((nI n &&& 31).toBitVec.smod 32).toNat).getLsbD 0 = (zI x).toBitVec.getLsbD n
  rw [zUl n (by omega), BitVec.getLsbD_sshiftRight]
  simp
  omega
theorem zB_1 (k : Int) (h0 : 0 ≤ k) : zB 1 k = decide (k = 0) := by
  obtain ⟨n, rfl⟩ := Int.eq_ofNat_of_zero_le h0
  show (1#32).getLsbD n = _
  rw [BitVec.getLsbD_one]
  simp
theorem zAnd1 (x : Int) : zAnd x 1 = if zB x 0 = true then 1 else 0 := by
  refine zB_ext (zAnd_rg _ _) (by split <;> exact zR_of rfl) (fun k k0 k1 => ?_)
  rw [zB_and, zB_1 k k0]
  by_cases hk : k = 0
  · subst hk
    cases h : zB x 0 <;> simp [zB_0, zB_1]
  · cases h : zB x 0
    · simp [hk, zB_0]
    · simp [hk, zB_1 k k0]
theorem X_has {s k : Int} (h0 : 0 ≤ k) (h1 : k < 32) : wp_X_has σ s k Q = Q (if zB s k = true then 1 else 0) := by
  unfold wp_X_has
  rw [zAnd1, zB_ushr0 h0 h1]
  cases h : zB s k <;> simp
end ACC
