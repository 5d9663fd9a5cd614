/-! longs: the characters of a number -/
theorem zLs : ∀ n, n < 64 → (((nI n).toInt64 &&& 63).toBitVec.smod 64).toNat = n := by decide +kernel
theorem zLu : ∀ n, n < 64 → (((nI n).toInt64.toUInt64 &&& Int64.toUInt64 63).toBitVec % 64).toNat = n := by decide +kernel
theorem zLushr_b (c : Int64) (n : Nat) (h : n < 64) : (zLushr c (n : Int)).toBitVec = c.toBitVec >>> n := by
  unfold zLushr
  rw [zI_nI]
  show (c.toUInt64 >>> ((nI n).toInt64.toUInt64 &&& Int64.toUInt64 63)).toBitVec = c.toUInt64.toBitVec >>> n
  rw [UInt64.toBitVec_shiftRight]
  show c.toUInt64.toBitVec >>> (((nI n).toInt64.toUInt64 &&& Int64.toUInt64 63).toBitVec % 64).toNat = _
  rw [zLu n h]
theorem zLshr_b (c : Int64) (n : Nat) (h : n < 64) : (zLshr c (n : Int)).toBitVec = c.toBitVec.sshiftRight n := by
  unfold zLshr
  rw [zI_nI, Int64.toBitVec_shiftRight]
  show c.toBitVec.sshiftRight (((nI n).toInt64 &&& 63).toBitVec.smod 64).toNat = _
  rw [zLs n h]
theorem z255 : ∀ i : Fin 64, (255#64).getLsbD i.val = decide (i.val < 8) := by decide +kernel
theorem zLand_sh (c : Int64) (n : Nat) (h : n ≤ 56) : zLand (zLshr c (n : Int)) 255 = zLand (zLushr c (n : Int)) 255 := by
  unfold zLand
  rw [← Int64.toBitVec_inj, Int64.toBitVec_and, Int64.toBitVec_and, zLushr_b c n (by omega), zLshr_b c n (by omega)]
  apply BitVec.eq_of_getLsbD_eq
  intro i hi
  rw [BitVec.getLsbD_and, BitVec.getLsbD_and]
  have e : (Int64.toBitVec 255).getLsbD i = decide (i < 8) := z255 ⟨i, hi⟩
  rw [e]
  by_cases h8 : i < 8
  · rw [BitVec.getLsbD_sshiftRight, BitVec.getLsbD_ushiftRight]
    have : n + i < 64 := by omega
    simp [this, h8, hi]
  · simp [h8]
theorem zLshr_0 (c : Int64) (n : Nat) (h : n < 64) : zLshr c (n : Int) = 0 ↔ zLushr c (n : Int) = 0 := by
  rw [← Int64.toBitVec_inj, ← Int64.toBitVec_inj, zLushr_b c n h, zLshr_b c n h]
  show c.toBitVec.sshiftRight n = 0#64 ↔ c.toBitVec >>> n = 0#64
  generalize c.toBitVec = x
  constructor
  · intro e
    apply BitVec.eq_of_getLsbD_eq
    intro i hi
    rw [BitVec.getLsbD_ushiftRight]
    by_cases hb : n + i < 64
    · have := congrArg (fun y => y.getLsbD i) e
      simp only [BitVec.getLsbD_sshiftRight] at this
      simpa [hi, hb] using this
    · rw [BitVec.getLsbD_of_ge _ _ (by omega)]; simp
  · intro e
    have hx : ∀ j, n ≤ j → x.getLsbD j = false := by
      intro j hj
      have := congrArg (fun y => y.getLsbD (j - n)) e
      simp only [BitVec.getLsbD_ushiftRight] at this
      rw [show n + (j - n) = j by omega] at this
      simpa using this
    have hm : x.msb = false := by
      rw [BitVec.msb_eq_getLsbD_last]
      exact hx _ (by omega)
    apply BitVec.eq_of_getLsbD_eq
    intro i hi
    rw [BitVec.getLsbD_sshiftRight]
    by_cases hb : n + i < 64
    · rw [if_pos hb, hx (n + i) (by omega)]; simp
    · simp [hi, hb, hm]
theorem zLb (x : Int64) : ∃ n : Nat, n < 256 ∧ zLand x 255 = Int64.ofNat n ∧ n = x.toBitVec.toNat % 256 := by
  refine ⟨x.toBitVec.toNat % 256, by omega, ?_, rfl⟩
  unfold zLand
  rw [← Int64.toBitVec_inj, Int64.toBitVec_and]
  apply BitVec.eq_of_toNat_eq
  rw [BitVec.toNat_and]
  have e : (Int64.ofNat (x.toBitVec.toNat % 256)).toBitVec.toNat = x.toBitVec.toNat % 256 := by
    show (BitVec.ofNat 64 (x.toBitVec.toNat % 256)).toNat = _
    rw [BitVec.toNat_ofNat]
    omega
  rw [e]
  exact Nat.and_two_pow_sub_one_eq_mod _ 8
theorem zBy : ∀ n : Fin 256, zL2i (Int64.ofNat n.val) = (n.val : Int) ∧ (zLcmp (Int64.ofNat n.val) 33 < 0 ↔ n.val < 33) ∧ (zLcmp (Int64.ofNat n.val) 126 ≤ 0 ↔ n.val ≤ 126) ∧ (zLcmp (Int64.ofNat n.val) 0 = 0 ↔ n.val = 0) := by decide +kernel
theorem zLcmp_0 (x : Int64) : zLcmp x 0 = 0 ↔ x = 0 := by
  unfold zLcmp
  rw [← lg_cmp_eq]
  constructor
  · intro h
    apply Int32.toInt_inj.mp
    rw [h]; rfl
  · intro h
    rw [h]; rfl
/-- the character k from behind -/
def bK (c : Int64) (k : Int) : Int := zL2i (zLand (zLushr c (8 * k)) 255)
theorem bK_s {c : Int64} {k : Int} (h0 : 0 ≤ k) (h1 : k ≤ 7) : zLand (zLshr c (8 * k)) 255 = zLand (zLushr c (8 * k)) 255 := by
  obtain ⟨n, rfl⟩ := Int.eq_ofNat_of_zero_le h0
  have := zLand_sh c (8 * n) (by omega)
  rw [show (8 : Int) * (n : Int) = ((8 * n : Nat) : Int) by omega]
  exact this
theorem bK_b (c : Int64) (k : Int) : (0 ≤ bK c k ∧ bK c k ≤ 255) ∧ (zLcmp (zLand (zLushr c (8 * k)) 255) 33 < 0 ↔ bK c k < 33) ∧ (zLcmp (zLand (zLushr c (8 * k)) 255) 126 ≤ 0 ↔ bK c k ≤ 126) ∧ (zLcmp (zLand (zLushr c (8 * k)) 255) 0 = 0 ↔ bK c k = 0) := by
  obtain ⟨n, hn, e, -⟩ := zLb (zLushr c (8 * k))
  have hb := zBy ⟨n, hn⟩
  unfold bK
  rw [e]
  have e1 : zL2i (Int64.ofNat n) = (n : Int) := hb.1
  have e2 : zLcmp (Int64.ofNat n) 33 < 0 ↔ n < 33 := hb.2.1
  have e3 : zLcmp (Int64.ofNat n) 126 ≤ 0 ↔ n ≤ 126 := hb.2.2.1
  have e4 : zLcmp (Int64.ofNat n) 0 = 0 ↔ n = 0 := hb.2.2.2
  rw [e1, e2, e3, e4]
  omega
/-- nothing from the character k on -/
def rK (c : Int64) (k : Int) : Prop := zLushr c (8 * k) = 0
theorem rK_toNat {c : Int64} {n : Nat} (h : n ≤ 7) : rK c (n : Int) ↔ c.toBitVec.toNat / 2 ^ (8 * n) = 0 := by
  unfold rK
  rw [show (8 : Int) * (n : Int) = ((8 * n : Nat) : Int) by omega, ← Int64.toBitVec_inj, zLushr_b c (8 * n) (by omega)]
  constructor
  · intro e
    have := congrArg BitVec.toNat e
    rw [BitVec.toNat_ushiftRight, Nat.shiftRight_eq_div_pow] at this
    rw [this]; rfl
  · intro e
    apply BitVec.eq_of_toNat_eq
    rw [BitVec.toNat_ushiftRight, Nat.shiftRight_eq_div_pow, e]; rfl
theorem rK_mono {c : Int64} {k j : Int} (h0 : 0 ≤ k) (hk : k ≤ j) (h1 : j ≤ 7) (h : rK c k) : rK c j := by
  obtain ⟨n, rfl⟩ := Int.eq_ofNat_of_zero_le h0
  obtain ⟨m, rfl⟩ := Int.eq_ofNat_of_zero_le (show 0 ≤ j by omega)
  rw [rK_toNat (by omega)] at h ⊢
  have hlt : c.toBitVec.toNat < 2 ^ (8 * n) := by
    rcases Nat.div_eq_zero_iff.mp h with h' | h'
    · exact absurd h' (Nat.ne_of_gt (Nat.two_pow_pos _))
    · exact h'
  exact Nat.div_eq_of_lt (Nat.lt_of_lt_of_le hlt (Nat.pow_le_pow_right (by omega) (by omega)))
theorem rK_b {c : Int64} {k : Int} (h : rK c k) : bK c k = 0 := by
  unfold rK at h
  unfold bK
  rw [h]; decide
theorem rK_s {c : Int64} {k : Int} (h0 : 0 ≤ k) (h1 : k ≤ 7) : zLcmp (zLshr c (8 * k)) 0 = 0 ↔ rK c k := by
  rw [zLcmp_0]
  obtain ⟨n, rfl⟩ := Int.eq_ofNat_of_zero_le h0
  unfold rK
  rw [show (8 : Int) * (n : Int) = ((8 * n : Nat) : Int) by omega]
  exact zLshr_0 c (8 * n) (by omega)
/-- m characters are given -/
def chP (c : Int64) (m : Int) : Prop := (1 ≤ m ∧ m ≤ 8) ∧ (∀ k, 0 ≤ k → k < m → 33 ≤ bK c k ∧ bK c k ≤ 126) ∧ (m = 8 ∨ rK c m)
theorem chP_uniq {c : Int64} {m n : Int} (h : chP c m) (g : chP c n) : m = n := by
  have key : ∀ a b, chP c a → chP c b → ¬ a < b := by
    intro a b ha hb hlt
    rcases ha.2.2 with e | e
    · have := hb.1; omega
    · have h1 := rK_b e
      have h2 := hb.2.1 a (by have := ha.1; omega) hlt
      omega
  have h1 := key m n h g
  have h2 := key n m g h
  omega
theorem X_charactersIn {σ : zM} {c : Int64} {Q : Int → Prop} (kn : (∀ m, ¬ chP c m) → Q 0) (ky : ∀ m, chP c m → Q m) : wp_X_charactersIn σ c Q := by
  unfold wp_X_charactersIn
  refine zFor0 (fun i => 0 ≤ i ∧ ∀ k, 0 ≤ k → k < i → 33 ≤ bK c k ∧ bK c k ≤ 126) 8 ?_ 0 ⟨Int.le_refl 0, fun k k0 k1 => by omega⟩ (by omega)
  intro n i hI hi ih
  obtain ⟨i0, hb⟩ := hI
  have bb := bK_b c i
  rw [wp_X_charactersIn_L2]
  refine ⟨fun h => ky 8 ⟨by omega, fun k k0 k1 => hb k k0 (by omega), Or.inl rfl⟩, fun h => ⟨fun h1 => ?_, fun h1 => ?_⟩⟩
  · rw [zLcmp_0] at h1
    have bad : ¬ (33 ≤ bK c i ∧ bK c i ≤ 126) → ∀ m, ¬ chP c m := by
      intro hx m hm
      by_cases hmi : m ≤ i
      · rcases hm.2.2 with e | e
        · omega
        · exact h1 (rK_mono (by have := hm.1; omega) hmi (by omega) e)
      · exact hx (hm.2.1 i i0 (by omega))
    refine ⟨fun h2 => kn (bad (fun hh => ?_)), fun h2 => ⟨fun h3 => ⟨zRi (by omega) (by omega), ih ⟨by omega, fun k k0 k1 => ?_⟩ (by omega)⟩, fun h3 => kn (bad (fun hh => ?_))⟩⟩
    · rw [bb.2.1] at h2; omega
    · by_cases hk : k = i
      · rw [bb.2.1] at h2
        rw [bb.2.2.1] at h3
        subst hk; omega
      · exact hb k k0 (by omega)
    · rw [bb.2.2.1] at h3; omega
  · rw [zLcmp_0] at h1
    by_cases hz : i = 0
    · subst hz
      refine kn (fun m hm => ?_)
      have h2 := rK_b (c := c) (k := 0) h1
      have h3 := hm.2.1 0 (by omega) (by have := hm.1; omega)
      omega
    · exact ky i ⟨by omega, hb, Or.inr h1⟩
theorem M_put0 {σ : zM} {c : Int64} {Q : Int → zM → Prop} (kn : (∀ m, ¬ chP c m) → Q (-2) σ) (ky : ∀ m, chP c m → wp_M_put_b81 Q σ c m) : wp_M_put σ c Q := by
  unfold wp_M_put
  refine zFor0 (fun i => 0 ≤ i ∧ ∀ k, 0 ≤ k → k < i → 33 ≤ bK c k ∧ bK c k ≤ 126) 8 ?_ 0 ⟨Int.le_refl 0, fun k k0 k1 => by omega⟩ (by omega)
  intro n i hI hi ih
  obtain ⟨i0, hb⟩ := hI
  have bb := bK_b c i
  have no : ∀ m, chP c m → i < m → ¬ (33 ≤ bK c i ∧ bK c i ≤ 126) → False := fun m hm hlt hx => hx (hm.2.1 i i0 hlt)
  rw [wp_M_put_L2]
  refine ⟨fun h => ?_, fun h => ?_⟩
  · have e8 : i = 8 := by omega
    subst e8
    refine ⟨fun c1 => absurd c1 (by decide), fun _ => ⟨fun _ => ky 8 ⟨by omega, hb, Or.inl rfl⟩, fun c1 => absurd (Int.le_refl 8) c1⟩⟩
  · rw [bK_s i0 (by omega)]
    have same : ∀ m, chP c m → m < i → False := by
      intro m hm hlt
      rcases hm.2.2 with e | e
      · omega
      · have h1 := rK_b e
        have h2 := hb m (by have := hm.1; omega) hlt
        omega
    refine ⟨fun h1 => ?_, fun h1 => ?_⟩
    · rw [bb.2.2.2] at h1
      unfold wp_M_put_b57
      refine ⟨fun c1 => kn (fun m hm => ?_), fun c1 => ⟨fun c2 => by omega, fun c2 => ⟨fun c3 => ky i ⟨by omega, hb, Or.inr ((rK_s i0 (by omega)).1 c3)⟩, fun c3 => kn (fun m hm => ?_)⟩⟩⟩
      · exact no m hm (by have := hm.1; omega) (by omega)
      · by_cases hmi : i < m
        · exact no m hm hmi (by omega)
        · by_cases hme : m = i
          · subst hme
            rcases hm.2.2 with e | e
            · omega
            · exact c3 ((rK_s i0 (by omega)).2 e)
          · exact same m hm (by omega)
    · rw [bb.2.2.2] at h1
      rintro _ rfl
      rw [M_isIn]
      have eb : zL2i (zLand (zLushr c (8 * i)) 255) = bK c i := rfl
      rw [eb]
      refine ⟨fun h2 => ⟨zRi (by omega) (by omega), ih ⟨by omega, fun k k0 k1 => ?_⟩ (by omega)⟩, fun h2 => kn (fun m hm => ?_)⟩
      · rw [zIf1, Classical.not_not] at h2
        by_cases hk : k = i
        · subst hk; exact h2
        · exact hb k k0 (by omega)
      · rw [zIf1] at h2
        by_cases hmi : i < m
        · exact no m hm hmi h2
        · by_cases hme : m = i
          · subst hme
            rcases hm.2.2 with e | e
            · omega
            · exact h1 (rK_b e)
          · exact same m hm (by omega)
/-! the pad changes -/
theorem XRep_pad {B z : Int} {σ σ' τ τ' : zM} (h : XRep B z σ τ) (ex : ∀ n, n < 79 → n ≠ 58 → n ≠ 59 → σ' n = σ n) (et : ∀ n, 79 < n → n ≠ 84 → τ' n = τ n) (e79 : ∀ j, j ≠ 7 → τ' 79 j = τ 79 j) (e1 : σ' 58 1 = τ' 79 7) (e2 : ∀ i, 0 ≤ i → i < τ' 79 7 → σ' 59 i = τ' 84 i) (b : 0 ≤ τ' 79 7 ∧ τ' 79 7 ≤ 80) (b2 : ∀ i, 0 ≤ i → i < τ' 79 7 → 33 ≤ τ' 84 i ∧ τ' 84 i ≤ 126) : XRep B z σ' τ' := by
  obtain ⟨hR, hH, hS, hM, hG, hT, hz⟩ := h
  have e80 := et 80 (by omega) (by omega)
  have e81 := et 81 (by omega) (by omega)
  have e82 := et 82 (by omega) (by omega)
  have e83 := et 83 (by omega) (by omega)
  have e4 := e79 4 (by omega)
  have e5 := e79 5 (by omega)
  have ht4 := hT.2.1
  refine ⟨?_, ⟨?_, ?_, ?_, ?_⟩, ⟨?_, ?_, ?_, ?_, ?_⟩, ⟨?_, e1, e2⟩, XG_eq (by rw [ex 62 (by omega) (by omega) (by omega)]) (ex 63 (by omega) (by omega) (by omega)) e80 hG, ⟨?_, ?_, ?_, ?_, b, b2⟩, ?_⟩
  · rw [e80]; exact RX_congr (fun n h1 h2 => ex n (by omega) (by omega) (by omega)) hR
  · rw [ex 54 (by omega) (by omega) (by omega), e4]; exact hH.1
  · rw [ex 55 (by omega) (by omega) (by omega)]; exact hH.2.1
  · rw [ex 55 (by omega) (by omega) (by omega)]; exact hH.2.2.1
  · intro i i0 i1
    rw [e4] at i1
    rw [ex 55 (by omega) (by omega) (by omega), e81]
    have hb := hH.2.1 i i0 (by omega)
    exact RX_congr (fun n h1 h2 => ex n (by omega) (by omega) (by omega)) (hH.2.2.2 i i0 i1)
  · rw [ex 56 (by omega) (by omega) (by omega)]; exact hS.1
  · rw [ex 56 (by omega) (by omega) (by omega)]; exact hS.2.1
  · rw [ex 57 (by omega) (by omega) (by omega), e83]; exact hS.2.2.1
  · rw [e83, e82]; exact fun q => RX_congr (fun n h1 h2 => ex n (by omega) (by omega) (by omega)) (hS.2.2.2.1 q)
  · rw [e83, e82]; exact fun q => RX_congr (fun n h1 h2 => ex n (by omega) (by omega) (by omega)) (hS.2.2.2.2 q)
  · rw [ex 54 (by omega) (by omega) (by omega), e5]; exact hM.1
  · rw [e80]; exact hT.1
  · rw [e4]; exact hT.2.1
  · rw [e4, e81]; exact hT.2.2.1
  · rw [e83, e82]; exact hT.2.2.2.1
  · rw [ex 54 (by omega) (by omega) (by omega)]; exact hz
theorem op_wipe {B : Int} {σ : zM} (h : Rel B σ) : wp_X_wipe σ (fun r σ1 => wp_M_wipe σ1 (fun r' σ2 => r = r' ∧ Rel B σ2)) := by
  unfold wp_X_wipe wp_M_wipe
  rintro _ rfl _ rfl
  refine ⟨?_, XRep_pad (σ := σ) (τ := σ) h (fun n h1 h2 h3 => ?_) (fun n h1 h2 => ?_) (fun j hj => ?_) ?_ (fun i i0 i1 => ?_) ?_ (fun i i0 i1 => ?_)⟩
  · rw [zU_n (by omega)]; exact h.2.2.2.1.2.1
  · rw [zU_n (by omega), zU_n (by omega)]
  · rw [zU_n (by omega), zU_n (by omega)]
  · rw [zU_j hj, zU_n (by omega)]
  · rw [zU_n (by omega), zU_s, zU_s]
  · rw [zU_s] at i1; omega
  · rw [zU_s]; omega
  · rw [zU_s] at i1; omega
def aP (f : Int → Int) (L : Int) (c : Int64) (m : Int) : Int → Int := fun i => if L ≤ i ∧ i < L + m then bK c (m - 1 - (i - L)) else f i
theorem op_put {B : Int} {σ : zM} (h : Rel B σ) (c : Int64) : wp_X_put σ c (fun r σ1 => wp_M_put σ1 c (fun r' σ2 => r = r' ∧ Rel B σ2)) := by
  have hM := h.2.2.2.1
  have hTL := h.2.2.2.2.2.1.2.2.2.2
  have eL : σ 58 1 = σ 79 7 := hM.2.1
  unfold wp_X_put
  refine X_charactersIn (fun hn => ⟨fun c1 => absurd rfl c1, fun _ => M_put0 (fun _ => ⟨rfl, h⟩) (fun m hm => absurd hm (hn m))⟩) (fun m hm => ⟨fun _ => ?_, fun c1 => by have := hm.1; omega⟩)
  have hm1 := hm.1
  rw [eL]
  refine ⟨zRi (by omega) (by omega), fun c1 => ⟨zRi (by omega) (by omega), ?_⟩, fun c1 => M_put0 (fun hn => absurd hm (hn m)) (fun m' hm' => ?_)⟩
  rotate_left
  · have e := chP_uniq hm' hm
    subst e
    exact ⟨zRi (by omega) (by omega), fun c2 => absurd c2 c1, fun _ => ⟨rfl, h⟩⟩
  -- the class appends
  refine zForD (fun σ' v => v ≤ m - 1 ∧ (∀ n, n ≠ 58 → n ≠ 59 → σ' n = σ n) ∧ σ' 58 1 = σ 79 7 + (m - 1 - v) ∧ ∀ i, 0 ≤ i → i < σ 79 7 + (m - 1 - v) → σ' 59 i = aP (σ 59) (σ 79 7) c m i) (-1) ?_ σ (m - 1) ⟨Int.le_refl _, fun _ _ _ => rfl, by rw [eL]; omega, fun i i0 i1 => ?_⟩ (by omega)
  rotate_left
  · unfold aP
    rw [if_neg (by omega)]
  intro n σ' v hI hv ih
  obtain ⟨v1, fr, e1, et⟩ := hI
  have bb := (bK_b c v).1
  rw [wp_X_put_L34]
  refine ⟨fun c2 => ?_, fun c2 => ?_⟩
  rotate_left
  · have eb : zL2i (zLand (zLushr c (8 * v)) 255) = bK c v := rfl
    rw [eb]
    refine ⟨by omega, ?_⟩
    unfold wp_P_append
    rw [e1]
    refine ⟨fun c3 => by omega, fun c3 => ⟨by omega, by omega, ?_⟩⟩
    rintro _ rfl
    rw [zU_n (by omega), e1]
    refine ⟨zRi (by omega) (by omega), ?_⟩
    rintro _ rfl
    refine ⟨zRi (by omega) (by omega), ih _ ⟨by omega, fun n h1 h2 => by rw [zU_n h1, zU_n h2]; exact fr n h1 h2, by rw [zU_s]; omega, fun i i0 i1 => ?_⟩ (by omega)⟩
    rw [zU_n (by omega), zU_g]
    by_cases hi : i = σ 79 7 + (m - 1 - v)
    · rw [if_pos hi]
      unfold aP
      rw [if_pos (by omega)]
      congr 1; omega
    · rw [if_neg hi]
      exact et i i0 (by omega)
  -- the reference
  have ev : v = -1 := by omega
  subst ev
  rw [e1]
  have k79 : σ' 79 = σ 79 := fr 79 (by omega) (by omega)
  have k84 : σ' 84 = σ 84 := fr 84 (by omega) (by omega)
  refine M_put0 (fun hn => absurd hm (hn m)) (fun m' hm' => ?_)
  have e := chP_uniq hm' hm
  subst e
  unfold wp_M_put_b81
  rw [k79]
  refine ⟨zRi (by omega) (by omega), fun _ => ⟨zRi (by omega) (by omega), ?_⟩, fun c3 => absurd c1 c3⟩
  refine zForD (fun σ2 v => v ≤ m' - 1 ∧ (∀ n, n ≠ 79 → n ≠ 84 → σ2 n = σ' n) ∧ (∀ j, j ≠ 7 → σ2 79 j = σ 79 j) ∧ σ2 79 7 = σ 79 7 + (m' - 1 - v) ∧ ∀ i, 0 ≤ i → i < σ 79 7 + (m' - 1 - v) → σ2 84 i = aP (σ 84) (σ 79 7) c m' i) (-1) ?_ σ' (m' - 1) ⟨Int.le_refl _, fun _ _ _ => rfl, fun j _ => by rw [k79], by rw [k79]; omega, fun i i0 i1 => ?_⟩ (by omega)
  rotate_left
  · unfold aP
    rw [if_neg (by omega), k84]
  intro n2 σ2 w hI2 hw ih2
  obtain ⟨w1, fr2, fj2, g1, gt⟩ := hI2
  have bw := (bK_b c w).1
  rw [wp_M_put_L100]
  refine ⟨fun c4 => ?_, fun c4 => ?_⟩
  rotate_left
  · rw [g1]
    refine ⟨by omega, ?_⟩
    rw [bK_s (by omega) (by omega)]
    have eb : zL2i (zLand (zLushr c (8 * w)) 255) = bK c w := rfl
    rw [eb]
    rintro _ rfl
    rw [zU_n (by omega), g1]
    refine ⟨zRi (by omega) (by omega), ?_⟩
    rintro _ rfl
    refine ⟨zRi (by omega) (by omega), ih2 _ ⟨by omega, fun n h1 h2 => by rw [zU_n h1, zU_n h2]; exact fr2 n h1 h2, fun j hj => by rw [zU_j hj, zU_n (by omega)]; exact fj2 j hj, by rw [zU_s]; omega, fun i i0 i1 => ?_⟩ (by omega)⟩
    rw [zU_n (by omega), zU_g]
    by_cases hi : i = σ 79 7 + (m' - 1 - w)
    · rw [if_pos hi]
      unfold aP
      rw [if_pos (by omega)]
      congr 1; omega
    · rw [if_neg hi]
      exact gt i i0 (by omega)
  have ew : w = -1 := by omega
  subst ew
  refine ⟨by rw [g1], ?_⟩
  have pt : ∀ i, 0 ≤ i → i < σ2 79 7 → σ2 59 i = σ2 84 i ∧ 33 ≤ σ2 84 i ∧ σ2 84 i ≤ 126 := by
    intro i i0 i1
    rw [g1] at i1
    rw [fr2 59 (by omega) (by omega), et i i0 i1, gt i i0 i1]
    unfold aP
    by_cases hi : σ 79 7 ≤ i ∧ i < σ 79 7 + m'
    · rw [if_pos hi, if_pos hi]
      exact ⟨rfl, hm.2.1 _ (by omega) (by omega)⟩
    · rw [if_neg hi, if_neg hi]
      exact ⟨hM.2.2 i i0 (by omega), hTL.2 i i0 (by omega)⟩
  refine XRep_pad (σ := σ) (τ := σ) h (fun n h1 h2 h3 => ?_) (fun n h1 h2 => ?_) fj2 ?_ (fun i i0 i1 => (pt i i0 i1).1) ?_ (fun i i0 i1 => (pt i i0 i1).2)
  · rw [fr2 n (by omega) (by omega)]; exact fr n h2 h3
  · rw [fr2 n (by omega) h2]; exact fr n (by omega) (by omega)
  · rw [g1, fr2 58 (by omega) (by omega)]; exact e1
  · rw [g1]; omega
