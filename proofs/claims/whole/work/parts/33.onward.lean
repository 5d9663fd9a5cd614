/-! onward: the class's minute -/
theorem zI_toNat {x : Int} (h0 : 0 ≤ x) (h1 : x ≤ 2147483647) : (zI x).toBitVec.toNat = x.toNat := by
  obtain ⟨n, rfl⟩ := Int.eq_ofNat_of_zero_le h0
  rw [zI_nI]
  show (BitVec.ofNat 32 n).toNat = _
  rw [BitVec.toNat_ofNat]
  simp
  omega
theorem zAnd_ring {x : Int} (h0 : 0 ≤ x) (h1 : x ≤ 100000) : zAnd x 1023 = x % 1024 := by
  have hx : zAnd x 1023 = ((zI x &&& zI 1023).toBitVec.toNat : Int) := by
    have hm : (zI x &&& zI 1023).toBitVec.toNat = x.toNat % 1024 := by
      rw [Int32.toBitVec_and, BitVec.toNat_and, zI_toNat h0 (by omega), zI_toNat (by omega) (by omega)]
      exact Nat.and_two_pow_sub_one_eq_mod x.toNat 10
    show (zI x &&& zI 1023).toInt = _
    rw [Int32.toInt, BitVec.toInt_eq_toNat_cond, hm, if_pos (by omega)]
  rw [hx, Int32.toBitVec_and, BitVec.toNat_and, zI_toNat h0 (by omega), zI_toNat (by omega) (by omega)]
  have : x.toNat &&& (1023 : Int).toNat = x.toNat % 1024 := Nat.and_two_pow_sub_one_eq_mod x.toNat 10
  rw [this]
  omega
def FrO (o : Nat) (σ σ' : zM) : Prop := ∀ n, n ≠ o + 1 → n ≠ o + 2 → σ' n = σ n
theorem FrO_rfl (o : Nat) (σ : zM) : FrO o σ σ := fun _ _ _ => rfl
theorem FrO_trans {o : Nat} {a b c : zM} (h : FrO o a b) (g : FrO o b c) : FrO o a c := fun n h1 h2 => (g n h1 h2).trans (h n h1 h2)
theorem FrO_U1 {o : Nat} {a b : zM} {j v : Int} (h : FrO o a b) : FrO o a (zU b (o + 1) j v) := fun n h1 h2 => by rw [zU_n h1]; exact h n h1 h2
theorem FrO_U2 {o : Nat} {a b : zM} {j v : Int} (h : FrO o a b) : FrO o a (zU b (o + 2) j v) := fun n h1 h2 => by rw [zU_n h2]; exact h n h1 h2
theorem FrO_RX {o : Nat} {a b : zM} {A : Int → Int} (ho : 6 ≤ o) (h : FrO o a b) (hR : RX a 0 A) : RX b 0 A := RX_congr (fun n h1 h2 => h n (by omega) (by omega)) hR
section ONW
variable {A : Int → Int} {B p0 t0 c0 w : Int} {o : Nat}
/-- before the minute t: the ring, and until when one can stay -/
def OI (A : Int → Int) (p0 t0 c0 w : Int) (o : Nat) (σ : zM) (t : Int) : Prop :=
  (∀ u, t ≤ u → u < t + 1024 → ∀ k, 0 ≤ k → k < 32 → (zB (σ (o + 1) (u % 1024)) k = true ↔ wB A p0 t0 c0 w t k u)) ∧
  ∀ p, 0 ≤ p → p < 8 → ∀ u, t ≤ u → u ≤ 2880 → (u ≤ σ (o + 2) p ↔ wS A p0 t0 c0 w t p u)
theorem O_leave {σ : zM} {us here t : Int} {P : Int → Int → Prop} {Q : zM → Prop} (ho : 6 ≤ o) (hR : RX σ 0 A) (hA : OKA A B) (t0' : 0 ≤ t) (t1 : t ≤ 2880) (hu : ∀ r, 0 ≤ r → r < A 0 → (zB us r = true ↔ uR A w r t)) (hh : ∀ k, 0 ≤ k → k < 8 → (zB here k = true ↔ wH A p0 t0 c0 w k t)) (h : ∀ u, t < u → u < t + 1025 → ∀ k, 0 ≤ k → k < 32 → (zB (σ (o + 1) (u % 1024)) k = true ↔ P u k)) (kk : ∀ σ', (∀ n, n ≠ o + 1 → σ' n = σ n) → (∀ u, t < u → u < t + 1025 → ∀ k, 0 ≤ k → k < 32 → (zB (σ' (o + 1) (u % 1024)) k = true ↔ P u k ∨ ∃ r, wH A p0 t0 c0 w (A (27 + 12 * r + 0)) t ∧ uR A w r t ∧ t + A (27 + 12 * r + 2) = u ∧ A (27 + 12 * r + 1) = k)) → Q σ') : wp_O_leave σ o us here t Q := by
  have hb := hA.1
  unfold wp_O_leave
  refine zFor (fun σ' v => 0 ≤ v ∧ (∀ n, n ≠ o + 1 → σ' n = σ n) ∧ (∀ u, t < u → u < t + 1025 → ∀ k, 0 ≤ k → k < 32 → (zB (σ' (o + 1) (u % 1024)) k = true ↔ P u k ∨ ∃ r, r < v ∧ wH A p0 t0 c0 w (A (27 + 12 * r + 0)) t ∧ uR A w r t ∧ t + A (27 + 12 * r + 2) = u ∧ A (27 + 12 * r + 1) = k))) (A 0) ?_ σ 0 ⟨by omega, fun _ _ => rfl, fun u u0 u1 k k0 k1 => ?_⟩ (by omega)
  rotate_left
  · rw [h u u0 u1 k k0 k1]
    exact ⟨Or.inl, fun c => c.elim id (fun ⟨r, r0, _, hr, _⟩ => by have := hr.1; omega)⟩
  intro m σ' v hI hv ih
  obtain ⟨v0, fr, tb⟩ := hI
  have hR' : RX σ' 0 A := RX_congr (fun n h1 h2 => fr n (by omega)) hR
  rw [wp_O_leave_L3, hR'.1.1]
  refine ⟨fun c => kk σ' fr (fun u u0 u1 k k0 k1 => ?_), fun c => ?_⟩
  · rw [tb u u0 u1 k k0 k1]
    constructor
    · rintro (c | ⟨r, r0, hr⟩)
      · exact Or.inl c
      · exact Or.inr ⟨r, hr⟩
    · rintro (c | ⟨r, hr⟩)
      · exact Or.inl c
      · have := hr.2.1.1
        exact Or.inr ⟨r, by omega, hr⟩
  have next : ∀ σ2, (∀ n, n ≠ o + 1 → σ2 n = σ' n) → (∀ u, t < u → u < t + 1025 → ∀ k, 0 ≤ k → k < 32 → (zB (σ2 (o + 1) (u % 1024)) k = true ↔ zB (σ' (o + 1) (u % 1024)) k = true ∨ (wH A p0 t0 c0 w (A (27 + 12 * v + 0)) t ∧ uR A w v t ∧ t + A (27 + 12 * v + 2) = u ∧ A (27 + 12 * v + 1) = k))) → wp_O_leave_b70 o us here t (wp_O_leave_L3 o us here t Q m) Q σ2 v := by
    intro σ2 f2 t2
    refine ⟨zRi (by omega) (by omega), ih σ2 ⟨by omega, fun n hn => (f2 n hn).trans (fr n hn), fun u u0 u1 k k0 k1 => ?_⟩ (by omega)⟩
    rw [t2 u u0 u1 k k0 k1, tb u u0 u1 k k0 k1]
    constructor
    · rintro ((c | ⟨r, r0, hr⟩) | c)
      · exact Or.inl c
      · exact Or.inr ⟨r, by omega, hr⟩
      · exact Or.inr ⟨v, by omega, c⟩
    · rintro (c | ⟨r, r0, hr⟩)
      · exact Or.inl (Or.inl c)
      · by_cases hrv : r = v
        · subst hrv; exact Or.inr hr
        · exact Or.inl (Or.inr ⟨r, by omega, hr⟩)
  have hu' := hu v v0 (by omega)
  have hr := hA.2.2.2.2.1 v v0 (by omega)
  have hr0 := hr.1
  have hr1 := hr.2.1
  rw [X_has v0 (by omega)]
  refine ⟨fun c1 => next σ' (fun _ _ => rfl) (fun u u0 u1 k k0 k1 => ⟨Or.inl, fun cc => cc.elim id (fun cc => ?_)⟩), fun c1 => ?_⟩
  · rw [zIf1] at c1
    exact absurd (hu'.2 cc.2.1) c1
  rw [zIf1, Classical.not_not, hu'] at c1
  rw [S_ofR' hR' v0 (by omega) hb.2 (by omega) (by omega), X_has hr.1.1 (by omega)]
  have hh' := hh _ hr.1.1 hr.1.2
  refine ⟨fun c2 => next σ' (fun _ _ => rfl) (fun u u0 u1 k k0 k1 => ⟨Or.inl, fun cc => cc.elim id (fun cc => ?_)⟩), fun c2 => ?_⟩
  · rw [zIf1] at c2
    exact absurd (hh'.2 cc.1) c2
  rw [zIf1, Classical.not_not, hh'] at c2
  have hm := hr.2.2.1
  rw [S_ofR' hR' v0 (by omega) hb.2 (by omega) (by omega), zAnd_ring (by omega) (by omega)]
  refine ⟨zRi (by omega) (by omega), by omega, ?_⟩
  rw [S_ofR' hR' v0 (by omega) hb.2 (by omega) (by omega)]
  refine ⟨by omega, ?_⟩
  rintro _ rfl
  refine next _ (fun n hn => zU_n hn) (fun u u0 u1 k k0 k1 => ?_)
  rw [zU_g]
  by_cases hu : u = t + A (27 + 12 * v + 2)
  · subst hu
    rw [if_pos rfl, zB_or, zB_shl _ _ hr.2.1.1 (by omega) k0 k1, Bool.or_eq_true, decide_eq_true_eq]
    exact ⟨fun cc => cc.elim Or.inl (fun cc => Or.inr ⟨c2, c1, rfl, cc.symm⟩), fun cc => cc.elim Or.inl (fun cc => Or.inr cc.2.2.2.symm)⟩
  · rw [if_neg (by omega)]
    exact ⟨Or.inl, fun cc => cc.elim id (fun cc => absurd cc.2.2.1.symm hu)⟩
/-- a minute -/
theorem O_minute {σ : zM} {us t : Int} {Q : Int → zM → Prop} (ho : 6 ≤ o) (hR : RX σ 0 A) (hA : OKA A B) (hp : 0 ≤ p0 ∧ p0 < 8) (ht0 : 0 ≤ t0 ∧ t0 ≤ t) (t1 : t ≤ 2880) (hu : ∀ r, 0 ≤ r → r < A 0 → (zB us r = true ↔ uR A w r t)) (hI : OI A p0 t0 c0 w o σ t) (kk : ∀ here σ', zR here → (∀ k, 0 ≤ k → k < 32 → (zB here k = true ↔ wH A p0 t0 c0 w k t)) → FrO o σ σ' → OI A p0 t0 c0 w o σ' (t + 1) → Q here σ') : wp_O_minute σ o us t Q := by
  obtain ⟨hring, hun⟩ := hI
  unfold wp_O_minute
  rw [zAnd_ring (by omega) (by omega)]
  refine ⟨by omega, by omega, ?_⟩
  intro σ3 e3
  have hcom := hring t (Int.le_refl _) (by omega)
  generalize σ (o + 1) (t % 1024) = com at hcom ⊢
  have hC : ∀ k, 0 ≤ k → k < 8 → (zB com k = true ↔ wC A p0 t0 c0 w k t) := fun k k0 k1 => (hcom k k0 (by omega)).trans ⟨wB_C, wC_Cb hA (Int.le_refl _)⟩
  have key : ∀ (n : Nat) (σ' : zM) (here v : Int), 0 ≤ v → v ≤ 8 → zR here → (∀ n, n ≠ o + 2 → σ' n = σ3 n) → (∀ k, 0 ≤ k → k < 32 → (zB here k = true ↔ k < v ∧ wH A p0 t0 c0 w k t)) → (∀ p, 0 ≤ p → p < 8 → ∀ u, t ≤ u → u ≤ 2880 → (u ≤ σ' (o + 2) p ↔ if p < v then wS A p0 t0 c0 w (t + 1) p u else wS A p0 t0 c0 w t p u)) → 8 - v < n → wp_O_minute_L29 o us t com Q n σ' here v := by
    intro n
    induction n with
    | zero => intro σ' here v _ _ _ _ _ _ _; omega
    | succ n ih =>
      intro σ' here v v0 v1 hz fr hh hw hn
      have fr' : FrO o σ σ' := fun q h1 h2 => by rw [fr q h2, e3, zU_n h1]
      have hR' := FrO_RX ho fr' hR
      rw [wp_O_minute_L29]
      refine ⟨fun c => ?_, fun c => ?_⟩
      · have ev : v = 8 := by omega
        subst ev
        have hh' : ∀ k, 0 ≤ k → k < 32 → (zB here k = true ↔ wH A p0 t0 c0 w k t) := fun k k0 k1 => (hh k k0 k1).trans ⟨fun c => c.2, fun c => ⟨(wH_rg hA hp (by omega) c).2.2, c⟩⟩
        have ring : ∀ u, t < u → u < t + 1025 → ∀ k, 0 ≤ k → k < 32 → (zB (σ' (o + 1) (u % 1024)) k = true ↔ wB A p0 t0 c0 w t k u) := by
          intro u u0 u1 k k0 k1
          rw [fr (o + 1) (by omega), e3, zU_g]
          by_cases hu : u = t + 1024
          · rw [if_pos (by omega), zB_0]
            exact ⟨fun c => absurd c (by decide), fun c => by have := wB_le hA c; omega⟩
          · rw [if_neg (by omega)]
            exact hring u (by omega) (by omega) k k0 k1
        have fin : ∀ σ4, (∀ n, n ≠ o + 1 → σ4 n = σ' n) → (∀ u, t < u → u < t + 1025 → ∀ k, 0 ≤ k → k < 32 → (zB (σ4 (o + 1) (u % 1024)) k = true ↔ wB A p0 t0 c0 w t k u ∨ ∃ r, wH A p0 t0 c0 w (A (27 + 12 * r + 0)) t ∧ uR A w r t ∧ t + A (27 + 12 * r + 2) = u ∧ A (27 + 12 * r + 1) = k)) → Q here σ4 := by
          intro σ4 f4 r4
          refine kk here σ4 hz hh' (fun q h1 h2 => (f4 q h1).trans (fr' q h1 h2)) ⟨fun u u0 u1 k k0 k1 => ?_, fun p p0' p1 u u0 u1 => ?_⟩
          · rw [wB_succ]; exact r4 u (by omega) (by omega) k k0 k1
          · rw [f4 (o + 2) (by omega), hw p p0' p1 u (by omega) u1, if_pos p1]
        have idle : (∀ r, ¬ (wH A p0 t0 c0 w (A (27 + 12 * r + 0)) t ∧ uR A w r t)) → Q here σ' := fun hno =>
          fin σ' (fun _ _ => rfl) (fun u u0 u1 k k0 k1 => (ring u u0 u1 k k0 k1).trans ⟨Or.inl, fun c => c.elim id (fun ⟨r, h1, h2, _⟩ => absurd ⟨h1, h2⟩ (hno r))⟩)
        refine ⟨fun ch => idle (fun r hr => ?_), fun ch => ⟨fun cu => idle (fun r hr => ?_), fun cu => ?_⟩⟩
        · have h1 := wH_rg hA hp (by omega) hr.1
          have := (hh' _ h1.2.1 (by omega)).2 hr.1
          rw [ch, zB_0] at this
          cases this
        · have h1 := hr.2.1
          have := (hu r h1.1 h1.2).2 hr.2
          rw [cu, zB_0] at this
          cases this
        · exact O_leave ho hR' hA (by omega) t1 hu (fun k k0 k1 => hh' k k0 (by omega)) ring fin
      · have hp' := hA.2.2.2.1 v v0 (by omega)
        have next : ∀ σ4, (∀ n, n ≠ o + 2 → σ4 n = σ3 n) → (∀ p, 0 ≤ p → p < 8 → ∀ u, t ≤ u → u ≤ 2880 → (u ≤ σ4 (o + 2) p ↔ if p < v + 1 then wS A p0 t0 c0 w (t + 1) p u else wS A p0 t0 c0 w t p u)) → wp_O_minute_b70 o us t com (wp_O_minute_L29 o us t com Q n) Q σ4 here v := by
          intro σ4 f4 h4
          have hv := h4 v v0 (by omega) t (Int.le_refl _) t1
          rw [if_pos (by omega), wS_succ] at hv
          have hv' : t ≤ σ4 (o + 2) v ↔ wH A p0 t0 c0 w v t := by
            rw [hv, wH_Sp hA hp (by omega)]
            constructor
            · rintro (c | c)
              · exact Or.inl c
              · exact Or.inr c.1
            · rintro (c | c)
              · exact Or.inl c
              · exact Or.inr ⟨c, Int.le_refl _, t1, fun x x0 x1 => by omega, by omega⟩
          refine ⟨by omega, fun c1 => ⟨zRi (by omega) (by omega), ih σ4 here (v + 1) (by omega) (by omega) hz f4 (fun k k0 k1 => (hh k k0 k1).trans ?_) h4 (by omega)⟩, fun c1 => ⟨zRi (by omega) (by omega), ih σ4 _ (v + 1) (by omega) (by omega) (zOr_rg _ _) f4 (fun k k0 k1 => ?_) h4 (by omega)⟩⟩
          · constructor
            · rintro ⟨a, b⟩; exact ⟨by omega, b⟩
            · rintro ⟨a, b⟩
              by_cases hk : k = v
              · subst hk; have := hv'.2 b; omega
              · exact ⟨by omega, b⟩
          · rw [zB_or, zB_shl v k v0 (by omega) k0 k1, Bool.or_eq_true, decide_eq_true_eq, hh k k0 k1]
            constructor
            · rintro (⟨a, b⟩ | a)
              · exact ⟨by omega, b⟩
              · subst a; exact ⟨by omega, hv'.1 (by omega)⟩
            · rintro ⟨a, b⟩
              by_cases hk : k = v
              · exact Or.inr hk
              · exact Or.inl ⟨by omega, b⟩
        rw [X_has v0 (by omega)]
        have hCv := hC v v0 (by omega)
        refine ⟨fun c1 => next σ' fr (fun p p0' p1 u u0 u1 => ?_), fun c1 => ⟨by omega, ?_⟩⟩
        · rw [zIf1, hCv] at c1
          rw [hw p p0' p1 u u0 u1]
          by_cases hpv : p = v
          · subst hpv
            rw [if_neg (by omega), if_pos (by omega), wS_succ]
            exact ⟨Or.inl, fun c => c.elim id (fun c => absurd c.1 c1)⟩
          · by_cases hlt : p < v
            · rw [if_pos hlt, if_pos (by omega)]
            · rw [if_neg hlt, if_neg (by omega)]
        · rw [zIf1, Classical.not_not, hCv] at c1
          refine S_waitEnd hR' hA v0 (by omega) (by omega) t1 ⟨by omega, ?_⟩
          rintro _ rfl
          refine next _ (fun q hq => by rw [zU_n hq]; exact fr q hq) (fun p p0' p1 u u0 u1 => ?_)
          rw [zU_g]
          by_cases hpv : p = v
          · subst hpv
            rw [if_pos rfl, if_pos (by omega), wS_succ]
            have h1 := hw p v0 (by omega) u u0 u1
            rw [if_neg (by omega)] at h1
            have h2 := wE_iff (A := A) (p := p) (s := t) (u := u) (by omega) (by omega) (by omega) u0
            rw [← h1, ← h2]
            constructor
            · intro c
              by_cases h3 : u ≤ σ' (o + 2) p
              · exact Or.inl h3
              · exact Or.inr ⟨c1, by omega⟩
            · rintro (c | c)
              · omega
              · have := c.2; omega
          · rw [if_neg hpv, hw p p0' p1 u u0 u1]
            by_cases hlt : p < v
            · rw [if_pos hlt, if_pos (by omega)]
            · rw [if_neg hlt, if_neg (by omega)]
  refine ⟨9, key 9 σ3 0 0 (by omega) (by omega) zR_0 (fun _ _ => rfl) (fun k k0 k1 => ?_) (fun p p0' p1 u u0 u1 => ?_) (by omega)⟩
  · rw [zB_0]
    exact ⟨fun c => absurd c (by decide), fun c => by omega⟩
  · rw [if_neg (by omega), e3, zU_n (by omega)]
    exact hun p p0' p1 u u0 u1
/-- the beginning -/
theorem O_start {σ : zM} {st : Int} {Q : zM → Prop} (hA : OKA A B) (hp : 0 ≤ p0 ∧ p0 < 8) (ht0 : 0 ≤ t0 ∧ t0 ≤ 2880) (hst : ∀ u, t0 ≤ u → u ≤ 2880 → (u ≤ st ↔ sT A p0 t0 c0 u)) (kk : ∀ σ', FrO o σ σ' → OI A p0 t0 c0 w o σ' t0 → Q σ') : wp_O_start σ o p0 st Q := by
  unfold wp_O_start
  rintro _ rfl _ rfl
  refine ⟨by omega, ?_⟩
  rintro _ rfl
  refine kk _ (fun n h1 h2 => by rw [zU_n h2, zFl_n h2, zFl_n h1]) ⟨fun u u0 u1 k k0 k1 => ?_, fun p p0' p1 u u0 u1 => ?_⟩
  · rw [zU_n (by omega), zFl_n (by omega), zFl_g, if_pos (by omega), zB_0]
    exact ⟨fun c => absurd c (by decide), fun c => absurd c (wB_first hA hp ht0.2 (Int.le_refl _))⟩
  · rw [wS_first hA hp ht0.2 (by omega), zU_g, zFl_g]
    by_cases hpp : p = p0
    · rw [if_pos hpp, hst u u0 u1]
      exact ⟨fun c => ⟨hpp, c⟩, fun c => c.2⟩
    · rw [if_neg hpp, if_pos (by omega)]
      exact ⟨fun c => by omega, fun c => absurd c.1 hpp⟩
end ONW
