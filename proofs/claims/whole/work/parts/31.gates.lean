/-! the gates' table -/
/-- the table holds, of each minute t, the roads k as P tells -/
def TB (σ : zM) (P : Int → Int → Prop) : Prop := ∀ t : Int, 0 ≤ t → t ≤ 2880 → ∀ k : Int, 0 ≤ k → k < 32 → (zB (σ 63 t) k = true ↔ P t k)
def FrG (σ σ' : zM) : Prop := ∀ n, n ≠ 63 → σ' n = σ n
theorem FrG_rfl (σ : zM) : FrG σ σ := fun _ _ => rfl
theorem FrG_trans {a b c : zM} (h : FrG a b) (g : FrG b c) : FrG a c := fun n hn => (g n hn).trans (h n hn)
theorem FrG_U {a b : zM} {j v : Int} (h : FrG a b) : FrG a (zU b 63 j v) := fun n hn => by rw [zU_n hn]; exact h n hn
theorem FrG_RX {a b : zM} {A : Int → Int} (h : FrG a b) (hR : RX a 0 A) : RX b 0 A := RX_congr (fun n h1 h2 => h n (by omega)) hR
theorem TB_congr {σ : zM} {P P' : Int → Int → Prop} (h : TB σ P) (e : ∀ t k, 0 ≤ t → t ≤ 2880 → 0 ≤ k → k < 32 → (P t k ↔ P' t k)) : TB σ P' := fun t t0 t1 k k0 k1 => (h t t0 t1 k k0 k1).trans (e t k t0 t1 k0 k1)
theorem TB_or {σ : zM} {P : Int → Int → Prop} {v r : Int} (h : TB σ P) (v0 : 0 ≤ v) (v1 : v ≤ 2880) (r0 : 0 ≤ r) (r1 : r < 32) : TB (zU σ 63 v (zOr (σ 63 v) (zShl 1 r))) (fun t k => P t k ∨ (k = r ∧ t = v)) := by
  intro t t0 t1 k k0 k1
  rw [zU_g]
  by_cases ht : t = v
  · subst ht
    rw [if_pos rfl, zB_or, zB_shl r k r0 r1 k0 k1, Bool.or_eq_true, decide_eq_true_eq, h t t0 t1 k k0 k1]
    exact ⟨fun c => c.elim Or.inl (fun c => Or.inr ⟨c, rfl⟩), fun c => c.elim Or.inl (fun c => Or.inr c.1)⟩
  · rw [if_neg ht, h t t0 t1 k k0 k1]
    exact ⟨Or.inl, fun c => c.elim id (fun c => absurd c.2 ht)⟩
theorem TB_not {σ : zM} {P : Int → Int → Prop} {v r : Int} (h : TB σ P) (v0 : 0 ≤ v) (v1 : v ≤ 2880) (r0 : 0 ≤ r) (r1 : r < 32) : TB (zU σ 63 v (zAnd (σ 63 v) (zXor (zShl 1 r) (-1)))) (fun t k => P t k ∧ ¬ (k = r ∧ t = v)) := by
  intro t t0 t1 k k0 k1
  rw [zU_g]
  by_cases ht : t = v
  · subst ht
    rw [if_pos rfl, zB_and, zB_not _ _ k0 k1, zB_shl r k r0 r1 k0 k1, Bool.and_eq_true, Bool.not_eq_true', decide_eq_false_iff_not, h t t0 t1 k k0 k1]
    exact ⟨fun c => ⟨c.1, fun cc => c.2 cc.1⟩, fun c => ⟨c.1, fun cc => c.2 ⟨cc, rfl⟩⟩⟩
  · rw [if_neg ht, h t t0 t1 k k0 k1]
    exact ⟨fun c => ⟨c, fun cc => ht cc.2⟩, fun c => c.1⟩
/-- road r can be entered at t by its span s, closures apart -/
def pV (A : Int → Int) (r s t : Int) : Prop := t + A (27 + 12 * r + 2) ≤ 2880 ∧ A (27 + 12 * r + (5 + 2 * s)) ≤ t % 1440 ∧ t % 1440 ≤ A (27 + 12 * r + (5 + 2 * s + 1)) - (if A (27 + 12 * r + 3) = 0 then 1 else A (27 + 12 * r + 2))
theorem why_pV {A : Int → Int} {B r t : Int} (h : OKr A B r) : why A r t = 0 ↔ (∃ s, 0 ≤ s ∧ s < A (27 + 12 * r + 4) ∧ pV A r s t) ∧ ¬ clA A r t := by
  rw [why_0_iff]
  have h2 := h.2.2.1
  have h3 := h.2.2.2.1
  constructor
  · rintro ⟨g1, g2, g3, g4⟩
    refine ⟨?_, g3⟩
    by_cases hx : ∃ s, 0 ≤ s ∧ s < A (27 + 12 * r + 4) ∧ inS A r s (t % 1440)
    · obtain ⟨s, s0, s1, hs⟩ := hx
      rw [spE_in h s0 s1 hs] at g2
      refine ⟨s, s0, s1, by omega, hs.1, ?_⟩
      have := hs.2
      split <;> omega
    · exact absurd (spE_no (fun s s0 s1 hs => hx ⟨s, s0, s1, hs⟩)) g1
  · rintro ⟨⟨s, s0, s1, hv1, hv2, hv3⟩, g3⟩
    have hs : inS A r s (t % 1440) := ⟨hv2, by
      have : (1 : Int) ≤ (if A (27 + 12 * r + 3) = 0 then 1 else A (27 + 12 * r + 2)) := by split <;> omega
      omega⟩
    have hp := spE_pos h s0 s1 hs
    refine ⟨by omega, ?_, g3, by omega⟩
    rintro ⟨c1, c2⟩
    rw [spE_in h s0 s1 hs] at c2
    rw [if_neg (by omega)] at hv3
    omega
theorem G_L82 {σ : zM} {P : Int → Int → Prop} {r s mi la lo hi day : Int} {k Q : zM → Prop} (h : TB σ P) (r0 : 0 ≤ r) (r1 : r < 32) (l0 : 0 ≤ lo) (l1 : lo ≤ 5000) (h1 : hi ≤ 2880) (kk : ∀ σ', FrG σ σ' → TB σ' (fun t q => P t q ∨ (q = r ∧ lo ≤ t ∧ t ≤ hi)) → k σ') : ∃ n, wp_G_letIn_L82 r s mi la day hi k Q n σ lo := by
  refine zFor (fun σ' v => lo ≤ v ∧ FrG σ σ' ∧ TB σ' (fun t q => P t q ∨ (q = r ∧ lo ≤ t ∧ t < v))) (max (hi + 1) lo) ?_ σ lo ⟨Int.le_refl _, FrG_rfl σ, TB_congr h (fun t q _ _ _ _ => ⟨Or.inl, fun c => c.elim id (fun c => by omega)⟩)⟩ (by omega)
  intro m σ' v hI hv ih
  obtain ⟨v0, fr, tb⟩ := hI
  rw [wp_G_letIn_L82]
  refine ⟨fun c => kk σ' fr (TB_congr tb (fun t q _ _ _ _ => ?_)), fun c => ⟨by omega, by omega, ?_⟩⟩
  · exact ⟨fun c => c.elim Or.inl (fun c => Or.inr (by omega)), fun c => c.elim Or.inl (fun c => Or.inr (by omega))⟩
  · rintro _ rfl
    refine ⟨zRi (by omega) (by omega), ih _ ⟨by omega, FrG_U fr, TB_congr (TB_or tb (by omega) (by omega) r0 r1) (fun t q _ _ _ _ => ?_)⟩ (by omega)⟩
    constructor
    · rintro ((c | c) | c)
      · exact Or.inl c
      · exact Or.inr (by omega)
      · exact Or.inr (by omega)
    · rintro (c | c)
      · exact Or.inl (Or.inl c)
      · by_cases ht : t = v
        · exact Or.inr ⟨c.1, ht⟩
        · exact Or.inl (Or.inr (by omega))
theorem G_L47 {σ : zM} {A : Int → Int} {B : Int} {P : Int → Int → Prop} {r s d : Int} {Q : zM → Prop} (h : TB σ P) (hR : RX σ 0 A) (hA : OKA A B) (r0 : 0 ≤ r) (r1 : r < A 0) (s0 : 0 ≤ s) (s1 : s < A (27 + 12 * r + 4)) (hd : 1 ≤ d ∧ d ≤ 600) (kk : ∀ σ', FrG σ σ' → TB σ' (fun t q => P t q ∨ (q = r ∧ t + A (27 + 12 * r + 2) ≤ 2880 ∧ A (27 + 12 * r + (5 + 2 * s)) ≤ t % 1440 ∧ t % 1440 ≤ A (27 + 12 * r + (5 + 2 * s + 1)) - d)) → Q σ') : ∃ n, wp_G_letIn_L47 r s (A (27 + 12 * r + 2)) (A (27 + 12 * r + (5 + 2 * s + 1)) - d) Q n σ 0 := by
  have hb := hA.1
  have hr := hA.2.2.2.2.1 r r0 r1
  have hn := hr.2.2.2.2.1
  have hm := hr.2.2.1
  have hs := hr.2.2.2.2.2.1 s s0 s1
  have day : ∀ (σ1 : zM) (P1 : Int → Int → Prop) (n : Nat) (dy : Int), FrG σ σ1 → TB σ1 P1 → 0 ≤ dy → dy < 2880 → (∀ σ', FrG σ σ' → TB σ' (fun t q => P1 t q ∨ (q = r ∧ dy + A (27 + 12 * r + (5 + 2 * s)) ≤ t ∧ t ≤ min (dy + (A (27 + 12 * r + (5 + 2 * s + 1)) - d)) (2880 - A (27 + 12 * r + 2)))) → wp_G_letIn_L47 r s (A (27 + 12 * r + 2)) (A (27 + 12 * r + (5 + 2 * s + 1)) - d) Q n σ' (dy + 1440)) → wp_G_letIn_L47 r s (A (27 + 12 * r + 2)) (A (27 + 12 * r + (5 + 2 * s + 1)) - d) Q (n + 1) σ1 dy := by
    intro σ1 P1 n dy fr tb d0 d1 nx
    rw [wp_G_letIn_L47]
    refine ⟨fun c => by omega, fun c => ⟨zRi (by omega) (by omega), zRi (by omega) (by omega), ?_⟩⟩
    rw [S_spanFrom (by omega) (by omega), RX_from (FrG_RX fr hR) r0 r1 s0 s1 (by omega)]
    exact ⟨zRi (by omega) (by omega), G_L82 tb r0 (by omega) (by omega) (by omega) (by omega) (fun σ' fr' tb' => ⟨zRi (by omega) (by omega), nx σ' (FrG_trans fr fr') tb'⟩)⟩
  refine ⟨3, day σ P 2 0 (FrG_rfl σ) h (by omega) (by omega) (fun σ1 f1 t1 => day σ1 _ 1 1440 f1 t1 (by omega) (by omega) (fun σ2 f2 t2 => ?_))⟩
  show wp_G_letIn_L47 _ _ _ _ _ (0 + 1) σ2 2880
  rw [wp_G_letIn_L47]
  refine ⟨fun _ => kk σ2 f2 (TB_congr t2 (fun t q t0 t1 _ _ => ?_)), fun c => by omega⟩
  constructor
  · rintro ((c | c) | c)
    · exact Or.inl c
    · exact Or.inr (by omega)
    · exact Or.inr (by omega)
  · rintro (c | ⟨c1, c2, c3, c4⟩)
    · exact Or.inl (Or.inl c)
    · by_cases ht : t < 1440
      · exact Or.inl (Or.inr ⟨c1, by omega, by omega⟩)
      · exact Or.inr ⟨c1, by omega, by omega⟩
theorem G_letIn {σ : zM} {A : Int → Int} {B : Int} {P : Int → Int → Prop} {r s : Int} {Q : zM → Prop} (h : TB σ P) (hR : RX σ 0 A) (hA : OKA A B) (r0 : 0 ≤ r) (r1 : r < A 0) (s0 : 0 ≤ s) (s1 : s < A (27 + 12 * r + 4)) (kk : ∀ σ', FrG σ σ' → TB σ' (fun t q => P t q ∨ (q = r ∧ pV A r s t)) → Q σ') : wp_G_letIn σ r s Q := by
  have hb := hA.1
  have hr := hA.2.2.2.2.1 r r0 r1
  have hn := hr.2.2.2.2.1
  have hm := hr.2.2.1
  have h3 := hr.2.2.2.1
  have hs := hr.2.2.2.2.2.1 s s0 s1
  unfold wp_G_letIn
  rw [S_ofR' hR r0 r1 hb.2 (by omega) (by omega), S_ofR' hR r0 r1 hb.2 (by omega) (by omega)]
  unfold wp_G_letIn_b22
  unfold pV at kk
  refine ⟨fun c => ?_, fun c => ?_⟩
  · rw [S_spanTo (by omega) (by omega), RX_to hR r0 r1 s0 s1 (by omega)]
    rw [if_pos c] at kk
    exact ⟨fun _ => ⟨zRi (by omega) (by omega), G_L47 h hR hA r0 r1 s0 s1 (by omega) kk⟩, fun c => absurd rfl c⟩
  · rw [S_spanTo (by omega) (by omega), RX_to hR r0 r1 s0 s1 (by omega)]
    rw [if_neg c] at kk
    exact ⟨fun c => absurd c (by decide), fun _ => ⟨zRi (by omega) (by omega), G_L47 h hR hA r0 r1 s0 s1 hm kk⟩⟩
theorem G_L36 {σ : zM} {A : Int → Int} {B : Int} {P : Int → Int → Prop} {r : Int} {k Q : zM → Prop} (h : TB σ P) (hR : RX σ 0 A) (hA : OKA A B) (r0 : 0 ≤ r) (r1 : r < A 0) (kk : ∀ σ', FrG σ σ' → TB σ' (fun t q => P t q ∨ (q = r ∧ ∃ s, 0 ≤ s ∧ s < A (27 + 12 * r + 4) ∧ pV A r s t)) → k σ') : ∃ n, wp_G_prepare_L36 r (A (27 + 12 * r + 4)) k Q n σ 0 := by
  have hr := hA.2.2.2.2.1 r r0 r1
  have hn := hr.2.2.2.2.1
  refine zFor (fun σ' v => 0 ≤ v ∧ FrG σ σ' ∧ TB σ' (fun t q => P t q ∨ (q = r ∧ ∃ s, 0 ≤ s ∧ s < v ∧ pV A r s t))) (A (27 + 12 * r + 4)) ?_ σ 0 ⟨by omega, FrG_rfl σ, TB_congr h (fun t q _ _ _ _ => ⟨Or.inl, fun c => c.elim id (fun c => by obtain ⟨-, s, s0, s1, -⟩ := c; omega)⟩)⟩ (by omega)
  intro m σ' v hI hv ih
  obtain ⟨v0, fr, tb⟩ := hI
  rw [wp_G_prepare_L36]
  refine ⟨fun c => kk σ' fr (by rw [show A (27 + 12 * r + 4) = v by omega]; exact tb), fun c => ?_⟩
  refine G_letIn tb (FrG_RX fr hR) hA r0 r1 v0 (by omega) (fun σ2 f2 t2 => ⟨zRi (by omega) (by omega), ih σ2 ⟨by omega, FrG_trans fr f2, TB_congr t2 (fun t q _ _ _ _ => ?_)⟩ (by omega)⟩)
  constructor
  · rintro ((c | ⟨c1, s, s0, s1, c2⟩) | ⟨c1, c2⟩)
    · exact Or.inl c
    · exact Or.inr ⟨c1, s, s0, by omega, c2⟩
    · exact Or.inr ⟨c1, v, v0, by omega, c2⟩
  · rintro (c | ⟨c1, s, s0, s1, c2⟩)
    · exact Or.inl (Or.inl c)
    · by_cases hs : s = v
      · subst hs; exact Or.inr ⟨c1, c2⟩
      · exact Or.inl (Or.inr ⟨c1, s, s0, by omega, c2⟩)
theorem G_shut {σ : zM} {A : Int → Int} {B : Int} {P : Int → Int → Prop} {c : Int} {Q : zM → Prop} (h : TB σ P) (hR : RX σ 0 A) (hA : OKA A B) (c0 : 0 ≤ c) (c1 : c < A 1) (kk : ∀ σ', FrG σ σ' → TB σ' (fun t q => P t q ∧ ¬ (A (315 + 3 * c + 0) = q ∧ A (315 + 3 * c + 1) ≤ t ∧ t < A (315 + 3 * c + 2))) → Q σ') : wp_G_shut σ c Q := by
  have hb := hA.2.1
  have h0 := hA.1
  have hc := hA.2.2.2.2.2.1 c c0 c1
  unfold wp_G_shut
  rw [S_ofClosures (by omega) (by omega), RX_clo hR c0 c1 (by omega) (by omega), S_ofClosures (by omega) (by omega), RX_clo hR c0 c1 (by omega) (by omega), S_ofClosures (by omega) (by omega), RX_clo hR c0 c1 (by omega) (by omega)]
  refine zFor (fun σ' v => A (315 + 3 * c + 1) ≤ v ∧ FrG σ σ' ∧ TB σ' (fun t q => P t q ∧ ¬ (A (315 + 3 * c + 0) = q ∧ A (315 + 3 * c + 1) ≤ t ∧ t < v))) (A (315 + 3 * c + 2)) ?_ σ _ ⟨Int.le_refl _, FrG_rfl σ, TB_congr h (fun t q _ _ _ _ => ⟨fun c => ⟨c, fun cc => by omega⟩, fun c => c.1⟩)⟩ (by omega)
  intro m σ' v hI hv ih
  obtain ⟨v0, fr, tb⟩ := hI
  rw [wp_G_shut_L27]
  refine ⟨fun c2 => kk σ' fr (by rw [show A (315 + 3 * c + 2) = v by omega]; exact tb), fun c2 => ⟨by omega, by omega, ?_⟩⟩
  rintro _ rfl
  refine ⟨zRi (by omega) (by omega), ih _ ⟨by omega, FrG_U fr, TB_congr (TB_not tb (by omega) (by omega) hc.1.1 (by omega)) (fun t q _ _ _ _ => ?_)⟩ (by omega)⟩
  constructor
  · rintro ⟨⟨g1, g2⟩, g3⟩
    refine ⟨g1, fun cc => ?_⟩
    by_cases ht : t = v
    · exact g3 ⟨cc.1.symm, ht⟩
    · exact g2 ⟨cc.1, cc.2.1, by omega⟩
  · rintro ⟨g1, g2⟩
    exact ⟨⟨g1, fun cc => g2 ⟨cc.1, cc.2.1, by omega⟩⟩, fun cc => g2 ⟨cc.1.symm, by omega, by omega⟩⟩
theorem G_prepare {σ : zM} {A : Int → Int} {B : Int} {Q : zM → Prop} (hR : RX σ 0 A) (hA : OKA A B) (hG : (σ 62 1 = 0 ∨ σ 62 1 = 1) ∧ (σ 62 1 = 1 → GTab σ A)) (kk : ∀ σ', (∀ n, n ≠ 62 → n ≠ 63 → σ' n = σ n) → σ' 62 1 = 1 → GTab σ' A → Q σ') : wp_G_prepare σ Q := by
  have hb := hA.1
  have hb1 := hA.2.1
  unfold wp_G_prepare
  refine ⟨fun _ => ?_, fun c => kk σ (fun _ _ _ => rfl) (hG.1.resolve_left c) (hG.2 (hG.1.resolve_left c))⟩
  intro σ1 e1
  have f1 : FrG σ σ1 := fun n hn => by rw [e1, zFl_n hn]
  have tb1 : TB σ1 (fun t q => q < 0 ∧ ∃ s, 0 ≤ s ∧ s < A (27 + 12 * q + 4) ∧ pV A q s t) := by
    intro t t0 t1 k k0 k1
    rw [e1, zFl_g, if_pos (by omega), zB_0]
    exact ⟨fun c => absurd c (by decide), fun c => by omega⟩
  refine zFor (fun σ' v => 0 ≤ v ∧ FrG σ σ' ∧ TB σ' (fun t q => q < v ∧ ∃ s, 0 ≤ s ∧ s < A (27 + 12 * q + 4) ∧ pV A q s t)) (A 0) ?_ σ1 0 ⟨by omega, f1, tb1⟩ (by omega)
  intro m σ' v hI hv ih
  obtain ⟨v0, fr, tb⟩ := hI
  have hR' := FrG_RX fr hR
  rw [wp_G_prepare_L18, hR'.1.1]
  refine ⟨fun c => ?_, fun c => ?_⟩
  rotate_left
  · rw [S_ofR' hR' v0 (by omega) hb.2 (by omega) (by omega)]
    refine G_L36 tb hR' hA v0 (by omega) (fun σ2 f2 t2 => ⟨zRi (by omega) (by omega), ih σ2 ⟨by omega, FrG_trans fr f2, TB_congr t2 (fun t q _ _ _ _ => ?_)⟩ (by omega)⟩)
    constructor
    · rintro (⟨c1, c2⟩ | ⟨c1, c2⟩)
      · exact ⟨by omega, c2⟩
      · subst c1; exact ⟨by omega, c2⟩
    · rintro ⟨c1, c2⟩
      by_cases hq : q = v
      · subst hq; exact Or.inr ⟨rfl, c2⟩
      · exact Or.inl ⟨by omega, c2⟩
  have ev : v = A 0 := by omega
  rw [ev] at tb
  refine zFor (fun σ2 w => 0 ≤ w ∧ FrG σ σ2 ∧ TB σ2 (fun t q => (q < A 0 ∧ ∃ s, 0 ≤ s ∧ s < A (27 + 12 * q + 4) ∧ pV A q s t) ∧ ¬ ∃ c, 0 ≤ c ∧ c < w ∧ (A (315 + 3 * c + 0) = q ∧ A (315 + 3 * c + 1) ≤ t ∧ t < A (315 + 3 * c + 2)))) (A 1) ?_ σ' 0 ⟨by omega, fr, TB_congr tb (fun t q _ _ _ _ => ⟨fun c => ⟨c, fun cc => by obtain ⟨c, c0, c1, -⟩ := cc; omega⟩, fun c => c.1⟩)⟩ (by omega)
  intro m2 σ2 w hI2 hw ih2
  obtain ⟨w0, fr2, tb2⟩ := hI2
  have hR2 := FrG_RX fr2 hR
  have e6 : σ2 0 6 = A 1 := hR2.1.2.1
  rw [wp_G_prepare_L64, e6]
  refine ⟨fun c2 => ?_, fun c2 => ?_⟩
  rotate_left
  · refine G_shut tb2 hR2 hA w0 (by omega) (fun σ3 f3 t3 => ⟨zRi (by omega) (by omega), ih2 σ3 ⟨by omega, FrG_trans fr2 f3, TB_congr t3 (fun t q _ _ _ _ => ?_)⟩ (by omega)⟩)
    constructor
    · rintro ⟨⟨g1, g2⟩, g3⟩
      refine ⟨g1, ?_⟩
      rintro ⟨x, x0, x1, hx⟩
      by_cases hxw : x = w
      · subst hxw; exact g3 hx
      · exact g2 ⟨x, x0, by omega, hx⟩
    · rintro ⟨g1, g2⟩
      refine ⟨⟨g1, ?_⟩, fun hx => g2 ⟨w, w0, by omega, hx⟩⟩
      rintro ⟨x, x0, x1, hx⟩
      exact g2 ⟨x, x0, by omega, hx⟩
  have ew : w = A 1 := by omega
  rw [ew] at tb2
  rintro _ rfl
  refine kk _ (fun n h62 h63 => by rw [zU_n h62]; exact fr2 n h63) zU_s ?_
  intro t t0 t1 k k0 k1
  rw [zU_n (by omega), tb2 t t0 t1 k k0 k1]
  constructor
  · rintro ⟨⟨g1, g2⟩, g3⟩
    exact ⟨g1, (why_pV (hA.2.2.2.2.1 k k0 g1)).2 ⟨g2, g3⟩⟩
  · rintro ⟨g1, g2⟩
    obtain ⟨g3, g4⟩ := (why_pV (hA.2.2.2.2.1 k k0 g1)).1 g2
    exact ⟨⟨g1, g3⟩, g4⟩
theorem G_at {σ : zM} {t : Int} {Q : Int → Prop} (t0 : 0 ≤ t) (t1 : t ≤ 2880) : wp_G_at σ t Q = Q (σ 63 t) := by
  unfold wp_G_at
  exact propext ⟨fun h => ((h.2 (by omega)).2 (by omega)).2, fun h => ⟨fun c => by omega, fun _ => ⟨fun c => by omega, fun _ => ⟨by omega, h⟩⟩⟩⟩
