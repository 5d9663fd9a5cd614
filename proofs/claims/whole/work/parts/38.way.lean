/-! the first road of the earliest ways, and when it can be entered -/
/-- road r can be entered at e by one who came to where it begins at t0, and leads on -/
def eN (A : Int → Int) (g by' r t0 e : Int) : Prop := zW A (A (27 + 12 * r + 0)) t0 e ∧ bL A g by' r e
def EN (A : Int → Int) (g by' r t0 la res : Int) : Prop := (res = -6 ∧ ∀ e, ¬ eN A g by' r t0 e) ∨ (0 ≤ res ∧ eN A g by' r t0 res ∧ ∀ e, eN A g by' r t0 e → if la = 0 then res ≤ e else e ≤ res)
theorem EN_uniq {A : Int → Int} {g by' r t0 la a b : Int} (h : EN A g by' r t0 la a) (k : EN A g by' r t0 la b) : a = b := by
  rcases h with ⟨h1, h2⟩ | ⟨h1, h2, h3⟩ <;> rcases k with ⟨k1, k2⟩ | ⟨k1, k2, k3⟩
  · omega
  · exact absurd k2 (h2 b)
  · exact absurd h2 (k2 a)
  · have e1 := h3 b k2
    have e2 := k3 a h2
    by_cases hl : la = 0
    · rw [if_pos hl] at e1 e2; omega
    · rw [if_neg hl] at e1 e2; omega
section WAY
variable {A : Int → Int} {B g by' : Int}
/-- the class has looked back -/
def LBk (A : Int → Int) (g by' : Int) (σ : zM) (t0 : Int) : Prop := RX σ 0 A ∧ GTab σ A ∧ ∃ t, t < t0 ∧ BI A g by' σ t
theorem X_lookBack {σ : zM} {t0 : Int} {Q : zM → Prop} (hR : RX σ 0 A) (hA : OKA A B) (hG : (σ 62 1 = 0 ∨ σ 62 1 = 1) ∧ (σ 62 1 = 1 → GTab σ A)) (hg : 0 ≤ g ∧ g < 8) (hb : by' ≤ 2880) (ht : 0 ≤ t0 ∧ t0 ≤ by') (kk : ∀ σ', WQ A σ σ' → LBk A g by' σ' t0 → Q σ') : wp_X_lookBack σ g t0 by' Q := by
  unfold wp_X_lookBack
  refine G_prepare hR hA hG (fun σ1 f1 g1 tab => ?_)
  have wq1 : WQ A σ σ1 := ⟨fun n hn => f1 n (by omega) (by omega), g1, tab⟩
  refine B_start hA hg hb (fun σ2 f2 bi => ?_)
  have wq2 : WQ A σ σ2 := WQ_o wq1 (fun n hn => f2 n (by omega) (by omega) (by omega))
  refine zForD (fun σ' t => t ≤ by' ∧ WQ A σ σ' ∧ BI A g by' σ' t) (t0 - 1) ?_ σ2 by' ⟨Int.le_refl _, wq2, bi⟩ (by omega)
  intro n σ' t hI ht' ih
  obtain ⟨t1, wq, bi'⟩ := hI
  rw [wp_X_lookBack_L23]
  refine ⟨fun c1 => kk σ' wq ⟨WQ_RX wq hR, wq.2.2, t, c1, bi'⟩, fun c1 => ?_⟩
  rw [G_at (by omega) (by omega)]
  have hb0 := hA.1
  refine B_minute (WQ_RX wq hR) hA hg hb ⟨by omega, t1⟩ (fun r r0 r1 => ?_) bi' (fun σ3 f3 bi3 => ?_)
  · rw [wq.2.2 t (by omega) (by omega) r r0 (by omega)]
    exact ⟨fun hh => ⟨⟨r0, r1⟩, by omega, hh.2⟩, fun hh => ⟨r1, hh.2.2⟩⟩
  · exact ⟨zRi (by omega) (by omega), ih σ3 ⟨by omega, WQ_o wq (fun n hn => f3 n (by omega) (by omega) (by omega)), by rw [show t + (-1) = t - 1 by omega]; exact bi3⟩ (by omega)⟩
theorem X_leadsOn {σ : zM} {t0 r t : Int} {Q : Int → Prop} (hA : OKA A B) (hL : LBk A g by' σ t0) (hg : 0 ≤ g ∧ g < 8) (hb : by' ≤ 2880) (ht : 0 ≤ t0) (r0 : 0 ≤ r) (r1 : r < A 0) (h0 : t0 ≤ t) (h1 : t ≤ 2880) (ky : bL A g by' r t → Q 1) (kn : ¬ bL A g by' r t → Q 0) : wp_X_leadsOn σ r t Q := by
  obtain ⟨hR, hT, u, hu, bi⟩ := hL
  have hb0 := hA.1
  have hr := hA.2.2.2.2.1 r r0 r1
  have hr1 := hr.2.1
  have hr2 := hr.2.2.1
  unfold wp_X_leadsOn
  rw [G_at (by omega) h1, X_has r0 (by omega)]
  have hbit := hT t (by omega) h1 r r0 (by omega)
  refine ⟨fun c1 => kn (fun hh => ?_), fun c1 => ?_⟩
  · rw [zIf1, hbit] at c1
    exact c1 ⟨r1, hh.1.2.2⟩
  rw [zIf1, Classical.not_not, hbit] at c1
  rw [S_ofR' hR r0 r1 hb0.2 (by omega) (by omega), S_ofR' hR r0 r1 hb0.2 (by omega) (by omega)]
  refine ⟨zRi (by omega) (by omega), ?_⟩
  refine B_leads hA hg hb bi hr1 (by omega) (fun hy => ⟨fun c => absurd c (by decide), fun _ => ky ⟨⟨⟨r0, r1⟩, by omega, c1.2⟩, (bG_rg hA hg hb hy).1.2, hy⟩⟩) (fun hn => ⟨fun _ => kn (fun hh => hn hh.2.2), fun c => absurd rfl c⟩)
theorem X_firstEntry {σ : zM} {t0 r : Int} {Q : Int → Prop} (hA : OKA A B) (hL : LBk A g by' σ t0) (hg : 0 ≤ g ∧ g < 8) (hb : by' ≤ 2880) (ht : 0 ≤ t0 ∧ t0 ≤ 2880) (r0 : 0 ≤ r) (r1 : r < A 0) (kk : ∀ res, EN A g by' r t0 0 res → Q res) : wp_X_firstEntry σ r t0 Q := by
  have hb0 := hA.1
  have hr := hA.2.2.2.2.1 r r0 r1
  have hr0 := hr.1
  have hp := hA.2.2.2.1 _ hr0.1 hr0.2
  unfold wp_X_firstEntry
  rw [S_ofR' hL.1 r0 r1 hb0.2 (by omega) (by omega)]
  refine S_waitEnd hL.1 hA hr0.1 hr0.2 ht.1 ht.2 ?_
  have hw := wE_rg (A := A) (p := A (27 + 12 * r + 0)) (s := t0) (by omega) (by omega) ht.1 ht.2
  refine zFor0 (fun t => t0 ≤ t ∧ ∀ e, e < t → ¬ eN A g by' r t0 e) (wE A (A (27 + 12 * r + 0)) t0 + 1) ?_ t0 ⟨Int.le_refl _, fun e e1 he => by have := he.1.1; omega⟩ (by omega)
  intro n t hI hv ih
  obtain ⟨tt, hno⟩ := hI
  rw [wp_X_firstEntry_L21]
  have hz : ∀ e, t0 ≤ e → (e ≤ wE A (A (27 + 12 * r + 0)) t0 ↔ zW A (A (27 + 12 * r + 0)) t0 e) := fun e e0 => wE_iff (by omega) (by omega) ht.1 e0
  refine ⟨fun c => kk (-6) (Or.inl ⟨rfl, fun e he => ?_⟩), fun c => ?_⟩
  · have := (hz e he.1.1).2 he.1
    exact hno e (by omega) he
  refine X_leadsOn hA hL hg hb ht.1 r0 r1 tt (by omega) (fun hy => ⟨fun c2 => absurd c2 (by decide), fun _ => kk t (Or.inr ⟨by omega, ⟨(hz t tt).1 (by omega), hy⟩, fun e he => ?_⟩)⟩) (fun hn => ⟨fun _ => ⟨zRi (by omega) (by omega), ih ⟨by omega, fun e e1 he => ?_⟩ (by omega)⟩, fun c2 => absurd rfl c2⟩)
  · rw [if_pos rfl]
    apply Classical.byContradiction
    intro hlt
    exact hno e (by omega) he
  · by_cases het : e = t
    · subst het; exact hn he.2
    · exact hno e (by omega) he
theorem X_lastEntry {σ : zM} {t0 r : Int} {Q : Int → Prop} (hA : OKA A B) (hL : LBk A g by' σ t0) (hg : 0 ≤ g ∧ g < 8) (hb : by' ≤ 2880) (ht : 0 ≤ t0 ∧ t0 ≤ 2880) (r0 : 0 ≤ r) (r1 : r < A 0) (kk : ∀ res, EN A g by' r t0 1 res → Q res) : wp_X_lastEntry σ r t0 Q := by
  have hb0 := hA.1
  have hr := hA.2.2.2.2.1 r r0 r1
  have hr0 := hr.1
  have hp := hA.2.2.2.1 _ hr0.1 hr0.2
  unfold wp_X_lastEntry
  rw [S_ofR' hL.1 r0 r1 hb0.2 (by omega) (by omega)]
  refine S_waitEnd hL.1 hA hr0.1 hr0.2 ht.1 ht.2 ?_
  have hw := wE_rg (A := A) (p := A (27 + 12 * r + 0)) (s := t0) (by omega) (by omega) ht.1 ht.2
  have hz : ∀ e, t0 ≤ e → (e ≤ wE A (A (27 + 12 * r + 0)) t0 ↔ zW A (A (27 + 12 * r + 0)) t0 e) := fun e e0 => wE_iff (by omega) (by omega) ht.1 e0
  refine zForD0 (fun t => t ≤ wE A (A (27 + 12 * r + 0)) t0 ∧ ∀ e, t < e → ¬ eN A g by' r t0 e) (t0 - 1) ?_ (wE A (A (27 + 12 * r + 0)) t0) ⟨Int.le_refl _, fun e e1 he => by have := (hz e he.1.1).2 he.1; omega⟩ (by omega)
  intro n t hI hv ih
  obtain ⟨tt, hno⟩ := hI
  rw [wp_X_lastEntry_L21]
  refine ⟨fun c => kk (-6) (Or.inl ⟨rfl, fun e he => ?_⟩), fun c => ?_⟩
  · have := he.1.1
    exact hno e (by omega) he
  refine X_leadsOn hA hL hg hb ht.1 r0 r1 (by omega) (by omega) (fun hy => ⟨fun c2 => absurd c2 (by decide), fun _ => kk t (Or.inr ⟨by omega, ⟨(hz t (by omega)).1 (by omega), hy⟩, fun e he => ?_⟩)⟩) (fun hn => ⟨fun _ => ⟨zRi (by omega) (by omega), ih ⟨by omega, fun e e1 he => ?_⟩ (by omega)⟩, fun c2 => absurd rfl c2⟩)
  · rw [if_neg (by decide)]
    apply Classical.byContradiction
    intro hlt
    exact hno e (by omega) he
  · by_cases het : e = t
    · subst het; exact hn he.2
    · exact hno e (by omega) he
/-- the lowest road of p0 that leads on -/
def FRd (A : Int → Int) (g by' p0 t0 res : Int) : Prop := (res = -6 ∧ ∀ r e, 0 ≤ r → r < A 0 → A (27 + 12 * r + 0) = p0 → ¬ eN A g by' r t0 e) ∨ ((0 ≤ res ∧ res < A 0) ∧ A (27 + 12 * res + 0) = p0 ∧ (∃ e, eN A g by' res t0 e) ∧ ∀ r e, 0 ≤ r → r < res → A (27 + 12 * r + 0) = p0 → ¬ eN A g by' r t0 e)
theorem X_firstRoad {σ : zM} {p0 t0 : Int} {Q : Int → Prop} (hA : OKA A B) (hL : LBk A g by' σ t0) (hg : 0 ≤ g ∧ g < 8) (hb : by' ≤ 2880) (ht : 0 ≤ t0 ∧ t0 ≤ 2880) (kk : ∀ res, FRd A g by' p0 t0 res → Q res) : wp_X_firstRoad σ p0 t0 Q := by
  have hb0 := hA.1
  unfold wp_X_firstRoad
  refine zFor0 (fun v => 0 ≤ v ∧ ∀ r e, 0 ≤ r → r < v → A (27 + 12 * r + 0) = p0 → ¬ eN A g by' r t0 e) (A 0) ?_ 0 ⟨by omega, fun r e r0 r1 => by omega⟩ (by omega)
  intro n v hI hv ih
  obtain ⟨v0, hno⟩ := hI
  rw [wp_X_firstRoad_L2, hL.1.1.1]
  refine ⟨fun c => kk (-6) (Or.inl ⟨rfl, fun r e r0 r1 => hno r e r0 (by omega)⟩), fun c => ?_⟩
  rw [S_ofR' hL.1 v0 (by omega) hb0.2 (by omega) (by omega)]
  have skip : (∀ e, A (27 + 12 * v + 0) = p0 → ¬ eN A g by' v t0 e) → wp_X_firstRoad_b39 σ p0 t0 (wp_X_firstRoad_L2 σ p0 t0 Q n) Q v := fun hx => ⟨zRi (by omega) (by omega), ih ⟨by omega, fun r e r0 r1 hp => by
    by_cases hrv : r = v
    · subst hrv; exact hx e hp
    · exact hno r e r0 (by omega) hp⟩ (by omega)⟩
  refine ⟨fun c1 => skip (fun e hp => absurd hp c1), fun c1 => ?_⟩
  refine X_firstEntry hA hL hg hb ht v0 (by omega) (fun res hE => ⟨fun c2 => skip (fun e _ => ?_), fun c2 => kk v (Or.inr ⟨⟨v0, by omega⟩, c1, ?_, hno⟩)⟩)
  · rcases hE with ⟨-, h2⟩ | ⟨h1, -⟩
    · exact h2 e
    · omega
  · rcases hE with ⟨h1, -⟩ | ⟨-, h2, -⟩
    · exact absurd h1 c2
    · exact ⟨res, h2⟩
/-! the reference -/
theorem M_beginsAt {τ : zM} {t0 r la : Int} {Q : Int → Prop} (hA : OKA A B) (eA : τ 80 = A) (hK : KI A g by' τ (-1)) (hg : 0 ≤ g ∧ g < 8) (hb : by' ≤ 2880) (ht : 0 ≤ t0 ∧ t0 ≤ 2880) (r0 : 0 ≤ r) (r1 : r < A 0) (kk : ∀ res, EN A g by' r t0 la res → Q res) : wp_M_beginsAt τ r t0 by' la Q := by
  have hb0 := hA.1
  have hr := hA.2.2.2.2.1 r r0 r1
  have hr0 := hr.1
  have hr1 := hr.2.1
  have hr2 := hr.2.2.1
  have hp := hA.2.2.2.1 _ hr0.1 hr0.2
  unfold wp_M_beginsAt
  rw [M_ofR (by omega) (by omega), eA]
  -- f: what was found among the entries before t
  have key : ∀ (n : Nat) (f t : Int), t0 ≤ t → (by' + 1 - t < n ∧ 0 < n) → (∀ x, t0 ≤ x → x < t - 1 → rO A (A (27 + 12 * r + 0)) x) → ((f = -6 ∧ ∀ e, e < t → ¬ eN A g by' r t0 e) ∨ (0 ≤ f ∧ f < t ∧ eN A g by' r t0 f ∧ ∀ e, e < t → eN A g by' r t0 e → if la = 0 then f ≤ e else e ≤ f)) → wp_M_beginsAt_L15 τ r t0 by' la (A (27 + 12 * r + 0)) Q n f t := by
    intro n
    induction n with
    | zero => intro f t _ h _ _; omega
    | succ n ih =>
      intro f t tt hn hop hf
      have stop : (∀ e, t ≤ e → ¬ eN A g by' r t0 e) → Q f := fun hx => kk f (by
        rcases hf with ⟨h1, h2⟩ | ⟨h1, h2, h3, h4⟩
        · exact Or.inl ⟨h1, fun e => if c : e < t then h2 e c else hx e (by omega)⟩
        · exact Or.inr ⟨h1, h3, fun e he => if c : e < t then h4 e c he else absurd he (hx e (by omega))⟩)
      rw [wp_M_beginsAt_L15]
      refine ⟨fun c => stop (fun e e0 he => by have := he.2.2.1; omega), fun c => ?_⟩
      rw [M_limitOf hr0.1 hr0.2, eA]
      refine ⟨zRi (by omega) (by omega), fun c1 => stop (fun e e0 he => by have := he.1.2.2.2; omega), fun c1 => ?_⟩
      have body : (∀ x, t0 ≤ x → x < t → rO A (A (27 + 12 * r + 0)) x) → wp_M_beginsAt_b56 τ r t0 by' la (A (27 + 12 * r + 0)) (wp_M_beginsAt_L15 τ r t0 by' la (A (27 + 12 * r + 0)) Q n) Q f t := by
        intro hop2
        have hzw : t ≤ 2880 → zW A (A (27 + 12 * r + 0)) t0 t := fun h => ⟨tt, h, hop2, by omega⟩
        have no : ¬ bL A g by' r t → wp_M_beginsAt_b107 τ r t0 by' la (A (27 + 12 * r + 0)) (wp_M_beginsAt_L15 τ r t0 by' la (A (27 + 12 * r + 0)) Q n) Q f t 0 := by
          intro hx
          refine ⟨fun _ => ⟨zRi (by omega) (by omega), ih f (t + 1) (by omega) (by omega) (fun x x0 x1 => hop2 x x0 (by omega)) ?_⟩, fun c => absurd rfl c⟩
          have nt : ∀ e, e < t + 1 → eN A g by' r t0 e → e < t := fun e e1 he => by
            apply Classical.byContradiction
            intro hlt
            have het : e = t := by omega
            subst het
            exact hx he.2
          rcases hf with ⟨h1, h2⟩ | ⟨h1, h2, h3, h4⟩
          · exact Or.inl ⟨h1, fun e e1 he => h2 e (nt e e1 he) he⟩
          · exact Or.inr ⟨h1, by omega, h3, fun e e1 he => h4 e (nt e e1 he) he⟩
        unfold wp_M_beginsAt_b56
        rw [M_ofR (by omega) (by omega), eA]
        refine ⟨zRi (by omega) (by omega), fun c2 => no (fun hh => by have := hh.2.1; omega), fun c2 => ⟨by omega, ?_⟩⟩
        rw [M_ofR (by omega) (by omega), eA, M_has hr1.1 (by omega)]
        have hbit := hK (t + A (27 + 12 * r + 2)) (by omega) (by omega) (A (27 + 12 * r + 1)) hr1.1 (by omega)
        refine ⟨fun c3 => no (fun hh => ?_), fun c3 => ?_⟩
        · rw [zIf1, hbit] at c3
          exact c3 ⟨by omega, hh.2.2⟩
        rw [zIf1, Classical.not_not, hbit] at c3
        refine M_whyNot (B := B) (by rw [eA]; exact hA) r0 (by rw [eA]; omega) (by omega) (by omega) ?_
        rw [eA]
        refine ⟨fun c4 => no (fun hh => c4 hh.1.2.2), fun c4 => ?_⟩
        have hbl : bL A g by' r t := ⟨⟨⟨r0, r1⟩, by omega, c4⟩, by omega, c3.2⟩
        have hen : eN A g by' r t0 t := ⟨hzw (by omega), hbl⟩
        have take : (la = 0 → f = -6) → wp_M_beginsAt_b126 τ r t0 by' la (A (27 + 12 * r + 0)) (wp_M_beginsAt_L15 τ r t0 by' la (A (27 + 12 * r + 0)) Q n) Q t := by
          intro hla
          refine ⟨zRi (by omega) (by omega), ih t (t + 1) (by omega) (by omega) (fun x x0 x1 => hop2 x x0 (by omega)) (Or.inr ⟨by omega, by omega, hen, fun e e1 he => ?_⟩)⟩
          by_cases hl : la = 0
          · rw [if_pos hl]
            rcases hf with ⟨h1, h2⟩ | ⟨h1, h2, h3, h4⟩
            · apply Classical.byContradiction
              intro hlt
              exact h2 e (by omega) he
            · have := hla hl; omega
          · rw [if_neg hl]; omega
        refine ⟨fun c => absurd c (by decide), fun _ => ⟨fun c5 => take (fun c6 => absurd c6 c5), fun c5 => ⟨fun c6 => ?_, fun c6 => take (fun _ => c6)⟩⟩⟩
        refine ⟨zRi (by omega) (by omega), ih f (t + 1) (by omega) (by omega) (fun x x0 x1 => hop2 x x0 (by omega)) ?_⟩
        rcases hf with ⟨h1, h2⟩ | ⟨h1, h2, h3, h4⟩
        · exact absurd h1 c6
        · refine Or.inr ⟨h1, by omega, h3, fun e e1 he => ?_⟩
          by_cases het : e = t
          · rw [if_pos c5]; omega
          · exact h4 e (by omega) he
      refine ⟨fun c2 => body (fun x x0 x1 => by omega), fun c2 => ⟨zRi (by omega) (by omega), ?_⟩⟩
      refine M_isRoomOpen hr0.1 hr0.2 (by omega) (fun co => ⟨fun _ => body (fun x x0 x1 => ?_), fun c => absurd c (by decide)⟩) (fun cc => ⟨fun c => absurd rfl c, fun _ => stop (fun e e0 he => ?_)⟩)
      · rw [eA] at co
        by_cases hx : x = t - 1
        · subst hx; exact co
        · exact hop x x0 (by omega)
      · rw [eA] at cc
        exact cc (he.1.2.2.1 (t - 1) (by omega) (by omega))
  exact ⟨(by' + 1 - t0).toNat + 1, key _ (-6) t0 (Int.le_refl _) (by omega) (fun x x0 x1 => by omega) (Or.inl ⟨rfl, fun e e1 he => by have := he.1.1; omega⟩)⟩
/-- what the reference answers -/
def WA (A : Int → Int) (g by' p0 t0 w res : Int) : Prop := ∃ r, FRd A g by' p0 t0 r ∧ ((w = 1 ∨ r = -6) ∧ res = r ∨ w ≠ 1 ∧ r ≠ -6 ∧ EN A g by' r t0 (if w = 3 then 1 else 0) res)
theorem M_wayL {τ : zM} {p0 t0 w : Int} {Q : Int → zM → Prop} (hA : OKA A B) (eA : τ 80 = A) (hK : KI A g by' τ (-1)) (hg : 0 ≤ g ∧ g < 8) (hb : by' ≤ 2880) (ht : 0 ≤ t0 ∧ t0 ≤ 2880) (kk : ∀ res, WA A g by' p0 t0 w res → Q res τ) : ∃ n, wp_M_way_L97 τ p0 t0 w by' Q n 0 := by
  have hb0 := hA.1
  refine zFor0 (fun v => 0 ≤ v ∧ ∀ r e, 0 ≤ r → r < v → A (27 + 12 * r + 0) = p0 → ¬ eN A g by' r t0 e) (A 0) ?_ 0 ⟨by omega, fun r e r0 r1 => by omega⟩ (by omega)
  intro n v hI hv ih
  obtain ⟨v0, hno⟩ := hI
  rw [wp_M_way_L97, eA]
  refine ⟨fun c => kk (-6) ⟨-6, Or.inl ⟨rfl, fun r e r0 r1 => hno r e r0 (by omega)⟩, Or.inl ⟨Or.inr rfl, rfl⟩⟩, fun c => ?_⟩
  rw [M_ofR (by omega) (by omega), eA]
  have skip : (∀ e, A (27 + 12 * v + 0) = p0 → ¬ eN A g by' v t0 e) → wp_M_way_b144 τ p0 t0 w by' (wp_M_way_L97 τ p0 t0 w by' Q n) Q v (-6) := fun hx => ⟨fun _ => ⟨zRi (by omega) (by omega), ih ⟨by omega, fun r e r0 r1 hp => by
    by_cases hrv : r = v
    · subst hrv; exact hx e hp
    · exact hno r e r0 (by omega) hp⟩ (by omega)⟩, fun c => absurd rfl c⟩
  have go : ∀ la, A (27 + 12 * v + 0) = p0 → (w = 3 → la = 1) → (¬ w = 3 → la = 0) → wp_M_way_b136 τ p0 t0 w by' (wp_M_way_L97 τ p0 t0 w by' Q n) Q v v t0 by' la := by
    intro la hp h3 h4
    unfold wp_M_way_b136
    refine M_beginsAt (g := g) hA eA hK hg hb ht v0 (by omega) (fun res hE => ?_)
    have hla : la = if w = 3 then 1 else 0 := by
      by_cases h : w = 3
      · rw [if_pos h]; exact h3 h
      · rw [if_neg h]; exact h4 h
    rcases hE with ⟨h1, h2⟩ | ⟨h1, h2, h5⟩
    · subst h1; exact skip (fun e _ => h2 e)
    · have hfr : FRd A g by' p0 t0 v := Or.inr ⟨⟨v0, by omega⟩, hp, ⟨res, h2⟩, hno⟩
      refine ⟨fun c1 => by omega, fun _ => ⟨fun c2 => kk res ⟨v, hfr, Or.inr ⟨c2, by omega, ?_⟩⟩, fun c2 => kk v ⟨v, hfr, Or.inl ⟨Or.inl c2, rfl⟩⟩⟩⟩
      rw [← hla]; exact Or.inr ⟨h1, h2, h5⟩
  exact ⟨fun c1 => skip (fun e hp => absurd hp c1), fun c1 => ⟨fun c2 => go 0 c1 (fun h => absurd h c2) (fun _ => rfl), fun c2 => go 1 c1 (fun _ => rfl) (fun h => absurd c2 h)⟩⟩
theorem FRd_uniq {p0 t0 a b : Int} (h : FRd A g by' p0 t0 a) (k : FRd A g by' p0 t0 b) : a = b := by
  rcases h with ⟨h1, h2⟩ | ⟨h1, h2, ⟨e, h3⟩, h4⟩ <;> rcases k with ⟨k1, k2⟩ | ⟨k1, k2, ⟨e', k3⟩, k4⟩
  · omega
  · exact absurd k3 (h2 b e' k1.1 k1.2 k2)
  · exact absurd h3 (k2 a e h1.1 h1.2 h2)
  · apply Classical.byContradiction
    intro hne
    by_cases hl : a < b
    · exact k4 a e h1.1 hl h2 h3
    · exact h4 b e' k1.1 (by omega) k2 k3
theorem WA_uniq {p0 t0 w a b : Int} (h : WA A g by' p0 t0 w a) (k : WA A g by' p0 t0 w b) : a = b := by
  obtain ⟨r, h1, h2⟩ := h
  obtain ⟨r', k1, k2⟩ := k
  have e := FRd_uniq h1 k1
  subst e
  rcases h2 with ⟨h2, h3⟩ | ⟨h2, h3, h4⟩ <;> rcases k2 with ⟨k2, k3⟩ | ⟨k2, k3, k4⟩
  · omega
  · omega
  · omega
  · exact EN_uniq h4 k4
end WAY
