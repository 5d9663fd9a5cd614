theorem mApp_n {τ : zM} {q : Nat} (h1 : q ≠ 79) (h2 : q ≠ 81) : mApp τ q = τ q := by
  unfold mApp
  rw [zU_n h1, zCp_n h2]
theorem mApp_4 (τ : zM) : mApp τ 79 4 = τ 79 4 + 1 := zU_s
theorem mApp_k {τ : zM} {k : Int} (h : k ≠ 4) : mApp τ 79 k = τ 79 k := by
  unfold mApp
  rw [zU_j h, zCp_n (by omega)]
theorem mApp_81 (τ : zM) (i : Int) : mApp τ 81 i = if τ 79 4 * 455 ≤ i ∧ i < τ 79 4 * 455 + 455 then τ 80 (i - τ 79 4 * 455) else τ 81 i := by
  unfold mApp
  rw [zU_n (by omega), zCp_g]
  by_cases h : τ 79 4 * 455 ≤ i ∧ i < τ 79 4 * 455 + 455
  · rw [if_pos h, if_pos h, Int.zero_add]
  · rw [if_neg h, if_neg h]
theorem mSh_n {τ : zM} {q : Nat} (h1 : q ≠ 79) (h2 : q ≠ 81) : mSh τ q = τ q := by
  unfold mSh
  rw [zU_n h1, zCp_n h2]
theorem mSh_4 (τ : zM) : mSh τ 79 4 = 5 := zU_s
theorem mSh_k {τ : zM} {k : Int} (h : k ≠ 4) : mSh τ 79 k = τ 79 k := by
  unfold mSh
  rw [zU_j h, zCp_n (by omega)]
theorem mSh_81 (τ : zM) (i : Int) : mSh τ 81 i = if 0 ≤ i ∧ i < 2275 then τ 81 (455 + i) else τ 81 i := by
  unfold mSh
  rw [zU_n (by omega), zCp_g]
  by_cases h : 0 ≤ i ∧ i < 2275
  · rw [if_pos h, if_pos (by omega), Int.sub_zero]
  · rw [if_neg h, if_neg (by omega)]
theorem mRec_n {τ : zM} {q : Nat} (h1 : q ≠ 79) (h2 : q ≠ 81) : mRec τ q = τ q := by
  unfold mRec
  split
  · rw [mApp_n h1 h2, mSh_n h1 h2]
  · rw [mApp_n h1 h2]
theorem mRec_k {τ : zM} {k : Int} (h : k ≠ 4) : mRec τ 79 k = τ 79 k := by
  unfold mRec
  split
  · rw [mApp_k h, mSh_k h]
  · rw [mApp_k h]
theorem TOK_app {B : Int} {τ : zM} (h : TOK B τ) (hn : τ 79 4 < 6) : TOK B (mApp τ) := by
  obtain ⟨h0, h1, h2, h3, h4, h5⟩ := h
  refine ⟨by rw [mApp_n (by omega) (by omega)]; exact h0, by rw [mApp_4]; omega, fun i i0 i1 => ?_, fun s s0 s1 => ?_, by rw [mApp_k (by omega)]; exact h4, fun i i0 i1 => ?_⟩
  · rw [mApp_4] at i1
    by_cases hi : i = τ 79 4
    · refine OKA_congr (A := τ 80) (fun j j0 j1 => ?_) h0
      show mApp τ 81 (i * 455 + j) = τ 80 j
      rw [mApp_81, if_pos (by omega)]
      congr 1; omega
    · refine OKA_congr (fun j j0 j1 => ?_) (h2 i i0 (by omega))
      show mApp τ 81 (i * 455 + j) = τ 81 (i * 455 + j)
      rw [mApp_81, if_neg (by omega)]
  · rw [mApp_n (q := 83) (by omega) (by omega), mApp_n (q := 82) (by omega) (by omega)]; exact h3 s s0 s1
  · rw [mApp_k (by omega)] at i1
    rw [mApp_n (by omega) (by omega)]; exact h5 i i0 i1
theorem TOK_sh {B : Int} {τ : zM} (h : TOK B τ) (hn : τ 79 4 = 6) : TOK B (mSh τ) := by
  obtain ⟨h0, h1, h2, h3, h4, h5⟩ := h
  refine ⟨by rw [mSh_n (by omega) (by omega)]; exact h0, by rw [mSh_4]; omega, fun i i0 i1 => ?_, fun s s0 s1 => ?_, by rw [mSh_k (by omega)]; exact h4, fun i i0 i1 => ?_⟩
  · rw [mSh_4] at i1
    refine OKA_congr (fun j j0 j1 => ?_) (h2 (i + 1) (by omega) (by omega))
    show mSh τ 81 (i * 455 + j) = τ 81 ((i + 1) * 455 + j)
    rw [mSh_81, if_pos (by omega)]
    congr 1; omega
  · rw [mSh_n (q := 83) (by omega) (by omega), mSh_n (q := 82) (by omega) (by omega)]; exact h3 s s0 s1
  · rw [mSh_k (by omega)] at i1
    rw [mSh_n (by omega) (by omega)]; exact h5 i i0 i1
theorem OKA_cnt {A : Int → Int} {B : Int} (h : OKA A B) : A 0 ≤ 24 ∧ A 1 ≤ 20 ∧ A 2 ≤ 10 := ⟨h.1.2, h.2.1.2, h.2.2.1.2⟩
theorem XG_0 {σ τ : zM} (h : σ 62 1 = 0) : XG σ τ := ⟨Or.inl h, fun e => absurd (h.symm.trans e) (by decide)⟩
theorem X_b72 {B z : Int} {σ τ : zM} {Q : zM → Prop} (h : XRep B z σ τ) (hn : τ 79 4 < 6) (hg : σ 62 1 = 0) (k : ∀ σ1, XRep B z σ1 (mApp τ) → Fr σ σ1 → σ1 62 1 = 0 → Q σ1) : wp_X_remember_b72 Q σ := by
  obtain ⟨hR, hH, hS, hM, hG, hT, hz⟩ := h
  obtain ⟨e4, hb, hinj, hh⟩ := hH
  have ht4 := hT.2.1
  unfold wp_X_remember_b72
  rw [e4]
  have hbn := hb (τ 79 4) (by omega) (by omega)
  refine ⟨⟨by omega, by omega⟩, by omega, S_copyFrom (by omega) (by omega) (by omega) (fun σ5 fr cp => ?_)⟩
  have g54 : σ5 54 = σ 54 := fr 54 (by omega)
  rw [g54, e4]
  refine ⟨zRi (by omega) (by omega), fun σ7 e7 => ?_⟩
  have f : ∀ n, n ≠ 54 → σ7 n = σ5 n := fun n hn => by rw [e7, zU_n hn]
  have f2 : ∀ n, n ≠ 54 → (n < 6 * (σ 55 (τ 79 4)).toNat ∨ 6 * (σ 55 (τ 79 4)).toNat + 5 < n) → σ7 n = σ n := fun n h1 h2 => (f n h1).trans (fr n h2)
  have g7 : ∀ j, j ≠ 2 → σ7 54 j = σ 54 j := fun j hj => by rw [e7, zU_j hj, g54]
  have f55 : σ7 55 = σ 55 := f2 55 (by omega) (by omega)
  obtain ⟨c0, c1, c2⟩ := OKA_cnt hT.1
  refine k σ7 ⟨?_, ⟨?_, ?_, ?_, fun i i0 i1 => ?_⟩, ⟨?_, ?_, ?_, ?_, ?_⟩, ⟨?_, ?_, ?_⟩, XG_0 ?_, TOK_app hT hn, ?_⟩ (fun n hn' => f2 n (by omega) (by omega)) ?_
  · rw [mApp_n (by omega) (by omega)]; exact RX_congr (fun n h1 h2 => f2 n (by omega) (by omega)) hR
  · rw [mApp_4, e7, zU_s]
  · rw [f55]; exact hb
  · rw [f55]; exact hinj
  · rw [mApp_4] at i1
    rw [f55]
    by_cases hi : i = τ 79 4
    · subst hi
      refine RX_congr (σ := σ5) (fun n h1 h2 => f n (by omega)) ?_
      refine RX_congrA (A := τ 80) (fun j j0 j1 => ?_) c0 c1 c2 (cp _ c0 c1 c2 hR)
      show mApp τ 81 (τ 79 4 * 455 + j) = τ 80 j
      rw [mApp_81, if_pos (by omega)]
      congr 1; omega
    · have hbi := hb i i0 (by omega)
      have hne : σ 55 i ≠ σ 55 (τ 79 4) := fun e => hi (hinj i _ i0 (by omega) (by omega) (by omega) e)
      refine RX_congr (σ := σ) (fun n h1 h2 => f2 n (by omega) (by omega)) ?_
      obtain ⟨d0, d1, d2⟩ := OKA_cnt (hT.2.2.1 i i0 (by omega))
      refine RX_congrA (fun j j0 j1 => ?_) d0 d1 d2 (hh i i0 (by omega))
      show mApp τ 81 (i * 455 + j) = τ 81 (i * 455 + j)
      rw [mApp_81, if_neg (by omega)]
  · rw [f2 56 (by omega) (by omega)]; exact hS.1
  · rw [f2 56 (by omega) (by omega)]; exact hS.2.1
  · rw [f2 57 (by omega) (by omega), mApp_n (by omega) (by omega)]; exact hS.2.2.1
  · rw [mApp_n (q := 83) (by omega) (by omega), mApp_n (q := 82) (by omega) (by omega)]
    exact fun q => RX_congr (fun n h1 h2 => f2 n (by omega) (by omega)) (hS.2.2.2.1 q)
  · rw [mApp_n (q := 83) (by omega) (by omega), mApp_n (q := 82) (by omega) (by omega)]
    exact fun q => RX_congr (fun n h1 h2 => f2 n (by omega) (by omega)) (hS.2.2.2.2 q)
  · rw [g7 5 (by omega), mApp_k (by omega)]; exact hM.1
  · rw [f2 58 (by omega) (by omega), mApp_k (by omega)]; exact hM.2.1
  · rw [f2 59 (by omega) (by omega), mApp_k (by omega), mApp_n (by omega) (by omega)]; exact hM.2.2
  · rw [f2 62 (by omega) (by omega)]; exact hg
  · rw [g7 7 (by omega)]; exact hz
  · rw [f2 62 (by omega) (by omega)]; exact hg
/-- the history turned by one place -/
theorem X_sh {B z : Int} {σ τ : zM} {Q : zM → Prop} (h : XRep B z σ τ) (hn : τ 79 4 = 6) (hg : σ 62 1 = 0) (k : ∀ σ1, XRep B z σ1 (mSh τ) → Fr σ σ1 → σ1 62 1 = 0 → wp_X_remember_b72 Q σ1) : ∃ n, wp_X_remember_L34 ((σ 55 0).toNat) Q n σ 1 := by
  obtain ⟨hR, hH, hS, hM, hG, hT, hz⟩ := h
  obtain ⟨e4, hb, hinj, hh⟩ := hH
  refine zFor (fun σ' v => 1 ≤ v ∧ (∀ n, n ≠ 55 → σ' n = σ n) ∧ ∀ i, 0 ≤ i → i < 6 → σ' 55 i = if i < v - 1 then σ 55 (i + 1) else σ 55 i) 6 ?_ σ 1 ⟨by omega, fun _ _ => rfl, fun i i0 i1 => by rw [if_neg (by omega)]⟩ (by omega)
  intro m σ' v hI hv ih
  obtain ⟨v0, f, f5⟩ := hI
  rw [wp_X_remember_L34]
  refine ⟨fun c σ9 e9 σ10 e10 => ?_, fun c => ?_⟩
  · have hv6 : v = 6 := by omega
    subst hv6
    have f1 : ∀ n, n ≠ 55 → n ≠ 54 → σ10 n = σ n := fun n h1 h2 => by rw [e10, zU_n h2, e9, zU_n h1, f n h1]
    have g7 : ∀ j, j ≠ 2 → σ10 54 j = σ 54 j := fun j hj => by rw [e10, zU_j hj, e9, zU_n (by omega), f 54 (by omega)]
    have hb0 := hb 0 (by omega) (by omega)
    have p5 : ∀ i, 0 ≤ i → i < 6 → σ10 55 i = if i < 5 then σ 55 (i + 1) else σ 55 0 := by
      intro i i0 i1
      rw [e10, zU_n (by omega), e9, zU_g]
      by_cases hi : i = 5
      · rw [if_pos hi, if_neg (by omega)]; omega
      · rw [if_neg hi, f5 i i0 i1, if_pos (by omega), if_pos (by omega)]
    refine k σ10 ⟨?_, ⟨?_, ?_, ?_, fun i i0 i1 => ?_⟩, ⟨?_, ?_, ?_, ?_, ?_⟩, ⟨?_, ?_, ?_⟩, XG_0 ?_, TOK_sh hT hn, ?_⟩ (fun n hn' => f1 n (by omega) (by omega)) ?_
    · rw [mSh_n (by omega) (by omega)]; exact RX_congr (fun n h1 h2 => f1 n (by omega) (by omega)) hR
    · rw [mSh_4, e10, zU_s]
    · intro i i0 i1
      rw [p5 i i0 i1]
      split
      · exact hb _ (by omega) (by omega)
      · exact hb0
    · intro i j i0 i1 j0 j1
      rw [p5 i i0 i1, p5 j j0 j1]
      split <;> split <;> intro e
      · have := hinj _ _ (by omega) (by omega) (by omega) (by omega) e; omega
      · have := hinj _ _ (by omega) (by omega) (by omega) (by omega) e; omega
      · have := hinj _ _ (by omega) (by omega) (by omega) (by omega) e; omega
      · omega
    · rw [mSh_4] at i1
      rw [p5 i i0 (by omega), if_pos i1]
      have hbi := hb (i + 1) (by omega) (by omega)
      obtain ⟨d0, d1, d2⟩ := OKA_cnt (hT.2.2.1 (i + 1) (by omega) (by omega))
      refine RX_congr (σ := σ) (fun n h1 h2 => f1 n (by omega) (by omega)) ?_
      refine RX_congrA (fun j j0 j1 => ?_) d0 d1 d2 (hh (i + 1) (by omega) (by omega))
      show mSh τ 81 (i * 455 + j) = τ 81 ((i + 1) * 455 + j)
      rw [mSh_81, if_pos (by omega)]
      congr 1; omega
    · rw [f1 56 (by omega) (by omega)]; exact hS.1
    · rw [f1 56 (by omega) (by omega)]; exact hS.2.1
    · rw [f1 57 (by omega) (by omega), mSh_n (by omega) (by omega)]; exact hS.2.2.1
    · rw [mSh_n (q := 83) (by omega) (by omega), mSh_n (q := 82) (by omega) (by omega)]
      exact fun q => RX_congr (fun n h1 h2 => f1 n (by omega) (by omega)) (hS.2.2.2.1 q)
    · rw [mSh_n (q := 83) (by omega) (by omega), mSh_n (q := 82) (by omega) (by omega)]
      exact fun q => RX_congr (fun n h1 h2 => f1 n (by omega) (by omega)) (hS.2.2.2.2 q)
    · rw [g7 5 (by omega), mSh_k (by omega)]; exact hM.1
    · rw [f1 58 (by omega) (by omega), mSh_k (by omega)]; exact hM.2.1
    · rw [f1 59 (by omega) (by omega), mSh_k (by omega), mSh_n (by omega) (by omega)]; exact hM.2.2
    · rw [f1 62 (by omega) (by omega)]; exact hg
    · rw [g7 7 (by omega)]; exact hz
    · rw [f1 62 (by omega) (by omega)]; exact hg
  · have hvb := hb v (by omega) (by omega)
    have ev : σ' 55 v = σ 55 v := by rw [f5 v (by omega) (by omega), if_neg (by omega)]
    rw [ev]
    refine ⟨⟨by omega, by omega⟩, by omega, ⟨by omega, by omega⟩, fun σ14 e14 => ⟨zRi (by omega) (by omega), ih σ14 ⟨by omega, fun n hn' => by rw [e14, zU_n hn']; exact f n hn', fun i i0 i1 => ?_⟩ (by omega)⟩⟩
    rw [e14, zU_g]
    by_cases hi : i = v - 1
    · rw [if_pos hi, if_pos (by omega), show i + 1 = v by omega]; omega
    · rw [if_neg hi, f5 i i0 i1]
      by_cases h2 : i < v - 1
      · rw [if_pos h2, if_pos (by omega)]
      · rw [if_neg h2, if_neg (by omega)]
theorem XRep_g0 {B z : Int} {σ τ : zM} (h : XRep B z σ τ) : XRep B z (zU σ 62 1 0) τ :=
  XRep_eq ⟨fun n hn => zU_n (by omega), by rw [zU_n (by omega)], zU_n (by omega)⟩ (XG_0 zU_s) (TEq_rfl τ) h
theorem X_remember {B : Int} {σ τ : zM} {Q : zM → Prop} (h : XRep B 0 σ τ) (k : ∀ σ1, XRep B 0 σ1 (mRec τ) → Fr σ σ1 → σ1 62 1 = 0 → Q σ1) : wp_X_remember σ Q := by
  unfold wp_X_remember
  intro σ1 e1
  have h1 : XRep B 0 σ1 τ := by rw [e1]; exact XRep_g0 h
  have hg : σ1 62 1 = 0 := by rw [e1]; exact zU_s
  have fr : Fr σ σ1 := fun n hn => by rw [e1, zU_n (by omega)]
  have e7 : σ1 54 7 = 0 := h1.2.2.2.2.2.2
  have e4 : σ1 54 2 = τ 79 4 := h1.2.1.1
  have hb := h1.2.1.2.1 0 (by omega) (by omega)
  have ht := h1.2.2.2.2.2.1.2.1
  unfold mRec at k
  refine ⟨fun _ => ⟨fun c => ?_, fun c => ⟨by omega, ?_⟩⟩, fun c => absurd e7 c⟩
  · rw [e4] at c
    rw [if_neg (by omega)] at k
    exact X_b72 h1 c hg (fun σ2 a b c => k σ2 a (Fr_trans fr b) c)
  · rw [e4] at c
    have c6 : τ 79 4 = 6 := by omega
    rw [if_pos c6] at k
    refine X_sh h1 c6 hg (fun σ2 a b c => ?_)
    exact X_b72 a (by rw [mSh_4]; omega) c (fun σ3 a' b' c' => k σ3 a' (Fr_trans fr (Fr_trans b b')) c')
theorem X_remember1 {B : Int} {σ τ : zM} {Q : zM → Prop} (h : XRep B 1 σ τ) (k : ∀ σ1, XRep B 1 σ1 τ → Fr σ σ1 → σ1 62 1 = 0 → Q σ1) : wp_X_remember σ Q := by
  unfold wp_X_remember
  intro σ1 e1
  have h1 : XRep B 1 σ1 τ := by rw [e1]; exact XRep_g0 h
  have e7 : σ1 54 7 = 1 := h1.2.2.2.2.2.2
  exact ⟨fun c => absurd (e7.symm.trans c) (by decide), fun _ => k σ1 h1 (fun n hn => by rw [e1, zU_n (by omega)]) (by rw [e1]; exact zU_s)⟩
