/-! what holds between two calls -/
def sT (A : Int → Int) : Nat → Int
  | 0 => 0
  | n + 1 => sT A n + A (375 + 8 * (n : Int) + 3)
def sR (A : Int → Int) : Nat → Int
  | 0 => 0
  | n + 1 => sR A n + A (27 + 12 * (n : Int) + 11)
/-- the roads were entered as often as the travellers entered some -/
def OKS (A : Int → Int) : Prop := sT A (A 2).toNat = sR A (A 0).toNat
theorem sT_congr {A A' : Int → Int} : ∀ {n : Nat}, (∀ i : Int, 0 ≤ i → i < n → A' (375 + 8 * i + 3) = A (375 + 8 * i + 3)) → sT A' n = sT A n
  | 0, _ => rfl
  | n + 1, h => by
    show sT A' n + A' _ = sT A n + A _
    rw [sT_congr (n := n) (fun i i0 i1 => h i i0 (by omega)), h n (by omega) (by omega)]
theorem sR_congr {A A' : Int → Int} : ∀ {n : Nat}, (∀ i : Int, 0 ≤ i → i < n → A' (27 + 12 * i + 11) = A (27 + 12 * i + 11)) → sR A' n = sR A n
  | 0, _ => rfl
  | n + 1, h => by
    show sR A' n + A' _ = sR A n + A _
    rw [sR_congr (n := n) (fun i i0 i1 => h i i0 (by omega)), h n (by omega) (by omega)]
theorem sT_inc {A A' : Int → Int} {v : Int} (v0 : 0 ≤ v) (hv : A' (375 + 8 * v + 3) = A (375 + 8 * v + 3) + 1) : ∀ {n : Nat}, v < n → (∀ i : Int, 0 ≤ i → i < n → i ≠ v → A' (375 + 8 * i + 3) = A (375 + 8 * i + 3)) → sT A' n = sT A n + 1
  | 0, h, _ => by omega
  | n + 1, h, g => by
    show sT A' n + A' _ = sT A n + A _ + 1
    by_cases e : v = n
    · subst e
      rw [hv, sT_congr (n := n) (fun i i0 i1 => g i i0 (by omega) (by omega))]; omega
    · rw [sT_inc v0 hv (n := n) (by omega) (fun i i0 i1 i2 => g i i0 (by omega) i2), g n (by omega) (by omega) (by omega)]; omega
theorem sR_inc {A A' : Int → Int} {v : Int} (v0 : 0 ≤ v) (hv : A' (27 + 12 * v + 11) = A (27 + 12 * v + 11) + 1) : ∀ {n : Nat}, v < n → (∀ i : Int, 0 ≤ i → i < n → i ≠ v → A' (27 + 12 * i + 11) = A (27 + 12 * i + 11)) → sR A' n = sR A n + 1
  | 0, h, _ => by omega
  | n + 1, h, g => by
    show sR A' n + A' _ = sR A n + A _ + 1
    by_cases e : v = n
    · subst e
      rw [hv, sR_congr (n := n) (fun i i0 i1 => g i i0 (by omega) (by omega))]; omega
    · rw [sR_inc v0 hv (n := n) (by omega) (fun i i0 i1 i2 => g i i0 (by omega) i2), g n (by omega) (by omega) (by omega)]; omega
theorem OKS_same {A A' : Int → Int} (h0 : A' 0 = A 0) (h2 : A' 2 = A 2) (hr : ∀ r : Int, 0 ≤ r → r < A 0 → A' (27 + 12 * r + 11) = A (27 + 12 * r + 11)) (ht : ∀ t : Int, 0 ≤ t → t < A 2 → A' (375 + 8 * t + 3) = A (375 + 8 * t + 3)) (h : OKS A) : OKS A' := by
  unfold OKS at *
  rw [h0, h2, sT_congr (fun i i0 i1 => ht i i0 (by omega)), sR_congr (fun i i0 i1 => hr i i0 (by omega)), h]
theorem OKS_congr {A A' : Int → Int} (e : ∀ i : Int, 0 ≤ i → i < 455 → A' i = A i) (h0 : A 0 ≤ 24) (h2 : A 2 ≤ 10) (h : OKS A) : OKS A' :=
  OKS_same (e 0 (by omega) (by omega)) (e 2 (by omega) (by omega)) (fun r r0 r1 => e _ (by omega) (by omega)) (fun t t0 t1 => e _ (by omega) (by omega)) h
def Z80 (τ : zM) : Prop := ∀ i : Int, i < 0 ∨ 455 ≤ i → τ 80 i = 0
def HOK (τ : zM) : Prop := ∀ i : Int, 0 ≤ i → i < τ 79 4 → OKS (fun j => τ 81 (i * 455 + j))
def SOK (τ : zM) : Prop := ∀ s : Int, 0 ≤ s → s < 2 → τ 83 s = 1 → OKS (fun j => τ 82 (s * 455 + j))
def Inv (B : Int) (σ τ : zM) : Prop := XRep B 0 σ τ ∧ σ 62 1 = 0 ∧ Z80 τ ∧ OKS (τ 80) ∧ HOK τ ∧ SOK τ
def c80 (τ : zM) : zM := fun n i => if n = 80 ∧ (i < 0 ∨ 455 ≤ i) then 0 else τ n i
theorem c80_n {τ : zM} {n : Nat} (h : n ≠ 80) : c80 τ n = τ n := by
  funext i
  unfold c80
  rw [if_neg (fun c => h c.1)]
theorem c80_i {τ : zM} {i : Int} (h0 : 0 ≤ i) (h1 : i < 455) : c80 τ 80 i = τ 80 i := by
  unfold c80
  rw [if_neg (by omega)]
theorem c80_Z (τ : zM) : Z80 (c80 τ) := fun i hi => by
  unfold c80
  rw [if_pos ⟨rfl, hi⟩]
theorem XRep_c80 {B : Int} {σ τ : zM} (h : XRep B 0 σ τ) (g0 : σ 62 1 = 0) : XRep B 0 σ (c80 τ) := by
  have hA := h.2.2.2.2.2.1.1
  obtain ⟨c0, c1, c2⟩ := OKA_cnt hA
  exact XRep_now h g0 (fun _ _ _ => rfl) (fun n _ h2 => c80_n h2) (RX_congrA (fun i i0 i1 => c80_i i0 i1) c0 c1 c2 h.1) (OKA_congr (fun i i0 i1 => c80_i i0 i1) hA) (Int.le_refl B)
/-- behind a change: what was there stands in the history, the slots stay, and so does the reason -/
def Chg (τ τ' : zM) : Prop := ∀ n, 79 ≤ n → n ≠ 80 → τ' n = mRec τ n
theorem mRec_4 {τ : zM} (h : τ 79 4 ≤ 6) : mRec τ 79 4 = if τ 79 4 < 6 then τ 79 4 + 1 else 6 := by
  unfold mRec
  by_cases c : τ 79 4 = 6
  · rw [if_pos c, mApp_4, mSh_4, if_neg (by omega)]; rfl
  · rw [if_neg c, mApp_4, if_pos (by omega)]
theorem mRec_last {τ : zM} (h : τ 79 4 ≤ 6) {i : Int} (i0 : 0 ≤ i) (i1 : i < 455) : mRec τ 81 ((mRec τ 79 4 - 1) * 455 + i) = τ 80 i := by
  rw [mRec_4 h]
  unfold mRec
  by_cases c : τ 79 4 = 6
  · rw [if_pos c, if_neg (by omega), mApp_81, mSh_4, if_pos (by omega), mSh_n (by omega) (by omega)]
    congr 1; omega
  · rw [if_neg c, if_pos (by omega), mApp_81, if_pos (by omega)]
    congr 1; omega
theorem HOK_app {B : Int} {τ : zM} (hT : TOK B τ) (s : OKS (τ 80)) (h : HOK τ) : HOK (mApp τ) := by
  intro i i0 i1
  obtain ⟨c0, -, c2⟩ := OKA_cnt hT.1
  rw [mApp_4] at i1
  by_cases hi : i = τ 79 4
  · subst hi
    refine OKS_congr (A := τ 80) (fun j j0 j1 => ?_) c0 c2 s
    show mApp τ 81 (τ 79 4 * 455 + j) = τ 80 j
    rw [mApp_81, if_pos (by omega)]
    congr 1; omega
  · obtain ⟨d0, -, d2⟩ := OKA_cnt (hT.2.2.1 i i0 (by omega))
    refine OKS_congr (fun j j0 j1 => ?_) d0 d2 (h i i0 (by omega))
    show mApp τ 81 (i * 455 + j) = τ 81 (i * 455 + j)
    rw [mApp_81, if_neg (by omega)]
theorem HOK_sh {B : Int} {τ : zM} (hT : TOK B τ) (hn : τ 79 4 = 6) (h : HOK τ) : HOK (mSh τ) := by
  intro i i0 i1
  rw [mSh_4] at i1
  obtain ⟨d0, -, d2⟩ := OKA_cnt (hT.2.2.1 (i + 1) (by omega) (by omega))
  refine OKS_congr (fun j j0 j1 => ?_) d0 d2 (h (i + 1) (by omega) (by omega))
  show mSh τ 81 (i * 455 + j) = τ 81 ((i + 1) * 455 + j)
  rw [mSh_81, if_pos (by omega)]
  congr 1; omega
theorem HOK_rec {B : Int} {τ : zM} (hT : TOK B τ) (s : OKS (τ 80)) (h : HOK τ) : HOK (mRec τ) := by
  unfold mRec
  split
  · rename_i c
    exact HOK_app (TOK_sh hT c) (by rw [mSh_n (by omega) (by omega)]; exact s) (HOK_sh hT c h)
  · exact HOK_app hT s h
theorem HOK_eq {τ τ' : zM} (e4 : τ' 79 4 = τ 79 4) (e : τ' 81 = τ 81) (h : HOK τ) : HOK τ' := by
  unfold HOK at *
  rw [e4, e]; exact h
theorem SOK_eq {τ τ' : zM} (e3 : τ' 83 = τ 83) (e : τ' 82 = τ 82) (h : SOK τ) : SOK τ' := by
  unfold SOK at *
  rw [e3, e]; exact h
theorem Inv_fin {B B' : Int} {σ τ σ1 τ1 : zM} (h : Inv B σ τ) (x : XRep B' 0 σ1 τ1) (g0 : σ1 62 1 = 0) (c : Chg τ τ1) (s : OKS (τ1 80)) : Inv B' σ1 (c80 τ1) ∧ Chg τ (c80 τ1) := by
  have hT := h.1.2.2.2.2.2.1
  obtain ⟨c0, -, c2⟩ := OKA_cnt x.2.2.2.2.2.1.1
  have c79 := c 79 (by omega) (by omega)
  have c81 := c 81 (by omega) (by omega)
  have c82 := c 82 (by omega) (by omega)
  have c83 := c 83 (by omega) (by omega)
  refine ⟨⟨XRep_c80 x g0, g0, c80_Z _, OKS_congr (fun i i0 i1 => c80_i i0 i1) c0 c2 s, ?_, ?_⟩, fun n h1 h2 => (c80_n h2).trans (c n h1 h2)⟩
  · exact HOK_eq (by rw [c80_n (by omega), c79]) (by rw [c80_n (by omega), c81]) (HOK_rec hT h.2.2.2.1 h.2.2.2.2.1)
  · exact SOK_eq (by rw [c80_n (by omega), c83, mRec_n (by omega) (by omega)]) (by rw [c80_n (by omega), c82, mRec_n (by omega) (by omega)]) h.2.2.2.2.2
theorem Inv_mono {B B' : Int} {σ τ : zM} (hB : B ≤ B') (h : Inv B σ τ) : Inv B' σ τ := by
  obtain ⟨⟨hR, hH, hS, hM, hG, hT, hz⟩, r⟩ := h
  exact ⟨⟨hR, hH, hS, hM, hG, TOK_mono hB hT, hz⟩, r⟩
/-- a call's answer ρ, and what it leaves -/
def Post (B : Int) (σ τ : zM) (ρ : Int) (Q : Int → zM → Prop) : Prop :=
  (ρ < 0 → ρ ≠ -5 → Q ρ σ) ∧ (ρ = -5 → ∀ w σ1, 1 ≤ w → w ≤ 7 → Inv B σ1 (zU τ 79 5 w) → Q (-5) σ1) ∧ (0 ≤ ρ → ∀ σ1 τ1, Chg τ τ1 → Inv (B + 1) σ1 τ1 → Q ρ σ1)
theorem Post_err {B : Int} {σ τ : zM} {ρ e : Int} {Q : Int → zM → Prop} (k : Post B σ τ ρ Q) (h : ρ = e) (h1 : e < 0) (h2 : e ≠ -5) : Q e σ := by
  subst h
  exact k.1 h1 h2
theorem Post_ok {B B' : Int} {σ τ σ1 τ1 : zM} {ρ e : Int} {Q : Int → zM → Prop} (h : Inv B σ τ) (k : Post B σ τ ρ Q) (he : ρ = e) (h0 : 0 ≤ e) (hB : B' ≤ B + 1) (g0 : σ1 62 1 = 0) (c : Chg τ τ1) (s : OKS (τ1 80)) (x : XRep B' 0 σ1 τ1) : Q e σ1 := by
  subst he
  obtain ⟨i, c'⟩ := Inv_fin h x g0 c s
  exact k.2.2 h0 σ1 _ c' (Inv_mono hB i)
theorem Inv_ref {B w : Int} {σ τ σ1 : zM} (h : Inv B σ τ) (x : XRep B 0 σ1 (zU τ 79 5 w)) (e : σ1 62 = σ 62) : Inv B σ1 (zU τ 79 5 w) := by
  obtain ⟨-, h1, h2, h3, h4, h5⟩ := h
  have e80 : zU τ 79 5 w 80 = τ 80 := zU_n (by omega)
  refine ⟨x, by rw [e]; exact h1, fun i hi => by rw [e80]; exact h2 i hi, by rw [e80]; exact h3, HOK_eq (zU_j (by omega)) (zU_n (by omega)) h4, SOK_eq (zU_n (by omega)) (zU_n (by omega)) h5⟩
theorem Post_all {B : Int} {σ τ : zM} {ρ : Int} {Q : Int → zM → Prop} (h : Inv B σ τ) (k : ∀ r σ1 τ1, Inv (B + 1) σ1 τ1 → τ1 82 = τ 82 → τ1 83 = τ 83 → Q r σ1) : Post B σ τ ρ Q := by
  refine ⟨fun _ _ => k _ σ τ (Inv_mono (by omega) h) rfl rfl, fun _ w σ1 _ _ i => k _ σ1 _ (Inv_mono (by omega) i) (zU_n (by omega)) (zU_n (by omega)), fun _ σ1 τ1 c i => k _ σ1 τ1 i ?_ ?_⟩
  · rw [c 82 (by omega) (by omega), mRec_n (by omega) (by omega)]
  · rw [c 83 (by omega) (by omega), mRec_n (by omega) (by omega)]
