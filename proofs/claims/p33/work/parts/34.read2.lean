/-! undo, save, restore -/
theorem Z_undo {B : Int} {σ τ : zM} {Q : Int → zM → Prop} (h : Inv B σ τ) (c : 0 < τ 79 4) (k : ∀ σ1, Inv B σ1 (mUndo τ) → Q (τ 79 4 - 1) σ1) : wp_X_undo σ Q := by
  obtain ⟨hR, hH, hS, hM, hG, hT, hz⟩ := h.1
  have ht4 := hT.2.1
  unfold wp_X_undo
  rw [hH.1]
  refine ⟨fun _ => ⟨zRi (by omega) (by omega), ?_⟩, fun cc => absurd c cc⟩
  intro σ2 e2
  have e22 : σ2 54 2 = τ 79 4 - 1 := by rw [e2, zU_s]
  have f2 : ∀ n, n ≠ 54 → σ2 n = σ n := fun n hn => by rw [e2, zU_n hn]
  have hb := hH.2.1 (τ 79 4 - 1) (by omega) (by omega)
  rw [e22, f2 55 (by omega)]
  refine ⟨by omega, by omega, S_copyFrom (by omega) (by omega) (by omega) (fun σ3 fr cp => ?_)⟩
  intro σ4 e4
  have f4 : ∀ n, 6 ≤ n → n ≠ 54 → n ≠ 62 → σ4 n = σ n := fun n h6 h54 h62 => by rw [e4, zU_n h62, fr n (by omega), f2 n h54]
  have g54 : σ4 54 = σ2 54 := by rw [e4, zU_n (by omega), fr 54 (by omega)]
  have g62 : σ4 62 1 = 0 := by rw [e4, zU_s]
  rw [g54, e22]
  have u79 : ∀ k, k ≠ 4 → mUndo τ 79 k = τ 79 k := fun k hk => by unfold mUndo; rw [zCp_n (by omega), zU_j hk]
  have u794 : mUndo τ 79 4 = τ 79 4 - 1 := by unfold mUndo; rw [zCp_n (by omega), zU_s]
  have u : ∀ n, n ≠ 79 → n ≠ 80 → mUndo τ n = τ n := fun n h1 h2 => by unfold mUndo; rw [zCp_n h2, zU_n h1]
  have u80 : ∀ i, 0 ≤ i → i < 455 → mUndo τ 80 i = τ 81 ((τ 79 4 - 1) * 455 + i) := fun i i0 i1 => by
    unfold mUndo
    rw [zCp_g, if_pos (by omega), zU_n (by omega)]; congr 1; omega
  have hOK := hT.2.2.1 (τ 79 4 - 1) (by omega) (by omega)
  obtain ⟨c0, c1, c2⟩ := OKA_cnt hOK
  have uZ : ∀ i, i < 0 ∨ 455 ≤ i → mUndo τ 80 i = 0 := fun i hi => by
    unfold mUndo
    rw [zCp_g, if_neg (by omega), zU_n (by omega)]; exact h.2.2.1 i hi
  refine k σ4 ⟨?_, g62, uZ, OKS_congr u80 c0 c2 (h.2.2.2.2.1 (τ 79 4 - 1) (by omega) (by omega)), fun i i0 i1 => ?_, SOK_eq (u 83 (by omega) (by omega)) (u 82 (by omega) (by omega)) h.2.2.2.2.2⟩
  rotate_left
  · rw [u794] at i1
    rw [u 81 (by omega) (by omega)]; exact h.2.2.2.2.1 i i0 (by omega)
  refine ⟨?_, ⟨?_, ?_, ?_, fun i i0 i1 => ?_⟩, ⟨?_, ?_, ?_, ?_, ?_⟩, ⟨?_, ?_, ?_⟩, XG_0 g62, ⟨?_, ?_, ?_, ?_, ?_, ?_⟩, ?_⟩
  · refine RX_congrA (A := fun j => τ 81 ((τ 79 4 - 1) * 455 + j)) u80 c0 c1 c2 ?_
    refine RX_congr (σ := σ3) (fun n h1 h2 => by rw [e4, zU_n (by omega)]) (cp _ c0 c1 c2 ?_)
    exact RX_congr (fun n h1 h2 => f2 n (by omega)) (hH.2.2.2 (τ 79 4 - 1) (by omega) (by omega))
  · rw [g54, e22, u794]
  · rw [f4 55 (by omega) (by omega) (by omega)]; exact hH.2.1
  · rw [f4 55 (by omega) (by omega) (by omega)]; exact hH.2.2.1
  · rw [u794] at i1
    rw [f4 55 (by omega) (by omega) (by omega), u 81 (by omega) (by omega)]
    have hbi := hH.2.1 i i0 (by omega)
    exact RX_congr (fun n h1 h2 => f4 n (by omega) (by omega) (by omega)) (hH.2.2.2 i i0 (by omega))
  · rw [f4 56 (by omega) (by omega) (by omega)]; exact hS.1
  · rw [f4 56 (by omega) (by omega) (by omega)]; exact hS.2.1
  · rw [f4 57 (by omega) (by omega) (by omega), u 83 (by omega) (by omega)]; exact hS.2.2.1
  · rw [u 83 (by omega) (by omega), u 82 (by omega) (by omega)]; exact fun q => RX_congr (fun n h1 h2 => f4 n (by omega) (by omega) (by omega)) (hS.2.2.2.1 q)
  · rw [u 83 (by omega) (by omega), u 82 (by omega) (by omega)]; exact fun q => RX_congr (fun n h1 h2 => f4 n (by omega) (by omega) (by omega)) (hS.2.2.2.2 q)
  · rw [g54, e2, zU_j (by omega), u79 5 (by omega)]; exact hM.1
  · rw [f4 58 (by omega) (by omega) (by omega), u79 7 (by omega)]; exact hM.2.1
  · rw [f4 59 (by omega) (by omega) (by omega), u79 7 (by omega), u 84 (by omega) (by omega)]; exact hM.2.2
  · exact OKA_congr u80 hOK
  · rw [u794]; omega
  · intro i i0 i1
    rw [u794] at i1
    rw [u 81 (by omega) (by omega)]; exact hT.2.2.1 i i0 (by omega)
  · rw [u 83 (by omega) (by omega), u 82 (by omega) (by omega)]; exact hT.2.2.2.1
  · rw [u79 7 (by omega)]; exact hT.2.2.2.2.1
  · rw [u79 7 (by omega), u 84 (by omega) (by omega)]; exact hT.2.2.2.2.2
  · rw [g54, e2, zU_j (by omega)]; exact hz
theorem Z_save {B : Int} {σ τ : zM} {s : Int} {Q : Int → zM → Prop} (h : Inv B σ τ) (hs : 0 ≤ s ∧ s ≤ 1) (k : ∀ σ1, Inv B σ1 (mSave τ s) → Q (τ 80 0) σ1) : wp_X_save σ s Q := by
  obtain ⟨hR, hH, hS, hM, hG, hT, hz⟩ := h.1
  have ht4 := hT.2.1
  unfold wp_X_save
  rw [X_within, if_pos hs]
  refine ⟨fun _ => ⟨by omega, ?_⟩, fun c => absurd c (by decide)⟩
  have h56 : σ 56 s = 7 + s := by
    rcases (show s = 0 ∨ s = 1 by omega) with rfl | rfl
    · exact hS.1
    · exact hS.2.1
  rw [h56]
  refine ⟨by omega, S_copyFrom (by omega) (by omega) (by omega) (fun σ3 fr cp => ?_)⟩
  refine ⟨by omega, ?_⟩
  intro σ4 e4
  have f4 : ∀ n, (n < 6 * (7 + s).toNat ∨ 6 * (7 + s).toNat + 5 < n) → n ≠ 57 → σ4 n = σ n := fun n h1 h2 => by rw [e4, zU_n h2, fr n h1]
  have r0 : σ4 0 5 = τ 80 0 := by rw [f4 0 (by omega) (by omega)]; exact hR.1.1
  rw [r0]
  have u : ∀ n, n ≠ 82 → n ≠ 83 → mSave τ s n = τ n := fun n h1 h2 => by unfold mSave; rw [zU_n h2, zCp_n h1]
  have u83 : ∀ i, mSave τ s 83 i = if i = s then 1 else τ 83 i := fun i => by unfold mSave; rw [zU_g, zCp_n (by omega)]
  have u82 : ∀ i, mSave τ s 82 i = if s * 455 ≤ i ∧ i < s * 455 + 455 then τ 80 (i - s * 455) else τ 82 i := fun i => by
    unfold mSave
    rw [zU_n (by omega), zCp_g]
    by_cases hi : s * 455 ≤ i ∧ i < s * 455 + 455
    · rw [if_pos hi, if_pos hi, Int.zero_add]
    · rw [if_neg hi, if_neg hi]
  have v57 : ∀ i, σ4 57 i = if i = s then 1 else σ 57 i := fun i => by rw [e4, zU_g, fr 57 (by omega)]
  obtain ⟨c0, c1, c2⟩ := OKA_cnt hT.1
  have slot : ∀ q : Int, 0 ≤ q → q ≤ 1 → (τ 83 q = 1 → RX σ (7 + q).toNat (fun j => τ 82 (q * 455 + j))) → mSave τ s 83 q = 1 → RX σ4 (7 + q).toNat (fun j => mSave τ s 82 (q * 455 + j)) := by
    intro q q0 q1 ho he
    by_cases hq : q = s
    · subst hq
      refine RX_congrA (A := τ 80) (fun i i0 i1 => ?_) c0 c1 c2 (RX_congr (σ := σ3) (fun n h1 h2 => by rw [e4, zU_n (by omega)]) (cp _ c0 c1 c2 hR))
      rw [u82, if_pos (by omega)]; congr 1; omega
    · rw [u83, if_neg hq] at he
      have := ho he
      obtain ⟨d0, d1, d2⟩ := OKA_cnt ((hT.2.2.2.1 q q0 (by omega)).2 he)
      refine RX_congrA (A := fun j => τ 82 (q * 455 + j)) (fun i i0 i1 => ?_) d0 d1 d2 (RX_congr (fun n h1 h2 => f4 n (by omega) (by omega)) this)
      rw [u82, if_neg (by omega)]
  have e80 : mSave τ s 80 = τ 80 := u 80 (by omega) (by omega)
  refine k σ4 ⟨?_, by rw [f4 62 (by omega) (by omega)]; exact h.2.1, fun i hi => by rw [e80]; exact h.2.2.1 i hi, by rw [e80]; exact h.2.2.2.1, HOK_eq (by rw [u 79 (by omega) (by omega)]) (u 81 (by omega) (by omega)) h.2.2.2.2.1, fun q q0 q1 he => ?_⟩
  rotate_left
  · by_cases hq : q = s
    · subst hq
      refine OKS_congr (A := τ 80) (fun i i0 i1 => ?_) c0 c2 h.2.2.2.1
      rw [u82, if_pos (by omega)]; congr 1; omega
    · rw [u83, if_neg hq] at he
      obtain ⟨d0, d1, d2⟩ := OKA_cnt ((hT.2.2.2.1 q q0 (by omega)).2 he)
      refine OKS_congr (A := fun j => τ 82 (q * 455 + j)) (fun i i0 i1 => ?_) d0 d2 (h.2.2.2.2.2 q q0 q1 he)
      rw [u82, if_neg (by omega)]
  refine ⟨?_, ⟨?_, ?_, ?_, fun i i0 i1 => ?_⟩, ⟨?_, ?_, fun q q0 q1 => ?_, ?_, ?_⟩, ⟨?_, ?_, ?_⟩, ?_, ⟨?_, ?_, ?_, fun q q0 q1 => ⟨?_, fun he => ?_⟩, ?_, ?_⟩, ?_⟩
  · rw [u 80 (by omega) (by omega)]; exact RX_congr (fun n h1 h2 => f4 n (by omega) (by omega)) hR
  · rw [f4 54 (by omega) (by omega), u 79 (by omega) (by omega)]; exact hH.1
  · rw [f4 55 (by omega) (by omega)]; exact hH.2.1
  · rw [f4 55 (by omega) (by omega)]; exact hH.2.2.1
  · rw [u 79 (by omega) (by omega)] at i1
    rw [f4 55 (by omega) (by omega), u 81 (by omega) (by omega)]
    have hbi := hH.2.1 i i0 (by omega)
    exact RX_congr (fun n h1 h2 => f4 n (by omega) (by omega)) (hH.2.2.2 i i0 (by omega))
  · rw [f4 56 (by omega) (by omega)]; exact hS.1
  · rw [f4 56 (by omega) (by omega)]; exact hS.2.1
  · rw [v57, u83]
    by_cases hq : q = s
    · rw [if_pos hq, if_pos hq]
    · rw [if_neg hq, if_neg hq]; exact hS.2.2.1 q q0 q1
  · exact slot 0 (by omega) (by omega) hS.2.2.2.1
  · exact slot 1 (by omega) (by omega) hS.2.2.2.2
  · rw [f4 54 (by omega) (by omega), u 79 (by omega) (by omega)]; exact hM.1
  · rw [f4 58 (by omega) (by omega), u 79 (by omega) (by omega)]; exact hM.2.1
  · rw [f4 59 (by omega) (by omega), u 79 (by omega) (by omega), u 84 (by omega) (by omega)]; exact hM.2.2
  · exact XG_eq (by rw [f4 62 (by omega) (by omega)]) (f4 63 (by omega) (by omega)) (u 80 (by omega) (by omega)) hG
  · rw [u 80 (by omega) (by omega)]; exact hT.1
  · rw [u 79 (by omega) (by omega)]; exact hT.2.1
  · rw [u 79 (by omega) (by omega), u 81 (by omega) (by omega)]; exact hT.2.2.1
  · rw [u83]
    split
    · exact Or.inr rfl
    · exact (hT.2.2.2.1 q q0 q1).1
  · by_cases hq : q = s
    · subst hq
      refine OKA_congr (A := τ 80) (fun i i0 i1 => ?_) hT.1
      rw [u82, if_pos (by omega)]; congr 1; omega
    · rw [u83, if_neg hq] at he
      refine OKA_congr (A := fun j => τ 82 (q * 455 + j)) (fun i i0 i1 => ?_) ((hT.2.2.2.1 q q0 q1).2 he)
      rw [u82, if_neg (by omega)]
  · rw [u 79 (by omega) (by omega)]; exact hT.2.2.2.2.1
  · rw [u 79 (by omega) (by omega), u 84 (by omega) (by omega)]; exact hT.2.2.2.2.2
  · rw [f4 54 (by omega) (by omega)]; exact hz
theorem Z_restore {B : Int} {σ τ : zM} {s : Int} {Q : Int → zM → Prop} (h : Inv B σ τ) (hs : 0 ≤ s ∧ s ≤ 1) (hs1 : τ 83 s = 1) (k : ∀ σ1 τ1, Inv B σ1 τ1 → (∀ i : Int, 0 ≤ i → i < 455 → τ1 80 i = τ 82 (s * 455 + i)) → Q (τ 82 (s * 455 + 0)) σ1) : wp_X_restore σ s Q := by
  have hS := h.1.2.2.1
  have hT := h.1.2.2.2.2.2.1
  have h57 := hS.2.2.1 s hs.1 (by omega)
  unfold wp_X_restore
  rw [X_within, if_pos hs]
  refine ⟨fun c => absurd c (by decide), fun _ => ⟨by omega, ?_⟩⟩
  rw [h57, hs1]
  refine ⟨fun c => ?_, fun c => absurd c (by decide)⟩
  refine X_remember h.1 (fun σ1 x fr g0 => ?_)
  have h56 : σ1 56 s = 7 + s := by
    rcases (show s = 0 ∨ s = 1 by omega) with rfl | rfl
    · exact x.2.2.1.1
    · exact x.2.2.1.2.1
  have q83 : mRec τ 83 = τ 83 := mRec_n (by omega) (by omega)
  have q82 : mRec τ 82 = τ 82 := mRec_n (by omega) (by omega)
  have xs : RX σ1 (7 + s).toNat (fun j => τ 82 (s * 455 + j)) := by
    rcases (show s = 0 ∨ s = 1 by omega) with rfl | rfl
    · have := x.2.2.1.2.2.2.1
      rw [q83, q82] at this; exact this hs1
    · have := x.2.2.1.2.2.2.2
      rw [q83, q82] at this; exact this hs1
  have hOK := (hT.2.2.2.1 s hs.1 (by omega)).2 hs1
  obtain ⟨c0, c1, c2⟩ := OKA_cnt hOK
  rw [h56]
  refine ⟨by omega, by omega, S_copyFrom (by omega) (by omega) (by omega) (fun σ3 f3 cp => ?_)⟩
  have hR3 := cp _ c0 c1 c2 xs
  have e5 : σ3 0 5 = τ 82 (s * 455 + 0) := hR3.1.1
  rw [e5]
  have u80 : ∀ i, 0 ≤ i → i < 455 → mRest (mRec τ) s 80 i = τ 82 (s * 455 + i) := fun i i0 i1 => by
    unfold mRest
    rw [zCp_g, if_pos (by omega), q82]; congr 1; omega
  have xx : XRep B 0 σ3 (mRest (mRec τ) s) := XRep_now x g0 (fun n n0 n1 => f3 n (by omega)) (fun n n0 n1 => by unfold mRest; rw [zCp_n n1]) (RX_congrA u80 c0 c1 c2 hR3) (OKA_congr u80 hOK) (Int.le_refl B)
  have hc : Chg τ (mRest (mRec τ) s) := fun n n0 n1 => by unfold mRest; rw [zCp_n n1]
  obtain ⟨i1, i2⟩ := Inv_fin h xx (by rw [f3 62 (by omega)]; exact g0) hc (OKS_congr u80 c0 c2 (h.2.2.2.2.2 s hs.1 (by omega) hs1))
  exact k σ3 _ i1 (fun i i0 i1 => by rw [c80_i i0 i1, u80 i i0 i1])

/-! what there is, as functions of the row -/
def vP (A : Int → Int) (p w : Int) : Int := if w = 3 then sF (fun r => decide (A (27 + 12 * r + 0) = p)) (A 0).toNat else if w = 4 then sF (fun r => decide (A (27 + 12 * r + 1) = p)) (A 0).toNat else if w = 5 then sF (fun r => decide (A (375 + 8 * r + 0) = p)) (A 2).toNat else A (3 + 3 * p + w)
def vR (A : Int → Int) (p w : Int) : Int := if w = 11 then cF (fun r => decide (A (315 + 3 * r + 0) = p)) (A 1).toNat else if w = 12 then A (27 + 12 * p + 11) else if w < 5 then A (27 + 12 * p + w) else if (w - 5) / 2 < A (27 + 12 * p + 4) then A (27 + 12 * p + w) else -6
def vC (A : Int → Int) (p w : Int) : Int := A (315 + 3 * p + w)
def vT (A : Int → Int) (p w : Int) : Int := if 0 ≤ p ∧ p < A 2 then A (375 + 8 * p + w) else -1
section RD
variable {σ : zM} {A : Int → Int} {B : Int} {Q : Int → Prop}
theorem R_ofPlace (h : RX σ 0 A) (hA : OKA A B) {p w : Int} (p0 : 0 ≤ p) (p1 : p < 8) (w0 : 0 ≤ w) (w1 : w < 6) (k : Q (vP A p w)) : wp_X_ofPlace σ p w Q := by
  have h1 : 0 ≤ p ∧ p ≤ 7 := ⟨p0, by omega⟩
  have h2 : 0 ≤ w ∧ w ≤ 5 := ⟨w0, by omega⟩
  unfold vP at k
  unfold wp_X_ofPlace
  simp only [X_isPlace, X_within, zIf1, h1, h2, true_and, not_true, not_false_eq_true, false_implies, true_implies, and_true, and_self]
  refine ⟨fun w3 => ⟨fun w4 => ⟨fun w5 => ?_, fun w5 => ?_⟩, fun w4 => ?_⟩, fun w3 => ?_⟩
  · rw [S_ofRooms' h h1.1 (by omega) h2.1 (by omega)]
    rw [if_neg w3, if_neg w4, if_neg w5] at k; exact k
  · rw [if_neg w3, if_neg w4, if_pos w5] at k
    exact S_travellersAt h hA k
  · rw [if_neg w3, if_pos w4] at k
    exact S_roadsWith h hA (by omega) (by omega) k
  · rw [if_pos w3] at k
    exact S_roadsWith h hA (by omega) (by omega) k
theorem R_ofRoad (h : RX σ 0 A) (hA : OKA A B) {p w : Int} (p0 : 0 ≤ p) (p1 : p < A 0) (w0 : 0 ≤ w) (w1 : w < 13) (k : Q (vR A p w)) : wp_X_ofRoad σ p w Q := by
  have bb := hA.1
  have e5 : σ 0 5 = A 0 := h.1.1
  have h1 : 0 ≤ p ∧ p < A 0 := ⟨p0, p1⟩
  have h2 : 0 ≤ w ∧ w ≤ 12 := ⟨w0, by omega⟩
  unfold vR at k
  unfold wp_X_ofRoad
  rw [S_hasRoad]
  simp only [X_within, e5, zIf1, h1, h2, true_and, not_true, not_false_eq_true, false_implies, true_implies, and_true, and_self]
  have hr := h.2.2.1 p h1.1 h1.2
  have ho := (hA.2.2.2.2.1 p h1.1 h1.2).2.2.2.2.1
  refine ⟨fun w11 => ⟨fun w12 => ?_, fun w12 => ⟨by omega, ?_⟩⟩, fun w11 => ?_⟩
  · rw [if_neg w11, if_neg w12] at k
    rw [S_ofRoads (by omega) (by omega)]
    by_cases w5 : w < 5
    · rw [if_pos w5] at k
      rw [hr.1 w h2.1 w5]; exact k
    · rw [if_neg w5] at k
      have hs := hr.2.1 ((w - 5) / 2) (by omega) (by omega)
      have hw : w = 5 + 2 * ((w - 5) / 2) ∨ w = 5 + 2 * ((w - 5) / 2) + 1 := by omega
      have e : σ 2 (p * 11 + w) = if (w - 5) / 2 < A (27 + 12 * p + 4) then A (27 + 12 * p + w) else -6 := by
        rcases hw with hw | hw
        · rw [show p * 11 + w = p * 11 + 5 + 2 * ((w - 5) / 2) by omega, show 27 + 12 * p + w = 27 + 12 * p + (5 + 2 * ((w - 5) / 2)) by omega]; exact hs.1
        · rw [show p * 11 + w = p * 11 + 5 + 2 * ((w - 5) / 2) + 1 by omega, show 27 + 12 * p + w = 27 + 12 * p + (5 + 2 * ((w - 5) / 2) + 1) by omega]; exact hs.2
      rw [e]; exact k
  · rw [if_neg w11, if_pos w12] at k
    rw [hr.2.2]; exact k
  · rw [if_pos w11] at k
    exact S_closuresOf h hA k
theorem R_ofClosure (h : RX σ 0 A) (hA : OKA A B) {p w : Int} (p0 : 0 ≤ p) (p1 : p < A 1) (w0 : 0 ≤ w) (w1 : w < 3) (k : Q (vC A p w)) : wp_X_ofClosure σ p w Q := by
  have bb := hA.2.1
  have e6 : σ 0 6 = A 1 := h.1.2.1
  have h1 : 0 ≤ p ∧ p < A 1 := ⟨p0, p1⟩
  have h2 : 0 ≤ w ∧ w ≤ 2 := ⟨w0, by omega⟩
  unfold vC at k
  unfold wp_X_ofClosure
  rw [S_hasClosure]
  simp only [X_within, e6, zIf1, h1, h2, true_and, not_true, not_false_eq_true, false_implies, true_implies, and_true, and_self]
  rw [S_ofClosures (by omega) (by omega), RX_clo h p0 p1 w0 w1]; exact k
theorem R_ofTraveller (h : RX σ 0 A) (hA : OKA A B) {p w : Int} (w0 : 0 ≤ w) (w1 : w < 8) (k : Q (vT A p w)) : wp_X_ofTraveller σ p w Q := by
  have bb := hA.2.2.1
  have e7 : σ 0 7 = A 2 := h.1.2.2
  have h2 : 0 ≤ w ∧ w ≤ 7 := ⟨w0, by omega⟩
  unfold vT at k
  by_cases h1 : 0 ≤ p ∧ p < A 2
  rotate_left
  · rw [if_neg h1] at k
    simp [wp_X_ofTraveller, S_hasTraveller, e7, h1, k]
  rw [if_pos h1] at k
  unfold wp_X_ofTraveller
  rw [S_hasTraveller]
  simp only [X_within, e7, zIf1, h1, h2, true_and, not_true, not_false_eq_true, false_implies, true_implies, and_true, and_self]
  rw [S_ofT' h h1.1 h1.2 bb.2 w0 w1]; exact k
theorem R_cnt (h : RX σ 0 A) {w : Int} (w0 : 0 ≤ w) (w1 : w < 3) (k : Q (A w)) : wp_X_count σ w Q := by
  obtain ⟨a0, a1, a2⟩ := h.1
  have b0 : σ 0 5 = A 0 := a0
  have b1 : σ 0 6 = A 1 := a1
  have b2 : σ 0 7 = A 2 := a2
  unfold wp_X_count
  rw [b0, b1, b2]
  refine ⟨?_, ?_, ?_, fun c => by omega, fun c => by omega, fun c => by omega, fun c => by omega⟩
  · rintro rfl; exact k
  · rintro rfl; exact k
  · rintro rfl; exact k
theorem R_rsn {z : Int} {τ : zM} (h : XRep B z σ τ) (k : Q (τ 79 5)) : wp_X_count σ 3 Q := by
  have r5 : σ 54 5 = τ 79 5 := h.2.2.2.1.1
  unfold wp_X_count
  rw [r5]
  exact ⟨fun c => by omega, fun c => by omega, fun c => by omega, fun _ => k, fun c => by omega, fun c => by omega, fun c => by omega⟩
theorem R_his {z : Int} {τ : zM} (h : XRep B z σ τ) (k : Q (τ 79 4)) : wp_X_count σ 5 Q := by
  have r2 : σ 54 2 = τ 79 4 := h.2.1.1
  unfold wp_X_count
  rw [r2]
  exact ⟨fun c => by omega, fun c => by omega, fun c => by omega, fun c => by omega, fun c => by omega, fun _ => k, fun c => by omega⟩
theorem R_whyShut (h : RX σ 0 A) (hA : OKA A B) {p w : Int} (p0 : 0 ≤ p) (p1 : p < A 0) (w0 : 0 ≤ w) (w1 : w ≤ 2880) (k : Q (why A p w)) : wp_X_whyShut σ p w Q := by
  have e5 : σ 0 5 = A 0 := h.1.1
  have h1 : 0 ≤ p ∧ p < A 0 := ⟨p0, p1⟩
  have h2 : 0 ≤ w ∧ w ≤ 2880 := ⟨w0, w1⟩
  unfold wp_X_whyShut
  rw [S_hasRoad]
  simp only [X_within, e5, zIf1, h1, h2, true_and, not_true, not_false_eq_true, false_implies, true_implies, and_true, and_self]
  exact S_whyNoEntry h hA p0 p1 w0 w1 k
def rCan (A : Int → Int) (v : Int) : Int := if 0 ≤ v ∧ v < A 2 then sL A v else -1
theorem R_canStay (h : RX σ 0 A) (hA : OKA A B) (v : Int) (k : Q (rCan A v)) : wp_X_canStay σ v Q := by
  have e7 : σ 0 7 = A 2 := h.1.2.2
  unfold rCan at k
  by_cases h1 : 0 ≤ v ∧ v < A 2
  rotate_left
  · rw [if_neg h1] at k
    simp [wp_X_canStay, S_hasTraveller, e7, h1, k]
  rw [if_pos h1] at k
  unfold wp_X_canStay
  simp only [S_hasTraveller, e7, h1, zIf1, true_and, not_true, not_false_eq_true, false_implies, true_implies, and_true, and_self]
  exact S_stayLeft h hA h1.1 h1.2 k
theorem rCan_rg (hA : OKA A B) (v : Int) : -1 ≤ rCan A v ∧ rCan A v ≤ 2880 := by
  unfold rCan
  by_cases h1 : 0 ≤ v ∧ v < A 2
  · rw [if_pos h1]
    have := sL_rg hA h1.1 h1.2
    have ht := (hA.2.2.2.2.2.2 v h1.1 h1.2).2.1
    omega
  · rw [if_neg h1]; omega
/-- a traveller comes to where it is at its own time -/
theorem R_arrives {Q : Int → zM → Prop} (h : RX σ 0 A) (hA : OKA A B) {v : Int} (v0 : 0 ≤ v) (v1 : v < A 2) (k : Q (A (375 + 8 * v + 1)) σ) : wp_X_arrives σ v (A (375 + 8 * v + 0)) Q := by
  have e7 : σ 0 7 = A 2 := h.1.2.2
  have h1 : 0 ≤ v ∧ v < A 2 := ⟨v0, v1⟩
  have b2 := hA.2.2.1
  have ht := (hA.2.2.2.2.2.2 v v0 v1).1
  have h2 : 0 ≤ A (375 + 8 * v + 0) ∧ A (375 + 8 * v + 0) ≤ 7 := ⟨ht.1, by omega⟩
  unfold wp_X_arrives
  simp only [S_hasTraveller, X_isPlace, e7, h1, h2, zIf1, true_and, not_true, not_false_eq_true, false_implies, true_implies, and_true, and_self]
  rw [S_ofT' h v0 v1 b2.2 (by omega) (by omega), S_ofT' h v0 v1 b2.2 (by omega) (by omega)]
  exact ⟨fun c => absurd rfl c, fun _ => k⟩
end RD
