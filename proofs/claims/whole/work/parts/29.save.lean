/-! undo, save, restore -/
theorem OKA_of_copy {A A' : Int → Int} {B : Int} (e : ∀ i : Int, 0 ≤ i → i < 455 → A' i = A i) (h : OKA A B) : OKA A' B := OKA_congr e h
def mUndo (τ : zM) : zM := zCp (zU τ 79 4 (τ 79 4 - 1)) 81 80 ((τ 79 4 - 1) * 455) 0 455
def mSave (τ : zM) (s : Int) : zM := zU (zCp τ 80 82 0 (s * 455) 455) 83 s 1
def mRest (τ : zM) (s : Int) : zM := zCp τ 82 80 (s * 455) 0 455
theorem Fr_mUndo {x y : zM} (h : Fr x y) : Fr (mUndo x) (mUndo y) := by
  unfold mUndo
  rw [h 79 (by omega)]
  exact Fr_zCp2 (Fr_zU2 h) (by omega)
theorem Fr_mSave {x y : zM} {s : Int} (h : Fr x y) : Fr (mSave x s) (mSave y s) := Fr_zU2 (Fr_zCp2 h (by omega))
theorem Fr_mRest {x y : zM} {s : Int} (h : Fr x y) : Fr (mRest x s) (mRest y s) := Fr_zCp2 h (by omega)
theorem FrM_mUndo {x : zM} : FrM x (mUndo x) := fun n hn => by unfold mUndo; rw [zCp_n (by omega), zU_n (by omega)]
theorem FrM_mSave {x : zM} {s : Int} : FrM x (mSave x s) := fun n hn => by unfold mSave; rw [zU_n (by omega), zCp_n (by omega)]
theorem FrM_mRest {x : zM} {s : Int} : FrM x (mRest x s) := fun n hn => by unfold mRest; rw [zCp_n (by omega)]
theorem M_undo_ok {σ : zM} {Q : Int → zM → Prop} (h0 : 0 < σ 79 4) (h1 : σ 79 4 ≤ 6) (k : Q (σ 79 4 - 1) (mUndo σ)) : wp_M_undo σ Q := by
  unfold wp_M_undo
  refine ⟨fun _ => ⟨zRi (by omega) (by omega), ?_⟩, fun c => by omega⟩
  intro σ1 e1
  unfold mUndo at k
  rw [← e1] at k
  have e14 : σ1 79 4 = σ 79 4 - 1 := by rw [e1, zU_s]
  refine zFor (fun σ' v => 0 ≤ v ∧ σ' = zCp σ1 81 80 ((σ 79 4 - 1) * 455) 0 v) 455 ?_ σ1 0 ⟨by omega, (zCp_0 _ _ _ _ _).symm⟩ (by omega)
  intro m σ' v hI hv ih
  obtain ⟨v0, e⟩ := hI
  have e4 : σ' 79 4 = σ 79 4 - 1 := by rw [e, zCp_n (by omega), e14]
  rw [wp_M_undo_L22, e4]
  refine ⟨fun c => ?_, fun c => ⟨by omega, by omega, fun σ5 e5 => ⟨zRi (by omega) (by omega), ih σ5 ⟨by omega, ?_⟩ (by omega)⟩⟩⟩
  · rw [e, show v = 455 by omega]; exact k
  · have := zCp_s σ1 (a := 81) (b := 80) (s := (σ 79 4 - 1) * 455) (d := 0) v0 (Or.inl (by omega))
    rw [e5, e, ← this, Int.zero_add]
theorem M_save_ok {σ : zM} {s : Int} {Q : Int → zM → Prop} (hs : 0 ≤ s ∧ s ≤ 1) (k : Q (σ 80 0) (mSave σ s)) : wp_M_save σ s Q := by
  unfold wp_M_save
  rw [M_isIn, if_pos hs]
  refine ⟨fun _ => ?_, fun c => absurd c (by decide)⟩
  refine zFor (fun σ' v => 0 ≤ v ∧ σ' = zCp σ 80 82 0 (s * 455) v) 455 ?_ σ 0 ⟨by omega, (zCp_0 _ _ _ _ _).symm⟩ (by omega)
  intro m σ' v hI hv ih
  obtain ⟨v0, e⟩ := hI
  rw [wp_M_save_L13]
  refine ⟨fun c => ⟨by omega, ?_⟩, fun c => ⟨by omega, by omega, fun σ5 e5 => ⟨zRi (by omega) (by omega), ih σ5 ⟨by omega, ?_⟩ (by omega)⟩⟩⟩
  · intro σ5 e5
    have e80 : σ5 80 0 = σ 80 0 := by rw [e5, zU_n (by omega), e, zCp_n (by omega)]
    rw [e80, e5, e, show v = 455 by omega]; exact k
  · have := zCp_s σ (a := 80) (b := 82) (s := 0) (d := s * 455) v0 (Or.inl (by omega))
    rw [e5, e, ← this, Int.zero_add]
theorem M_restore_ok {σ : zM} {s : Int} {Q : Int → zM → Prop} (h4 : 0 ≤ σ 79 4 ∧ σ 79 4 ≤ 6) (hs : 0 ≤ s ∧ s ≤ 1) (hv : ¬ σ 83 s = 0) (k : Q (σ 82 (s * 455 + 0)) (mRest (mRec σ) s)) : wp_M_restore σ s Q := by
  unfold wp_M_restore
  rw [M_isIn, if_pos hs]
  refine ⟨fun c => absurd c (by decide), fun _ => ⟨by omega, fun _ => ?_, fun c => absurd c hv⟩⟩
  refine M_records h4.1 h4.2 ?_
  refine zFor (fun σ' v => 0 ≤ v ∧ σ' = zCp (mRec σ) 82 80 (s * 455) 0 v) 455 ?_ (mRec σ) 0 ⟨by omega, (zCp_0 _ _ _ _ _).symm⟩ (by omega)
  intro m σ' v hI hv ih
  obtain ⟨v0, e⟩ := hI
  rw [wp_M_restore_L26]
  refine ⟨fun c => ?_, fun c => ⟨by omega, by omega, fun σ5 e5 => ⟨zRi (by omega) (by omega), ih σ5 ⟨by omega, ?_⟩ (by omega)⟩⟩⟩
  · have e80 : σ' 80 0 = σ 82 (s * 455 + 0) := by
      rw [e, zCp_g, if_pos (by omega), mRec_n (by omega) (by omega)]; congr 1
    rw [e80, e, show v = 455 by omega]; exact k
  · have := zCp_s (mRec σ) (a := 82) (b := 80) (s := s * 455) (d := 0) v0 (Or.inl (by omega))
    rw [e5, e, ← this, Int.zero_add]
theorem op_undo {B : Int} {σ : zM} (h : Rel B σ) : wp_X_undo σ (fun r1 σ1 => wp_M_undo σ1 (fun r' σ2 => r1 = r' ∧ Rel B σ2)) := by
  obtain ⟨hR, hH, hS, hM, hG, hT, hz⟩ := h
  have h : Rel B σ := ⟨hR, hH, hS, hM, hG, hT, hz⟩
  have ht4 := hT.2.1
  unfold wp_X_undo
  rw [hH.1]
  refine ⟨fun c => ⟨zRi (by omega) (by omega), ?_⟩, fun c => ?_⟩
  rotate_left
  · have c0 : σ 79 4 = 0 := by omega
    unfold wp_M_undo
    exact ⟨fun cc => absurd c0 cc, fun _ => ⟨rfl, h⟩⟩
  intro σ2 e2
  have e22 : σ2 54 2 = σ 79 4 - 1 := by rw [e2, zU_s]
  have f2 : ∀ n, n ≠ 54 → σ2 n = σ n := fun n hn => by rw [e2, zU_n hn]
  have hb := hH.2.1 (σ 79 4 - 1) (by omega) (by omega)
  rw [e22, f2 55 (by omega)]
  refine ⟨by omega, by omega, S_copyFrom (by omega) (by omega) (by omega) (fun σ3 fr cp => ?_)⟩
  intro σ4 e4
  have f4 : ∀ n, 6 ≤ n → n ≠ 54 → n ≠ 62 → σ4 n = σ n := fun n h6 h54 h62 => by rw [e4, zU_n h62, fr n (by omega), f2 n h54]
  have g54 : σ4 54 = σ2 54 := by rw [e4, zU_n (by omega), fr 54 (by omega)]
  have g62 : σ4 62 1 = 0 := by rw [e4, zU_s]
  rw [g54, e22]
  have fr4 : Fr σ σ4 := fun n hn => f4 n (by omega) (by omega) (by omega)
  refine M_undo_ok (by rw [fr4 79 (by omega)]; exact c) (by rw [fr4 79 (by omega)]; exact ht4.2) ⟨by rw [fr4 79 (by omega)], ?_⟩
  refine Rel_fin (τ := mUndo σ) (σ1 := σ4) ?_ FrM_mUndo (Fr_mUndo fr4)
  have u79 : ∀ k, k ≠ 4 → mUndo σ 79 k = σ 79 k := fun k hk => by unfold mUndo; rw [zCp_n (by omega), zU_j hk]
  have u794 : mUndo σ 79 4 = σ 79 4 - 1 := by unfold mUndo; rw [zCp_n (by omega), zU_s]
  have u : ∀ n, n ≠ 79 → n ≠ 80 → mUndo σ n = σ n := fun n h1 h2 => by unfold mUndo; rw [zCp_n h2, zU_n h1]
  have u80 : ∀ i, 0 ≤ i → i < 455 → mUndo σ 80 i = σ 81 ((σ 79 4 - 1) * 455 + i) := fun i i0 i1 => by
    unfold mUndo
    rw [zCp_g, if_pos (by omega), zU_n (by omega)]; congr 1; omega
  have hOK := hT.2.2.1 (σ 79 4 - 1) (by omega) (by omega)
  obtain ⟨c0, c1, c2⟩ := OKA_cnt hOK
  refine ⟨?_, ⟨?_, ?_, ?_, fun i i0 i1 => ?_⟩, ⟨?_, ?_, ?_, ?_, ?_⟩, ⟨?_, ?_, ?_⟩, XG_0 g62, ⟨?_, ?_, ?_, ?_, ?_, ?_⟩, ?_⟩
  · refine RX_congrA (A := fun j => σ 81 ((σ 79 4 - 1) * 455 + j)) u80 c0 c1 c2 ?_
    refine RX_congr (σ := σ3) (fun n h1 h2 => by rw [e4, zU_n (by omega)]) (cp _ c0 c1 c2 ?_)
    exact RX_congr (fun n h1 h2 => f2 n (by omega)) (hH.2.2.2 (σ 79 4 - 1) (by omega) (by omega))
  · rw [g54, e22, u794]
  · rw [f4 55 (by omega) (by omega) (by omega)]; exact hH.2.1
  · rw [f4 55 (by omega) (by omega) (by omega)]; exact hH.2.2.1
  · rw [u794] at i1
    rw [f4 55 (by omega) (by omega) (by omega), u 81 (by omega) (by omega)]
    have hbi := hH.2.1 i i0 (by omega)
    exact RX_congr (fun n h1 h2 => f4 n (by omega) (by omega) (by omega)) (hH.2.2.2 i i0 (by omega))
  · rw [f4 56 (by omega) (by omega) (by omega)]; exact hS.1
  · rw [f4 56 (by omega) (by omega) (by omega)]; exact hS.2.1
  · rw [f4 57 (by omega) (by omega) (by omega), u 83 (by omega) (by omega)]; exact hS.2.2.1
  · rw [u 83 (by omega) (by omega), u 82 (by omega) (by omega)]; exact fun q => RX_congr (fun n h1 h2 => f4 n (by omega) (by omega) (by omega)) (hS.2.2.2.1 q)
  · rw [u 83 (by omega) (by omega), u 82 (by omega) (by omega)]; exact fun q => RX_congr (fun n h1 h2 => f4 n (by omega) (by omega) (by omega)) (hS.2.2.2.2 q)
  · rw [g54, e2, zU_j (by omega), u79 5 (by omega)]; exact hM.1
  · rw [f4 58 (by omega) (by omega) (by omega), u79 7 (by omega)]; exact hM.2.1
  · rw [f4 59 (by omega) (by omega) (by omega), u79 7 (by omega), u 84 (by omega) (by omega)]; exact hM.2.2
  · exact OKA_congr u80 hOK
  · rw [u794]; omega
  · intro i i0 i1
    rw [u794] at i1
    rw [u 81 (by omega) (by omega)]; exact hT.2.2.1 i i0 (by omega)
  · rw [u 83 (by omega) (by omega), u 82 (by omega) (by omega)]; exact hT.2.2.2.1
  · rw [u79 7 (by omega)]; exact hT.2.2.2.2.1
  · rw [u79 7 (by omega), u 84 (by omega) (by omega)]; exact hT.2.2.2.2.2
  · rw [g54, e2, zU_j (by omega)]; exact hz
theorem op_save {B : Int} {σ : zM} (h : Rel B σ) (s : Int) : wp_X_save σ s (fun r1 σ1 => wp_M_save σ1 s (fun r' σ2 => r1 = r' ∧ Rel B σ2)) := by
  obtain ⟨hR, hH, hS, hM, hG, hT, hz⟩ := h
  have h : Rel B σ := ⟨hR, hH, hS, hM, hG, hT, hz⟩
  have ht4 := hT.2.1
  by_cases hs : 0 ≤ s ∧ s ≤ 1
  rotate_left
  · simp [wp_X_save, wp_M_save, X_within, M_isIn, hs, h]
  unfold wp_X_save
  rw [X_within, if_pos hs]
  refine ⟨fun _ => ⟨by omega, ?_⟩, fun c => absurd c (by decide)⟩
  have h56 : σ 56 s = 7 + s := by
    rcases (show s = 0 ∨ s = 1 by omega) with rfl | rfl
    · exact hS.1
    · exact hS.2.1
  rw [h56]
  refine ⟨by omega, S_copyFrom (by omega) (by omega) (by omega) (fun σ3 fr cp => ?_)⟩
  refine ⟨by omega, ?_⟩
  intro σ4 e4
  have f4 : ∀ n, (n < 6 * (7 + s).toNat ∨ 6 * (7 + s).toNat + 5 < n) → n ≠ 57 → σ4 n = σ n := fun n h1 h2 => by rw [e4, zU_n h2, fr n h1]
  have fr4 : Fr σ σ4 := fun n hn => f4 n (by omega) (by omega)
  have r0 : σ4 0 5 = σ 80 0 := by rw [f4 0 (by omega) (by omega)]; exact hR.1.1
  rw [r0]
  refine M_save_ok hs ⟨by rw [fr4 80 (by omega)], ?_⟩
  refine Rel_fin (τ := mSave σ s) (σ1 := σ4) ?_ FrM_mSave (Fr_mSave fr4)
  have u : ∀ n, n ≠ 82 → n ≠ 83 → mSave σ s n = σ n := fun n h1 h2 => by unfold mSave; rw [zU_n h2, zCp_n h1]
  have u83 : ∀ i, mSave σ s 83 i = if i = s then 1 else σ 83 i := fun i => by unfold mSave; rw [zU_g, zCp_n (by omega)]
  have u82 : ∀ i, mSave σ s 82 i = if s * 455 ≤ i ∧ i < s * 455 + 455 then σ 80 (i - s * 455) else σ 82 i := fun i => by
    unfold mSave
    rw [zU_n (by omega), zCp_g]
    by_cases hi : s * 455 ≤ i ∧ i < s * 455 + 455
    · rw [if_pos hi, if_pos hi, Int.zero_add]
    · rw [if_neg hi, if_neg hi]
  have v57 : ∀ i, σ4 57 i = if i = s then 1 else σ 57 i := fun i => by rw [e4, zU_g, fr 57 (by omega)]
  obtain ⟨c0, c1, c2⟩ := OKA_cnt hT.1
  have slot : ∀ q : Int, 0 ≤ q → q ≤ 1 → (σ 83 q = 1 → RX σ (7 + q).toNat (fun j => σ 82 (q * 455 + j))) → mSave σ s 83 q = 1 → RX σ4 (7 + q).toNat (fun j => mSave σ s 82 (q * 455 + j)) := by
    intro q q0 q1 ho he
    by_cases hq : q = s
    · subst hq
      refine RX_congrA (A := σ 80) (fun i i0 i1 => ?_) c0 c1 c2 (RX_congr (σ := σ3) (fun n h1 h2 => by rw [e4, zU_n (by omega)]) (cp _ c0 c1 c2 hR))
      rw [u82, if_pos (by omega)]; congr 1; omega
    · rw [u83, if_neg hq] at he
      have := ho he
      obtain ⟨d0, d1, d2⟩ := OKA_cnt ((hT.2.2.2.1 q q0 (by omega)).2 he)
      refine RX_congrA (A := fun j => σ 82 (q * 455 + j)) (fun i i0 i1 => ?_) d0 d1 d2 (RX_congr (fun n h1 h2 => f4 n (by omega) (by omega)) this)
      rw [u82, if_neg (by omega)]
  refine ⟨?_, ⟨?_, ?_, ?_, fun i i0 i1 => ?_⟩, ⟨?_, ?_, fun q q0 q1 => ?_, ?_, ?_⟩, ⟨?_, ?_, ?_⟩, ?_, ⟨?_, ?_, ?_, fun q q0 q1 => ⟨?_, fun he => ?_⟩, ?_, ?_⟩, ?_⟩
  · rw [u 80 (by omega) (by omega)]; exact RX_congr (fun n h1 h2 => f4 n (by omega) (by omega)) hR
  · rw [f4 54 (by omega) (by omega), u 79 (by omega) (by omega)]; exact hH.1
  · rw [f4 55 (by omega) (by omega)]; exact hH.2.1
  · rw [f4 55 (by omega) (by omega)]; exact hH.2.2.1
  · rw [u 79 (by omega) (by omega)] at i1
    rw [f4 55 (by omega) (by omega), u 81 (by omega) (by omega)]
    have hbi := hH.2.1 i i0 (by omega)
    exact RX_congr (fun n h1 h2 => f4 n (by omega) (by omega)) (hH.2.2.2 i i0 (by omega))
  · rw [f4 56 (by omega) (by omega)]; exact hS.1
  · rw [f4 56 (by omega) (by omega)]; exact hS.2.1
  · rw [v57, u83]
    by_cases hq : q = s
    · rw [if_pos hq, if_pos hq]
    · rw [if_neg hq, if_neg hq]; exact hS.2.2.1 q q0 q1
  · exact slot 0 (by omega) (by omega) hS.2.2.2.1
  · exact slot 1 (by omega) (by omega) hS.2.2.2.2
  · rw [f4 54 (by omega) (by omega), u 79 (by omega) (by omega)]; exact hM.1
  · rw [f4 58 (by omega) (by omega), u 79 (by omega) (by omega)]; exact hM.2.1
  · rw [f4 59 (by omega) (by omega), u 79 (by omega) (by omega), u 84 (by omega) (by omega)]; exact hM.2.2
  · exact XG_eq (by rw [f4 62 (by omega) (by omega)]) (f4 63 (by omega) (by omega)) (u 80 (by omega) (by omega)) hG
  · rw [u 80 (by omega) (by omega)]; exact hT.1
  · rw [u 79 (by omega) (by omega)]; exact hT.2.1
  · rw [u 79 (by omega) (by omega), u 81 (by omega) (by omega)]; exact hT.2.2.1
  · rw [u83]
    split
    · exact Or.inr rfl
    · exact (hT.2.2.2.1 q q0 q1).1
  · by_cases hq : q = s
    · subst hq
      refine OKA_congr (A := σ 80) (fun i i0 i1 => ?_) hT.1
      rw [u82, if_pos (by omega)]; congr 1; omega
    · rw [u83, if_neg hq] at he
      refine OKA_congr (A := fun j => σ 82 (q * 455 + j)) (fun i i0 i1 => ?_) ((hT.2.2.2.1 q q0 q1).2 he)
      rw [u82, if_neg (by omega)]
  · rw [u 79 (by omega) (by omega)]; exact hT.2.2.2.2.1
  · rw [u 79 (by omega) (by omega), u 84 (by omega) (by omega)]; exact hT.2.2.2.2.2
  · rw [f4 54 (by omega) (by omega)]; exact hz
theorem op_restore {B : Int} {σ : zM} (h : Rel B σ) (s : Int) : wp_X_restore σ s (fun r1 σ1 => wp_M_restore σ1 s (fun r' σ2 => r1 = r' ∧ Rel B σ2)) := by
  have hS := h.2.2.1
  have hT := h.2.2.2.2.2.1
  by_cases hs : 0 ≤ s ∧ s ≤ 1
  rotate_left
  · simp [wp_X_restore, wp_M_restore, X_within, M_isIn, hs, h]
  have h57 := hS.2.2.1 s hs.1 (by omega)
  unfold wp_X_restore
  rw [X_within, if_pos hs]
  refine ⟨fun c => absurd c (by decide), fun _ => ⟨by omega, ?_⟩⟩
  rw [h57]
  refine ⟨fun c => ?_, fun c => ?_⟩
  rotate_left
  · show wp_M_restore σ s _
    unfold wp_M_restore
    rw [M_isIn, if_pos hs]
    exact ⟨fun c => absurd c (by decide), fun _ => ⟨by omega, fun cc => absurd c cc, fun _ => ⟨rfl, h⟩⟩⟩
  have hs1 : σ 83 s = 1 := by
    rcases (hT.2.2.2.1 s hs.1 (by omega)).1 with h0 | h1
    · exact absurd h0 c
    · exact h1
  refine X_remember h (fun σ1 x fr g0 => ?_)
  have h56 : σ1 56 s = 7 + s := by
    rcases (show s = 0 ∨ s = 1 by omega) with rfl | rfl
    · exact x.2.2.1.1
    · exact x.2.2.1.2.1
  have q83 : mRec σ 83 = σ 83 := mRec_n (by omega) (by omega)
  have q82 : mRec σ 82 = σ 82 := mRec_n (by omega) (by omega)
  have xs : RX σ1 (7 + s).toNat (fun j => σ 82 (s * 455 + j)) := by
    rcases (show s = 0 ∨ s = 1 by omega) with rfl | rfl
    · have := x.2.2.1.2.2.2.1
      rw [q83, q82] at this; exact this hs1
    · have := x.2.2.1.2.2.2.2
      rw [q83, q82] at this; exact this hs1
  have hOK := (hT.2.2.2.1 s hs.1 (by omega)).2 hs1
  obtain ⟨c0, c1, c2⟩ := OKA_cnt hOK
  rw [h56]
  refine ⟨by omega, by omega, S_copyFrom (by omega) (by omega) (by omega) (fun σ3 f3 cp => ?_)⟩
  have fr3 : Fr σ σ3 := fun n hn => by rw [f3 n (by omega)]; exact fr n hn
  have hR3 := cp _ c0 c1 c2 xs
  have e5 : σ3 0 5 = σ 82 (s * 455 + 0) := hR3.1.1
  rw [e5]
  refine M_restore_ok (by rw [fr3 79 (by omega)]; exact hT.2.1) hs (by rw [fr3 83 (by omega)]; exact c) ⟨by rw [fr3 82 (by omega)], ?_⟩
  refine Rel_fin (τ := mRest (mRec σ) s) (σ1 := σ3) ?_ (FrM_trans (FrM_mRec _) FrM_mRest) (Fr_mRest (Fr_mRec fr3))
  have u80 : ∀ i, 0 ≤ i → i < 455 → mRest (mRec σ) s 80 i = σ 82 (s * 455 + i) := fun i i0 i1 => by
    unfold mRest
    rw [zCp_g, if_pos (by omega), q82]; congr 1; omega
  exact XRep_now x g0 (fun n n0 n1 => f3 n (by omega)) (fun n n0 n1 => by unfold mRest; rw [zCp_n n1]) (RX_congrA u80 c0 c1 c2 hR3) (OKA_congr u80 hOK) (Int.le_refl B)
