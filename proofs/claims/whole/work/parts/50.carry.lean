/-! carrying out -/
theorem XRep_mono {B B' z : Int} {σ τ : zM} (hB : B ≤ B') (h : XRep B z σ τ) : XRep B' z σ τ := ⟨h.1, h.2.1, h.2.2.1, h.2.2.2.1, h.2.2.2.2.1, TOK_mono hB h.2.2.2.2.2.1, h.2.2.2.2.2.2⟩
theorem TEq_mClo {x y : zM} {r f t : Int} (h : TEq x y) : TEq (mClo x r f t) (mClo y r f t) := by
  unfold mClo
  rw [h.1]
  exact TEq_U80 (TEq_U80 (TEq_U80 (TEq_U80 h)))
theorem TEq_mGo {x y : zM} {v r : Int} (h : TEq x y) : TEq (mGo x v r) (mGo y v r) := by
  unfold mGo
  rw [h.1]
  exact TEq_U80 (TEq_U80 (TEq_U80 (TEq_U80 (TEq_U80 (TEq_U80 h)))))
theorem TEq_mSty {x y : zM} {v m : Int} (h : TEq x y) : TEq (mSty x v m) (mSty y v m) := by
  unfold mSty
  rw [h.1]
  exact TEq_U80 (TEq_U80 h)
/-- the reference does the order D too, from every memory like τ: its answer is v, and then it is like τ' -/
def MD (τ : zM) (D : Int → Int) (v : Int) (τ' : zM) : Prop := ∀ ρ (Q : Int → zM → Prop), TEq τ ρ → mReg ρ D → (∀ ρ', TEq τ' ρ' → FrM ρ ρ' → (∀ j, 14 ≤ j → ρ' 79 j = ρ 79 j) → Q v ρ') → wp_M_does ρ Q
theorem zRec1 (τ : zM) : zRec 1 τ = τ := by
  unfold zRec
  rw [if_neg (by decide)]
/-- the pad's part is the same -/
def PEq (τ τ' : zM) : Prop := τ' 84 = τ 84 ∧ τ' 79 = τ 79 ∨ τ' 84 = τ 84 ∧ τ' 79 7 = τ 79 7
theorem X_carryOrder {B : Int} {σ τ : zM} {D : Int → Int} {Q : Int → zM → Prop} (hB : B ≤ 1000000) (h : XRep B 1 σ τ) (g0 : σ 62 1 = 0) (hx : xReg σ D) (hD : oOK D) (kk : ∀ v σ1 τ1, XRep (B + 1) 1 σ1 τ1 → σ1 62 1 = 0 → Fr σ σ1 → MD τ D v τ1 → τ1 84 = τ 84 ∧ τ1 79 7 = τ 79 7 → Q v σ1) : wp_X_carryOrder σ Q := by
  have hA := h.2.2.2.2.2.1.1
  have hM1 : ∀ {σ1 τ1 : zM}, XRep B 1 σ1 τ1 → XRep (B + 1) 1 σ1 τ1 := fun h => XRep_mono (by omega) h
  obtain ⟨x4, x0, x1, x2, x3⟩ := hx
  unfold wp_X_carryOrder
  rw [x4, x0]
  refine ⟨fun c => ?_, fun c => ?_, fun c => ?_, fun c => ?_, fun c => ?_⟩
  · -- go
    rw [x1 (by omega)]
    refine X_go hB (Or.inr rfl) h (D 1) (D 2) (fun hn => ?_) (fun w ok w0 hw σ1 x fr e62 => ?_) (fun ok hw σ1 x fr g1 => ?_)
    · refine kk (-1) σ τ (hM1 h) g0 (Fr_rfl σ) (fun ρ Q' ht hm kq => ?_) ⟨rfl, rfl⟩
      have m15 := hm.1
      have m16 := hm.2.1
      have m17 := hm.2.2.1 (by omega)
      unfold wp_M_does
      rw [m15, m16, m17]
      refine ⟨fun _ => ⟨fun _ => ⟨fun c1 => absurd c c1, fun _ => ?_⟩, fun c1 => by omega⟩, fun c1 => by omega⟩
      rw [← ht.1] at hn hA
      exact M_checksGoing hA (fun _ => ⟨fun c1 => absurd c1 (by decide), fun _ => kq ρ ht (FrM_rfl ρ) (fun _ _ => rfl)⟩) (fun _ ok _ _ => absurd ok hn) (fun ok _ => absurd ok hn)
    · refine kk (-5) σ1 _ (hM1 x) (by rw [e62]; exact g0) fr (fun ρ Q' ht hm kq => ?_) ⟨zU_n (by omega), zU_j (by omega)⟩
      have m15 := hm.1
      have m16 := hm.2.1
      have m17 := hm.2.2.1 (by omega)
      unfold wp_M_does
      rw [m15, m16, m17]
      refine ⟨fun _ => ⟨fun _ => ⟨fun c1 => absurd c c1, fun _ => ?_⟩, fun c1 => by omega⟩, fun c1 => by omega⟩
      rw [← ht.1] at ok hw hA
      refine M_checksGoing hA (fun hn => absurd ok hn) (fun w' _ _ hw' => ⟨fun c1 => absurd c1 (by decide), fun _ => ?_⟩) (fun _ c1 => absurd (hw.symm.trans c1) w0)
      rw [hw] at hw'
      subst hw'
      exact kq _ (TEq_U5 ht) (FrM_U (FrM_rfl ρ) (by omega)) (fun j hj => zU_j (by omega))
    · rw [zRec1] at x
      refine kk _ σ1 _ x g1 fr (fun ρ Q' ht hm kq => ?_) ⟨?_, ?_⟩
      · have m15 := hm.1
        have m16 := hm.2.1
        have m17 := hm.2.2.1 (by omega)
        unfold wp_M_does
        rw [m15, m16, m17]
        refine ⟨fun _ => ⟨fun _ => ⟨fun c1 => absurd c c1, fun _ => ?_⟩, fun c1 => by omega⟩, fun c1 => by omega⟩
        have hA' : OKA (ρ 80) B := by rw [ht.1]; exact hA
        have ok' : goA (ρ 80) (D 1) (D 2) := by rw [ht.1]; exact ok
        have hw' : goW (ρ 80) (D 1) (D 2) = 0 := by rw [ht.1]; exact hw
        refine M_checksGoing hA' (fun hn => absurd ok' hn) (fun w' _ c1 c2 => absurd (c2.symm.trans hw') c1) (fun _ _ => ⟨fun _ => ?_, fun c1 => absurd rfl c1⟩)
        rw [m16, m17]
        refine M_goes hB hA' ok' hw' ?_
        rw [ht.1]
        exact kq _ (TEq_mGo ht) FrM_mGo (fun j _ => by unfold mGo; simp (disch := omega) only [zU_n])
      · unfold mGo; simp (disch := omega) only [zU_n]
      · unfold mGo; simp (disch := omega) only [zU_n]
  · -- spans
    refine X_tellSpans h g0 ⟨x4, x0, x1, x2, x3⟩ hD c (fun hn => ?_) (fun hr hn => ?_) (fun hr hap σ1 x fr g1 => ?_)
    · refine kk (-1) σ τ (hM1 h) g0 (Fr_rfl σ) (fun ρ Q' ht hm kq => ?_) ⟨rfl, rfl⟩
      unfold wp_M_does
      rw [hm.1]
      refine ⟨fun c1 => absurd c c1, fun _ => ?_⟩
      exact M_doesSpans (B := B) (by rw [ht.1]; exact hA) hm hD c (fun _ => kq ρ ht (FrM_rfl ρ) (fun _ _ => rfl)) (fun hr _ => absurd (by rw [ht.1] at hr; exact hr) hn) (fun hr _ => absurd (by rw [ht.1] at hr; exact hr) hn)
    · refine kk (-2) σ τ (hM1 h) g0 (Fr_rfl σ) (fun ρ Q' ht hm kq => ?_) ⟨rfl, rfl⟩
      unfold wp_M_does
      rw [hm.1]
      refine ⟨fun c1 => absurd c c1, fun _ => ?_⟩
      exact M_doesSpans (B := B) (by rw [ht.1]; exact hA) hm hD c (fun c2 => absurd (by rw [ht.1]; exact hr) c2) (fun _ _ => kq ρ ht (FrM_rfl ρ) (fun _ _ => rfl)) (fun _ hap => absurd hap hn)
    · refine kk 0 σ1 _ (hM1 x) g1 fr (fun ρ Q' ht hm kq => ?_) ⟨mTn_n (by omega) _, by rw [mTn_n (by omega)]⟩
      unfold wp_M_does
      rw [hm.1]
      refine ⟨fun c1 => absurd c c1, fun _ => ?_⟩
      exact M_doesSpans (B := B) (by rw [ht.1]; exact hA) hm hD c (fun c2 => absurd (by rw [ht.1]; exact hr) c2) (fun _ hn => absurd hap hn) (fun _ _ => kq _ (TEq_mTn ht _) (fun n hn => mTn_n (by omega) _) (fun j _ => by rw [mTn_n (by omega)]))
  · -- stay
    rw [x1 (by omega)]
    refine X_stay (Or.inr rfl) h (D 1) (D 2) (fun e e0 he => ?_) (fun w hE w0 hw σ1 x fr e62 => ?_) (fun hE hw σ1 x fr g1 => ?_)
    · refine kk e σ τ (hM1 h) g0 (Fr_rfl σ) (fun ρ Q' ht hm kq => ?_) ⟨rfl, rfl⟩
      have m15 := hm.1
      have m16 := hm.2.1
      have m17 := hm.2.2.1 (by omega)
      unfold wp_M_does
      rw [m15, m16, m17]
      refine ⟨fun _ => ⟨fun _ => ⟨fun _ => ?_, fun c1 => by omega⟩, fun c1 => by omega⟩, fun c1 => by omega⟩
      have he' : stE (ρ 80) (D 1) (D 2) = e := by rw [ht.1]; exact he
      refine M_checksStaying (B := B) (by rw [ht.1]; exact hA) (fun e' e0' h' => ⟨fun c1 => absurd c1 e0', fun _ => ?_⟩) (fun _ ok _ _ => absurd (he'.symm.trans ok) e0) (fun ok _ => absurd (he'.symm.trans ok) e0)
      rw [← h', he']
      exact kq ρ ht (FrM_rfl ρ) (fun _ _ => rfl)
    · refine kk (-5) σ1 _ (hM1 x) (by rw [e62]; exact g0) fr (fun ρ Q' ht hm kq => ?_) ⟨zU_n (by omega), zU_j (by omega)⟩
      have m15 := hm.1
      have m16 := hm.2.1
      have m17 := hm.2.2.1 (by omega)
      unfold wp_M_does
      rw [m15, m16, m17]
      refine ⟨fun _ => ⟨fun _ => ⟨fun _ => ?_, fun c1 => by omega⟩, fun c1 => by omega⟩, fun c1 => by omega⟩
      have hE' : stE (ρ 80) (D 1) (D 2) = 0 := by rw [ht.1]; exact hE
      have hw2 : stW (ρ 80) (D 1) (D 2) = w := by rw [ht.1]; exact hw
      refine M_checksStaying (B := B) (by rw [ht.1]; exact hA) (fun e' e0' h' => absurd (h'.symm.trans hE') e0') (fun w' _ _ hw' => ⟨fun c1 => absurd c1 (by decide), fun _ => ?_⟩) (fun _ c1 => absurd (hw2.symm.trans c1) w0)
      rw [hw2] at hw'
      subst hw'
      exact kq _ (TEq_U5 ht) (FrM_U (FrM_rfl ρ) (by omega)) (fun j hj => zU_j (by omega))
    · rw [zRec1] at x
      refine kk _ σ1 _ (hM1 x) g1 fr (fun ρ Q' ht hm kq => ?_) ⟨?_, ?_⟩
      · have m15 := hm.1
        have m16 := hm.2.1
        have m17 := hm.2.2.1 (by omega)
        unfold wp_M_does
        rw [m15, m16, m17]
        refine ⟨fun _ => ⟨fun _ => ⟨fun _ => ?_, fun c1 => by omega⟩, fun c1 => by omega⟩, fun c1 => by omega⟩
        have hA' : OKA (ρ 80) B := by rw [ht.1]; exact hA
        have hE' : stE (ρ 80) (D 1) (D 2) = 0 := by rw [ht.1]; exact hE
        have hw2 : stW (ρ 80) (D 1) (D 2) = 0 := by rw [ht.1]; exact hw
        refine M_checksStaying hA' (fun e' e0' h' => absurd (h'.symm.trans hE') e0') (fun w' _ c1 c2 => absurd (c2.symm.trans hw2) c1) (fun _ _ => ⟨fun _ => ?_, fun c1 => absurd rfl c1⟩)
        rw [m16, m17]
        refine M_stays hA' hE' hw2 ?_
        rw [ht.1]
        exact kq _ (TEq_mSty ht) FrM_mSty (fun j _ => by unfold mSty; simp (disch := omega) only [zU_n])
      · unfold mSty; simp (disch := omega) only [zU_n]
      · unfold mSty; simp (disch := omega) only [zU_n]
  · -- close
    rw [x1 (by omega), x2 c]
    refine X_close (Or.inr rfl) h (D 1) (D 2) (D 3) (fun e e0 he => ?_) (fun he σ1 x fr g1 => ?_)
    · refine kk e σ τ (hM1 h) g0 (Fr_rfl σ) (fun ρ Q' ht hm kq => ?_) ⟨rfl, rfl⟩
      have m15 := hm.1
      have m16 := hm.2.1
      have m17 := hm.2.2.1 (by omega)
      have m18 := hm.2.2.2.1 c
      unfold wp_M_does
      rw [m15, m16, m17, m18]
      refine ⟨fun _ => ⟨fun c1 => absurd c c1, fun _ => ?_⟩, fun c1 => by omega⟩
      refine M_checksClosing (B := B) (by rw [ht.1]; exact hA) ?_
      rw [ht.1, he]
      exact ⟨fun c1 => absurd c1 e0, fun _ => kq ρ ht (FrM_rfl ρ) (fun _ _ => rfl)⟩
    · rw [zRec1] at x
      have b1 := hA.2.1
      have hok := clE_ok he
      refine kk _ σ1 _ (hM1 x) g1 fr (fun ρ Q' ht hm kq => ?_) ⟨?_, ?_⟩
      · have m15 := hm.1
        have m16 := hm.2.1
        have m17 := hm.2.2.1 (by omega)
        have m18 := hm.2.2.2.1 c
        unfold wp_M_does
        rw [m15, m16, m17, m18]
        refine ⟨fun _ => ⟨fun c1 => absurd c c1, fun _ => ?_⟩, fun c1 => by omega⟩
        refine M_checksClosing (B := B) (by rw [ht.1]; exact hA) ?_
        rw [ht.1, he]
        refine ⟨fun _ => ?_, fun c1 => absurd rfl c1⟩
        refine M_closes (by rw [ht.1]; exact b1.1) (by rw [ht.1]; omega) ?_
        rw [ht.1]
        exact kq _ (TEq_mClo ht) FrM_mClo (fun j _ => by unfold mClo; simp (disch := omega) only [zU_n])
      · unfold mClo; simp (disch := omega) only [zU_n]
      · unfold mClo; simp (disch := omega) only [zU_n]
  · have := hD.1
    omega
/-- the reference carries the orders from a on out too -/
def MC (τ : zM) (a d d' : Int) (τ' : zM) : Prop := ∃ n, ∀ ρ (Q : Int → zM → Prop), TEq τ ρ → ρ 79 14 = a → (∀ ρ', TEq τ' ρ' → FrM ρ ρ' → Q d' (zU ρ' 79 7 0)) → wp_M_carryOut_L25 Q n ρ d 1
theorem FrM_T {a b : zM} (h : FrT a b) : FrM a b := fun n hn => h.1 n (by omega) (by omega)
theorem MC_stop {T : Int → Int} {L : Int} {τ τ1 : zM} {a a' d v : Int} {D : Int → Int} (hT : T = τ 84) (hL : L = τ 79 7) (hb : 0 ≤ L ∧ L ≤ 80) (a0 : 0 ≤ a) (a1 : a ≤ L) (hd : 0 ≤ d ∧ d ≤ 80) (e1 : (pO T L a).1 = 1) (e2 : (pO T L a).2.1 = a') (e3 : (pO T L a).2.2 = D) (hP : τ1 79 7 = τ 79 7) (hM : MD τ D v τ1) (hv : v < 0 ∨ L ≤ a') : MC τ a d (if v < 0 then d else d + 1) τ1 := by
  have hr := (pO_rg (T := T) a1).2.1
  refine ⟨2, fun ρ Q ht ha kq => ?_⟩
  have hRM : RM T L ρ := ⟨ht.2.2.2.2.2.2.2.trans hL.symm, hb, fun i _ _ => by rw [ht.2.2.2.2.1, hT]⟩
  rw [wp_M_carryOut_L25]
  refine ⟨fun c => absurd c (by decide), fun _ => ?_⟩
  refine M_passesOrder hRM a0 a1 ha (fun ρ1 h1 => ?_)
  obtain ⟨f1, g14, hreg⟩ := h1
  rw [e1]
  refine ⟨fun c => absurd c (by decide), fun _ => ?_⟩
  have hreg' := hreg e1
  rw [e3] at hreg'
  refine hM ρ1 _ (TEq_trans ht (TEq_T f1)) hreg' (fun ρ2 t2 m2 j2 => ?_)
  have h14 : ρ2 79 14 = a' := by rw [j2 14 (by omega), g14, e2]
  have h7 : ρ2 79 7 = L := by rw [t2.2.2.2.2.2.2.2, hP, hL]
  have endd : ∀ x, Q x (zU (zU ρ2 79 14 (a' + 1)) 79 7 0) → wp_M_carryOut_b80 (wp_M_carryOut_L25 Q 1) Q ρ2 x := by
    intro x hq
    unfold wp_M_carryOut_b80 wp_M_carryOut_b81
    rw [h14]
    refine ⟨zRi (by omega) (by omega), ?_⟩
    rintro _ rfl
    rw [wp_M_carryOut_L25]
    refine ⟨fun _ => ?_, fun c => absurd rfl c⟩
    rintro _ rfl
    exact hq
  have tq : TEq τ1 (zU ρ2 79 14 (a' + 1)) := TEq_trans t2 (TEq_T (FrT_U79 (by omega) (FrT_rfl ρ2)))
  have fm : FrM ρ (zU ρ2 79 14 (a' + 1)) := FrM_U (FrM_trans (FrM_T f1) m2) (by omega)
  have fin := kq _ tq fm
  refine ⟨fun c => ?_, fun c => ?_⟩
  · rw [if_pos c] at fin
    unfold wp_M_carryOut_b47 wp_M_carryOut_b48
    refine ⟨fun _ => ?_, fun c1 => absurd rfl c1⟩
    unfold wp_M_carryOut_b59
    rw [Int.add_zero]
    exact ⟨zRi (by omega) (by omega), fun _ => endd d fin, fun c1 => absurd rfl c1⟩
  · rw [if_neg c] at fin
    unfold wp_M_carryOut_b48
    refine ⟨fun c1 => absurd c1 (by decide), fun _ => ?_⟩
    unfold wp_M_carryOut_b59
    refine ⟨zRi (by omega) (by omega), fun c1 => absurd c1 (by decide), fun _ => ⟨fun _ => endd (d + 1) fin, fun c2 => ?_⟩⟩
    rw [h7, h14] at c2
    omega
theorem MC_step {T : Int → Int} {L : Int} {τ τ1 τ2 : zM} {a a' d d' v : Int} {D : Int → Int} (hT : T = τ 84) (hL : L = τ 79 7) (hb : 0 ≤ L ∧ L ≤ 80) (a0 : 0 ≤ a) (a1 : a ≤ L) (hd : 0 ≤ d ∧ d ≤ 80) (e1 : (pO T L a).1 = 1) (e2 : (pO T L a).2.1 = a') (e3 : (pO T L a).2.2 = D) (hP : τ1 79 7 = τ 79 7) (hM : MD τ D v τ1) (hv : ¬ v < 0) (ha : a' < L) (hC : MC τ1 (a' + 1) (d + 1) d' τ2) : MC τ a d d' τ2 := by
  have hr := (pO_rg (T := T) a1).2.1
  obtain ⟨n, hC⟩ := hC
  refine ⟨n + 1, fun ρ Q ht ha' kq => ?_⟩
  have hRM : RM T L ρ := ⟨ht.2.2.2.2.2.2.2.trans hL.symm, hb, fun i _ _ => by rw [ht.2.2.2.2.1, hT]⟩
  rw [wp_M_carryOut_L25]
  refine ⟨fun c => absurd c (by decide), fun _ => ?_⟩
  refine M_passesOrder hRM a0 a1 ha' (fun ρ1 h1 => ?_)
  obtain ⟨f1, g14, hreg⟩ := h1
  rw [e1]
  refine ⟨fun c => absurd c (by decide), fun _ => ?_⟩
  have hreg' := hreg e1
  rw [e3] at hreg'
  refine hM ρ1 _ (TEq_trans ht (TEq_T f1)) hreg' (fun ρ2 t2 m2 j2 => ⟨fun c => absurd c hv, fun _ => ?_⟩)
  have h14 : ρ2 79 14 = a' := by rw [j2 14 (by omega), g14, e2]
  have h7 : ρ2 79 7 = L := by rw [t2.2.2.2.2.2.2.2, hP, hL]
  unfold wp_M_carryOut_b48
  refine ⟨fun c1 => absurd c1 (by decide), fun _ => ?_⟩
  unfold wp_M_carryOut_b59
  refine ⟨zRi (by omega) (by omega), fun c1 => absurd c1 (by decide), fun _ => ⟨fun c2 => ?_, fun _ => ?_⟩⟩
  · rw [h7, h14] at c2
    omega
  unfold wp_M_carryOut_b81
  rw [h14]
  refine ⟨zRi (by omega) (by omega), ?_⟩
  rintro _ rfl
  refine hC _ Q (TEq_trans t2 (TEq_T (FrT_U79 (by omega) (FrT_rfl ρ2)))) zU_s (fun ρ' tq fm => kq ρ' tq ?_)
  exact FrM_trans (FrM_U (FrM_trans (FrM_T f1) m2) (by omega)) fm
/-- the class carries the orders out -/
theorem X_L37 {T : Int → Int} {L Bm : Int} {k90 : zM → Int → Prop} {Q : Int → zM → Prop} (hBm : Bm ≤ 1000000) : ∀ (k : Nat) (B : Int) (σ τ : zM) (a d : Int), XRep B 1 σ τ → σ 62 1 = 0 → T = τ 84 → L = τ 79 7 → 0 ≤ a → a ≤ L → L - a < k → B + (L - a) + 1 ≤ Bm → (0 ≤ d ∧ 2 * d ≤ a) → σ 58 2 = a → σ 58 3 = 0 → pF T L k a = -6 → (∀ σ' τ' d', XRep Bm 1 σ' τ' → (∀ n, 79 ≤ n → σ' n = σ n) → MC τ a d d' τ' → k90 σ' d') → wp_X_carryOut_L37 k90 Q (k + 1) σ d 1 d := by
  intro k
  induction k with
  | zero => intro B σ τ a d _ _ _ _ _ _ h; omega
  | succ k ih =>
    intro B σ τ a d h g0 hT hL a0 a1 hk hB hd ha hw hF kk
    have hS0 := RS_of h
    rw [← hT, ← hL] at hS0
    have hLr := hS0.2.1
    have hr := pO_rg (T := T) (L := L) a1
    have r1 := hr.2.1
    have eF : pF T L (k + 1) a = if (pO T L a).1 = 0 then (pO T L a).2.1 else if L ≤ (pO T L a).2.1 then -6 else if hD T L 59 59 (pO T L a).2.1 then pF T L k ((pO T L a).2.1 + 1) else (pO T L a).2.1 := rfl
    rw [eF] at hF
    have c0 : ¬ (pO T L a).1 = 0 := by
      intro c
      rw [if_pos c] at hF
      omega
    rw [if_neg c0] at hF
    have c01 : (pO T L a).1 = 1 := hr.1.elim (fun c => absurd c c0) id
    obtain ⟨r2, hok⟩ := hr.2.2 c01
    rw [wp_X_carryOut_L37]
    refine ⟨fun c => by omega, fun _ => ⟨fun c => absurd c (by decide), fun _ => ?_⟩⟩
    refine P_readOrder hS0 a0 a1 ha hw (fun σ1 hx => ?_)
    obtain ⟨f1, e2, ey, -⟩ := hx
    obtain ⟨w1, hreg⟩ := ey c01
    have h1 := XRep_P f1 h
    have g1 : σ1 62 1 = 0 := by rw [f1.1 62 (by omega) (by omega) (by omega)]; exact g0
    refine X_carryOrder (by omega) h1 g1 hreg hok (fun v σ2 τ2 h2 g2 fr2 hM hP => ?_)
    have i58 : σ2 58 = σ1 58 := fr2 58 (Or.inr rfl)
    have i2 : σ2 58 2 = (pO T L a).2.1 := by rw [i58]; exact e2
    have i3 : σ2 58 3 = 0 := by rw [i58]; exact w1
    have fr12 : ∀ n, 79 ≤ n → σ2 n = σ n := fun n hn => (fr2 n (Or.inl hn)).trans (FrP_h f1 n hn)
    have dd : 0 ≤ d ∧ d ≤ 80 := by omega
    have stopX : ∀ (σ3 : zM) (d' v2 : Int), XRep (B + 1) 1 σ3 τ2 → (∀ n, 79 ≤ n → σ3 n = σ n) → MC τ a d d' τ2 → v2 = 0 → wp_X_carryOut_b84 (wp_X_carryOut_L37 k90 Q (k + 1)) Q σ3 d' v2 d := by
      intro σ3 d' v2 h3 fr3 hC hv2
      subst hv2
      refine ⟨zRi (by omega) (by omega), ?_⟩
      rw [wp_X_carryOut_L37]
      have fin := kk σ3 τ2 d' (XRep_mono (by omega) h3) fr3 hC
      exact ⟨fun _ => fin, fun _ => ⟨fun _ => fin, fun c => absurd rfl c⟩⟩
    refine ⟨fun c => ?_, fun c => ?_⟩
    · have hC := MC_stop (a' := (pO T L a).2.1) (D := (pO T L a).2.2) (v := v) hT hL hLr a0 a1 dd c01 rfl rfl hP.2 hM (Or.inl c)
      rw [if_pos c] at hC
      exact ⟨fun _ => stopX σ2 d 0 h2 fr12 hC rfl, fun c1 => absurd rfl c1⟩
    · refine ⟨fun c1 => absurd c1 (by decide), fun _ => ⟨zRi (by omega) (by omega), ?_⟩⟩
      have hS2 := RS_of h2
      rw [hP.1, hP.2, ← hT, ← hL] at hS2
      refine P_take (a := (pO T L a).2.1) hS2 (by omega) i2 i3 (fun c2 σ3 f3 g32 g33 => ?_) (fun c2 => ?_)
      · have l1 := c2.1
        rw [if_neg (by omega), if_pos c2] at hF
        have f3' := FrP_A f3
        refine ⟨zRi (by omega) (by omega), ?_⟩
        refine ih (B + 1) σ3 τ2 ((pO T L a).2.1 + 1) (d + 1) (XRep_P f3' h2) (by rw [f3.1 62 (by omega)]; exact g2) (by rw [hP.1]; exact hT) (by rw [hP.2]; exact hL) (by omega) (by omega) (by omega) (by omega) (by omega) g32 g33 hF (fun σ' τ' d' h' fr' hC => kk σ' τ' d' h' (fun n hn => (fr' n hn).trans ((FrP_h f3' n hn).trans (fr12 n hn))) ?_)
        exact MC_step (a' := (pO T L a).2.1) (D := (pO T L a).2.2) (v := v) hT hL hLr a0 a1 dd c01 rfl rfl hP.2 hM c l1 hC
      · have hle : L ≤ (pO T L a).2.1 := by
          apply Classical.byContradiction
          intro hlt
          rw [if_neg hlt, if_neg c2] at hF
          omega
        have hC := MC_stop (a' := (pO T L a).2.1) (D := (pO T L a).2.2) (v := v) hT hL hLr a0 a1 dd c01 rfl rfl hP.2 hM (Or.inr hle)
        rw [if_neg c] at hC
        exact stopX σ2 (d + 1) 0 h2 fr12 hC rfl
theorem TEq_zCp {x y : zM} (h0 : TEq x y) {s d n : Int} : TEq (zCp x 80 81 s d n) (zCp y 80 81 s d n) := by
  obtain ⟨e0, e1, e2, e3, e4, e5, e6, e7⟩ := h0
  refine ⟨?_, ?_, ?_, ?_, ?_, ?_, ?_, ?_⟩
  · rw [zCp_n (by omega), zCp_n (by omega)]; exact e0
  · funext i; rw [zCp_g, zCp_g, e0, e1]
  all_goals (rw [zCp_n (by omega), zCp_n (by omega)]; assumption)
theorem TEq_zCp1 {x y : zM} (h0 : TEq x y) {s d n : Int} : TEq (zCp x 81 81 s d n) (zCp y 81 81 s d n) := by
  obtain ⟨e0, e1, e2, e3, e4, e5, e6, e7⟩ := h0
  refine ⟨?_, ?_, ?_, ?_, ?_, ?_, ?_, ?_⟩
  · rw [zCp_n (by omega), zCp_n (by omega)]; exact e0
  · funext i; rw [zCp_g, zCp_g, e1]
  all_goals (rw [zCp_n (by omega), zCp_n (by omega)]; assumption)
theorem TEq_U4 {x y : zM} {v : Int} (h : TEq x y) : TEq (zU x 79 4 v) (zU y 79 4 v) := by
  obtain ⟨e0, e1, e2, e3, e4, e5, e6, e7⟩ := h
  refine ⟨?_, ?_, ?_, ?_, ?_, ?_, ?_, ?_⟩
  · rw [zU_n (by omega), zU_n (by omega)]; exact e0
  · rw [zU_n (by omega), zU_n (by omega)]; exact e1
  · rw [zU_n (by omega), zU_n (by omega)]; exact e2
  · rw [zU_n (by omega), zU_n (by omega)]; exact e3
  · rw [zU_n (by omega), zU_n (by omega)]; exact e4
  · rw [zU_s, zU_s]
  · rw [zU_j (by omega), zU_j (by omega)]; exact e6
  · rw [zU_j (by omega), zU_j (by omega)]; exact e7
theorem TEq_mApp {x y : zM} (h : TEq x y) : TEq (mApp x) (mApp y) := by
  unfold mApp
  rw [h.2.2.2.2.2.1]
  exact TEq_U4 (TEq_zCp h)
theorem TEq_mSh {x y : zM} (h : TEq x y) : TEq (mSh x) (mSh y) := TEq_U4 (TEq_zCp1 h)
theorem TEq_mRec {x y : zM} (h : TEq x y) : TEq (mRec x) (mRec y) := by
  unfold mRec
  rw [h.2.2.2.2.2.1]
  by_cases c : x 79 4 = 6
  · rw [if_pos c, if_pos c]; exact TEq_mApp (TEq_mSh h)
  · rw [if_neg c, if_neg c]; exact TEq_mApp h
/-- no longer carrying -/
theorem XRep_off {B : Int} {σ τ : zM} (h : XRep B 1 σ τ) : XRep B 0 (zU σ 54 7 0) τ := by
  obtain ⟨hR, hH, hS, hM, hG, hTT, -⟩ := h
  have f : ∀ n, n ≠ 54 → zU σ 54 7 0 n = σ n := fun n hn => zU_n hn
  have ht4 := hTT.2.1
  refine ⟨RX_congr (fun n h1 h2 => f n (by omega)) hR, ⟨?_, ?_, ?_, fun i i0 i1 => ?_⟩, ⟨?_, ?_, ?_, ?_, ?_⟩, ⟨?_, ?_, ?_⟩, XG_eq (by rw [f 62 (by omega)]) (f 63 (by omega)) rfl hG, hTT, zU_s⟩
  · rw [zU_j (by omega)]; exact hH.1
  · rw [f 55 (by omega)]; exact hH.2.1
  · rw [f 55 (by omega)]; exact hH.2.2.1
  · rw [f 55 (by omega)]
    have hb := hH.2.1 i i0 (by omega)
    exact RX_congr (fun n h1 h2 => f n (by omega)) (hH.2.2.2 i i0 i1)
  · rw [f 56 (by omega)]; exact hS.1
  · rw [f 56 (by omega)]; exact hS.2.1
  · rw [f 57 (by omega)]; exact hS.2.2.1
  · exact fun q => RX_congr (fun n h1 h2 => f n (by omega)) (hS.2.2.2.1 q)
  · exact fun q => RX_congr (fun n h1 h2 => f n (by omega)) (hS.2.2.2.2 q)
  · rw [zU_j (by omega)]; exact hM.1
  · rw [f 58 (by omega)]; exact hM.2.1
  · rw [f 59 (by omega)]; exact hM.2.2
theorem op_carryOut {B : Int} {σ : zM} (hB : B ≤ 900000) (h : Rel B σ) : wp_X_carryOut σ (fun r σ1 => wp_M_carryOut σ1 (fun r' σ2 => r = r' ∧ Rel (B + 81) σ2)) := by
  have hT := h.2.2.2.2.2.1
  have hLr := hT.2.2.2.2.1
  unfold wp_X_carryOut
  refine P_firstWrong (RS_of h) (fun σ1 f1 => ?_)
  have t1 : TEq σ σ1 := ⟨FrP_h f1 80 (by omega), FrP_h f1 81 (by omega), FrP_h f1 82 (by omega), FrP_h f1 83 (by omega), FrP_h f1 84 (by omega), by rw [FrP_h f1 79 (by omega)], by rw [FrP_h f1 79 (by omega)], by rw [FrP_h f1 79 (by omega)]⟩
  have mside : ∀ (σ3 : zM) (Q : Int → zM → Prop), (∀ n, 79 ≤ n → σ3 n = σ n) → ((pF (σ 84) (σ 79 7) 81 0 = -6 → ∀ ρ, FrT σ3 ρ → wp_M_records ρ (fun σ4 => ∀ σ5 : zM, σ5 = zU σ4 79 14 0 → ∃ n14, wp_M_carryOut_L25 Q n14 σ5 0 1)) ∧ (¬ pF (σ 84) (σ 79 7) 81 0 = -6 → ∀ ρ, FrT σ3 ρ → Q (-3) ρ)) → wp_M_carryOut σ3 Q := by
    intro σ3 Q f3 hh
    unfold wp_M_carryOut
    have hM : RM (σ 84) (σ 79 7) σ3 := ⟨by rw [f3 79 (by omega)], hLr, fun i _ _ => by rw [f3 84 (by omega)]⟩
    exact M_fault hM (fun ρ fρ => ⟨fun c => hh.1 c ρ fρ, fun c => hh.2 c ρ fρ⟩)
  refine ⟨fun hF => ?_, fun hF => mside σ1 _ (FrP_h f1) ⟨fun c => absurd c hF, fun _ ρ fρ => ⟨rfl, ?_⟩⟩⟩
  rotate_left
  · refine XRep_mono (show B ≤ B + 81 by omega) (XRep_eq (σ := σ) (τ := σ) ⟨fun n hn => ?_, ?_, ?_⟩ ?_ (TEq_trans t1 (TEq_T fρ)) h)
    · rw [fρ.1 n (by omega) (by omega)]; exact f1.1 n (by omega) (by omega) (by omega)
    · rw [fρ.1 58 (by omega) (by omega)]; exact f1.2
    · rw [fρ.1 59 (by omega) (by omega)]; exact f1.1 59 (by omega) (by omega) (by omega)
    · refine XG_eq ?_ ?_ ?_ h.2.2.2.2.1
      · rw [fρ.1 62 (by omega) (by omega), f1.1 62 (by omega) (by omega) (by omega)]
      · rw [fρ.1 63 (by omega) (by omega), f1.1 63 (by omega) (by omega) (by omega)]
      · rw [fρ.1 80 (by omega) (by omega)]; exact FrP_h f1 80 (by omega)
  -- it is carried out
  refine X_remember (XRep_P f1 h) (fun σ2 x2 fr2 g2 => ?_)
  rintro _ rfl
  refine P_rewind (fun σ4 f4 e42 e43 => ?_)
  have f4' := FrP_A f4
  have x3 : XRep B 1 (zU σ2 54 7 1) (mRec σ) := by
    obtain ⟨hR, hH, hS, hM, hG, hTT, -⟩ := x2
    have f : ∀ n, n ≠ 54 → zU σ2 54 7 1 n = σ2 n := fun n hn => zU_n hn
    have ht4 := hTT.2.1
    refine ⟨RX_congr (fun n h1 h2 => f n (by omega)) hR, ⟨?_, ?_, ?_, fun i i0 i1 => ?_⟩, ⟨?_, ?_, ?_, ?_, ?_⟩, ⟨?_, ?_, ?_⟩, XG_0 ?_, hTT, zU_s⟩
    · rw [zU_j (by omega)]; exact hH.1
    · rw [f 55 (by omega)]; exact hH.2.1
    · rw [f 55 (by omega)]; exact hH.2.2.1
    · rw [f 55 (by omega)]
      have hb := hH.2.1 i i0 (by omega)
      exact RX_congr (fun n h1 h2 => f n (by omega)) (hH.2.2.2 i i0 i1)
    · rw [f 56 (by omega)]; exact hS.1
    · rw [f 56 (by omega)]; exact hS.2.1
    · rw [f 57 (by omega)]; exact hS.2.2.1
    · exact fun q => RX_congr (fun n h1 h2 => f n (by omega)) (hS.2.2.2.1 q)
    · exact fun q => RX_congr (fun n h1 h2 => f n (by omega)) (hS.2.2.2.2 q)
    · rw [zU_j (by omega)]; exact hM.1
    · rw [f 58 (by omega)]; exact hM.2.1
    · rw [f 59 (by omega)]; exact hM.2.2
    · rw [f 62 (by omega)]; exact g2
  have x4 := XRep_P f4' x3
  have g4 : σ4 62 1 = 0 := by rw [f4.1 62 (by omega), zU_n (by omega)]; exact g2
  have e84 : mRec σ 84 = σ 84 := mRec_n (by omega) (by omega)
  have e7 : mRec σ 79 7 = σ 79 7 := mRec_k (by omega)
  have frm : ∀ n, 79 ≤ n → σ4 n = σ n := fun n hn => by rw [FrP_h f4' n hn, zU_n (by omega), fr2 n (Or.inl hn)]; exact FrP_h f1 n hn
  refine ⟨82, ?_⟩
  refine X_L37 (T := σ 84) (L := σ 79 7) (Bm := B + 81) (by omega) 81 B σ4 (mRec σ) 0 0 x4 g4 e84.symm e7.symm (Int.le_refl 0) (by omega) (by omega) (by omega) (by omega) e42 e43 hF (fun σ5 τ5 d5 x5 fr5 hC => ?_)
  unfold wp_X_carryOut_b90
  rintro _ rfl _ rfl
  have fr7 : ∀ n, 79 ≤ n → zU (zU σ5 54 7 0) 58 1 0 n = σ n := fun n hn => by rw [zU_n (by omega), zU_n (by omega), fr5 n hn]; exact frm n hn
  refine mside _ _ fr7 ⟨fun _ ρ fρ => ?_, fun c => absurd hF c⟩
  have r4 : ρ 79 4 = σ 79 4 := by rw [fρ.2 4 (by omega), fr7 79 (by omega)]
  refine M_records (by rw [r4]; exact hT.2.1.1) (by rw [r4]; exact hT.2.1.2) ?_
  rintro _ rfl
  obtain ⟨n, hC⟩ := hC
  -- what the reference starts from
  have t3 : TEq (mRec σ) (mRec ρ) := by
    have tr : TEq σ ρ := TEq_trans ⟨fr7 80 (by omega), fr7 81 (by omega), fr7 82 (by omega), fr7 83 (by omega), fr7 84 (by omega), by rw [fr7 79 (by omega)], by rw [fr7 79 (by omega)], by rw [fr7 79 (by omega)]⟩ (TEq_T fρ)
    exact TEq_mRec tr
  refine ⟨n, hC _ _ (TEq_trans t3 (TEq_T (FrT_U79 (by omega) (FrT_rfl _)))) zU_s (fun ρ' tq fm => ⟨rfl, ?_⟩)⟩
  have fcl : ∀ n, n < 79 → zU ρ' 79 7 0 n = zU (zU σ5 54 7 0) 58 1 0 n := fun n hn => by
    rw [zU_n (by omega), fm n hn, zU_n (by omega), mRec_n (by omega) (by omega)]
    exact fρ.1 n (by omega) (by omega)
  -- the end
  have x6 : XRep (B + 81) 1 σ5 ρ' := XRep_eq ⟨fun _ _ => rfl, rfl, rfl⟩ (XG_eq rfl rfl tq.1 x5.2.2.2.2.1) tq x5
  have x7 := XRep_off x6
  refine XRep_pad x7 (fun n h1 h2 h3 => ?_) (fun n h1 h2 => ?_) (fun j hj => ?_) ?_ (fun i i0 i1 => ?_) ?_ (fun i i0 i1 => ?_)
  · rw [fcl n h1, zU_n h2]
  · rw [zU_n (by omega)]
  · rw [zU_j hj]
  · rw [fcl 58 (by omega), zU_s, zU_s]
  · rw [zU_s] at i1; omega
  · rw [zU_s]; omega
  · rw [zU_s] at i1; omega
