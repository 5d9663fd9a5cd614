/-! the law's own methods: numbers, calls, the sum of all that can be asked for -/
theorem zAndM (x : Int) : 0 ≤ zAnd x 2147483647 := by
  unfold zAnd
  show 0 ≤ (zI x &&& zI 2147483647).toBitVec.toInt
  rw [BitVec.toInt_eq_msb_cond, Int32.toBitVec_and, BitVec.msb_and, show (zI 2147483647).toBitVec.msb = false by decide]
  simp
def uP (x m : Int) : Int := zAnd x 2147483647 % m
theorem uP_rg (x : Int) {m : Int} (hm : 0 < m) : 0 ≤ uP x m ∧ uP x m < m := ⟨Int.emod_nonneg _ (by omega), Int.emod_lt_of_pos _ hm⟩
theorem L_up {σ : zM} {x m : Int} {Q : Int → Prop} (hm : 0 < m) (k : Q (uP x m)) : wp_L_up σ x m Q := ⟨zAndM x, hm, k⟩
noncomputable def rAny (A : Int → Int) (a b : Int) : Int := if zAnd b 7 = 0 then rRoom A a b a b else if zAnd b 7 = 1 then rRoad A a b a else if zAnd b 7 = 2 then rOpen A a b a b else if zAnd b 7 = 3 then rMore A a b a else if zAnd b 7 = 4 then rClo A a b a else if zAnd b 7 = 5 then rLift A a else if zAnd b 7 = 6 then rTrv A a b else rSty A a b
theorem L_any {B : Int} {σ τ : zM} {Q : Int → zM → Prop} (h0 : 0 ≤ B) (h : Inv B σ τ) (a b : Int) (k : Post B σ τ (rAny (τ 80) a b) Q) : wp_L_any σ a b Q := by
  unfold rAny at k
  unfold wp_L_any
  refine ⟨fun c => ?_, fun c => ?_, fun c => ?_, fun c => ?_, fun c => ?_, fun c => ?_, fun c => ?_, fun c => ?_⟩
  · rw [if_pos c] at k
    exact Z_room h a b a b k
  · rw [if_neg (show ¬ zAnd b 7 = 0 by omega), if_pos c] at k
    exact Z_road h0 h a b a k
  · rw [if_neg (show ¬ zAnd b 7 = 0 by omega), if_neg (show ¬ zAnd b 7 = 1 by omega), if_pos c] at k
    exact Z_open h a b a b k
  · rw [if_neg (show ¬ zAnd b 7 = 0 by omega), if_neg (show ¬ zAnd b 7 = 1 by omega), if_neg (show ¬ zAnd b 7 = 2 by omega), if_pos c] at k
    exact Z_more h a b a k
  · rw [if_neg (show ¬ zAnd b 7 = 0 by omega), if_neg (show ¬ zAnd b 7 = 1 by omega), if_neg (show ¬ zAnd b 7 = 2 by omega), if_neg (show ¬ zAnd b 7 = 3 by omega), if_pos c] at k
    exact Z_close h a b a k
  · rw [if_neg (show ¬ zAnd b 7 = 0 by omega), if_neg (show ¬ zAnd b 7 = 1 by omega), if_neg (show ¬ zAnd b 7 = 2 by omega), if_neg (show ¬ zAnd b 7 = 3 by omega), if_neg (show ¬ zAnd b 7 = 4 by omega), if_pos c] at k
    exact Z_lift h a k
  · rw [if_neg (show ¬ zAnd b 7 = 0 by omega), if_neg (show ¬ zAnd b 7 = 1 by omega), if_neg (show ¬ zAnd b 7 = 2 by omega), if_neg (show ¬ zAnd b 7 = 3 by omega), if_neg (show ¬ zAnd b 7 = 4 by omega), if_neg (show ¬ zAnd b 7 = 5 by omega), if_pos c] at k
    exact Z_traveller h a b k
  · rw [if_neg (show ¬ zAnd b 7 = 0 by omega), if_neg (show ¬ zAnd b 7 = 1 by omega), if_neg (show ¬ zAnd b 7 = 2 by omega), if_neg (show ¬ zAnd b 7 = 3 by omega), if_neg (show ¬ zAnd b 7 = 4 by omega), if_neg (show ¬ zAnd b 7 = 5 by omega), if_neg (show ¬ zAnd b 7 = 6 by omega)] at k
    exact Z_stay h a b k
noncomputable def rTurn (A : Int → Int) (w a b : Int) : Int := if w = 0 then rRoom A (uP a 9) (uP (zShr a 8) 1400) (uP (zShr a 8) 1400 + 1 + uP b (1440 - uP (zShr a 8) 1400)) (if uP (zShr b 12) 4 = 0 then uP b 30 else 1000) else if w = 1 then rRoad A (uP a 5) (uP (zShr a 4) 5) (1 + uP b 400) else if w = 2 then rRoad A (uP a 5) (uP (zShr a 4) 5) (1 + uP b 400) else if w = 3 then rOpen A (uP a 6) (uP (zShr a 8) 1400) (uP (zShr a 8) 1400 + 1 + uP b (1440 - uP (zShr a 8) 1400)) (zAnd b 1) else if w = 4 then rMore A (uP a 6) (uP (zShr a 8) 1400) (uP (zShr a 8) 1400 + 1 + uP b (1440 - uP (zShr a 8) 1400)) else if w = 5 then rClo A (uP a 6) (2 * (uP (zShr a 8) 1400)) (2 * (uP (zShr a 8) 1400 + 1 + uP b (1440 - uP (zShr a 8) 1400))) else if w = 6 then rLift A (uP a 4) else if w = 7 then rTrv A (uP a 5) (uP b 2000) else if w = 8 then rGo A (uP a 4) (uP b 6) else if w = 9 then rGo A (uP a 4) (uP b 6) else if w = 10 then rGo A (uP a 4) (uP b 6) else if w = 11 then rSty A (uP a 4) (1 + uP b (if zAnd b 64 = 0 then 90 else 1000)) else if w = 12 then rSty A (uP a 4) (1 + uP b (if zAnd b 64 = 0 then 90 else 1000)) else if w = 13 then rSty A (uP a 4) (uP b 2 + rCan A (uP a 4)) else rAny A a b
theorem L_turn {B : Int} {σ τ : zM} {Q : Int → zM → Prop} (h0 : 0 ≤ B) (hB : B ≤ 1000000) (h : Inv B σ τ) (w a b : Int) (k : Post B σ τ (rTurn (τ 80) w a b) Q) : wp_L_turn σ w a b Q := by
  have hR := h.1.1
  have hA := h.1.2.2.2.2.2.1.1
  have u1 := uP_rg (zShr a 8) (m := 1400) (by decide)
  have u2 := uP_rg b (m := 1440 - uP (zShr a 8) 1400) (by omega)
  have u3 := uP_rg b (m := 400) (by decide)
  have u4 := uP_rg b (m := 90) (by decide)
  have u5 := uP_rg b (m := 1000) (by decide)
  have u6 := uP_rg b (m := 2) (by decide)
  unfold rTurn at k
  unfold wp_L_turn
  refine L_up (by decide) ⟨zRi (by omega) (by omega), L_up (by omega) ⟨zRi (by omega) (by omega), ?_⟩⟩
  refine ⟨fun c => ?_, fun c => ?_, fun c => ?_, fun c => ?_, fun c => ?_, fun c => ?_, fun c => ?_, fun c => ?_, fun c => ?_, fun c => ?_, fun c => ?_, fun c => ?_, fun c => ?_, fun c => ?_, fun c => ?_⟩
  · rw [if_pos c] at k
    refine L_up (by decide) (L_up (by decide) ⟨fun c2 => ?_, fun c2 => L_up (by decide) ?_⟩)
    · rw [if_neg c2] at k; exact Z_room h _ _ _ _ k
    · rw [if_pos c2] at k; exact Z_room h _ _ _ _ k
  · rw [if_neg (show ¬ w = 0 by omega), if_pos c] at k
    exact L_up (by decide) (L_up (by decide) (L_up (by decide) ⟨zRi (by omega) (by omega), Z_road h0 h _ _ _ k⟩))
  · rw [if_neg (show ¬ w = 0 by omega), if_neg (show ¬ w = 1 by omega), if_pos c] at k
    exact L_up (by decide) (L_up (by decide) (L_up (by decide) ⟨zRi (by omega) (by omega), Z_road h0 h _ _ _ k⟩))
  · rw [if_neg (show ¬ w = 0 by omega), if_neg (show ¬ w = 1 by omega), if_neg (show ¬ w = 2 by omega), if_pos c] at k
    exact L_up (by decide) (Z_open h _ _ _ _ k)
  · rw [if_neg (show ¬ w = 0 by omega), if_neg (show ¬ w = 1 by omega), if_neg (show ¬ w = 2 by omega), if_neg (show ¬ w = 3 by omega), if_pos c] at k
    exact L_up (by decide) (Z_more h _ _ _ k)
  · rw [if_neg (show ¬ w = 0 by omega), if_neg (show ¬ w = 1 by omega), if_neg (show ¬ w = 2 by omega), if_neg (show ¬ w = 3 by omega), if_neg (show ¬ w = 4 by omega), if_pos c] at k
    exact L_up (by decide) ⟨zRi (by omega) (by omega), zRi (by omega) (by omega), Z_close h _ _ _ k⟩
  · rw [if_neg (show ¬ w = 0 by omega), if_neg (show ¬ w = 1 by omega), if_neg (show ¬ w = 2 by omega), if_neg (show ¬ w = 3 by omega), if_neg (show ¬ w = 4 by omega), if_neg (show ¬ w = 5 by omega), if_pos c] at k
    exact L_up (by decide) (Z_lift h _ k)
  · rw [if_neg (show ¬ w = 0 by omega), if_neg (show ¬ w = 1 by omega), if_neg (show ¬ w = 2 by omega), if_neg (show ¬ w = 3 by omega), if_neg (show ¬ w = 4 by omega), if_neg (show ¬ w = 5 by omega), if_neg (show ¬ w = 6 by omega), if_pos c] at k
    exact L_up (by decide) (L_up (by decide) (Z_traveller h _ _ k))
  · rw [if_neg (show ¬ w = 0 by omega), if_neg (show ¬ w = 1 by omega), if_neg (show ¬ w = 2 by omega), if_neg (show ¬ w = 3 by omega), if_neg (show ¬ w = 4 by omega), if_neg (show ¬ w = 5 by omega), if_neg (show ¬ w = 6 by omega), if_neg (show ¬ w = 7 by omega), if_pos c] at k
    exact L_up (by decide) (L_up (by decide) (Z_go hB h _ _ k))
  · rw [if_neg (show ¬ w = 0 by omega), if_neg (show ¬ w = 1 by omega), if_neg (show ¬ w = 2 by omega), if_neg (show ¬ w = 3 by omega), if_neg (show ¬ w = 4 by omega), if_neg (show ¬ w = 5 by omega), if_neg (show ¬ w = 6 by omega), if_neg (show ¬ w = 7 by omega), if_neg (show ¬ w = 8 by omega), if_pos c] at k
    exact L_up (by decide) (L_up (by decide) (Z_go hB h _ _ k))
  · rw [if_neg (show ¬ w = 0 by omega), if_neg (show ¬ w = 1 by omega), if_neg (show ¬ w = 2 by omega), if_neg (show ¬ w = 3 by omega), if_neg (show ¬ w = 4 by omega), if_neg (show ¬ w = 5 by omega), if_neg (show ¬ w = 6 by omega), if_neg (show ¬ w = 7 by omega), if_neg (show ¬ w = 8 by omega), if_neg (show ¬ w = 9 by omega), if_pos c] at k
    exact L_up (by decide) (L_up (by decide) (Z_go hB h _ _ k))
  · rw [if_neg (show ¬ w = 0 by omega), if_neg (show ¬ w = 1 by omega), if_neg (show ¬ w = 2 by omega), if_neg (show ¬ w = 3 by omega), if_neg (show ¬ w = 4 by omega), if_neg (show ¬ w = 5 by omega), if_neg (show ¬ w = 6 by omega), if_neg (show ¬ w = 7 by omega), if_neg (show ¬ w = 8 by omega), if_neg (show ¬ w = 9 by omega), if_neg (show ¬ w = 10 by omega), if_pos c] at k
    refine L_up (by decide) ⟨fun c2 => ?_, fun c2 => ?_⟩
    · rw [if_neg c2] at k; exact L_up (by decide) ⟨zRi (by omega) (by omega), Z_stay h _ _ k⟩
    · rw [if_pos c2] at k; exact L_up (by decide) ⟨zRi (by omega) (by omega), Z_stay h _ _ k⟩
  · rw [if_neg (show ¬ w = 0 by omega), if_neg (show ¬ w = 1 by omega), if_neg (show ¬ w = 2 by omega), if_neg (show ¬ w = 3 by omega), if_neg (show ¬ w = 4 by omega), if_neg (show ¬ w = 5 by omega), if_neg (show ¬ w = 6 by omega), if_neg (show ¬ w = 7 by omega), if_neg (show ¬ w = 8 by omega), if_neg (show ¬ w = 9 by omega), if_neg (show ¬ w = 10 by omega), if_neg (show ¬ w = 11 by omega), if_pos c] at k
    refine L_up (by decide) ⟨fun c2 => ?_, fun c2 => ?_⟩
    · rw [if_neg c2] at k; exact L_up (by decide) ⟨zRi (by omega) (by omega), Z_stay h _ _ k⟩
    · rw [if_pos c2] at k; exact L_up (by decide) ⟨zRi (by omega) (by omega), Z_stay h _ _ k⟩
  · rw [if_neg (show ¬ w = 0 by omega), if_neg (show ¬ w = 1 by omega), if_neg (show ¬ w = 2 by omega), if_neg (show ¬ w = 3 by omega), if_neg (show ¬ w = 4 by omega), if_neg (show ¬ w = 5 by omega), if_neg (show ¬ w = 6 by omega), if_neg (show ¬ w = 7 by omega), if_neg (show ¬ w = 8 by omega), if_neg (show ¬ w = 9 by omega), if_neg (show ¬ w = 10 by omega), if_neg (show ¬ w = 11 by omega), if_neg (show ¬ w = 12 by omega), if_pos c] at k
    have hc := rCan_rg hA (uP a 4)
    exact L_up (by decide) (L_up (by decide) (L_up (by decide) (R_canStay hR hA _ ⟨zRi (by omega) (by omega), Z_stay h _ _ k⟩)))
  · rw [if_neg (show ¬ w = 0 by omega), if_neg (show ¬ w = 1 by omega), if_neg (show ¬ w = 2 by omega), if_neg (show ¬ w = 3 by omega), if_neg (show ¬ w = 4 by omega), if_neg (show ¬ w = 5 by omega), if_neg (show ¬ w = 6 by omega), if_neg (show ¬ w = 7 by omega), if_neg (show ¬ w = 8 by omega), if_neg (show ¬ w = 9 by omega), if_neg (show ¬ w = 10 by omega), if_neg (show ¬ w = 11 by omega), if_neg (show ¬ w = 12 by omega), if_neg (show ¬ w = 13 by omega)] at k
    exact L_any h0 h a b k
/-! the sum -/
def vG (f : Int → Int) (v : Int64) : Nat → Int64
  | 0 => v
  | n + 1 => (31 : Int64) * vG f v n + zI2l (f n)
def vH (g : Int → Int → Int) (m : Nat) (v : Int64) : Nat → Int64
  | 0 => v
  | n + 1 => vG (g n) (vH g m v n) m
def VW (A : Int → Int) : Int64 := vH (vT A) 8 (vH (vC A) 3 (vH (vR A) 13 (vH (vP A) 6 (vG A 7 3) 8) (A 0).toNat) (A 1).toNat) (A 2).toNat
section VIEW
variable {σ : zM} {A : Int → Int} {B : Int} {Q K : Int64 → Prop}
theorem V6 (h : RX σ 0 A) (v0 : Int64) (k : K (vG A v0 3)) : ∃ n, wp_L_view_L6 σ K Q n v0 0 := by
  have key : ∀ (n : Nat) (v : Int), 0 ≤ v → v ≤ 3 → 3 - v < n → wp_L_view_L6 σ K Q n (vG A v0 v.toNat) v := by
    intro n
    induction n with
    | zero => intro v _ _ _; omega
    | succ n ih =>
      intro v v0' v1 hn
      rw [wp_L_view_L6]
      refine ⟨fun c => by rw [show v = 3 by omega]; exact k, fun c => R_cnt h v0' (by omega) ⟨zRi (by omega) (by omega), ?_⟩⟩
      have := ih (v + 1) (by omega) (by omega) (by omega)
      rw [show (v + 1).toNat = v.toNat + 1 by omega, vG, show ((v.toNat : Nat) : Int) = v by omega] at this
      exact this
  exact ⟨4, key 4 0 (by omega) (by omega) (by omega)⟩
theorem V41 (h : RX σ 0 A) (hA : OKA A B) {p : Int} (p0 : 0 ≤ p) (p1 : p < 8) (v0 : Int64) (k : K (vG (vP A p) v0 6)) : ∃ n, wp_L_view_L41 σ p K Q n v0 0 := by
  have key : ∀ (n : Nat) (v : Int), 0 ≤ v → v ≤ 6 → 6 - v < n → wp_L_view_L41 σ p K Q n (vG (vP A p) v0 v.toNat) v := by
    intro n
    induction n with
    | zero => intro v _ _ _; omega
    | succ n ih =>
      intro v v0' v1 hn
      rw [wp_L_view_L41]
      refine ⟨fun c => by rw [show v = 6 by omega]; exact k, fun c => R_ofPlace h hA p0 p1 v0' (by omega) ⟨zRi (by omega) (by omega), ?_⟩⟩
      have := ih (v + 1) (by omega) (by omega) (by omega)
      rw [show (v + 1).toNat = v.toNat + 1 by omega, vG, show ((v.toNat : Nat) : Int) = v by omega] at this
      exact this
  exact ⟨7, key 7 0 (by omega) (by omega) (by omega)⟩
theorem V32 (h : RX σ 0 A) (hA : OKA A B) (v0 : Int64) (k : K (vH (vP A) 6 v0 8)) : ∃ n, wp_L_view_L32 σ K Q n v0 0 := by
  have key : ∀ (n : Nat) (v : Int), 0 ≤ v → v ≤ 8 → 8 - v < n → wp_L_view_L32 σ K Q n (vH (vP A) 6 v0 v.toNat) v := by
    intro n
    induction n with
    | zero => intro v _ _ _; omega
    | succ n ih =>
      intro v v0' v1 hn
      rw [wp_L_view_L32]
      refine ⟨fun c => by rw [show v = 8 by omega]; exact k, fun c => V41 h hA v0' (by omega) _ ⟨zRi (by omega) (by omega), ?_⟩⟩
      have := ih (v + 1) (by omega) (by omega) (by omega)
      rw [show (v + 1).toNat = v.toNat + 1 by omega, vH, show ((v.toNat : Nat) : Int) = v by omega] at this
      exact this
  exact ⟨9, key 9 0 (by omega) (by omega) (by omega)⟩
theorem V89 (h : RX σ 0 A) (hA : OKA A B) {p : Int} (p0 : 0 ≤ p) (p1 : p < A 0) (v0 : Int64) (k : K (vG (vR A p) v0 13)) : ∃ n, wp_L_view_L89 σ p K Q n v0 0 := by
  have key : ∀ (n : Nat) (v : Int), 0 ≤ v → v ≤ 13 → 13 - v < n → wp_L_view_L89 σ p K Q n (vG (vR A p) v0 v.toNat) v := by
    intro n
    induction n with
    | zero => intro v _ _ _; omega
    | succ n ih =>
      intro v v0' v1 hn
      rw [wp_L_view_L89]
      refine ⟨fun c => by rw [show v = 13 by omega]; exact k, fun c => R_ofRoad h hA p0 p1 v0' (by omega) ⟨zRi (by omega) (by omega), ?_⟩⟩
      have := ih (v + 1) (by omega) (by omega) (by omega)
      rw [show (v + 1).toNat = v.toNat + 1 by omega, vG, show ((v.toNat : Nat) : Int) = v by omega] at this
      exact this
  exact ⟨14, key 14 0 (by omega) (by omega) (by omega)⟩
theorem V77 (h : RX σ 0 A) (hA : OKA A B) (v0 : Int64) (k : K (vH (vR A) 13 v0 (A 0).toNat)) : ∃ n, wp_L_view_L77 σ K Q n v0 0 := by
  have bb := hA.1
  have key : ∀ (n : Nat) (v : Int), 0 ≤ v → v ≤ A 0 → A 0 - v < n → wp_L_view_L77 σ K Q n (vH (vR A) 13 v0 v.toNat) v := by
    intro n
    induction n with
    | zero => intro v _ _ _; omega
    | succ n ih =>
      intro v v0' v1 hn
      rw [wp_L_view_L77]
      refine R_cnt h (by omega) (by omega) ?_
      refine ⟨fun c => by rw [show v = A 0 by omega]; exact k, fun c => V89 h hA v0' (by omega) _ ⟨zRi (by omega) (by omega), ?_⟩⟩
      have := ih (v + 1) (by omega) (by omega) (by omega)
      rw [show (v + 1).toNat = v.toNat + 1 by omega, vH, show ((v.toNat : Nat) : Int) = v by omega] at this
      exact this
  exact ⟨((A 0).toNat + 1), key ((A 0).toNat + 1) 0 (by omega) (by omega) (by omega)⟩
theorem V137 (h : RX σ 0 A) (hA : OKA A B) {p : Int} (p0 : 0 ≤ p) (p1 : p < A 1) (v0 : Int64) (k : K (vG (vC A p) v0 3)) : ∃ n, wp_L_view_L137 σ p K Q n v0 0 := by
  have key : ∀ (n : Nat) (v : Int), 0 ≤ v → v ≤ 3 → 3 - v < n → wp_L_view_L137 σ p K Q n (vG (vC A p) v0 v.toNat) v := by
    intro n
    induction n with
    | zero => intro v _ _ _; omega
    | succ n ih =>
      intro v v0' v1 hn
      rw [wp_L_view_L137]
      refine ⟨fun c => by rw [show v = 3 by omega]; exact k, fun c => R_ofClosure h hA p0 p1 v0' (by omega) ⟨zRi (by omega) (by omega), ?_⟩⟩
      have := ih (v + 1) (by omega) (by omega) (by omega)
      rw [show (v + 1).toNat = v.toNat + 1 by omega, vG, show ((v.toNat : Nat) : Int) = v by omega] at this
      exact this
  exact ⟨4, key 4 0 (by omega) (by omega) (by omega)⟩
theorem V125 (h : RX σ 0 A) (hA : OKA A B) (v0 : Int64) (k : K (vH (vC A) 3 v0 (A 1).toNat)) : ∃ n, wp_L_view_L125 σ K Q n v0 0 := by
  have bb := hA.2.1
  have key : ∀ (n : Nat) (v : Int), 0 ≤ v → v ≤ A 1 → A 1 - v < n → wp_L_view_L125 σ K Q n (vH (vC A) 3 v0 v.toNat) v := by
    intro n
    induction n with
    | zero => intro v _ _ _; omega
    | succ n ih =>
      intro v v0' v1 hn
      rw [wp_L_view_L125]
      refine R_cnt h (by omega) (by omega) ?_
      refine ⟨fun c => by rw [show v = A 1 by omega]; exact k, fun c => V137 h hA v0' (by omega) _ ⟨zRi (by omega) (by omega), ?_⟩⟩
      have := ih (v + 1) (by omega) (by omega) (by omega)
      rw [show (v + 1).toNat = v.toNat + 1 by omega, vH, show ((v.toNat : Nat) : Int) = v by omega] at this
      exact this
  exact ⟨((A 1).toNat + 1), key ((A 1).toNat + 1) 0 (by omega) (by omega) (by omega)⟩
theorem V184 (h : RX σ 0 A) (hA : OKA A B) {p : Int} (p0 : 0 ≤ p) (p1 : p < A 2) (v0 : Int64) (k : K (vG (vT A p) v0 8)) : ∃ n, wp_L_view_L184 σ p K Q n v0 0 := by
  have key : ∀ (n : Nat) (v : Int), 0 ≤ v → v ≤ 8 → 8 - v < n → wp_L_view_L184 σ p K Q n (vG (vT A p) v0 v.toNat) v := by
    intro n
    induction n with
    | zero => intro v _ _ _; omega
    | succ n ih =>
      intro v v0' v1 hn
      rw [wp_L_view_L184]
      refine ⟨fun c => by rw [show v = 8 by omega]; exact k, fun c => R_ofTraveller h hA v0' (by omega) ⟨zRi (by omega) (by omega), ?_⟩⟩
      have := ih (v + 1) (by omega) (by omega) (by omega)
      rw [show (v + 1).toNat = v.toNat + 1 by omega, vG, show ((v.toNat : Nat) : Int) = v by omega] at this
      exact this
  exact ⟨9, key 9 0 (by omega) (by omega) (by omega)⟩
theorem V172 (h : RX σ 0 A) (hA : OKA A B) (v0 : Int64) (k : K (vH (vT A) 8 v0 (A 2).toNat)) : ∃ n, wp_L_view_L172 σ K n v0 0 := by
  have bb := hA.2.2.1
  have key : ∀ (n : Nat) (v : Int), 0 ≤ v → v ≤ A 2 → A 2 - v < n → wp_L_view_L172 σ K n (vH (vT A) 8 v0 v.toNat) v := by
    intro n
    induction n with
    | zero => intro v _ _ _; omega
    | succ n ih =>
      intro v v0' v1 hn
      rw [wp_L_view_L172]
      refine R_cnt h (by omega) (by omega) ?_
      refine ⟨fun c => by rw [show v = A 2 by omega]; exact k, fun c => V184 h hA v0' (by omega) _ ⟨zRi (by omega) (by omega), ?_⟩⟩
      have := ih (v + 1) (by omega) (by omega) (by omega)
      rw [show (v + 1).toNat = v.toNat + 1 by omega, vH, show ((v.toNat : Nat) : Int) = v by omega] at this
      exact this
  exact ⟨((A 2).toNat + 1), key ((A 2).toNat + 1) 0 (by omega) (by omega) (by omega)⟩
theorem L_view (h : RX σ 0 A) (hA : OKA A B) (k : Q (VW A)) : wp_L_view σ Q := by
  unfold wp_L_view
  exact V6 h _ (V32 h hA _ (V77 h hA _ (V125 h hA _ (V172 h hA _ k))))
end VIEW
theorem zLcmp_rfl (x : Int64) : zLcmp x x = 0 := by
  unfold zLcmp lg_cmp
  simp
