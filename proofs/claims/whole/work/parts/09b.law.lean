/-! the law's loop: a walk over its weakest precondition -/
def R_law : String := "GateRoadsLaw"
def lw_Q (_ : Array Value) (s : State) (o : Outcome) (t : State) : Prop := o = .returned (some (.int 1)) ∧ Framed s o t [] 600000 7302250
def lw_Z (below : List Frame) (a : Array Value) (s : State) : State → Prop := fun t => ∃ o, t.status = .running ∧ Ended t below o ∧ lw_Q a s o t
/-- the law's own end, with 1 on the stack, nothing written that was there before, its room as the claim has it -/
theorem lw_ret {p : Program} {l : Launch} {e : Env} {s : State} {m : MethodId} {below : List Frame} {meth : Method} {c : Code} {b : Nat} (hx : p.tables.exec = Jvm.exec) (hb : c.code = code) (hr : meth.sig.returnType = ret) (hlocks : meth.locks = false) {pc : Nat} {H : Heap} {ls : Array Slot} (hdg : decode code pc = .ok (.ireturn, 1)) : W p l e room_1 s m #[Value.ref b] below meth c H [] 600000 7302250 (lw_Z below #[Value.ref b] s) (F0 m pc ls [.int 1]) := by
  intro T hT X
  obtain ⟨fs, hret, hrun, hended, hW, hframe⟩ := X.leave (v := some (.int 1)) (hlocks := hlocks) (fun h => by rw [hr] at h; cases h)
  have hmeth' : T.vm.method? m = some meth := X.method'
  refine ⟨T.setFrames fs, ?_, .returned (some (.int 1)), hrun, hended, rfl, ⟨_, rfl⟩, hW, hframe⟩
  jvm_step X.here [X.here.top, hx, hb, hdg, hmeth', hr, ret, narrow_b1]
  (try refine ⟨rfl, ?_⟩); (try refine ⟨rfl, ?_⟩)
  first | (intro acts; rw [hret _ acts rfl rfl rfl]) | rw [hret _ _ rfl rfl rfl]
  exact Steps.refl _
def zSx (xs : Nat → Int32) (i : Int) : Int := (xs i.toNat).toInt
theorem zSx_rg (xs : Nat → Int32) (i : Int) : zR (zSx xs i) := zI_rg _
def zSc (X : zX) (G : zG) (b N : Nat) (scr : Nat → Int32) : Prop := va_X b N scr (xs X) (gH G) ∧ b < (gH G).size ∧ ¬ gA G b ∧ N ≤ 2560
/-- the law's own frame: its room is the claim's, what it may change is what is new -/
def zLw (X : zX) (G : zG) (b : Nat) : Prop := xR X = room_1 ∧ xa X = #[Value.ref b] ∧ gc G ≤ 600000 ∧ gs G ≤ 7302250 ∧ ∀ q, gA G q → (xs X).heap.size ≤ q
def zLaw (X : zX) (G : zG) (b N : Nat) (scr : Nat → Int32) : Prop := zSc X G b N scr ∧ zLw X G b ∧ zR (N : Int)
section JL
variable {X : zX} {G : zG} {Q : State → Prop} {nL pc pc' : Nat} {L L' : List (Nat × Value)} {st stk : List Value} {σ : zM} {cc : ByteArray} {own : String} {rt : Option FieldType} {rF rL : Nat} {b N : Nat} {scr : Nat → Int32}
theorem j_sld (C : zC X G cc own nL rt rF rL) (hB : zSc X G b N scr) {i : Int} (d : zd cc pc pc' .iaload 1) (h : 0 ≤ i ∧ i < (N : Int)) (k : zJ X G Q nL pc' L (.int (zI (zSx scr i)) :: st) σ) : zJ X G Q nL pc L (.int (zI i) :: .ref b :: st) σ := by
  obtain ⟨d, rfl⟩ := d
  obtain ⟨hX, hbl, hbA, hN⟩ := hB
  obtain ⟨h1, h2, h3⟩ := zI_ix h (by omega)
  intro H locs ls hL hP hD hS
  rw [C.2.2.2.2.2.2.2.2.2.2.1] at hX hbl hS
  have hX' : va_X b N scr (xs X) (xs X).heap := hX
  refine va_sld C.1 C.2.1 hX' hbl hbA hS h1 d ?_
  rw [h2]
  have := k H locs ls hL hP hD (by rw [C.2.2.2.2.2.2.2.2.2.2.1]; exact hS)
  rwa [show zI (zSx scr i) = scr i.toNat from zI_of _] at this
theorem j_slen (C : zC X G cc own nL rt rF rL) (hB : zSc X G b N scr) (d : zd cc pc pc' .arraylength 1) (k : zJ X G Q nL pc' L (.int (zI (N : Int)) :: st) σ) : zJ X G Q nL pc L (.ref b :: st) σ := by
  obtain ⟨d, rfl⟩ := d
  obtain ⟨hX, hbl, hbA, hN⟩ := hB
  intro H locs ls hL hP hD hS
  refine va_slen C.1 C.2.1 hX hbl hbA hS d ?_
  have := k H locs ls hL hP hD hS
  rwa [show zI (N : Int) = Int32.ofNat N from Int32.ofInt_eq_ofNat] at this
theorem j_lawret (C : zC X G code own nL ret rF rL) (hZ : zLw X G b) {z : Int} (d : zd code pc pc' .ireturn 1) (h : z = 1) : zJ X G (lw_Z (xb X) #[Value.ref b] (xs X)) nL pc L [.int (zI z)] σ := by
  obtain ⟨d, rfl⟩ := d
  subst h
  obtain ⟨e1, e2, h1, h2, hA⟩ := hZ
  obtain ⟨hx, hb, -, -, -, hlk, hr, -, -, -, hH, -⟩ := C
  intro H locs ls hL hP hD hS
  rw [e1, e2]
  refine va_forget (fun q hq => hA _ (hS.2.2 q hq)) ?_
  refine W.widen (k := 600000) (n := 7302250) h1 h2 ?_
  exact lw_ret hx hb hr hlk d
end JL
def wp_L_law_b1188 (scr : Nat → Int32) (N : Nat) (k18 : zM → Int → Prop) (Q : Int → zM → Prop) (σ : zM) (v3 : Int) : Prop := zR (v3 + 5) ∧ k18 σ (v3 + 5)
def wp_L_law_L18 (scr : Nat → Int32) (N : Nat) (Q : Int → zM → Prop) : Nat → zM → Int → Prop
  | 0, _, _ => False
  | n + 1, σ, v3 => zR ((N : Int) - 5) ∧ ((((N : Int) - 5) < v3 → (1 : Int) = 1) ∧ (¬ ((N : Int) - 5) < v3 → (0 ≤ v3 ∧ v3 < (N : Int)) ∧ (((zAnd (zSx scr v3) 31) = 0 → (0 ≤ (v3 + 1) ∧ (v3 + 1) < (N : Int)) ∧ (0 ≤ (v3 + 2) ∧ (v3 + 2) < (N : Int)) ∧ (0 ≤ (v3 + 3) ∧ (v3 + 3) < (N : Int)) ∧ (0 ≤ (v3 + 4) ∧ (v3 + 4) < (N : Int)) ∧ wp_X_room σ (zSx scr (v3 + 1)) (zSx scr (v3 + 2)) (zSx scr (v3 + 3)) (zSx scr (v3 + 4)) (fun z7 σ8 => (0 ≤ (v3 + 1) ∧ (v3 + 1) < (N : Int)) ∧ (0 ≤ (v3 + 2) ∧ (v3 + 2) < (N : Int)) ∧ (0 ≤ (v3 + 3) ∧ (v3 + 3) < (N : Int)) ∧ (0 ≤ (v3 + 4) ∧ (v3 + 4) < (N : Int)) ∧ wp_M_room σ8 (zSx scr (v3 + 1)) (zSx scr (v3 + 2)) (zSx scr (v3 + 3)) (zSx scr (v3 + 4)) (fun z13 σ14 => ((z7 = z13 → wp_L_law_b1188 scr N (wp_L_law_L18 scr N Q n) Q σ14 v3) ∧ (¬ z7 = z13 → (0 : Int) = 1))))) ∧ ((zAnd (zSx scr v3) 31) = 1 → (0 ≤ (v3 + 1) ∧ (v3 + 1) < (N : Int)) ∧ (0 ≤ (v3 + 2) ∧ (v3 + 2) < (N : Int)) ∧ (0 ≤ (v3 + 3) ∧ (v3 + 3) < (N : Int)) ∧ wp_X_road σ (zSx scr (v3 + 1)) (zSx scr (v3 + 2)) (zSx scr (v3 + 3)) (fun z19 σ20 => (0 ≤ (v3 + 1) ∧ (v3 + 1) < (N : Int)) ∧ (0 ≤ (v3 + 2) ∧ (v3 + 2) < (N : Int)) ∧ (0 ≤ (v3 + 3) ∧ (v3 + 3) < (N : Int)) ∧ wp_M_road σ20 (zSx scr (v3 + 1)) (zSx scr (v3 + 2)) (zSx scr (v3 + 3)) (fun z24 σ25 => ((z19 = z24 → wp_L_law_b1188 scr N (wp_L_law_L18 scr N Q n) Q σ25 v3) ∧ (¬ z19 = z24 → (0 : Int) = 1))))) ∧ ((zAnd (zSx scr v3) 31) = 2 → (0 ≤ (v3 + 1) ∧ (v3 + 1) < (N : Int)) ∧ (0 ≤ (v3 + 2) ∧ (v3 + 2) < (N : Int)) ∧ (0 ≤ (v3 + 3) ∧ (v3 + 3) < (N : Int)) ∧ (0 ≤ (v3 + 4) ∧ (v3 + 4) < (N : Int)) ∧ wp_X_open σ (zSx scr (v3 + 1)) (zSx scr (v3 + 2)) (zSx scr (v3 + 3)) (zSx scr (v3 + 4)) (fun z30 σ31 => (0 ≤ (v3 + 1) ∧ (v3 + 1) < (N : Int)) ∧ (0 ≤ (v3 + 2) ∧ (v3 + 2) < (N : Int)) ∧ (0 ≤ (v3 + 3) ∧ (v3 + 3) < (N : Int)) ∧ (0 ≤ (v3 + 4) ∧ (v3 + 4) < (N : Int)) ∧ wp_M_open σ31 (zSx scr (v3 + 1)) (zSx scr (v3 + 2)) (zSx scr (v3 + 3)) (zSx scr (v3 + 4)) (fun z36 σ37 => ((z30 = z36 → wp_L_law_b1188 scr N (wp_L_law_L18 scr N Q n) Q σ37 v3) ∧ (¬ z30 = z36 → (0 : Int) = 1))))) ∧ ((zAnd (zSx scr v3) 31) = 3 → (0 ≤ (v3 + 1) ∧ (v3 + 1) < (N : Int)) ∧ (0 ≤ (v3 + 2) ∧ (v3 + 2) < (N : Int)) ∧ (0 ≤ (v3 + 3) ∧ (v3 + 3) < (N : Int)) ∧ wp_X_more σ (zSx scr (v3 + 1)) (zSx scr (v3 + 2)) (zSx scr (v3 + 3)) (fun z41 σ42 => (0 ≤ (v3 + 1) ∧ (v3 + 1) < (N : Int)) ∧ (0 ≤ (v3 + 2) ∧ (v3 + 2) < (N : Int)) ∧ (0 ≤ (v3 + 3) ∧ (v3 + 3) < (N : Int)) ∧ wp_M_more σ42 (zSx scr (v3 + 1)) (zSx scr (v3 + 2)) (zSx scr (v3 + 3)) (fun z46 σ47 => ((z41 = z46 → wp_L_law_b1188 scr N (wp_L_law_L18 scr N Q n) Q σ47 v3) ∧ (¬ z41 = z46 → (0 : Int) = 1))))) ∧ ((zAnd (zSx scr v3) 31) = 4 → (0 ≤ (v3 + 1) ∧ (v3 + 1) < (N : Int)) ∧ (0 ≤ (v3 + 2) ∧ (v3 + 2) < (N : Int)) ∧ (0 ≤ (v3 + 3) ∧ (v3 + 3) < (N : Int)) ∧ wp_X_close σ (zSx scr (v3 + 1)) (zSx scr (v3 + 2)) (zSx scr (v3 + 3)) (fun z51 σ52 => (0 ≤ (v3 + 1) ∧ (v3 + 1) < (N : Int)) ∧ (0 ≤ (v3 + 2) ∧ (v3 + 2) < (N : Int)) ∧ (0 ≤ (v3 + 3) ∧ (v3 + 3) < (N : Int)) ∧ wp_M_close σ52 (zSx scr (v3 + 1)) (zSx scr (v3 + 2)) (zSx scr (v3 + 3)) (fun z56 σ57 => ((z51 = z56 → wp_L_law_b1188 scr N (wp_L_law_L18 scr N Q n) Q σ57 v3) ∧ (¬ z51 = z56 → (0 : Int) = 1))))) ∧ ((zAnd (zSx scr v3) 31) = 5 → (0 ≤ (v3 + 1) ∧ (v3 + 1) < (N : Int)) ∧ wp_X_lift σ (zSx scr (v3 + 1)) (fun z59 σ60 => (0 ≤ (v3 + 1) ∧ (v3 + 1) < (N : Int)) ∧ wp_M_lift σ60 (zSx scr (v3 + 1)) (fun z62 σ63 => ((z59 = z62 → wp_L_law_b1188 scr N (wp_L_law_L18 scr N Q n) Q σ63 v3) ∧ (¬ z59 = z62 → (0 : Int) = 1))))) ∧ ((zAnd (zSx scr v3) 31) = 6 → (0 ≤ (v3 + 1) ∧ (v3 + 1) < (N : Int)) ∧ (0 ≤ (v3 + 2) ∧ (v3 + 2) < (N : Int)) ∧ wp_X_traveller σ (zSx scr (v3 + 1)) (zSx scr (v3 + 2)) (fun z66 σ67 => (0 ≤ (v3 + 1) ∧ (v3 + 1) < (N : Int)) ∧ (0 ≤ (v3 + 2) ∧ (v3 + 2) < (N : Int)) ∧ wp_M_traveller σ67 (zSx scr (v3 + 1)) (zSx scr (v3 + 2)) (fun z70 σ71 => ((z66 = z70 → wp_L_law_b1188 scr N (wp_L_law_L18 scr N Q n) Q σ71 v3) ∧ (¬ z66 = z70 → (0 : Int) = 1))))) ∧ ((zAnd (zSx scr v3) 31) = 7 → (0 ≤ (v3 + 1) ∧ (v3 + 1) < (N : Int)) ∧ (0 ≤ (v3 + 2) ∧ (v3 + 2) < (N : Int)) ∧ wp_X_go σ (zSx scr (v3 + 1)) (zSx scr (v3 + 2)) (fun z74 σ75 => (0 ≤ (v3 + 1) ∧ (v3 + 1) < (N : Int)) ∧ (0 ≤ (v3 + 2) ∧ (v3 + 2) < (N : Int)) ∧ wp_M_go σ75 (zSx scr (v3 + 1)) (zSx scr (v3 + 2)) (fun z78 σ79 => ((z74 = z78 → wp_L_law_b1188 scr N (wp_L_law_L18 scr N Q n) Q σ79 v3) ∧ (¬ z74 = z78 → (0 : Int) = 1))))) ∧ ((zAnd (zSx scr v3) 31) = 8 → (0 ≤ (v3 + 1) ∧ (v3 + 1) < (N : Int)) ∧ (0 ≤ (v3 + 2) ∧ (v3 + 2) < (N : Int)) ∧ wp_X_stay σ (zSx scr (v3 + 1)) (zSx scr (v3 + 2)) (fun z82 σ83 => (0 ≤ (v3 + 1) ∧ (v3 + 1) < (N : Int)) ∧ (0 ≤ (v3 + 2) ∧ (v3 + 2) < (N : Int)) ∧ wp_M_stay σ83 (zSx scr (v3 + 1)) (zSx scr (v3 + 2)) (fun z86 σ87 => ((z82 = z86 → wp_L_law_b1188 scr N (wp_L_law_L18 scr N Q n) Q σ87 v3) ∧ (¬ z82 = z86 → (0 : Int) = 1))))) ∧ ((zAnd (zSx scr v3) 31) = 9 → (0 ≤ (v3 + 1) ∧ (v3 + 1) < (N : Int)) ∧ (0 ≤ (v3 + 2) ∧ (v3 + 2) < (N : Int)) ∧ wp_X_ofPlace σ (zSx scr (v3 + 1)) (zSx scr (v3 + 2)) (fun z90 => (0 ≤ (v3 + 1) ∧ (v3 + 1) < (N : Int)) ∧ (0 ≤ (v3 + 2) ∧ (v3 + 2) < (N : Int)) ∧ wp_M_ofPlace σ (zSx scr (v3 + 1)) (zSx scr (v3 + 2)) (fun z94 => ((z90 = z94 → wp_L_law_b1188 scr N (wp_L_law_L18 scr N Q n) Q σ v3) ∧ (¬ z90 = z94 → (0 : Int) = 1))))) ∧ ((zAnd (zSx scr v3) 31) = 10 → (0 ≤ (v3 + 1) ∧ (v3 + 1) < (N : Int)) ∧ (0 ≤ (v3 + 2) ∧ (v3 + 2) < (N : Int)) ∧ wp_X_ofRoad σ (zSx scr (v3 + 1)) (zSx scr (v3 + 2)) (fun z98 => (0 ≤ (v3 + 1) ∧ (v3 + 1) < (N : Int)) ∧ (0 ≤ (v3 + 2) ∧ (v3 + 2) < (N : Int)) ∧ wp_M_ofRoad σ (zSx scr (v3 + 1)) (zSx scr (v3 + 2)) (fun z102 => ((z98 = z102 → wp_L_law_b1188 scr N (wp_L_law_L18 scr N Q n) Q σ v3) ∧ (¬ z98 = z102 → (0 : Int) = 1))))) ∧ ((zAnd (zSx scr v3) 31) = 11 → (0 ≤ (v3 + 1) ∧ (v3 + 1) < (N : Int)) ∧ (0 ≤ (v3 + 2) ∧ (v3 + 2) < (N : Int)) ∧ wp_X_ofClosure σ (zSx scr (v3 + 1)) (zSx scr (v3 + 2)) (fun z106 => (0 ≤ (v3 + 1) ∧ (v3 + 1) < (N : Int)) ∧ (0 ≤ (v3 + 2) ∧ (v3 + 2) < (N : Int)) ∧ wp_M_ofClosure σ (zSx scr (v3 + 1)) (zSx scr (v3 + 2)) (fun z110 => ((z106 = z110 → wp_L_law_b1188 scr N (wp_L_law_L18 scr N Q n) Q σ v3) ∧ (¬ z106 = z110 → (0 : Int) = 1))))) ∧ ((zAnd (zSx scr v3) 31) = 12 → (0 ≤ (v3 + 1) ∧ (v3 + 1) < (N : Int)) ∧ (0 ≤ (v3 + 2) ∧ (v3 + 2) < (N : Int)) ∧ wp_X_ofTraveller σ (zSx scr (v3 + 1)) (zSx scr (v3 + 2)) (fun z114 => (0 ≤ (v3 + 1) ∧ (v3 + 1) < (N : Int)) ∧ (0 ≤ (v3 + 2) ∧ (v3 + 2) < (N : Int)) ∧ wp_M_ofTraveller σ (zSx scr (v3 + 1)) (zSx scr (v3 + 2)) (fun z118 => ((z114 = z118 → wp_L_law_b1188 scr N (wp_L_law_L18 scr N Q n) Q σ v3) ∧ (¬ z114 = z118 → (0 : Int) = 1))))) ∧ ((zAnd (zSx scr v3) 31) = 13 → (0 ≤ (v3 + 1) ∧ (v3 + 1) < (N : Int)) ∧ wp_X_count σ (zSx scr (v3 + 1)) (fun z121 => (0 ≤ (v3 + 1) ∧ (v3 + 1) < (N : Int)) ∧ wp_M_count σ (zSx scr (v3 + 1)) (fun z124 => ((z121 = z124 → wp_L_law_b1188 scr N (wp_L_law_L18 scr N Q n) Q σ v3) ∧ (¬ z121 = z124 → (0 : Int) = 1))))) ∧ ((zAnd (zSx scr v3) 31) = 14 → (0 ≤ (v3 + 1) ∧ (v3 + 1) < (N : Int)) ∧ (0 ≤ (v3 + 2) ∧ (v3 + 2) < (N : Int)) ∧ wp_X_whyShut σ (zSx scr (v3 + 1)) (zSx scr (v3 + 2)) (fun z128 => (0 ≤ (v3 + 1) ∧ (v3 + 1) < (N : Int)) ∧ (0 ≤ (v3 + 2) ∧ (v3 + 2) < (N : Int)) ∧ wp_M_whyShut σ (zSx scr (v3 + 1)) (zSx scr (v3 + 2)) (fun z132 => ((z128 = z132 → wp_L_law_b1188 scr N (wp_L_law_L18 scr N Q n) Q σ v3) ∧ (¬ z128 = z132 → (0 : Int) = 1))))) ∧ ((zAnd (zSx scr v3) 31) = 15 → (0 ≤ (v3 + 1) ∧ (v3 + 1) < (N : Int)) ∧ (0 ≤ (v3 + 2) ∧ (v3 + 2) < (N : Int)) ∧ (0 ≤ (v3 + 3) ∧ (v3 + 3) < (N : Int)) ∧ wp_X_earliest σ (zSx scr (v3 + 1)) (zSx scr (v3 + 2)) (zSx scr (v3 + 3)) (fun z137 σ138 => (0 ≤ (v3 + 1) ∧ (v3 + 1) < (N : Int)) ∧ (0 ≤ (v3 + 2) ∧ (v3 + 2) < (N : Int)) ∧ (0 ≤ (v3 + 3) ∧ (v3 + 3) < (N : Int)) ∧ wp_M_earliest σ138 (zSx scr (v3 + 1)) (zSx scr (v3 + 2)) (zSx scr (v3 + 3)) (fun z142 σ143 => ((z137 = z142 → wp_L_law_b1188 scr N (wp_L_law_L18 scr N Q n) Q σ143 v3) ∧ (¬ z137 = z142 → (0 : Int) = 1))))) ∧ ((zAnd (zSx scr v3) 31) = 16 → (0 ≤ (v3 + 1) ∧ (v3 + 1) < (N : Int)) ∧ (0 ≤ (v3 + 2) ∧ (v3 + 2) < (N : Int)) ∧ (0 ≤ (v3 + 3) ∧ (v3 + 3) < (N : Int)) ∧ wp_X_latest σ (zSx scr (v3 + 1)) (zSx scr (v3 + 2)) (zSx scr (v3 + 3)) (fun z147 σ148 => (0 ≤ (v3 + 1) ∧ (v3 + 1) < (N : Int)) ∧ (0 ≤ (v3 + 2) ∧ (v3 + 2) < (N : Int)) ∧ (0 ≤ (v3 + 3) ∧ (v3 + 3) < (N : Int)) ∧ wp_M_latest σ148 (zSx scr (v3 + 1)) (zSx scr (v3 + 2)) (zSx scr (v3 + 3)) (fun z152 σ153 => ((z147 = z152 → wp_L_law_b1188 scr N (wp_L_law_L18 scr N Q n) Q σ153 v3) ∧ (¬ z147 = z152 → (0 : Int) = 1))))) ∧ ((zAnd (zSx scr v3) 31) = 17 → (0 ≤ (v3 + 1) ∧ (v3 + 1) < (N : Int)) ∧ (0 ≤ (v3 + 2) ∧ (v3 + 2) < (N : Int)) ∧ (0 ≤ (v3 + 3) ∧ (v3 + 3) < (N : Int)) ∧ (0 ≤ (v3 + 4) ∧ (v3 + 4) < (N : Int)) ∧ wp_X_way σ (zSx scr (v3 + 1)) (zSx scr (v3 + 2)) (zSx scr (v3 + 3)) (zSx scr (v3 + 4)) (fun z158 σ159 => (0 ≤ (v3 + 1) ∧ (v3 + 1) < (N : Int)) ∧ (0 ≤ (v3 + 2) ∧ (v3 + 2) < (N : Int)) ∧ (0 ≤ (v3 + 3) ∧ (v3 + 3) < (N : Int)) ∧ (0 ≤ (v3 + 4) ∧ (v3 + 4) < (N : Int)) ∧ wp_M_way σ159 (zSx scr (v3 + 1)) (zSx scr (v3 + 2)) (zSx scr (v3 + 3)) (zSx scr (v3 + 4)) (fun z164 σ165 => ((z158 = z164 → wp_L_law_b1188 scr N (wp_L_law_L18 scr N Q n) Q σ165 v3) ∧ (¬ z158 = z164 → (0 : Int) = 1))))) ∧ ((zAnd (zSx scr v3) 31) = 18 → (0 ≤ (v3 + 1) ∧ (v3 + 1) < (N : Int)) ∧ (0 ≤ (v3 + 2) ∧ (v3 + 2) < (N : Int)) ∧ (0 ≤ (v3 + 3) ∧ (v3 + 3) < (N : Int)) ∧ wp_X_reach σ (zSx scr (v3 + 1)) (zSx scr (v3 + 2)) (zSx scr (v3 + 3)) (fun z169 σ170 => (0 ≤ (v3 + 1) ∧ (v3 + 1) < (N : Int)) ∧ (0 ≤ (v3 + 2) ∧ (v3 + 2) < (N : Int)) ∧ (0 ≤ (v3 + 3) ∧ (v3 + 3) < (N : Int)) ∧ wp_M_reach σ170 (zSx scr (v3 + 1)) (zSx scr (v3 + 2)) (zSx scr (v3 + 3)) (fun z174 σ175 => ((z169 = z174 → wp_L_law_b1188 scr N (wp_L_law_L18 scr N Q n) Q σ175 v3) ∧ (¬ z169 = z174 → (0 : Int) = 1))))) ∧ ((zAnd (zSx scr v3) 31) = 19 → (0 ≤ (v3 + 1) ∧ (v3 + 1) < (N : Int)) ∧ (0 ≤ (v3 + 2) ∧ (v3 + 2) < (N : Int)) ∧ (0 ≤ (v3 + 3) ∧ (v3 + 3) < (N : Int)) ∧ wp_X_needed σ (zSx scr (v3 + 1)) (zSx scr (v3 + 2)) (zSx scr (v3 + 3)) (fun z179 σ180 => (0 ≤ (v3 + 1) ∧ (v3 + 1) < (N : Int)) ∧ (0 ≤ (v3 + 2) ∧ (v3 + 2) < (N : Int)) ∧ (0 ≤ (v3 + 3) ∧ (v3 + 3) < (N : Int)) ∧ wp_M_needed σ180 (zSx scr (v3 + 1)) (zSx scr (v3 + 2)) (zSx scr (v3 + 3)) (fun z184 σ185 => ((z179 = z184 → wp_L_law_b1188 scr N (wp_L_law_L18 scr N Q n) Q σ185 v3) ∧ (¬ z179 = z184 → (0 : Int) = 1))))) ∧ ((zAnd (zSx scr v3) 31) = 20 → (0 ≤ (v3 + 1) ∧ (v3 + 1) < (N : Int)) ∧ (0 ≤ (v3 + 2) ∧ (v3 + 2) < (N : Int)) ∧ (0 ≤ (v3 + 3) ∧ (v3 + 3) < (N : Int)) ∧ wp_X_meet σ (zSx scr (v3 + 1)) (zSx scr (v3 + 2)) (zSx scr (v3 + 3)) (fun z189 σ190 => (0 ≤ (v3 + 1) ∧ (v3 + 1) < (N : Int)) ∧ (0 ≤ (v3 + 2) ∧ (v3 + 2) < (N : Int)) ∧ (0 ≤ (v3 + 3) ∧ (v3 + 3) < (N : Int)) ∧ wp_M_meet σ190 (zSx scr (v3 + 1)) (zSx scr (v3 + 2)) (zSx scr (v3 + 3)) (fun z194 σ195 => ((z189 = z194 → wp_L_law_b1188 scr N (wp_L_law_L18 scr N Q n) Q σ195 v3) ∧ (¬ z189 = z194 → (0 : Int) = 1))))) ∧ ((zAnd (zSx scr v3) 31) = 21 → (0 ≤ (v3 + 1) ∧ (v3 + 1) < (N : Int)) ∧ (0 ≤ (v3 + 2) ∧ (v3 + 2) < (N : Int)) ∧ wp_X_arrives σ (zSx scr (v3 + 1)) (zSx scr (v3 + 2)) (fun z198 σ199 => (0 ≤ (v3 + 1) ∧ (v3 + 1) < (N : Int)) ∧ (0 ≤ (v3 + 2) ∧ (v3 + 2) < (N : Int)) ∧ wp_M_arrives σ199 (zSx scr (v3 + 1)) (zSx scr (v3 + 2)) (fun z202 σ203 => ((z198 = z202 → wp_L_law_b1188 scr N (wp_L_law_L18 scr N Q n) Q σ203 v3) ∧ (¬ z198 = z202 → (0 : Int) = 1))))) ∧ ((zAnd (zSx scr v3) 31) = 22 → (0 ≤ (v3 + 1) ∧ (v3 + 1) < (N : Int)) ∧ wp_X_canStay σ (zSx scr (v3 + 1)) (fun z205 => (0 ≤ (v3 + 1) ∧ (v3 + 1) < (N : Int)) ∧ wp_M_canStay σ (zSx scr (v3 + 1)) (fun z208 => ((z205 = z208 → wp_L_law_b1188 scr N (wp_L_law_L18 scr N Q n) Q σ v3) ∧ (¬ z205 = z208 → (0 : Int) = 1))))) ∧ ((zAnd (zSx scr v3) 31) = 23 → (0 ≤ (v3 + 1) ∧ (v3 + 1) < (N : Int)) ∧ (0 ≤ (v3 + 2) ∧ (v3 + 2) < (N : Int)) ∧ wp_X_put σ (zLor (zLshl (zI2l (zSx scr (v3 + 1))) 32) (zLand (zI2l (zSx scr (v3 + 2))) (4294967295 : Int64))) (fun z212 σ213 => (0 ≤ (v3 + 1) ∧ (v3 + 1) < (N : Int)) ∧ (0 ≤ (v3 + 2) ∧ (v3 + 2) < (N : Int)) ∧ wp_M_put σ213 (zLor (zLshl (zI2l (zSx scr (v3 + 1))) 32) (zLand (zI2l (zSx scr (v3 + 2))) (4294967295 : Int64))) (fun z216 σ217 => ((z212 = z216 → wp_L_law_b1188 scr N (wp_L_law_L18 scr N Q n) Q σ217 v3) ∧ (¬ z212 = z216 → (0 : Int) = 1))))) ∧ ((zAnd (zSx scr v3) 31) = 24 → wp_X_wipe σ (fun z218 σ219 => wp_M_wipe σ219 (fun z220 σ221 => ((z218 = z220 → wp_L_law_b1188 scr N (wp_L_law_L18 scr N Q n) Q σ221 v3) ∧ (¬ z218 = z220 → (0 : Int) = 1))))) ∧ ((zAnd (zSx scr v3) 31) = 25 → wp_X_fault σ (fun z222 σ223 => wp_M_fault σ223 (fun z224 σ225 => ((z222 = z224 → wp_L_law_b1188 scr N (wp_L_law_L18 scr N Q n) Q σ225 v3) ∧ (¬ z222 = z224 → (0 : Int) = 1))))) ∧ ((zAnd (zSx scr v3) 31) = 26 → wp_X_carryOut σ (fun z226 σ227 => wp_M_carryOut σ227 (fun z228 σ229 => ((z226 = z228 → wp_L_law_b1188 scr N (wp_L_law_L18 scr N Q n) Q σ229 v3) ∧ (¬ z226 = z228 → (0 : Int) = 1))))) ∧ ((zAnd (zSx scr v3) 31) = 27 → wp_X_undo σ (fun z230 σ231 => wp_M_undo σ231 (fun z232 σ233 => ((z230 = z232 → wp_L_law_b1188 scr N (wp_L_law_L18 scr N Q n) Q σ233 v3) ∧ (¬ z230 = z232 → (0 : Int) = 1))))) ∧ ((zAnd (zSx scr v3) 31) = 28 → (0 ≤ (v3 + 1) ∧ (v3 + 1) < (N : Int)) ∧ wp_X_save σ (zSx scr (v3 + 1)) (fun z235 σ236 => (0 ≤ (v3 + 1) ∧ (v3 + 1) < (N : Int)) ∧ wp_M_save σ236 (zSx scr (v3 + 1)) (fun z238 σ239 => ((z235 = z238 → wp_L_law_b1188 scr N (wp_L_law_L18 scr N Q n) Q σ239 v3) ∧ (¬ z235 = z238 → (0 : Int) = 1))))) ∧ ((zAnd (zSx scr v3) 31) = 29 → (0 ≤ (v3 + 1) ∧ (v3 + 1) < (N : Int)) ∧ wp_X_restore σ (zSx scr (v3 + 1)) (fun z241 σ242 => (0 ≤ (v3 + 1) ∧ (v3 + 1) < (N : Int)) ∧ wp_M_restore σ242 (zSx scr (v3 + 1)) (fun z244 σ245 => ((z241 = z244 → wp_L_law_b1188 scr N (wp_L_law_L18 scr N Q n) Q σ245 v3) ∧ (¬ z241 = z244 → (0 : Int) = 1))))) ∧ ((zAnd (zSx scr v3) 31) < 0 ∨ 29 < (zAnd (zSx scr v3) 31) → wp_L_law_b1188 scr N (wp_L_law_L18 scr N Q n) Q σ v3))))
set_option maxRecDepth 100000 in
set_option maxHeartbeats 4000000 in
theorem w_L_law_b1188 {X : zX} {G : zG} {b : Nat} (C : zC X G b_L_law "GateRoadsLaw" 4 (some .boolean) 10 348) {scr : Nat → Int32} {N : Nat} (hN : zLaw X G b N scr) {Q : Int → zM → Prop} {k18 : zM → Int → Prop} (hk18 : ∀ (σ : zM) (v3 : Int), zRM σ → zR v3 → k18 σ v3 → zJ X G (lw_Z (xb X) #[Value.ref b] (xs X)) 4 18 [(0, .ref b), (1, .ref (gad G 54)), (2, .ref (gad G 79)), (3, .int (zI v3))] [] σ) (σ : zM) (v3 : Int) (hσ : zRM σ) (r3 : zR v3) (h : wp_L_law_b1188 scr N k18 Q σ v3) : zJ X G (lw_Z (xb X) #[Value.ref b] (xs X)) 4 1188 [(0, .ref b), (1, .ref (gad G 54)), (2, .ref (gad G 79)), (3, .int (zI v3))] [] σ := by
  unfold wp_L_law_b1188 at h
  obtain ⟨g15, h⟩ := h
  refine j_iinc (L' := [(3, .int (zI (v3 + 5))), (0, .ref b), (1, .ref (gad G 54)), (2, .ref (gad G 79))]) C d_L_law_1188 3 rfl rfl rfl ?_
  refine j_goto (tgt := 18) C d_L_law_1191 rfl ?_
  refine j_sub (L' := [(0, .ref b), (1, .ref (gad G 54)), (2, .ref (gad G 79)), (3, .int (zI (v3 + 5)))]) [1, 2, 3, 0] rfl ?_
  exact hk18 σ (v3 + 5) hσ g15 h
set_option maxRecDepth 100000 in
set_option maxHeartbeats 4000000 in
theorem w_L_law_L18 {X : zX} {G : zG} {b : Nat} (C : zC X G b_L_law "GateRoadsLaw" 4 (some .boolean) 10 348) {scr : Nat → Int32} {N : Nat} (hN : zLaw X G b N scr) {Q : Int → zM → Prop} : ∀ (n : Nat) (σ : zM) (v3 : Int) (hσ : zRM σ) (r3 : zR v3), wp_L_law_L18 scr N Q n σ v3 → zJ X G (lw_Z (xb X) #[Value.ref b] (xs X)) 4 18 [(0, .ref b), (1, .ref (gad G 54)), (2, .ref (gad G 79)), (3, .int (zI v3))] [] σ := by
  intro n
  induction n with
  | zero => intro σ v3 hσ r3 h; exact False.elim h
  | succ n ih =>
    intro σ v3 hσ r3 h
    rw [wp_L_law_L18] at h
    refine j_iload_n C d_L_law_18 3 rfl rfl ?_
    refine j_aload_n C d_L_law_19 0 rfl rfl ?_
    refine j_slen C hN.1 d_L_law_20 ?_
    refine j_iconst C d_L_law_21 ?_
    refine j_isub C d_L_law_22 ?_
    obtain ⟨g1, h⟩ := h
    refine j_icmp_gt (tgt := 1194) C d_L_law_23 rfl r3 g1 (fun c => ?_) (fun c => ?_)
    · have h := h.1 c
      refine j_iconst C d_L_law_1194 ?_
      exact j_lawret C hN.2.1 d_L_law_1195 h
    · have h := h.2 c
      refine j_aload_n C d_L_law_26 0 rfl rfl ?_
      refine j_iload_n C d_L_law_27 3 rfl rfl ?_
      obtain ⟨g2, h⟩ := h
      refine j_sld C hN.1 d_L_law_28 g2 ?_
      refine j_bipush C d_L_law_29 rfl ?_
      refine j_iand C d_L_law_31 ?_
      have hc : (zAnd (zSx scr v3) 31) = 0 ∨ (zAnd (zSx scr v3) 31) = 1 ∨ (zAnd (zSx scr v3) 31) = 2 ∨ (zAnd (zSx scr v3) 31) = 3 ∨ (zAnd (zSx scr v3) 31) = 4 ∨ (zAnd (zSx scr v3) 31) = 5 ∨ (zAnd (zSx scr v3) 31) = 6 ∨ (zAnd (zSx scr v3) 31) = 7 ∨ (zAnd (zSx scr v3) 31) = 8 ∨ (zAnd (zSx scr v3) 31) = 9 ∨ (zAnd (zSx scr v3) 31) = 10 ∨ (zAnd (zSx scr v3) 31) = 11 ∨ (zAnd (zSx scr v3) 31) = 12 ∨ (zAnd (zSx scr v3) 31) = 13 ∨ (zAnd (zSx scr v3) 31) = 14 ∨ (zAnd (zSx scr v3) 31) = 15 ∨ (zAnd (zSx scr v3) 31) = 16 ∨ (zAnd (zSx scr v3) 31) = 17 ∨ (zAnd (zSx scr v3) 31) = 18 ∨ (zAnd (zSx scr v3) 31) = 19 ∨ (zAnd (zSx scr v3) 31) = 20 ∨ (zAnd (zSx scr v3) 31) = 21 ∨ (zAnd (zSx scr v3) 31) = 22 ∨ (zAnd (zSx scr v3) 31) = 23 ∨ (zAnd (zSx scr v3) 31) = 24 ∨ (zAnd (zSx scr v3) 31) = 25 ∨ (zAnd (zSx scr v3) 31) = 26 ∨ (zAnd (zSx scr v3) 31) = 27 ∨ (zAnd (zSx scr v3) 31) = 28 ∨ (zAnd (zSx scr v3) 31) = 29 ∨ ((zAnd (zSx scr v3) 31) < 0 ∨ 29 < (zAnd (zSx scr v3) 31)) := by omega
      rcases hc with c | c | c | c | c | c | c | c | c | c | c | c | c | c | c | c | c | c | c | c | c | c | c | c | c | c | c | c | c | c | c
      · have h := h.1 c
        refine j_tableIn (tgt := 168) C d_L_law_32 (zAnd_rg _ _) 0 c rfl rfl rfl ?_
        refine j_aload_n C d_L_law_168 1 rfl rfl ?_
        refine j_aload_n C d_L_law_169 0 rfl rfl ?_
        refine j_iload_n C d_L_law_170 3 rfl rfl ?_
        refine j_iconst C d_L_law_171 ?_
        refine j_iadd C d_L_law_172 ?_
        obtain ⟨g3, h⟩ := h
        refine j_sld C hN.1 d_L_law_173 g3 ?_
        refine j_aload_n C d_L_law_174 0 rfl rfl ?_
        refine j_iload_n C d_L_law_175 3 rfl rfl ?_
        refine j_iconst C d_L_law_176 ?_
        refine j_iadd C d_L_law_177 ?_
        obtain ⟨g4, h⟩ := h
        refine j_sld C hN.1 d_L_law_178 g4 ?_
        refine j_aload_n C d_L_law_179 0 rfl rfl ?_
        refine j_iload_n C d_L_law_180 3 rfl rfl ?_
        refine j_iconst C d_L_law_181 ?_
        refine j_iadd C d_L_law_182 ?_
        obtain ⟨g5, h⟩ := h
        refine j_sld C hN.1 d_L_law_183 g5 ?_
        refine j_aload_n C d_L_law_184 0 rfl rfl ?_
        refine j_iload_n C d_L_law_185 3 rfl rfl ?_
        refine j_iconst C d_L_law_186 ?_
        refine j_iadd C d_L_law_187 ?_
        obtain ⟨g6, h⟩ := h
        refine j_sld C hN.1 d_L_law_188 g6 ?_
        refine j_callV C d_L_law_189 ml_L_13 mi_X_room (c_X_room (xl X) (gD G) (gad G) (gca G) (v1 := zSx scr (v3 + 1)) (v2 := zSx scr (v3 + 2)) (v3 := zSx scr (v3 + 3)) (v4 := zSx scr (v3 + 4)) hσ (zSx_rg _ _) (zSx_rg _ _) (zSx_rg _ _) (zSx_rg _ _) h) sh_54 rfl rfl rfl rfl rfl rfl rfl (fun z7 σ8 rz7 hσ8 h => ?_)
        refine j_aload_n C d_L_law_192 2 rfl rfl ?_
        refine j_aload_n C d_L_law_193 0 rfl rfl ?_
        refine j_iload_n C d_L_law_194 3 rfl rfl ?_
        refine j_iconst C d_L_law_195 ?_
        refine j_iadd C d_L_law_196 ?_
        obtain ⟨g9, h⟩ := h
        refine j_sld C hN.1 d_L_law_197 g9 ?_
        refine j_aload_n C d_L_law_198 0 rfl rfl ?_
        refine j_iload_n C d_L_law_199 3 rfl rfl ?_
        refine j_iconst C d_L_law_200 ?_
        refine j_iadd C d_L_law_201 ?_
        obtain ⟨g10, h⟩ := h
        refine j_sld C hN.1 d_L_law_202 g10 ?_
        refine j_aload_n C d_L_law_203 0 rfl rfl ?_
        refine j_iload_n C d_L_law_204 3 rfl rfl ?_
        refine j_iconst C d_L_law_205 ?_
        refine j_iadd C d_L_law_206 ?_
        obtain ⟨g11, h⟩ := h
        refine j_sld C hN.1 d_L_law_207 g11 ?_
        refine j_aload_n C d_L_law_208 0 rfl rfl ?_
        refine j_iload_n C d_L_law_209 3 rfl rfl ?_
        refine j_iconst C d_L_law_210 ?_
        refine j_iadd C d_L_law_211 ?_
        obtain ⟨g12, h⟩ := h
        refine j_sld C hN.1 d_L_law_212 g12 ?_
        refine j_callV C d_L_law_213 ml_L_17 mi_M_room (c_M_room (xl X) (gD G) (gad G) (gca G) (v1 := zSx scr (v3 + 1)) (v2 := zSx scr (v3 + 2)) (v3 := zSx scr (v3 + 3)) (v4 := zSx scr (v3 + 4)) hσ8 (zSx_rg _ _) (zSx_rg _ _) (zSx_rg _ _) (zSx_rg _ _) h) sh_79 rfl rfl rfl rfl rfl rfl rfl (fun z13 σ14 rz13 hσ14 h => ?_)
        refine j_icmp_eq (tgt := 1188) C d_L_law_216 rfl rz7 rz13 (fun c => ?_) (fun c => ?_)
        · have h := h.1 c
          refine w_L_law_b1188 C hN ih σ14 v3 hσ14 r3 h
        · have h := h.2 c
          refine j_iconst C d_L_law_219 ?_
          exact j_lawret C hN.2.1 d_L_law_220 h
      · have h := h.2.1 c
        refine j_tableIn (tgt := 221) C d_L_law_32 (zAnd_rg _ _) 1 c rfl rfl rfl ?_
        refine j_aload_n C d_L_law_221 1 rfl rfl ?_
        refine j_aload_n C d_L_law_222 0 rfl rfl ?_
        refine j_iload_n C d_L_law_223 3 rfl rfl ?_
        refine j_iconst C d_L_law_224 ?_
        refine j_iadd C d_L_law_225 ?_
        obtain ⟨g16, h⟩ := h
        refine j_sld C hN.1 d_L_law_226 g16 ?_
        refine j_aload_n C d_L_law_227 0 rfl rfl ?_
        refine j_iload_n C d_L_law_228 3 rfl rfl ?_
        refine j_iconst C d_L_law_229 ?_
        refine j_iadd C d_L_law_230 ?_
        obtain ⟨g17, h⟩ := h
        refine j_sld C hN.1 d_L_law_231 g17 ?_
        refine j_aload_n C d_L_law_232 0 rfl rfl ?_
        refine j_iload_n C d_L_law_233 3 rfl rfl ?_
        refine j_iconst C d_L_law_234 ?_
        refine j_iadd C d_L_law_235 ?_
        obtain ⟨g18, h⟩ := h
        refine j_sld C hN.1 d_L_law_236 g18 ?_
        refine j_callV C d_L_law_237 ml_L_18 mi_X_road (c_X_road (xl X) (gD G) (gad G) (gca G) (v1 := zSx scr (v3 + 1)) (v2 := zSx scr (v3 + 2)) (v3 := zSx scr (v3 + 3)) hσ (zSx_rg _ _) (zSx_rg _ _) (zSx_rg _ _) h) sh_54 rfl rfl rfl rfl rfl rfl rfl (fun z19 σ20 rz19 hσ20 h => ?_)
        refine j_aload_n C d_L_law_240 2 rfl rfl ?_
        refine j_aload_n C d_L_law_241 0 rfl rfl ?_
        refine j_iload_n C d_L_law_242 3 rfl rfl ?_
        refine j_iconst C d_L_law_243 ?_
        refine j_iadd C d_L_law_244 ?_
        obtain ⟨g21, h⟩ := h
        refine j_sld C hN.1 d_L_law_245 g21 ?_
        refine j_aload_n C d_L_law_246 0 rfl rfl ?_
        refine j_iload_n C d_L_law_247 3 rfl rfl ?_
        refine j_iconst C d_L_law_248 ?_
        refine j_iadd C d_L_law_249 ?_
        obtain ⟨g22, h⟩ := h
        refine j_sld C hN.1 d_L_law_250 g22 ?_
        refine j_aload_n C d_L_law_251 0 rfl rfl ?_
        refine j_iload_n C d_L_law_252 3 rfl rfl ?_
        refine j_iconst C d_L_law_253 ?_
        refine j_iadd C d_L_law_254 ?_
        obtain ⟨g23, h⟩ := h
        refine j_sld C hN.1 d_L_law_255 g23 ?_
        refine j_callV C d_L_law_256 ml_L_22 mi_M_road (c_M_road (xl X) (gD G) (gad G) (gca G) (v1 := zSx scr (v3 + 1)) (v2 := zSx scr (v3 + 2)) (v3 := zSx scr (v3 + 3)) hσ20 (zSx_rg _ _) (zSx_rg _ _) (zSx_rg _ _) h) sh_79 rfl rfl rfl rfl rfl rfl rfl (fun z24 σ25 rz24 hσ25 h => ?_)
        refine j_icmp_eq (tgt := 1188) C d_L_law_259 rfl rz19 rz24 (fun c => ?_) (fun c => ?_)
        · have h := h.1 c
          refine w_L_law_b1188 C hN ih σ25 v3 hσ25 r3 h
        · have h := h.2 c
          refine j_iconst C d_L_law_262 ?_
          exact j_lawret C hN.2.1 d_L_law_263 h
      · have h := h.2.2.1 c
        refine j_tableIn (tgt := 264) C d_L_law_32 (zAnd_rg _ _) 2 c rfl rfl rfl ?_
        refine j_aload_n C d_L_law_264 1 rfl rfl ?_
        refine j_aload_n C d_L_law_265 0 rfl rfl ?_
        refine j_iload_n C d_L_law_266 3 rfl rfl ?_
        refine j_iconst C d_L_law_267 ?_
        refine j_iadd C d_L_law_268 ?_
        obtain ⟨g26, h⟩ := h
        refine j_sld C hN.1 d_L_law_269 g26 ?_
        refine j_aload_n C d_L_law_270 0 rfl rfl ?_
        refine j_iload_n C d_L_law_271 3 rfl rfl ?_
        refine j_iconst C d_L_law_272 ?_
        refine j_iadd C d_L_law_273 ?_
        obtain ⟨g27, h⟩ := h
        refine j_sld C hN.1 d_L_law_274 g27 ?_
        refine j_aload_n C d_L_law_275 0 rfl rfl ?_
        refine j_iload_n C d_L_law_276 3 rfl rfl ?_
        refine j_iconst C d_L_law_277 ?_
        refine j_iadd C d_L_law_278 ?_
        obtain ⟨g28, h⟩ := h
        refine j_sld C hN.1 d_L_law_279 g28 ?_
        refine j_aload_n C d_L_law_280 0 rfl rfl ?_
        refine j_iload_n C d_L_law_281 3 rfl rfl ?_
        refine j_iconst C d_L_law_282 ?_
        refine j_iadd C d_L_law_283 ?_
        obtain ⟨g29, h⟩ := h
        refine j_sld C hN.1 d_L_law_284 g29 ?_
        refine j_callV C d_L_law_285 ml_L_23 mi_X_open (c_X_open (xl X) (gD G) (gad G) (gca G) (v1 := zSx scr (v3 + 1)) (v2 := zSx scr (v3 + 2)) (v3 := zSx scr (v3 + 3)) (v4 := zSx scr (v3 + 4)) hσ (zSx_rg _ _) (zSx_rg _ _) (zSx_rg _ _) (zSx_rg _ _) h) sh_54 rfl rfl rfl rfl rfl rfl rfl (fun z30 σ31 rz30 hσ31 h => ?_)
        refine j_aload_n C d_L_law_288 2 rfl rfl ?_
        refine j_aload_n C d_L_law_289 0 rfl rfl ?_
        refine j_iload_n C d_L_law_290 3 rfl rfl ?_
        refine j_iconst C d_L_law_291 ?_
        refine j_iadd C d_L_law_292 ?_
        obtain ⟨g32, h⟩ := h
        refine j_sld C hN.1 d_L_law_293 g32 ?_
        refine j_aload_n C d_L_law_294 0 rfl rfl ?_
        refine j_iload_n C d_L_law_295 3 rfl rfl ?_
        refine j_iconst C d_L_law_296 ?_
        refine j_iadd C d_L_law_297 ?_
        obtain ⟨g33, h⟩ := h
        refine j_sld C hN.1 d_L_law_298 g33 ?_
        refine j_aload_n C d_L_law_299 0 rfl rfl ?_
        refine j_iload_n C d_L_law_300 3 rfl rfl ?_
        refine j_iconst C d_L_law_301 ?_
        refine j_iadd C d_L_law_302 ?_
        obtain ⟨g34, h⟩ := h
        refine j_sld C hN.1 d_L_law_303 g34 ?_
        refine j_aload_n C d_L_law_304 0 rfl rfl ?_
        refine j_iload_n C d_L_law_305 3 rfl rfl ?_
        refine j_iconst C d_L_law_306 ?_
        refine j_iadd C d_L_law_307 ?_
        obtain ⟨g35, h⟩ := h
        refine j_sld C hN.1 d_L_law_308 g35 ?_
        refine j_callV C d_L_law_309 ml_L_26 mi_M_open (c_M_open (xl X) (gD G) (gad G) (gca G) (v1 := zSx scr (v3 + 1)) (v2 := zSx scr (v3 + 2)) (v3 := zSx scr (v3 + 3)) (v4 := zSx scr (v3 + 4)) hσ31 (zSx_rg _ _) (zSx_rg _ _) (zSx_rg _ _) (zSx_rg _ _) h) sh_79 rfl rfl rfl rfl rfl rfl rfl (fun z36 σ37 rz36 hσ37 h => ?_)
        refine j_icmp_eq (tgt := 1188) C d_L_law_312 rfl rz30 rz36 (fun c => ?_) (fun c => ?_)
        · have h := h.1 c
          refine w_L_law_b1188 C hN ih σ37 v3 hσ37 r3 h
        · have h := h.2 c
          refine j_iconst C d_L_law_315 ?_
          exact j_lawret C hN.2.1 d_L_law_316 h
      · have h := h.2.2.2.1 c
        refine j_tableIn (tgt := 317) C d_L_law_32 (zAnd_rg _ _) 3 c rfl rfl rfl ?_
        refine j_aload_n C d_L_law_317 1 rfl rfl ?_
        refine j_aload_n C d_L_law_318 0 rfl rfl ?_
        refine j_iload_n C d_L_law_319 3 rfl rfl ?_
        refine j_iconst C d_L_law_320 ?_
        refine j_iadd C d_L_law_321 ?_
        obtain ⟨g38, h⟩ := h
        refine j_sld C hN.1 d_L_law_322 g38 ?_
        refine j_aload_n C d_L_law_323 0 rfl rfl ?_
        refine j_iload_n C d_L_law_324 3 rfl rfl ?_
        refine j_iconst C d_L_law_325 ?_
        refine j_iadd C d_L_law_326 ?_
        obtain ⟨g39, h⟩ := h
        refine j_sld C hN.1 d_L_law_327 g39 ?_
        refine j_aload_n C d_L_law_328 0 rfl rfl ?_
        refine j_iload_n C d_L_law_329 3 rfl rfl ?_
        refine j_iconst C d_L_law_330 ?_
        refine j_iadd C d_L_law_331 ?_
        obtain ⟨g40, h⟩ := h
        refine j_sld C hN.1 d_L_law_332 g40 ?_
        refine j_callV C d_L_law_333 ml_L_27 mi_X_more (c_X_more (xl X) (gD G) (gad G) (gca G) (v1 := zSx scr (v3 + 1)) (v2 := zSx scr (v3 + 2)) (v3 := zSx scr (v3 + 3)) hσ (zSx_rg _ _) (zSx_rg _ _) (zSx_rg _ _) h) sh_54 rfl rfl rfl rfl rfl rfl rfl (fun z41 σ42 rz41 hσ42 h => ?_)
        refine j_aload_n C d_L_law_336 2 rfl rfl ?_
        refine j_aload_n C d_L_law_337 0 rfl rfl ?_
        refine j_iload_n C d_L_law_338 3 rfl rfl ?_
        refine j_iconst C d_L_law_339 ?_
        refine j_iadd C d_L_law_340 ?_
        obtain ⟨g43, h⟩ := h
        refine j_sld C hN.1 d_L_law_341 g43 ?_
        refine j_aload_n C d_L_law_342 0 rfl rfl ?_
        refine j_iload_n C d_L_law_343 3 rfl rfl ?_
        refine j_iconst C d_L_law_344 ?_
        refine j_iadd C d_L_law_345 ?_
        obtain ⟨g44, h⟩ := h
        refine j_sld C hN.1 d_L_law_346 g44 ?_
        refine j_aload_n C d_L_law_347 0 rfl rfl ?_
        refine j_iload_n C d_L_law_348 3 rfl rfl ?_
        refine j_iconst C d_L_law_349 ?_
        refine j_iadd C d_L_law_350 ?_
        obtain ⟨g45, h⟩ := h
        refine j_sld C hN.1 d_L_law_351 g45 ?_
        refine j_callV C d_L_law_352 ml_L_30 mi_M_more (c_M_more (xl X) (gD G) (gad G) (gca G) (v1 := zSx scr (v3 + 1)) (v2 := zSx scr (v3 + 2)) (v3 := zSx scr (v3 + 3)) hσ42 (zSx_rg _ _) (zSx_rg _ _) (zSx_rg _ _) h) sh_79 rfl rfl rfl rfl rfl rfl rfl (fun z46 σ47 rz46 hσ47 h => ?_)
        refine j_icmp_eq (tgt := 1188) C d_L_law_355 rfl rz41 rz46 (fun c => ?_) (fun c => ?_)
        · have h := h.1 c
          refine w_L_law_b1188 C hN ih σ47 v3 hσ47 r3 h
        · have h := h.2 c
          refine j_iconst C d_L_law_358 ?_
          exact j_lawret C hN.2.1 d_L_law_359 h
      · have h := h.2.2.2.2.1 c
        refine j_tableIn (tgt := 360) C d_L_law_32 (zAnd_rg _ _) 4 c rfl rfl rfl ?_
        refine j_aload_n C d_L_law_360 1 rfl rfl ?_
        refine j_aload_n C d_L_law_361 0 rfl rfl ?_
        refine j_iload_n C d_L_law_362 3 rfl rfl ?_
        refine j_iconst C d_L_law_363 ?_
        refine j_iadd C d_L_law_364 ?_
        obtain ⟨g48, h⟩ := h
        refine j_sld C hN.1 d_L_law_365 g48 ?_
        refine j_aload_n C d_L_law_366 0 rfl rfl ?_
        refine j_iload_n C d_L_law_367 3 rfl rfl ?_
        refine j_iconst C d_L_law_368 ?_
        refine j_iadd C d_L_law_369 ?_
        obtain ⟨g49, h⟩ := h
        refine j_sld C hN.1 d_L_law_370 g49 ?_
        refine j_aload_n C d_L_law_371 0 rfl rfl ?_
        refine j_iload_n C d_L_law_372 3 rfl rfl ?_
        refine j_iconst C d_L_law_373 ?_
        refine j_iadd C d_L_law_374 ?_
        obtain ⟨g50, h⟩ := h
        refine j_sld C hN.1 d_L_law_375 g50 ?_
        refine j_callV C d_L_law_376 ml_L_31 mi_X_close (c_X_close (xl X) (gD G) (gad G) (gca G) (v1 := zSx scr (v3 + 1)) (v2 := zSx scr (v3 + 2)) (v3 := zSx scr (v3 + 3)) hσ (zSx_rg _ _) (zSx_rg _ _) (zSx_rg _ _) h) sh_54 rfl rfl rfl rfl rfl rfl rfl (fun z51 σ52 rz51 hσ52 h => ?_)
        refine j_aload_n C d_L_law_379 2 rfl rfl ?_
        refine j_aload_n C d_L_law_380 0 rfl rfl ?_
        refine j_iload_n C d_L_law_381 3 rfl rfl ?_
        refine j_iconst C d_L_law_382 ?_
        refine j_iadd C d_L_law_383 ?_
        obtain ⟨g53, h⟩ := h
        refine j_sld C hN.1 d_L_law_384 g53 ?_
        refine j_aload_n C d_L_law_385 0 rfl rfl ?_
        refine j_iload_n C d_L_law_386 3 rfl rfl ?_
        refine j_iconst C d_L_law_387 ?_
        refine j_iadd C d_L_law_388 ?_
        obtain ⟨g54, h⟩ := h
        refine j_sld C hN.1 d_L_law_389 g54 ?_
        refine j_aload_n C d_L_law_390 0 rfl rfl ?_
        refine j_iload_n C d_L_law_391 3 rfl rfl ?_
        refine j_iconst C d_L_law_392 ?_
        refine j_iadd C d_L_law_393 ?_
        obtain ⟨g55, h⟩ := h
        refine j_sld C hN.1 d_L_law_394 g55 ?_
        refine j_callV C d_L_law_395 ml_L_34 mi_M_close (c_M_close (xl X) (gD G) (gad G) (gca G) (v1 := zSx scr (v3 + 1)) (v2 := zSx scr (v3 + 2)) (v3 := zSx scr (v3 + 3)) hσ52 (zSx_rg _ _) (zSx_rg _ _) (zSx_rg _ _) h) sh_79 rfl rfl rfl rfl rfl rfl rfl (fun z56 σ57 rz56 hσ57 h => ?_)
        refine j_icmp_eq (tgt := 1188) C d_L_law_398 rfl rz51 rz56 (fun c => ?_) (fun c => ?_)
        · have h := h.1 c
          refine w_L_law_b1188 C hN ih σ57 v3 hσ57 r3 h
        · have h := h.2 c
          refine j_iconst C d_L_law_401 ?_
          exact j_lawret C hN.2.1 d_L_law_402 h
      · have h := h.2.2.2.2.2.1 c
        refine j_tableIn (tgt := 403) C d_L_law_32 (zAnd_rg _ _) 5 c rfl rfl rfl ?_
        refine j_aload_n C d_L_law_403 1 rfl rfl ?_
        refine j_aload_n C d_L_law_404 0 rfl rfl ?_
        refine j_iload_n C d_L_law_405 3 rfl rfl ?_
        refine j_iconst C d_L_law_406 ?_
        refine j_iadd C d_L_law_407 ?_
        obtain ⟨g58, h⟩ := h
        refine j_sld C hN.1 d_L_law_408 g58 ?_
        refine j_callV C d_L_law_409 ml_L_35 mi_X_lift (c_X_lift (xl X) (gD G) (gad G) (gca G) (v1 := zSx scr (v3 + 1)) hσ (zSx_rg _ _) h) sh_54 rfl rfl rfl rfl rfl rfl rfl (fun z59 σ60 rz59 hσ60 h => ?_)
        refine j_aload_n C d_L_law_412 2 rfl rfl ?_
        refine j_aload_n C d_L_law_413 0 rfl rfl ?_
        refine j_iload_n C d_L_law_414 3 rfl rfl ?_
        refine j_iconst C d_L_law_415 ?_
        refine j_iadd C d_L_law_416 ?_
        obtain ⟨g61, h⟩ := h
        refine j_sld C hN.1 d_L_law_417 g61 ?_
        refine j_callV C d_L_law_418 ml_L_39 mi_M_lift (c_M_lift (xl X) (gD G) (gad G) (gca G) (v1 := zSx scr (v3 + 1)) hσ60 (zSx_rg _ _) h) sh_79 rfl rfl rfl rfl rfl rfl rfl (fun z62 σ63 rz62 hσ63 h => ?_)
        refine j_icmp_eq (tgt := 1188) C d_L_law_421 rfl rz59 rz62 (fun c => ?_) (fun c => ?_)
        · have h := h.1 c
          refine w_L_law_b1188 C hN ih σ63 v3 hσ63 r3 h
        · have h := h.2 c
          refine j_iconst C d_L_law_424 ?_
          exact j_lawret C hN.2.1 d_L_law_425 h
      · have h := h.2.2.2.2.2.2.1 c
        refine j_tableIn (tgt := 426) C d_L_law_32 (zAnd_rg _ _) 6 c rfl rfl rfl ?_
        refine j_aload_n C d_L_law_426 1 rfl rfl ?_
        refine j_aload_n C d_L_law_427 0 rfl rfl ?_
        refine j_iload_n C d_L_law_428 3 rfl rfl ?_
        refine j_iconst C d_L_law_429 ?_
        refine j_iadd C d_L_law_430 ?_
        obtain ⟨g64, h⟩ := h
        refine j_sld C hN.1 d_L_law_431 g64 ?_
        refine j_aload_n C d_L_law_432 0 rfl rfl ?_
        refine j_iload_n C d_L_law_433 3 rfl rfl ?_
        refine j_iconst C d_L_law_434 ?_
        refine j_iadd C d_L_law_435 ?_
        obtain ⟨g65, h⟩ := h
        refine j_sld C hN.1 d_L_law_436 g65 ?_
        refine j_callV C d_L_law_437 ml_L_40 mi_X_traveller (c_X_traveller (xl X) (gD G) (gad G) (gca G) (v1 := zSx scr (v3 + 1)) (v2 := zSx scr (v3 + 2)) hσ (zSx_rg _ _) (zSx_rg _ _) h) sh_54 rfl rfl rfl rfl rfl rfl rfl (fun z66 σ67 rz66 hσ67 h => ?_)
        refine j_aload_n C d_L_law_440 2 rfl rfl ?_
        refine j_aload_n C d_L_law_441 0 rfl rfl ?_
        refine j_iload_n C d_L_law_442 3 rfl rfl ?_
        refine j_iconst C d_L_law_443 ?_
        refine j_iadd C d_L_law_444 ?_
        obtain ⟨g68, h⟩ := h
        refine j_sld C hN.1 d_L_law_445 g68 ?_
        refine j_aload_n C d_L_law_446 0 rfl rfl ?_
        refine j_iload_n C d_L_law_447 3 rfl rfl ?_
        refine j_iconst C d_L_law_448 ?_
        refine j_iadd C d_L_law_449 ?_
        obtain ⟨g69, h⟩ := h
        refine j_sld C hN.1 d_L_law_450 g69 ?_
        refine j_callV C d_L_law_451 ml_L_44 mi_M_traveller (c_M_traveller (xl X) (gD G) (gad G) (gca G) (v1 := zSx scr (v3 + 1)) (v2 := zSx scr (v3 + 2)) hσ67 (zSx_rg _ _) (zSx_rg _ _) h) sh_79 rfl rfl rfl rfl rfl rfl rfl (fun z70 σ71 rz70 hσ71 h => ?_)
        refine j_icmp_eq (tgt := 1188) C d_L_law_454 rfl rz66 rz70 (fun c => ?_) (fun c => ?_)
        · have h := h.1 c
          refine w_L_law_b1188 C hN ih σ71 v3 hσ71 r3 h
        · have h := h.2 c
          refine j_iconst C d_L_law_457 ?_
          exact j_lawret C hN.2.1 d_L_law_458 h
      · have h := h.2.2.2.2.2.2.2.1 c
        refine j_tableIn (tgt := 459) C d_L_law_32 (zAnd_rg _ _) 7 c rfl rfl rfl ?_
        refine j_aload_n C d_L_law_459 1 rfl rfl ?_
        refine j_aload_n C d_L_law_460 0 rfl rfl ?_
        refine j_iload_n C d_L_law_461 3 rfl rfl ?_
        refine j_iconst C d_L_law_462 ?_
        refine j_iadd C d_L_law_463 ?_
        obtain ⟨g72, h⟩ := h
        refine j_sld C hN.1 d_L_law_464 g72 ?_
        refine j_aload_n C d_L_law_465 0 rfl rfl ?_
        refine j_iload_n C d_L_law_466 3 rfl rfl ?_
        refine j_iconst C d_L_law_467 ?_
        refine j_iadd C d_L_law_468 ?_
        obtain ⟨g73, h⟩ := h
        refine j_sld C hN.1 d_L_law_469 g73 ?_
        refine j_callV C d_L_law_470 ml_L_45 mi_X_go (c_X_go (xl X) (gD G) (gad G) (gca G) (v1 := zSx scr (v3 + 1)) (v2 := zSx scr (v3 + 2)) hσ (zSx_rg _ _) (zSx_rg _ _) h) sh_54 rfl rfl rfl rfl rfl rfl rfl (fun z74 σ75 rz74 hσ75 h => ?_)
        refine j_aload_n C d_L_law_473 2 rfl rfl ?_
        refine j_aload_n C d_L_law_474 0 rfl rfl ?_
        refine j_iload_n C d_L_law_475 3 rfl rfl ?_
        refine j_iconst C d_L_law_476 ?_
        refine j_iadd C d_L_law_477 ?_
        obtain ⟨g76, h⟩ := h
        refine j_sld C hN.1 d_L_law_478 g76 ?_
        refine j_aload_n C d_L_law_479 0 rfl rfl ?_
        refine j_iload_n C d_L_law_480 3 rfl rfl ?_
        refine j_iconst C d_L_law_481 ?_
        refine j_iadd C d_L_law_482 ?_
        obtain ⟨g77, h⟩ := h
        refine j_sld C hN.1 d_L_law_483 g77 ?_
        refine j_callV C d_L_law_484 ml_L_48 mi_M_go (c_M_go (xl X) (gD G) (gad G) (gca G) (v1 := zSx scr (v3 + 1)) (v2 := zSx scr (v3 + 2)) hσ75 (zSx_rg _ _) (zSx_rg _ _) h) sh_79 rfl rfl rfl rfl rfl rfl rfl (fun z78 σ79 rz78 hσ79 h => ?_)
        refine j_icmp_eq (tgt := 1188) C d_L_law_487 rfl rz74 rz78 (fun c => ?_) (fun c => ?_)
        · have h := h.1 c
          refine w_L_law_b1188 C hN ih σ79 v3 hσ79 r3 h
        · have h := h.2 c
          refine j_iconst C d_L_law_490 ?_
          exact j_lawret C hN.2.1 d_L_law_491 h
      · have h := h.2.2.2.2.2.2.2.2.1 c
        refine j_tableIn (tgt := 492) C d_L_law_32 (zAnd_rg _ _) 8 c rfl rfl rfl ?_
        refine j_aload_n C d_L_law_492 1 rfl rfl ?_
        refine j_aload_n C d_L_law_493 0 rfl rfl ?_
        refine j_iload_n C d_L_law_494 3 rfl rfl ?_
        refine j_iconst C d_L_law_495 ?_
        refine j_iadd C d_L_law_496 ?_
        obtain ⟨g80, h⟩ := h
        refine j_sld C hN.1 d_L_law_497 g80 ?_
        refine j_aload_n C d_L_law_498 0 rfl rfl ?_
        refine j_iload_n C d_L_law_499 3 rfl rfl ?_
        refine j_iconst C d_L_law_500 ?_
        refine j_iadd C d_L_law_501 ?_
        obtain ⟨g81, h⟩ := h
        refine j_sld C hN.1 d_L_law_502 g81 ?_
        refine j_callV C d_L_law_503 ml_L_49 mi_X_stay (c_X_stay (xl X) (gD G) (gad G) (gca G) (v1 := zSx scr (v3 + 1)) (v2 := zSx scr (v3 + 2)) hσ (zSx_rg _ _) (zSx_rg _ _) h) sh_54 rfl rfl rfl rfl rfl rfl rfl (fun z82 σ83 rz82 hσ83 h => ?_)
        refine j_aload_n C d_L_law_506 2 rfl rfl ?_
        refine j_aload_n C d_L_law_507 0 rfl rfl ?_
        refine j_iload_n C d_L_law_508 3 rfl rfl ?_
        refine j_iconst C d_L_law_509 ?_
        refine j_iadd C d_L_law_510 ?_
        obtain ⟨g84, h⟩ := h
        refine j_sld C hN.1 d_L_law_511 g84 ?_
        refine j_aload_n C d_L_law_512 0 rfl rfl ?_
        refine j_iload_n C d_L_law_513 3 rfl rfl ?_
        refine j_iconst C d_L_law_514 ?_
        refine j_iadd C d_L_law_515 ?_
        obtain ⟨g85, h⟩ := h
        refine j_sld C hN.1 d_L_law_516 g85 ?_
        refine j_callV C d_L_law_517 ml_L_52 mi_M_stay (c_M_stay (xl X) (gD G) (gad G) (gca G) (v1 := zSx scr (v3 + 1)) (v2 := zSx scr (v3 + 2)) hσ83 (zSx_rg _ _) (zSx_rg _ _) h) sh_79 rfl rfl rfl rfl rfl rfl rfl (fun z86 σ87 rz86 hσ87 h => ?_)
        refine j_icmp_eq (tgt := 1188) C d_L_law_520 rfl rz82 rz86 (fun c => ?_) (fun c => ?_)
        · have h := h.1 c
          refine w_L_law_b1188 C hN ih σ87 v3 hσ87 r3 h
        · have h := h.2 c
          refine j_iconst C d_L_law_523 ?_
          exact j_lawret C hN.2.1 d_L_law_524 h
      · have h := h.2.2.2.2.2.2.2.2.2.1 c
        refine j_tableIn (tgt := 525) C d_L_law_32 (zAnd_rg _ _) 9 c rfl rfl rfl ?_
        refine j_aload_n C d_L_law_525 1 rfl rfl ?_
        refine j_aload_n C d_L_law_526 0 rfl rfl ?_
        refine j_iload_n C d_L_law_527 3 rfl rfl ?_
        refine j_iconst C d_L_law_528 ?_
        refine j_iadd C d_L_law_529 ?_
        obtain ⟨g88, h⟩ := h
        refine j_sld C hN.1 d_L_law_530 g88 ?_
        refine j_aload_n C d_L_law_531 0 rfl rfl ?_
        refine j_iload_n C d_L_law_532 3 rfl rfl ?_
        refine j_iconst C d_L_law_533 ?_
        refine j_iadd C d_L_law_534 ?_
        obtain ⟨g89, h⟩ := h
        refine j_sld C hN.1 d_L_law_535 g89 ?_
        refine j_callV C d_L_law_536 ml_L_53 mi_X_ofPlace (c_X_ofPlace (xl X) (gD G) (gad G) (gca G) (v1 := zSx scr (v3 + 1)) (v2 := zSx scr (v3 + 2)) hσ (zSx_rg _ _) (zSx_rg _ _) h) sh_54 rfl rfl rfl rfl rfl rfl rfl (fun z90 σ91 rz90 hσ91 h => ?_)
        obtain ⟨ez90, h⟩ := h; subst ez90
        refine j_aload_n C d_L_law_539 2 rfl rfl ?_
        refine j_aload_n C d_L_law_540 0 rfl rfl ?_
        refine j_iload_n C d_L_law_541 3 rfl rfl ?_
        refine j_iconst C d_L_law_542 ?_
        refine j_iadd C d_L_law_543 ?_
        obtain ⟨g92, h⟩ := h
        refine j_sld C hN.1 d_L_law_544 g92 ?_
        refine j_aload_n C d_L_law_545 0 rfl rfl ?_
        refine j_iload_n C d_L_law_546 3 rfl rfl ?_
        refine j_iconst C d_L_law_547 ?_
        refine j_iadd C d_L_law_548 ?_
        obtain ⟨g93, h⟩ := h
        refine j_sld C hN.1 d_L_law_549 g93 ?_
        refine j_callV C d_L_law_550 ml_L_56 mi_M_ofPlace (c_M_ofPlace (xl X) (gD G) (gad G) (gca G) (v1 := zSx scr (v3 + 1)) (v2 := zSx scr (v3 + 2)) hσ (zSx_rg _ _) (zSx_rg _ _) h) sh_79 rfl rfl rfl rfl rfl rfl rfl (fun z94 σ95 rz94 hσ95 h => ?_)
        obtain ⟨ez94, h⟩ := h; subst ez94
        refine j_icmp_eq (tgt := 1188) C d_L_law_553 rfl rz90 rz94 (fun c => ?_) (fun c => ?_)
        · have h := h.1 c
          refine w_L_law_b1188 C hN ih σ v3 hσ r3 h
        · have h := h.2 c
          refine j_iconst C d_L_law_556 ?_
          exact j_lawret C hN.2.1 d_L_law_557 h
      · have h := h.2.2.2.2.2.2.2.2.2.2.1 c
        refine j_tableIn (tgt := 558) C d_L_law_32 (zAnd_rg _ _) 10 c rfl rfl rfl ?_
        refine j_aload_n C d_L_law_558 1 rfl rfl ?_
        refine j_aload_n C d_L_law_559 0 rfl rfl ?_
        refine j_iload_n C d_L_law_560 3 rfl rfl ?_
        refine j_iconst C d_L_law_561 ?_
        refine j_iadd C d_L_law_562 ?_
        obtain ⟨g96, h⟩ := h
        refine j_sld C hN.1 d_L_law_563 g96 ?_
        refine j_aload_n C d_L_law_564 0 rfl rfl ?_
        refine j_iload_n C d_L_law_565 3 rfl rfl ?_
        refine j_iconst C d_L_law_566 ?_
        refine j_iadd C d_L_law_567 ?_
        obtain ⟨g97, h⟩ := h
        refine j_sld C hN.1 d_L_law_568 g97 ?_
        refine j_callV C d_L_law_569 ml_L_57 mi_X_ofRoad (c_X_ofRoad (xl X) (gD G) (gad G) (gca G) (v1 := zSx scr (v3 + 1)) (v2 := zSx scr (v3 + 2)) hσ (zSx_rg _ _) (zSx_rg _ _) h) sh_54 rfl rfl rfl rfl rfl rfl rfl (fun z98 σ99 rz98 hσ99 h => ?_)
        obtain ⟨ez98, h⟩ := h; subst ez98
        refine j_aload_n C d_L_law_572 2 rfl rfl ?_
        refine j_aload_n C d_L_law_573 0 rfl rfl ?_
        refine j_iload_n C d_L_law_574 3 rfl rfl ?_
        refine j_iconst C d_L_law_575 ?_
        refine j_iadd C d_L_law_576 ?_
        obtain ⟨g100, h⟩ := h
        refine j_sld C hN.1 d_L_law_577 g100 ?_
        refine j_aload_n C d_L_law_578 0 rfl rfl ?_
        refine j_iload_n C d_L_law_579 3 rfl rfl ?_
        refine j_iconst C d_L_law_580 ?_
        refine j_iadd C d_L_law_581 ?_
        obtain ⟨g101, h⟩ := h
        refine j_sld C hN.1 d_L_law_582 g101 ?_
        refine j_callV C d_L_law_583 ml_L_60 mi_M_ofRoad (c_M_ofRoad (xl X) (gD G) (gad G) (gca G) (v1 := zSx scr (v3 + 1)) (v2 := zSx scr (v3 + 2)) hσ (zSx_rg _ _) (zSx_rg _ _) h) sh_79 rfl rfl rfl rfl rfl rfl rfl (fun z102 σ103 rz102 hσ103 h => ?_)
        obtain ⟨ez102, h⟩ := h; subst ez102
        refine j_icmp_eq (tgt := 1188) C d_L_law_586 rfl rz98 rz102 (fun c => ?_) (fun c => ?_)
        · have h := h.1 c
          refine w_L_law_b1188 C hN ih σ v3 hσ r3 h
        · have h := h.2 c
          refine j_iconst C d_L_law_589 ?_
          exact j_lawret C hN.2.1 d_L_law_590 h
      · have h := h.2.2.2.2.2.2.2.2.2.2.2.1 c
        refine j_tableIn (tgt := 591) C d_L_law_32 (zAnd_rg _ _) 11 c rfl rfl rfl ?_
        refine j_aload_n C d_L_law_591 1 rfl rfl ?_
        refine j_aload_n C d_L_law_592 0 rfl rfl ?_
        refine j_iload_n C d_L_law_593 3 rfl rfl ?_
        refine j_iconst C d_L_law_594 ?_
        refine j_iadd C d_L_law_595 ?_
        obtain ⟨g104, h⟩ := h
        refine j_sld C hN.1 d_L_law_596 g104 ?_
        refine j_aload_n C d_L_law_597 0 rfl rfl ?_
        refine j_iload_n C d_L_law_598 3 rfl rfl ?_
        refine j_iconst C d_L_law_599 ?_
        refine j_iadd C d_L_law_600 ?_
        obtain ⟨g105, h⟩ := h
        refine j_sld C hN.1 d_L_law_601 g105 ?_
        refine j_callV C d_L_law_602 ml_L_61 mi_X_ofClosure (c_X_ofClosure (xl X) (gD G) (gad G) (gca G) (v1 := zSx scr (v3 + 1)) (v2 := zSx scr (v3 + 2)) hσ (zSx_rg _ _) (zSx_rg _ _) h) sh_54 rfl rfl rfl rfl rfl rfl rfl (fun z106 σ107 rz106 hσ107 h => ?_)
        obtain ⟨ez106, h⟩ := h; subst ez106
        refine j_aload_n C d_L_law_605 2 rfl rfl ?_
        refine j_aload_n C d_L_law_606 0 rfl rfl ?_
        refine j_iload_n C d_L_law_607 3 rfl rfl ?_
        refine j_iconst C d_L_law_608 ?_
        refine j_iadd C d_L_law_609 ?_
        obtain ⟨g108, h⟩ := h
        refine j_sld C hN.1 d_L_law_610 g108 ?_
        refine j_aload_n C d_L_law_611 0 rfl rfl ?_
        refine j_iload_n C d_L_law_612 3 rfl rfl ?_
        refine j_iconst C d_L_law_613 ?_
        refine j_iadd C d_L_law_614 ?_
        obtain ⟨g109, h⟩ := h
        refine j_sld C hN.1 d_L_law_615 g109 ?_
        refine j_callV C d_L_law_616 ml_L_64 mi_M_ofClosure (c_M_ofClosure (xl X) (gD G) (gad G) (gca G) (v1 := zSx scr (v3 + 1)) (v2 := zSx scr (v3 + 2)) hσ (zSx_rg _ _) (zSx_rg _ _) h) sh_79 rfl rfl rfl rfl rfl rfl rfl (fun z110 σ111 rz110 hσ111 h => ?_)
        obtain ⟨ez110, h⟩ := h; subst ez110
        refine j_icmp_eq (tgt := 1188) C d_L_law_619 rfl rz106 rz110 (fun c => ?_) (fun c => ?_)
        · have h := h.1 c
          refine w_L_law_b1188 C hN ih σ v3 hσ r3 h
        · have h := h.2 c
          refine j_iconst C d_L_law_622 ?_
          exact j_lawret C hN.2.1 d_L_law_623 h
      · have h := h.2.2.2.2.2.2.2.2.2.2.2.2.1 c
        refine j_tableIn (tgt := 624) C d_L_law_32 (zAnd_rg _ _) 12 c rfl rfl rfl ?_
        refine j_aload_n C d_L_law_624 1 rfl rfl ?_
        refine j_aload_n C d_L_law_625 0 rfl rfl ?_
        refine j_iload_n C d_L_law_626 3 rfl rfl ?_
        refine j_iconst C d_L_law_627 ?_
        refine j_iadd C d_L_law_628 ?_
        obtain ⟨g112, h⟩ := h
        refine j_sld C hN.1 d_L_law_629 g112 ?_
        refine j_aload_n C d_L_law_630 0 rfl rfl ?_
        refine j_iload_n C d_L_law_631 3 rfl rfl ?_
        refine j_iconst C d_L_law_632 ?_
        refine j_iadd C d_L_law_633 ?_
        obtain ⟨g113, h⟩ := h
        refine j_sld C hN.1 d_L_law_634 g113 ?_
        refine j_callV C d_L_law_635 ml_L_65 mi_X_ofTraveller (c_X_ofTraveller (xl X) (gD G) (gad G) (gca G) (v1 := zSx scr (v3 + 1)) (v2 := zSx scr (v3 + 2)) hσ (zSx_rg _ _) (zSx_rg _ _) h) sh_54 rfl rfl rfl rfl rfl rfl rfl (fun z114 σ115 rz114 hσ115 h => ?_)
        obtain ⟨ez114, h⟩ := h; subst ez114
        refine j_aload_n C d_L_law_638 2 rfl rfl ?_
        refine j_aload_n C d_L_law_639 0 rfl rfl ?_
        refine j_iload_n C d_L_law_640 3 rfl rfl ?_
        refine j_iconst C d_L_law_641 ?_
        refine j_iadd C d_L_law_642 ?_
        obtain ⟨g116, h⟩ := h
        refine j_sld C hN.1 d_L_law_643 g116 ?_
        refine j_aload_n C d_L_law_644 0 rfl rfl ?_
        refine j_iload_n C d_L_law_645 3 rfl rfl ?_
        refine j_iconst C d_L_law_646 ?_
        refine j_iadd C d_L_law_647 ?_
        obtain ⟨g117, h⟩ := h
        refine j_sld C hN.1 d_L_law_648 g117 ?_
        refine j_callV C d_L_law_649 ml_L_68 mi_M_ofTraveller (c_M_ofTraveller (xl X) (gD G) (gad G) (gca G) (v1 := zSx scr (v3 + 1)) (v2 := zSx scr (v3 + 2)) hσ (zSx_rg _ _) (zSx_rg _ _) h) sh_79 rfl rfl rfl rfl rfl rfl rfl (fun z118 σ119 rz118 hσ119 h => ?_)
        obtain ⟨ez118, h⟩ := h; subst ez118
        refine j_icmp_eq (tgt := 1188) C d_L_law_652 rfl rz114 rz118 (fun c => ?_) (fun c => ?_)
        · have h := h.1 c
          refine w_L_law_b1188 C hN ih σ v3 hσ r3 h
        · have h := h.2 c
          refine j_iconst C d_L_law_655 ?_
          exact j_lawret C hN.2.1 d_L_law_656 h
      · have h := h.2.2.2.2.2.2.2.2.2.2.2.2.2.1 c
        refine j_tableIn (tgt := 657) C d_L_law_32 (zAnd_rg _ _) 13 c rfl rfl rfl ?_
        refine j_aload_n C d_L_law_657 1 rfl rfl ?_
        refine j_aload_n C d_L_law_658 0 rfl rfl ?_
        refine j_iload_n C d_L_law_659 3 rfl rfl ?_
        refine j_iconst C d_L_law_660 ?_
        refine j_iadd C d_L_law_661 ?_
        obtain ⟨g120, h⟩ := h
        refine j_sld C hN.1 d_L_law_662 g120 ?_
        refine j_callV C d_L_law_663 ml_L_69 mi_X_count (c_X_count (xl X) (gD G) (gad G) (gca G) (v1 := zSx scr (v3 + 1)) hσ (zSx_rg _ _) h) sh_54 rfl rfl rfl rfl rfl rfl rfl (fun z121 σ122 rz121 hσ122 h => ?_)
        obtain ⟨ez121, h⟩ := h; subst ez121
        refine j_aload_n C d_L_law_666 2 rfl rfl ?_
        refine j_aload_n C d_L_law_667 0 rfl rfl ?_
        refine j_iload_n C d_L_law_668 3 rfl rfl ?_
        refine j_iconst C d_L_law_669 ?_
        refine j_iadd C d_L_law_670 ?_
        obtain ⟨g123, h⟩ := h
        refine j_sld C hN.1 d_L_law_671 g123 ?_
        refine j_callV C d_L_law_672 ml_L_72 mi_M_count (c_M_count (xl X) (gD G) (gad G) (gca G) (v1 := zSx scr (v3 + 1)) hσ (zSx_rg _ _) h) sh_79 rfl rfl rfl rfl rfl rfl rfl (fun z124 σ125 rz124 hσ125 h => ?_)
        obtain ⟨ez124, h⟩ := h; subst ez124
        refine j_icmp_eq (tgt := 1188) C d_L_law_675 rfl rz121 rz124 (fun c => ?_) (fun c => ?_)
        · have h := h.1 c
          refine w_L_law_b1188 C hN ih σ v3 hσ r3 h
        · have h := h.2 c
          refine j_iconst C d_L_law_678 ?_
          exact j_lawret C hN.2.1 d_L_law_679 h
      · have h := h.2.2.2.2.2.2.2.2.2.2.2.2.2.2.1 c
        refine j_tableIn (tgt := 680) C d_L_law_32 (zAnd_rg _ _) 14 c rfl rfl rfl ?_
        refine j_aload_n C d_L_law_680 1 rfl rfl ?_
        refine j_aload_n C d_L_law_681 0 rfl rfl ?_
        refine j_iload_n C d_L_law_682 3 rfl rfl ?_
        refine j_iconst C d_L_law_683 ?_
        refine j_iadd C d_L_law_684 ?_
        obtain ⟨g126, h⟩ := h
        refine j_sld C hN.1 d_L_law_685 g126 ?_
        refine j_aload_n C d_L_law_686 0 rfl rfl ?_
        refine j_iload_n C d_L_law_687 3 rfl rfl ?_
        refine j_iconst C d_L_law_688 ?_
        refine j_iadd C d_L_law_689 ?_
        obtain ⟨g127, h⟩ := h
        refine j_sld C hN.1 d_L_law_690 g127 ?_
        refine j_callV C d_L_law_691 ml_L_73 mi_X_whyShut (c_X_whyShut (xl X) (gD G) (gad G) (gca G) (v1 := zSx scr (v3 + 1)) (v2 := zSx scr (v3 + 2)) hσ (zSx_rg _ _) (zSx_rg _ _) h) sh_54 rfl rfl rfl rfl rfl rfl rfl (fun z128 σ129 rz128 hσ129 h => ?_)
        obtain ⟨ez128, h⟩ := h; subst ez128
        refine j_aload_n C d_L_law_694 2 rfl rfl ?_
        refine j_aload_n C d_L_law_695 0 rfl rfl ?_
        refine j_iload_n C d_L_law_696 3 rfl rfl ?_
        refine j_iconst C d_L_law_697 ?_
        refine j_iadd C d_L_law_698 ?_
        obtain ⟨g130, h⟩ := h
        refine j_sld C hN.1 d_L_law_699 g130 ?_
        refine j_aload_n C d_L_law_700 0 rfl rfl ?_
        refine j_iload_n C d_L_law_701 3 rfl rfl ?_
        refine j_iconst C d_L_law_702 ?_
        refine j_iadd C d_L_law_703 ?_
        obtain ⟨g131, h⟩ := h
        refine j_sld C hN.1 d_L_law_704 g131 ?_
        refine j_callV C d_L_law_705 ml_L_76 mi_M_whyShut (c_M_whyShut (xl X) (gD G) (gad G) (gca G) (v1 := zSx scr (v3 + 1)) (v2 := zSx scr (v3 + 2)) hσ (zSx_rg _ _) (zSx_rg _ _) h) sh_79 rfl rfl rfl rfl rfl rfl rfl (fun z132 σ133 rz132 hσ133 h => ?_)
        obtain ⟨ez132, h⟩ := h; subst ez132
        refine j_icmp_eq (tgt := 1188) C d_L_law_708 rfl rz128 rz132 (fun c => ?_) (fun c => ?_)
        · have h := h.1 c
          refine w_L_law_b1188 C hN ih σ v3 hσ r3 h
        · have h := h.2 c
          refine j_iconst C d_L_law_711 ?_
          exact j_lawret C hN.2.1 d_L_law_712 h
      · have h := h.2.2.2.2.2.2.2.2.2.2.2.2.2.2.2.1 c
        refine j_tableIn (tgt := 713) C d_L_law_32 (zAnd_rg _ _) 15 c rfl rfl rfl ?_
        refine j_aload_n C d_L_law_713 1 rfl rfl ?_
        refine j_aload_n C d_L_law_714 0 rfl rfl ?_
        refine j_iload_n C d_L_law_715 3 rfl rfl ?_
        refine j_iconst C d_L_law_716 ?_
        refine j_iadd C d_L_law_717 ?_
        obtain ⟨g134, h⟩ := h
        refine j_sld C hN.1 d_L_law_718 g134 ?_
        refine j_aload_n C d_L_law_719 0 rfl rfl ?_
        refine j_iload_n C d_L_law_720 3 rfl rfl ?_
        refine j_iconst C d_L_law_721 ?_
        refine j_iadd C d_L_law_722 ?_
        obtain ⟨g135, h⟩ := h
        refine j_sld C hN.1 d_L_law_723 g135 ?_
        refine j_aload_n C d_L_law_724 0 rfl rfl ?_
        refine j_iload_n C d_L_law_725 3 rfl rfl ?_
        refine j_iconst C d_L_law_726 ?_
        refine j_iadd C d_L_law_727 ?_
        obtain ⟨g136, h⟩ := h
        refine j_sld C hN.1 d_L_law_728 g136 ?_
        refine j_callV C d_L_law_729 ml_L_77 mi_X_earliest (c_X_earliest (xl X) (gD G) (gad G) (gca G) (v1 := zSx scr (v3 + 1)) (v2 := zSx scr (v3 + 2)) (v3 := zSx scr (v3 + 3)) hσ (zSx_rg _ _) (zSx_rg _ _) (zSx_rg _ _) h) sh_54 rfl rfl rfl rfl rfl rfl rfl (fun z137 σ138 rz137 hσ138 h => ?_)
        refine j_aload_n C d_L_law_732 2 rfl rfl ?_
        refine j_aload_n C d_L_law_733 0 rfl rfl ?_
        refine j_iload_n C d_L_law_734 3 rfl rfl ?_
        refine j_iconst C d_L_law_735 ?_
        refine j_iadd C d_L_law_736 ?_
        obtain ⟨g139, h⟩ := h
        refine j_sld C hN.1 d_L_law_737 g139 ?_
        refine j_aload_n C d_L_law_738 0 rfl rfl ?_
        refine j_iload_n C d_L_law_739 3 rfl rfl ?_
        refine j_iconst C d_L_law_740 ?_
        refine j_iadd C d_L_law_741 ?_
        obtain ⟨g140, h⟩ := h
        refine j_sld C hN.1 d_L_law_742 g140 ?_
        refine j_aload_n C d_L_law_743 0 rfl rfl ?_
        refine j_iload_n C d_L_law_744 3 rfl rfl ?_
        refine j_iconst C d_L_law_745 ?_
        refine j_iadd C d_L_law_746 ?_
        obtain ⟨g141, h⟩ := h
        refine j_sld C hN.1 d_L_law_747 g141 ?_
        refine j_callV C d_L_law_748 ml_L_80 mi_M_earliest (c_M_earliest (xl X) (gD G) (gad G) (gca G) (v1 := zSx scr (v3 + 1)) (v2 := zSx scr (v3 + 2)) (v3 := zSx scr (v3 + 3)) hσ138 (zSx_rg _ _) (zSx_rg _ _) (zSx_rg _ _) h) sh_79 rfl rfl rfl rfl rfl rfl rfl (fun z142 σ143 rz142 hσ143 h => ?_)
        refine j_icmp_eq (tgt := 1188) C d_L_law_751 rfl rz137 rz142 (fun c => ?_) (fun c => ?_)
        · have h := h.1 c
          refine w_L_law_b1188 C hN ih σ143 v3 hσ143 r3 h
        · have h := h.2 c
          refine j_iconst C d_L_law_754 ?_
          exact j_lawret C hN.2.1 d_L_law_755 h
      · have h := h.2.2.2.2.2.2.2.2.2.2.2.2.2.2.2.2.1 c
        refine j_tableIn (tgt := 756) C d_L_law_32 (zAnd_rg _ _) 16 c rfl rfl rfl ?_
        refine j_aload_n C d_L_law_756 1 rfl rfl ?_
        refine j_aload_n C d_L_law_757 0 rfl rfl ?_
        refine j_iload_n C d_L_law_758 3 rfl rfl ?_
        refine j_iconst C d_L_law_759 ?_
        refine j_iadd C d_L_law_760 ?_
        obtain ⟨g144, h⟩ := h
        refine j_sld C hN.1 d_L_law_761 g144 ?_
        refine j_aload_n C d_L_law_762 0 rfl rfl ?_
        refine j_iload_n C d_L_law_763 3 rfl rfl ?_
        refine j_iconst C d_L_law_764 ?_
        refine j_iadd C d_L_law_765 ?_
        obtain ⟨g145, h⟩ := h
        refine j_sld C hN.1 d_L_law_766 g145 ?_
        refine j_aload_n C d_L_law_767 0 rfl rfl ?_
        refine j_iload_n C d_L_law_768 3 rfl rfl ?_
        refine j_iconst C d_L_law_769 ?_
        refine j_iadd C d_L_law_770 ?_
        obtain ⟨g146, h⟩ := h
        refine j_sld C hN.1 d_L_law_771 g146 ?_
        refine j_callV C d_L_law_772 ml_L_81 mi_X_latest (c_X_latest (xl X) (gD G) (gad G) (gca G) (v1 := zSx scr (v3 + 1)) (v2 := zSx scr (v3 + 2)) (v3 := zSx scr (v3 + 3)) hσ (zSx_rg _ _) (zSx_rg _ _) (zSx_rg _ _) h) sh_54 rfl rfl rfl rfl rfl rfl rfl (fun z147 σ148 rz147 hσ148 h => ?_)
        refine j_aload_n C d_L_law_775 2 rfl rfl ?_
        refine j_aload_n C d_L_law_776 0 rfl rfl ?_
        refine j_iload_n C d_L_law_777 3 rfl rfl ?_
        refine j_iconst C d_L_law_778 ?_
        refine j_iadd C d_L_law_779 ?_
        obtain ⟨g149, h⟩ := h
        refine j_sld C hN.1 d_L_law_780 g149 ?_
        refine j_aload_n C d_L_law_781 0 rfl rfl ?_
        refine j_iload_n C d_L_law_782 3 rfl rfl ?_
        refine j_iconst C d_L_law_783 ?_
        refine j_iadd C d_L_law_784 ?_
        obtain ⟨g150, h⟩ := h
        refine j_sld C hN.1 d_L_law_785 g150 ?_
        refine j_aload_n C d_L_law_786 0 rfl rfl ?_
        refine j_iload_n C d_L_law_787 3 rfl rfl ?_
        refine j_iconst C d_L_law_788 ?_
        refine j_iadd C d_L_law_789 ?_
        obtain ⟨g151, h⟩ := h
        refine j_sld C hN.1 d_L_law_790 g151 ?_
        refine j_callV C d_L_law_791 ml_L_84 mi_M_latest (c_M_latest (xl X) (gD G) (gad G) (gca G) (v1 := zSx scr (v3 + 1)) (v2 := zSx scr (v3 + 2)) (v3 := zSx scr (v3 + 3)) hσ148 (zSx_rg _ _) (zSx_rg _ _) (zSx_rg _ _) h) sh_79 rfl rfl rfl rfl rfl rfl rfl (fun z152 σ153 rz152 hσ153 h => ?_)
        refine j_icmp_eq (tgt := 1188) C d_L_law_794 rfl rz147 rz152 (fun c => ?_) (fun c => ?_)
        · have h := h.1 c
          refine w_L_law_b1188 C hN ih σ153 v3 hσ153 r3 h
        · have h := h.2 c
          refine j_iconst C d_L_law_797 ?_
          exact j_lawret C hN.2.1 d_L_law_798 h
      · have h := h.2.2.2.2.2.2.2.2.2.2.2.2.2.2.2.2.2.1 c
        refine j_tableIn (tgt := 799) C d_L_law_32 (zAnd_rg _ _) 17 c rfl rfl rfl ?_
        refine j_aload_n C d_L_law_799 1 rfl rfl ?_
        refine j_aload_n C d_L_law_800 0 rfl rfl ?_
        refine j_iload_n C d_L_law_801 3 rfl rfl ?_
        refine j_iconst C d_L_law_802 ?_
        refine j_iadd C d_L_law_803 ?_
        obtain ⟨g154, h⟩ := h
        refine j_sld C hN.1 d_L_law_804 g154 ?_
        refine j_aload_n C d_L_law_805 0 rfl rfl ?_
        refine j_iload_n C d_L_law_806 3 rfl rfl ?_
        refine j_iconst C d_L_law_807 ?_
        refine j_iadd C d_L_law_808 ?_
        obtain ⟨g155, h⟩ := h
        refine j_sld C hN.1 d_L_law_809 g155 ?_
        refine j_aload_n C d_L_law_810 0 rfl rfl ?_
        refine j_iload_n C d_L_law_811 3 rfl rfl ?_
        refine j_iconst C d_L_law_812 ?_
        refine j_iadd C d_L_law_813 ?_
        obtain ⟨g156, h⟩ := h
        refine j_sld C hN.1 d_L_law_814 g156 ?_
        refine j_aload_n C d_L_law_815 0 rfl rfl ?_
        refine j_iload_n C d_L_law_816 3 rfl rfl ?_
        refine j_iconst C d_L_law_817 ?_
        refine j_iadd C d_L_law_818 ?_
        obtain ⟨g157, h⟩ := h
        refine j_sld C hN.1 d_L_law_819 g157 ?_
        refine j_callV C d_L_law_820 ml_L_85 mi_X_way (c_X_way (xl X) (gD G) (gad G) (gca G) (v1 := zSx scr (v3 + 1)) (v2 := zSx scr (v3 + 2)) (v3 := zSx scr (v3 + 3)) (v4 := zSx scr (v3 + 4)) hσ (zSx_rg _ _) (zSx_rg _ _) (zSx_rg _ _) (zSx_rg _ _) h) sh_54 rfl rfl rfl rfl rfl rfl rfl (fun z158 σ159 rz158 hσ159 h => ?_)
        refine j_aload_n C d_L_law_823 2 rfl rfl ?_
        refine j_aload_n C d_L_law_824 0 rfl rfl ?_
        refine j_iload_n C d_L_law_825 3 rfl rfl ?_
        refine j_iconst C d_L_law_826 ?_
        refine j_iadd C d_L_law_827 ?_
        obtain ⟨g160, h⟩ := h
        refine j_sld C hN.1 d_L_law_828 g160 ?_
        refine j_aload_n C d_L_law_829 0 rfl rfl ?_
        refine j_iload_n C d_L_law_830 3 rfl rfl ?_
        refine j_iconst C d_L_law_831 ?_
        refine j_iadd C d_L_law_832 ?_
        obtain ⟨g161, h⟩ := h
        refine j_sld C hN.1 d_L_law_833 g161 ?_
        refine j_aload_n C d_L_law_834 0 rfl rfl ?_
        refine j_iload_n C d_L_law_835 3 rfl rfl ?_
        refine j_iconst C d_L_law_836 ?_
        refine j_iadd C d_L_law_837 ?_
        obtain ⟨g162, h⟩ := h
        refine j_sld C hN.1 d_L_law_838 g162 ?_
        refine j_aload_n C d_L_law_839 0 rfl rfl ?_
        refine j_iload_n C d_L_law_840 3 rfl rfl ?_
        refine j_iconst C d_L_law_841 ?_
        refine j_iadd C d_L_law_842 ?_
        obtain ⟨g163, h⟩ := h
        refine j_sld C hN.1 d_L_law_843 g163 ?_
        refine j_callV C d_L_law_844 ml_L_88 mi_M_way (c_M_way (xl X) (gD G) (gad G) (gca G) (v1 := zSx scr (v3 + 1)) (v2 := zSx scr (v3 + 2)) (v3 := zSx scr (v3 + 3)) (v4 := zSx scr (v3 + 4)) hσ159 (zSx_rg _ _) (zSx_rg _ _) (zSx_rg _ _) (zSx_rg _ _) h) sh_79 rfl rfl rfl rfl rfl rfl rfl (fun z164 σ165 rz164 hσ165 h => ?_)
        refine j_icmp_eq (tgt := 1188) C d_L_law_847 rfl rz158 rz164 (fun c => ?_) (fun c => ?_)
        · have h := h.1 c
          refine w_L_law_b1188 C hN ih σ165 v3 hσ165 r3 h
        · have h := h.2 c
          refine j_iconst C d_L_law_850 ?_
          exact j_lawret C hN.2.1 d_L_law_851 h
      · have h := h.2.2.2.2.2.2.2.2.2.2.2.2.2.2.2.2.2.2.1 c
        refine j_tableIn (tgt := 852) C d_L_law_32 (zAnd_rg _ _) 18 c rfl rfl rfl ?_
        refine j_aload_n C d_L_law_852 1 rfl rfl ?_
        refine j_aload_n C d_L_law_853 0 rfl rfl ?_
        refine j_iload_n C d_L_law_854 3 rfl rfl ?_
        refine j_iconst C d_L_law_855 ?_
        refine j_iadd C d_L_law_856 ?_
        obtain ⟨g166, h⟩ := h
        refine j_sld C hN.1 d_L_law_857 g166 ?_
        refine j_aload_n C d_L_law_858 0 rfl rfl ?_
        refine j_iload_n C d_L_law_859 3 rfl rfl ?_
        refine j_iconst C d_L_law_860 ?_
        refine j_iadd C d_L_law_861 ?_
        obtain ⟨g167, h⟩ := h
        refine j_sld C hN.1 d_L_law_862 g167 ?_
        refine j_aload_n C d_L_law_863 0 rfl rfl ?_
        refine j_iload_n C d_L_law_864 3 rfl rfl ?_
        refine j_iconst C d_L_law_865 ?_
        refine j_iadd C d_L_law_866 ?_
        obtain ⟨g168, h⟩ := h
        refine j_sld C hN.1 d_L_law_867 g168 ?_
        refine j_callV C d_L_law_868 ml_L_89 mi_X_reach (c_X_reach (xl X) (gD G) (gad G) (gca G) (v1 := zSx scr (v3 + 1)) (v2 := zSx scr (v3 + 2)) (v3 := zSx scr (v3 + 3)) hσ (zSx_rg _ _) (zSx_rg _ _) (zSx_rg _ _) h) sh_54 rfl rfl rfl rfl rfl rfl rfl (fun z169 σ170 rz169 hσ170 h => ?_)
        refine j_aload_n C d_L_law_871 2 rfl rfl ?_
        refine j_aload_n C d_L_law_872 0 rfl rfl ?_
        refine j_iload_n C d_L_law_873 3 rfl rfl ?_
        refine j_iconst C d_L_law_874 ?_
        refine j_iadd C d_L_law_875 ?_
        obtain ⟨g171, h⟩ := h
        refine j_sld C hN.1 d_L_law_876 g171 ?_
        refine j_aload_n C d_L_law_877 0 rfl rfl ?_
        refine j_iload_n C d_L_law_878 3 rfl rfl ?_
        refine j_iconst C d_L_law_879 ?_
        refine j_iadd C d_L_law_880 ?_
        obtain ⟨g172, h⟩ := h
        refine j_sld C hN.1 d_L_law_881 g172 ?_
        refine j_aload_n C d_L_law_882 0 rfl rfl ?_
        refine j_iload_n C d_L_law_883 3 rfl rfl ?_
        refine j_iconst C d_L_law_884 ?_
        refine j_iadd C d_L_law_885 ?_
        obtain ⟨g173, h⟩ := h
        refine j_sld C hN.1 d_L_law_886 g173 ?_
        refine j_callV C d_L_law_887 ml_L_92 mi_M_reach (c_M_reach (xl X) (gD G) (gad G) (gca G) (v1 := zSx scr (v3 + 1)) (v2 := zSx scr (v3 + 2)) (v3 := zSx scr (v3 + 3)) hσ170 (zSx_rg _ _) (zSx_rg _ _) (zSx_rg _ _) h) sh_79 rfl rfl rfl rfl rfl rfl rfl (fun z174 σ175 rz174 hσ175 h => ?_)
        refine j_icmp_eq (tgt := 1188) C d_L_law_890 rfl rz169 rz174 (fun c => ?_) (fun c => ?_)
        · have h := h.1 c
          refine w_L_law_b1188 C hN ih σ175 v3 hσ175 r3 h
        · have h := h.2 c
          refine j_iconst C d_L_law_893 ?_
          exact j_lawret C hN.2.1 d_L_law_894 h
      · have h := h.2.2.2.2.2.2.2.2.2.2.2.2.2.2.2.2.2.2.2.1 c
        refine j_tableIn (tgt := 895) C d_L_law_32 (zAnd_rg _ _) 19 c rfl rfl rfl ?_
        refine j_aload_n C d_L_law_895 1 rfl rfl ?_
        refine j_aload_n C d_L_law_896 0 rfl rfl ?_
        refine j_iload_n C d_L_law_897 3 rfl rfl ?_
        refine j_iconst C d_L_law_898 ?_
        refine j_iadd C d_L_law_899 ?_
        obtain ⟨g176, h⟩ := h
        refine j_sld C hN.1 d_L_law_900 g176 ?_
        refine j_aload_n C d_L_law_901 0 rfl rfl ?_
        refine j_iload_n C d_L_law_902 3 rfl rfl ?_
        refine j_iconst C d_L_law_903 ?_
        refine j_iadd C d_L_law_904 ?_
        obtain ⟨g177, h⟩ := h
        refine j_sld C hN.1 d_L_law_905 g177 ?_
        refine j_aload_n C d_L_law_906 0 rfl rfl ?_
        refine j_iload_n C d_L_law_907 3 rfl rfl ?_
        refine j_iconst C d_L_law_908 ?_
        refine j_iadd C d_L_law_909 ?_
        obtain ⟨g178, h⟩ := h
        refine j_sld C hN.1 d_L_law_910 g178 ?_
        refine j_callV C d_L_law_911 ml_L_93 mi_X_needed (c_X_needed (xl X) (gD G) (gad G) (gca G) (v1 := zSx scr (v3 + 1)) (v2 := zSx scr (v3 + 2)) (v3 := zSx scr (v3 + 3)) hσ (zSx_rg _ _) (zSx_rg _ _) (zSx_rg _ _) h) sh_54 rfl rfl rfl rfl rfl rfl rfl (fun z179 σ180 rz179 hσ180 h => ?_)
        refine j_aload_n C d_L_law_914 2 rfl rfl ?_
        refine j_aload_n C d_L_law_915 0 rfl rfl ?_
        refine j_iload_n C d_L_law_916 3 rfl rfl ?_
        refine j_iconst C d_L_law_917 ?_
        refine j_iadd C d_L_law_918 ?_
        obtain ⟨g181, h⟩ := h
        refine j_sld C hN.1 d_L_law_919 g181 ?_
        refine j_aload_n C d_L_law_920 0 rfl rfl ?_
        refine j_iload_n C d_L_law_921 3 rfl rfl ?_
        refine j_iconst C d_L_law_922 ?_
        refine j_iadd C d_L_law_923 ?_
        obtain ⟨g182, h⟩ := h
        refine j_sld C hN.1 d_L_law_924 g182 ?_
        refine j_aload_n C d_L_law_925 0 rfl rfl ?_
        refine j_iload_n C d_L_law_926 3 rfl rfl ?_
        refine j_iconst C d_L_law_927 ?_
        refine j_iadd C d_L_law_928 ?_
        obtain ⟨g183, h⟩ := h
        refine j_sld C hN.1 d_L_law_929 g183 ?_
        refine j_callV C d_L_law_930 ml_L_96 mi_M_needed (c_M_needed (xl X) (gD G) (gad G) (gca G) (v1 := zSx scr (v3 + 1)) (v2 := zSx scr (v3 + 2)) (v3 := zSx scr (v3 + 3)) hσ180 (zSx_rg _ _) (zSx_rg _ _) (zSx_rg _ _) h) sh_79 rfl rfl rfl rfl rfl rfl rfl (fun z184 σ185 rz184 hσ185 h => ?_)
        refine j_icmp_eq (tgt := 1188) C d_L_law_933 rfl rz179 rz184 (fun c => ?_) (fun c => ?_)
        · have h := h.1 c
          refine w_L_law_b1188 C hN ih σ185 v3 hσ185 r3 h
        · have h := h.2 c
          refine j_iconst C d_L_law_936 ?_
          exact j_lawret C hN.2.1 d_L_law_937 h
      · have h := h.2.2.2.2.2.2.2.2.2.2.2.2.2.2.2.2.2.2.2.2.1 c
        refine j_tableIn (tgt := 938) C d_L_law_32 (zAnd_rg _ _) 20 c rfl rfl rfl ?_
        refine j_aload_n C d_L_law_938 1 rfl rfl ?_
        refine j_aload_n C d_L_law_939 0 rfl rfl ?_
        refine j_iload_n C d_L_law_940 3 rfl rfl ?_
        refine j_iconst C d_L_law_941 ?_
        refine j_iadd C d_L_law_942 ?_
        obtain ⟨g186, h⟩ := h
        refine j_sld C hN.1 d_L_law_943 g186 ?_
        refine j_aload_n C d_L_law_944 0 rfl rfl ?_
        refine j_iload_n C d_L_law_945 3 rfl rfl ?_
        refine j_iconst C d_L_law_946 ?_
        refine j_iadd C d_L_law_947 ?_
        obtain ⟨g187, h⟩ := h
        refine j_sld C hN.1 d_L_law_948 g187 ?_
        refine j_aload_n C d_L_law_949 0 rfl rfl ?_
        refine j_iload_n C d_L_law_950 3 rfl rfl ?_
        refine j_iconst C d_L_law_951 ?_
        refine j_iadd C d_L_law_952 ?_
        obtain ⟨g188, h⟩ := h
        refine j_sld C hN.1 d_L_law_953 g188 ?_
        refine j_callV C d_L_law_954 ml_L_97 mi_X_meet (c_X_meet (xl X) (gD G) (gad G) (gca G) (v1 := zSx scr (v3 + 1)) (v2 := zSx scr (v3 + 2)) (v3 := zSx scr (v3 + 3)) hσ (zSx_rg _ _) (zSx_rg _ _) (zSx_rg _ _) h) sh_54 rfl rfl rfl rfl rfl rfl rfl (fun z189 σ190 rz189 hσ190 h => ?_)
        refine j_aload_n C d_L_law_957 2 rfl rfl ?_
        refine j_aload_n C d_L_law_958 0 rfl rfl ?_
        refine j_iload_n C d_L_law_959 3 rfl rfl ?_
        refine j_iconst C d_L_law_960 ?_
        refine j_iadd C d_L_law_961 ?_
        obtain ⟨g191, h⟩ := h
        refine j_sld C hN.1 d_L_law_962 g191 ?_
        refine j_aload_n C d_L_law_963 0 rfl rfl ?_
        refine j_iload_n C d_L_law_964 3 rfl rfl ?_
        refine j_iconst C d_L_law_965 ?_
        refine j_iadd C d_L_law_966 ?_
        obtain ⟨g192, h⟩ := h
        refine j_sld C hN.1 d_L_law_967 g192 ?_
        refine j_aload_n C d_L_law_968 0 rfl rfl ?_
        refine j_iload_n C d_L_law_969 3 rfl rfl ?_
        refine j_iconst C d_L_law_970 ?_
        refine j_iadd C d_L_law_971 ?_
        obtain ⟨g193, h⟩ := h
        refine j_sld C hN.1 d_L_law_972 g193 ?_
        refine j_callV C d_L_law_973 ml_L_100 mi_M_meet (c_M_meet (xl X) (gD G) (gad G) (gca G) (v1 := zSx scr (v3 + 1)) (v2 := zSx scr (v3 + 2)) (v3 := zSx scr (v3 + 3)) hσ190 (zSx_rg _ _) (zSx_rg _ _) (zSx_rg _ _) h) sh_79 rfl rfl rfl rfl rfl rfl rfl (fun z194 σ195 rz194 hσ195 h => ?_)
        refine j_icmp_eq (tgt := 1188) C d_L_law_976 rfl rz189 rz194 (fun c => ?_) (fun c => ?_)
        · have h := h.1 c
          refine w_L_law_b1188 C hN ih σ195 v3 hσ195 r3 h
        · have h := h.2 c
          refine j_iconst C d_L_law_979 ?_
          exact j_lawret C hN.2.1 d_L_law_980 h
      · have h := h.2.2.2.2.2.2.2.2.2.2.2.2.2.2.2.2.2.2.2.2.2.1 c
        refine j_tableIn (tgt := 981) C d_L_law_32 (zAnd_rg _ _) 21 c rfl rfl rfl ?_
        refine j_aload_n C d_L_law_981 1 rfl rfl ?_
        refine j_aload_n C d_L_law_982 0 rfl rfl ?_
        refine j_iload_n C d_L_law_983 3 rfl rfl ?_
        refine j_iconst C d_L_law_984 ?_
        refine j_iadd C d_L_law_985 ?_
        obtain ⟨g196, h⟩ := h
        refine j_sld C hN.1 d_L_law_986 g196 ?_
        refine j_aload_n C d_L_law_987 0 rfl rfl ?_
        refine j_iload_n C d_L_law_988 3 rfl rfl ?_
        refine j_iconst C d_L_law_989 ?_
        refine j_iadd C d_L_law_990 ?_
        obtain ⟨g197, h⟩ := h
        refine j_sld C hN.1 d_L_law_991 g197 ?_
        refine j_callV C d_L_law_992 ml_L_101 mi_X_arrives (c_X_arrives (xl X) (gD G) (gad G) (gca G) (v1 := zSx scr (v3 + 1)) (v2 := zSx scr (v3 + 2)) hσ (zSx_rg _ _) (zSx_rg _ _) h) sh_54 rfl rfl rfl rfl rfl rfl rfl (fun z198 σ199 rz198 hσ199 h => ?_)
        refine j_aload_n C d_L_law_995 2 rfl rfl ?_
        refine j_aload_n C d_L_law_996 0 rfl rfl ?_
        refine j_iload_n C d_L_law_997 3 rfl rfl ?_
        refine j_iconst C d_L_law_998 ?_
        refine j_iadd C d_L_law_999 ?_
        obtain ⟨g200, h⟩ := h
        refine j_sld C hN.1 d_L_law_1000 g200 ?_
        refine j_aload_n C d_L_law_1001 0 rfl rfl ?_
        refine j_iload_n C d_L_law_1002 3 rfl rfl ?_
        refine j_iconst C d_L_law_1003 ?_
        refine j_iadd C d_L_law_1004 ?_
        obtain ⟨g201, h⟩ := h
        refine j_sld C hN.1 d_L_law_1005 g201 ?_
        refine j_callV C d_L_law_1006 ml_L_104 mi_M_arrives (c_M_arrives (xl X) (gD G) (gad G) (gca G) (v1 := zSx scr (v3 + 1)) (v2 := zSx scr (v3 + 2)) hσ199 (zSx_rg _ _) (zSx_rg _ _) h) sh_79 rfl rfl rfl rfl rfl rfl rfl (fun z202 σ203 rz202 hσ203 h => ?_)
        refine j_icmp_eq (tgt := 1188) C d_L_law_1009 rfl rz198 rz202 (fun c => ?_) (fun c => ?_)
        · have h := h.1 c
          refine w_L_law_b1188 C hN ih σ203 v3 hσ203 r3 h
        · have h := h.2 c
          refine j_iconst C d_L_law_1012 ?_
          exact j_lawret C hN.2.1 d_L_law_1013 h
      · have h := h.2.2.2.2.2.2.2.2.2.2.2.2.2.2.2.2.2.2.2.2.2.2.1 c
        refine j_tableIn (tgt := 1014) C d_L_law_32 (zAnd_rg _ _) 22 c rfl rfl rfl ?_
        refine j_aload_n C d_L_law_1014 1 rfl rfl ?_
        refine j_aload_n C d_L_law_1015 0 rfl rfl ?_
        refine j_iload_n C d_L_law_1016 3 rfl rfl ?_
        refine j_iconst C d_L_law_1017 ?_
        refine j_iadd C d_L_law_1018 ?_
        obtain ⟨g204, h⟩ := h
        refine j_sld C hN.1 d_L_law_1019 g204 ?_
        refine j_callV C d_L_law_1020 ml_L_105 mi_X_canStay (c_X_canStay (xl X) (gD G) (gad G) (gca G) (v1 := zSx scr (v3 + 1)) hσ (zSx_rg _ _) h) sh_54 rfl rfl rfl rfl rfl rfl rfl (fun z205 σ206 rz205 hσ206 h => ?_)
        obtain ⟨ez205, h⟩ := h; subst ez205
        refine j_aload_n C d_L_law_1023 2 rfl rfl ?_
        refine j_aload_n C d_L_law_1024 0 rfl rfl ?_
        refine j_iload_n C d_L_law_1025 3 rfl rfl ?_
        refine j_iconst C d_L_law_1026 ?_
        refine j_iadd C d_L_law_1027 ?_
        obtain ⟨g207, h⟩ := h
        refine j_sld C hN.1 d_L_law_1028 g207 ?_
        refine j_callV C d_L_law_1029 ml_L_108 mi_M_canStay (c_M_canStay (xl X) (gD G) (gad G) (gca G) (v1 := zSx scr (v3 + 1)) hσ (zSx_rg _ _) h) sh_79 rfl rfl rfl rfl rfl rfl rfl (fun z208 σ209 rz208 hσ209 h => ?_)
        obtain ⟨ez208, h⟩ := h; subst ez208
        refine j_icmp_eq (tgt := 1188) C d_L_law_1032 rfl rz205 rz208 (fun c => ?_) (fun c => ?_)
        · have h := h.1 c
          refine w_L_law_b1188 C hN ih σ v3 hσ r3 h
        · have h := h.2 c
          refine j_iconst C d_L_law_1035 ?_
          exact j_lawret C hN.2.1 d_L_law_1036 h
      · have h := h.2.2.2.2.2.2.2.2.2.2.2.2.2.2.2.2.2.2.2.2.2.2.2.1 c
        refine j_tableIn (tgt := 1037) C d_L_law_32 (zAnd_rg _ _) 23 c rfl rfl rfl ?_
        refine j_aload_n C d_L_law_1037 1 rfl rfl ?_
        refine j_aload_n C d_L_law_1038 0 rfl rfl ?_
        refine j_iload_n C d_L_law_1039 3 rfl rfl ?_
        refine j_iconst C d_L_law_1040 ?_
        refine j_iadd C d_L_law_1041 ?_
        obtain ⟨g210, h⟩ := h
        refine j_sld C hN.1 d_L_law_1042 g210 ?_
        refine j_i2l C d_L_law_1043 ?_
        refine j_bipush C d_L_law_1044 rfl ?_
        refine j_lshl C d_L_law_1046 ?_
        refine j_aload_n C d_L_law_1047 0 rfl rfl ?_
        refine j_iload_n C d_L_law_1048 3 rfl rfl ?_
        refine j_iconst C d_L_law_1049 ?_
        refine j_iadd C d_L_law_1050 ?_
        obtain ⟨g211, h⟩ := h
        refine j_sld C hN.1 d_L_law_1051 g211 ?_
        refine j_i2l C d_L_law_1052 ?_
        refine j_ldc2 C cl_L_109 d_L_law_1053 ?_
        refine j_land C d_L_law_1056 ?_
        refine j_lor C d_L_law_1057 ?_
        refine j_callV C d_L_law_1058 ml_L_111 mi_X_put (c_X_put (xl X) (gD G) (gad G) (gca G) (v1 := zLor (zLshl (zI2l (zSx scr (v3 + 1))) 32) (zLand (zI2l (zSx scr (v3 + 2))) (4294967295 : Int64))) hσ h) sh_54 rfl rfl rfl rfl rfl rfl rfl (fun z212 σ213 rz212 hσ213 h => ?_)
        refine j_aload_n C d_L_law_1061 2 rfl rfl ?_
        refine j_aload_n C d_L_law_1062 0 rfl rfl ?_
        refine j_iload_n C d_L_law_1063 3 rfl rfl ?_
        refine j_iconst C d_L_law_1064 ?_
        refine j_iadd C d_L_law_1065 ?_
        obtain ⟨g214, h⟩ := h
        refine j_sld C hN.1 d_L_law_1066 g214 ?_
        refine j_i2l C d_L_law_1067 ?_
        refine j_bipush C d_L_law_1068 rfl ?_
        refine j_lshl C d_L_law_1070 ?_
        refine j_aload_n C d_L_law_1071 0 rfl rfl ?_
        refine j_iload_n C d_L_law_1072 3 rfl rfl ?_
        refine j_iconst C d_L_law_1073 ?_
        refine j_iadd C d_L_law_1074 ?_
        obtain ⟨g215, h⟩ := h
        refine j_sld C hN.1 d_L_law_1075 g215 ?_
        refine j_i2l C d_L_law_1076 ?_
        refine j_ldc2 C cl_L_109 d_L_law_1077 ?_
        refine j_land C d_L_law_1080 ?_
        refine j_lor C d_L_law_1081 ?_
        refine j_callV C d_L_law_1082 ml_L_115 mi_M_put (c_M_put (xl X) (gD G) (gad G) (gca G) (v1 := zLor (zLshl (zI2l (zSx scr (v3 + 1))) 32) (zLand (zI2l (zSx scr (v3 + 2))) (4294967295 : Int64))) hσ213 h) sh_79 rfl rfl rfl rfl rfl rfl rfl (fun z216 σ217 rz216 hσ217 h => ?_)
        refine j_icmp_eq (tgt := 1188) C d_L_law_1085 rfl rz212 rz216 (fun c => ?_) (fun c => ?_)
        · have h := h.1 c
          refine w_L_law_b1188 C hN ih σ217 v3 hσ217 r3 h
        · have h := h.2 c
          refine j_iconst C d_L_law_1088 ?_
          exact j_lawret C hN.2.1 d_L_law_1089 h
      · have h := h.2.2.2.2.2.2.2.2.2.2.2.2.2.2.2.2.2.2.2.2.2.2.2.2.1 c
        refine j_tableIn (tgt := 1090) C d_L_law_32 (zAnd_rg _ _) 24 c rfl rfl rfl ?_
        refine j_aload_n C d_L_law_1090 1 rfl rfl ?_
        refine j_callV C d_L_law_1091 ml_L_116 mi_X_wipe (c_X_wipe (xl X) (gD G) (gad G) (gca G)  hσ h) sh_54 rfl rfl rfl rfl rfl rfl rfl (fun z218 σ219 rz218 hσ219 h => ?_)
        refine j_aload_n C d_L_law_1094 2 rfl rfl ?_
        refine j_callV C d_L_law_1095 ml_L_120 mi_M_wipe (c_M_wipe (xl X) (gD G) (gad G) (gca G)  hσ219 h) sh_79 rfl rfl rfl rfl rfl rfl rfl (fun z220 σ221 rz220 hσ221 h => ?_)
        refine j_icmp_eq (tgt := 1188) C d_L_law_1098 rfl rz218 rz220 (fun c => ?_) (fun c => ?_)
        · have h := h.1 c
          refine w_L_law_b1188 C hN ih σ221 v3 hσ221 r3 h
        · have h := h.2 c
          refine j_iconst C d_L_law_1101 ?_
          exact j_lawret C hN.2.1 d_L_law_1102 h
      · have h := h.2.2.2.2.2.2.2.2.2.2.2.2.2.2.2.2.2.2.2.2.2.2.2.2.2.1 c
        refine j_tableIn (tgt := 1103) C d_L_law_32 (zAnd_rg _ _) 25 c rfl rfl rfl ?_
        refine j_aload_n C d_L_law_1103 1 rfl rfl ?_
        refine j_callV C d_L_law_1104 ml_L_121 mi_X_fault (c_X_fault (xl X) (gD G) (gad G) (gca G)  hσ h) sh_54 rfl rfl rfl rfl rfl rfl rfl (fun z222 σ223 rz222 hσ223 h => ?_)
        refine j_aload_n C d_L_law_1107 2 rfl rfl ?_
        refine j_callV C d_L_law_1108 ml_L_124 mi_M_fault (c_M_fault (xl X) (gD G) (gad G) (gca G)  hσ223 h) sh_79 rfl rfl rfl rfl rfl rfl rfl (fun z224 σ225 rz224 hσ225 h => ?_)
        refine j_icmp_eq (tgt := 1188) C d_L_law_1111 rfl rz222 rz224 (fun c => ?_) (fun c => ?_)
        · have h := h.1 c
          refine w_L_law_b1188 C hN ih σ225 v3 hσ225 r3 h
        · have h := h.2 c
          refine j_iconst C d_L_law_1114 ?_
          exact j_lawret C hN.2.1 d_L_law_1115 h
      · have h := h.2.2.2.2.2.2.2.2.2.2.2.2.2.2.2.2.2.2.2.2.2.2.2.2.2.2.1 c
        refine j_tableIn (tgt := 1116) C d_L_law_32 (zAnd_rg _ _) 26 c rfl rfl rfl ?_
        refine j_aload_n C d_L_law_1116 1 rfl rfl ?_
        refine j_callV C d_L_law_1117 ml_L_125 mi_X_carryOut (c_X_carryOut (xl X) (gD G) (gad G) (gca G)  hσ h) sh_54 rfl rfl rfl rfl rfl rfl rfl (fun z226 σ227 rz226 hσ227 h => ?_)
        refine j_aload_n C d_L_law_1120 2 rfl rfl ?_
        refine j_callV C d_L_law_1121 ml_L_128 mi_M_carryOut (c_M_carryOut (xl X) (gD G) (gad G) (gca G)  hσ227 h) sh_79 rfl rfl rfl rfl rfl rfl rfl (fun z228 σ229 rz228 hσ229 h => ?_)
        refine j_icmp_eq (tgt := 1188) C d_L_law_1124 rfl rz226 rz228 (fun c => ?_) (fun c => ?_)
        · have h := h.1 c
          refine w_L_law_b1188 C hN ih σ229 v3 hσ229 r3 h
        · have h := h.2 c
          refine j_iconst C d_L_law_1127 ?_
          exact j_lawret C hN.2.1 d_L_law_1128 h
      · have h := h.2.2.2.2.2.2.2.2.2.2.2.2.2.2.2.2.2.2.2.2.2.2.2.2.2.2.2.1 c
        refine j_tableIn (tgt := 1129) C d_L_law_32 (zAnd_rg _ _) 27 c rfl rfl rfl ?_
        refine j_aload_n C d_L_law_1129 1 rfl rfl ?_
        refine j_callV C d_L_law_1130 ml_L_129 mi_X_undo (c_X_undo (xl X) (gD G) (gad G) (gca G)  hσ h) sh_54 rfl rfl rfl rfl rfl rfl rfl (fun z230 σ231 rz230 hσ231 h => ?_)
        refine j_aload_n C d_L_law_1133 2 rfl rfl ?_
        refine j_callV C d_L_law_1134 ml_L_132 mi_M_undo (c_M_undo (xl X) (gD G) (gad G) (gca G)  hσ231 h) sh_79 rfl rfl rfl rfl rfl rfl rfl (fun z232 σ233 rz232 hσ233 h => ?_)
        refine j_icmp_eq (tgt := 1188) C d_L_law_1137 rfl rz230 rz232 (fun c => ?_) (fun c => ?_)
        · have h := h.1 c
          refine w_L_law_b1188 C hN ih σ233 v3 hσ233 r3 h
        · have h := h.2 c
          refine j_iconst C d_L_law_1140 ?_
          exact j_lawret C hN.2.1 d_L_law_1141 h
      · have h := h.2.2.2.2.2.2.2.2.2.2.2.2.2.2.2.2.2.2.2.2.2.2.2.2.2.2.2.2.1 c
        refine j_tableIn (tgt := 1142) C d_L_law_32 (zAnd_rg _ _) 28 c rfl rfl rfl ?_
        refine j_aload_n C d_L_law_1142 1 rfl rfl ?_
        refine j_aload_n C d_L_law_1143 0 rfl rfl ?_
        refine j_iload_n C d_L_law_1144 3 rfl rfl ?_
        refine j_iconst C d_L_law_1145 ?_
        refine j_iadd C d_L_law_1146 ?_
        obtain ⟨g234, h⟩ := h
        refine j_sld C hN.1 d_L_law_1147 g234 ?_
        refine j_callV C d_L_law_1148 ml_L_133 mi_X_save (c_X_save (xl X) (gD G) (gad G) (gca G) (v1 := zSx scr (v3 + 1)) hσ (zSx_rg _ _) h) sh_54 rfl rfl rfl rfl rfl rfl rfl (fun z235 σ236 rz235 hσ236 h => ?_)
        refine j_aload_n C d_L_law_1151 2 rfl rfl ?_
        refine j_aload_n C d_L_law_1152 0 rfl rfl ?_
        refine j_iload_n C d_L_law_1153 3 rfl rfl ?_
        refine j_iconst C d_L_law_1154 ?_
        refine j_iadd C d_L_law_1155 ?_
        obtain ⟨g237, h⟩ := h
        refine j_sld C hN.1 d_L_law_1156 g237 ?_
        refine j_callV C d_L_law_1157 ml_L_136 mi_M_save (c_M_save (xl X) (gD G) (gad G) (gca G) (v1 := zSx scr (v3 + 1)) hσ236 (zSx_rg _ _) h) sh_79 rfl rfl rfl rfl rfl rfl rfl (fun z238 σ239 rz238 hσ239 h => ?_)
        refine j_icmp_eq (tgt := 1188) C d_L_law_1160 rfl rz235 rz238 (fun c => ?_) (fun c => ?_)
        · have h := h.1 c
          refine w_L_law_b1188 C hN ih σ239 v3 hσ239 r3 h
        · have h := h.2 c
          refine j_iconst C d_L_law_1163 ?_
          exact j_lawret C hN.2.1 d_L_law_1164 h
      · have h := h.2.2.2.2.2.2.2.2.2.2.2.2.2.2.2.2.2.2.2.2.2.2.2.2.2.2.2.2.2.1 c
        refine j_tableIn (tgt := 1165) C d_L_law_32 (zAnd_rg _ _) 29 c rfl rfl rfl ?_
        refine j_aload_n C d_L_law_1165 1 rfl rfl ?_
        refine j_aload_n C d_L_law_1166 0 rfl rfl ?_
        refine j_iload_n C d_L_law_1167 3 rfl rfl ?_
        refine j_iconst C d_L_law_1168 ?_
        refine j_iadd C d_L_law_1169 ?_
        obtain ⟨g240, h⟩ := h
        refine j_sld C hN.1 d_L_law_1170 g240 ?_
        refine j_callV C d_L_law_1171 ml_L_137 mi_X_restore (c_X_restore (xl X) (gD G) (gad G) (gca G) (v1 := zSx scr (v3 + 1)) hσ (zSx_rg _ _) h) sh_54 rfl rfl rfl rfl rfl rfl rfl (fun z241 σ242 rz241 hσ242 h => ?_)
        refine j_aload_n C d_L_law_1174 2 rfl rfl ?_
        refine j_aload_n C d_L_law_1175 0 rfl rfl ?_
        refine j_iload_n C d_L_law_1176 3 rfl rfl ?_
        refine j_iconst C d_L_law_1177 ?_
        refine j_iadd C d_L_law_1178 ?_
        obtain ⟨g243, h⟩ := h
        refine j_sld C hN.1 d_L_law_1179 g243 ?_
        refine j_callV C d_L_law_1180 ml_L_140 mi_M_restore (c_M_restore (xl X) (gD G) (gad G) (gca G) (v1 := zSx scr (v3 + 1)) hσ242 (zSx_rg _ _) h) sh_79 rfl rfl rfl rfl rfl rfl rfl (fun z244 σ245 rz244 hσ245 h => ?_)
        refine j_icmp_eq (tgt := 1188) C d_L_law_1183 rfl rz241 rz244 (fun c => ?_) (fun c => ?_)
        · have h := h.1 c
          refine w_L_law_b1188 C hN ih σ245 v3 hσ245 r3 h
        · have h := h.2 c
          refine j_iconst C d_L_law_1186 ?_
          exact j_lawret C hN.2.1 d_L_law_1187 h
      · have h := h.2.2.2.2.2.2.2.2.2.2.2.2.2.2.2.2.2.2.2.2.2.2.2.2.2.2.2.2.2.2 c
        refine j_tableOut (tgt := 1188) C d_L_law_32 (zAnd_rg _ _) c rfl ?_
        refine w_L_law_b1188 C hN ih σ v3 hσ r3 h
