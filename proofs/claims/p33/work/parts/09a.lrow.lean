/-! the law's loop: a walk over its weakest precondition -/
def R_law : String := "GateRoadsLaw"
def lw_Q (_ : Array Value) (s : State) (o : Outcome) (t : State) : Prop := o = .returned (some (.int 1)) ∧ Framed s o t [] 600000 7302250
def lw_Z (below : List Frame) (a : Array Value) (s : State) : State → Prop := fun t => ∃ o, t.status = .running ∧ Ended t below o ∧ lw_Q a s o t
/-- the law's own end, with 1 on the stack, nothing written that was there before, its room as the claim has it -/
theorem lw_ret {p : Program} {l : Launch} {e : Env} {s : State} {m : MethodId} {below : List Frame} {meth : Method} {c : Code} {b : Nat} (hx : p.tables.exec = Jvm.exec) (hb : c.code = code) (hr : meth.sig.returnType = ret) (hlocks : meth.locks = false) {pc : Nat} {H : Heap} {ls : Array Slot} (hdg : decode code pc = .ok (.ireturn, 1)) : W p l e room_1 s m #[Value.ref b] below meth c H [] 600000 7302250 (lw_Z below #[Value.ref b] s) (F0 m pc ls [.int 1]) := by
  intro T hT X
  obtain ⟨fs, hret, hrun, hended, hW, hframe⟩ := X.leave (v := some (.int 1)) (hlocks := hlocks) (fun h => by rw [hr] at h; cases h)
  have hmeth' : T.vm.method? m = some meth := X.method'
  refine ⟨T.setFrames fs, ?_, .returned (some (.int 1)), hrun, hended, rfl, ⟨_, rfl⟩, hW, hframe⟩
  jvm_step X.here [X.here.top, hx, hb, hdg, hmeth', hr, ret, narrow_b1]
  (try refine ⟨rfl, ?_⟩); (try refine ⟨rfl, ?_⟩)
  first | (intro acts; rw [hret _ acts rfl rfl rfl]) | rw [hret _ _ rfl rfl rfl]
  exact Steps.refl _
def zSx (xs : Nat → Int32) (i : Int) : Int := (xs i.toNat).toInt
theorem zSx_rg (xs : Nat → Int32) (i : Int) : zR (zSx xs i) := zI_rg _
def zSc (X : zX) (G : zG) (b N : Nat) (scr : Nat → Int32) : Prop := va_X b N scr (xs X) (gH G) ∧ b < (gH G).size ∧ ¬ gA G b ∧ N ≤ 260
/-- the law's own frame: its room is the claim's, what it may change is what is new -/
def zLw (X : zX) (G : zG) (b : Nat) : Prop := xR X = room_1 ∧ xa X = #[Value.ref b] ∧ gc G ≤ 600000 ∧ gs G ≤ 7302250 ∧ ∀ q, gA G q → (xs X).heap.size ≤ q
def zLaw (X : zX) (G : zG) (b N : Nat) (scr : Nat → Int32) : Prop := zSc X G b N scr ∧ zLw X G b ∧ zR (N : Int)
section JL
variable {X : zX} {G : zG} {Q : State → Prop} {nL pc pc' : Nat} {L L' : List (Nat × Value)} {st stk : List Value} {σ : zM} {cc : ByteArray} {own : String} {rt : Option FieldType} {rF rL : Nat} {b N : Nat} {scr : Nat → Int32}
theorem j_sld (C : zC X G cc own nL rt rF rL) (hB : zSc X G b N scr) {i : Int} (d : zd cc pc pc' .iaload 1) (h : 0 ≤ i ∧ i < (N : Int)) (k : zJ X G Q nL pc' L (.int (zI (zSx scr i)) :: st) σ) : zJ X G Q nL pc L (.int (zI i) :: .ref b :: st) σ := by
  obtain ⟨d, rfl⟩ := d
  obtain ⟨hX, hbl, hbA, hN⟩ := hB
  obtain ⟨h1, h2, h3⟩ := zI_ix h (by omega)
  intro H locs ls hL hP hD hS
  rw [C.2.2.2.2.2.2.2.2.2.2.1] at hX hbl hS
  have hX' : va_X b N scr (xs X) (xs X).heap := hX
  refine va_sld C.1 C.2.1 hX' hbl hbA hS h1 d ?_
  rw [h2]
  have := k H locs ls hL hP hD (by rw [C.2.2.2.2.2.2.2.2.2.2.1]; exact hS)
  rwa [show zI (zSx scr i) = scr i.toNat from zI_of _] at this
theorem j_slen (C : zC X G cc own nL rt rF rL) (hB : zSc X G b N scr) (d : zd cc pc pc' .arraylength 1) (k : zJ X G Q nL pc' L (.int (zI (N : Int)) :: st) σ) : zJ X G Q nL pc L (.ref b :: st) σ := by
  obtain ⟨d, rfl⟩ := d
  obtain ⟨hX, hbl, hbA, hN⟩ := hB
  intro H locs ls hL hP hD hS
  refine va_slen C.1 C.2.1 hX hbl hbA hS d ?_
  have := k H locs ls hL hP hD hS
  rwa [show zI (N : Int) = Int32.ofNat N from Int32.ofInt_eq_ofNat] at this
theorem j_lawret (C : zC X G code own nL ret rF rL) (hZ : zLw X G b) {z : Int} (d : zd code pc pc' .ireturn 1) (h : z = 1) : zJ X G (lw_Z (xb X) #[Value.ref b] (xs X)) nL pc L [.int (zI z)] σ := by
  obtain ⟨d, rfl⟩ := d
  subst h
  obtain ⟨e1, e2, h1, h2, hA⟩ := hZ
  obtain ⟨hx, hb, -, -, -, hlk, hr, -, -, -, hH, -⟩ := C
  intro H locs ls hL hP hD hS
  rw [e1, e2]
  refine va_forget (fun q hq => hA _ (hS.2.2 q hq)) ?_
  refine W.widen (k := 600000) (n := 7302250) h1 h2 ?_
  exact lw_ret hx hb hr hlk d
end JL
/-! longs: sums, products, answers -/
section JLL
variable {X : zX} {G : zG} {Q : State → Prop} {nL pc pc' : Nat} {L L' : List (Nat × Value)} {st stk : List Value} {σ : zM} {cc : ByteArray} {own : String} {ret : Option FieldType} {rF rL : Nat}
variable {y : MethodName} {bytes : ByteArray} {maxL idx na f lo n ci : Nat} {rt : Option FieldType} {As : List Value}
theorem j_ladd (C : zC X G cc own nL ret rF rL) {x y : Int64} (d : zd cc pc pc' .ladd 1) (k : zJ X G Q nL pc' L (.long (x + y) :: st) σ) : zJ X G Q nL pc L (.long y :: .long x :: st) σ := by
  obtain ⟨d, rfl⟩ := d
  exact fun H locs ls hL hP hD hS => lv_ladd C.1 C.2.1 d (k H locs ls hL hP hD hS)
theorem j_lmul (C : zC X G cc own nL ret rF rL) {x y : Int64} (d : zd cc pc pc' .lmul 1) (k : zJ X G Q nL pc' L (.long (x * y) :: st) σ) : zJ X G Q nL pc L (.long y :: .long x :: st) σ := by
  obtain ⟨d, rfl⟩ := d
  exact fun H locs ls hL hP hD hS => lv_lmul C.1 C.2.1 d (k H locs ls hL hP hD hS)
def zQl (X : zX) (G : zG) (Post : Int64 → zM → Prop) : State → Prop := MQ (xb X) (va_Ql (fun (r : Int64) (u : zM) => zRM u ∧ Post r u) (fun u t => va_P (gD G) zCl (zWs (gad G) (gca G) u) t.heap) (gA G)) (xa X) (xs X) (gc G) (gs G) (gA G)
theorem j_lreturn (C : zC X G cc own nL (some .long) rF rL) {z : Int64} {Post : Int64 → zM → Prop} (d : zd cc pc pc' .lreturn 1) (hσ : zRM σ) (h : Post z σ) : zJ X G (zQl X G Post) nL pc L [.long z] σ := by
  obtain ⟨d, rfl⟩ := d
  obtain ⟨hx, hb, -, -, -, hlk, hr, -, -, -, hH, -⟩ := C
  intro H locs ls hL hP hD hS
  refine W.lret hx hb hr (fun t ht hW => ⟨⟨z, σ, rfl, ⟨hσ, h⟩, by show va_P _ _ _ t.heap; rw [ht]; exact hP⟩, ?_⟩) hS.2.2 d hlk
  rw [hH] at hS
  exact hS.F ht
/-- the contract of a method that answers a long -/
def zCl_ (l : Launch) (D : va_G) (ad : Nat → Nat) (ca : Nat → ClassId) (y : MethodName) (bytes : ByteArray) (maxL : Nat) (ret : Option FieldType) (rm : Room) (avs : List Value) (σ : zM) (Post : Int64 → zM → Prop) : Prop :=
  Met l y (.code y bytes maxL ret :: zTb) rm (va_Pc avs (zIn D ad ca σ)) (va_Ql (fun (r : Int64) (u : zM) => zRM u ∧ Post r u) (fun u t => va_P D zCl (zWs ad ca u) t.heap) (zAw ad)) 0 0 (zAw ad)
theorem zCl_of {l : Launch} {D : va_G} {ad : Nat → Nat} {ca : Nat → ClassId} {y : MethodName} {bytes : ByteArray} {maxL f n : Nat} {ret : Option FieldType} {avs : List Value} {σ : zM} {Post : Int64 → zM → Prop} (hy : plainFor y = true) (hl : (lg_sl avs).length ≤ maxL)
    (body : ∀ (X : zX) (G : zG), zC X G bytes y.cls maxL ret f n → xl X = l → gD G = D → gad G = ad → gca G = ca → zJ X G (zQl X G Post) maxL 0 (lv_args 0 avs) [] σ) : zCl_ l D ad ca y bytes maxL ret (zrm f n) avs σ Post := by
  refine va_MetF (cc := bytes) (maxL := maxL) (ret := ret) hy rfl ?_
  intro p e s m args below meth c s₁ B hml hv
  obtain ⟨rfl, hP, hK, hD⟩ := hv
  have hts := atoms_spec (ws := Cond.code y bytes maxL ret :: zTb) B.pre
  have hown : s.vm.findClass y.cls = some m.cls := findClass_of_methodNamed B.named
  have hl' := lv_entry avs (n := maxL) hl
  rw [lg_entry_eq]
  have C : zC (p, l, e, zrm f n, s, m, avs.toArray, below, meth, c) (D, ad, ca, zAw ad, s.heap, 0, 0) bytes y.cls maxL ret f n :=
    ⟨B.exec, B.bytes, hml, hown, fun w hw => hts w (List.mem_cons_of_mem _ hw), B.notSynchronized, B.returns, hK, Nat.zero_le _, Nat.zero_le _, rfl, Nat.le_refl _, Nat.le_refl _⟩
  exact body _ _ C rfl rfl rfl rfl s.heap [] _ hl' hP hD va_S.rf
theorem j_callSl {Post : Int64 → zM → Prop} (C : zC X G cc own nL ret rF rL) (d : zd cc pc pc' (.invokestatic idx) 3) (hl : Cond.methodLink own idx y ∈ zTb) (hy : zMS y bytes maxL rt na) (hM : zCl_ (xl X) (gD G) (gad G) (gca G) y bytes maxL rt (zrm f lo) As σ Post) (hna : As.length = na) (hst : stk = As.reverse ++ st) (hcat : Nat.ble (st.map fun v => v.category).sum 8 = true) (hf : Nat.ble (f + 1) rF = true) (ho : Nat.ble (8 + (maxL + 11) + lo) rL = true) (k : ∀ z σ', zRM σ' → Post z σ' → zJ X G Q nL pc' L (.long z :: st) σ') : zJ X G Q nL pc L stk σ := by
  obtain ⟨d, rfl⟩ := d
  obtain ⟨hst', hini, hcode, hd⟩ := hy
  have hts := C.2.2.2.2.1
  intro H locs ls hL hP hD hS
  refine va_calll (va_runS (As := As) (rest := st) ⟨C.1, C.2.1, C.2.2.1, C.2.2.2.1, hts⟩ hM ⟨zCB C hl hini hcode hd hf ho, hts _ hst'⟩ ⟨zIn_blind, zPre C hP hD⟩ rfl hna hL.1 hst (lv_room (Nat.le_of_ble_eq_true hcat)) d ⟨C.2.2.2.2.2.2.2.2.1, C.2.2.2.2.2.2.2.2.2.1⟩) hS (fun q _ h => zAw_in hD q h) (zAw_in hD) (fun r u t H1 locs1 ht hvm hpost hB hz hk hS1 => ?_)
  obtain ⟨hu, hp⟩ := hpost
  rw [ht] at hB
  exact k r u hu hp H1 locs1 ls hL hB (zD_to hD) hS1
/-! the script's cell: a method that reads the law's own array -/
def zInX (D : va_G) (ad : Nat → Nat) (ca : Nat → ClassId) (σ : zM) (b N : Nat) (scr : Nat → Int32) (U : State) : Prop := zIn D ad ca σ U ∧ va_X b N scr U U.heap ∧ b < U.heap.size ∧ ¬ zAw ad b
def zCc (l : Launch) (D : va_G) (ad : Nat → Nat) (ca : Nat → ClassId) (y : MethodName) (bytes : ByteArray) (maxL : Nat) (ret : Option FieldType) (rm : Room) (avs : List Value) (σ : zM) (b N : Nat) (scr : Nat → Int32) (Post : Int → zM → Prop) : Prop :=
  Met l y (.code y bytes maxL ret :: zTb) rm (va_Pc avs (zInX D ad ca σ b N scr)) (va_Qi (fun (r : Int32) (u : zM) => ∃ z, r = zI z ∧ zR z ∧ zRM u ∧ Post z u) (fun u t => va_P D zCl (zWs ad ca u) t.heap) (zAw ad)) 0 0 (zAw ad)
theorem zInX_blind {D : va_G} {ad : Nat → Nat} {ca : Nat → ClassId} {avs : List Value} {b N : Nat} {scr : Nat → Int32} : FrameBlind (va_Pc avs (zInX D ad ca σ b N scr)) := fun U g mk a q => ⟨q.1, ⟨q.2.1.1, zK_calling q.2.1.2.1, q.2.1.2.2⟩, va_X.moved (Vm.Alike.refl _) q.2.2.1, q.2.2.2⟩
theorem zPreX (C : zC X G cc own nL ret rF rL) {b N : Nat} {scr : Nat → Int32} (hB : zSc X G b N scr) {H : Heap} {locs : List Loc} {avs : List Value} (hP : va_P (gD G) zCl (zWs (gad G) (gca G) σ) H) (hD : va_D (gA G) (zWs (gad G) (gca G) σ)) (hS : va_S (gA G) (gH G) H locs) : ∀ U : State, U.heap = H → (xs X).WarmedH U.vm → va_Pc avs (zInX (gD G) (gad G) (gca G) σ b N scr) avs.toArray U := by
  intro U hU hW
  obtain ⟨hX, hbl, hbA, hN⟩ := hB
  refine ⟨rfl, ⟨by rw [hU]; exact hP, zK_moved hW C.2.2.2.2.2.2.2.1, zD_aw hD⟩, ?_, ?_, fun h => hbA (zAw_in hD _ h)⟩
  · refine va_X.moved hW.alike (va_X.kept hX ?_)
    rw [hU]; exact hS.2.1 b hbl hbA
  · rw [hU]; exact Nat.lt_of_lt_of_le hbl hS.1
theorem c_L_cell (l : Launch) (D : va_G) (ad : Nat → Nat) (ca : Nat → ClassId) {σ : zM} {b N : Nat} {scr : Nat → Int32} {i : Int} (hN : N ≤ 260) (hσ : zRM σ) (h : 0 ≤ i ∧ i < (N : Int)) : zCc l D ad ca y_L_cell b_L_cell 2 (some .int) (zrm 0 0) [.ref b, .int (zI i)] σ b N scr (fun z u => z = zSx scr i ∧ u = σ) := by
  refine va_MetF (cc := b_L_cell) (maxL := 2) (ret := some .int) (by decide +kernel) rfl ?_
  intro p e s m args below meth c s₁ B hml hv
  obtain ⟨rfl, ⟨hP, hK, hD⟩, hX, hbl, hbA⟩ := hv
  have hts := atoms_spec (ws := Cond.code y_L_cell b_L_cell 2 (some .int) :: zTb) B.pre
  have hown : s.vm.findClass y_L_cell.cls = some m.cls := findClass_of_methodNamed B.named
  have hl' := lv_entry [.ref b, .int (zI i)] (n := 2) (Nat.le_of_ble_eq_true rfl)
  rw [lg_entry_eq]
  let X : zX := (p, l, e, zrm 0 0, s, m, ([.ref b, .int (zI i)] : List Value).toArray, below, meth, c)
  let G : zG := (D, ad, ca, zAw ad, s.heap, 0, 0)
  have C : zC X G b_L_cell "GateRoadsLaw" 2 (some .int) 0 0 :=
    ⟨B.exec, B.bytes, hml, hown, fun w hw => hts w (List.mem_cons_of_mem _ hw), B.notSynchronized, B.returns, hK, Nat.zero_le _, Nat.zero_le _, rfl, Nat.le_refl _, Nat.le_refl _⟩
  have hB : zSc X G b N scr := ⟨hX, hbl, hbA, hN⟩
  have hr1 : zR i := ⟨by omega, by omega⟩
  have hr2 : zR (N : Int) := ⟨by omega, by omega⟩
  have main : zJ X G (zQi X G (fun z u => z = zSx scr i ∧ u = σ)) 2 0 [(0, .ref b), (1, .int (zI i))] [] σ := by
    refine j_iload_n C d_L_cell_0 1 rfl rfl ?_
    refine j_aload_n C d_L_cell_1 0 rfl rfl ?_
    refine j_slen C hB d_L_cell_2 ?_
    refine j_icmp_ge (tgt := 12) C d_L_cell_3 rfl hr1 hr2 (fun c => absurd c (by omega)) (fun c => ?_)
    refine j_aload_n C d_L_cell_6 0 rfl rfl ?_
    refine j_iload_n C d_L_cell_7 1 rfl rfl ?_
    refine j_sld C hB d_L_cell_8 h ?_
    refine j_goto (tgt := 18) C d_L_cell_9 rfl ?_
    exact j_ireturn C d_L_cell_18 (zSx_rg _ _) hσ ⟨rfl, rfl⟩
  exact main s.heap [] _ hl' hP hD va_S.rf
theorem j_cell (C : zC X G cc own nL ret rF rL) {b N : Nat} {scr : Nat → Int32} (hB : zSc X G b N scr) (hσ : zRM σ) (d : zd cc pc pc' (.invokestatic idx) 3) (hl : Cond.methodLink own idx y_L_cell ∈ zTb) {i : Int} (h : 0 ≤ i ∧ i < (N : Int)) (hcat : Nat.ble (st.map fun v => v.category).sum 8 = true) (hf : Nat.ble (0 + 1) rF = true) (ho : Nat.ble (8 + (2 + 11) + 0) rL = true) (k : zJ X G Q nL pc' L (.int (zI (zSx scr i)) :: st) σ) : zJ X G Q nL pc L (.int (zI i) :: .ref b :: st) σ := by
  obtain ⟨d, rfl⟩ := d
  obtain ⟨hst', hini, hcode, hd⟩ := ms_L_cell
  have hts := C.2.2.2.2.1
  have hM := c_L_cell (xl X) (gD G) (gad G) (gca G) (b := b) (scr := scr) hB.2.2.2 hσ h
  intro H locs ls hL hP hD hS
  refine va_calli (va_runS (As := [.ref b, .int (zI i)]) (rest := st) ⟨C.1, C.2.1, C.2.2.1, C.2.2.2.1, hts⟩ hM ⟨zCB C hl hini hcode hd hf ho, hts _ hst'⟩ ⟨zInX_blind, zPreX C hB hP hD hS⟩ rfl rfl hL.1 rfl (lv_room (Nat.le_of_ble_eq_true hcat)) d ⟨C.2.2.2.2.2.2.2.2.1, C.2.2.2.2.2.2.2.2.2.1⟩) hS (fun q _ h => zAw_in hD q h) (zAw_in hD) (fun r u t H1 locs1 ht hvm hpost hB hz hk hS1 => ?_)
  obtain ⟨z, rfl, hz, hu, rfl, rfl⟩ := hpost
  rw [ht] at hB
  exact k H1 locs1 ls hL hB (zD_to hD) hS1
end JLL
