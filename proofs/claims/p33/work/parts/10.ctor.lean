/-! constructors: the abstract machine over a list of cells -/
def zJw (X : zX) (G : zG) (Q : State → Prop) (nL pc : Nat) (L : List (Nat × Value)) (st : List Value) (ws : va_W) (nc ns : Nat) : Prop :=
  ∀ (H : Heap) (locs : List Loc) (ls : Array Slot), lv_has ls nL L → va_P (gD G) zCl ws H → va_D (gA G) ws → va_S (gA G) (gH G) H locs → W (xp X) (xl X) (xe X) (xR X) (xs X) (xm X) (xa X) (xb X) (xt X) (xc X) H locs nc ns Q (F0 (xm X) pc ls st)
section K1
variable {X : zX} {G : zG} {Q : State → Prop} {nL pc pc' : Nat} {L L' : List (Nat × Value)} {st stk : List Value} {ws : va_W} {nc ns : Nat} {cc : ByteArray} {own : String} {ret : Option FieldType} {rF rL : Nat}
theorem q_sub (ks : List Nat) (hl : lv_pick L ks = L') (k : zJw X G Q nL pc L' st ws nc ns) : zJw X G Q nL pc L st ws nc ns := fun H locs ls hL hP hD hS => k H locs ls (lv_sub hL ks hl) hP hD hS
theorem q_iconst (C : zC X G cc own nL ret rF rL) {n : Int} (d : zd cc pc pc' (.iconst n) 1) (k : zJw X G Q nL pc' L (.int (zI n) :: st) ws nc ns) : zJw X G Q nL pc L st ws nc ns := by
  obtain ⟨d, rfl⟩ := d
  exact fun H locs ls hL hP hD hS => lv_iconst C.1 C.2.1 d rfl (k H locs ls hL hP hD hS)
theorem q_bipush (C : zC X G cc own nL ret rF rL) {n : Int} (d : zd cc pc pc' (.bipush n) 2) (hn : (decide (-128 ≤ n) && decide (n < 128)) = true) (k : zJw X G Q nL pc' L (.int (zI n) :: st) ws nc ns) : zJw X G Q nL pc L st ws nc ns := by
  obtain ⟨d, rfl⟩ := d
  exact fun H locs ls hL hP hD hS => lv_bipush C.1 C.2.1 d (zI_8 hn) (k H locs ls hL hP hD hS)
theorem q_sipush (C : zC X G cc own nL ret rF rL) {n : Int} (d : zd cc pc pc' (.sipush n) 3) (hn : (decide (-32768 ≤ n) && decide (n < 32768)) = true) (k : zJw X G Q nL pc' L (.int (zI n) :: st) ws nc ns) : zJw X G Q nL pc L st ws nc ns := by
  obtain ⟨d, rfl⟩ := d
  exact fun H locs ls hL hP hD hS => lv_sipush C.1 C.2.1 d (zI_16 hn) (k H locs ls hL hP hD hS)
theorem q_iload_n (C : zC X G cc own nL ret rF rL) {k : Fin 4} {i : Nat} {x : Int} (d : zd cc pc pc' (.iload_n k) 1) (a : Nat) (ha : L[a]? = some (i, .int (zI x))) (hi : (k : Nat) = i) (kk : zJw X G Q nL pc' L (.int (zI x) :: st) ws nc ns) : zJw X G Q nL pc L st ws nc ns := by
  obtain ⟨d, rfl⟩ := d
  exact fun H locs ls hL hP hD hS => lv_iload_n C.1 C.2.1 d hi (lv_at hL a ha) (kk H locs ls hL hP hD hS)
theorem q_aload_n (C : zC X G cc own nL ret rF rL) {k : Fin 4} {i x : Nat} (d : zd cc pc pc' (.aload_n k) 1) (a : Nat) (ha : L[a]? = some (i, .ref x)) (hi : (k : Nat) = i) (kk : zJw X G Q nL pc' L (.ref x :: st) ws nc ns) : zJw X G Q nL pc L st ws nc ns := by
  obtain ⟨d, rfl⟩ := d
  exact fun H locs ls hL hP hD hS => lv_aload_n C.1 C.2.1 d hi (lv_at hL a ha) (kk H locs ls hL hP hD hS)
theorem q_istore_n (C : zC X G cc own nL ret rF rL) {k : Fin 4} {i : Nat} {x : Int} (d : zd cc pc pc' (.istore_n k) 1) (hi : (k : Nat) = i) (hn : Nat.ble (i + 1) nL = true) (hl : (i, Value.int (zI x)) :: L.filter (fun q => !(q.1 == i) && !(q.1 + 1 == i && q.2.category == 2)) = L') (kk : zJw X G Q nL pc' L' st ws nc ns) : zJw X G Q nL pc L (.int (zI x) :: st) ws nc ns := by
  obtain ⟨d, rfl⟩ := d
  exact fun H locs ls hL hP hD hS => lv_istore_n C.1 C.2.1 d hi hL (Nat.le_of_ble_eq_true hn) hl (fun ls' hL' => kk H locs ls' hL' hP hD hS)
theorem q_astore_n (C : zC X G cc own nL ret rF rL) {k : Fin 4} {i x : Nat} (d : zd cc pc pc' (.astore_n k) 1) (hi : (k : Nat) = i) (hn : Nat.ble (i + 1) nL = true) (hl : (i, Value.ref x) :: L.filter (fun q => !(q.1 == i) && !(q.1 + 1 == i && q.2.category == 2)) = L') (kk : zJw X G Q nL pc' L' st ws nc ns) : zJw X G Q nL pc L (.ref x :: st) ws nc ns := by
  obtain ⟨d, rfl⟩ := d
  exact fun H locs ls hL hP hD hS => lv_astore_n C.1 C.2.1 d hi hL (Nat.le_of_ble_eq_true hn) hl (fun ls' hL' => kk H locs ls' hL' hP hD hS)
theorem q_iinc (C : zC X G cc own nL ret rF rL) {i : Nat} {n x : Int} (d : zd cc pc pc' (.iinc i n) 3) (a : Nat) (ha : L[a]? = some (i, .int (zI x))) (hn : Nat.ble (i + 1) nL = true) (hl : (i, Value.int (zI (x + n))) :: L.filter (fun q => !(q.1 == i) && !(q.1 + 1 == i && q.2.category == 2)) = L') (kk : zJw X G Q nL pc' L' st ws nc ns) : zJw X G Q nL pc L st ws nc ns := by
  obtain ⟨d, rfl⟩ := d
  exact fun H locs ls hL hP hD hS => lv_iinc C.1 C.2.1 d hL ha (by show zI x + Int32.ofInt n = zI (x + n); exact (Int32.ofInt_add x n).symm) (Nat.le_of_ble_eq_true hn) hl (fun ls' hL' => kk H locs ls' hL' hP hD hS)
theorem q_iadd (C : zC X G cc own nL ret rF rL) {x y : Int} (d : zd cc pc pc' .iadd 1) (k : zJw X G Q nL pc' L (.int (zI (x + y)) :: st) ws nc ns) : zJw X G Q nL pc L (.int (zI y) :: .int (zI x) :: st) ws nc ns := by
  obtain ⟨d, rfl⟩ := d
  exact fun H locs ls hL hP hD hS => lv_iadd C.1 C.2.1 d (by have := k H locs ls hL hP hD hS; rwa [show zI (x + y) = zI x + zI y from Int32.ofInt_add x y] at this)
theorem q_imul (C : zC X G cc own nL ret rF rL) {x y : Int} (d : zd cc pc pc' .imul 1) (k : zJw X G Q nL pc' L (.int (zI (x * y)) :: st) ws nc ns) : zJw X G Q nL pc L (.int (zI y) :: .int (zI x) :: st) ws nc ns := by
  obtain ⟨d, rfl⟩ := d
  exact fun H locs ls hL hP hD hS => lv_imul C.1 C.2.1 d (by have := k H locs ls hL hP hD hS; rwa [show zI (x * y) = zI x * zI y from Int32.ofInt_mul x y] at this)
theorem q_dup (C : zC X G cc own nL ret rF rL) {v : Value} (d : zd cc pc pc' .dup 1) (hv : v.category = 1) (k : zJw X G Q nL pc' L (v :: v :: st) ws nc ns) : zJw X G Q nL pc L (v :: st) ws nc ns := by
  obtain ⟨d, rfl⟩ := d
  exact fun H locs ls hL hP hD hS => lv_dup C.1 C.2.1 d hv (k H locs ls hL hP hD hS)
theorem q_goto (C : zC X G cc own nL ret rF rL) {off : Int} {tgt : Nat} (d : zd cc pc pc' (.goto off) 3) (ht : (pc : Int) + off = (tgt : Int)) (k : zJw X G Q nL tgt L st ws nc ns) : zJw X G Q nL pc L st ws nc ns := by
  obtain ⟨d, rfl⟩ := d
  exact fun H locs ls hL hP hD hS => lv_goto C.1 C.2.1 d ht (k H locs ls hL hP hD hS)
theorem q_icmp_ge (C : zC X G cc own nL ret rF rL) {x y : Int} {off : Int} {tgt : Nat} (d : zd cc pc pc' (.if_icmp .ge off) 3) (ht : (pc : Int) + off = (tgt : Int)) (hx : zR x) (hy : zR y) (kt : y ≤ x → zJw X G Q nL tgt L st ws nc ns) (kf : ¬ y ≤ x → zJw X G Q nL pc' L st ws nc ns) : zJw X G Q nL pc L (.int (zI y) :: .int (zI x) :: st) ws nc ns := by
  obtain ⟨d, rfl⟩ := d
  exact fun H locs ls hL hP hD hS => lv_icmp_ge C.1 C.2.1 d ht (fun h => kt ((zI_le hy hx).mp h) H locs ls hL hP hD hS) (fun h => kf (fun e => h ((zI_le hy hx).mpr e)) H locs ls hL hP hD hS)
end K1
def zNc : List (String × Nat × MethodName × String) := [("GateRoads", 29, ⟨"GateRoads$Pad", "<init>", "()V"⟩, "GateRoads"), ("GateRoads", 36, ⟨"GateRoads$Gates", "<init>", "()V"⟩, "GateRoads"), ("GateRoads", 43, ⟨"GateRoads$Onward", "<init>", "()V"⟩, "GateRoads"), ("GateRoads", 53, ⟨"GateRoads$Backward", "<init>", "()V"⟩, "GateRoads"), ("GateRoads", 60, ⟨"GateRoads$Fewest", "<init>", "()V"⟩, "GateRoads")]
/-- what a constructor may ask of the tables besides -/
def zKc (D : va_G) (ca : Nat → ClassId) (U : State) : Prop := zK D ca U ∧ va_AO "GateRoads$State" U ∧ ∀ q ∈ zNc, va_Nw (.methodLinkNest q.1 q.2.1 q.2.2.1 q.2.2.2) U
theorem zKc_moved {D : va_G} {ca : Nat → ClassId} {u U : State} (hW : u.WarmedH U.vm) (h : zKc D ca u) : zKc D ca U := ⟨zK_moved hW h.1, va_AO.moved hW.alike h.2.1, fun q hq => (h.2.2 q hq).warmM hW⟩
theorem zKc_calling {D : va_G} {ca : Nat → ClassId} {U : State} {g : JFrame} {mk : MethodId} {a : Array Value} (h : zKc D ca U) : zKc D ca (U.calling g mk a) := ⟨zK_calling h.1, va_AO.moved (u := U) (U := U.calling g mk a) (Vm.Alike.refl U.vm) h.2.1, fun q hq => (h.2.2 q hq).same rfl rfl⟩
/-- what a constructor's frame knows besides: its name, what is new is its own, the tables -/
def zCk (X : zX) (G : zG) : Prop := (xt X).name = "<init>" ∧ (∀ q, (gH G).size ≤ q → gA G q) ∧ zKc (gD G) (gca G) (xs X)
/-- the contract of a constructor: one object, blank; behind it the cells w1, of addresses that it chose -/
def zCn {S : Type} (l : Launch) (D : va_G) (ca : Nat → ClassId) (y : MethodName) (bytes : ByteArray) (maxL : Nat) (rm : Room) (h0 : Nat) (x0 : va_E) (sz : Nat) (w1 : S → va_W) : Prop :=
  Met l y (.code y bytes maxL none :: zTb) rm (va_Pc [.ref h0] (fun U => U.heap.size = sz ∧ va_P D zCl [(h0, x0)] U.heap ∧ zKc D ca U ∧ va_D (fun _ => True) [(h0, x0)])) (va_Qv (fun _ : S => True) (fun u t => va_P D zCl (w1 u) t.heap ∧ va_D (va_A [(h0, x0)] sz) (w1 u)) (va_A [(h0, x0)] sz)) rm.cells rm.slots (va_A [(h0, x0)] sz)
def zQn {S : Type} (X : zX) (G : zG) (rm : Room) (w1 : S → va_W) : State → Prop := MQ (xb X) (va_Qv (fun _ : S => True) (fun u t => va_P (gD G) zCl (w1 u) t.heap ∧ va_D (gA G) (w1 u)) (gA G)) (xa X) (xs X) rm.cells rm.slots (gA G)
theorem zCn_of {l : Launch} {D : va_G} {ca : Nat → ClassId} {y : MethodName} {bytes : ByteArray} {maxL h0 sz : Nat} {rm : Room} {x0 : va_E} {S : Type} {w1 : S → va_W} (hy : plainFor y = true) (hn : y.name = "<init>") (hl : 1 ≤ maxL)
    (body : ∀ (X : zX) (G : zG), zC X G bytes y.cls maxL none rm.frames rm.locals → zCk X G → xR X = rm → xl X = l → gD G = D → gca G = ca → zJw X G (zQn X G rm w1) maxL 0 [(0, .ref h0)] [] [(h0, x0)] 0 0) : zCn l D ca y bytes maxL rm h0 x0 sz w1 := by
  refine va_MetF (cc := bytes) (maxL := maxL) (ret := none) hy rfl ?_
  intro p e s m args below meth c s₁ B hml hv
  obtain ⟨rfl, hsz, hP, hK, hD0⟩ := hv
  have hts := atoms_spec (ws := Cond.code y bytes maxL none :: zTb) B.pre
  have hown : s.vm.findClass y.cls = some m.cls := findClass_of_methodNamed B.named
  have hin : meth.name = "<init>" := by rw [(name_of_methodNamed B.named B.method).1]; exact hn
  subst hsz
  have hD := hD0.self (sz := s.heap.size)
  have hl' := lv_entry [.ref h0] (n := maxL) hl
  rw [lg_entry_eq]
  have C : zC (p, l, e, rm, s, m, [Value.ref h0].toArray, below, meth, c) (D, (fun n => n), ca, va_A [(h0, x0)] s.heap.size, s.heap, 0, 0) bytes y.cls maxL none rm.frames rm.locals :=
    ⟨B.exec, B.bytes, hml, hown, fun w hw => hts w (List.mem_cons_of_mem _ hw), B.notSynchronized, B.returns, hK.1, Nat.zero_le _, Nat.zero_le _, rfl, Nat.le_refl _, Nat.le_refl _⟩
  exact body _ _ C ⟨hin, fun q h => Or.inr h, hK⟩ rfl rfl rfl rfl s.heap [] _ hl' hP hD va_S.rf
section K2
variable {X : zX} {G : zG} {Q : State → Prop} {nL pc pc' : Nat} {L L' : List (Nat × Value)} {st stk : List Value} {ws : va_W} {nc ns : Nat} {cc : ByteArray} {own : String} {ret : Option FieldType} {rF rL : Nat} {rr : Room}
theorem zWs_nd : ∀ n : Nat, va_nd (List.range n) = true
  | n => by
    have key : ∀ l : List Nat, l.Nodup → va_nd l = true := by
      intro l
      induction l with
      | nil => intro _; rfl
      | cons a l ih =>
        intro h
        rw [List.nodup_cons] at h
        simp only [va_nd, Bool.and_eq_true, decide_eq_true_eq]
        exact ⟨h.1, ih h.2⟩
    exact key _ List.nodup_range
theorem zWs_rng (ws w2 : va_W) : (List.range ws.length).map (fun i => (ws ++ w2)[i]?) = ws.map some := by
  apply List.ext_getElem?
  intro i
  rw [List.getElem?_map, List.getElem?_map]
  by_cases h : i < ws.length
  · rw [List.getElem?_range h, Option.map_some, List.getElem?_append_left h, List.getElem?_eq_getElem h]; rfl
  · rw [List.getElem?_eq_none (by simp; omega), List.getElem?_eq_none (by omega)]; rfl
theorem q_eq {ws' : va_W} (e : ws = ws') (k : zJw X G Q nL pc L st ws' nc ns) : zJw X G Q nL pc L st ws nc ns := by rw [e]; exact k
theorem zD_iff {A : Nat → Prop} {ws : va_W} : va_D A ws ↔ (ws.map Prod.fst).Nodup ∧ ∀ q ∈ ws, A q.1 := by
  constructor
  · intro h
    refine ⟨?_, fun q hq => ?_⟩
    · show List.Pairwise _ _
      rw [List.pairwise_iff_getElem]
      intro i j hi hj hij e
      rw [List.length_map] at hi hj
      rw [List.getElem_map, List.getElem_map] at e
      have := h.1 i j _ _ (List.getElem?_eq_getElem hi) (List.getElem?_eq_getElem hj) e
      omega
    · obtain ⟨k, hk⟩ := List.getElem?_of_mem hq
      exact h.2 k q hk
  · intro ⟨h1, h2⟩
    refine ⟨fun i j p q hi hj e => ?_, fun k q hk => h2 q (List.mem_of_getElem? hk)⟩
    have h1 : List.Pairwise (fun a b => a ≠ b) (ws.map Prod.fst) := h1
    rw [List.pairwise_iff_getElem] at h1
    obtain ⟨hli, ei⟩ := List.getElem?_eq_some_iff.mp hi
    obtain ⟨hlj, ej⟩ := List.getElem?_eq_some_iff.mp hj
    rcases Nat.lt_trichotomy i j with h | h | h
    · exact absurd (by rw [List.getElem_map, List.getElem_map, ei, ej]; exact e) (h1 i j (by rw [List.length_map]; exact hli) (by rw [List.length_map]; exact hlj) h)
    · exact h
    · exact absurd (by rw [List.getElem_map, List.getElem_map, ei, ej]; exact e.symm) (h1 j i (by rw [List.length_map]; exact hlj) (by rw [List.length_map]; exact hli) h)
theorem q_perm {ws' : va_W} (p : ws.Perm ws') (k : zJw X G Q nL pc L st ws' nc ns) : zJw X G Q nL pc L st ws nc ns := by
  intro H locs ls hL hP hD hS
  refine k H locs ls hL ?_ ?_ hS
  · intro i q hi
    obtain ⟨j, hj⟩ := List.getElem?_of_mem (p.mem_iff.mpr (List.mem_of_getElem? hi))
    exact hP j q hj
  · rw [zD_iff] at hD ⊢
    exact ⟨(p.map Prod.fst).nodup_iff.mp hD.1, fun q hq => hD.2 q (p.mem_iff.mpr hq)⟩
theorem zPmR (A R C : va_W) : ((A ++ R) ++ C).Perm (A ++ (C ++ R)) := by
  rw [List.append_assoc]
  exact List.Perm.append_left A List.perm_append_comm
theorem zPmA (A R C : va_W) : ((A ++ R) ++ C).Perm ((A ++ C) ++ R) := by
  rw [List.append_assoc, List.append_assoc]
  exact List.Perm.append_left A List.perm_append_comm
theorem q_objInit (C : zC X G cc own nL ret rF rL) {idx : Nat} (hl : Cond.methodLink own idx Lib.objectInit ∈ zTb) (hi : Cond.instanceMethod Lib.objectInit ∈ zTb) (hc : Cond.code Lib.objectInit ⟨#[0xb1]⟩ 1 none ∈ zTb) (d : zd cc pc pc' (.invokespecial idx) 3) (hf : Nat.ble 1 rF = true) (ho : Nat.ble 12 rL = true) {a : Nat} (k : zJw X G Q nL pc' L [] ws nc ns) : zJw X G Q nL pc L [.ref a] ws nc ns := by
  obtain ⟨d, rfl⟩ := d
  have hts := C.2.2.2.2.1
  intro H locs ls hL hP hD hS
  refine W.objInit C.1 C.2.1 C.2.2.2.1 (hts _ hl) (hts _ hi) (hts _ hc) rfl (by rw [C.2.2.1]; exact hL.1) rfl d (Nat.le_trans (Nat.le_of_ble_eq_true hf) C.2.2.2.2.2.2.2.2.2.2.2.1) (Nat.le_trans (Nat.le_of_ble_eq_true ho) C.2.2.2.2.2.2.2.2.2.2.2.2) ?_
  exact k H locs ls hL hP hD hS
theorem zRA_uniq {U : State} {c1 c2 : ClassId} {ty : FieldType} (h1 : va_RA U c1 ty) (h2 : va_RA U c2 ty) : c1 = c2 := by
  cases ty with
  | object C =>
    obtain ⟨_, _, _, _, _, h1⟩ := h1
    obtain ⟨_, _, _, _, _, h2⟩ := h2
    exact Option.some.inj (h1.symm.trans h2)
  | _ => exact Option.some.inj ((show _ = some c1 from h1).symm.trans (show _ = some c2 from h2))
theorem q_newa (C : zC X G cc own nL ret rF rL) (Kk : zCk X G) {atype : ArrayType} {ty : FieldType} {t N : Nat} {n : Int} (hw : Cond.arrayClass (newarray.typeOf atype) ∈ zTb) (hty : newarray.typeOf atype = ty) (ht : (zTy (gca G))[t]? = some (gca G t, ty)) (hdef : defaultValue ty = .int 0) (d : zd cc pc pc' (.newarray atype) 2) (hn : n = (N : Int)) (hN : Nat.ble N 30000 = true) (hR : xR X = rr) (hc : Nat.ble (nc + 1) rr.cells = true) (hs : Nat.ble (ns + N) rr.slots = true) (k : ∀ q : Nat, zJw X G Q nL pc' L (.ref q :: st) (ws ++ [(q, .inl (gca G t, (N, .inl (fun _ => 0))))]) (nc + 1) (ns + N)) : zJw X G Q nL pc L (.int (zI n) :: st) ws nc ns := by
  obtain ⟨d, rfl⟩ := d
  subst hn
  have hts := C.2.2.2.2.1
  have hN' := Nat.le_of_ble_eq_true hN
  have hr : zR (N : Int) := ⟨by omega, by omega⟩
  have hb4 : componentBytes ty ≤ 8 := by cases ty <;> simp [componentBytes] <;> omega
  intro H locs ls hL hP hD hS
  refine va_newa C.1 C.2.1 (hts _ hw) hty C.2.2.2.2.2.2.2.1.1 hP hD hS Kk.2.1 (N' := N) (a0 := (N, .inl (fun _ => 0))) (fun cA => by rw [hdef]; rfl) (zI_nn hr (by omega)) (by rw [zI_clamp (by omega) (by omega)]; omega) (Nat.le_trans (Nat.mul_le_mul hN' hb4) (by omega)) (by rw [hR]; exact Nat.le_of_ble_eq_true hc) (by rw [hR]; exact Nat.le_of_ble_eq_true hs) d (fun q cA H1 hK1 hP1 hD1 hS1 => ?_)
  have hcA : cA = gca G t := by
    have h4 := (hK1.2 4 (cA, ty) rfl).2
    have h0 := (C.2.2.2.2.2.2.2.1.1.2 t (gca G t, ty) ht).2
    exact zRA_uniq h4 h0
  subst hcA
  exact k q H1 locs ls hL hP1 hD1 hS1
theorem q_newq (C : zC X G cc own nL ret rF rL) (Kk : zCk X G) {N idx : Nat} {n : Int} (hl : Cond.classLink own idx "GateRoads$State" ∈ zTb) (d : zd cc pc pc' (.anewarray idx) 3) (hn : n = (N : Int)) (hN : Nat.ble N 30000 = true) (hR : xR X = rr) (hc : Nat.ble (nc + 1) rr.cells = true) (hs : Nat.ble (ns + N) rr.slots = true) (k : ∀ q : Nat, zJw X G Q nL pc' L (.ref q :: st) (ws ++ [(q, .inl (gca G 3, (N, .inr (.inr (.inr (.inr (fun _ => none)))))))]) (nc + 1) (ns + N)) : zJw X G Q nL pc L (.int (zI n) :: st) ws nc ns := by
  obtain ⟨d, rfl⟩ := d
  subst hn
  have hts := C.2.2.2.2.1
  have hN' := Nat.le_of_ble_eq_true hN
  have hr : zR (N : Int) := ⟨by omega, by omega⟩
  intro H locs ls hL hP hD hS
  refine va_newq C.1 C.2.1 C.2.2.2.1 (hts _ hl) Kk.2.2.2.1 C.2.2.2.2.2.2.2.1.1 hP hD hS Kk.2.1 (N' := N) (zI_nn hr (by omega)) (by rw [zI_clamp (by omega) (by omega)]; omega) (by omega) (by rw [hR]; exact Nat.le_of_ble_eq_true hc) (by rw [hR]; exact Nat.le_of_ble_eq_true hs) d (fun q cA H1 hK1 hP1 hD1 hS1 => ?_)
  have hcA : cA = gca G 3 := by
    have h4 := (hK1.2 4 (cA, .object "GateRoads$State") rfl).2
    have h0 := (C.2.2.2.2.2.2.2.1.1.2 3 (gca G 3, .object R_S) rfl).2
    exact zRA_uniq h4 h0
  subst hcA
  exact k q H1 locs ls hL hP1 hD1 hS1
theorem q_new (C : zC X G cc own nL ret rF rL) (Kk : ∀ q, (gH G).size ≤ q → gA G q) {idx ci N : Nat} {c : String} {T : u_T} (t : Nat → FieldType) {fs : List Value} (hty : ∀ k, k < N → parseFieldDescriptor (T k).2.2.1 = some (t k)) (hin : ∀ w ∈ u_ws c T N, w ∈ zTb) (hl : Cond.classLink own idx c ∈ zTb) (hi : Cond.instantiable c N ∈ zTb) (hini : Cond.initialized c ∈ zTb) (hc : zCl[ci]? = some (c, T, N)) (hfs : ∀ j, j < N → defaultValue (t j) = vp_V fs j) (d : zd cc pc pc' (.new idx) 3) (hR : xR X = rr) (hcc : Nat.ble (nc + 1) rr.cells = true) (hs : Nat.ble (ns + N) rr.slots = true) (k : ∀ q : Nat, zJw X G Q nL pc' L (.ref q :: st) (ws ++ [(q, .inr (ci, fs))]) (nc + 1) (ns + N)) : zJw X G Q nL pc L st ws nc ns := by
  obtain ⟨d, rfl⟩ := d
  have hts := C.2.2.2.2.1
  intro H locs ls hL hP hD hS
  exact va_new C.1 C.2.1 hts hin t hty C.2.2.2.1 (hts _ hl) (hts _ hi) (hts _ hini) C.2.2.2.2.2.2.2.1.1 hP hD hS Kk hc hfs (by rw [hR]; exact Nat.le_of_ble_eq_true hcc) (by rw [hR]; exact Nat.le_of_ble_eq_true hs) d (fun q H1 hP1 hD1 hS1 => k q H1 locs ls hL hP1 hD1 hS1)
theorem q_putF (C : zC X G cc own nL ret rF rL) (Kk : zCk X G) {h q0 ci kf idx N v : Nat} {fs : List Value} {T : u_T} {c : String} (t : Nat → FieldType) (d : zd cc pc pc' (.putfield idx) 3) (he : ws[q0]? = some (h, .inr (ci, fs))) (hc : zCl[ci]? = some (c, T, N)) (hin : ∀ w ∈ u_ws c T N, w ∈ zTb) (hty : ∀ k, k < N → parseFieldDescriptor (T k).2.2.1 = some (t k)) (hnm : ∀ a, a < N → ∀ b, b < N → a ≠ b → (T a).2.1 ≠ (T b).2.1) (hk : Nat.ble (kf + 1) N = true) (hl : Cond.fieldLink own idx (T kf).1 (T kf).2.1 (T kf).2.2.1 ∈ zTb) (hfin : (T kf).2.2.2 = true) (hdecl : (T kf).1 = own) (hn : narrow (t kf) (.ref v) = .ref v) (hfit : fits (t kf) (.ref v) = true) (hlen : Nat.ble (kf + 1) fs.length = true) {ws' : va_W} (hw : ws.set q0 (h, .inr (ci, fs.set kf (.ref v))) = ws') (k : zJw X G Q nL pc' L st ws' nc ns) : zJw X G Q nL pc L (.ref v :: .ref h :: st) ws nc ns := by
  obtain ⟨d, rfl⟩ := d
  subst hw
  have hts := C.2.2.2.2.1
  have hkN := Nat.le_of_ble_eq_true hk
  intro H locs ls hL hP hD hS
  exact va_putF C.1 C.2.1 hts hin t hty hnm C.2.2.2.1 C.2.2.2.2.2.2.2.1.1 hP hD hS q0 he hc kf hkN (hts _ hl) (fun _ h => h) hfin Kk.1 hdecl (hty kf hkN) hn hfit (Nat.le_of_ble_eq_true hlen) d (fun H1 locs1 hP1 hD1 hS1 => k H1 locs1 ls hL hP1 hD1 hS1)
theorem q_getr (C : zC X G cc own nL ret rF rL) {h q0 ci kf idx N v : Nat} {fs : List Value} {T : u_T} {c : String} (d : zd cc pc pc' (.getfield idx) 3) (he : ws[q0]? = some (h, .inr (ci, fs))) (hc : zCl[ci]? = some (c, T, N)) (hin : ∀ w ∈ u_ws c T N, w ∈ zTb) (hk : Nat.ble (kf + 1) N = true) (hl : Cond.fieldLink own idx (T kf).1 (T kf).2.1 (T kf).2.2.1 ∈ zTb) (hv : fs[kf]? = some (.ref v)) (k : zJw X G Q nL pc' L (.ref v :: st) ws nc ns) : zJw X G Q nL pc L (.ref h :: st) ws nc ns := by
  obtain ⟨d, rfl⟩ := d
  have hts := C.2.2.2.2.1
  intro H locs ls hL hP hD hS
  exact va_get C.1 C.2.1 hts hin C.2.2.2.1 C.2.2.2.2.2.2.2.1.1 hP q0 he hc kf (Nat.le_of_ble_eq_true hk) (hts _ hl) (fun _ h => h) hv d (k H locs ls hL hP hD hS)
theorem q_iastore (C : zC X G cc own nL ret rF rL) {a q0 len : Nat} {f : Nat → Int32} {i v : Int} (d : zd cc pc pc' .iastore 1) (ha : ws[q0]? = some (a, .inl (gca G 0, (len, .inl f)))) (h : 0 ≤ i ∧ i < (len : Int)) (hlen : Nat.ble len 100000 = true) {ws' : va_W} (hw : ws.set q0 (a, .inl (gca G 0, (len, .inl (upd f i.toNat (zI v))))) = ws') (k : zJw X G Q nL pc' L st ws' nc ns) : zJw X G Q nL pc L (.int (zI v) :: .int (zI i) :: .ref a :: st) ws nc ns := by
  obtain ⟨d, rfl⟩ := d
  subst hw
  obtain ⟨h1, h2, h3⟩ := zI_ix h (Nat.le_of_ble_eq_true hlen)
  intro H locs ls hL hP hD hS
  refine va_iast C.1 C.2.1 C.2.2.2.2.2.2.2.1.1 hP hD hS q0 0 ha rfl h1 d (fun H1 locs1 hP1 hD1 hS1 => ?_)
  rw [h2] at hP1 hD1
  exact k H1 locs1 ls hL hP1 hD1 hS1
theorem q_aastore (C : zC X G cc own nL ret rF rL) {a v q0 qk len : Nat} {vs : List Value} {f : Nat → Option Nat} {i : Int} (d : zd cc pc pc' .aastore 1) (ha : ws[q0]? = some (a, .inl (gca G 3, (len, .inr (.inr (.inr (.inr f))))))) (hv : ws[qk]? = some (v, .inr (0, vs))) (h : 0 ≤ i ∧ i < (len : Int)) (hlen : Nat.ble len 100000 = true) {ws' : va_W} (hw : ws.set q0 (a, .inl (gca G 3, (len, .inr (.inr (.inr (.inr (va_up f i.toNat (some v)))))))) = ws') (k : zJw X G Q nL pc' L st ws' nc ns) : zJw X G Q nL pc L (.ref v :: .int (zI i) :: .ref a :: st) ws nc ns := by
  obtain ⟨d, rfl⟩ := d
  subst hw
  obtain ⟨h1, h2, h3⟩ := zI_ix h (Nat.le_of_ble_eq_true hlen)
  intro H locs ls hL hP hD hS
  refine va_astq C.1 C.2.1 C.2.2.2.2.2.2.2.1.1 hP hD hS q0 3 qk 0 (r := (R_S, F_S, 8)) ha rfl hv rfl h1 d (fun H1 locs1 hP1 hD1 hS1 => ?_)
  rw [h2] at hP1 hD1
  exact k H1 locs1 ls hL hP1 hD1 hS1
theorem q_vreturn (C : zC X G cc own nL none rF rL) {rm : Room} {S : Type} {w1 : S → va_W} (u : S) (d : zd cc pc pc' .return_ 1) (hw : w1 u = ws) (hc : rm.cells = nc) (hs : rm.slots = ns) : zJw X G (zQn X G rm w1) nL pc L [] ws nc ns := by
  obtain ⟨d, rfl⟩ := d
  subst hw; subst hc; subst hs
  obtain ⟨hx, hb, -, -, -, hlk, hr, -, -, -, hH, -⟩ := C
  intro H locs ls hL hP hD hS
  refine W.vret hx hb hr (fun t ht hW => ⟨⟨u, rfl, trivial, by rw [ht]; exact hP, hD⟩, ?_⟩) hS.2.2 d hlk
  rw [hH] at hS
  exact hS.F ht
/-- what stands behind a list's last place -/
theorem zWs_last {ws : va_W} {x : Nat × va_E} : (ws ++ [x])[ws.length]? = some x := by simp
theorem q_callI (C : zC X G cc own nL ret rF rL) (Kk : ∀ q, (gH G).size ≤ q → gA G q) (Kc : zKc (gD G) (gca G) (xs X)) {y : MethodName} {bytes : ByteArray} {maxL idx h0 : Nat} {rm : Room} {x0 : va_E} {S : Type} {w1 : S → va_W} (d : zd cc pc pc' (.invokespecial idx) 3) (hM : ∀ sz, zCn (xl X) (gD G) (gca G) y bytes maxL rm h0 x0 sz w1) (hl : Cond.methodLink own idx y ∈ zTb) (hi : Cond.instanceMethod y ∈ zTb) (hini : Cond.initialized y.cls ∈ zTb) (hcode : Cond.code y bytes maxL none ∈ zTb) (hd : y.cls ≠ "java/lang/invoke/MethodHandle" ∧ y.cls ≠ "java/lang/invoke/VarHandle" ∧ (parseMethodDescriptor y.desc).map (fun d => d.parameters.length) = some 0) (hyn : y.name = "<init>") (hcat : Nat.ble (st.map fun v => v.category).sum 8 = true) (hR : xR X = rr) (hf : Nat.ble (rm.frames + 1) rr.frames = true) (ho : Nat.ble (8 + (maxL + 11) + rm.locals) rr.locals = true) (hcc : Nat.ble (nc + rm.cells) rr.cells = true) (hss : Nat.ble (ns + rm.slots) rr.slots = true) (k : ∀ u, zJw X G Q nL pc' L st (ws ++ w1 u) (nc + rm.cells) (ns + rm.slots)) : zJw X G Q nL pc L (.ref h0 :: st) (ws ++ [(h0, x0)]) nc ns := by
  obtain ⟨d, rfl⟩ := d
  have hts := C.2.2.2.2.1
  intro H locs ls hL hP hD hS
  have hlast : (ws ++ [(h0, x0)])[ws.length]? = some (h0, x0) := zWs_last
  have hPc : va_P (gD G) zCl [(h0, x0)] H := hP.sub [ws.length] (by simp)
  have hDc : va_D (gA G) [(h0, x0)] := hD.sub [ws.length] rfl (by simp)
  have hFc := va_free (wc := [(h0, x0)]) hD hS Kk [ws.length] (by simp)
  refine va_callv (va_runI (As := []) (rest := st) (b := h0) ⟨C.1, C.2.1, C.2.2.1, C.2.2.2.1, hts⟩ (hM H.size) ⟨callB_of (rm := rm) 0 hts (zGoodIn hcode) rfl rfl rfl (hts _ hini) (hts _ hl) hd ⟨by rw [hR]; exact Nat.le_of_ble_eq_true hf, by rw [hR]; exact Nat.le_of_ble_eq_true ho⟩, hyn, hts _ hi⟩ ⟨fun a U g mk q => ⟨q.1, q.2.1, q.2.2.1, zKc_calling q.2.2.2.1, q.2.2.2.2⟩, fun U hU hW => ⟨rfl, by rw [hU], by rw [hU]; exact hPc, zKc_moved hW Kc, hDc.weaken (fun _ _ _ _ => trivial)⟩⟩ rfl rfl hL.1 rfl (lv_room (Nat.le_of_ble_eq_true hcat)) d ⟨by rw [hR]; exact Nat.le_of_ble_eq_true hcc, by rw [hR]; exact Nat.le_of_ble_eq_true hss⟩) hS (fun q _ h => hFc q h) hFc (fun u t H1 locs1 ht hvm hw hB hz1 hk1 hS1 => ?_)
  obtain ⟨hP1, hD1⟩ := hB
  rw [ht] at hP1
  obtain ⟨hP', hD'⟩ := va_join (wr := ws) (wc := [(h0, x0)]) (w1 := w1 u) hP hD [ws.length] (List.range ws.length) (by simp) (zWs_rng ws _) (zWs_nd ws.length) (fun i hi => by simp at hi ⊢; omega) hk1 hFc hP1 hD1
  exact k u H1 locs1 ls hL hP' hD' hS1
theorem q_callIN {host : String} (C : zC X G cc own nL ret rF rL) (Kk : ∀ q, (gH G).size ≤ q → gA G q) (Kc : zKc (gD G) (gca G) (xs X)) {y : MethodName} {bytes : ByteArray} {maxL idx h0 : Nat} {rm : Room} {x0 : va_E} {S : Type} {w1 : S → va_W} (d : zd cc pc pc' (.invokespecial idx) 3) (hM : ∀ sz, zCn (xl X) (gD G) (gca G) y bytes maxL rm h0 x0 sz w1) (hl : (own, idx, y, host) ∈ zNc) (hi : Cond.instanceMethod y ∈ zTb) (hini : Cond.initialized y.cls ∈ zTb) (hcode : Cond.code y bytes maxL none ∈ zTb) (hd : y.cls ≠ "java/lang/invoke/MethodHandle" ∧ y.cls ≠ "java/lang/invoke/VarHandle" ∧ (parseMethodDescriptor y.desc).map (fun d => d.parameters.length) = some 0) (hyn : y.name = "<init>") (hcat : Nat.ble (st.map fun v => v.category).sum 8 = true) (hR : xR X = rr) (hf : Nat.ble (rm.frames + 1) rr.frames = true) (ho : Nat.ble (8 + (maxL + 11) + rm.locals) rr.locals = true) (hcc : Nat.ble (nc + rm.cells) rr.cells = true) (hss : Nat.ble (ns + rm.slots) rr.slots = true) (k : ∀ u, zJw X G Q nL pc' L st (ws ++ w1 u) (nc + rm.cells) (ns + rm.slots)) : zJw X G Q nL pc L (.ref h0 :: st) (ws ++ [(h0, x0)]) nc ns := by
  obtain ⟨d, rfl⟩ := d
  have hts := C.2.2.2.2.1
  intro H locs ls hL hP hD hS
  have hlast : (ws ++ [(h0, x0)])[ws.length]? = some (h0, x0) := zWs_last
  have hPc : va_P (gD G) zCl [(h0, x0)] H := hP.sub [ws.length] (by simp)
  have hDc : va_D (gA G) [(h0, x0)] := hD.sub [ws.length] rfl (by simp)
  have hFc := va_free (wc := [(h0, x0)]) hD hS Kk [ws.length] (by simp)
  refine va_callv (va_runIN (host := host) (As := []) (rest := st) (b := h0) ⟨C.1, C.2.1, C.2.2.1, C.2.2.2.1, hts⟩ (hM H.size) ⟨va_cnB (rm := rm) 0 hts (zGoodIn hcode) rfl rfl rfl (Kc.2.2 _ hl) (hts _ hini) hd ⟨by rw [hR]; exact Nat.le_of_ble_eq_true hf, by rw [hR]; exact Nat.le_of_ble_eq_true ho⟩, hyn, hts _ hi⟩ ⟨fun a U g mk q => ⟨q.1, q.2.1, q.2.2.1, zKc_calling q.2.2.2.1, q.2.2.2.2⟩, fun U hU hW => ⟨rfl, by rw [hU], by rw [hU]; exact hPc, zKc_moved hW Kc, hDc.weaken (fun _ _ _ _ => trivial)⟩⟩ rfl rfl hL.1 rfl (lv_room (Nat.le_of_ble_eq_true hcat)) d ⟨by rw [hR]; exact Nat.le_of_ble_eq_true hcc, by rw [hR]; exact Nat.le_of_ble_eq_true hss⟩) hS (fun q _ h => hFc q h) hFc (fun u t H1 locs1 ht hvm hw hB hz1 hk1 hS1 => ?_)
  obtain ⟨hP1, hD1⟩ := hB
  rw [ht] at hP1
  obtain ⟨hP', hD'⟩ := va_join (wr := ws) (wc := [(h0, x0)]) (w1 := w1 u) hP hD [ws.length] (List.range ws.length) (by simp) (zWs_rng ws _) (zWs_nd ws.length) (fun i hi => by simp at hi ⊢; omega) hk1 hFc hP1 hD1
  exact k u H1 locs1 ls hL hP' hD' hS1
end K2
