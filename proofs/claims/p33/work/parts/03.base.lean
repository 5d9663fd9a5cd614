/-! numbers: Int, as the machine's ints -/
abbrev zM : Type := Nat → Int → Int
def zI (x : Int) : Int32 := Int32.ofInt x
def zR (x : Int) : Prop := -2147483648 ≤ x ∧ x ≤ 2147483647
def zRM (σ : zM) : Prop := ∀ n j, zR (σ n j)
def zU (σ : zM) (n : Nat) (j v : Int) : zM := fun a b => if a = n ∧ b = j then v else σ a b
theorem zU_rg {σ : zM} (h : zRM σ) (n : Nat) (j : Int) {v : Int} (hv : zR v) : zRM (zU σ n j v) := by
  intro a b
  unfold zU
  split
  · exact hv
  · exact h a b
theorem zI_toInt {x : Int} (h : zR x) : (zI x).toInt = x := Int32.toInt_ofInt_of_le (by have := h.1; omega) (by have := h.2; omega)
theorem zI_rg (x : Int32) : zR x.toInt := ⟨by have := Int32.le_toInt x; omega, by have := Int32.toInt_lt x; omega⟩
theorem zI_of (x : Int32) : zI x.toInt = x := Int32.ofInt_toInt x
theorem zI_lt {x y : Int} (hx : zR x) (hy : zR y) : zI x < zI y ↔ x < y := by rw [Int32.lt_iff_toInt_lt, zI_toInt hx, zI_toInt hy]
theorem zI_le {x y : Int} (hx : zR x) (hy : zR y) : zI x ≤ zI y ↔ x ≤ y := by rw [Int32.le_iff_toInt_le, zI_toInt hx, zI_toInt hy]
theorem zI_eq {x y : Int} (hx : zR x) (hy : zR y) : zI x = zI y ↔ x = y := by rw [← Int32.toInt_inj, zI_toInt hx, zI_toInt hy]
theorem zI_0 : (0 : Int32) = zI 0 := rfl
theorem zR_0 : zR 0 := ⟨by omega, by omega⟩
theorem zI_clamp {x : Int} (h0 : 0 ≤ x) (h : x ≤ 2147483647) : (zI x).toNatClampNeg = x.toNat := by
  show (zI x).toInt.toNat = x.toNat
  rw [zI_toInt ⟨by omega, h⟩]
theorem zI_in {x : Int} {n : Nat} (h0 : 0 ≤ x) (h : x < n) (hn : n ≤ 2147483647) : vp_in (zI x) n := by
  rw [vp_in_iff, zI_toInt ⟨by omega, by omega⟩]
  exact ⟨h0, h⟩
theorem zI_nn {x : Int} (h : zR x) (h0 : 0 ≤ x) : ¬ zI x < 0 := by
  rw [zI_0, zI_lt h zR_0]; omega
def zAnd (x y : Int) : Int := (zI x &&& zI y).toInt
def zOr (x y : Int) : Int := (zI x ||| zI y).toInt
def zXor (x y : Int) : Int := (zI x ^^^ zI y).toInt
def zShl (x y : Int) : Int := (zI x <<< (zI y &&& 31)).toInt
def zShr (x y : Int) : Int := (zI x >>> (zI y &&& 31)).toInt
def zUshr (x y : Int) : Int := (((zI x).toUInt32 >>> ((zI y).toUInt32 &&& Int32.toUInt32 31)).toInt32).toInt
theorem zAnd_rg (x y : Int) : zR (zAnd x y) := zI_rg _
theorem zOr_rg (x y : Int) : zR (zOr x y) := zI_rg _
theorem zXor_rg (x y : Int) : zR (zXor x y) := zI_rg _
theorem zShl_rg (x y : Int) : zR (zShl x y) := zI_rg _
theorem zShr_rg (x y : Int) : zR (zShr x y) := zI_rg _
theorem zUshr_rg (x y : Int) : zR (zUshr x y) := zI_rg _
/-! the world -/
def zFld (ad : Nat → Nat) (σ : zM) (n : Nat) : Int → List Int → List Value
  | _, [] => []
  | j, d :: r => (if d < 0 then Value.int (zI (σ n j)) else Value.ref (ad d.toNat)) :: zFld ad σ n (j + 1) r
def zEnt (ad : Nat → Nat) (ca : Nat → ClassId) (σ : zM) (n : Nat) : zSh → va_E
  | .inl (t, len) => .inl (ca t, (len, if t = 3 then .inr (.inr (.inr (.inr (fun j => some (ad (6 * (σ n j).toNat)))))) else .inl (fun j => zI (σ n j))))
  | .inr (ci, fs) => .inr (ci, zFld ad σ n 0 fs)
def zWs (ad : Nat → Nat) (ca : Nat → ClassId) (σ : zM) : va_W := zShp.mapIdx (fun n sh => (ad n, zEnt ad ca σ n sh))
theorem zWs_get {ad : Nat → Nat} {ca : Nat → ClassId} {σ : zM} {n : Nat} {sh : zSh} (h : zShp[n]? = some sh) : (zWs ad ca σ)[n]? = some (ad n, zEnt ad ca σ n sh) := by
  unfold zWs
  rw [List.getElem?_mapIdx, h]; rfl
theorem zFld_congr {ad : Nat → Nat} {σ σ' : zM} {n : Nat} (h : ∀ j, σ n j = σ' n j) : ∀ (l : List Int) (j : Int), zFld ad σ n j l = zFld ad σ' n j l
  | [], _ => rfl
  | d :: r, j => by unfold zFld; rw [h j, zFld_congr h r (j + 1)]
theorem zEnt_congr {ad : Nat → Nat} {ca : Nat → ClassId} {σ σ' : zM} {n : Nat} (h : ∀ j, σ n j = σ' n j) (sh : zSh) : zEnt ad ca σ n sh = zEnt ad ca σ' n sh := by
  have h' : σ n = σ' n := funext h
  cases sh with
  | inl x => obtain ⟨t, len⟩ := x; unfold zEnt; rw [h']
  | inr x =>
    obtain ⟨ci, fs⟩ := x
    show (Sum.inr (ci, zFld ad σ n 0 fs) : va_E) = .inr (ci, zFld ad σ' n 0 fs)
    rw [zFld_congr h]
theorem zWs_set {ad : Nat → Nat} {ca : Nat → ClassId} {σ σ' : zM} {n : Nat} {sh : zSh} {e : va_E} (hn : zShp[n]? = some sh) (he : zEnt ad ca σ' n sh = e) (ho : ∀ m, m ≠ n → ∀ j, σ m j = σ' m j) : (zWs ad ca σ).set n (ad n, e) = zWs ad ca σ' := by
  have hl : n < (zWs ad ca σ).length := (List.getElem?_eq_some_iff.mp (zWs_get (ad := ad) (ca := ca) (σ := σ) hn)).1
  apply List.ext_getElem?
  intro m
  by_cases hm : m = n
  · subst hm
    rw [List.getElem?_set_self hl, zWs_get hn, he]
  · rw [List.getElem?_set_ne (Ne.symm hm)]
    unfold zWs
    rw [List.getElem?_mapIdx, List.getElem?_mapIdx]
    cases zShp[m]? with
    | none => rfl
    | some sh' => simp only [Option.map_some]; rw [zEnt_congr (ho m hm)]
theorem zU_o {σ : zM} {n m : Nat} {i v : Int} (h : m ≠ n) (j : Int) : σ m j = zU σ n i v m j := by
  unfold zU
  rw [if_neg (fun hh => h hh.1)]
theorem zFld_set {ad : Nat → Nat} {σ : zM} {n : Nat} {v : Int} : ∀ (fs : List Int) (b : Int) (k : Nat), fs[k]? = some (-1) → zFld ad (zU σ n (b + k) v) n b fs = (zFld ad σ n b fs).set k (.int (zI v))
  | [], b, k, h => by simp at h
  | d :: r, b, 0, h => by
    have hd : d = -1 := by simpa using h
    subst hd
    have key : ∀ (r : List Int) (c : Int), b < c → zFld ad (zU σ n b v) n c r = zFld ad σ n c r := by
      intro r
      induction r with
      | nil => intro c _; rfl
      | cons x r ih =>
        intro c hc
        unfold zFld
        rw [ih (c + 1) (by omega)]
        have : zU σ n b v n c = σ n c := by unfold zU; rw [if_neg (fun hh => by omega)]
        rw [this]
    have hb : b + ((0 : Nat) : Int) = b := by omega
    rw [hb]
    unfold zFld
    rw [key r (b + 1) (by omega)]
    simp [zU]
  | d :: r, b, k + 1, h => by
    have h' : r[k]? = some (-1) := by simpa using h
    have ih := zFld_set (ad := ad) (σ := σ) (n := n) (v := v) r (b + 1) k h'
    have hb : b + ((k + 1 : Nat) : Int) = b + 1 + (k : Int) := by omega
    rw [hb]
    unfold zFld
    rw [ih]
    have : zU σ n (b + 1 + k) v n b = σ n b := by unfold zU; rw [if_neg (fun hh => by omega)]
    rw [this]
    rfl
theorem zFld_get {ad : Nat → Nat} {σ : zM} {n : Nat} : ∀ (fs : List Int) (b : Int) (k : Nat) (d : Int), fs[k]? = some d → (zFld ad σ n b fs)[k]? = some (if d < 0 then Value.int (zI (σ n (b + k))) else Value.ref (ad d.toNat))
  | [], b, k, d, h => by simp at h
  | x :: r, b, 0, d, h => by
    have hd : x = d := by simpa using h
    subst hd
    have hb : b + ((0 : Nat) : Int) = b := by omega
    rw [hb]; rfl
  | x :: r, b, k + 1, d, h => by
    have h' : r[k]? = some d := by simpa using h
    have ih := zFld_get (ad := ad) (σ := σ) (n := n) r (b + 1) k d h'
    have hb : b + ((k + 1 : Nat) : Int) = b + 1 + (k : Int) := by omega
    rw [hb]
    unfold zFld
    rw [List.getElem?_cons_succ]
    exact ih
theorem zFld_len {ad : Nat → Nat} {σ : zM} {n : Nat} : ∀ (fs : List Int) (b : Int), (zFld ad σ n b fs).length = fs.length
  | [], _ => rfl
  | d :: r, b => by unfold zFld; rw [List.length_cons, List.length_cons, zFld_len r]
/-- which cells the system's methods may change: those of the world -/
def zAw (ad : Nat → Nat) : Nat → Prop := fun q => ∃ n, n < 79 ∧ ad n = q
theorem zShp_lt {n : Nat} {sh : zSh} (h : zShp[n]? = some sh) : n < 79 := (List.getElem?_eq_some_iff.mp h).1
theorem zWs_inv {ad : Nat → Nat} {ca : Nat → ClassId} {σ : zM} {n : Nat} {q : Nat × va_E} (h : (zWs ad ca σ)[n]? = some q) : n < 79 ∧ q.1 = ad n := by
  unfold zWs at h
  rw [List.getElem?_mapIdx] at h
  cases hs : zShp[n]? with
  | none => rw [hs] at h; cases h
  | some sh =>
    rw [hs] at h
    cases h
    exact ⟨zShp_lt hs, rfl⟩
theorem zD_to {A : Nat → Prop} {ad : Nat → Nat} {ca : Nat → ClassId} {σ σ' : zM} (h : va_D A (zWs ad ca σ)) : va_D A (zWs ad ca σ') := by
  have key : ∀ (n : Nat) (q : Nat × va_E), (zWs ad ca σ')[n]? = some q → ∃ q', (zWs ad ca σ)[n]? = some q' ∧ q'.1 = q.1 := by
    intro n q hq
    obtain ⟨h1, h2⟩ := zWs_inv hq
    have hl : n < zShp.length := h1
    exact ⟨_, zWs_get (List.getElem?_eq_getElem hl), h2.symm⟩
  refine ⟨fun i j p q hi hj e => ?_, fun k q hk => ?_⟩
  · obtain ⟨p', h1, h2⟩ := key i p hi
    obtain ⟨q', h3, h4⟩ := key j q hj
    exact h.1 i j p' q' h1 h3 (by rw [h2, h4, e])
  · obtain ⟨q', h1, h2⟩ := key k q hk
    rw [← h2]; exact h.2 k q' h1
theorem zD_aw {A : Nat → Prop} {ad : Nat → Nat} {ca : Nat → ClassId} {σ : zM} (h : va_D A (zWs ad ca σ)) : va_D (zAw ad) (zWs ad ca σ) :=
  ⟨h.1, fun k q hk => by obtain ⟨h1, h2⟩ := zWs_inv hk; exact ⟨k, h1, h2.symm⟩⟩
theorem zAw_in {A : Nat → Prop} {ad : Nat → Nat} {ca : Nat → ClassId} {σ : zM} (h : va_D A (zWs ad ca σ)) : ∀ q, zAw ad q → A q := by
  intro q ⟨n, hn, e⟩
  have hl : n < zShp.length := hn
  have := h.2 n _ (zWs_get (List.getElem?_eq_getElem hl))
  rw [← e]; exact this
/-! contexts: what a frame of a method stands in -/
abbrev zX : Type := Program × Launch × Env × Room × State × MethodId × Array Value × List Frame × Method × Code
/-- D, addresses, array classes, what may change, the heap at the start, cells and slots made -/
abbrev zG : Type := va_G × (Nat → Nat) × (Nat → ClassId) × (Nat → Prop) × Heap × Nat × Nat
abbrev xp (X : zX) : Program := X.1
abbrev xl (X : zX) : Launch := X.2.1
abbrev xe (X : zX) : Env := X.2.2.1
abbrev xR (X : zX) : Room := X.2.2.2.1
abbrev xs (X : zX) : State := X.2.2.2.2.1
abbrev xm (X : zX) : MethodId := X.2.2.2.2.2.1
abbrev xa (X : zX) : Array Value := X.2.2.2.2.2.2.1
abbrev xb (X : zX) : List Frame := X.2.2.2.2.2.2.2.1
abbrev xt (X : zX) : Method := X.2.2.2.2.2.2.2.2.1
abbrev xc (X : zX) : Code := X.2.2.2.2.2.2.2.2.2
abbrev gD (G : zG) : va_G := G.1
abbrev gad (G : zG) : Nat → Nat := G.2.1
abbrev gca (G : zG) : Nat → ClassId := G.2.2.1
abbrev gA (G : zG) : Nat → Prop := G.2.2.2.1
abbrev gH (G : zG) : Heap := G.2.2.2.2.1
abbrev gc (G : zG) : Nat := G.2.2.2.2.2.1
abbrev gs (G : zG) : Nat := G.2.2.2.2.2.2
abbrev zTy (ca : Nat → ClassId) : List (ClassId × FieldType) := [(ca 0, .int), (ca 1, .boolean), (ca 2, .char), (ca 3, .object R_S)]
/-- what a frame knows of the tables: the classes, the arrays' classes, the nest mates' links -/
def zK (D : va_G) (ca : Nat → ClassId) (U : State) : Prop := va_K D zCl (zTy ca) U ∧ ∀ q ∈ zNw, va_Nw (.methodLinkNest q.1 q.2.1 q.2.2.1 q.2.2.2) U
def zC (X : zX) (G : zG) (cc : ByteArray) (own : String) (nL : Nat) (ret : Option FieldType) (rF rL : Nat) : Prop :=
  (xp X).tables.exec = Jvm.exec ∧ (xc X).code = cc ∧ (xc X).maxLocals = nL ∧ (xs X).vm.findClass own = some (xm X).cls ∧ (∀ w ∈ zTb, w.before (xa X) (xs X) = true) ∧ (xt X).locks = false ∧ (xt X).sig.returnType = ret ∧ zK (gD G) (gca G) (xs X) ∧ gc G ≤ (xR X).cells ∧ gs G ≤ (xR X).slots ∧ gH G = (xs X).heap ∧ rF ≤ (xR X).frames ∧ rL ≤ (xR X).locals
def zJ (X : zX) (G : zG) (Q : State → Prop) (nL pc : Nat) (L : List (Nat × Value)) (st : List Value) (σ : zM) : Prop :=
  ∀ (H : Heap) (locs : List Loc) (ls : Array Slot), lv_has ls nL L → va_P (gD G) zCl (zWs (gad G) (gca G) σ) H → va_D (gA G) (zWs (gad G) (gca G) σ) → va_S (gA G) (gH G) H locs → W (xp X) (xl X) (xe X) (xR X) (xs X) (xm X) (xa X) (xb X) (xt X) (xc X) H locs (gc G) (gs G) Q (F0 (xm X) pc ls st)
section J1
variable {X : zX} {G : zG} {Q : State → Prop} {nL pc pc' : Nat} {L L' : List (Nat × Value)} {st : List Value} {σ : zM} {cc : ByteArray} {own : String} {ret : Option FieldType} {rF rL : Nat}
theorem j_sub (ks : List Nat) (hl : lv_pick L ks = L') (k : zJ X G Q nL pc L' st σ) : zJ X G Q nL pc L st σ := fun H locs ls hL hP hD hS => k H locs ls (lv_sub hL ks hl) hP hD hS
theorem j_eq {x y : Int} (e : x = y) (k : zJ X G Q nL pc L (.int (zI y) :: st) σ) : zJ X G Q nL pc L (.int (zI x) :: st) σ := by rw [e]; exact k
theorem j_name {x : Int} (k : ∀ y : Int, y = x → zJ X G Q nL pc L (.int (zI y) :: st) σ) : zJ X G Q nL pc L (.int (zI x) :: st) σ := k x rfl
theorem j_iconst (C : zC X G cc own nL ret rF rL) {n : Int} (d : zd cc pc pc' (.iconst n) 1) (k : zJ X G Q nL pc' L (.int (zI n) :: st) σ) : zJ X G Q nL pc L st σ := by
  obtain ⟨d, rfl⟩ := d
  exact fun H locs ls hL hP hD hS => lv_iconst C.1 C.2.1 d rfl (k H locs ls hL hP hD hS)
theorem zI_8 {n : Int} (h : (decide (-128 ≤ n) && decide (n < 128)) = true) : (Int8.ofInt n).toInt32 = zI n := by
  simp only [Bool.and_eq_true, decide_eq_true_eq] at h
  apply Int32.toInt_inj.mp
  rw [Int8.toInt_toInt32, Int8.toInt_ofInt_of_le (by omega) (by omega), zI_toInt ⟨by omega, by omega⟩]
theorem zI_16 {n : Int} (h : (decide (-32768 ≤ n) && decide (n < 32768)) = true) : (Int16.ofInt n).toInt32 = zI n := by
  simp only [Bool.and_eq_true, decide_eq_true_eq] at h
  apply Int32.toInt_inj.mp
  rw [Int16.toInt_toInt32, Int16.toInt_ofInt_of_le (by omega) (by omega), zI_toInt ⟨by omega, by omega⟩]
theorem j_bipush (C : zC X G cc own nL ret rF rL) {n : Int} (d : zd cc pc pc' (.bipush n) 2) (hn : (decide (-128 ≤ n) && decide (n < 128)) = true) (k : zJ X G Q nL pc' L (.int (zI n) :: st) σ) : zJ X G Q nL pc L st σ := by
  obtain ⟨d, rfl⟩ := d
  exact fun H locs ls hL hP hD hS => lv_bipush C.1 C.2.1 d (zI_8 hn) (k H locs ls hL hP hD hS)
theorem j_sipush (C : zC X G cc own nL ret rF rL) {n : Int} (d : zd cc pc pc' (.sipush n) 3) (hn : (decide (-32768 ≤ n) && decide (n < 32768)) = true) (k : zJ X G Q nL pc' L (.int (zI n) :: st) σ) : zJ X G Q nL pc L st σ := by
  obtain ⟨d, rfl⟩ := d
  exact fun H locs ls hL hP hD hS => lv_sipush C.1 C.2.1 d (zI_16 hn) (k H locs ls hL hP hD hS)
theorem j_ldc (C : zC X G cc own nL ret rF rL) {n : Int} {v : Int32} {index : Nat} (hw : Jvm.Cond.constant own index v ∈ zTb) (hv : zI n = v) (d : zd cc pc pc' (.ldc index) 2) (k : zJ X G Q nL pc' L (.int (zI n) :: st) σ) : zJ X G Q nL pc L st σ := by
  obtain ⟨d, rfl⟩ := d
  subst hv
  exact fun H locs ls hL hP hD hS => lv_ldc C.1 C.2.1 C.2.2.2.1 (C.2.2.2.2.1 _ hw) d (k H locs ls hL hP hD hS)
theorem j_ldcw (C : zC X G cc own nL ret rF rL) {n : Int} {v : Int32} {index : Nat} (hw : Jvm.Cond.constant own index v ∈ zTb) (hv : zI n = v) (d : zd cc pc pc' (.ldc_w index) 3) (k : zJ X G Q nL pc' L (.int (zI n) :: st) σ) : zJ X G Q nL pc L st σ := by
  obtain ⟨d, rfl⟩ := d
  subst hv
  exact fun H locs ls hL hP hD hS => lv_ldcw C.1 C.2.1 C.2.2.2.1 (C.2.2.2.2.1 _ hw) d (k H locs ls hL hP hD hS)
theorem j_ldc2 (C : zC X G cc own nL ret rF rL) {v : Int64} {index : Nat} (hw : Jvm.Cond.constantLong own index v ∈ zTb) (d : zd cc pc pc' (.ldc2_w index) 3) (k : zJ X G Q nL pc' L (.long v :: st) σ) : zJ X G Q nL pc L st σ := by
  obtain ⟨d, rfl⟩ := d
  exact fun H locs ls hL hP hD hS => lv_ldc2 C.1 C.2.1 C.2.2.2.1 (C.2.2.2.2.1 _ hw) d (k H locs ls hL hP hD hS)
theorem j_lconst (C : zC X G cc own nL ret rF rL) {n : Fin 2} {v : Int64} (d : zd cc pc pc' (.lconst n) 1) (hv : Int64.ofNat (n : Nat) = v) (k : zJ X G Q nL pc' L (.long v :: st) σ) : zJ X G Q nL pc L st σ := by
  obtain ⟨d, rfl⟩ := d
  exact fun H locs ls hL hP hD hS => lv_lconst C.1 C.2.1 d hv (k H locs ls hL hP hD hS)
theorem j_iload_n (C : zC X G cc own nL ret rF rL) {k : Fin 4} {i : Nat} {x : Int} (d : zd cc pc pc' (.iload_n k) 1) (a : Nat) (ha : L[a]? = some (i, .int (zI x))) (hi : (k : Nat) = i) (kk : zJ X G Q nL pc' L (.int (zI x) :: st) σ) : zJ X G Q nL pc L st σ := by
  obtain ⟨d, rfl⟩ := d
  exact fun H locs ls hL hP hD hS => lv_iload_n C.1 C.2.1 d hi (lv_at hL a ha) (kk H locs ls hL hP hD hS)
theorem j_iload (C : zC X G cc own nL ret rF rL) {i : Nat} {x : Int} (d : zd cc pc pc' (.iload i) 2) (a : Nat) (ha : L[a]? = some (i, .int (zI x))) (kk : zJ X G Q nL pc' L (.int (zI x) :: st) σ) : zJ X G Q nL pc L st σ := by
  obtain ⟨d, rfl⟩ := d
  exact fun H locs ls hL hP hD hS => lv_iload C.1 C.2.1 d (lv_at hL a ha) (kk H locs ls hL hP hD hS)
theorem j_lload_n (C : zC X G cc own nL ret rF rL) {k : Fin 4} {i : Nat} {x : Int64} (d : zd cc pc pc' (.lload_n k) 1) (a : Nat) (ha : L[a]? = some (i, .long x)) (hi : (k : Nat) = i) (kk : zJ X G Q nL pc' L (.long x :: st) σ) : zJ X G Q nL pc L st σ := by
  obtain ⟨d, rfl⟩ := d
  exact fun H locs ls hL hP hD hS => lv_lload_n C.1 C.2.1 d hi (lv_at hL a ha) (kk H locs ls hL hP hD hS)
theorem j_lload (C : zC X G cc own nL ret rF rL) {i : Nat} {x : Int64} (d : zd cc pc pc' (.lload i) 2) (a : Nat) (ha : L[a]? = some (i, .long x)) (kk : zJ X G Q nL pc' L (.long x :: st) σ) : zJ X G Q nL pc L st σ := by
  obtain ⟨d, rfl⟩ := d
  exact fun H locs ls hL hP hD hS => lv_lload C.1 C.2.1 d (lv_at hL a ha) (kk H locs ls hL hP hD hS)
theorem j_aload_n (C : zC X G cc own nL ret rF rL) {k : Fin 4} {i x : Nat} (d : zd cc pc pc' (.aload_n k) 1) (a : Nat) (ha : L[a]? = some (i, .ref x)) (hi : (k : Nat) = i) (kk : zJ X G Q nL pc' L (.ref x :: st) σ) : zJ X G Q nL pc L st σ := by
  obtain ⟨d, rfl⟩ := d
  exact fun H locs ls hL hP hD hS => lv_aload_n C.1 C.2.1 d hi (lv_at hL a ha) (kk H locs ls hL hP hD hS)
theorem j_aload (C : zC X G cc own nL ret rF rL) {i x : Nat} (d : zd cc pc pc' (.aload i) 2) (a : Nat) (ha : L[a]? = some (i, .ref x)) (kk : zJ X G Q nL pc' L (.ref x :: st) σ) : zJ X G Q nL pc L st σ := by
  obtain ⟨d, rfl⟩ := d
  exact fun H locs ls hL hP hD hS => lv_aload C.1 C.2.1 d (lv_at hL a ha) (kk H locs ls hL hP hD hS)
theorem j_istore_n (C : zC X G cc own nL ret rF rL) {k : Fin 4} {i : Nat} {x : Int} (d : zd cc pc pc' (.istore_n k) 1) (hi : (k : Nat) = i) (hn : Nat.ble (i + 1) nL = true) (hl : (i, Value.int (zI x)) :: L.filter (fun q => !(q.1 == i) && !(q.1 + 1 == i && q.2.category == 2)) = L') (kk : zJ X G Q nL pc' L' st σ) : zJ X G Q nL pc L (.int (zI x) :: st) σ := by
  obtain ⟨d, rfl⟩ := d
  exact fun H locs ls hL hP hD hS => lv_istore_n C.1 C.2.1 d hi hL (Nat.le_of_ble_eq_true hn) hl (fun ls' hL' => kk H locs ls' hL' hP hD hS)
theorem j_istore (C : zC X G cc own nL ret rF rL) {i : Nat} {x : Int} (d : zd cc pc pc' (.istore i) 2) (hn : Nat.ble (i + 1) nL = true) (hl : (i, Value.int (zI x)) :: L.filter (fun q => !(q.1 == i) && !(q.1 + 1 == i && q.2.category == 2)) = L') (kk : zJ X G Q nL pc' L' st σ) : zJ X G Q nL pc L (.int (zI x) :: st) σ := by
  obtain ⟨d, rfl⟩ := d
  exact fun H locs ls hL hP hD hS => lv_istore C.1 C.2.1 d hL (Nat.le_of_ble_eq_true hn) hl (fun ls' hL' => kk H locs ls' hL' hP hD hS)
theorem j_astore_n (C : zC X G cc own nL ret rF rL) {k : Fin 4} {i x : Nat} (d : zd cc pc pc' (.astore_n k) 1) (hi : (k : Nat) = i) (hn : Nat.ble (i + 1) nL = true) (hl : (i, Value.ref x) :: L.filter (fun q => !(q.1 == i) && !(q.1 + 1 == i && q.2.category == 2)) = L') (kk : zJ X G Q nL pc' L' st σ) : zJ X G Q nL pc L (.ref x :: st) σ := by
  obtain ⟨d, rfl⟩ := d
  exact fun H locs ls hL hP hD hS => lv_astore_n C.1 C.2.1 d hi hL (Nat.le_of_ble_eq_true hn) hl (fun ls' hL' => kk H locs ls' hL' hP hD hS)
theorem j_lstore_n (C : zC X G cc own nL ret rF rL) {k : Fin 4} {i : Nat} {x : Int64} (d : zd cc pc pc' (.lstore_n k) 1) (hi : (k : Nat) = i) (hn : Nat.ble (i + 2) nL = true) (hl : (i, Value.long x) :: L.filter (fun q => !(q.1 == i) && (!(q.1 == i + 1) && !(q.1 + 1 == i && q.2.category == 2))) = L') (kk : zJ X G Q nL pc' L' st σ) : zJ X G Q nL pc L (.long x :: st) σ := by
  obtain ⟨d, rfl⟩ := d
  exact fun H locs ls hL hP hD hS => lv_lstore_n C.1 C.2.1 d hi hL (Nat.le_of_ble_eq_true hn) hl (fun ls' hL' => kk H locs ls' hL' hP hD hS)
theorem j_lstore (C : zC X G cc own nL ret rF rL) {i : Nat} {x : Int64} (d : zd cc pc pc' (.lstore i) 2) (hn : Nat.ble (i + 2) nL = true) (hl : (i, Value.long x) :: L.filter (fun q => !(q.1 == i) && (!(q.1 == i + 1) && !(q.1 + 1 == i && q.2.category == 2))) = L') (kk : zJ X G Q nL pc' L' st σ) : zJ X G Q nL pc L (.long x :: st) σ := by
  obtain ⟨d, rfl⟩ := d
  exact fun H locs ls hL hP hD hS => lv_lstore C.1 C.2.1 d hL (Nat.le_of_ble_eq_true hn) hl (fun ls' hL' => kk H locs ls' hL' hP hD hS)
theorem j_iinc (C : zC X G cc own nL ret rF rL) {i : Nat} {n x : Int} (d : zd cc pc pc' (.iinc i n) 3) (a : Nat) (ha : L[a]? = some (i, .int (zI x))) (hn : Nat.ble (i + 1) nL = true) (hl : (i, Value.int (zI (x + n))) :: L.filter (fun q => !(q.1 == i) && !(q.1 + 1 == i && q.2.category == 2)) = L') (kk : zJ X G Q nL pc' L' st σ) : zJ X G Q nL pc L st σ := by
  obtain ⟨d, rfl⟩ := d
  exact fun H locs ls hL hP hD hS => lv_iinc C.1 C.2.1 d hL ha (by show zI x + Int32.ofInt n = zI (x + n); exact (Int32.ofInt_add x n).symm) (Nat.le_of_ble_eq_true hn) hl (fun ls' hL' => kk H locs ls' hL' hP hD hS)
theorem j_iincW (C : zC X G cc own nL ret rF rL) {i : Nat} {n x : Int} (d : zd cc pc pc' (.iinc i n) 6) (a : Nat) (ha : L[a]? = some (i, .int (zI x))) (hn : Nat.ble (i + 1) nL = true) (hl : (i, Value.int (zI (x + n))) :: L.filter (fun q => !(q.1 == i) && !(q.1 + 1 == i && q.2.category == 2)) = L') (kk : zJ X G Q nL pc' L' st σ) : zJ X G Q nL pc L st σ := by
  obtain ⟨d, rfl⟩ := d
  exact fun H locs ls hL hP hD hS => lv_iincW C.1 C.2.1 d hL ha (by show zI x + Int32.ofInt n = zI (x + n); exact (Int32.ofInt_add x n).symm) (Nat.le_of_ble_eq_true hn) hl (fun ls' hL' => kk H locs ls' hL' hP hD hS)
theorem j_iadd (C : zC X G cc own nL ret rF rL) {x y : Int} (d : zd cc pc pc' .iadd 1) (k : zJ X G Q nL pc' L (.int (zI (x + y)) :: st) σ) : zJ X G Q nL pc L (.int (zI y) :: .int (zI x) :: st) σ := by
  obtain ⟨d, rfl⟩ := d
  exact fun H locs ls hL hP hD hS => lv_iadd C.1 C.2.1 d (by have := k H locs ls hL hP hD hS; rwa [show zI (x + y) = zI x + zI y from Int32.ofInt_add x y] at this)
theorem j_isub (C : zC X G cc own nL ret rF rL) {x y : Int} (d : zd cc pc pc' .isub 1) (k : zJ X G Q nL pc' L (.int (zI (x - y)) :: st) σ) : zJ X G Q nL pc L (.int (zI y) :: .int (zI x) :: st) σ := by
  obtain ⟨d, rfl⟩ := d
  exact fun H locs ls hL hP hD hS => lv_isub C.1 C.2.1 d (by have := k H locs ls hL hP hD hS; rwa [show zI (x - y) = zI x - zI y from Int32.ofInt_sub x y] at this)
theorem j_imul (C : zC X G cc own nL ret rF rL) {x y : Int} (d : zd cc pc pc' .imul 1) (k : zJ X G Q nL pc' L (.int (zI (x * y)) :: st) σ) : zJ X G Q nL pc L (.int (zI y) :: .int (zI x) :: st) σ := by
  obtain ⟨d, rfl⟩ := d
  exact fun H locs ls hL hP hD hS => lv_imul C.1 C.2.1 d (by have := k H locs ls hL hP hD hS; rwa [show zI (x * y) = zI x * zI y from Int32.ofInt_mul x y] at this)
theorem j_ineg (C : zC X G cc own nL ret rF rL) {x : Int} (d : zd cc pc pc' .ineg 1) (k : zJ X G Q nL pc' L (.int (zI (-x)) :: st) σ) : zJ X G Q nL pc L (.int (zI x) :: st) σ := by
  obtain ⟨d, rfl⟩ := d
  exact fun H locs ls hL hP hD hS => lv_ineg C.1 C.2.1 d (by have := k H locs ls hL hP hD hS; rwa [show zI (-x) = - zI x from Int32.ofInt_neg x] at this)
theorem zI_div {x y : Int} (hx : zR x) (h0 : 0 ≤ x) (hy : zR y) (hy0 : 0 < y) : zI x / zI y = zI (x / y) := by
  have h1 : x / y ≤ x := Int.ediv_le_self y h0
  have h2 : 0 ≤ x / y := Int.ediv_nonneg h0 (by omega)
  have h3 := hx.2
  apply Int32.toInt_inj.mp
  rw [Int32.toInt_div_of_ne_right _ _ (by intro h; have := congrArg Int32.toInt h; rw [zI_toInt hy] at this; have e : (-1 : Int32).toInt = -1 := rfl; omega), zI_toInt hx, zI_toInt hy, zI_toInt ⟨by omega, by omega⟩]
  exact Int.tdiv_eq_ediv_of_nonneg h0
theorem zI_ne0 {y : Int} (hy : zR y) (hy0 : 0 < y) : ¬ zI y = 0 := by
  rw [zI_0, zI_eq hy zR_0]; omega
theorem j_idiv (C : zC X G cc own nL ret rF rL) {x y : Int} (d : zd cc pc pc' .idiv 1) (hx : zR x) (h0 : 0 ≤ x) (hy : zR y) (hy0 : 0 < y) (k : zJ X G Q nL pc' L (.int (zI (x / y)) :: st) σ) : zJ X G Q nL pc L (.int (zI y) :: .int (zI x) :: st) σ := by
  obtain ⟨d, rfl⟩ := d
  exact fun H locs ls hL hP hD hS => lv_idiv C.1 C.2.1 d (zI_ne0 hy hy0) (by have := k H locs ls hL hP hD hS; rwa [← zI_div hx h0 hy hy0] at this)
theorem j_irem (C : zC X G cc own nL ret rF rL) {x y : Int} (d : zd cc pc pc' .irem 1) (hx : zR x) (h0 : 0 ≤ x) (hy : zR y) (hy0 : 0 < y) (k : zJ X G Q nL pc' L (.int (zI (x % y)) :: st) σ) : zJ X G Q nL pc L (.int (zI y) :: .int (zI x) :: st) σ := by
  obtain ⟨d, rfl⟩ := d
  refine fun H locs ls hL hP hD hS => lv_irem C.1 C.2.1 d (zI_ne0 hy hy0) ?_
  have e : zI x - zI x / zI y * zI y = zI (x % y) := by
    rw [zI_div hx h0 hy hy0]
    show Int32.ofInt x - Int32.ofInt (x / y) * Int32.ofInt y = Int32.ofInt (x % y)
    rw [← Int32.ofInt_mul, ← Int32.ofInt_sub]
    congr 1
    have := Int.mul_ediv_add_emod x y
    rw [Int.mul_comm] at this
    omega
  rw [e]
  exact k H locs ls hL hP hD hS
theorem j_iand (C : zC X G cc own nL ret rF rL) {x y : Int} (d : zd cc pc pc' .iand 1) (k : zJ X G Q nL pc' L (.int (zI (zAnd x y)) :: st) σ) : zJ X G Q nL pc L (.int (zI y) :: .int (zI x) :: st) σ := by
  obtain ⟨d, rfl⟩ := d
  exact fun H locs ls hL hP hD hS => lv_iand C.1 C.2.1 d (by have := k H locs ls hL hP hD hS; rwa [show zI (zAnd x y) = zI x &&& zI y from zI_of _] at this)
theorem j_ior (C : zC X G cc own nL ret rF rL) {x y : Int} (d : zd cc pc pc' .ior 1) (k : zJ X G Q nL pc' L (.int (zI (zOr x y)) :: st) σ) : zJ X G Q nL pc L (.int (zI y) :: .int (zI x) :: st) σ := by
  obtain ⟨d, rfl⟩ := d
  exact fun H locs ls hL hP hD hS => lv_ior C.1 C.2.1 d (by have := k H locs ls hL hP hD hS; rwa [show zI (zOr x y) = zI x ||| zI y from zI_of _] at this)
theorem j_ixor (C : zC X G cc own nL ret rF rL) {x y : Int} (d : zd cc pc pc' .ixor 1) (k : zJ X G Q nL pc' L (.int (zI (zXor x y)) :: st) σ) : zJ X G Q nL pc L (.int (zI y) :: .int (zI x) :: st) σ := by
  obtain ⟨d, rfl⟩ := d
  exact fun H locs ls hL hP hD hS => lv_ixor C.1 C.2.1 d (by have := k H locs ls hL hP hD hS; rwa [show zI (zXor x y) = zI x ^^^ zI y from zI_of _] at this)
theorem j_ishl (C : zC X G cc own nL ret rF rL) {x y : Int} (d : zd cc pc pc' .ishl 1) (k : zJ X G Q nL pc' L (.int (zI (zShl x y)) :: st) σ) : zJ X G Q nL pc L (.int (zI y) :: .int (zI x) :: st) σ := by
  obtain ⟨d, rfl⟩ := d
  exact fun H locs ls hL hP hD hS => lv_ishl C.1 C.2.1 d (by have := k H locs ls hL hP hD hS; rwa [show zI (zShl x y) = zI x <<< (zI y &&& 31) from zI_of _] at this)
theorem j_ishr (C : zC X G cc own nL ret rF rL) {x y : Int} (d : zd cc pc pc' .ishr 1) (k : zJ X G Q nL pc' L (.int (zI (zShr x y)) :: st) σ) : zJ X G Q nL pc L (.int (zI y) :: .int (zI x) :: st) σ := by
  obtain ⟨d, rfl⟩ := d
  exact fun H locs ls hL hP hD hS => lv_ishr C.1 C.2.1 d (by have := k H locs ls hL hP hD hS; rwa [show zI (zShr x y) = zI x >>> (zI y &&& 31) from zI_of _] at this)
theorem j_iushr (C : zC X G cc own nL ret rF rL) {x y : Int} (d : zd cc pc pc' .iushr 1) (k : zJ X G Q nL pc' L (.int (zI (zUshr x y)) :: st) σ) : zJ X G Q nL pc L (.int (zI y) :: .int (zI x) :: st) σ := by
  obtain ⟨d, rfl⟩ := d
  exact fun H locs ls hL hP hD hS => lv_iushr C.1 C.2.1 d (show _ = zI (zUshr x y) from (zI_of _).symm) (k H locs ls hL hP hD hS)
/-! longs -/
def zLand (x y : Int64) : Int64 := x &&& y
def zLor (x y : Int64) : Int64 := x ||| y
def zLushr (x : Int64) (y : Int) : Int64 := (x.toUInt64 >>> ((zI y).toInt64.toUInt64 &&& Int64.toUInt64 63)).toInt64
def zLshr (x : Int64) (y : Int) : Int64 := x >>> ((zI y).toInt64 &&& 63)
def zLshl (x : Int64) (y : Int) : Int64 := x <<< ((zI y).toInt64 &&& 63)
def zL2i (x : Int64) : Int := x.toInt32.toInt
def zI2l (x : Int) : Int64 := (zI x).toInt64
def zLcmp (x y : Int64) : Int := (lg_cmp x y).toInt
theorem zL2i_rg (x : Int64) : zR (zL2i x) := zI_rg _
theorem zLcmp_rg (x y : Int64) : zR (zLcmp x y) := zI_rg _
theorem j_land (C : zC X G cc own nL ret rF rL) {x y : Int64} (d : zd cc pc pc' .land 1) (k : zJ X G Q nL pc' L (.long (zLand x y) :: st) σ) : zJ X G Q nL pc L (.long y :: .long x :: st) σ := by
  obtain ⟨d, rfl⟩ := d
  exact fun H locs ls hL hP hD hS => lv_land C.1 C.2.1 d (k H locs ls hL hP hD hS)
theorem j_lor (C : zC X G cc own nL ret rF rL) {x y : Int64} (d : zd cc pc pc' .lor 1) (k : zJ X G Q nL pc' L (.long (zLor x y) :: st) σ) : zJ X G Q nL pc L (.long y :: .long x :: st) σ := by
  obtain ⟨d, rfl⟩ := d
  exact fun H locs ls hL hP hD hS => lv_lor C.1 C.2.1 d (k H locs ls hL hP hD hS)
theorem j_lushr (C : zC X G cc own nL ret rF rL) {x : Int64} {y : Int} (d : zd cc pc pc' .lushr 1) (k : zJ X G Q nL pc' L (.long (zLushr x y) :: st) σ) : zJ X G Q nL pc L (.int (zI y) :: .long x :: st) σ := by
  obtain ⟨d, rfl⟩ := d
  exact fun H locs ls hL hP hD hS => lv_lushr C.1 C.2.1 d rfl (k H locs ls hL hP hD hS)
theorem j_lshr (C : zC X G cc own nL ret rF rL) {x : Int64} {y : Int} (d : zd cc pc pc' .lshr 1) (k : zJ X G Q nL pc' L (.long (zLshr x y) :: st) σ) : zJ X G Q nL pc L (.int (zI y) :: .long x :: st) σ := by
  obtain ⟨d, rfl⟩ := d
  exact fun H locs ls hL hP hD hS => lv_lshr C.1 C.2.1 d rfl (k H locs ls hL hP hD hS)
theorem j_lshl (C : zC X G cc own nL ret rF rL) {x : Int64} {y : Int} (d : zd cc pc pc' .lshl 1) (k : zJ X G Q nL pc' L (.long (zLshl x y) :: st) σ) : zJ X G Q nL pc L (.int (zI y) :: .long x :: st) σ := by
  obtain ⟨d, rfl⟩ := d
  exact fun H locs ls hL hP hD hS => lv_lshl C.1 C.2.1 d rfl (k H locs ls hL hP hD hS)
theorem j_l2i (C : zC X G cc own nL ret rF rL) {x : Int64} (d : zd cc pc pc' .l2i 1) (k : zJ X G Q nL pc' L (.int (zI (zL2i x)) :: st) σ) : zJ X G Q nL pc L (.long x :: st) σ := by
  obtain ⟨d, rfl⟩ := d
  exact fun H locs ls hL hP hD hS => lv_l2i C.1 C.2.1 d (show _ = zI (zL2i x) from (zI_of _).symm) (k H locs ls hL hP hD hS)
theorem j_i2l (C : zC X G cc own nL ret rF rL) {x : Int} (d : zd cc pc pc' .i2l 1) (k : zJ X G Q nL pc' L (.long (zI2l x) :: st) σ) : zJ X G Q nL pc L (.int (zI x) :: st) σ := by
  obtain ⟨d, rfl⟩ := d
  exact fun H locs ls hL hP hD hS => lv_i2l C.1 C.2.1 d rfl (k H locs ls hL hP hD hS)
theorem j_lcmp (C : zC X G cc own nL ret rF rL) {x y : Int64} (d : zd cc pc pc' .lcmp 1) (k : zJ X G Q nL pc' L (.int (zI (zLcmp x y)) :: st) σ) : zJ X G Q nL pc L (.long y :: .long x :: st) σ := by
  obtain ⟨d, rfl⟩ := d
  exact fun H locs ls hL hP hD hS => W.lcmp C.1 C.2.1 d (by have := k H locs ls hL hP hD hS; rwa [show zI (zLcmp x y) = lg_cmp x y from zI_of _] at this)
theorem j_i2c (C : zC X G cc own nL ret rF rL) {x : Int} (d : zd cc pc pc' .i2c 1) (h0 : 0 ≤ x) (h1 : x < 65536) (k : zJ X G Q nL pc' L (.int (zI x) :: st) σ) : zJ X G Q nL pc L (.int (zI x) :: st) σ := by
  obtain ⟨d, rfl⟩ := d
  have e : ((zI x).toUInt32 % 65536).toInt32 = zI x := by
    obtain ⟨n, rfl⟩ := Int.eq_ofNat_of_zero_le h0
    have hn : zI (n : Int) = nI n := Int32.ofInt_eq_ofNat
    rw [hn, pk_char, pk_tn (by omega), Nat.mod_eq_of_lt (by omega)]
  exact fun H locs ls hL hP hD hS => lv_i2c C.1 C.2.1 d e (k H locs ls hL hP hD hS)
end J1
