/-! branches, returns, arrays, fields, calls -/
theorem zGoodIn {y : MethodName} {bytes : ByteArray} {maxL : Nat} {ret : Option FieldType} (h : Cond.code y bytes maxL ret ∈ zTb) : GoodIn zTb (Cond.code y bytes maxL ret :: zTb) := by
  intro w hw
  have hw' : w ∈ zTb := by
    rcases List.mem_cons.mp hw with rfl | h2
    · exact h
    · exact h2
  exact ⟨hw', good_of_word (List.mem_filter.mp hw').2⟩
theorem zLen {n t len : Nat} (h : zShp[n]? = some (.inl (t, len))) : len ≤ 100000 := by
  have key : zShp.all (fun sh => match sh with | .inl (_, len) => Nat.ble len 100000 | .inr _ => true) = true := by decide +kernel
  have := List.all_eq_true.mp key _ (List.mem_of_getElem? h)
  exact Nat.le_of_ble_eq_true this
section J2
variable {X : zX} {G : zG} {Q : State → Prop} {nL pc pc' : Nat} {L L' : List (Nat × Value)} {st stk : List Value} {σ : zM} {cc : ByteArray} {own : String} {ret : Option FieldType} {rF rL : Nat}
theorem j_dup (C : zC X G cc own nL ret rF rL) {v : Value} (d : zd cc pc pc' .dup 1) (hv : v.category = 1) (k : zJ X G Q nL pc' L (v :: v :: st) σ) : zJ X G Q nL pc L (v :: st) σ := by
  obtain ⟨d, rfl⟩ := d
  exact fun H locs ls hL hP hD hS => lv_dup C.1 C.2.1 d hv (k H locs ls hL hP hD hS)
theorem j_pop (C : zC X G cc own nL ret rF rL) {v : Value} (d : zd cc pc pc' .pop 1) (hv : v.category = 1) (k : zJ X G Q nL pc' L st σ) : zJ X G Q nL pc L (v :: st) σ := by
  obtain ⟨d, rfl⟩ := d
  exact fun H locs ls hL hP hD hS => lv_pop C.1 C.2.1 d hv (k H locs ls hL hP hD hS)
theorem j_dup2 (C : zC X G cc own nL ret rF rL) {v w : Value} (d : zd cc pc pc' .dup2 1) (hv : v.category = 1) (hw : w.category = 1) (k : zJ X G Q nL pc' L (v :: w :: v :: w :: st) σ) : zJ X G Q nL pc L (v :: w :: st) σ := by
  obtain ⟨d, rfl⟩ := d
  exact fun H locs ls hL hP hD hS => lv_dup2_11 C.1 C.2.1 d hv hw (k H locs ls hL hP hD hS)
theorem j_goto (C : zC X G cc own nL ret rF rL) {off : Int} {tgt : Nat} (d : zd cc pc pc' (.goto off) 3) (ht : (pc : Int) + off = (tgt : Int)) (k : zJ X G Q nL tgt L st σ) : zJ X G Q nL pc L st σ := by
  obtain ⟨d, rfl⟩ := d
  exact fun H locs ls hL hP hD hS => lv_goto C.1 C.2.1 d ht (k H locs ls hL hP hD hS)
theorem j_icmp_eq (C : zC X G cc own nL ret rF rL) {x y : Int} {off : Int} {tgt : Nat} (d : zd cc pc pc' (.if_icmp .eq off) 3) (ht : (pc : Int) + off = (tgt : Int)) (hx : zR x) (hy : zR y) (kt : x = y → zJ X G Q nL tgt L st σ) (kf : ¬ x = y → zJ X G Q nL pc' L st σ) : zJ X G Q nL pc L (.int (zI y) :: .int (zI x) :: st) σ := by
  obtain ⟨d, rfl⟩ := d
  exact fun H locs ls hL hP hD hS => lv_icmp_eq C.1 C.2.1 d ht (fun h => kt ((zI_eq hx hy).mp h) H locs ls hL hP hD hS) (fun h => kf (fun e => h ((zI_eq hx hy).mpr e)) H locs ls hL hP hD hS)
theorem j_icmp_ne (C : zC X G cc own nL ret rF rL) {x y : Int} {off : Int} {tgt : Nat} (d : zd cc pc pc' (.if_icmp .ne off) 3) (ht : (pc : Int) + off = (tgt : Int)) (hx : zR x) (hy : zR y) (kt : ¬ x = y → zJ X G Q nL tgt L st σ) (kf : x = y → zJ X G Q nL pc' L st σ) : zJ X G Q nL pc L (.int (zI y) :: .int (zI x) :: st) σ := by
  obtain ⟨d, rfl⟩ := d
  exact fun H locs ls hL hP hD hS => lv_icmp_ne C.1 C.2.1 d ht (fun h => kt (fun e => h ((zI_eq hx hy).mpr e)) H locs ls hL hP hD hS) (fun h => kf ((zI_eq hx hy).mp h) H locs ls hL hP hD hS)
theorem j_icmp_lt (C : zC X G cc own nL ret rF rL) {x y : Int} {off : Int} {tgt : Nat} (d : zd cc pc pc' (.if_icmp .lt off) 3) (ht : (pc : Int) + off = (tgt : Int)) (hx : zR x) (hy : zR y) (kt : x < y → zJ X G Q nL tgt L st σ) (kf : ¬ x < y → zJ X G Q nL pc' L st σ) : zJ X G Q nL pc L (.int (zI y) :: .int (zI x) :: st) σ := by
  obtain ⟨d, rfl⟩ := d
  exact fun H locs ls hL hP hD hS => lv_icmp_lt C.1 C.2.1 d ht (fun h => kt ((zI_lt hx hy).mp h) H locs ls hL hP hD hS) (fun h => kf (fun e => h ((zI_lt hx hy).mpr e)) H locs ls hL hP hD hS)
theorem j_icmp_ge (C : zC X G cc own nL ret rF rL) {x y : Int} {off : Int} {tgt : Nat} (d : zd cc pc pc' (.if_icmp .ge off) 3) (ht : (pc : Int) + off = (tgt : Int)) (hx : zR x) (hy : zR y) (kt : y ≤ x → zJ X G Q nL tgt L st σ) (kf : ¬ y ≤ x → zJ X G Q nL pc' L st σ) : zJ X G Q nL pc L (.int (zI y) :: .int (zI x) :: st) σ := by
  obtain ⟨d, rfl⟩ := d
  exact fun H locs ls hL hP hD hS => lv_icmp_ge C.1 C.2.1 d ht (fun h => kt ((zI_le hy hx).mp h) H locs ls hL hP hD hS) (fun h => kf (fun e => h ((zI_le hy hx).mpr e)) H locs ls hL hP hD hS)
theorem j_icmp_gt (C : zC X G cc own nL ret rF rL) {x y : Int} {off : Int} {tgt : Nat} (d : zd cc pc pc' (.if_icmp .gt off) 3) (ht : (pc : Int) + off = (tgt : Int)) (hx : zR x) (hy : zR y) (kt : y < x → zJ X G Q nL tgt L st σ) (kf : ¬ y < x → zJ X G Q nL pc' L st σ) : zJ X G Q nL pc L (.int (zI y) :: .int (zI x) :: st) σ := by
  obtain ⟨d, rfl⟩ := d
  exact fun H locs ls hL hP hD hS => lv_icmp_gt C.1 C.2.1 d ht (fun h => kt ((zI_lt hy hx).mp h) H locs ls hL hP hD hS) (fun h => kf (fun e => h ((zI_lt hy hx).mpr e)) H locs ls hL hP hD hS)
theorem j_icmp_le (C : zC X G cc own nL ret rF rL) {x y : Int} {off : Int} {tgt : Nat} (d : zd cc pc pc' (.if_icmp .le off) 3) (ht : (pc : Int) + off = (tgt : Int)) (hx : zR x) (hy : zR y) (kt : x ≤ y → zJ X G Q nL tgt L st σ) (kf : ¬ x ≤ y → zJ X G Q nL pc' L st σ) : zJ X G Q nL pc L (.int (zI y) :: .int (zI x) :: st) σ := by
  obtain ⟨d, rfl⟩ := d
  exact fun H locs ls hL hP hD hS => lv_icmp_le C.1 C.2.1 d ht (fun h => kt ((zI_le hx hy).mp h) H locs ls hL hP hD hS) (fun h => kf (fun e => h ((zI_le hx hy).mpr e)) H locs ls hL hP hD hS)
theorem j_if_eq (C : zC X G cc own nL ret rF rL) {x : Int} {off : Int} {tgt : Nat} (d : zd cc pc pc' (.ifCond .eq off) 3) (ht : (pc : Int) + off = (tgt : Int)) (hx : zR x) (kt : x = 0 → zJ X G Q nL tgt L st σ) (kf : ¬ x = 0 → zJ X G Q nL pc' L st σ) : zJ X G Q nL pc L (.int (zI x) :: st) σ := by
  obtain ⟨d, rfl⟩ := d
  exact fun H locs ls hL hP hD hS => lv_if_eq C.1 C.2.1 d ht (fun h => kt ((zI_eq hx zR_0).mp h) H locs ls hL hP hD hS) (fun h => kf (fun e => h ((zI_eq hx zR_0).mpr e)) H locs ls hL hP hD hS)
theorem j_if_ne (C : zC X G cc own nL ret rF rL) {x : Int} {off : Int} {tgt : Nat} (d : zd cc pc pc' (.ifCond .ne off) 3) (ht : (pc : Int) + off = (tgt : Int)) (hx : zR x) (kt : ¬ x = 0 → zJ X G Q nL tgt L st σ) (kf : x = 0 → zJ X G Q nL pc' L st σ) : zJ X G Q nL pc L (.int (zI x) :: st) σ := by
  obtain ⟨d, rfl⟩ := d
  exact fun H locs ls hL hP hD hS => lv_if_ne C.1 C.2.1 d ht (fun h => kt (fun e => h ((zI_eq hx zR_0).mpr e)) H locs ls hL hP hD hS) (fun h => kf ((zI_eq hx zR_0).mp h) H locs ls hL hP hD hS)
theorem j_if_lt (C : zC X G cc own nL ret rF rL) {x : Int} {off : Int} {tgt : Nat} (d : zd cc pc pc' (.ifCond .lt off) 3) (ht : (pc : Int) + off = (tgt : Int)) (hx : zR x) (kt : x < 0 → zJ X G Q nL tgt L st σ) (kf : ¬ x < 0 → zJ X G Q nL pc' L st σ) : zJ X G Q nL pc L (.int (zI x) :: st) σ := by
  obtain ⟨d, rfl⟩ := d
  exact fun H locs ls hL hP hD hS => lv_if_lt C.1 C.2.1 d ht (fun h => kt ((zI_lt hx zR_0).mp h) H locs ls hL hP hD hS) (fun h => kf (fun e => h ((zI_lt hx zR_0).mpr e)) H locs ls hL hP hD hS)
theorem j_if_ge (C : zC X G cc own nL ret rF rL) {x : Int} {off : Int} {tgt : Nat} (d : zd cc pc pc' (.ifCond .ge off) 3) (ht : (pc : Int) + off = (tgt : Int)) (hx : zR x) (kt : 0 ≤ x → zJ X G Q nL tgt L st σ) (kf : ¬ 0 ≤ x → zJ X G Q nL pc' L st σ) : zJ X G Q nL pc L (.int (zI x) :: st) σ := by
  obtain ⟨d, rfl⟩ := d
  exact fun H locs ls hL hP hD hS => lv_if_ge C.1 C.2.1 d ht (fun h => kt ((zI_le zR_0 hx).mp h) H locs ls hL hP hD hS) (fun h => kf (fun e => h ((zI_le zR_0 hx).mpr e)) H locs ls hL hP hD hS)
theorem j_if_gt (C : zC X G cc own nL ret rF rL) {x : Int} {off : Int} {tgt : Nat} (d : zd cc pc pc' (.ifCond .gt off) 3) (ht : (pc : Int) + off = (tgt : Int)) (hx : zR x) (kt : 0 < x → zJ X G Q nL tgt L st σ) (kf : ¬ 0 < x → zJ X G Q nL pc' L st σ) : zJ X G Q nL pc L (.int (zI x) :: st) σ := by
  obtain ⟨d, rfl⟩ := d
  exact fun H locs ls hL hP hD hS => lv_if_gt C.1 C.2.1 d ht (fun h => kt ((zI_lt zR_0 hx).mp h) H locs ls hL hP hD hS) (fun h => kf (fun e => h ((zI_lt zR_0 hx).mpr e)) H locs ls hL hP hD hS)
theorem j_if_le (C : zC X G cc own nL ret rF rL) {x : Int} {off : Int} {tgt : Nat} (d : zd cc pc pc' (.ifCond .le off) 3) (ht : (pc : Int) + off = (tgt : Int)) (hx : zR x) (kt : x ≤ 0 → zJ X G Q nL tgt L st σ) (kf : ¬ x ≤ 0 → zJ X G Q nL pc' L st σ) : zJ X G Q nL pc L (.int (zI x) :: st) σ := by
  obtain ⟨d, rfl⟩ := d
  exact fun H locs ls hL hP hD hS => lv_if_le C.1 C.2.1 d ht (fun h => kt ((zI_le hx zR_0).mp h) H locs ls hL hP hD hS) (fun h => kf (fun e => h ((zI_le hx zR_0).mpr e)) H locs ls hL hP hD hS)
theorem j_tableOut (C : zC X G cc own nL ret rF rL) {dflt lo hi : Int} {offs : Array Int} {len : Nat} {x : Int} {tgt : Nat} (d : zd cc pc pc' (.tableswitch dflt lo hi offs) len) (hx : zR x) (h : x < lo ∨ hi < x) (ht : (pc : Int) + dflt = (tgt : Int)) (k : zJ X G Q nL tgt L st σ) : zJ X G Q nL pc L (.int (zI x) :: st) σ := by
  obtain ⟨d, rfl⟩ := d
  exact fun H locs ls hL hP hD hS => lv_tableOut C.1 C.2.1 d (by rw [zI_toInt hx]; exact h) ht (k H locs ls hL hP hD hS)
theorem j_tableIn (C : zC X G cc own nL ret rF rL) {dflt lo hi : Int} {offs : Array Int} {len : Nat} {x off : Int} {tgt : Nat} (d : zd cc pc pc' (.tableswitch dflt lo hi offs) len) (hx : zR x) (v : Int) (e : x = v) (hv : (decide (lo ≤ v) && decide (v ≤ hi)) = true) (ho : offs[(v - lo).toNat]? = some off) (ht : (pc : Int) + off = (tgt : Int)) (k : zJ X G Q nL tgt L st σ) : zJ X G Q nL pc L (.int (zI x) :: st) σ := by
  obtain ⟨d, rfl⟩ := d
  subst e
  simp only [Bool.and_eq_true, decide_eq_true_eq] at hv
  exact fun H locs ls hL hP hD hS => lv_tableIn C.1 C.2.1 d (by rw [zI_toInt hx]; omega) (by rw [zI_toInt hx]; omega) (by rw [zI_toInt hx]; exact ho) ht (k H locs ls hL hP hD hS)
theorem j_lookup (C : zC X G cc own nL ret rF rL) {dflt : Int} {ps : Array (Int × Int)} {len : Nat} {x off : Int} {tgt : Nat} (d : zd cc pc pc' (.lookupswitch dflt ps) len) (hx : zR x) (hp : (ps.toList.zip (ps.toList.drop 1)).all (fun (a, next) => a.1 < next.1) = true) (ho : Op.lookupswitch.offset ps.toList dflt x = off) (ht : (pc : Int) + off = (tgt : Int)) (k : zJ X G Q nL tgt L st σ) : zJ X G Q nL pc L (.int (zI x) :: st) σ := by
  obtain ⟨d, rfl⟩ := d
  exact fun H locs ls hL hP hD hS => lv_lookup C.1 C.2.1 d hp (by rw [zI_toInt hx]; exact ho) ht (k H locs ls hL hP hD hS)
/-! ends -/
def zQi (X : zX) (G : zG) (Post : Int → zM → Prop) : State → Prop := MQ (xb X) (va_Qi (fun (r : Int32) (u : zM) => ∃ z, r = zI z ∧ zR z ∧ zRM u ∧ Post z u) (fun u t => va_P (gD G) zCl (zWs (gad G) (gca G) u) t.heap) (gA G)) (xa X) (xs X) (gc G) (gs G) (gA G)
def zQv (X : zX) (G : zG) (Post : zM → Prop) : State → Prop := MQ (xb X) (va_Qv (fun (u : zM) => zRM u ∧ Post u) (fun u t => va_P (gD G) zCl (zWs (gad G) (gca G) u) t.heap) (gA G)) (xa X) (xs X) (gc G) (gs G) (gA G)
theorem j_ireturn (C : zC X G cc own nL (some .int) rF rL) {z : Int} {Post : Int → zM → Prop} (d : zd cc pc pc' .ireturn 1) (hz : zR z) (hσ : zRM σ) (h : Post z σ) : zJ X G (zQi X G Post) nL pc L [.int (zI z)] σ := by
  obtain ⟨d, rfl⟩ := d
  obtain ⟨hx, hb, -, -, -, hlk, hr, -, -, -, hH, -⟩ := C
  intro H locs ls hL hP hD hS
  refine W.iret hx hb hr (fun t ht hW => ⟨⟨zI z, σ, rfl, ⟨z, rfl, hz, hσ, h⟩, by show va_P _ _ _ t.heap; rw [ht]; exact hP⟩, ?_⟩) hS.2.2 d hlk
  rw [hH] at hS
  exact hS.F ht
theorem j_zreturn (C : zC X G cc own nL (some .boolean) rF rL) {z : Int} {Post : Int → zM → Prop} (d : zd cc pc pc' .ireturn 1) (hz : z = 0 ∨ z = 1) (hσ : zRM σ) (h : Post z σ) : zJ X G (zQi X G Post) nL pc L [.int (zI z)] σ := by
  obtain ⟨d, rfl⟩ := d
  obtain ⟨hx, hb, -, -, -, hlk, hr, -, -, -, hH, -⟩ := C
  intro H locs ls hL hP hD hS
  have hn : narrow .boolean (.int (zI z)) = .int (zI z) := by rcases hz with rfl | rfl <;> rfl
  refine W.zret hx hb hr hn (fun t ht hW => ⟨⟨zI z, σ, rfl, ⟨z, rfl, by rcases hz with rfl | rfl <;> exact ⟨by omega, by omega⟩, hσ, h⟩, by show va_P _ _ _ t.heap; rw [ht]; exact hP⟩, ?_⟩) hS.2.2 d hlk
  rw [hH] at hS
  exact hS.F ht
theorem j_vreturn (C : zC X G cc own nL none rF rL) {Post : zM → Prop} (d : zd cc pc pc' .return_ 1) (hσ : zRM σ) (h : Post σ) : zJ X G (zQv X G Post) nL pc L [] σ := by
  obtain ⟨d, rfl⟩ := d
  obtain ⟨hx, hb, -, -, -, hlk, hr, -, -, -, hH, -⟩ := C
  intro H locs ls hL hP hD hS
  refine W.vret hx hb hr (fun t ht hW => ⟨⟨σ, rfl, ⟨hσ, h⟩, by show va_P _ _ _ t.heap; rw [ht]; exact hP⟩, ?_⟩) hS.2.2 d hlk
  rw [hH] at hS
  exact hS.F ht
/-! arrays -/
theorem zI_ix {i : Int} {len : Nat} (h : 0 ≤ i ∧ i < (len : Int)) (hl : len ≤ 100000) : vp_in (zI i) len ∧ (zI i).toNatClampNeg = i.toNat ∧ ((i.toNat : Nat) : Int) = i := by
  refine ⟨zI_in h.1 h.2 (by omega), zI_clamp h.1 (by omega), by omega⟩
theorem j_iaload (C : zC X G cc own nL ret rF rL) {n len : Nat} {i : Int} (d : zd cc pc pc' .iaload 1) (hn : zShp[n]? = some (.inl (0, len))) (h : 0 ≤ i ∧ i < (len : Int)) (k : zJ X G Q nL pc' L (.int (zI (σ n i)) :: st) σ) : zJ X G Q nL pc L (.int (zI i) :: .ref (gad G n) :: st) σ := by
  obtain ⟨d, rfl⟩ := d
  obtain ⟨h1, h2, h3⟩ := zI_ix h (zLen hn)
  intro H locs ls hL hP hD hS
  refine va_iald C.1 C.2.1 C.2.2.2.2.2.2.2.1.1 hP n 0 (zWs_get hn) rfl h1 d ?_
  rw [h2]
  show W _ _ _ _ _ _ _ _ _ _ _ _ _ _ _ (F0 _ _ _ (.int (zI (σ n (i.toNat : Int))) :: st))
  rw [h3]
  exact k H locs ls hL hP hD hS
theorem j_baload (C : zC X G cc own nL ret rF rL) {n len : Nat} {i : Int} (d : zd cc pc pc' .baload 1) (hn : zShp[n]? = some (.inl (1, len))) (h : 0 ≤ i ∧ i < (len : Int)) (k : zJ X G Q nL pc' L (.int (zI (σ n i)) :: st) σ) : zJ X G Q nL pc L (.int (zI i) :: .ref (gad G n) :: st) σ := by
  obtain ⟨d, rfl⟩ := d
  obtain ⟨h1, h2, h3⟩ := zI_ix h (zLen hn)
  intro H locs ls hL hP hD hS
  refine va_zald C.1 C.2.1 C.2.2.2.2.2.2.2.1.1 hP n 1 (zWs_get hn) rfl h1 d ?_
  rw [h2]
  show W _ _ _ _ _ _ _ _ _ _ _ _ _ _ _ (F0 _ _ _ (.int (zI (σ n (i.toNat : Int))) :: st))
  rw [h3]
  exact k H locs ls hL hP hD hS
theorem j_caload (C : zC X G cc own nL ret rF rL) {n len : Nat} {i : Int} (d : zd cc pc pc' .caload 1) (hn : zShp[n]? = some (.inl (2, len))) (h : 0 ≤ i ∧ i < (len : Int)) (k : zJ X G Q nL pc' L (.int (zI (σ n i)) :: st) σ) : zJ X G Q nL pc L (.int (zI i) :: .ref (gad G n) :: st) σ := by
  obtain ⟨d, rfl⟩ := d
  obtain ⟨h1, h2, h3⟩ := zI_ix h (zLen hn)
  intro H locs ls hL hP hD hS
  refine va_cald C.1 C.2.1 C.2.2.2.2.2.2.2.1.1 hP n 2 (zWs_get hn) rfl h1 d ?_
  rw [h2]
  show W _ _ _ _ _ _ _ _ _ _ _ _ _ _ _ (F0 _ _ _ (.int (zI (σ n (i.toNat : Int))) :: st))
  rw [h3]
  exact k H locs ls hL hP hD hS
theorem j_aaload (C : zC X G cc own nL ret rF rL) {n len : Nat} {i : Int} (d : zd cc pc pc' .aaload 1) (hn : zShp[n]? = some (.inl (3, len))) (h : 0 ≤ i ∧ i < (len : Int)) (k : zJ X G Q nL pc' L (.ref (gad G (6 * (σ n i).toNat)) :: st) σ) : zJ X G Q nL pc L (.int (zI i) :: .ref (gad G n) :: st) σ := by
  obtain ⟨d, rfl⟩ := d
  obtain ⟨h1, h2, h3⟩ := zI_ix h (zLen hn)
  intro H locs ls hL hP hD hS
  refine va_aldq C.1 C.2.1 C.2.2.2.2.2.2.2.1.1 hP n 3 (zWs_get hn) rfl h1 d ?_
  rw [h2]
  show W _ _ _ _ _ _ _ _ _ _ _ _ _ _ _ (F0 _ _ _ (.ref (gad G (6 * (σ n (i.toNat : Int)).toNat)) :: st))
  rw [h3]
  exact k H locs ls hL hP hD hS
theorem zUpd {σ : zM} {n : Nat} {i v : Int} (h3 : ((i.toNat : Nat) : Int) = i) : (fun j : Nat => zI (zU σ n i v n (j : Int))) = upd (fun j : Nat => zI (σ n (j : Int))) i.toNat (zI v) := by
  funext j
  unfold upd zU
  by_cases hj : j = i.toNat
  · subst hj
    rw [if_pos ⟨rfl, h3⟩, if_pos rfl]
  · rw [if_neg (fun hh => hj (by omega)), if_neg hj]
theorem j_iastore (C : zC X G cc own nL ret rF rL) {n len : Nat} {i v : Int} (d : zd cc pc pc' .iastore 1) (hn : zShp[n]? = some (.inl (0, len))) (h : 0 ≤ i ∧ i < (len : Int)) (k : zJ X G Q nL pc' L st (zU σ n i v)) : zJ X G Q nL pc L (.int (zI v) :: .int (zI i) :: .ref (gad G n) :: st) σ := by
  obtain ⟨d, rfl⟩ := d
  obtain ⟨h1, h2, h3⟩ := zI_ix h (zLen hn)
  intro H locs ls hL hP hD hS
  refine va_iast C.1 C.2.1 C.2.2.2.2.2.2.2.1.1 hP hD hS n 0 (zWs_get hn) rfl h1 d (fun H1 locs1 hP1 hD1 hS1 => ?_)
  rw [h2, zWs_set (σ' := zU σ n i v) hn (by rw [← zUpd h3]; rfl) (fun m hm j => zU_o hm j)] at hP1 hD1
  exact k H1 locs1 ls hL hP1 hD1 hS1
theorem j_bastore (C : zC X G cc own nL ret rF rL) {n len : Nat} {i v : Int} (d : zd cc pc pc' .bastore 1) (hn : zShp[n]? = some (.inl (1, len))) (h : 0 ≤ i ∧ i < (len : Int)) (hv : v = 0 ∨ v = 1) (k : zJ X G Q nL pc' L st (zU σ n i v)) : zJ X G Q nL pc L (.int (zI v) :: .int (zI i) :: .ref (gad G n) :: st) σ := by
  obtain ⟨d, rfl⟩ := d
  obtain ⟨h1, h2, h3⟩ := zI_ix h (zLen hn)
  have hn' : vp_nar .boolean (zI v) = zI v := by rcases hv with rfl | rfl <;> rfl
  intro H locs ls hL hP hD hS
  refine va_zast C.1 C.2.1 C.2.2.2.2.2.2.2.1.1 hP hD hS n 1 (zWs_get hn) rfl h1 d (fun H1 locs1 hP1 hD1 hS1 => ?_)
  rw [hn', h2, zWs_set (σ' := zU σ n i v) hn (by rw [← zUpd h3]; rfl) (fun m hm j => zU_o hm j)] at hP1 hD1
  exact k H1 locs1 ls hL hP1 hD1 hS1
theorem j_castore (C : zC X G cc own nL ret rF rL) {n len : Nat} {i v : Int} (d : zd cc pc pc' .castore 1) (hn : zShp[n]? = some (.inl (2, len))) (h : 0 ≤ i ∧ i < (len : Int)) (hv : 0 ≤ v ∧ v < 65536) (k : zJ X G Q nL pc' L st (zU σ n i v)) : zJ X G Q nL pc L (.int (zI v) :: .int (zI i) :: .ref (gad G n) :: st) σ := by
  obtain ⟨d, rfl⟩ := d
  obtain ⟨h1, h2, h3⟩ := zI_ix h (zLen hn)
  have hn' : vp_nar .char (zI v) = zI v := by
    obtain ⟨q, rfl⟩ := Int.eq_ofNat_of_zero_le hv.1
    have hq : zI (q : Int) = nI q := Int32.ofInt_eq_ofNat
    unfold vp_nar
    rw [hq, (pk_charN (q := q) (by omega)).1]
  intro H locs ls hL hP hD hS
  refine va_cast C.1 C.2.1 C.2.2.2.2.2.2.2.1.1 hP hD hS n 2 (zWs_get hn) rfl h1 d (fun H1 locs1 hP1 hD1 hS1 => ?_)
  rw [hn', h2, zWs_set (σ' := zU σ n i v) hn (by rw [← zUpd h3]; rfl) (fun m hm j => zU_o hm j)] at hP1 hD1
  exact k H1 locs1 ls hL hP1 hD1 hS1
theorem zSt : ∀ a : Nat, a < 9 → zShp[6 * a]? = some (.inr (0, [((6 * a + 1 : Nat) : Int), ((6 * a + 2 : Nat) : Int), ((6 * a + 3 : Nat) : Int), ((6 * a + 4 : Nat) : Int), ((6 * a + 5 : Nat) : Int), -1, -1, -1])) := by decide +kernel
theorem zSt1 : ∀ a : Nat, a < 9 → zShp[6 * a + 1]? = some (.inl (0, 24)) := by decide +kernel
theorem zSt2 : ∀ a : Nat, a < 9 → zShp[6 * a + 2]? = some (.inl (0, 264)) := by decide +kernel
theorem zSt3 : ∀ a : Nat, a < 9 → zShp[6 * a + 3]? = some (.inl (0, 24)) := by decide +kernel
theorem zSt4 : ∀ a : Nat, a < 9 → zShp[6 * a + 4]? = some (.inl (0, 60)) := by decide +kernel
theorem zSt5 : ∀ a : Nat, a < 9 → zShp[6 * a + 5]? = some (.inl (0, 80)) := by decide +kernel
theorem j_aastore (C : zC X G cc own nL ret rF rL) {n len a : Nat} {i : Int} (d : zd cc pc pc' .aastore 1) (hn : zShp[n]? = some (.inl (3, len))) (h : 0 ≤ i ∧ i < (len : Int)) (ha : a < 9) (k : zJ X G Q nL pc' L st (zU σ n i (a : Int))) : zJ X G Q nL pc L (.ref (gad G (6 * a)) :: .int (zI i) :: .ref (gad G n) :: st) σ := by
  obtain ⟨d, rfl⟩ := d
  obtain ⟨h1, h2, h3⟩ := zI_ix h (zLen hn)
  intro H locs ls hL hP hD hS
  refine va_astq C.1 C.2.1 C.2.2.2.2.2.2.2.1.1 hP hD hS n 3 (6 * a) 0 (r := (R_S, F_S, 8)) (zWs_get hn) rfl (zWs_get (zSt a ha)) rfl h1 d (fun H1 locs1 hP1 hD1 hS1 => ?_)
  rw [h2] at hP1 hD1
  have e : (fun j : Nat => some (gad G (6 * (zU σ n i (a : Int) n (j : Int)).toNat))) = va_up (fun j : Nat => some (gad G (6 * (σ n (j : Int)).toNat))) i.toNat (some (gad G (6 * a))) := by
    funext j
    unfold va_up zU
    by_cases hj : j = i.toNat
    · subst hj
      rw [if_pos ⟨rfl, h3⟩, if_pos rfl]; rfl
    · rw [if_neg (fun hh => hj (by omega)), if_neg hj]
  rw [zWs_set (σ' := zU σ n i (a : Int)) hn (by rw [← e]; rfl) (fun m hm j => zU_o hm j)] at hP1 hD1
  exact k H1 locs1 ls hL hP1 hD1 hS1
theorem j_alen (C : zC X G cc own nL ret rF rL) {n len : Nat} (d : zd cc pc pc' .arraylength 1) (hn : zShp[n]? = some (.inl (0, len))) (k : zJ X G Q nL pc' L (.int (zI (len : Int)) :: st) σ) : zJ X G Q nL pc L (.ref (gad G n) :: st) σ := by
  obtain ⟨d, rfl⟩ := d
  intro H locs ls hL hP hD hS
  exact va_alen C.1 C.2.1 C.2.2.2.2.2.2.2.1.1 hP n 0 (zWs_get hn) (ty := .int) rfl (v := zI (len : Int)) (Int32.ofInt_eq_ofNat).symm d (k H locs ls hL hP hD hS)
/-! fields -/
theorem j_getr (C : zC X G cc own nL ret rF rL) {n ci kf m idx N : Nat} {fs : List Int} {T : u_T} {c : String} (d : zd cc pc pc' (.getfield idx) 3) (hn : zShp[n]? = some (.inr (ci, fs))) (hc : zCl[ci]? = some (c, T, N)) (hin : ∀ w ∈ u_ws c T N, w ∈ zTb) (hk : Nat.ble (kf + 1) N = true) (hf : fs[kf]? = some (m : Int)) (hl : Cond.fieldLink own idx (T kf).1 (T kf).2.1 (T kf).2.2.1 ∈ zTb) (k : zJ X G Q nL pc' L (.ref (gad G m) :: st) σ) : zJ X G Q nL pc L (.ref (gad G n) :: st) σ := by
  obtain ⟨d, rfl⟩ := d
  intro H locs ls hL hP hD hS
  have hv := zFld_get (ad := gad G) (σ := σ) (n := n) fs 0 kf _ hf
  rw [if_neg (by omega)] at hv
  exact va_get C.1 C.2.1 C.2.2.2.2.1 hin C.2.2.2.1 C.2.2.2.2.2.2.2.1.1 hP n (zWs_get hn) hc kf (Nat.le_of_ble_eq_true hk) (C.2.2.2.2.1 _ hl) (fun _ h => h) hv d (k H locs ls hL hP hD hS)
theorem j_geti (C : zC X G cc own nL ret rF rL) {n ci kf idx N : Nat} {fs : List Int} {T : u_T} {c : String} {kI : Int} (d : zd cc pc pc' (.getfield idx) 3) (hn : zShp[n]? = some (.inr (ci, fs))) (hc : zCl[ci]? = some (c, T, N)) (hin : ∀ w ∈ u_ws c T N, w ∈ zTb) (hk : Nat.ble (kf + 1) N = true) (hf : fs[kf]? = some (-1)) (hkI : 0 + (kf : Int) = kI) (hl : Cond.fieldLink own idx (T kf).1 (T kf).2.1 (T kf).2.2.1 ∈ zTb) (k : zJ X G Q nL pc' L (.int (zI (σ n kI)) :: st) σ) : zJ X G Q nL pc L (.ref (gad G n) :: st) σ := by
  obtain ⟨d, rfl⟩ := d
  intro H locs ls hL hP hD hS
  have hv := zFld_get (ad := gad G) (σ := σ) (n := n) fs 0 kf _ hf
  rw [if_pos (by omega), hkI] at hv
  exact va_get C.1 C.2.1 C.2.2.2.2.1 hin C.2.2.2.1 C.2.2.2.2.2.2.2.1.1 hP n (zWs_get hn) hc kf (Nat.le_of_ble_eq_true hk) (C.2.2.2.2.1 _ hl) (fun _ h => h) hv d (k H locs ls hL hP hD hS)
theorem j_puti (C : zC X G cc own nL ret rF rL) {n ci kf idx N : Nat} {fs : List Int} {T : u_T} {c : String} {kI v : Int} (t : Nat → FieldType) (d : zd cc pc pc' (.putfield idx) 3) (hn : zShp[n]? = some (.inr (ci, fs))) (hc : zCl[ci]? = some (c, T, N)) (hin : ∀ w ∈ u_ws c T N, w ∈ zTb) (hty : ∀ k, k < N → parseFieldDescriptor (T k).2.2.1 = some (t k)) (hnm : ∀ a, a < N → ∀ b, b < N → a ≠ b → (T a).2.1 ≠ (T b).2.1) (hk : Nat.ble (kf + 1) N = true) (hf : fs[kf]? = some (-1)) (hkI : 0 + (kf : Int) = kI) (hl : Cond.fieldLink own idx (T kf).1 (T kf).2.1 (T kf).2.2.1 ∈ zTb) (hfin : (T kf).2.2.2 = false) (ht : (t kf = .int) ∨ (t kf = .boolean ∧ (v = 0 ∨ v = 1))) (k : zJ X G Q nL pc' L st (zU σ n kI v)) : zJ X G Q nL pc L (.int (zI v) :: .ref (gad G n) :: st) σ := by
  obtain ⟨d, rfl⟩ := d
  intro H locs ls hL hP hD hS
  have hkN := Nat.le_of_ble_eq_true hk
  have hs : kf < fs.length := (List.getElem?_eq_some_iff.mp hf).1
  have hset := zFld_set (ad := gad G) (σ := σ) (n := n) (v := v) fs 0 kf hf
  rw [hkI] at hset
  have hnw : narrow (t kf) (.int (zI v)) = .int (zI v) ∧ fits (t kf) (.int (zI v)) = true := by
    rcases ht with h | ⟨h, rfl | rfl⟩ <;> rw [h]
    · exact ⟨rfl, rfl⟩
    · exact ⟨by decide, by decide⟩
    · exact ⟨by decide, by decide⟩
  refine va_put C.1 C.2.1 C.2.2.2.2.1 hin t hty hnm C.2.2.2.1 C.2.2.2.2.2.2.2.1.1 hP hD hS n (zWs_get hn) hc kf hkN (C.2.2.2.2.1 _ hl) (fun _ h => h) hfin (ty := t kf) (hty kf hkN) hnw.1 hnw.2 (by rw [zFld_len]; exact hs) d (fun H1 locs1 hP1 hD1 hS1 => ?_)
  rw [← hset, zWs_set (ad := gad G) (ca := gca G) (σ := σ) (σ' := zU σ n kI v) (e := Sum.inr (ci, zFld (gad G) (zU σ n kI v) n 0 fs)) hn rfl (fun m hm j => zU_o hm j)] at hP1 hD1
  exact k H1 locs1 ls hL hP1 hD1 hS1
end J2
/-! calls -/
theorem zK_moved {D : va_G} {ca : Nat → ClassId} {u U : State} (hW : u.WarmedH U.vm) (h : zK D ca u) : zK D ca U := ⟨va_K.moved hW.alike h.1, fun q hq => (h.2 q hq).warmM hW⟩
theorem zK_calling {D : va_G} {ca : Nat → ClassId} {U : State} {g : JFrame} {mk : MethodId} {a : Array Value} (h : zK D ca U) : zK D ca (U.calling g mk a) := ⟨va_K.moved (u := U) (U := U.calling g mk a) (Vm.Alike.refl U.vm) h.1, fun q hq => (h.2 q hq).same rfl rfl⟩
def zIn (D : va_G) (ad : Nat → Nat) (ca : Nat → ClassId) (σ : zM) (U : State) : Prop := va_P D zCl (zWs ad ca σ) U.heap ∧ zK D ca U ∧ va_D (zAw ad) (zWs ad ca σ)
/-- the contract of a method that answers a number -/
def zCi (l : Launch) (D : va_G) (ad : Nat → Nat) (ca : Nat → ClassId) (y : MethodName) (bytes : ByteArray) (maxL : Nat) (ret : Option FieldType) (rm : Room) (avs : List Value) (σ : zM) (Post : Int → zM → Prop) : Prop :=
  Met l y (.code y bytes maxL ret :: zTb) rm (va_Pc avs (zIn D ad ca σ)) (va_Qi (fun (r : Int32) (u : zM) => ∃ z, r = zI z ∧ zR z ∧ zRM u ∧ Post z u) (fun u t => va_P D zCl (zWs ad ca u) t.heap) (zAw ad)) 0 0 (zAw ad)
def zCv (l : Launch) (D : va_G) (ad : Nat → Nat) (ca : Nat → ClassId) (y : MethodName) (bytes : ByteArray) (maxL : Nat) (rm : Room) (avs : List Value) (σ : zM) (Post : zM → Prop) : Prop :=
  Met l y (.code y bytes maxL none :: zTb) rm (va_Pc avs (zIn D ad ca σ)) (va_Qv (fun (u : zM) => zRM u ∧ Post u) (fun u t => va_P D zCl (zWs ad ca u) t.heap) (zAw ad)) 0 0 (zAw ad)
theorem zIn_blind {D : va_G} {ad : Nat → Nat} {ca : Nat → ClassId} {σ : zM} {avs : List Value} : FrameBlind (va_Pc avs (zIn D ad ca σ)) := fun _ _ _ _ q => ⟨q.1, q.2.1, zK_calling q.2.2.1, q.2.2.2⟩
def zrm (f n : Nat) : Room := { frames := f, cells := 0, slots := 0, locals := n }
theorem zCi_of {l : Launch} {D : va_G} {ad : Nat → Nat} {ca : Nat → ClassId} {y : MethodName} {bytes : ByteArray} {maxL f n : Nat} {ret : Option FieldType} {avs : List Value} {σ : zM} {Post : Int → zM → Prop} (hy : plainFor y = true) (hl : (lg_sl avs).length ≤ maxL)
    (body : ∀ (X : zX) (G : zG), zC X G bytes y.cls maxL ret f n → xl X = l → gD G = D → gad G = ad → gca G = ca → zJ X G (zQi X G Post) maxL 0 (lv_args 0 avs) [] σ) : zCi l D ad ca y bytes maxL ret (zrm f n) avs σ Post := by
  refine va_MetF (cc := bytes) (maxL := maxL) (ret := ret) hy rfl ?_
  intro p e s m args below meth c s₁ B hml hv
  obtain ⟨rfl, hP, hK, hD⟩ := hv
  have hts := atoms_spec (ws := Cond.code y bytes maxL ret :: zTb) B.pre
  have hown : s.vm.findClass y.cls = some m.cls := findClass_of_methodNamed B.named
  have hl' := lv_entry avs (n := maxL) hl
  rw [lg_entry_eq]
  have C : zC (p, l, e, zrm f n, s, m, avs.toArray, below, meth, c) (D, ad, ca, zAw ad, s.heap, 0, 0) bytes y.cls maxL ret f n :=
    ⟨B.exec, B.bytes, hml, hown, fun w hw => hts w (List.mem_cons_of_mem _ hw), B.notSynchronized, B.returns, hK, Nat.zero_le _, Nat.zero_le _, rfl, Nat.le_refl _, Nat.le_refl _⟩
  exact body _ _ C rfl rfl rfl rfl s.heap [] _ hl' hP hD va_S.rf
theorem zCv_of {l : Launch} {D : va_G} {ad : Nat → Nat} {ca : Nat → ClassId} {y : MethodName} {bytes : ByteArray} {maxL f n : Nat} {avs : List Value} {σ : zM} {Post : zM → Prop} (hy : plainFor y = true) (hl : (lg_sl avs).length ≤ maxL)
    (body : ∀ (X : zX) (G : zG), zC X G bytes y.cls maxL none f n → xl X = l → gD G = D → gad G = ad → gca G = ca → zJ X G (zQv X G Post) maxL 0 (lv_args 0 avs) [] σ) : zCv l D ad ca y bytes maxL (zrm f n) avs σ Post := by
  refine va_MetF (cc := bytes) (maxL := maxL) (ret := none) hy rfl ?_
  intro p e s m args below meth c s₁ B hml hv
  obtain ⟨rfl, hP, hK, hD⟩ := hv
  have hts := atoms_spec (ws := Cond.code y bytes maxL none :: zTb) B.pre
  have hown : s.vm.findClass y.cls = some m.cls := findClass_of_methodNamed B.named
  have hl' := lv_entry avs (n := maxL) hl
  rw [lg_entry_eq]
  have C : zC (p, l, e, zrm f n, s, m, avs.toArray, below, meth, c) (D, ad, ca, zAw ad, s.heap, 0, 0) bytes y.cls maxL none f n :=
    ⟨B.exec, B.bytes, hml, hown, fun w hw => hts w (List.mem_cons_of_mem _ hw), B.notSynchronized, B.returns, hK, Nat.zero_le _, Nat.zero_le _, rfl, Nat.le_refl _, Nat.le_refl _⟩
  exact body _ _ C rfl rfl rfl rfl s.heap [] _ hl' hP hD va_S.rf
section J3
variable {X : zX} {G : zG} {Q : State → Prop} {nL pc pc' : Nat} {L L' : List (Nat × Value)} {st stk : List Value} {σ : zM} {cc : ByteArray} {own : String} {ret : Option FieldType} {rF rL : Nat}
variable {y : MethodName} {bytes : ByteArray} {maxL idx na f lo n ci : Nat} {rt : Option FieldType} {As : List Value} {fs : List Int} {r : vw_C}
theorem zCB (C : zC X G cc own nL ret rF rL) (hl : Cond.methodLink own idx y ∈ zTb) (hini : Cond.initialized y.cls ∈ zTb) (hcode : Cond.code y bytes maxL rt ∈ zTb) (hd : y.cls ≠ "java/lang/invoke/MethodHandle" ∧ y.cls ≠ "java/lang/invoke/VarHandle" ∧ (parseMethodDescriptor y.desc).map (fun d => d.parameters.length) = some na) (hf : Nat.ble (f + 1) rF = true) (ho : Nat.ble (8 + (maxL + 11) + lo) rL = true) : CallB (xR X) (xs X) (xa X) own idx y bytes maxL rt (.code y bytes maxL rt :: zTb) (zrm f lo) 0 0 na := by
  obtain ⟨-, -, -, -, hts, -, -, -, -, -, -, hrF, hrL⟩ := C
  exact callB_of na hts (zGoodIn hcode) rfl rfl rfl (hts _ hini) (hts _ hl) hd ⟨Nat.le_trans (Nat.le_of_ble_eq_true hf) hrF, Nat.le_trans (Nat.le_of_ble_eq_true ho) hrL⟩
theorem zPre (C : zC X G cc own nL ret rF rL) {H : Heap} {avs : List Value} (hP : va_P (gD G) zCl (zWs (gad G) (gca G) σ) H) (hD : va_D (gA G) (zWs (gad G) (gca G) σ)) : ∀ U : State, U.heap = H → (xs X).WarmedH U.vm → va_Pc avs (zIn (gD G) (gad G) (gca G) σ) avs.toArray U := by
  intro U hU hW
  exact ⟨rfl, by rw [hU]; exact hP, zK_moved hW C.2.2.2.2.2.2.2.1, zD_aw hD⟩
theorem j_callV {Post : Int → zM → Prop} (C : zC X G cc own nL ret rF rL) (d : zd cc pc pc' (.invokevirtual idx) 3) (hl : Cond.methodLink own idx y ∈ zTb) (hy : zMI y bytes maxL rt na) (hM : zCi (xl X) (gD G) (gad G) (gca G) y bytes maxL rt (zrm f lo) (.ref (gad G n) :: As) σ Post) (hn : zShp[n]? = some (.inr (ci, fs))) (hc : zCl[ci]? = some r) (hr : r.1 = y.cls) (hna : As.length = na) (hst : stk = As.reverse ++ .ref (gad G n) :: st) (hcat : Nat.ble (st.map fun v => v.category).sum 8 = true) (hf : Nat.ble (f + 1) rF = true) (ho : Nat.ble (8 + (maxL + 11) + lo) rL = true) (k : ∀ z σ', zR z → zRM σ' → Post z σ' → zJ X G Q nL pc' L (.int (zI z) :: st) σ') : zJ X G Q nL pc L stk σ := by
  obtain ⟨d, rfl⟩ := d
  obtain ⟨hi, hs, hini, hcode, hd⟩ := hy
  have hts := C.2.2.2.2.1
  intro H locs ls hL hP hD hS
  refine va_calli (va_runV (As := As) (rest := st) (b := gad G n) (C := y.cls) ⟨C.1, C.2.1, C.2.2.1, C.2.2.2.1, hts⟩ hM ⟨zCB C hl hini hcode hd hf ho, hts _ hi, hts _ hs⟩ ⟨zIn_blind, by rw [← hr]; exact va_recv C.2.2.2.2.2.2.2.1.1 hP hc (zWs_get hn), zPre C hP hD⟩ rfl hna hL.1 hst (lv_room (Nat.le_of_ble_eq_true hcat)) d ⟨C.2.2.2.2.2.2.2.2.1, C.2.2.2.2.2.2.2.2.2.1⟩) hS (fun q _ h => zAw_in hD q h) (zAw_in hD) (fun r u t H1 locs1 ht hvm hpost hB hz hk hS1 => ?_)
  obtain ⟨z, rfl, hz, hu, hp⟩ := hpost
  rw [ht] at hB
  exact k z u hz hu hp H1 locs1 ls hL hB (zD_to hD) hS1
theorem j_callVv {Post : zM → Prop} (C : zC X G cc own nL ret rF rL) (d : zd cc pc pc' (.invokevirtual idx) 3) (hl : Cond.methodLink own idx y ∈ zTb) (hy : zMI y bytes maxL none na) (hM : zCv (xl X) (gD G) (gad G) (gca G) y bytes maxL (zrm f lo) (.ref (gad G n) :: As) σ Post) (hn : zShp[n]? = some (.inr (ci, fs))) (hc : zCl[ci]? = some r) (hr : r.1 = y.cls) (hna : As.length = na) (hst : stk = As.reverse ++ .ref (gad G n) :: st) (hcat : Nat.ble (st.map fun v => v.category).sum 8 = true) (hf : Nat.ble (f + 1) rF = true) (ho : Nat.ble (8 + (maxL + 11) + lo) rL = true) (k : ∀ σ', zRM σ' → Post σ' → zJ X G Q nL pc' L st σ') : zJ X G Q nL pc L stk σ := by
  obtain ⟨d, rfl⟩ := d
  obtain ⟨hi, hs, hini, hcode, hd⟩ := hy
  have hts := C.2.2.2.2.1
  intro H locs ls hL hP hD hS
  refine va_callv (va_runV (As := As) (rest := st) (b := gad G n) (C := y.cls) ⟨C.1, C.2.1, C.2.2.1, C.2.2.2.1, hts⟩ hM ⟨zCB C hl hini hcode hd hf ho, hts _ hi, hts _ hs⟩ ⟨zIn_blind, by rw [← hr]; exact va_recv C.2.2.2.2.2.2.2.1.1 hP hc (zWs_get hn), zPre C hP hD⟩ rfl hna hL.1 hst (lv_room (Nat.le_of_ble_eq_true hcat)) d ⟨C.2.2.2.2.2.2.2.2.1, C.2.2.2.2.2.2.2.2.2.1⟩) hS (fun q _ h => zAw_in hD q h) (zAw_in hD) (fun u t H1 locs1 ht hvm hpost hB hz hk hS1 => ?_)
  obtain ⟨hu, hp⟩ := hpost
  rw [ht] at hB
  exact k u hu hp H1 locs1 ls hL hB (zD_to hD) hS1
theorem j_callS {Post : Int → zM → Prop} (C : zC X G cc own nL ret rF rL) (d : zd cc pc pc' (.invokestatic idx) 3) (hl : Cond.methodLink own idx y ∈ zTb) (hy : zMS y bytes maxL rt na) (hM : zCi (xl X) (gD G) (gad G) (gca G) y bytes maxL rt (zrm f lo) As σ Post) (hna : As.length = na) (hst : stk = As.reverse ++ st) (hcat : Nat.ble (st.map fun v => v.category).sum 8 = true) (hf : Nat.ble (f + 1) rF = true) (ho : Nat.ble (8 + (maxL + 11) + lo) rL = true) (k : ∀ z σ', zR z → zRM σ' → Post z σ' → zJ X G Q nL pc' L (.int (zI z) :: st) σ') : zJ X G Q nL pc L stk σ := by
  obtain ⟨d, rfl⟩ := d
  obtain ⟨hst', hini, hcode, hd⟩ := hy
  have hts := C.2.2.2.2.1
  intro H locs ls hL hP hD hS
  refine va_calli (va_runS (As := As) (rest := st) ⟨C.1, C.2.1, C.2.2.1, C.2.2.2.1, hts⟩ hM ⟨zCB C hl hini hcode hd hf ho, hts _ hst'⟩ ⟨zIn_blind, zPre C hP hD⟩ rfl hna hL.1 hst (lv_room (Nat.le_of_ble_eq_true hcat)) d ⟨C.2.2.2.2.2.2.2.2.1, C.2.2.2.2.2.2.2.2.2.1⟩) hS (fun q _ h => zAw_in hD q h) (zAw_in hD) (fun r u t H1 locs1 ht hvm hpost hB hz hk hS1 => ?_)
  obtain ⟨z, rfl, hz, hu, hp⟩ := hpost
  rw [ht] at hB
  exact k z u hz hu hp H1 locs1 ls hL hB (zD_to hD) hS1
theorem j_callSv {Post : zM → Prop} (C : zC X G cc own nL ret rF rL) (d : zd cc pc pc' (.invokestatic idx) 3) (hl : Cond.methodLink own idx y ∈ zTb) (hy : zMS y bytes maxL none na) (hM : zCv (xl X) (gD G) (gad G) (gca G) y bytes maxL (zrm f lo) As σ Post) (hna : As.length = na) (hst : stk = As.reverse ++ st) (hcat : Nat.ble (st.map fun v => v.category).sum 8 = true) (hf : Nat.ble (f + 1) rF = true) (ho : Nat.ble (8 + (maxL + 11) + lo) rL = true) (k : ∀ σ', zRM σ' → Post σ' → zJ X G Q nL pc' L st σ') : zJ X G Q nL pc L stk σ := by
  obtain ⟨d, rfl⟩ := d
  obtain ⟨hst', hini, hcode, hd⟩ := hy
  have hts := C.2.2.2.2.1
  intro H locs ls hL hP hD hS
  refine va_callv (va_runS (As := As) (rest := st) ⟨C.1, C.2.1, C.2.2.1, C.2.2.2.1, hts⟩ hM ⟨zCB C hl hini hcode hd hf ho, hts _ hst'⟩ ⟨zIn_blind, zPre C hP hD⟩ rfl hna hL.1 hst (lv_room (Nat.le_of_ble_eq_true hcat)) d ⟨C.2.2.2.2.2.2.2.2.1, C.2.2.2.2.2.2.2.2.2.1⟩) hS (fun q _ h => zAw_in hD q h) (zAw_in hD) (fun u t H1 locs1 ht hvm hpost hB hz hk hS1 => ?_)
  obtain ⟨hu, hp⟩ := hpost
  rw [ht] at hB
  exact k u hu hp H1 locs1 ls hL hB (zD_to hD) hS1
/-- a call of a private static method of a nest mate -/
theorem j_callSN {Post : Int → zM → Prop} {host : String} (C : zC X G cc own nL ret rF rL) (d : zd cc pc pc' (.invokestatic idx) 3) (hl : (own, idx, y, host) ∈ zNw) (hy : zMS y bytes maxL rt na) (hM : zCi (xl X) (gD G) (gad G) (gca G) y bytes maxL rt (zrm f lo) As σ Post) (hna : As.length = na) (hst : stk = As.reverse ++ st) (hcat : Nat.ble (st.map fun v => v.category).sum 8 = true) (hf : Nat.ble (f + 1) rF = true) (ho : Nat.ble (8 + (maxL + 11) + lo) rL = true) (k : ∀ z σ', zR z → zRM σ' → Post z σ' → zJ X G Q nL pc' L (.int (zI z) :: st) σ') : zJ X G Q nL pc L stk σ := by
  obtain ⟨d, rfl⟩ := d
  obtain ⟨hst', hini, hcode, hd⟩ := hy
  have hts := C.2.2.2.2.1
  have hR : (zrm f lo).frames + 1 ≤ (xR X).frames ∧ 8 + (maxL + 11) + (zrm f lo).locals ≤ (xR X).locals := ⟨Nat.le_trans (Nat.le_of_ble_eq_true hf) C.2.2.2.2.2.2.2.2.2.2.2.1, Nat.le_trans (Nat.le_of_ble_eq_true ho) C.2.2.2.2.2.2.2.2.2.2.2.2⟩
  intro H locs ls hL hP hD hS
  refine va_calli (va_runSN (As := As) (rest := st) (host := host) ⟨C.1, C.2.1, C.2.2.1, C.2.2.2.1, hts⟩ hM ⟨va_cnB (rm := zrm f lo) na hts (zGoodIn hcode) rfl rfl rfl (C.2.2.2.2.2.2.2.1.2 _ hl) (hts _ hini) hd hR, hts _ hst', trivial⟩ ⟨zIn_blind, zPre C hP hD⟩ rfl hna hL.1 hst (lv_room (Nat.le_of_ble_eq_true hcat)) d ⟨C.2.2.2.2.2.2.2.2.1, C.2.2.2.2.2.2.2.2.2.1⟩) hS (fun q _ h => zAw_in hD q h) (zAw_in hD) (fun r u t H1 locs1 ht hvm hpost hB hz hk hS1 => ?_)
  obtain ⟨z, rfl, hz, hu, hp⟩ := hpost
  rw [ht] at hB
  exact k z u hz hu hp H1 locs1 ls hL hB (zD_to hD) hS1
theorem j_max (C : zC X G cc own nL ret rF rL) (d : zd cc pc pc' (.invokestatic idx) 3) (hl : Cond.methodLink own idx Lib.Math.max.name ∈ zTb) (hs : Cond.static Lib.Math.max.name ∈ zTb) (hi : Cond.initialized "java/lang/Math" ∈ zTb) (hcode : Cond.code Lib.Math.max.name Lib.Math.max.code 2 (some .int) ∈ zTb) (hf : Nat.ble 1 rF = true) (ho : Nat.ble ((st.map fun v => v.category).sum + 13) rL = true) {x y : Int} (hx : zR x) (hy : zR y) (k : zJ X G Q nL pc' L (.int (zI (max x y)) :: st) σ) : zJ X G Q nL pc L (.int (zI y) :: .int (zI x) :: st) σ := by
  obtain ⟨d, rfl⟩ := d
  have hts := C.2.2.2.2.1
  have e : (if zI x < zI y then zI y else zI x) = zI (max x y) := by
    by_cases h : x < y
    · rw [if_pos ((zI_lt hx hy).mpr h), Int.max_eq_right (by omega)]
    · rw [if_neg (fun q => h ((zI_lt hx hy).mp q)), Int.max_eq_left (by omega)]
  intro H locs ls hL hP hD hS
  refine va_mmax C.1 C.2.1 (C.2.2.1.trans hL.1.symm) C.2.2.2.1 (hts _ hl) (hts _ hs) (hts _ hi) (hts _ hcode) (Nat.le_trans (Nat.le_of_ble_eq_true hf) C.2.2.2.2.2.2.2.2.2.2.2.1) (Nat.le_trans (Nat.le_of_ble_eq_true ho) C.2.2.2.2.2.2.2.2.2.2.2.2) C.2.2.2.2.2.2.2.2.1 C.2.2.2.2.2.2.2.2.2.1 d ?_
  rw [e]
  exact k H locs ls hL hP hD hS
theorem j_min (C : zC X G cc own nL ret rF rL) (d : zd cc pc pc' (.invokestatic idx) 3) (hl : Cond.methodLink own idx Lib.Math.min.name ∈ zTb) (hs : Cond.static Lib.Math.min.name ∈ zTb) (hi : Cond.initialized "java/lang/Math" ∈ zTb) (hcode : Cond.code Lib.Math.min.name Lib.Math.min.code 2 (some .int) ∈ zTb) (hf : Nat.ble 1 rF = true) (ho : Nat.ble ((st.map fun v => v.category).sum + 13) rL = true) {x y : Int} (hx : zR x) (hy : zR y) (k : zJ X G Q nL pc' L (.int (zI (min x y)) :: st) σ) : zJ X G Q nL pc L (.int (zI y) :: .int (zI x) :: st) σ := by
  obtain ⟨d, rfl⟩ := d
  have hts := C.2.2.2.2.1
  have e : (if zI y < zI x then zI y else zI x) = zI (min x y) := by
    by_cases h : y < x
    · rw [if_pos ((zI_lt hy hx).mpr h), Int.min_eq_right (by omega)]
    · rw [if_neg (fun q => h ((zI_lt hy hx).mp q)), Int.min_eq_left (by omega)]
  intro H locs ls hL hP hD hS
  refine va_mmin C.1 C.2.1 (C.2.2.1.trans hL.1.symm) C.2.2.2.1 (hts _ hl) (hts _ hs) (hts _ hi) (hts _ hcode) (Nat.le_trans (Nat.le_of_ble_eq_true hf) C.2.2.2.2.2.2.2.2.2.2.2.1) (Nat.le_trans (Nat.le_of_ble_eq_true ho) C.2.2.2.2.2.2.2.2.2.2.2.2) C.2.2.2.2.2.2.2.2.1 C.2.2.2.2.2.2.2.2.2.1 d ?_
  rw [e]
  exact k H locs ls hL hP hD hS
/-- n cells of the array a, from sp on, to the array b, from dp on -/
def zCp (σ : zM) (a b : Nat) (sp dp n : Int) : zM := fun q j => if q = b ∧ dp ≤ j ∧ j < dp + n then σ a (sp + (j - dp)) else σ q j
theorem zCp_rg {σ : zM} (h : zRM σ) (a b : Nat) (sp dp n : Int) : zRM (zCp σ a b sp dp n) := by
  intro q j
  unfold zCp
  split
  · exact h _ _
  · exact h _ _
theorem j_copy (C : zC X G cc own nL ret rF rL) {a b la lb : Nat} {sp dp m : Int} (d : zd cc pc pc' (.invokestatic idx) 3) (hl : Cond.methodLink own idx arraycopyName ∈ zTb) (hnat : Cond.native arraycopyName ∈ zTb) (hs : Cond.static arraycopyName ∈ zTb) (hi : Cond.initialized "java/lang/System" ∈ zTb) (hf : Nat.ble 1 rF = true) (ho : Nat.ble ((st.map fun v => v.category).sum + (nativeFrameWords "java/lang/System" "arraycopy" 5 + 11)) rL = true) (ha : zShp[a]? = some (.inl (0, la))) (hb : zShp[b]? = some (.inl (0, lb))) (h : 0 ≤ sp ∧ 0 ≤ dp ∧ 0 ≤ m ∧ sp + m ≤ (la : Int) ∧ dp + m ≤ (lb : Int)) (k : zJ X G Q nL pc' L st (zCp σ a b sp dp m)) : zJ X G Q nL pc L (.int (zI m) :: .int (zI dp) :: .ref (gad G b) :: .int (zI sp) :: .ref (gad G a) :: st) σ := by
  obtain ⟨d, rfl⟩ := d
  have hts := C.2.2.2.2.1
  obtain ⟨h1, h2, h3, h4, h5⟩ := h
  have la' := zLen ha
  have lb' := zLen hb
  have e1 : (zI sp).toNatClampNeg = sp.toNat := zI_clamp h1 (by omega)
  have e2 : (zI dp).toNatClampNeg = dp.toNat := zI_clamp h2 (by omega)
  have e3 : (zI m).toNatClampNeg = m.toNat := zI_clamp h3 (by omega)
  intro H locs ls hL hP hD hS
  refine va_copyi C.1 C.2.1 (C.2.2.1.trans hL.1.symm) C.2.2.2.1 (hts _ hl) (hts _ hnat) (hts _ hs) (hts _ hi) C.2.2.2.2.2.2.2.1.1 hP hD hS a b 0 0 (zWs_get ha) (zWs_get hb) rfl rfl rfl (zI_nn ⟨by omega, by omega⟩ h1) (zI_nn ⟨by omega, by omega⟩ h2) (zI_nn ⟨by omega, by omega⟩ h3) (by rw [e1, e3]; omega) (by rw [e2, e3]; omega) (fun _ _ => rfl) (Nat.le_trans (Nat.le_of_ble_eq_true hf) C.2.2.2.2.2.2.2.2.2.2.2.1) (Nat.le_trans (Nat.le_of_ble_eq_true ho) C.2.2.2.2.2.2.2.2.2.2.2.2) d (fun H1 locs1 hP1 hD1 hS1 => ?_)
  have e : (fun j : Nat => zI (zCp σ a b sp dp m b (j : Int))) = va_cpy (fun j : Nat => zI (σ a (j : Int))) (fun j : Nat => zI (σ b (j : Int))) sp.toNat dp.toNat m.toNat := by
    funext j
    unfold va_cpy zCp
    by_cases hj : dp.toNat ≤ j ∧ j < dp.toNat + m.toNat
    · rw [if_pos hj, if_pos ⟨rfl, by omega, by omega⟩]
      show zI _ = zI (σ a (_ : Int))
      rw [show ((sp.toNat + (j - dp.toNat) : Nat) : Int) = sp + ((j : Int) - dp) by omega]
    · rw [if_neg hj, if_neg (fun hh => hj (by omega))]
  rw [e1, e2, e3, zWs_set (ad := gad G) (ca := gca G) (σ := σ) (σ' := zCp σ a b sp dp m) hb (by rw [← e]; rfl) (fun q hq j => by unfold zCp; rw [if_neg (fun hh => hq hh.1)])] at hP1 hD1
  exact k H1 locs1 ls hL hP1 hD1 hS1
end J3
