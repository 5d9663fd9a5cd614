/-- what holds at the law's entry -/
def lw_At (p : Program) (s : State) (m : MethodId) (meth : Method) (c : Code) (b L : Nat) (xs : Nat → Int32) : Prop :=
  p.tables.exec = Jvm.exec ∧ c.code = code ∧ meth.sig.returnType = ret ∧ c.maxLocals = 15 ∧ s.vm.findClass R_law = some m.cls ∧ (∀ w ∈ lw_tbl, w.before #[Value.ref b] s = true) ∧ va_X b L xs s s.heap ∧ b < s.heap.size ∧ meth.locks = false ∧ (Jvm.Cond.and given_1 narrow_1).before #[Value.ref b] s = true
theorem zArr {s : State} {args : Array Value} {ty : FieldType} (h : (Cond.arrayClass ty).before args s = true) (hne : ∀ C, ty ≠ .object C) (hf : ∀ k, refKind ty = true → ty ≠ k) : ∃ cA : ClassId, ArrOfT s cA ty ∧ va_RA s cA ty := by
  obtain ⟨c, k, comp, h1, h2, h3⟩ := Cond.arrayClass_spec h
  refine ⟨c, fun n z => ⟨fun k' h' => (by cases h'), k, h2, comp, h3⟩, ?_⟩
  cases ty with
  | object C => exact absurd rfl (hne C)
  | _ => exact h1
theorem zEnterJ {X : zX} {G : zG} {Q : State → Prop} {nL pc nc ns : Nat} {L : List (Nat × Value)} {st : List Value} {ws : va_W} {σ : zM} {ad : Nat → Nat} (hw : ∀ H, va_P (gD G) zCl ws H → va_D (gA G) ws → va_P (gD G) zCl (zWs ad (gca G) σ) H ∧ va_D (gA G) (zWs ad (gca G) σ)) (k : zJ X (gD G, ad, gca G, gA G, gH G, nc, ns) Q nL pc L st σ) : zJw X G Q nL pc L st ws nc ns := by
  intro H locs ls hL hP hD hS
  obtain ⟨hP', hD'⟩ := hw H hP hD
  exact k H locs ls hL hP' hD' hS
set_option maxRecDepth 100000 in
set_option maxHeartbeats 16000000 in
/-- the law from its entry, out of its loop's weakest precondition -/
theorem zWalk {Q : Int → zM → Prop} (hlaw : ∀ (scr : Nat → Int32) (N : Nat), N ≤ 260 → wp_L_law_b8 scr N Q zM0) {p : Program} {e : Env} {s : State} {m : MethodId} {below : List Frame} {meth : Method} {c : Code} (l : Launch) {b L : Nat} {scr : Nat → Int32} (hL : L ≤ 260) (C0 : lw_At p s m meth c b L scr) : W p l e room_1 s m #[Value.ref b] below meth c s.heap [] 0 0 (lw_Z below #[Value.ref b] s) (entryFrame m ([Value.ref b] : List Value).toArray 15) := by
  obtain ⟨hx, hb, hr, hml, hown, hts0, hX, hbl, hlocks, hgv⟩ := C0
  have hts : ∀ w ∈ zTb, w.before #[Value.ref b] s = true := fun w hw => hts0 w (zTb_lw hw)
  obtain ⟨c0, i0, k0⟩ := u_known (C := R_S) (T := F_S) (N := 8) (n := 8) hts i_S (hts _ zt_S)
  obtain ⟨c1, i1, k1⟩ := u_known (C := R_X) (T := F_X) (N := 13) (n := 13) hts i_X (hts _ zt_X)
  obtain ⟨c2, i2, k2⟩ := u_known (C := R_P) (T := F_P) (N := 9) (n := 9) hts i_P (hts _ zt_P)
  obtain ⟨c3, i3, k3⟩ := u_known (C := R_G) (T := F_G) (N := 2) (n := 2) hts i_G (hts _ zt_G)
  obtain ⟨c4, i4, k4⟩ := u_known (C := R_O) (T := F_O) (N := 2) (n := 2) hts i_O (hts _ zt_O)
  obtain ⟨c5, i5, k5⟩ := u_known (C := R_B) (T := F_B) (N := 4) (n := 4) hts i_B (hts _ zt_B)
  obtain ⟨c6, i6, k6⟩ := u_known (C := R_F) (T := F_F) (N := 5) (n := 5) hts i_F (hts _ zt_F)
  obtain ⟨D, hKc⟩ : ∃ D : va_G, ∀ (k : Nat) (q : vw_C), zCl[k]? = some q → u_Kn s q.1 q.2.1 q.2.2 (D.1 k) (D.2 k) := by
    refine ⟨(fun k => [c0, c1, c2, c3, c4, c5, c6].getD k c0, fun k => [i0, i1, i2, i3, i4, i5, i6].getD k i0), ?_⟩
    intro k q hq
    match k, hq with
    | 0, hq => cases hq; exact k0
    | 1, hq => cases hq; exact k1
    | 2, hq => cases hq; exact k2
    | 3, hq => cases hq; exact k3
    | 4, hq => cases hq; exact k4
    | 5, hq => cases hq; exact k5
    | 6, hq => cases hq; exact k6
    | k + 7, hq => simp [zCl] at hq
  obtain ⟨a0, r0, n0⟩ := zArr (hts _ za_int) (fun C h => by cases h) (fun _ h => by cases h)
  obtain ⟨a1, r1, n1⟩ := zArr (hts _ za_boolean) (fun C h => by cases h) (fun _ h => by cases h)
  obtain ⟨a2, r2, n2⟩ := zArr (hts _ za_char) (fun C h => by cases h) (fun _ h => by cases h)
  have hAO : va_AO "GateRoads$State" s := va_AO.of (hts0 _ zao)
  obtain ⟨a3, r3, n3⟩ : ∃ cA : ClassId, ArrOfT s cA (.object R_S) ∧ va_RA s cA (.object R_S) := by
    obtain ⟨comp, cA, k, h1, h2, h3, h4, h5⟩ := Cond.arrayOver_spec (args := #[]) hAO
    exact ⟨cA, fun n z => ⟨fun k' h' => (by cases h'), k, h3, comp, h4⟩, k, comp, h3, h4, h1, h5⟩
  obtain ⟨ca, hca⟩ : ∃ ca : Nat → ClassId, va_K D zCl (zTy ca) s := by
    refine ⟨fun k => [a0, a1, a2, a3].getD k a0, hKc, ?_⟩
    intro k q hq
    match k, hq with
    | 0, hq => cases hq; exact ⟨r0, n0⟩
    | 1, hq => cases hq; exact ⟨r1, n1⟩
    | 2, hq => cases hq; exact ⟨r2, n2⟩
    | 3, hq => cases hq; exact ⟨r3, n3⟩
    | k + 4, hq => simp [zTy] at hq
  have hK : zK D ca s := ⟨hca, fun q hq => va_Nw.of rfl (hts0 _ (znw q hq))⟩
  have hKc' : zKc D ca s := ⟨hK, hAO, fun q hq => va_Nw.of rfl (hts0 _ (znc q hq))⟩
  have hA : ∀ q : Nat, s.heap.size ≤ q → (fun q : Nat => s.heap.size ≤ q) q := fun _ h => h
  have hl' := lv_entry [.ref b] (n := 15) (Nat.le_of_ble_eq_true rfl)
  rw [lg_entry_eq]
  let X : zX := (p, l, e, room_1, s, m, #[Value.ref b], below, meth, c)
  let G : zG := (D, (fun n => n), ca, (fun q : Nat => s.heap.size ≤ q), s.heap, 0, 0)
  have C : zC X G b_L_law "GateRoadsLaw" 15 (some .boolean) 10 382 := ⟨hx, hb, hml, hown, hts, hlocks, hr, hK, Nat.zero_le _, Nat.zero_le _, rfl, Nat.le_refl _, Nat.le_refl _⟩
  have main : zJw X G (lw_Z below #[Value.ref b] s) 15 0 [(0, .ref b)] [] [] 0 0 := by
    refine q_new (rr := room_1) (ci := 1) (fs := zb_X) C hA t_X t_X_ok i_X zc_L_14 zt_X zy_X rfl zf_X d_L_law_0 rfl rfl rfl (fun x => ?_)
    refine q_dup C d_L_law_3 rfl ?_
    refine q_callI (rr := room_1) (ws := []) C hA hKc' d_L_law_4 (fun sz => c_X_init l D ca x sz) ml_L_97 zm_X zy_X zk_X zd_X rfl rfl rfl rfl rfl rfl rfl (fun u => ?_)
    refine q_eq (ws' := w_X ca x u) rfl ?_
    refine q_astore_n (L' := [(1, .ref x), (0, .ref b)]) C d_L_law_7 rfl rfl rfl ?_
    refine q_sub (L' := [(0, .ref b), (1, .ref x)]) [1, 0] rfl ?_
    refine zEnterJ (ad := zAd x u) (σ := zM0) (fun H hP hD => zWorld zPos zPos_inj (zKey D ca x u H) hP hD) ?_
    have hn := hlaw scr L hL
    refine w_L_law_b8 (X := X) (G := (D, zAd x u, ca, (fun q : Nat => s.heap.size ≤ q), s.heap, _, _)) (b := b) ⟨hx, hb, hml, hown, hts, hlocks, hr, hK, ?_, ?_, rfl, Nat.le_refl _, Nat.le_refl _⟩ (scr := scr) (N := L) ⟨⟨hX, hbl, Nat.not_le.mpr hbl, hL⟩, ⟨rfl, rfl, ?_, ?_, fun q h => h⟩, ⟨by omega, by omega⟩⟩ zM0 zM0_rg hn
    · exact Nat.le_of_ble_eq_true rfl
    · exact Nat.le_of_ble_eq_true rfl
    · exact Nat.le_of_ble_eq_true rfl
    · exact Nat.le_of_ble_eq_true rfl
  exact main s.heap [] _ hl' (fun k q h => by simp at h) ⟨fun i j p q h => by simp at h, fun k q h => by simp at h⟩ va_S.rf
