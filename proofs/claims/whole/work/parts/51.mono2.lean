theorem mo_wp_M_beginsAt_b131 {σ : zM} {v1 : Int} {v2 : Int} {v3 : Int} {v4 : Int} {v5 : Int} {k15 : Int → Int → Prop} {Q : Int → Prop} {v6 : Int} {v7 : Int} {k15' : Int → Int → Prop} {Q' : Int → Prop} (h_k15 : ∀ (x0 : Int) (x1 : Int), k15 x0 x1 → k15' x0 x1) (h_Q : ∀ (x0 : Int), Q x0 → Q' x0) : wp_M_beginsAt_b131 σ v1 v2 v3 v4 v5 k15 Q v6 v7 → wp_M_beginsAt_b131 σ v1 v2 v3 v4 v5 k15' Q' v6 v7 := by
  unfold wp_M_beginsAt_b131
  exact (mo_wp_M_beginsAt_b133 h_k15 h_Q)
theorem mo_wp_M_beginsAt_b126 {σ : zM} {v1 : Int} {v2 : Int} {v3 : Int} {v4 : Int} {v5 : Int} {k15 : Int → Int → Prop} {Q : Int → Prop} {v7 : Int} {k15' : Int → Int → Prop} {Q' : Int → Prop} (h_k15 : ∀ (x0 : Int) (x1 : Int), k15 x0 x1 → k15' x0 x1) (h_Q : ∀ (x0 : Int), Q x0 → Q' x0) : wp_M_beginsAt_b126 σ v1 v2 v3 v4 v5 k15 Q v7 → wp_M_beginsAt_b126 σ v1 v2 v3 v4 v5 k15' Q' v7 := by
  unfold wp_M_beginsAt_b126
  exact (mo_wp_M_beginsAt_b133 h_k15 h_Q)
theorem mo_wp_M_beginsAt_b107 {σ : zM} {v1 : Int} {v2 : Int} {v3 : Int} {v4 : Int} {v5 : Int} {k15 : Int → Int → Prop} {Q : Int → Prop} {v6 : Int} {v7 : Int} {s0 : Int} {k15' : Int → Int → Prop} {Q' : Int → Prop} (h_k15 : ∀ (x0 : Int) (x1 : Int), k15 x0 x1 → k15' x0 x1) (h_Q : ∀ (x0 : Int), Q x0 → Q' x0) : wp_M_beginsAt_b107 σ v1 v2 v3 v4 v5 k15 Q v6 v7 s0 → wp_M_beginsAt_b107 σ v1 v2 v3 v4 v5 k15' Q' v6 v7 s0 := by
  unfold wp_M_beginsAt_b107
  exact (And.imp (zImp (mo_wp_M_beginsAt_b131 h_k15 h_Q)) (zImp (And.imp (zImp (mo_wp_M_beginsAt_b126 h_k15 h_Q)) (zImp (And.imp (zImp (mo_wp_M_beginsAt_b131 h_k15 h_Q)) (zImp (mo_wp_M_beginsAt_b126 h_k15 h_Q)))))))
theorem mo_wp_M_beginsAt_b106 {σ : zM} {v1 : Int} {v2 : Int} {v3 : Int} {v4 : Int} {v5 : Int} {k15 : Int → Int → Prop} {Q : Int → Prop} {v6 : Int} {v7 : Int} {k15' : Int → Int → Prop} {Q' : Int → Prop} (h_k15 : ∀ (x0 : Int) (x1 : Int), k15 x0 x1 → k15' x0 x1) (h_Q : ∀ (x0 : Int), Q x0 → Q' x0) : wp_M_beginsAt_b106 σ v1 v2 v3 v4 v5 k15 Q v6 v7 → wp_M_beginsAt_b106 σ v1 v2 v3 v4 v5 k15' Q' v6 v7 := by
  unfold wp_M_beginsAt_b106
  exact (mo_wp_M_beginsAt_b107 h_k15 h_Q)
theorem mo_wp_M_beginsAt_b56 {σ : zM} {v1 : Int} {v2 : Int} {v3 : Int} {v4 : Int} {v5 : Int} {k15 : Int → Int → Prop} {Q : Int → Prop} {v6 : Int} {v7 : Int} {k15' : Int → Int → Prop} {Q' : Int → Prop} (h_k15 : ∀ (x0 : Int) (x1 : Int), k15 x0 x1 → k15' x0 x1) (h_Q : ∀ (x0 : Int), Q x0 → Q' x0) : wp_M_beginsAt_b56 σ v1 v2 v3 v4 v5 k15 Q v6 v7 → wp_M_beginsAt_b56 σ v1 v2 v3 v4 v5 k15' Q' v6 v7 := by
  unfold wp_M_beginsAt_b56
  exact (mo_wp_M_ofR (fun z6 => (And.imp id (And.imp (zImp (mo_wp_M_beginsAt_b106 h_k15 h_Q)) (zImp (And.imp id (mo_wp_M_ofR (fun z11 => (mo_wp_M_has (fun z13 => (And.imp (zImp (mo_wp_M_beginsAt_b106 h_k15 h_Q)) (zImp (mo_wp_M_whyNot (fun z15 => (And.imp (zImp (mo_wp_M_beginsAt_b106 h_k15 h_Q)) (zImp (mo_wp_M_beginsAt_b107 h_k15 h_Q)))))))))))))))))
theorem mo_wp_M_beginsAt_L15 {σ : zM} {v1 : Int} {v2 : Int} {v3 : Int} {v4 : Int} {v5 : Int} {Q : Int → Prop} {Q' : Int → Prop} (h_Q : ∀ (x0 : Int), Q x0 → Q' x0) : ∀ (n : Nat) (v6 : Int) (v7 : Int), wp_M_beginsAt_L15 σ v1 v2 v3 v4 v5 Q n v6 v7 → wp_M_beginsAt_L15 σ v1 v2 v3 v4 v5 Q' n v6 v7 := by
  intro n
  induction n with
  | zero => intro v6 v7 h; rw [wp_M_beginsAt_L15] at h; exact h.elim
  | succ n ih =>
    intro v6 v7
    rw [wp_M_beginsAt_L15, wp_M_beginsAt_L15]
    exact (And.imp (zImp (h_Q _)) (zImp (mo_wp_M_limitOf (fun z3 => (And.imp id (And.imp (zImp (h_Q _)) (zImp (And.imp (zImp (mo_wp_M_beginsAt_b56 (fun x0 x1 => ih x0 x1) h_Q)) (zImp (And.imp id (mo_wp_M_isRoomOpen (fun z18 => (And.imp (zImp (mo_wp_M_beginsAt_b56 (fun x0 x1 => ih x0 x1) h_Q)) (zImp (h_Q _)))))))))))))))
theorem mo_wp_M_beginsAt {σ : zM} {v1 : Int} {v2 : Int} {v3 : Int} {v4 : Int} {Q : Int → Prop} {Q' : Int → Prop} (h_Q : ∀ (x0 : Int), Q x0 → Q' x0) : wp_M_beginsAt σ v1 v2 v3 v4 Q → wp_M_beginsAt σ v1 v2 v3 v4 Q' := by
  unfold wp_M_beginsAt
  exact (mo_wp_M_ofR (fun z1 => (Exists.imp fun n20 => (mo_wp_M_beginsAt_L15 h_Q _ _ _))))
theorem mo_wp_M_way_b144 {σ : zM} {v1 : Int} {v3 : Int} {v4 : Int} {v5 : Int} {k97 : Int → Prop} {Q : Int → zM → Prop} {v6 : Int} {s0 : Int} {k97' : Int → Prop} {Q' : Int → zM → Prop} (h_k97 : ∀ (x0 : Int), k97 x0 → k97' x0) (h_Q : ∀ (x0 : Int) (x1 : zM), Q x0 x1 → Q' x0 x1) : wp_M_way_b144 σ v1 v3 v4 v5 k97 Q v6 s0 → wp_M_way_b144 σ v1 v3 v4 v5 k97' Q' v6 s0 := by
  unfold wp_M_way_b144
  exact (And.imp (zImp (And.imp id (h_k97 _))) (zImp (And.imp (zImp (h_Q _ _)) (zImp (h_Q _ _)))))
theorem mo_wp_M_way_b136 {σ : zM} {v1 : Int} {v3 : Int} {v4 : Int} {v5 : Int} {k97 : Int → Prop} {Q : Int → zM → Prop} {v6 : Int} {s1 : Int} {s2 : Int} {s3 : Int} {s4 : Int} {k97' : Int → Prop} {Q' : Int → zM → Prop} (h_k97 : ∀ (x0 : Int), k97 x0 → k97' x0) (h_Q : ∀ (x0 : Int) (x1 : zM), Q x0 x1 → Q' x0 x1) : wp_M_way_b136 σ v1 v3 v4 v5 k97 Q v6 s1 s2 s3 s4 → wp_M_way_b136 σ v1 v3 v4 v5 k97' Q' v6 s1 s2 s3 s4 := by
  unfold wp_M_way_b136
  exact (mo_wp_M_beginsAt (fun z16 => (mo_wp_M_way_b144 h_k97 h_Q)))
theorem mo_wp_M_way_L97 {σ : zM} {v1 : Int} {v3 : Int} {v4 : Int} {v5 : Int} {Q : Int → zM → Prop} {Q' : Int → zM → Prop} (h_Q : ∀ (x0 : Int) (x1 : zM), Q x0 x1 → Q' x0 x1) : ∀ (n : Nat) (v6 : Int), wp_M_way_L97 σ v1 v3 v4 v5 Q n v6 → wp_M_way_L97 σ v1 v3 v4 v5 Q' n v6 := by
  intro n
  induction n with
  | zero => intro v6 h; rw [wp_M_way_L97] at h; exact h.elim
  | succ n ih =>
    intro v6
    rw [wp_M_way_L97, wp_M_way_L97]
    exact (And.imp (zImp (h_Q _ _)) (zImp (mo_wp_M_ofR (fun z13 => (And.imp (zImp (mo_wp_M_way_b144 (fun x0 => ih x0) h_Q)) (zImp (And.imp (zImp (mo_wp_M_way_b136 (fun x0 => ih x0) h_Q)) (zImp (mo_wp_M_way_b136 (fun x0 => ih x0) h_Q)))))))))
theorem mo_wp_M_way {σ : zM} {v1 : Int} {v2 : Int} {v3 : Int} {v4 : Int} {Q : Int → zM → Prop} {Q' : Int → zM → Prop} (h_Q : ∀ (x0 : Int) (x1 : zM), Q x0 x1 → Q' x0 x1) : wp_M_way σ v1 v2 v3 v4 Q → wp_M_way σ v1 v2 v3 v4 Q' := by
  unfold wp_M_way
  exact (mo_wp_M_isPlace (fun z1 => (And.imp (zImp (h_Q _ _)) (zImp (mo_wp_M_isPlace (fun z3 => (And.imp (zImp (mo_wp_M_isTime (fun z5 => (And.imp (zImp (h_Q _ _)) (zImp (mo_wp_M_isIn (fun z7 => (And.imp (zImp (And.imp (zImp (mo_wp_M_earliestOf (fun z9 σ10 => (And.imp (zImp (And.imp (zImp (mo_wp_M_goesBack (fun σ12 => (Exists.imp fun n18 => (mo_wp_M_way_L97 h_Q _ _))))) (zImp (mo_wp_M_fewestRoads (fun z19 σ20 => (h_Q _ _)))))) (zImp (h_Q _ _)))))) (zImp (And.imp (zImp (h_Q _ _)) (zImp (h_Q _ _)))))) (zImp (h_Q _ _)))))))))) (zImp (h_Q _ _)))))))))
theorem mo_wp_M_reach_L52 {σ : zM} {v3 : Int} {Q : Int → zM → Prop} {Q' : Int → zM → Prop} (h_Q : ∀ (x0 : Int) (x1 : zM), Q x0 x1 → Q' x0 x1) : ∀ (n : Nat) (v4 : Int) (v5 : Int), wp_M_reach_L52 σ v3 Q n v4 v5 → wp_M_reach_L52 σ v3 Q' n v4 v5 := by
  intro n
  induction n with
  | zero => intro v4 v5 h; rw [wp_M_reach_L52] at h; exact h.elim
  | succ n ih =>
    intro v4 v5
    rw [wp_M_reach_L52, wp_M_reach_L52]
    exact (And.imp (zImp (h_Q _ _)) (zImp (And.imp id (And.imp id (ih _ _)))))
theorem mo_wp_M_reach_b47 {Q : Int → zM → Prop} {σ : zM} {v3 : Int} {s0 : Int} {Q' : Int → zM → Prop} (h_Q : ∀ (x0 : Int) (x1 : zM), Q x0 x1 → Q' x0 x1) : wp_M_reach_b47 Q σ v3 s0 → wp_M_reach_b47 Q' σ v3 s0 := by
  unfold wp_M_reach_b47
  exact (Exists.imp fun n11 => (mo_wp_M_reach_L52 h_Q _ _ _))
theorem mo_wp_M_reach {σ : zM} {v1 : Int} {v2 : Int} {v3 : Int} {Q : Int → zM → Prop} {Q' : Int → zM → Prop} (h_Q : ∀ (x0 : Int) (x1 : zM), Q x0 x1 → Q' x0 x1) : wp_M_reach σ v1 v2 v3 Q → wp_M_reach σ v1 v2 v3 Q' := by
  unfold wp_M_reach
  exact (mo_wp_M_isPlace (fun z1 => (And.imp (zImp (mo_wp_M_isTime (fun z3 => (And.imp (zImp (h_Q _ _)) (zImp (mo_wp_M_isTime (fun z5 => (And.imp (zImp (mo_wp_M_spreads (fun σ8 => (And.imp (zImp (mo_wp_M_reach_b47 h_Q)) (zImp (mo_wp_M_reach_b47 h_Q)))))) (zImp (h_Q _ _)))))))))) (zImp (h_Q _ _)))))
theorem mo_wp_M_needed_b93 {v1 : Int} {v2 : Int} {v3 : Int} {v4 : Int} {k41 : zM → Int → Int → Prop} {Q : Int → zM → Prop} {σ : zM} {v6 : Int} {s0 : Int} {s1 : Int} {k41' : zM → Int → Int → Prop} {Q' : Int → zM → Prop} (h_k41 : ∀ (x0 : zM) (x1 : Int) (x2 : Int), k41 x0 x1 x2 → k41' x0 x1 x2) (h_Q : ∀ (x0 : Int) (x1 : zM), Q x0 x1 → Q' x0 x1) : wp_M_needed_b93 v1 v2 v3 v4 k41 Q σ v6 s0 s1 → wp_M_needed_b93 v1 v2 v3 v4 k41' Q' σ v6 s0 s1 := by
  unfold wp_M_needed_b93
  exact (And.imp id (h_k41 _ _ _))
theorem mo_wp_M_needed_L41 {v1 : Int} {v2 : Int} {v3 : Int} {v4 : Int} {Q : Int → zM → Prop} {Q' : Int → zM → Prop} (h_Q : ∀ (x0 : Int) (x1 : zM), Q x0 x1 → Q' x0 x1) : ∀ (n : Nat) (σ : zM) (v5 : Int) (v6 : Int), wp_M_needed_L41 v1 v2 v3 v4 Q n σ v5 v6 → wp_M_needed_L41 v1 v2 v3 v4 Q' n σ v5 v6 := by
  intro n
  induction n with
  | zero => intro σ v5 v6 h; rw [wp_M_needed_L41] at h; exact h.elim
  | succ n ih =>
    intro σ v5 v6
    rw [wp_M_needed_L41, wp_M_needed_L41]
    exact (And.imp (zImp (h_Q _ _)) (zImp (And.imp (zImp (h_Q _ _)) (zImp (And.imp (zImp (h_Q _ _)) (zImp (mo_wp_M_spreads (fun σ10 => (mo_wp_M_firstAt (fun z11 => (And.imp (zImp (mo_wp_M_needed_b93 (fun x0 x1 x2 => ih x0 x1 x2) h_Q)) (zImp (mo_wp_M_needed_b93 (fun x0 x1 x2 => ih x0 x1 x2) h_Q)))))))))))))
theorem mo_wp_M_needed {σ : zM} {v1 : Int} {v2 : Int} {v3 : Int} {Q : Int → zM → Prop} {Q' : Int → zM → Prop} (h_Q : ∀ (x0 : Int) (x1 : zM), Q x0 x1 → Q' x0 x1) : wp_M_needed σ v1 v2 v3 Q → wp_M_needed σ v1 v2 v3 Q' := by
  unfold wp_M_needed
  exact (mo_wp_M_isPlace (fun z1 => (And.imp (zImp (h_Q _ _)) (zImp (mo_wp_M_isPlace (fun z3 => (And.imp (zImp (mo_wp_M_isTime (fun z5 => (And.imp (zImp (mo_wp_M_earliestOf (fun z7 σ8 => (Exists.imp fun n14 => (mo_wp_M_needed_L41 h_Q _ _ _ _))))) (zImp (h_Q _ _)))))) (zImp (h_Q _ _)))))))))
theorem mo_wp_M_spreadsFrom {σ : zM} {v1 : Int} {Q : zM → Prop} {Q' : zM → Prop} (h_Q : ∀ (x0 : zM), Q x0 → Q' x0) : wp_M_spreadsFrom σ v1 Q → wp_M_spreadsFrom σ v1 Q' := by
  unfold wp_M_spreadsFrom
  exact (mo_wp_M_ofT (fun z1 => (mo_wp_M_ofT (fun z3 => (mo_wp_M_ofT (fun z5 => (mo_wp_M_spreads (fun σ8 => (h_Q _)))))))))
theorem mo_wp_M_meet_L38 {v1 : Int} {v3 : Int} {k66 : zM → Prop} {Q : Int → zM → Prop} {k66' : zM → Prop} {Q' : Int → zM → Prop} (h_k66 : ∀ (x0 : zM), k66 x0 → k66' x0) (h_Q : ∀ (x0 : Int) (x1 : zM), Q x0 x1 → Q' x0 x1) : ∀ (n : Nat) (σ : zM) (v4 : Int), wp_M_meet_L38 v1 v3 k66 Q n σ v4 → wp_M_meet_L38 v1 v3 k66' Q' n σ v4 := by
  intro n
  induction n with
  | zero => intro σ v4 h; rw [wp_M_meet_L38] at h; exact h.elim
  | succ n ih =>
    intro σ v4
    rw [wp_M_meet_L38, wp_M_meet_L38]
    exact (And.imp (zImp (h_k66 _)) (zImp (And.imp id (And.imp id (forall_imp fun σ11 => (zImp (And.imp id (ih _ _))))))))
theorem mo_wp_M_meet_L85 {σ : zM} {v3 : Int} {v4 : Int} {k133 : Prop} {Q : Int → zM → Prop} {k133' : Prop} {Q' : Int → zM → Prop} (h_k133 : k133 → k133') (h_Q : ∀ (x0 : Int) (x1 : zM), Q x0 x1 → Q' x0 x1) : ∀ (n : Nat) (v5 : Int), wp_M_meet_L85 σ v3 v4 k133 Q n v5 → wp_M_meet_L85 σ v3 v4 k133' Q' n v5 := by
  intro n
  induction n with
  | zero => intro v5 h; rw [wp_M_meet_L85] at h; exact h.elim
  | succ n ih =>
    intro v5
    rw [wp_M_meet_L85, wp_M_meet_L85]
    exact (And.imp (zImp h_k133) (zImp (And.imp id (And.imp id (mo_wp_M_has (fun z18 => (And.imp (zImp (And.imp id (ih _))) (zImp (And.imp (zImp (h_Q _ _)) (zImp (h_Q _ _)))))))))))
theorem mo_wp_M_meet_L74 {σ : zM} {v3 : Int} {Q : Int → zM → Prop} {Q' : Int → zM → Prop} (h_Q : ∀ (x0 : Int) (x1 : zM), Q x0 x1 → Q' x0 x1) : ∀ (n : Nat) (v4 : Int), wp_M_meet_L74 σ v3 Q n v4 → wp_M_meet_L74 σ v3 Q' n v4 := by
  intro n
  induction n with
  | zero => intro v4 h; rw [wp_M_meet_L74] at h; exact h.elim
  | succ n ih =>
    intro v4
    rw [wp_M_meet_L74, wp_M_meet_L74]
    exact (And.imp (zImp (h_Q _ _)) (zImp (Exists.imp fun n22 => (mo_wp_M_meet_L85 (And.imp id (ih _)) h_Q _ _))))
theorem mo_wp_M_meet {σ : zM} {v1 : Int} {v2 : Int} {v3 : Int} {Q : Int → zM → Prop} {Q' : Int → zM → Prop} (h_Q : ∀ (x0 : Int) (x1 : zM), Q x0 x1 → Q' x0 x1) : wp_M_meet σ v1 v2 v3 Q → wp_M_meet σ v1 v2 v3 Q' := by
  unfold wp_M_meet
  exact (mo_wp_M_isTraveller (fun z1 => (And.imp (zImp (h_Q _ _)) (zImp (mo_wp_M_isTraveller (fun z3 => (And.imp (zImp (mo_wp_M_isIn (fun z5 => (And.imp (zImp (mo_wp_M_spreadsFrom (fun σ8 => (Exists.imp fun n24 => (mo_wp_M_meet_L38 (fun σ13 => (mo_wp_M_spreadsFrom (fun σ15 => (Exists.imp fun n23 => (mo_wp_M_meet_L74 h_Q _ _))))) h_Q _ _ _))))) (zImp (h_Q _ _)))))) (zImp (h_Q _ _)))))))))
theorem mo_wp_M_arrives {σ : zM} {v1 : Int} {v2 : Int} {Q : Int → zM → Prop} {Q' : Int → zM → Prop} (h_Q : ∀ (x0 : Int) (x1 : zM), Q x0 x1 → Q' x0 x1) : wp_M_arrives σ v1 v2 Q → wp_M_arrives σ v1 v2 Q' := by
  unfold wp_M_arrives
  exact (mo_wp_M_isTraveller (fun z1 => (And.imp (zImp (h_Q _ _)) (zImp (mo_wp_M_isPlace (fun z3 => (And.imp (zImp (mo_wp_M_ofT (fun z5 => (And.imp (zImp (mo_wp_M_spreadsFrom (fun σ8 => (mo_wp_M_firstAt (fun z9 => (h_Q _ _)))))) (zImp (mo_wp_M_ofT (fun z11 => (h_Q _ _)))))))) (zImp (h_Q _ _)))))))))
theorem mo_wp_M_canStay_L27 {σ : zM} {v1 : Int} {v2 : Int} {v3 : Int} {Q : Int → Prop} {Q' : Int → Prop} (h_Q : ∀ (x0 : Int), Q x0 → Q' x0) : ∀ (n : Nat) (v4 : Int), wp_M_canStay_L27 σ v1 v2 v3 Q n v4 → wp_M_canStay_L27 σ v1 v2 v3 Q' n v4 := by
  intro n
  induction n with
  | zero => intro v4 h; rw [wp_M_canStay_L27] at h; exact h.elim
  | succ n ih =>
    intro v4
    rw [wp_M_canStay_L27, wp_M_canStay_L27]
    exact (And.imp id (And.imp (zImp (h_Q _)) (zImp (And.imp id (mo_wp_M_isRoomOpen (fun z9 => (And.imp (zImp (h_Q _)) (zImp (mo_wp_M_ofT (fun z11 => (mo_wp_M_limitOf (fun z13 => (And.imp id (And.imp (zImp (h_Q _)) (zImp (And.imp id (ih _)))))))))))))))))
theorem mo_wp_M_canStay {σ : zM} {v1 : Int} {Q : Int → Prop} {Q' : Int → Prop} (h_Q : ∀ (x0 : Int), Q x0 → Q' x0) : wp_M_canStay σ v1 Q → wp_M_canStay σ v1 Q' := by
  unfold wp_M_canStay
  exact (mo_wp_M_isTraveller (fun z1 => (And.imp (zImp (mo_wp_M_ofT (fun z3 => (mo_wp_M_ofT (fun z5 => (Exists.imp fun n17 => (mo_wp_M_canStay_L27 h_Q _ _))))))) (zImp (h_Q _)))))
theorem mo_wp_M_put_L2 {σ : zM} {v1 : Int64} {k57 : Int → Prop} {Q : Int → zM → Prop} {k57' : Int → Prop} {Q' : Int → zM → Prop} (h_k57 : ∀ (x0 : Int), k57 x0 → k57' x0) (h_Q : ∀ (x0 : Int) (x1 : zM), Q x0 x1 → Q' x0 x1) : ∀ (n : Nat) (v3 : Int), wp_M_put_L2 σ v1 k57 Q n v3 → wp_M_put_L2 σ v1 k57' Q' n v3 := by
  intro n
  induction n with
  | zero => intro v3 h; rw [wp_M_put_L2] at h; exact h.elim
  | succ n ih =>
    intro v3
    rw [wp_M_put_L2, wp_M_put_L2]
    exact (And.imp (zImp (h_k57 _)) (zImp (And.imp (zImp (h_k57 _)) (zImp (forall_imp fun t1 => (zImp (mo_wp_M_isIn (fun z2 => (And.imp (zImp (And.imp id (ih _))) (zImp (h_Q _ _)))))))))))
theorem mo_wp_M_put_L100 {v1 : Int64} {Q : Int → zM → Prop} {Q' : Int → zM → Prop} (h_Q : ∀ (x0 : Int) (x1 : zM), Q x0 x1 → Q' x0 x1) : ∀ (n : Nat) (σ : zM) (v4 : Int), wp_M_put_L100 v1 Q n σ v4 → wp_M_put_L100 v1 Q' n σ v4 := by
  intro n
  induction n with
  | zero => intro σ v4 h; rw [wp_M_put_L100] at h; exact h.elim
  | succ n ih =>
    intro σ v4
    rw [wp_M_put_L100, wp_M_put_L100]
    exact (And.imp (zImp (h_Q _ _)) (zImp (And.imp id (forall_imp fun σ9 => (zImp (And.imp id (forall_imp fun σ11 => (zImp (And.imp id (ih _ _))))))))))
theorem mo_wp_M_put_b81 {Q : Int → zM → Prop} {σ : zM} {v1 : Int64} {v3 : Int} {Q' : Int → zM → Prop} (h_Q : ∀ (x0 : Int) (x1 : zM), Q x0 x1 → Q' x0 x1) : wp_M_put_b81 Q σ v1 v3 → wp_M_put_b81 Q' σ v1 v3 := by
  unfold wp_M_put_b81
  exact (And.imp id (And.imp (zImp (And.imp id (Exists.imp fun n13 => (mo_wp_M_put_L100 h_Q _ _ _)))) (zImp (h_Q _ _))))
theorem mo_wp_M_put_b57 {Q : Int → zM → Prop} {σ : zM} {v1 : Int64} {v3 : Int} {Q' : Int → zM → Prop} (h_Q : ∀ (x0 : Int) (x1 : zM), Q x0 x1 → Q' x0 x1) : wp_M_put_b57 Q σ v1 v3 → wp_M_put_b57 Q' σ v1 v3 := by
  unfold wp_M_put_b57
  exact (And.imp (zImp (h_Q _ _)) (zImp (And.imp (zImp (mo_wp_M_put_b81 h_Q)) (zImp (And.imp (zImp (mo_wp_M_put_b81 h_Q)) (zImp (h_Q _ _)))))))
theorem mo_wp_M_put {σ : zM} {v1 : Int64} {Q : Int → zM → Prop} {Q' : Int → zM → Prop} (h_Q : ∀ (x0 : Int) (x1 : zM), Q x0 x1 → Q' x0 x1) : wp_M_put σ v1 Q → wp_M_put σ v1 Q' := by
  unfold wp_M_put
  exact (Exists.imp fun n14 => (mo_wp_M_put_L2 (fun u5 => (mo_wp_M_put_b57 h_Q)) h_Q _ _))
theorem mo_wp_M_wipe {σ : zM} {Q : Int → zM → Prop} {Q' : Int → zM → Prop} (h_Q : ∀ (x0 : Int) (x1 : zM), Q x0 x1 → Q' x0 x1) : wp_M_wipe σ Q → wp_M_wipe σ Q' := by
  unfold wp_M_wipe
  exact (forall_imp fun σ1 => (zImp (h_Q _ _)))
theorem mo_wp_M_passes {σ : zM} {v1 : Int} {v2 : Int} {Q : Int → zM → Prop} {Q' : Int → zM → Prop} (h_Q : ∀ (x0 : Int) (x1 : zM), Q x0 x1 → Q' x0 x1) : wp_M_passes σ v1 v2 Q → wp_M_passes σ v1 v2 Q' := by
  unfold wp_M_passes
  exact (And.imp (zImp (h_Q _ _)) (zImp (And.imp id (mo_wp_M_isIn (fun z2 => (And.imp (zImp (And.imp id (And.imp id (forall_imp fun σ6 => (zImp (And.imp id (forall_imp fun σ8 => (zImp (h_Q _ _))))))))) (zImp (h_Q _ _))))))))
theorem mo_wp_M_isDigitHere {σ : zM} {Q : Int → Prop} {Q' : Int → Prop} (h_Q : ∀ (x0 : Int), Q x0 → Q' x0) : wp_M_isDigitHere σ Q → wp_M_isDigitHere σ Q' := by
  unfold wp_M_isDigitHere
  exact (And.imp (zImp (h_Q _)) (zImp (And.imp id (mo_wp_M_isIn (fun z2 => (And.imp (zImp (h_Q _)) (zImp (h_Q _))))))))
theorem mo_wp_M_passesNumber_L18 {k71 : zM → Int → Prop} {Q : Int → zM → Prop} {k71' : zM → Int → Prop} {Q' : Int → zM → Prop} (h_k71 : ∀ (x0 : zM) (x1 : Int), k71 x0 x1 → k71' x0 x1) (h_Q : ∀ (x0 : Int) (x1 : zM), Q x0 x1 → Q' x0 x1) : ∀ (n : Nat) (σ : zM) (v1 : Int), wp_M_passesNumber_L18 k71 Q n σ v1 → wp_M_passesNumber_L18 k71' Q' n σ v1 := by
  intro n
  induction n with
  | zero => intro σ v1 h; rw [wp_M_passesNumber_L18] at h; exact h.elim
  | succ n ih =>
    intro σ v1
    rw [wp_M_passesNumber_L18, wp_M_passesNumber_L18]
    exact (And.imp (zImp (h_k71 _ _)) (zImp (mo_wp_M_isDigitHere (fun z3 => (And.imp (zImp (h_k71 _ _)) (zImp (And.imp id (And.imp id (forall_imp fun t7 => (zImp (And.imp (zImp (And.imp id (forall_imp fun σ9 => (zImp (ih _ _))))) (zImp (h_Q _ _)))))))))))))
theorem mo_wp_M_passesNumber_b71 {Q : Int → zM → Prop} {σ : zM} {v1 : Int} {Q' : Int → zM → Prop} (h_Q : ∀ (x0 : Int) (x1 : zM), Q x0 x1 → Q' x0 x1) : wp_M_passesNumber_b71 Q σ v1 → wp_M_passesNumber_b71 Q' σ v1 := by
  unfold wp_M_passesNumber_b71
  exact (forall_imp fun σ12 => (zImp (h_Q _ _)))
theorem mo_wp_M_passesNumber {σ : zM} {Q : Int → zM → Prop} {Q' : Int → zM → Prop} (h_Q : ∀ (x0 : Int) (x1 : zM), Q x0 x1 → Q' x0 x1) : wp_M_passesNumber σ Q → wp_M_passesNumber σ Q' := by
  unfold wp_M_passesNumber
  exact (mo_wp_M_passes (fun z1 σ2 => (And.imp (zImp (Exists.imp fun n13 => (mo_wp_M_passesNumber_L18 (fun σ10 u11 => (mo_wp_M_passesNumber_b71 h_Q)) h_Q _ _ _))) (zImp (h_Q _ _)))))
theorem mo_wp_M_passesClock_b100 {Q : Int → zM → Prop} {σ : zM} {v1 : Int} {v2 : Int} {s1 : Int} {s2 : Int} {Q' : Int → zM → Prop} (h_Q : ∀ (x0 : Int) (x1 : zM), Q x0 x1 → Q' x0 x1) : wp_M_passesClock_b100 Q σ v1 v2 s1 s2 → wp_M_passesClock_b100 Q' σ v1 v2 s1 s2 := by
  unfold wp_M_passesClock_b100
  exact (mo_wp_M_passes (fun z10 σ11 => (And.imp (zImp (And.imp id (forall_imp fun σ13 => (zImp (h_Q _ _))))) (zImp (h_Q _ _)))))
theorem mo_wp_M_passesClock_b68 {Q : Int → zM → Prop} {σ : zM} {v1 : Int} {s1 : Int} {s2 : Int} {Q' : Int → zM → Prop} (h_Q : ∀ (x0 : Int) (x1 : zM), Q x0 x1 → Q' x0 x1) : wp_M_passesClock_b68 Q σ v1 s1 s2 → wp_M_passesClock_b68 Q' σ v1 s1 s2 := by
  unfold wp_M_passesClock_b68
  exact (mo_wp_M_passes (fun z7 σ8 => (And.imp (zImp (And.imp id (And.imp (zImp (mo_wp_M_passesClock_b100 h_Q)) (zImp (mo_wp_M_passesClock_b100 h_Q))))) (zImp (h_Q _ _)))))
theorem mo_wp_M_passesClock_b37 {Q : Int → zM → Prop} {σ : zM} {v1 : Int} {s1 : Int} {s2 : Int} {Q' : Int → zM → Prop} (h_Q : ∀ (x0 : Int) (x1 : zM), Q x0 x1 → Q' x0 x1) : wp_M_passesClock_b37 Q σ v1 s1 s2 → wp_M_passesClock_b37 Q' σ v1 s1 s2 := by
  unfold wp_M_passesClock_b37
  exact (mo_wp_M_passes (fun z4 σ5 => (And.imp (zImp (And.imp id (And.imp (zImp (mo_wp_M_passesClock_b68 h_Q)) (zImp (mo_wp_M_passesClock_b68 h_Q))))) (zImp (h_Q _ _)))))
theorem mo_wp_M_passesClock {σ : zM} {Q : Int → zM → Prop} {Q' : Int → zM → Prop} (h_Q : ∀ (x0 : Int) (x1 : zM), Q x0 x1 → Q' x0 x1) : wp_M_passesClock σ Q → wp_M_passesClock σ Q' := by
  unfold wp_M_passesClock
  exact (mo_wp_M_passes (fun z1 σ2 => (And.imp (zImp (And.imp id (And.imp (zImp (mo_wp_M_passesClock_b37 h_Q)) (zImp (mo_wp_M_passesClock_b37 h_Q))))) (zImp (h_Q _ _)))))
theorem mo_wp_M_passesHours {σ : zM} {Q : Int → zM → Prop} {Q' : Int → zM → Prop} (h_Q : ∀ (x0 : Int) (x1 : zM), Q x0 x1 → Q' x0 x1) : wp_M_passesHours σ Q → wp_M_passesHours σ Q' := by
  unfold wp_M_passesHours
  exact (mo_wp_M_passesClock (fun z1 σ2 => (And.imp (zImp (And.imp id (forall_imp fun σ4 => (zImp (mo_wp_M_passes (fun z5 σ6 => (And.imp (zImp (h_Q _ _)) (zImp (mo_wp_M_passesClock (fun z7 σ8 => (And.imp (zImp (And.imp id (forall_imp fun σ10 => (zImp (And.imp id (forall_imp fun σ12 => (zImp (h_Q _ _)))))))) (zImp (h_Q _ _))))))))))))) (zImp (h_Q _ _)))))
theorem mo_wp_M_passesSpans_L47 {k75 : zM → Prop} {Q : Int → zM → Prop} {k75' : zM → Prop} {Q' : Int → zM → Prop} (h_k75 : ∀ (x0 : zM), k75 x0 → k75' x0) (h_Q : ∀ (x0 : Int) (x1 : zM), Q x0 x1 → Q' x0 x1) : ∀ (n : Nat) (σ : zM), wp_M_passesSpans_L47 k75 Q n σ → wp_M_passesSpans_L47 k75' Q' n σ := by
  intro n
  induction n with
  | zero => intro σ h; rw [wp_M_passesSpans_L47] at h; exact h.elim
  | succ n ih =>
    intro σ
    rw [wp_M_passesSpans_L47, wp_M_passesSpans_L47]
    exact (And.imp (zImp (h_k75 _)) (zImp (mo_wp_M_passes (fun z10 σ11 => (And.imp (zImp (h_k75 _)) (zImp (mo_wp_M_passesHours (fun z12 σ13 => (And.imp (zImp (ih _)) (zImp (h_Q _ _)))))))))))
theorem mo_wp_M_passesSpans_b75 {Q : Int → zM → Prop} {σ : zM} {Q' : Int → zM → Prop} (h_Q : ∀ (x0 : Int) (x1 : zM), Q x0 x1 → Q' x0 x1) : wp_M_passesSpans_b75 Q σ → wp_M_passesSpans_b75 Q' σ := by
  unfold wp_M_passesSpans_b75
  exact (mo_wp_M_passes (fun z15 σ16 => (And.imp (zImp (forall_imp fun σ17 => (zImp (h_Q _ _)))) (zImp (forall_imp fun σ18 => (zImp (h_Q _ _)))))))
theorem mo_wp_M_passesSpans {σ : zM} {Q : Int → zM → Prop} {Q' : Int → zM → Prop} (h_Q : ∀ (x0 : Int) (x1 : zM), Q x0 x1 → Q' x0 x1) : wp_M_passesSpans σ Q → wp_M_passesSpans σ Q' := by
  unfold wp_M_passesSpans
  exact (forall_imp fun σ1 => (zImp (forall_imp fun σ2 => (zImp (mo_wp_M_passesNumber (fun z3 σ4 => (And.imp (zImp (forall_imp fun σ5 => (zImp (mo_wp_M_passes (fun z6 σ7 => (And.imp (zImp (h_Q _ _)) (zImp (mo_wp_M_passesHours (fun z8 σ9 => (And.imp (zImp (Exists.imp fun n19 => (mo_wp_M_passesSpans_L47 (fun σ14 => (mo_wp_M_passesSpans_b75 h_Q)) h_Q _ _))) (zImp (h_Q _ _)))))))))))) (zImp (h_Q _ _)))))))))
theorem mo_wp_M_passesClosing {σ : zM} {Q : Int → zM → Prop} {Q' : Int → zM → Prop} (h_Q : ∀ (x0 : Int) (x1 : zM), Q x0 x1 → Q' x0 x1) : wp_M_passesClosing σ Q → wp_M_passesClosing σ Q' := by
  unfold wp_M_passesClosing
  exact (mo_wp_M_passesNumber (fun z1 σ2 => (And.imp (zImp (forall_imp fun σ3 => (zImp (mo_wp_M_passes (fun z4 σ5 => (And.imp (zImp (h_Q _ _)) (zImp (mo_wp_M_passesNumber (fun z6 σ7 => (And.imp (zImp (forall_imp fun σ8 => (zImp (mo_wp_M_passes (fun z9 σ10 => (And.imp (zImp (h_Q _ _)) (zImp (mo_wp_M_passesNumber (fun z11 σ12 => (And.imp (zImp (forall_imp fun σ13 => (zImp (h_Q _ _)))) (zImp (h_Q _ _)))))))))))) (zImp (h_Q _ _)))))))))))) (zImp (h_Q _ _)))))
theorem mo_wp_M_passesTravel {σ : zM} {v1 : Int} {Q : Int → zM → Prop} {Q' : Int → zM → Prop} (h_Q : ∀ (x0 : Int) (x1 : zM), Q x0 x1 → Q' x0 x1) : wp_M_passesTravel σ v1 Q → wp_M_passesTravel σ v1 Q' := by
  unfold wp_M_passesTravel
  exact (mo_wp_M_passes (fun z1 σ2 => (And.imp (zImp (forall_imp fun σ3 => (zImp (mo_wp_M_passes (fun z4 σ5 => (And.imp (zImp (h_Q _ _)) (zImp (mo_wp_M_passesNumber (fun z6 σ7 => (And.imp (zImp (forall_imp fun σ8 => (zImp (h_Q _ _)))) (zImp (h_Q _ _)))))))))))) (zImp (h_Q _ _)))))
theorem mo_wp_M_passesOrder_b64 {Q : Int → zM → Prop} {σ : zM} {Q' : Int → zM → Prop} (h_Q : ∀ (x0 : Int) (x1 : zM), Q x0 x1 → Q' x0 x1) : wp_M_passesOrder_b64 Q σ → wp_M_passesOrder_b64 Q' σ := by
  unfold wp_M_passesOrder_b64
  exact (And.imp id (forall_imp fun σ4 => (zImp (And.imp (zImp (And.imp (zImp (And.imp (zImp (mo_wp_M_passesTravel (fun z5 σ6 => (And.imp id (h_Q _ _))))) (zImp (mo_wp_M_passesTravel (fun z8 σ9 => (And.imp id (h_Q _ _))))))) (zImp (mo_wp_M_passesClosing (fun z11 σ12 => (And.imp id (h_Q _ _))))))) (zImp (mo_wp_M_passesSpans (fun z14 σ15 => (And.imp id (h_Q _ _)))))))))
theorem mo_wp_M_passesOrder {σ : zM} {Q : Int → zM → Prop} {Q' : Int → zM → Prop} (h_Q : ∀ (x0 : Int) (x1 : zM), Q x0 x1 → Q' x0 x1) : wp_M_passesOrder σ Q → wp_M_passesOrder σ Q' := by
  unfold wp_M_passesOrder
  exact (And.imp (zImp (And.imp id (forall_imp fun σ2 => (zImp (And.imp (zImp (mo_wp_M_passesOrder_b64 h_Q)) (zImp (And.imp (zImp (mo_wp_M_passesOrder_b64 h_Q)) (zImp (And.imp (zImp (mo_wp_M_passesOrder_b64 h_Q)) (zImp (And.imp (zImp (mo_wp_M_passesOrder_b64 h_Q)) (zImp (h_Q _ _))))))))))))) (zImp (h_Q _ _)))
theorem mo_wp_M_fault_L17 {Q : Int → zM → Prop} {Q' : Int → zM → Prop} (h_Q : ∀ (x0 : Int) (x1 : zM), Q x0 x1 → Q' x0 x1) : ∀ (n : Nat) (σ : zM), wp_M_fault_L17 Q n σ → wp_M_fault_L17 Q' n σ := by
  intro n
  induction n with
  | zero => intro σ h; rw [wp_M_fault_L17] at h; exact h.elim
  | succ n ih =>
    intro σ
    rw [wp_M_fault_L17, wp_M_fault_L17]
    exact (And.imp (zImp (h_Q _ _)) (zImp (mo_wp_M_passes (fun z4 σ5 => (And.imp (zImp (h_Q _ _)) (zImp (mo_wp_M_passesOrder (fun z6 σ7 => (And.imp (zImp (ih _)) (zImp (h_Q _ _)))))))))))
theorem mo_wp_M_fault {σ : zM} {Q : Int → zM → Prop} {Q' : Int → zM → Prop} (h_Q : ∀ (x0 : Int) (x1 : zM), Q x0 x1 → Q' x0 x1) : wp_M_fault σ Q → wp_M_fault σ Q' := by
  unfold wp_M_fault
  exact (forall_imp fun σ1 => (zImp (mo_wp_M_passesOrder (fun z2 σ3 => (And.imp (zImp (Exists.imp fun n8 => (mo_wp_M_fault_L17 h_Q _ _))) (zImp (h_Q _ _)))))))
theorem mo_wp_M_doesSpans_b99 {σ : zM} {v1 : Int} {k49 : Int → Prop} {Q : Int → zM → Prop} {v2 : Int} {k49' : Int → Prop} {Q' : Int → zM → Prop} (h_k49 : ∀ (x0 : Int), k49 x0 → k49' x0) (h_Q : ∀ (x0 : Int) (x1 : zM), Q x0 x1 → Q' x0 x1) : wp_M_doesSpans_b99 σ v1 k49 Q v2 → wp_M_doesSpans_b99 σ v1 k49' Q' v2 := by
  unfold wp_M_doesSpans_b99
  exact (And.imp id (h_k49 _))
theorem mo_wp_M_doesSpans_L49 {σ : zM} {v1 : Int} {k105 : Prop} {Q : Int → zM → Prop} {k105' : Prop} {Q' : Int → zM → Prop} (h_k105 : k105 → k105') (h_Q : ∀ (x0 : Int) (x1 : zM), Q x0 x1 → Q' x0 x1) : ∀ (n : Nat) (v2 : Int), wp_M_doesSpans_L49 σ v1 k105 Q n v2 → wp_M_doesSpans_L49 σ v1 k105' Q' n v2 := by
  intro n
  induction n with
  | zero => intro v2 h; rw [wp_M_doesSpans_L49] at h; exact h.elim
  | succ n ih =>
    intro v2
    rw [wp_M_doesSpans_L49, wp_M_doesSpans_L49]
    exact (And.imp (zImp h_k105) (zImp (And.imp id (And.imp id (And.imp (zImp (mo_wp_M_doesSpans_b99 (fun x0 => ih x0) h_Q)) (zImp (And.imp id (And.imp id (And.imp (zImp (mo_wp_M_doesSpans_b99 (fun x0 => ih x0) h_Q)) (zImp (h_Q _ _)))))))))))
theorem mo_wp_M_doesSpans_L15 {σ : zM} {k111 : Prop} {Q : Int → zM → Prop} {k111' : Prop} {Q' : Int → zM → Prop} (h_k111 : k111 → k111') (h_Q : ∀ (x0 : Int) (x1 : zM), Q x0 x1 → Q' x0 x1) : ∀ (n : Nat) (v1 : Int), wp_M_doesSpans_L15 σ k111 Q n v1 → wp_M_doesSpans_L15 σ k111' Q' n v1 := by
  intro n
  induction n with
  | zero => intro v1 h; rw [wp_M_doesSpans_L15] at h; exact h.elim
  | succ n ih =>
    intro v1
    rw [wp_M_doesSpans_L15, wp_M_doesSpans_L15]
    exact (And.imp (zImp h_k111) (zImp (And.imp id (And.imp id (And.imp (zImp (Exists.imp fun n11 => (mo_wp_M_doesSpans_L49 (And.imp id (ih _)) h_Q _ _))) (zImp (h_Q _ _)))))))
theorem mo_wp_M_doesSpans_L152 {Q : Int → zM → Prop} {Q' : Int → zM → Prop} (h_Q : ∀ (x0 : Int) (x1 : zM), Q x0 x1 → Q' x0 x1) : ∀ (n : Nat) (σ : zM) (v1 : Int), wp_M_doesSpans_L152 Q n σ v1 → wp_M_doesSpans_L152 Q' n σ v1 := by
  intro n
  induction n with
  | zero => intro σ v1 h; rw [wp_M_doesSpans_L152] at h; exact h.elim
  | succ n ih =>
    intro σ v1
    rw [wp_M_doesSpans_L152, wp_M_doesSpans_L152]
    exact (And.imp (zImp (h_Q _ _)) (zImp (And.imp id (And.imp id (mo_wp_M_adds (fun σ19 => (And.imp id (ih _ _))))))))
theorem mo_wp_M_doesSpans {σ : zM} {Q : Int → zM → Prop} {Q' : Int → zM → Prop} (h_Q : ∀ (x0 : Int) (x1 : zM), Q x0 x1 → Q' x0 x1) : wp_M_doesSpans σ Q → wp_M_doesSpans σ Q' := by
  unfold wp_M_doesSpans
  exact (mo_wp_M_isRoad (fun z1 => (And.imp (zImp (Exists.imp fun n22 => (mo_wp_M_doesSpans_L15 (And.imp id (forall_imp fun σ13 => (zImp (And.imp id (forall_imp fun σ15 => (zImp (Exists.imp fun n21 => (mo_wp_M_doesSpans_L152 h_Q _ _ _)))))))) h_Q _ _))) (zImp (h_Q _ _)))))
theorem mo_wp_M_does {σ : zM} {Q : Int → zM → Prop} {Q' : Int → zM → Prop} (h_Q : ∀ (x0 : Int) (x1 : zM), Q x0 x1 → Q' x0 x1) : wp_M_does σ Q → wp_M_does σ Q' := by
  unfold wp_M_does
  exact (And.imp (zImp (And.imp (zImp (And.imp (zImp (mo_wp_M_checksStaying (fun z1 σ2 => (And.imp (zImp (mo_wp_M_stays (fun z3 σ4 => (h_Q _ _)))) (zImp (h_Q _ _)))))) (zImp (mo_wp_M_checksGoing (fun z5 σ6 => (And.imp (zImp (mo_wp_M_goes (fun z7 σ8 => (h_Q _ _)))) (zImp (h_Q _ _)))))))) (zImp (mo_wp_M_checksClosing (fun z9 => (And.imp (zImp (mo_wp_M_closes (fun z11 σ12 => (h_Q _ _)))) (zImp (h_Q _ _)))))))) (zImp (mo_wp_M_doesSpans (fun z13 σ14 => (h_Q _ _)))))
theorem mo_wp_M_carryOut_b81 {k25 : zM → Int → Int → Prop} {Q : Int → zM → Prop} {σ : zM} {v1 : Int} {s0 : Int} {k25' : zM → Int → Int → Prop} {Q' : Int → zM → Prop} (h_k25 : ∀ (x0 : zM) (x1 : Int) (x2 : Int), k25 x0 x1 x2 → k25' x0 x1 x2) (h_Q : ∀ (x0 : Int) (x1 : zM), Q x0 x1 → Q' x0 x1) : wp_M_carryOut_b81 k25 Q σ v1 s0 → wp_M_carryOut_b81 k25' Q' σ v1 s0 := by
  unfold wp_M_carryOut_b81
  exact (And.imp id (forall_imp fun σ11 => (zImp (h_k25 _ _ _))))
theorem mo_wp_M_carryOut_b80 {k25 : zM → Int → Int → Prop} {Q : Int → zM → Prop} {σ : zM} {v1 : Int} {k25' : zM → Int → Int → Prop} {Q' : Int → zM → Prop} (h_k25 : ∀ (x0 : zM) (x1 : Int) (x2 : Int), k25 x0 x1 x2 → k25' x0 x1 x2) (h_Q : ∀ (x0 : Int) (x1 : zM), Q x0 x1 → Q' x0 x1) : wp_M_carryOut_b80 k25 Q σ v1 → wp_M_carryOut_b80 k25' Q' σ v1 := by
  unfold wp_M_carryOut_b80
  exact (mo_wp_M_carryOut_b81 h_k25 h_Q)
theorem mo_wp_M_carryOut_b59 {k25 : zM → Int → Int → Prop} {Q : Int → zM → Prop} {σ : zM} {v2 : Int} {s0 : Int} {s1 : Int} {k25' : zM → Int → Int → Prop} {Q' : Int → zM → Prop} (h_k25 : ∀ (x0 : zM) (x1 : Int) (x2 : Int), k25 x0 x1 x2 → k25' x0 x1 x2) (h_Q : ∀ (x0 : Int) (x1 : zM), Q x0 x1 → Q' x0 x1) : wp_M_carryOut_b59 k25 Q σ v2 s0 s1 → wp_M_carryOut_b59 k25' Q' σ v2 s0 s1 := by
  unfold wp_M_carryOut_b59
  exact (And.imp id (And.imp (zImp (mo_wp_M_carryOut_b80 h_k25 h_Q)) (zImp (And.imp (zImp (mo_wp_M_carryOut_b80 h_k25 h_Q)) (zImp (mo_wp_M_carryOut_b81 h_k25 h_Q))))))
theorem mo_wp_M_carryOut_b48 {k25 : zM → Int → Int → Prop} {Q : Int → zM → Prop} {σ : zM} {v1 : Int} {s0 : Int} {k25' : zM → Int → Int → Prop} {Q' : Int → zM → Prop} (h_k25 : ∀ (x0 : zM) (x1 : Int) (x2 : Int), k25 x0 x1 x2 → k25' x0 x1 x2) (h_Q : ∀ (x0 : Int) (x1 : zM), Q x0 x1 → Q' x0 x1) : wp_M_carryOut_b48 k25 Q σ v1 s0 → wp_M_carryOut_b48 k25' Q' σ v1 s0 := by
  unfold wp_M_carryOut_b48
  exact (And.imp (zImp (mo_wp_M_carryOut_b59 h_k25 h_Q)) (zImp (mo_wp_M_carryOut_b59 h_k25 h_Q)))
theorem mo_wp_M_carryOut_b47 {k25 : zM → Int → Int → Prop} {Q : Int → zM → Prop} {σ : zM} {v1 : Int} {k25' : zM → Int → Int → Prop} {Q' : Int → zM → Prop} (h_k25 : ∀ (x0 : zM) (x1 : Int) (x2 : Int), k25 x0 x1 x2 → k25' x0 x1 x2) (h_Q : ∀ (x0 : Int) (x1 : zM), Q x0 x1 → Q' x0 x1) : wp_M_carryOut_b47 k25 Q σ v1 → wp_M_carryOut_b47 k25' Q' σ v1 := by
  unfold wp_M_carryOut_b47
  exact (mo_wp_M_carryOut_b48 h_k25 h_Q)
theorem mo_wp_M_carryOut_L25 {Q : Int → zM → Prop} {Q' : Int → zM → Prop} (h_Q : ∀ (x0 : Int) (x1 : zM), Q x0 x1 → Q' x0 x1) : ∀ (n : Nat) (σ : zM) (v1 : Int) (v2 : Int), wp_M_carryOut_L25 Q n σ v1 v2 → wp_M_carryOut_L25 Q' n σ v1 v2 := by
  intro n
  induction n with
  | zero => intro σ v1 v2 h; rw [wp_M_carryOut_L25] at h; exact h.elim
  | succ n ih =>
    intro σ v1 v2
    rw [wp_M_carryOut_L25, wp_M_carryOut_L25]
    exact (And.imp (zImp (forall_imp fun σ6 => (zImp (h_Q _ _)))) (zImp (mo_wp_M_passesOrder (fun z7 σ8 => (And.imp (zImp (mo_wp_M_carryOut_b47 (fun x0 x1 x2 => ih x0 x1 x2) h_Q)) (zImp (mo_wp_M_does (fun z12 σ13 => (And.imp (zImp (mo_wp_M_carryOut_b47 (fun x0 x1 x2 => ih x0 x1 x2) h_Q)) (zImp (mo_wp_M_carryOut_b48 (fun x0 x1 x2 => ih x0 x1 x2) h_Q)))))))))))
theorem mo_wp_M_carryOut {σ : zM} {Q : Int → zM → Prop} {Q' : Int → zM → Prop} (h_Q : ∀ (x0 : Int) (x1 : zM), Q x0 x1 → Q' x0 x1) : wp_M_carryOut σ Q → wp_M_carryOut σ Q' := by
  unfold wp_M_carryOut
  exact (mo_wp_M_fault (fun z1 σ2 => (And.imp (zImp (mo_wp_M_records (fun σ4 => (forall_imp fun σ5 => (zImp (Exists.imp fun n14 => (mo_wp_M_carryOut_L25 h_Q _ _ _ _))))))) (zImp (h_Q _ _)))))
