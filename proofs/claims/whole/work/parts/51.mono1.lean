/-! the weakest preconditions grow with what is asked behind them -/
theorem zImp {A F G : Prop} (h : F → G) : (A → F) → (A → G) := fun f a => h (f a)
theorem mo_wp_X_within {σ : zM} {v0 : Int} {v1 : Int} {v2 : Int} {Q : Int → Prop} {Q' : Int → Prop} (h_Q : ∀ (x0 : Int), Q x0 → Q' x0) : wp_X_within σ v0 v1 v2 Q → wp_X_within σ v0 v1 v2 Q' := by
  unfold wp_X_within
  exact (And.imp (zImp (h_Q _)) (zImp (And.imp (zImp (h_Q _)) (zImp (h_Q _)))))
theorem mo_wp_X_isPlace {σ : zM} {v0 : Int} {Q : Int → Prop} {Q' : Int → Prop} (h_Q : ∀ (x0 : Int), Q x0 → Q' x0) : wp_X_isPlace σ v0 Q → wp_X_isPlace σ v0 Q' := by
  unfold wp_X_isPlace
  exact (mo_wp_X_within (fun z1 => (And.imp id (h_Q _))))
theorem mo_wp_S_copyFrom {σ : zM} {a : Nat} {b : Nat} {Q : zM → Prop} {Q' : zM → Prop} (h_Q : ∀ (x0 : zM), Q x0 → Q' x0) : wp_S_copyFrom σ a b Q → wp_S_copyFrom σ a b Q' := by
  unfold wp_S_copyFrom
  exact (And.imp id (forall_imp fun σ2 => (zImp (And.imp id (forall_imp fun σ4 => (zImp (And.imp id (forall_imp fun σ6 => (zImp (And.imp id (forall_imp fun σ8 => (zImp (And.imp id (forall_imp fun σ10 => (zImp (forall_imp fun σ11 => (zImp (forall_imp fun σ12 => (zImp (forall_imp fun σ13 => (zImp (h_Q _))))))))))))))))))))))
theorem mo_wp_X_remember_b72 {Q : zM → Prop} {σ : zM} {Q' : zM → Prop} (h_Q : ∀ (x0 : zM), Q x0 → Q' x0) : wp_X_remember_b72 Q σ → wp_X_remember_b72 Q' σ := by
  unfold wp_X_remember_b72
  exact (And.imp id (And.imp id (mo_wp_S_copyFrom (fun σ5 => (And.imp id (forall_imp fun σ7 => (zImp (h_Q _))))))))
theorem mo_wp_X_remember_L34 {w1 : Nat} {Q : zM → Prop} {Q' : zM → Prop} (h_Q : ∀ (x0 : zM), Q x0 → Q' x0) : ∀ (n : Nat) (σ : zM) (v2 : Int), wp_X_remember_L34 w1 Q n σ v2 → wp_X_remember_L34 w1 Q' n σ v2 := by
  intro n
  induction n with
  | zero => intro σ v2 h; rw [wp_X_remember_L34] at h; exact h.elim
  | succ n ih =>
    intro σ v2
    rw [wp_X_remember_L34, wp_X_remember_L34]
    exact (And.imp (zImp (forall_imp fun σ9 => (zImp (forall_imp fun σ10 => (zImp (mo_wp_X_remember_b72 h_Q)))))) (zImp (And.imp id (And.imp id (And.imp id (forall_imp fun σ14 => (zImp (And.imp id (ih _ _)))))))))
theorem mo_wp_X_remember {σ : zM} {Q : zM → Prop} {Q' : zM → Prop} (h_Q : ∀ (x0 : zM), Q x0 → Q' x0) : wp_X_remember σ Q → wp_X_remember σ Q' := by
  unfold wp_X_remember
  exact (forall_imp fun σ1 => (zImp (And.imp (zImp (And.imp (zImp (mo_wp_X_remember_b72 h_Q)) (zImp (And.imp id (Exists.imp fun n16 => (mo_wp_X_remember_L34 h_Q _ _ _)))))) (zImp (h_Q _)))))
theorem mo_wp_X_room {σ : zM} {v1 : Int} {v2 : Int} {v3 : Int} {v4 : Int} {Q : Int → zM → Prop} {Q' : Int → zM → Prop} (h_Q : ∀ (x0 : Int) (x1 : zM), Q x0 x1 → Q' x0 x1) : wp_X_room σ v1 v2 v3 v4 Q → wp_X_room σ v1 v2 v3 v4 Q' := by
  unfold wp_X_room
  exact (mo_wp_X_isPlace (fun z1 => (And.imp (zImp (mo_wp_X_within (fun z3 => (And.imp (zImp (h_Q _ _)) (zImp (mo_wp_X_within (fun z5 => (And.imp (zImp (h_Q _ _)) (zImp (mo_wp_X_within (fun z7 => (And.imp (zImp (mo_wp_X_remember (fun σ10 => (And.imp id (And.imp id (And.imp id (forall_imp fun σ14 => (zImp (And.imp id (forall_imp fun σ16 => (zImp (And.imp id (forall_imp fun σ18 => (zImp (h_Q _ _))))))))))))))) (zImp (h_Q _ _)))))))))))))) (zImp (h_Q _ _)))))
theorem mo_wp_S_dropSpans {σ : zM} {v1 : Int} {v2 : Int} {Q : zM → Prop} {Q' : zM → Prop} (h_Q : ∀ (x0 : zM), Q x0 → Q' x0) : wp_S_dropSpans σ v1 v2 Q → wp_S_dropSpans σ v1 v2 Q' := by
  unfold wp_S_dropSpans
  exact (And.imp id (And.imp id (forall_imp fun σ3 => (zImp (And.imp id (forall_imp fun σ5 => (zImp (And.imp id (And.imp id (And.imp id (forall_imp fun σ9 => (zImp (h_Q _)))))))))))))
theorem mo_wp_S_ofRoads {σ : zM} {v1 : Int} {v2 : Int} {Q : Int → Prop} {Q' : Int → Prop} (h_Q : ∀ (x0 : Int), Q x0 → Q' x0) : wp_S_ofRoads σ v1 v2 Q → wp_S_ofRoads σ v1 v2 Q' := by
  unfold wp_S_ofRoads
  exact (And.imp id (h_Q _))
theorem mo_wp_S_spanFrom {σ : zM} {v1 : Int} {v2 : Int} {Q : Int → Prop} {Q' : Int → Prop} (h_Q : ∀ (x0 : Int), Q x0 → Q' x0) : wp_S_spanFrom σ v1 v2 Q → wp_S_spanFrom σ v1 v2 Q' := by
  unfold wp_S_spanFrom
  exact (And.imp id (h_Q _))
theorem mo_wp_S_spanTo {σ : zM} {v1 : Int} {v2 : Int} {Q : Int → Prop} {Q' : Int → Prop} (h_Q : ∀ (x0 : Int), Q x0 → Q' x0) : wp_S_spanTo σ v1 v2 Q → wp_S_spanTo σ v1 v2 Q' := by
  unfold wp_S_spanTo
  exact (And.imp id (h_Q _))
theorem mo_wp_S_addSpan_L27 {v1 : Int} {v2 : Int} {v3 : Int} {v4 : Int} {v5 : Int} {k95 : zM → Int → Prop} {Q : zM → Prop} {k95' : zM → Int → Prop} {Q' : zM → Prop} (h_k95 : ∀ (x0 : zM) (x1 : Int), k95 x0 x1 → k95' x0 x1) (h_Q : ∀ (x0 : zM), Q x0 → Q' x0) : ∀ (n : Nat) (σ : zM) (v6 : Int), wp_S_addSpan_L27 v1 v2 v3 v4 v5 k95 Q n σ v6 → wp_S_addSpan_L27 v1 v2 v3 v4 v5 k95' Q' n σ v6 := by
  intro n
  induction n with
  | zero => intro σ v6 h; rw [wp_S_addSpan_L27] at h; exact h.elim
  | succ n ih =>
    intro σ v6
    rw [wp_S_addSpan_L27, wp_S_addSpan_L27]
    exact (And.imp (zImp (h_k95 _ _)) (zImp (And.imp id (mo_wp_S_spanFrom (fun z5 => (And.imp (zImp (h_k95 _ _)) (zImp (And.imp id (mo_wp_S_spanFrom (fun z8 => (And.imp id (forall_imp fun σ11 => (zImp (And.imp id (mo_wp_S_spanTo (fun z13 => (And.imp id (forall_imp fun σ16 => (zImp (And.imp id (ih _ _)))))))))))))))))))))
theorem mo_wp_S_addSpan_b95 {Q : zM → Prop} {σ : zM} {v1 : Int} {v2 : Int} {v3 : Int} {v4 : Int} {v5 : Int} {v6 : Int} {Q' : zM → Prop} (h_Q : ∀ (x0 : zM), Q x0 → Q' x0) : wp_S_addSpan_b95 Q σ v1 v2 v3 v4 v5 v6 → wp_S_addSpan_b95 Q' σ v1 v2 v3 v4 v5 v6 := by
  unfold wp_S_addSpan_b95
  exact (And.imp id (forall_imp fun σ21 => (zImp (And.imp id (forall_imp fun σ23 => (zImp (And.imp id (And.imp id (forall_imp fun σ26 => (zImp (h_Q _)))))))))))
theorem mo_wp_S_addSpan {σ : zM} {v1 : Int} {v2 : Int} {v3 : Int} {Q : zM → Prop} {Q' : zM → Prop} (h_Q : ∀ (x0 : zM), Q x0 → Q' x0) : wp_S_addSpan σ v1 v2 v3 Q → wp_S_addSpan σ v1 v2 v3 Q' := by
  unfold wp_S_addSpan
  exact (mo_wp_S_ofRoads (fun z1 => (And.imp (zImp (And.imp id (Exists.imp fun n27 => (mo_wp_S_addSpan_L27 (fun σ18 u19 => (mo_wp_S_addSpan_b95 h_Q)) h_Q _ _ _)))) (zImp (h_Q _)))))
theorem mo_wp_S_addRoad {σ : zM} {v1 : Int} {v2 : Int} {v3 : Int} {Q : Int → zM → Prop} {Q' : Int → zM → Prop} (h_Q : ∀ (x0 : Int) (x1 : zM), Q x0 x1 → Q' x0 x1) : wp_S_addRoad σ v1 v2 v3 Q → wp_S_addRoad σ v1 v2 v3 Q' := by
  unfold wp_S_addRoad
  exact (And.imp id (And.imp id (forall_imp fun σ3 => (zImp (And.imp id (forall_imp fun σ5 => (zImp (And.imp id (forall_imp fun σ7 => (zImp (And.imp id (forall_imp fun σ9 => (zImp (And.imp id (forall_imp fun σ11 => (zImp (mo_wp_S_dropSpans (fun σ13 => (mo_wp_S_addSpan (fun σ15 => (h_Q _ _)))))))))))))))))))))
theorem mo_wp_X_road {σ : zM} {v1 : Int} {v2 : Int} {v3 : Int} {Q : Int → zM → Prop} {Q' : Int → zM → Prop} (h_Q : ∀ (x0 : Int) (x1 : zM), Q x0 x1 → Q' x0 x1) : wp_X_road σ v1 v2 v3 Q → wp_X_road σ v1 v2 v3 Q' := by
  unfold wp_X_road
  exact (mo_wp_X_isPlace (fun z1 => (And.imp (zImp (h_Q _ _)) (zImp (mo_wp_X_isPlace (fun z3 => (And.imp (zImp (h_Q _ _)) (zImp (And.imp (zImp (mo_wp_X_within (fun z5 => (And.imp (zImp (And.imp (zImp (mo_wp_X_remember (fun σ8 => (mo_wp_S_addRoad (fun z9 σ10 => (h_Q _ _)))))) (zImp (h_Q _ _)))) (zImp (h_Q _ _)))))) (zImp (h_Q _ _)))))))))))
theorem mo_wp_S_hasRoad {σ : zM} {v1 : Int} {Q : Int → Prop} {Q' : Int → Prop} (h_Q : ∀ (x0 : Int), Q x0 → Q' x0) : wp_S_hasRoad σ v1 Q → wp_S_hasRoad σ v1 Q' := by
  unfold wp_S_hasRoad
  exact (And.imp (zImp (h_Q _)) (zImp (And.imp (zImp (h_Q _)) (zImp (h_Q _)))))
theorem mo_wp_X_isSpan {σ : zM} {v0 : Int} {v1 : Int} {v2 : Int} {Q : Int → Prop} {Q' : Int → Prop} (h_Q : ∀ (x0 : Int), Q x0 → Q' x0) : wp_X_isSpan σ v0 v1 v2 Q → wp_X_isSpan σ v0 v1 v2 Q' := by
  unfold wp_X_isSpan
  exact (And.imp id (mo_wp_X_within (fun z2 => (And.imp (zImp (h_Q _)) (zImp (And.imp id (mo_wp_X_within (fun z5 => (And.imp (zImp (h_Q _)) (zImp (h_Q _)))))))))))
theorem mo_wp_X_open {σ : zM} {v1 : Int} {v2 : Int} {v3 : Int} {v4 : Int} {Q : Int → zM → Prop} {Q' : Int → zM → Prop} (h_Q : ∀ (x0 : Int) (x1 : zM), Q x0 x1 → Q' x0 x1) : wp_X_open σ v1 v2 v3 v4 Q → wp_X_open σ v1 v2 v3 v4 Q' := by
  unfold wp_X_open
  exact (mo_wp_S_hasRoad (fun z1 => (And.imp (zImp (mo_wp_X_isSpan (fun z3 => (And.imp (zImp (h_Q _ _)) (zImp (mo_wp_X_within (fun z5 => (And.imp (zImp (mo_wp_X_remember (fun σ8 => (mo_wp_S_ofRoads (fun z9 => (mo_wp_S_dropSpans (fun σ12 => (mo_wp_S_addSpan (fun σ14 => (h_Q _ _)))))))))) (zImp (h_Q _ _)))))))))) (zImp (h_Q _ _)))))
theorem mo_wp_S_meetsSpan_b42 {σ : zM} {v1 : Int} {v2 : Int} {v3 : Int} {v4 : Int} {k11 : Int → Prop} {Q : Int → Prop} {v5 : Int} {k11' : Int → Prop} {Q' : Int → Prop} (h_k11 : ∀ (x0 : Int), k11 x0 → k11' x0) (h_Q : ∀ (x0 : Int), Q x0 → Q' x0) : wp_S_meetsSpan_b42 σ v1 v2 v3 v4 k11 Q v5 → wp_S_meetsSpan_b42 σ v1 v2 v3 v4 k11' Q' v5 := by
  unfold wp_S_meetsSpan_b42
  exact (And.imp id (h_k11 _))
theorem mo_wp_S_meetsSpan_L11 {σ : zM} {v1 : Int} {v2 : Int} {v3 : Int} {v4 : Int} {Q : Int → Prop} {Q' : Int → Prop} (h_Q : ∀ (x0 : Int), Q x0 → Q' x0) : ∀ (n : Nat) (v5 : Int), wp_S_meetsSpan_L11 σ v1 v2 v3 v4 Q n v5 → wp_S_meetsSpan_L11 σ v1 v2 v3 v4 Q' n v5 := by
  intro n
  induction n with
  | zero => intro v5 h; rw [wp_S_meetsSpan_L11] at h; exact h.elim
  | succ n ih =>
    intro v5
    rw [wp_S_meetsSpan_L11, wp_S_meetsSpan_L11]
    exact (And.imp (zImp (h_Q _)) (zImp (mo_wp_S_spanTo (fun z3 => (And.imp (zImp (mo_wp_S_meetsSpan_b42 (fun x0 => ih x0) h_Q)) (zImp (mo_wp_S_spanFrom (fun z6 => (And.imp (zImp (mo_wp_S_meetsSpan_b42 (fun x0 => ih x0) h_Q)) (zImp (h_Q _)))))))))))
theorem mo_wp_S_meetsSpan {σ : zM} {v1 : Int} {v2 : Int} {v3 : Int} {Q : Int → Prop} {Q' : Int → Prop} (h_Q : ∀ (x0 : Int), Q x0 → Q' x0) : wp_S_meetsSpan σ v1 v2 v3 Q → wp_S_meetsSpan σ v1 v2 v3 Q' := by
  unfold wp_S_meetsSpan
  exact (mo_wp_S_ofRoads (fun z1 => (Exists.imp fun n8 => (mo_wp_S_meetsSpan_L11 h_Q _ _))))
theorem mo_wp_X_more {σ : zM} {v1 : Int} {v2 : Int} {v3 : Int} {Q : Int → zM → Prop} {Q' : Int → zM → Prop} (h_Q : ∀ (x0 : Int) (x1 : zM), Q x0 x1 → Q' x0 x1) : wp_X_more σ v1 v2 v3 Q → wp_X_more σ v1 v2 v3 Q' := by
  unfold wp_X_more
  exact (mo_wp_S_hasRoad (fun z1 => (And.imp (zImp (mo_wp_X_isSpan (fun z3 => (And.imp (zImp (h_Q _ _)) (zImp (mo_wp_S_meetsSpan (fun z5 => (And.imp (zImp (mo_wp_S_ofRoads (fun z7 => (And.imp (zImp (mo_wp_X_remember (fun σ10 => (mo_wp_S_addSpan (fun σ12 => (mo_wp_S_ofRoads (fun z13 => (h_Q _ _)))))))) (zImp (h_Q _ _)))))) (zImp (h_Q _ _)))))))))) (zImp (h_Q _ _)))))
theorem mo_wp_S_addClosure {σ : zM} {v1 : Int} {v2 : Int} {v3 : Int} {Q : Int → zM → Prop} {Q' : Int → zM → Prop} (h_Q : ∀ (x0 : Int) (x1 : zM), Q x0 x1 → Q' x0 x1) : wp_S_addClosure σ v1 v2 v3 Q → wp_S_addClosure σ v1 v2 v3 Q' := by
  unfold wp_S_addClosure
  exact (And.imp id (And.imp id (forall_imp fun σ3 => (zImp (And.imp id (forall_imp fun σ5 => (zImp (And.imp id (forall_imp fun σ7 => (zImp (And.imp id (forall_imp fun σ9 => (zImp (And.imp id (h_Q _ _)))))))))))))))
theorem mo_wp_X_close {σ : zM} {v1 : Int} {v2 : Int} {v3 : Int} {Q : Int → zM → Prop} {Q' : Int → zM → Prop} (h_Q : ∀ (x0 : Int) (x1 : zM), Q x0 x1 → Q' x0 x1) : wp_X_close σ v1 v2 v3 Q → wp_X_close σ v1 v2 v3 Q' := by
  unfold wp_X_close
  exact (mo_wp_S_hasRoad (fun z1 => (And.imp (zImp (mo_wp_X_isSpan (fun z3 => (And.imp (zImp (And.imp (zImp (mo_wp_X_remember (fun σ6 => (mo_wp_S_addClosure (fun z7 σ8 => (h_Q _ _)))))) (zImp (h_Q _ _)))) (zImp (h_Q _ _)))))) (zImp (h_Q _ _)))))
theorem mo_wp_S_hasClosure {σ : zM} {v1 : Int} {Q : Int → Prop} {Q' : Int → Prop} (h_Q : ∀ (x0 : Int), Q x0 → Q' x0) : wp_S_hasClosure σ v1 Q → wp_S_hasClosure σ v1 Q' := by
  unfold wp_S_hasClosure
  exact (And.imp (zImp (h_Q _)) (zImp (And.imp (zImp (h_Q _)) (zImp (h_Q _)))))
theorem mo_wp_S_dropClosure {σ : zM} {v1 : Int} {Q : zM → Prop} {Q' : zM → Prop} (h_Q : ∀ (x0 : zM), Q x0 → Q' x0) : wp_S_dropClosure σ v1 Q → wp_S_dropClosure σ v1 Q' := by
  unfold wp_S_dropClosure
  exact (And.imp id (And.imp id (forall_imp fun σ3 => (zImp (And.imp id (forall_imp fun σ5 => (zImp (h_Q _))))))))
theorem mo_wp_X_lift {σ : zM} {v1 : Int} {Q : Int → zM → Prop} {Q' : Int → zM → Prop} (h_Q : ∀ (x0 : Int) (x1 : zM), Q x0 x1 → Q' x0 x1) : wp_X_lift σ v1 Q → wp_X_lift σ v1 Q' := by
  unfold wp_X_lift
  exact (mo_wp_S_hasClosure (fun z1 => (And.imp (zImp (mo_wp_X_remember (fun σ4 => (mo_wp_S_dropClosure (fun σ6 => (h_Q _ _)))))) (zImp (h_Q _ _)))))
theorem mo_wp_S_addTraveller {σ : zM} {v1 : Int} {v2 : Int} {Q : Int → zM → Prop} {Q' : Int → zM → Prop} (h_Q : ∀ (x0 : Int) (x1 : zM), Q x0 x1 → Q' x0 x1) : wp_S_addTraveller σ v1 v2 Q → wp_S_addTraveller σ v1 v2 Q' := by
  unfold wp_S_addTraveller
  exact (And.imp id (And.imp id (And.imp id (forall_imp fun σ4 => (zImp (And.imp id (forall_imp fun σ6 => (zImp (And.imp id (forall_imp fun σ8 => (zImp (And.imp id (forall_imp fun σ10 => (zImp (And.imp id (forall_imp fun σ12 => (zImp (And.imp id (forall_imp fun σ14 => (zImp (And.imp id (forall_imp fun σ16 => (zImp (And.imp id (h_Q _ _)))))))))))))))))))))))))
theorem mo_wp_X_traveller {σ : zM} {v1 : Int} {v2 : Int} {Q : Int → zM → Prop} {Q' : Int → zM → Prop} (h_Q : ∀ (x0 : Int) (x1 : zM), Q x0 x1 → Q' x0 x1) : wp_X_traveller σ v1 v2 Q → wp_X_traveller σ v1 v2 Q' := by
  unfold wp_X_traveller
  exact (mo_wp_X_isPlace (fun z1 => (And.imp (zImp (mo_wp_X_within (fun z3 => (And.imp (zImp (And.imp (zImp (mo_wp_X_remember (fun σ6 => (mo_wp_S_addTraveller (fun z7 σ8 => (h_Q _ _)))))) (zImp (h_Q _ _)))) (zImp (h_Q _ _)))))) (zImp (h_Q _ _)))))
theorem mo_wp_S_hasTraveller {σ : zM} {v1 : Int} {Q : Int → Prop} {Q' : Int → Prop} (h_Q : ∀ (x0 : Int), Q x0 → Q' x0) : wp_S_hasTraveller σ v1 Q → wp_S_hasTraveller σ v1 Q' := by
  unfold wp_S_hasTraveller
  exact (And.imp (zImp (h_Q _)) (zImp (And.imp (zImp (h_Q _)) (zImp (h_Q _)))))
theorem mo_wp_S_ofTravellers {σ : zM} {v1 : Int} {v2 : Int} {Q : Int → Prop} {Q' : Int → Prop} (h_Q : ∀ (x0 : Int), Q x0 → Q' x0) : wp_S_ofTravellers σ v1 v2 Q → wp_S_ofTravellers σ v1 v2 Q' := by
  unfold wp_S_ofTravellers
  exact (And.imp id (h_Q _))
theorem mo_wp_S_spanEnd_b46 {σ : zM} {v1 : Int} {v2 : Int} {v3 : Int} {k10 : Int → Prop} {Q : Int → Prop} {v4 : Int} {k10' : Int → Prop} {Q' : Int → Prop} (h_k10 : ∀ (x0 : Int), k10 x0 → k10' x0) (h_Q : ∀ (x0 : Int), Q x0 → Q' x0) : wp_S_spanEnd_b46 σ v1 v2 v3 k10 Q v4 → wp_S_spanEnd_b46 σ v1 v2 v3 k10' Q' v4 := by
  unfold wp_S_spanEnd_b46
  exact (And.imp id (h_k10 _))
theorem mo_wp_S_spanEnd_L10 {σ : zM} {v1 : Int} {v2 : Int} {v3 : Int} {Q : Int → Prop} {Q' : Int → Prop} (h_Q : ∀ (x0 : Int), Q x0 → Q' x0) : ∀ (n : Nat) (v4 : Int), wp_S_spanEnd_L10 σ v1 v2 v3 Q n v4 → wp_S_spanEnd_L10 σ v1 v2 v3 Q' n v4 := by
  intro n
  induction n with
  | zero => intro v4 h; rw [wp_S_spanEnd_L10] at h; exact h.elim
  | succ n ih =>
    intro v4
    rw [wp_S_spanEnd_L10, wp_S_spanEnd_L10]
    exact (And.imp (zImp (h_Q _)) (zImp (mo_wp_S_spanFrom (fun z3 => (And.imp (zImp (mo_wp_S_spanEnd_b46 (fun x0 => ih x0) h_Q)) (zImp (mo_wp_S_spanTo (fun z6 => (And.imp (zImp (mo_wp_S_spanEnd_b46 (fun x0 => ih x0) h_Q)) (zImp (mo_wp_S_spanTo (fun z8 => (h_Q _)))))))))))))
theorem mo_wp_S_spanEnd {σ : zM} {v1 : Int} {v2 : Int} {Q : Int → Prop} {Q' : Int → Prop} (h_Q : ∀ (x0 : Int), Q x0 → Q' x0) : wp_S_spanEnd σ v1 v2 Q → wp_S_spanEnd σ v1 v2 Q' := by
  unfold wp_S_spanEnd
  exact (mo_wp_S_ofRoads (fun z1 => (Exists.imp fun n10 => (mo_wp_S_spanEnd_L10 h_Q _ _))))
theorem mo_wp_S_ofClosures {σ : zM} {v1 : Int} {v2 : Int} {Q : Int → Prop} {Q' : Int → Prop} (h_Q : ∀ (x0 : Int), Q x0 → Q' x0) : wp_S_ofClosures σ v1 v2 Q → wp_S_ofClosures σ v1 v2 Q' := by
  unfold wp_S_ofClosures
  exact (And.imp id (h_Q _))
theorem mo_wp_S_closedAt_b42 {σ : zM} {v1 : Int} {v2 : Int} {k2 : Int → Prop} {Q : Int → Prop} {v3 : Int} {k2' : Int → Prop} {Q' : Int → Prop} (h_k2 : ∀ (x0 : Int), k2 x0 → k2' x0) (h_Q : ∀ (x0 : Int), Q x0 → Q' x0) : wp_S_closedAt_b42 σ v1 v2 k2 Q v3 → wp_S_closedAt_b42 σ v1 v2 k2' Q' v3 := by
  unfold wp_S_closedAt_b42
  exact (And.imp id (h_k2 _))
theorem mo_wp_S_closedAt_L2 {σ : zM} {v1 : Int} {v2 : Int} {Q : Int → Prop} {Q' : Int → Prop} (h_Q : ∀ (x0 : Int), Q x0 → Q' x0) : ∀ (n : Nat) (v3 : Int), wp_S_closedAt_L2 σ v1 v2 Q n v3 → wp_S_closedAt_L2 σ v1 v2 Q' n v3 := by
  intro n
  induction n with
  | zero => intro v3 h; rw [wp_S_closedAt_L2] at h; exact h.elim
  | succ n ih =>
    intro v3
    rw [wp_S_closedAt_L2, wp_S_closedAt_L2]
    exact (And.imp (zImp (h_Q _)) (zImp (mo_wp_S_ofClosures (fun z1 => (And.imp (zImp (mo_wp_S_closedAt_b42 (fun x0 => ih x0) h_Q)) (zImp (mo_wp_S_ofClosures (fun z4 => (And.imp (zImp (mo_wp_S_closedAt_b42 (fun x0 => ih x0) h_Q)) (zImp (mo_wp_S_ofClosures (fun z6 => (And.imp (zImp (mo_wp_S_closedAt_b42 (fun x0 => ih x0) h_Q)) (zImp (h_Q _)))))))))))))))
theorem mo_wp_S_closedAt {σ : zM} {v1 : Int} {v2 : Int} {Q : Int → Prop} {Q' : Int → Prop} (h_Q : ∀ (x0 : Int), Q x0 → Q' x0) : wp_S_closedAt σ v1 v2 Q → wp_S_closedAt σ v1 v2 Q' := by
  unfold wp_S_closedAt
  exact (Exists.imp fun n8 => (mo_wp_S_closedAt_L2 h_Q _ _))
theorem mo_wp_S_whyNoEntry_b51 {σ : zM} {Q : Int → Prop} {v1 : Int} {v2 : Int} {v5 : Int} {Q' : Int → Prop} (h_Q : ∀ (x0 : Int), Q x0 → Q' x0) : wp_S_whyNoEntry_b51 σ Q v1 v2 v5 → wp_S_whyNoEntry_b51 σ Q' v1 v2 v5 := by
  unfold wp_S_whyNoEntry_b51
  exact (mo_wp_S_closedAt (fun z8 => (And.imp (zImp (And.imp id (And.imp (zImp (h_Q _)) (zImp (h_Q _))))) (zImp (h_Q _)))))
theorem mo_wp_S_whyNoEntry {σ : zM} {v1 : Int} {v2 : Int} {Q : Int → Prop} {Q' : Int → Prop} (h_Q : ∀ (x0 : Int), Q x0 → Q' x0) : wp_S_whyNoEntry σ v1 v2 Q → wp_S_whyNoEntry σ v1 v2 Q' := by
  unfold wp_S_whyNoEntry
  exact (And.imp id (mo_wp_S_spanEnd (fun z2 => (And.imp (zImp (mo_wp_S_ofRoads (fun z4 => (mo_wp_S_ofRoads (fun z6 => (And.imp (zImp (mo_wp_S_whyNoEntry_b51 h_Q)) (zImp (And.imp id (And.imp (zImp (mo_wp_S_whyNoEntry_b51 h_Q)) (zImp (h_Q _))))))))))) (zImp (h_Q _))))))
theorem mo_wp_S_whyNoGoing {σ : zM} {v1 : Int} {v2 : Int} {Q : Int → Prop} {Q' : Int → Prop} (h_Q : ∀ (x0 : Int), Q x0 → Q' x0) : wp_S_whyNoGoing σ v1 v2 Q → wp_S_whyNoGoing σ v1 v2 Q' := by
  unfold wp_S_whyNoGoing
  exact (mo_wp_S_ofRoads (fun z1 => (mo_wp_S_ofTravellers (fun z3 => (And.imp (zImp (mo_wp_S_ofTravellers (fun z5 => (mo_wp_S_whyNoEntry (fun z7 => (h_Q _)))))) (zImp (h_Q _)))))))
theorem mo_wp_X_refuse {σ : zM} {v1 : Int} {Q : Int → zM → Prop} {Q' : Int → zM → Prop} (h_Q : ∀ (x0 : Int) (x1 : zM), Q x0 x1 → Q' x0 x1) : wp_X_refuse σ v1 Q → wp_X_refuse σ v1 Q' := by
  unfold wp_X_refuse
  exact (forall_imp fun σ1 => (zImp (h_Q _ _)))
theorem mo_wp_S_enter {σ : zM} {v1 : Int} {v2 : Int} {Q : Int → zM → Prop} {Q' : Int → zM → Prop} (h_Q : ∀ (x0 : Int) (x1 : zM), Q x0 x1 → Q' x0 x1) : wp_S_enter σ v1 v2 Q → wp_S_enter σ v1 v2 Q' := by
  unfold wp_S_enter
  exact (And.imp id (mo_wp_S_ofRoads (fun z2 => (And.imp id (And.imp id (mo_wp_S_ofRoads (fun z6 => (And.imp id (forall_imp fun σ9 => (zImp (And.imp id (forall_imp fun σ11 => (zImp (And.imp id (forall_imp fun σ13 => (zImp (And.imp id (And.imp id (And.imp id (forall_imp fun σ17 => (zImp (And.imp id (And.imp id (And.imp id (forall_imp fun σ21 => (zImp (And.imp id (And.imp id (And.imp id (forall_imp fun σ25 => (zImp (h_Q _ _))))))))))))))))))))))))))))))))
theorem mo_wp_X_go {σ : zM} {v1 : Int} {v2 : Int} {Q : Int → zM → Prop} {Q' : Int → zM → Prop} (h_Q : ∀ (x0 : Int) (x1 : zM), Q x0 x1 → Q' x0 x1) : wp_X_go σ v1 v2 Q → wp_X_go σ v1 v2 Q' := by
  unfold wp_X_go
  exact (mo_wp_S_hasTraveller (fun z1 => (And.imp (zImp (h_Q _ _)) (zImp (mo_wp_S_hasRoad (fun z3 => (And.imp (zImp (mo_wp_S_whyNoGoing (fun z5 => (And.imp (zImp (mo_wp_X_remember (fun σ8 => (mo_wp_S_enter (fun z9 σ10 => (h_Q _ _)))))) (zImp (mo_wp_X_refuse (fun z11 σ12 => (h_Q _ _)))))))) (zImp (h_Q _ _)))))))))
theorem mo_wp_S_ofRooms {σ : zM} {v1 : Int} {v2 : Int} {Q : Int → Prop} {Q' : Int → Prop} (h_Q : ∀ (x0 : Int), Q x0 → Q' x0) : wp_S_ofRooms σ v1 v2 Q → wp_S_ofRooms σ v1 v2 Q' := by
  unfold wp_S_ofRooms
  exact (And.imp id (h_Q _))
theorem mo_wp_S_openUntil_b31 {σ : zM} {Q : Int → Prop} {v2 : Int} {v3 : Int} {v4 : Int} {Q' : Int → Prop} (h_Q : ∀ (x0 : Int), Q x0 → Q' x0) : wp_S_openUntil_b31 σ Q v2 v3 v4 → wp_S_openUntil_b31 σ Q' v2 v3 v4 := by
  unfold wp_S_openUntil_b31
  exact (And.imp id (And.imp (zImp (h_Q _)) (zImp (And.imp (zImp (h_Q _)) (zImp (And.imp id (h_Q _)))))))
theorem mo_wp_S_openUntil {σ : zM} {v1 : Int} {v2 : Int} {Q : Int → Prop} {Q' : Int → Prop} (h_Q : ∀ (x0 : Int), Q x0 → Q' x0) : wp_S_openUntil σ v1 v2 Q → wp_S_openUntil σ v1 v2 Q' := by
  unfold wp_S_openUntil
  exact (mo_wp_S_ofRooms (fun z1 => (mo_wp_S_ofRooms (fun z3 => (And.imp (zImp (mo_wp_S_openUntil_b31 h_Q)) (zImp (And.imp (zImp (mo_wp_S_openUntil_b31 h_Q)) (zImp (h_Q _)))))))))
theorem mo_wp_S_whyNoStaying {σ : zM} {v1 : Int} {v2 : Int} {Q : Int → Prop} {Q' : Int → Prop} (h_Q : ∀ (x0 : Int), Q x0 → Q' x0) : wp_S_whyNoStaying σ v1 v2 Q → wp_S_whyNoStaying σ v1 v2 Q' := by
  unfold wp_S_whyNoStaying
  exact (mo_wp_S_ofTravellers (fun z1 => (mo_wp_S_ofTravellers (fun z3 => (And.imp id (And.imp (zImp (mo_wp_S_ofTravellers (fun z6 => (mo_wp_S_openUntil (fun z8 => (And.imp (zImp (mo_wp_S_ofTravellers (fun z10 => (mo_wp_S_ofRooms (fun z12 => (And.imp id (And.imp (zImp (h_Q _)) (zImp (h_Q _))))))))) (zImp (h_Q _)))))))) (zImp (h_Q _))))))))
theorem mo_wp_S_waitThere {σ : zM} {v1 : Int} {v2 : Int} {Q : Int → zM → Prop} {Q' : Int → zM → Prop} (h_Q : ∀ (x0 : Int) (x1 : zM), Q x0 x1 → Q' x0 x1) : wp_S_waitThere σ v1 v2 Q → wp_S_waitThere σ v1 v2 Q' := by
  unfold wp_S_waitThere
  exact (And.imp id (And.imp id (And.imp id (And.imp id (forall_imp fun σ5 => (zImp (And.imp id (And.imp id (And.imp id (forall_imp fun σ9 => (zImp (And.imp id (h_Q _ _)))))))))))))
theorem mo_wp_X_stay {σ : zM} {v1 : Int} {v2 : Int} {Q : Int → zM → Prop} {Q' : Int → zM → Prop} (h_Q : ∀ (x0 : Int) (x1 : zM), Q x0 x1 → Q' x0 x1) : wp_X_stay σ v1 v2 Q → wp_X_stay σ v1 v2 Q' := by
  unfold wp_X_stay
  exact (mo_wp_S_hasTraveller (fun z1 => (And.imp (zImp (mo_wp_X_within (fun z3 => (And.imp (zImp (mo_wp_S_whyNoStaying (fun z5 => (And.imp (zImp (mo_wp_X_remember (fun σ8 => (mo_wp_S_waitThere (fun z9 σ10 => (h_Q _ _)))))) (zImp (mo_wp_X_refuse (fun z11 σ12 => (h_Q _ _)))))))) (zImp (h_Q _ _)))))) (zImp (h_Q _ _)))))
theorem mo_wp_S_roadsWith_b32 {σ : zM} {v1 : Int} {v2 : Int} {k5 : Int → Int → Prop} {Q : Int → Prop} {v3 : Int} {v4 : Int} {k5' : Int → Int → Prop} {Q' : Int → Prop} (h_k5 : ∀ (x0 : Int) (x1 : Int), k5 x0 x1 → k5' x0 x1) (h_Q : ∀ (x0 : Int), Q x0 → Q' x0) : wp_S_roadsWith_b32 σ v1 v2 k5 Q v3 v4 → wp_S_roadsWith_b32 σ v1 v2 k5' Q' v3 v4 := by
  unfold wp_S_roadsWith_b32
  exact (And.imp id (h_k5 _ _))
theorem mo_wp_S_roadsWith_L5 {σ : zM} {v1 : Int} {v2 : Int} {Q : Int → Prop} {Q' : Int → Prop} (h_Q : ∀ (x0 : Int), Q x0 → Q' x0) : ∀ (n : Nat) (v3 : Int) (v4 : Int), wp_S_roadsWith_L5 σ v1 v2 Q n v3 v4 → wp_S_roadsWith_L5 σ v1 v2 Q' n v3 v4 := by
  intro n
  induction n with
  | zero => intro v3 v4 h; rw [wp_S_roadsWith_L5] at h; exact h.elim
  | succ n ih =>
    intro v3 v4
    rw [wp_S_roadsWith_L5, wp_S_roadsWith_L5]
    exact (And.imp (zImp (h_Q _)) (zImp (mo_wp_S_ofRoads (fun z1 => (And.imp (zImp (mo_wp_S_roadsWith_b32 (fun x0 x1 => ih x0 x1) h_Q)) (zImp (mo_wp_S_roadsWith_b32 (fun x0 x1 => ih x0 x1) h_Q)))))))
theorem mo_wp_S_roadsWith {σ : zM} {v1 : Int} {v2 : Int} {Q : Int → Prop} {Q' : Int → Prop} (h_Q : ∀ (x0 : Int), Q x0 → Q' x0) : wp_S_roadsWith σ v1 v2 Q → wp_S_roadsWith σ v1 v2 Q' := by
  unfold wp_S_roadsWith
  exact (Exists.imp fun n4 => (mo_wp_S_roadsWith_L5 h_Q _ _ _))
theorem mo_wp_S_travellersAt_b28 {σ : zM} {v1 : Int} {k4 : Int → Int → Prop} {Q : Int → Prop} {v2 : Int} {v3 : Int} {k4' : Int → Int → Prop} {Q' : Int → Prop} (h_k4 : ∀ (x0 : Int) (x1 : Int), k4 x0 x1 → k4' x0 x1) (h_Q : ∀ (x0 : Int), Q x0 → Q' x0) : wp_S_travellersAt_b28 σ v1 k4 Q v2 v3 → wp_S_travellersAt_b28 σ v1 k4' Q' v2 v3 := by
  unfold wp_S_travellersAt_b28
  exact (And.imp id (h_k4 _ _))
theorem mo_wp_S_travellersAt_L4 {σ : zM} {v1 : Int} {Q : Int → Prop} {Q' : Int → Prop} (h_Q : ∀ (x0 : Int), Q x0 → Q' x0) : ∀ (n : Nat) (v2 : Int) (v3 : Int), wp_S_travellersAt_L4 σ v1 Q n v2 v3 → wp_S_travellersAt_L4 σ v1 Q' n v2 v3 := by
  intro n
  induction n with
  | zero => intro v2 v3 h; rw [wp_S_travellersAt_L4] at h; exact h.elim
  | succ n ih =>
    intro v2 v3
    rw [wp_S_travellersAt_L4, wp_S_travellersAt_L4]
    exact (And.imp (zImp (h_Q _)) (zImp (mo_wp_S_ofTravellers (fun z1 => (And.imp (zImp (mo_wp_S_travellersAt_b28 (fun x0 x1 => ih x0 x1) h_Q)) (zImp (mo_wp_S_travellersAt_b28 (fun x0 x1 => ih x0 x1) h_Q)))))))
theorem mo_wp_S_travellersAt {σ : zM} {v1 : Int} {Q : Int → Prop} {Q' : Int → Prop} (h_Q : ∀ (x0 : Int), Q x0 → Q' x0) : wp_S_travellersAt σ v1 Q → wp_S_travellersAt σ v1 Q' := by
  unfold wp_S_travellersAt
  exact (Exists.imp fun n4 => (mo_wp_S_travellersAt_L4 h_Q _ _ _))
theorem mo_wp_X_ofPlace {σ : zM} {v1 : Int} {v2 : Int} {Q : Int → Prop} {Q' : Int → Prop} (h_Q : ∀ (x0 : Int), Q x0 → Q' x0) : wp_X_ofPlace σ v1 v2 Q → wp_X_ofPlace σ v1 v2 Q' := by
  unfold wp_X_ofPlace
  exact (mo_wp_X_isPlace (fun z1 => (And.imp (zImp (mo_wp_X_within (fun z3 => (And.imp (zImp (And.imp (zImp (And.imp (zImp (And.imp (zImp (mo_wp_S_ofRooms (fun z5 => (h_Q _)))) (zImp (mo_wp_S_travellersAt (fun z7 => (h_Q _)))))) (zImp (mo_wp_S_roadsWith (fun z9 => (h_Q _)))))) (zImp (mo_wp_S_roadsWith (fun z11 => (h_Q _)))))) (zImp (h_Q _)))))) (zImp (h_Q _)))))
theorem mo_wp_S_closuresOf_b25 {σ : zM} {v1 : Int} {k4 : Int → Int → Prop} {Q : Int → Prop} {v2 : Int} {v3 : Int} {k4' : Int → Int → Prop} {Q' : Int → Prop} (h_k4 : ∀ (x0 : Int) (x1 : Int), k4 x0 x1 → k4' x0 x1) (h_Q : ∀ (x0 : Int), Q x0 → Q' x0) : wp_S_closuresOf_b25 σ v1 k4 Q v2 v3 → wp_S_closuresOf_b25 σ v1 k4' Q' v2 v3 := by
  unfold wp_S_closuresOf_b25
  exact (And.imp id (h_k4 _ _))
theorem mo_wp_S_closuresOf_L4 {σ : zM} {v1 : Int} {Q : Int → Prop} {Q' : Int → Prop} (h_Q : ∀ (x0 : Int), Q x0 → Q' x0) : ∀ (n : Nat) (v2 : Int) (v3 : Int), wp_S_closuresOf_L4 σ v1 Q n v2 v3 → wp_S_closuresOf_L4 σ v1 Q' n v2 v3 := by
  intro n
  induction n with
  | zero => intro v2 v3 h; rw [wp_S_closuresOf_L4] at h; exact h.elim
  | succ n ih =>
    intro v2 v3
    rw [wp_S_closuresOf_L4, wp_S_closuresOf_L4]
    exact (And.imp (zImp (h_Q _)) (zImp (mo_wp_S_ofClosures (fun z1 => (And.imp (zImp (mo_wp_S_closuresOf_b25 (fun x0 x1 => ih x0 x1) h_Q)) (zImp (And.imp id (mo_wp_S_closuresOf_b25 (fun x0 x1 => ih x0 x1) h_Q))))))))
theorem mo_wp_S_closuresOf {σ : zM} {v1 : Int} {Q : Int → Prop} {Q' : Int → Prop} (h_Q : ∀ (x0 : Int), Q x0 → Q' x0) : wp_S_closuresOf σ v1 Q → wp_S_closuresOf σ v1 Q' := by
  unfold wp_S_closuresOf
  exact (Exists.imp fun n5 => (mo_wp_S_closuresOf_L4 h_Q _ _ _))
theorem mo_wp_X_ofRoad {σ : zM} {v1 : Int} {v2 : Int} {Q : Int → Prop} {Q' : Int → Prop} (h_Q : ∀ (x0 : Int), Q x0 → Q' x0) : wp_X_ofRoad σ v1 v2 Q → wp_X_ofRoad σ v1 v2 Q' := by
  unfold wp_X_ofRoad
  exact (mo_wp_S_hasRoad (fun z1 => (And.imp (zImp (mo_wp_X_within (fun z3 => (And.imp (zImp (And.imp (zImp (And.imp (zImp (mo_wp_S_ofRoads (fun z5 => (h_Q _)))) (zImp (And.imp id (h_Q _))))) (zImp (mo_wp_S_closuresOf (fun z8 => (h_Q _)))))) (zImp (h_Q _)))))) (zImp (h_Q _)))))
theorem mo_wp_X_ofClosure {σ : zM} {v1 : Int} {v2 : Int} {Q : Int → Prop} {Q' : Int → Prop} (h_Q : ∀ (x0 : Int), Q x0 → Q' x0) : wp_X_ofClosure σ v1 v2 Q → wp_X_ofClosure σ v1 v2 Q' := by
  unfold wp_X_ofClosure
  exact (mo_wp_S_hasClosure (fun z1 => (And.imp (zImp (mo_wp_X_within (fun z3 => (And.imp (zImp (mo_wp_S_ofClosures (fun z5 => (h_Q _)))) (zImp (h_Q _)))))) (zImp (h_Q _)))))
theorem mo_wp_X_ofTraveller {σ : zM} {v1 : Int} {v2 : Int} {Q : Int → Prop} {Q' : Int → Prop} (h_Q : ∀ (x0 : Int), Q x0 → Q' x0) : wp_X_ofTraveller σ v1 v2 Q → wp_X_ofTraveller σ v1 v2 Q' := by
  unfold wp_X_ofTraveller
  exact (mo_wp_S_hasTraveller (fun z1 => (And.imp (zImp (mo_wp_X_within (fun z3 => (And.imp (zImp (mo_wp_S_ofTravellers (fun z5 => (h_Q _)))) (zImp (h_Q _)))))) (zImp (h_Q _)))))
theorem mo_wp_X_count {σ : zM} {v1 : Int} {Q : Int → Prop} {Q' : Int → Prop} (h_Q : ∀ (x0 : Int), Q x0 → Q' x0) : wp_X_count σ v1 Q → wp_X_count σ v1 Q' := by
  unfold wp_X_count
  exact (And.imp (zImp (h_Q _)) (And.imp (zImp (h_Q _)) (And.imp (zImp (h_Q _)) (And.imp (zImp (h_Q _)) (And.imp (zImp (h_Q _)) (And.imp (zImp (h_Q _)) (zImp (h_Q _))))))))
theorem mo_wp_X_whyShut {σ : zM} {v1 : Int} {v2 : Int} {Q : Int → Prop} {Q' : Int → Prop} (h_Q : ∀ (x0 : Int), Q x0 → Q' x0) : wp_X_whyShut σ v1 v2 Q → wp_X_whyShut σ v1 v2 Q' := by
  unfold wp_X_whyShut
  exact (mo_wp_S_hasRoad (fun z1 => (And.imp (zImp (mo_wp_X_within (fun z3 => (And.imp (zImp (mo_wp_S_whyNoEntry (fun z5 => (h_Q _)))) (zImp (h_Q _)))))) (zImp (h_Q _)))))
theorem mo_wp_S_waitEnd {σ : zM} {v1 : Int} {v2 : Int} {Q : Int → Prop} {Q' : Int → Prop} (h_Q : ∀ (x0 : Int), Q x0 → Q' x0) : wp_S_waitEnd σ v1 v2 Q → wp_S_waitEnd σ v1 v2 Q' := by
  unfold wp_S_waitEnd
  exact (mo_wp_S_openUntil (fun z1 => (mo_wp_S_ofRooms (fun z3 => (And.imp id (h_Q _))))))
theorem mo_wp_G_letIn_L82 {v2 : Int} {v3 : Int} {v4 : Int} {v6 : Int} {v7 : Int} {v8 : Int} {k108 : zM → Prop} {Q : zM → Prop} {k108' : zM → Prop} {Q' : zM → Prop} (h_k108 : ∀ (x0 : zM), k108 x0 → k108' x0) (h_Q : ∀ (x0 : zM), Q x0 → Q' x0) : ∀ (n : Nat) (σ : zM) (v9 : Int), wp_G_letIn_L82 v2 v3 v4 v6 v7 v8 k108 Q n σ v9 → wp_G_letIn_L82 v2 v3 v4 v6 v7 v8 k108' Q' n σ v9 := by
  intro n
  induction n with
  | zero => intro σ v9 h; rw [wp_G_letIn_L82] at h; exact h.elim
  | succ n ih =>
    intro σ v9
    rw [wp_G_letIn_L82, wp_G_letIn_L82]
    exact (And.imp (zImp (h_k108 _)) (zImp (And.imp id (And.imp id (forall_imp fun σ15 => (zImp (And.imp id (ih _ _))))))))
theorem mo_wp_G_letIn_L47 {v2 : Int} {v3 : Int} {v4 : Int} {v6 : Int} {Q : zM → Prop} {Q' : zM → Prop} (h_Q : ∀ (x0 : zM), Q x0 → Q' x0) : ∀ (n : Nat) (σ : zM) (v7 : Int), wp_G_letIn_L47 v2 v3 v4 v6 Q n σ v7 → wp_G_letIn_L47 v2 v3 v4 v6 Q' n σ v7 := by
  intro n
  induction n with
  | zero => intro σ v7 h; rw [wp_G_letIn_L47] at h; exact h.elim
  | succ n ih =>
    intro σ v7
    rw [wp_G_letIn_L47, wp_G_letIn_L47]
    exact (And.imp (zImp (h_Q _)) (zImp (And.imp id (And.imp id (mo_wp_S_spanFrom (fun z10 => (And.imp id (Exists.imp fun n19 => (mo_wp_G_letIn_L82 (fun σ17 => (And.imp id (ih _ _))) h_Q _ _ _)))))))))
theorem mo_wp_G_letIn_b41 {Q : zM → Prop} {σ : zM} {v2 : Int} {v3 : Int} {v4 : Int} {s0 : Int} {s1 : Int} {Q' : zM → Prop} (h_Q : ∀ (x0 : zM), Q x0 → Q' x0) : wp_G_letIn_b41 Q σ v2 v3 v4 s0 s1 → wp_G_letIn_b41 Q' σ v2 v3 v4 s0 s1 := by
  unfold wp_G_letIn_b41
  exact (And.imp id (Exists.imp fun n20 => (mo_wp_G_letIn_L47 h_Q _ _ _)))
theorem mo_wp_G_letIn_b22 {Q : zM → Prop} {σ : zM} {v2 : Int} {v3 : Int} {v4 : Int} {s0 : Int} {Q' : zM → Prop} (h_Q : ∀ (x0 : zM), Q x0 → Q' x0) : wp_G_letIn_b22 Q σ v2 v3 v4 s0 → wp_G_letIn_b22 Q' σ v2 v3 v4 s0 := by
  unfold wp_G_letIn_b22
  exact (mo_wp_S_spanTo (fun z5 => (And.imp (zImp (mo_wp_G_letIn_b41 h_Q)) (zImp (mo_wp_G_letIn_b41 h_Q)))))
theorem mo_wp_G_letIn {σ : zM} {v2 : Int} {v3 : Int} {Q : zM → Prop} {Q' : zM → Prop} (h_Q : ∀ (x0 : zM), Q x0 → Q' x0) : wp_G_letIn σ v2 v3 Q → wp_G_letIn σ v2 v3 Q' := by
  unfold wp_G_letIn
  exact (mo_wp_S_ofRoads (fun z1 => (mo_wp_S_ofRoads (fun z3 => (And.imp (zImp (mo_wp_G_letIn_b22 h_Q)) (zImp (mo_wp_G_letIn_b22 h_Q)))))))
theorem mo_wp_G_shut_L27 {v3 : Int} {v4 : Int} {Q : zM → Prop} {Q' : zM → Prop} (h_Q : ∀ (x0 : zM), Q x0 → Q' x0) : ∀ (n : Nat) (σ : zM) (v5 : Int), wp_G_shut_L27 v3 v4 Q n σ v5 → wp_G_shut_L27 v3 v4 Q' n σ v5 := by
  intro n
  induction n with
  | zero => intro σ v5 h; rw [wp_G_shut_L27] at h; exact h.elim
  | succ n ih =>
    intro σ v5
    rw [wp_G_shut_L27, wp_G_shut_L27]
    exact (And.imp (zImp (h_Q _)) (zImp (And.imp id (And.imp id (forall_imp fun σ9 => (zImp (And.imp id (ih _ _))))))))
theorem mo_wp_G_shut {σ : zM} {v2 : Int} {Q : zM → Prop} {Q' : zM → Prop} (h_Q : ∀ (x0 : zM), Q x0 → Q' x0) : wp_G_shut σ v2 Q → wp_G_shut σ v2 Q' := by
  unfold wp_G_shut
  exact (mo_wp_S_ofClosures (fun z1 => (mo_wp_S_ofClosures (fun z3 => (mo_wp_S_ofClosures (fun z5 => (Exists.imp fun n11 => (mo_wp_G_shut_L27 h_Q _ _ _))))))))
theorem mo_wp_G_prepare_L36 {v2 : Int} {v3 : Int} {k56 : zM → Prop} {Q : zM → Prop} {k56' : zM → Prop} {Q' : zM → Prop} (h_k56 : ∀ (x0 : zM), k56 x0 → k56' x0) (h_Q : ∀ (x0 : zM), Q x0 → Q' x0) : ∀ (n : Nat) (σ : zM) (v4 : Int), wp_G_prepare_L36 v2 v3 k56 Q n σ v4 → wp_G_prepare_L36 v2 v3 k56' Q' n σ v4 := by
  intro n
  induction n with
  | zero => intro σ v4 h; rw [wp_G_prepare_L36] at h; exact h.elim
  | succ n ih =>
    intro σ v4
    rw [wp_G_prepare_L36, wp_G_prepare_L36]
    exact (And.imp (zImp (h_k56 _)) (zImp (mo_wp_G_letIn (fun σ5 => (And.imp id (ih _ _))))))
theorem mo_wp_G_prepare_L18 {k62 : zM → Prop} {Q : zM → Prop} {k62' : zM → Prop} {Q' : zM → Prop} (h_k62 : ∀ (x0 : zM), k62 x0 → k62' x0) (h_Q : ∀ (x0 : zM), Q x0 → Q' x0) : ∀ (n : Nat) (σ : zM) (v2 : Int), wp_G_prepare_L18 k62 Q n σ v2 → wp_G_prepare_L18 k62' Q' n σ v2 := by
  intro n
  induction n with
  | zero => intro σ v2 h; rw [wp_G_prepare_L18] at h; exact h.elim
  | succ n ih =>
    intro σ v2
    rw [wp_G_prepare_L18, wp_G_prepare_L18]
    exact (And.imp (zImp (h_k62 _)) (zImp (mo_wp_S_ofRoads (fun z2 => (Exists.imp fun n9 => (mo_wp_G_prepare_L36 (fun σ7 => (And.imp id (ih _ _))) h_Q _ _ _))))))
theorem mo_wp_G_prepare_L64 {Q : zM → Prop} {Q' : zM → Prop} (h_Q : ∀ (x0 : zM), Q x0 → Q' x0) : ∀ (n : Nat) (σ : zM) (v2 : Int), wp_G_prepare_L64 Q n σ v2 → wp_G_prepare_L64 Q' n σ v2 := by
  intro n
  induction n with
  | zero => intro σ v2 h; rw [wp_G_prepare_L64] at h; exact h.elim
  | succ n ih =>
    intro σ v2
    rw [wp_G_prepare_L64, wp_G_prepare_L64]
    exact (And.imp (zImp (forall_imp fun σ11 => (zImp (h_Q _)))) (zImp (mo_wp_G_shut (fun σ13 => (And.imp id (ih _ _))))))
theorem mo_wp_G_prepare {σ : zM} {Q : zM → Prop} {Q' : zM → Prop} (h_Q : ∀ (x0 : zM), Q x0 → Q' x0) : wp_G_prepare σ Q → wp_G_prepare σ Q' := by
  unfold wp_G_prepare
  exact (And.imp (zImp (forall_imp fun σ1 => (zImp (Exists.imp fun n16 => (mo_wp_G_prepare_L18 (fun σ10 => (Exists.imp fun n15 => (mo_wp_G_prepare_L64 h_Q _ _ _))) h_Q _ _ _))))) (zImp (h_Q _)))
theorem mo_wp_O_start {σ : zM} {o : Nat} {v1 : Int} {v2 : Int} {Q : zM → Prop} {Q' : zM → Prop} (h_Q : ∀ (x0 : zM), Q x0 → Q' x0) : wp_O_start σ o v1 v2 Q → wp_O_start σ o v1 v2 Q' := by
  unfold wp_O_start
  exact (forall_imp fun σ1 => (zImp (forall_imp fun σ2 => (zImp (And.imp id (forall_imp fun σ4 => (zImp (h_Q _))))))))
theorem mo_wp_O_comersAt {σ : zM} {o : Nat} {v1 : Int} {Q : Int → Prop} {Q' : Int → Prop} (h_Q : ∀ (x0 : Int), Q x0 → Q' x0) : wp_O_comersAt σ o v1 Q → wp_O_comersAt σ o v1 Q' := by
  unfold wp_O_comersAt
  exact (And.imp id (h_Q _))
theorem mo_wp_X_has {σ : zM} {v0 : Int} {v1 : Int} {Q : Int → Prop} {Q' : Int → Prop} (h_Q : ∀ (x0 : Int), Q x0 → Q' x0) : wp_X_has σ v0 v1 Q → wp_X_has σ v0 v1 Q' := by
  unfold wp_X_has
  exact (And.imp (zImp (h_Q _)) (zImp (h_Q _)))
theorem mo_wp_G_at {σ : zM} {v1 : Int} {Q : Int → Prop} {Q' : Int → Prop} (h_Q : ∀ (x0 : Int), Q x0 → Q' x0) : wp_G_at σ v1 Q → wp_G_at σ v1 Q' := by
  unfold wp_G_at
  exact (And.imp (zImp (h_Q _)) (zImp (And.imp (zImp (h_Q _)) (zImp (And.imp id (h_Q _))))))
theorem mo_wp_O_leave_b70 {o : Nat} {v2 : Int} {v3 : Int} {v4 : Int} {k3 : zM → Int → Prop} {Q : zM → Prop} {σ : zM} {v5 : Int} {k3' : zM → Int → Prop} {Q' : zM → Prop} (h_k3 : ∀ (x0 : zM) (x1 : Int), k3 x0 x1 → k3' x0 x1) (h_Q : ∀ (x0 : zM), Q x0 → Q' x0) : wp_O_leave_b70 o v2 v3 v4 k3 Q σ v5 → wp_O_leave_b70 o v2 v3 v4 k3' Q' σ v5 := by
  unfold wp_O_leave_b70
  exact (And.imp id (h_k3 _ _))
theorem mo_wp_O_leave_L3 {o : Nat} {v2 : Int} {v3 : Int} {v4 : Int} {Q : zM → Prop} {Q' : zM → Prop} (h_Q : ∀ (x0 : zM), Q x0 → Q' x0) : ∀ (n : Nat) (σ : zM) (v5 : Int), wp_O_leave_L3 o v2 v3 v4 Q n σ v5 → wp_O_leave_L3 o v2 v3 v4 Q' n σ v5 := by
  intro n
  induction n with
  | zero => intro σ v5 h; rw [wp_O_leave_L3] at h; exact h.elim
  | succ n ih =>
    intro σ v5
    rw [wp_O_leave_L3, wp_O_leave_L3]
    exact (And.imp (zImp (h_Q _)) (zImp (mo_wp_X_has (fun z1 => (And.imp (zImp (mo_wp_O_leave_b70 (fun x0 x1 => ih x0 x1) h_Q)) (zImp (mo_wp_S_ofRoads (fun z4 => (mo_wp_X_has (fun z6 => (And.imp (zImp (mo_wp_O_leave_b70 (fun x0 x1 => ih x0 x1) h_Q)) (zImp (mo_wp_S_ofRoads (fun z8 => (And.imp id (And.imp id (mo_wp_S_ofRoads (fun z12 => (And.imp id (forall_imp fun σ15 => (zImp (mo_wp_O_leave_b70 (fun x0 x1 => ih x0 x1) h_Q))))))))))))))))))))))
theorem mo_wp_O_leave {σ : zM} {o : Nat} {v2 : Int} {v3 : Int} {v4 : Int} {Q : zM → Prop} {Q' : zM → Prop} (h_Q : ∀ (x0 : zM), Q x0 → Q' x0) : wp_O_leave σ o v2 v3 v4 Q → wp_O_leave σ o v2 v3 v4 Q' := by
  unfold wp_O_leave
  exact (Exists.imp fun n16 => (mo_wp_O_leave_L3 h_Q _ _ _))
theorem mo_wp_O_minute_b90 {o : Nat} {v2 : Int} {v3 : Int} {v5 : Int} {k29 : zM → Int → Int → Prop} {Q : Int → zM → Prop} {σ : zM} {v4 : Int} {v6 : Int} {k29' : zM → Int → Int → Prop} {Q' : Int → zM → Prop} (h_k29 : ∀ (x0 : zM) (x1 : Int) (x2 : Int), k29 x0 x1 x2 → k29' x0 x1 x2) (h_Q : ∀ (x0 : Int) (x1 : zM), Q x0 x1 → Q' x0 x1) : wp_O_minute_b90 o v2 v3 v5 k29 Q σ v4 v6 → wp_O_minute_b90 o v2 v3 v5 k29' Q' σ v4 v6 := by
  unfold wp_O_minute_b90
  exact (And.imp id (h_k29 _ _ _))
theorem mo_wp_O_minute_b70 {o : Nat} {v2 : Int} {v3 : Int} {v5 : Int} {k29 : zM → Int → Int → Prop} {Q : Int → zM → Prop} {σ : zM} {v4 : Int} {v6 : Int} {k29' : zM → Int → Int → Prop} {Q' : Int → zM → Prop} (h_k29 : ∀ (x0 : zM) (x1 : Int) (x2 : Int), k29 x0 x1 x2 → k29' x0 x1 x2) (h_Q : ∀ (x0 : Int) (x1 : zM), Q x0 x1 → Q' x0 x1) : wp_O_minute_b70 o v2 v3 v5 k29 Q σ v4 v6 → wp_O_minute_b70 o v2 v3 v5 k29' Q' σ v4 v6 := by
  unfold wp_O_minute_b70
  exact (And.imp id (And.imp (zImp (mo_wp_O_minute_b90 h_k29 h_Q)) (zImp (mo_wp_O_minute_b90 h_k29 h_Q))))
theorem mo_wp_O_minute_L29 {o : Nat} {v2 : Int} {v3 : Int} {v5 : Int} {Q : Int → zM → Prop} {Q' : Int → zM → Prop} (h_Q : ∀ (x0 : Int) (x1 : zM), Q x0 x1 → Q' x0 x1) : ∀ (n : Nat) (σ : zM) (v4 : Int) (v6 : Int), wp_O_minute_L29 o v2 v3 v5 Q n σ v4 v6 → wp_O_minute_L29 o v2 v3 v5 Q' n σ v4 v6 := by
  intro n
  induction n with
  | zero => intro σ v4 v6 h; rw [wp_O_minute_L29] at h; exact h.elim
  | succ n ih =>
    intro σ v4 v6
    rw [wp_O_minute_L29, wp_O_minute_L29]
    exact (And.imp (zImp (And.imp (zImp (h_Q _ _)) (zImp (And.imp (zImp (h_Q _ _)) (zImp (mo_wp_O_leave (fun σ5 => (h_Q _ _)))))))) (zImp (mo_wp_X_has (fun z6 => (And.imp (zImp (mo_wp_O_minute_b70 (fun x0 x1 x2 => ih x0 x1 x2) h_Q)) (zImp (And.imp id (mo_wp_S_waitEnd (fun z11 => (And.imp id (forall_imp fun σ14 => (zImp (mo_wp_O_minute_b70 (fun x0 x1 x2 => ih x0 x1 x2) h_Q)))))))))))))
theorem mo_wp_O_minute {σ : zM} {o : Nat} {v2 : Int} {v3 : Int} {Q : Int → zM → Prop} {Q' : Int → zM → Prop} (h_Q : ∀ (x0 : Int) (x1 : zM), Q x0 x1 → Q' x0 x1) : wp_O_minute σ o v2 v3 Q → wp_O_minute σ o v2 v3 Q' := by
  unfold wp_O_minute
  exact (And.imp id (And.imp id (forall_imp fun σ3 => (zImp (Exists.imp fun n15 => (mo_wp_O_minute_L29 h_Q _ _ _ _))))))
theorem mo_wp_X_firstComing_L23 {v4 : Int} {v5 : Int} {v6 : Int} {Q : Int → zM → Prop} {Q' : Int → zM → Prop} (h_Q : ∀ (x0 : Int) (x1 : zM), Q x0 x1 → Q' x0 x1) : ∀ (n : Nat) (σ : zM) (v7 : Int), wp_X_firstComing_L23 v4 v5 v6 Q n σ v7 → wp_X_firstComing_L23 v4 v5 v6 Q' n σ v7 := by
  intro n
  induction n with
  | zero => intro σ v7 h; rw [wp_X_firstComing_L23] at h; exact h.elim
  | succ n ih =>
    intro σ v7
    rw [wp_X_firstComing_L23, wp_X_firstComing_L23]
    exact (And.imp (zImp (h_Q _ _)) (zImp (mo_wp_O_comersAt (fun z5 => (mo_wp_X_has (fun z7 => (And.imp (zImp (mo_wp_G_at (fun z9 => (mo_wp_O_minute (fun z11 σ12 => (And.imp id (ih _ _))))))) (zImp (h_Q _ _)))))))))
theorem mo_wp_X_firstComing {σ : zM} {v1 : Int} {v2 : Int} {v3 : Int} {v4 : Int} {v5 : Int} {v6 : Int} {Q : Int → zM → Prop} {Q' : Int → zM → Prop} (h_Q : ∀ (x0 : Int) (x1 : zM), Q x0 x1 → Q' x0 x1) : wp_X_firstComing σ v1 v2 v3 v4 v5 v6 Q → wp_X_firstComing σ v1 v2 v3 v4 v5 v6 Q' := by
  unfold wp_X_firstComing
  exact (mo_wp_G_prepare (fun σ2 => (mo_wp_O_start (fun σ4 => (Exists.imp fun n14 => (mo_wp_X_firstComing_L23 h_Q _ _ _))))))
theorem mo_wp_X_earliestTime {σ : zM} {v1 : Int} {v2 : Int} {v3 : Int} {Q : Int → zM → Prop} {Q' : Int → zM → Prop} (h_Q : ∀ (x0 : Int) (x1 : zM), Q x0 x1 → Q' x0 x1) : wp_X_earliestTime σ v1 v2 v3 Q → wp_X_earliestTime σ v1 v2 v3 Q' := by
  unfold wp_X_earliestTime
  exact (And.imp (zImp (mo_wp_S_waitEnd (fun z1 => (mo_wp_X_firstComing (fun z3 σ4 => (h_Q _ _)))))) (zImp (h_Q _ _)))
theorem mo_wp_X_earliest {σ : zM} {v1 : Int} {v2 : Int} {v3 : Int} {Q : Int → zM → Prop} {Q' : Int → zM → Prop} (h_Q : ∀ (x0 : Int) (x1 : zM), Q x0 x1 → Q' x0 x1) : wp_X_earliest σ v1 v2 v3 Q → wp_X_earliest σ v1 v2 v3 Q' := by
  unfold wp_X_earliest
  exact (mo_wp_X_isPlace (fun z1 => (And.imp (zImp (h_Q _ _)) (zImp (mo_wp_X_isPlace (fun z3 => (And.imp (zImp (mo_wp_X_within (fun z5 => (And.imp (zImp (mo_wp_X_earliestTime (fun z7 σ8 => (h_Q _ _)))) (zImp (h_Q _ _)))))) (zImp (h_Q _ _)))))))))
theorem mo_wp_B_start {σ : zM} {v1 : Int} {v2 : Int} {Q : zM → Prop} {Q' : zM → Prop} (h_Q : ∀ (x0 : zM), Q x0 → Q' x0) : wp_B_start σ v1 v2 Q → wp_B_start σ v1 v2 Q' := by
  unfold wp_B_start
  exact (forall_imp fun σ1 => (zImp (forall_imp fun σ2 => (zImp (forall_imp fun σ3 => (zImp (forall_imp fun σ4 => (zImp (h_Q _)))))))))
theorem mo_wp_B_leads {σ : zM} {v1 : Int} {v2 : Int} {Q : Int → Prop} {Q' : Int → Prop} (h_Q : ∀ (x0 : Int), Q x0 → Q' x0) : wp_B_leads σ v1 v2 Q → wp_B_leads σ v1 v2 Q' := by
  unfold wp_B_leads
  exact (And.imp (zImp (h_Q _)) (zImp (And.imp (zImp (h_Q _)) (zImp (And.imp id (mo_wp_X_has (fun z2 => (And.imp (zImp (h_Q _)) (zImp (h_Q _))))))))))
theorem mo_wp_B_minute_b57 {v2 : Int} {v3 : Int} {k3 : zM → Int → Prop} {Q : zM → Prop} {σ : zM} {v4 : Int} {k3' : zM → Int → Prop} {Q' : zM → Prop} (h_k3 : ∀ (x0 : zM) (x1 : Int), k3 x0 x1 → k3' x0 x1) (h_Q : ∀ (x0 : zM), Q x0 → Q' x0) : wp_B_minute_b57 v2 v3 k3 Q σ v4 → wp_B_minute_b57 v2 v3 k3' Q' σ v4 := by
  unfold wp_B_minute_b57
  exact (And.imp id (h_k3 _ _))
theorem mo_wp_B_minute_L3 {v2 : Int} {v3 : Int} {k63 : zM → Prop} {Q : zM → Prop} {k63' : zM → Prop} {Q' : zM → Prop} (h_k63 : ∀ (x0 : zM), k63 x0 → k63' x0) (h_Q : ∀ (x0 : zM), Q x0 → Q' x0) : ∀ (n : Nat) (σ : zM) (v4 : Int), wp_B_minute_L3 v2 v3 k63 Q n σ v4 → wp_B_minute_L3 v2 v3 k63' Q' n σ v4 := by
  intro n
  induction n with
  | zero => intro σ v4 h; rw [wp_B_minute_L3] at h; exact h.elim
  | succ n ih =>
    intro σ v4
    rw [wp_B_minute_L3, wp_B_minute_L3]
    exact (And.imp (zImp (h_k63 _)) (zImp (mo_wp_X_has (fun z1 => (And.imp (zImp (mo_wp_B_minute_b57 (fun x0 x1 => ih x0 x1) h_Q)) (zImp (mo_wp_S_ofRoads (fun z4 => (mo_wp_S_ofRoads (fun z6 => (And.imp id (mo_wp_B_leads (fun z9 => (And.imp (zImp (mo_wp_B_minute_b57 (fun x0 x1 => ih x0 x1) h_Q)) (zImp (mo_wp_S_ofRoads (fun z11 => (And.imp id (forall_imp fun σ14 => (zImp (mo_wp_B_minute_b57 (fun x0 x1 => ih x0 x1) h_Q)))))))))))))))))))))
theorem mo_wp_B_minute_b107 {σ : zM} {v3 : Int} {k74 : Int → Int → Prop} {Q : zM → Prop} {v4 : Int} {v5 : Int} {k74' : Int → Int → Prop} {Q' : zM → Prop} (h_k74 : ∀ (x0 : Int) (x1 : Int), k74 x0 x1 → k74' x0 x1) (h_Q : ∀ (x0 : zM), Q x0 → Q' x0) : wp_B_minute_b107 σ v3 k74 Q v4 v5 → wp_B_minute_b107 σ v3 k74' Q' v4 v5 := by
  unfold wp_B_minute_b107
  exact (And.imp id (h_k74 _ _))
theorem mo_wp_B_minute_L74 {σ : zM} {v3 : Int} {Q : zM → Prop} {Q' : zM → Prop} (h_Q : ∀ (x0 : zM), Q x0 → Q' x0) : ∀ (n : Nat) (v4 : Int) (v5 : Int), wp_B_minute_L74 σ v3 Q n v4 v5 → wp_B_minute_L74 σ v3 Q' n v4 v5 := by
  intro n
  induction n with
  | zero => intro v4 v5 h; rw [wp_B_minute_L74] at h; exact h.elim
  | succ n ih =>
    intro v4 v5
    rw [wp_B_minute_L74, wp_B_minute_L74]
    exact (And.imp (zImp (And.imp id (forall_imp fun σ17 => (zImp (h_Q _))))) (zImp (And.imp id (mo_wp_S_waitEnd (fun z19 => (And.imp (zImp (mo_wp_B_minute_b107 (fun x0 x1 => ih x0 x1) h_Q)) (zImp (mo_wp_B_minute_b107 (fun x0 x1 => ih x0 x1) h_Q))))))))
theorem mo_wp_B_minute {σ : zM} {v2 : Int} {v3 : Int} {Q : zM → Prop} {Q' : zM → Prop} (h_Q : ∀ (x0 : zM), Q x0 → Q' x0) : wp_B_minute σ v2 v3 Q → wp_B_minute σ v2 v3 Q' := by
  unfold wp_B_minute
  exact (Exists.imp fun n23 => (mo_wp_B_minute_L3 (fun σ15 => (Exists.imp fun n22 => (mo_wp_B_minute_L74 h_Q _ _ _))) h_Q _ _ _))
theorem mo_wp_X_latest_L60 {v1 : Int} {Q : Int → zM → Prop} {Q' : Int → zM → Prop} (h_Q : ∀ (x0 : Int) (x1 : zM), Q x0 x1 → Q' x0 x1) : ∀ (n : Nat) (σ : zM) (v4 : Int), wp_X_latest_L60 v1 Q n σ v4 → wp_X_latest_L60 v1 Q' n σ v4 := by
  intro n
  induction n with
  | zero => intro σ v4 h; rw [wp_X_latest_L60] at h; exact h.elim
  | succ n ih =>
    intro σ v4
    rw [wp_X_latest_L60, wp_X_latest_L60]
    exact (And.imp (zImp (h_Q _ _)) (zImp (mo_wp_G_at (fun z11 => (mo_wp_B_minute (fun σ14 => (mo_wp_B_leads (fun z15 => (And.imp (zImp (And.imp id (ih _ _))) (zImp (h_Q _ _)))))))))))
theorem mo_wp_X_latest {σ : zM} {v1 : Int} {v2 : Int} {v3 : Int} {Q : Int → zM → Prop} {Q' : Int → zM → Prop} (h_Q : ∀ (x0 : Int) (x1 : zM), Q x0 x1 → Q' x0 x1) : wp_X_latest σ v1 v2 v3 Q → wp_X_latest σ v1 v2 v3 Q' := by
  unfold wp_X_latest
  exact (mo_wp_X_isPlace (fun z1 => (And.imp (zImp (h_Q _ _)) (zImp (mo_wp_X_isPlace (fun z3 => (And.imp (zImp (mo_wp_X_within (fun z5 => (And.imp (zImp (And.imp (zImp (mo_wp_G_prepare (fun σ8 => (mo_wp_B_start (fun σ10 => (Exists.imp fun n18 => (mo_wp_X_latest_L60 h_Q _ _ _))))))) (zImp (h_Q _ _)))) (zImp (h_Q _ _)))))) (zImp (h_Q _ _)))))))))
theorem mo_wp_F_cell {σ : zM} {v0 : Int} {v1 : Int} {Q : Int → Prop} {Q' : Int → Prop} (h_Q : ∀ (x0 : Int), Q x0 → Q' x0) : wp_F_cell σ v0 v1 Q → wp_F_cell σ v0 v1 Q' := by
  unfold wp_F_cell
  exact (And.imp id (h_Q _))
theorem mo_wp_F_push_L8 {σ : zM} {v1 : Int} {v2 : Int} {v3 : Int} {k46 : Int → Prop} {Q : zM → Prop} {k46' : Int → Prop} {Q' : zM → Prop} (h_k46 : ∀ (x0 : Int), k46 x0 → k46' x0) (h_Q : ∀ (x0 : zM), Q x0 → Q' x0) : ∀ (n : Nat) (v4 : Int), wp_F_push_L8 σ v1 v2 v3 k46 Q n v4 → wp_F_push_L8 σ v1 v2 v3 k46' Q' n v4 := by
  intro n
  induction n with
  | zero => intro v4 h; rw [wp_F_push_L8] at h; exact h.elim
  | succ n ih =>
    intro v4
    rw [wp_F_push_L8, wp_F_push_L8]
    exact (And.imp id (And.imp (zImp (h_k46 _)) (zImp (And.imp id (mo_wp_F_cell (fun z4 => (And.imp id (And.imp id (And.imp (zImp (h_k46 _)) (zImp (And.imp id (ih _))))))))))))
theorem mo_wp_F_push_b46 {Q : zM → Prop} {σ : zM} {v1 : Int} {v2 : Int} {v3 : Int} {v4 : Int} {Q' : zM → Prop} (h_Q : ∀ (x0 : zM), Q x0 → Q' x0) : wp_F_push_b46 Q σ v1 v2 v3 v4 → wp_F_push_b46 Q' σ v1 v2 v3 v4 := by
  unfold wp_F_push_b46
  exact (mo_wp_F_cell (fun z10 => (And.imp id (And.imp id (forall_imp fun σ14 => (zImp (And.imp id (And.imp id (forall_imp fun σ17 => (zImp (h_Q _)))))))))))
theorem mo_wp_F_push {σ : zM} {v1 : Int} {v2 : Int} {v3 : Int} {Q : zM → Prop} {Q' : zM → Prop} (h_Q : ∀ (x0 : zM), Q x0 → Q' x0) : wp_F_push σ v1 v2 v3 Q → wp_F_push σ v1 v2 v3 Q' := by
  unfold wp_F_push
  exact (And.imp id (Exists.imp fun n18 => (mo_wp_F_push_L8 (fun u9 => (mo_wp_F_push_b46 h_Q)) h_Q _ _)))
theorem mo_wp_F_start {σ : zM} {v1 : Int} {v2 : Int} {Q : zM → Prop} {Q' : zM → Prop} (h_Q : ∀ (x0 : zM), Q x0 → Q' x0) : wp_F_start σ v1 v2 Q → wp_F_start σ v1 v2 Q' := by
  unfold wp_F_start
  exact (forall_imp fun σ1 => (zImp (forall_imp fun σ2 => (zImp (forall_imp fun σ3 => (zImp (mo_wp_F_push (fun σ5 => (h_Q _)))))))))
theorem mo_wp_F_bestAt_L7 {σ : zM} {v1 : Int} {v2 : Int} {k41 : Int → Prop} {Q : Int → zM → Prop} {k41' : Int → Prop} {Q' : Int → zM → Prop} (h_k41 : ∀ (x0 : Int), k41 x0 → k41' x0) (h_Q : ∀ (x0 : Int) (x1 : zM), Q x0 x1 → Q' x0 x1) : ∀ (n : Nat) (v3 : Int), wp_F_bestAt_L7 σ v1 v2 k41 Q n v3 → wp_F_bestAt_L7 σ v1 v2 k41' Q' n v3 := by
  intro n
  induction n with
  | zero => intro v3 h; rw [wp_F_bestAt_L7] at h; exact h.elim
  | succ n ih =>
    intro v3
    rw [wp_F_bestAt_L7, wp_F_bestAt_L7]
    exact (And.imp id (And.imp (zImp (h_k41 _)) (zImp (mo_wp_F_cell (fun z3 => (And.imp id (And.imp id (And.imp (zImp (h_k41 _)) (zImp (And.imp id (ih _)))))))))))
theorem mo_wp_F_bestAt_b41 {Q : Int → zM → Prop} {σ : zM} {v1 : Int} {v3 : Int} {Q' : Int → zM → Prop} (h_Q : ∀ (x0 : Int) (x1 : zM), Q x0 x1 → Q' x0 x1) : wp_F_bestAt_b41 Q σ v1 v3 → wp_F_bestAt_b41 Q' σ v1 v3 := by
  unfold wp_F_bestAt_b41
  exact (And.imp id (forall_imp fun σ10 => (zImp (And.imp id (And.imp (zImp (h_Q _ _)) (zImp (mo_wp_F_cell (fun z12 => (And.imp id (And.imp id (h_Q _ _)))))))))))
theorem mo_wp_F_bestAt {σ : zM} {v1 : Int} {v2 : Int} {Q : Int → zM → Prop} {Q' : Int → zM → Prop} (h_Q : ∀ (x0 : Int) (x1 : zM), Q x0 x1 → Q' x0 x1) : wp_F_bestAt σ v1 v2 Q → wp_F_bestAt σ v1 v2 Q' := by
  unfold wp_F_bestAt
  exact (And.imp id (Exists.imp fun n16 => (mo_wp_F_bestAt_L7 (fun u8 => (mo_wp_F_bestAt_b41 h_Q)) h_Q _ _)))
theorem mo_wp_F_leave_b62 {Q : zM → Prop} {σ : zM} {v4 : Int} {v5 : Int} {Q' : zM → Prop} (h_Q : ∀ (x0 : zM), Q x0 → Q' x0) : wp_F_leave_b62 Q σ v4 v5 → wp_F_leave_b62 Q' σ v4 v5 := by
  unfold wp_F_leave_b62
  exact (And.imp id (forall_imp fun σ14 => (zImp (h_Q _))))
theorem mo_wp_F_leave {σ : zM} {v2 : Int} {v3 : Int} {Q : zM → Prop} {Q' : zM → Prop} (h_Q : ∀ (x0 : zM), Q x0 → Q' x0) : wp_F_leave σ v2 v3 Q → wp_F_leave σ v2 v3 Q' := by
  unfold wp_F_leave
  exact (mo_wp_S_ofRoads (fun z1 => (And.imp id (And.imp id (And.imp (zImp (mo_wp_S_ofRoads (fun z5 => (mo_wp_S_ofRoads (fun z7 => (And.imp id (mo_wp_F_cell (fun z10 => (And.imp id (And.imp (zImp (mo_wp_F_leave_b62 h_Q)) (zImp (And.imp id (And.imp (zImp (h_Q _)) (zImp (mo_wp_F_leave_b62 h_Q))))))))))))))) (zImp (h_Q _)))))))
theorem mo_wp_F_minute_b56 {v2 : Int} {v3 : Int} {k3 : zM → Int → Prop} {Q : zM → Prop} {σ : zM} {v4 : Int} {k3' : zM → Int → Prop} {Q' : zM → Prop} (h_k3 : ∀ (x0 : zM) (x1 : Int), k3 x0 x1 → k3' x0 x1) (h_Q : ∀ (x0 : zM), Q x0 → Q' x0) : wp_F_minute_b56 v2 v3 k3 Q σ v4 → wp_F_minute_b56 v2 v3 k3' Q' σ v4 := by
  unfold wp_F_minute_b56
  exact (mo_wp_F_bestAt (fun z4 σ5 => (And.imp id (forall_imp fun σ7 => (zImp (And.imp id (h_k3 _ _)))))))
theorem mo_wp_F_minute_L3 {v2 : Int} {v3 : Int} {k76 : zM → Prop} {Q : zM → Prop} {k76' : zM → Prop} {Q' : zM → Prop} (h_k76 : ∀ (x0 : zM), k76 x0 → k76' x0) (h_Q : ∀ (x0 : zM), Q x0 → Q' x0) : ∀ (n : Nat) (σ : zM) (v4 : Int), wp_F_minute_L3 v2 v3 k76 Q n σ v4 → wp_F_minute_L3 v2 v3 k76' Q' n σ v4 := by
  intro n
  induction n with
  | zero => intro σ v4 h; rw [wp_F_minute_L3] at h; exact h.elim
  | succ n ih =>
    intro σ v4
    rw [wp_F_minute_L3, wp_F_minute_L3]
    exact (And.imp (zImp (h_k76 _)) (zImp (mo_wp_F_cell (fun z1 => (And.imp id (And.imp (zImp (mo_wp_F_minute_b56 (fun x0 x1 => ih x0 x1) h_Q)) (zImp (And.imp id (mo_wp_S_waitEnd (fun z10 => (mo_wp_F_push (fun σ13 => (And.imp id (forall_imp fun σ15 => (zImp (mo_wp_F_minute_b56 (fun x0 x1 => ih x0 x1) h_Q))))))))))))))))
theorem mo_wp_F_minute_b105 {v2 : Int} {v3 : Int} {k79 : zM → Int → Prop} {Q : zM → Prop} {σ : zM} {v4 : Int} {k79' : zM → Int → Prop} {Q' : zM → Prop} (h_k79 : ∀ (x0 : zM) (x1 : Int), k79 x0 x1 → k79' x0 x1) (h_Q : ∀ (x0 : zM), Q x0 → Q' x0) : wp_F_minute_b105 v2 v3 k79 Q σ v4 → wp_F_minute_b105 v2 v3 k79' Q' σ v4 := by
  unfold wp_F_minute_b105
  exact (And.imp id (h_k79 _ _))
theorem mo_wp_F_minute_L79 {v2 : Int} {v3 : Int} {Q : zM → Prop} {Q' : zM → Prop} (h_Q : ∀ (x0 : zM), Q x0 → Q' x0) : ∀ (n : Nat) (σ : zM) (v4 : Int), wp_F_minute_L79 v2 v3 Q n σ v4 → wp_F_minute_L79 v2 v3 Q' n σ v4 := by
  intro n
  induction n with
  | zero => intro σ v4 h; rw [wp_F_minute_L79] at h; exact h.elim
  | succ n ih =>
    intro σ v4
    rw [wp_F_minute_L79, wp_F_minute_L79]
    exact (And.imp (zImp (h_Q _)) (zImp (mo_wp_X_has (fun z17 => (And.imp (zImp (mo_wp_F_minute_b105 (fun x0 x1 => ih x0 x1) h_Q)) (zImp (mo_wp_F_leave (fun σ21 => (mo_wp_F_minute_b105 (fun x0 x1 => ih x0 x1) h_Q)))))))))
theorem mo_wp_F_minute {σ : zM} {v2 : Int} {v3 : Int} {Q : zM → Prop} {Q' : zM → Prop} (h_Q : ∀ (x0 : zM), Q x0 → Q' x0) : wp_F_minute σ v2 v3 Q → wp_F_minute σ v2 v3 Q' := by
  unfold wp_F_minute
  exact (Exists.imp fun n23 => (mo_wp_F_minute_L3 (fun σ16 => (Exists.imp fun n22 => (mo_wp_F_minute_L79 h_Q _ _ _))) h_Q _ _ _))
theorem mo_wp_F_comingTo {σ : zM} {v1 : Int} {v2 : Int} {Q : Int → Prop} {Q' : Int → Prop} (h_Q : ∀ (x0 : Int), Q x0 → Q' x0) : wp_F_comingTo σ v1 v2 Q → wp_F_comingTo σ v1 v2 Q' := by
  unfold wp_F_comingTo
  exact (mo_wp_F_cell (fun z1 => (And.imp id (h_Q _))))
theorem mo_wp_X_fewestRoads_L20 {v2 : Int} {v4 : Int} {Q : Int → zM → Prop} {Q' : Int → zM → Prop} (h_Q : ∀ (x0 : Int) (x1 : zM), Q x0 x1 → Q' x0 x1) : ∀ (n : Nat) (σ : zM) (v5 : Int), wp_X_fewestRoads_L20 v2 v4 Q n σ v5 → wp_X_fewestRoads_L20 v2 v4 Q' n σ v5 := by
  intro n
  induction n with
  | zero => intro σ v5 h; rw [wp_X_fewestRoads_L20] at h; exact h.elim
  | succ n ih =>
    intro σ v5
    rw [wp_X_fewestRoads_L20, wp_X_fewestRoads_L20]
    exact (And.imp (zImp (mo_wp_F_comingTo (fun z5 => (h_Q _ _)))) (zImp (mo_wp_G_at (fun z7 => (mo_wp_F_minute (fun σ10 => (And.imp id (ih _ _))))))))
theorem mo_wp_X_fewestRoads {σ : zM} {v1 : Int} {v2 : Int} {v3 : Int} {v4 : Int} {Q : Int → zM → Prop} {Q' : Int → zM → Prop} (h_Q : ∀ (x0 : Int) (x1 : zM), Q x0 x1 → Q' x0 x1) : wp_X_fewestRoads σ v1 v2 v3 v4 Q → wp_X_fewestRoads σ v1 v2 v3 v4 Q' := by
  unfold wp_X_fewestRoads
  exact (mo_wp_S_waitEnd (fun z1 => (mo_wp_F_start (fun σ4 => (Exists.imp fun n12 => (mo_wp_X_fewestRoads_L20 h_Q _ _ _))))))
theorem mo_wp_X_lookBack_L23 {v2 : Int} {Q : zM → Prop} {Q' : zM → Prop} (h_Q : ∀ (x0 : zM), Q x0 → Q' x0) : ∀ (n : Nat) (σ : zM) (v4 : Int), wp_X_lookBack_L23 v2 Q n σ v4 → wp_X_lookBack_L23 v2 Q' n σ v4 := by
  intro n
  induction n with
  | zero => intro σ v4 h; rw [wp_X_lookBack_L23] at h; exact h.elim
  | succ n ih =>
    intro σ v4
    rw [wp_X_lookBack_L23, wp_X_lookBack_L23]
    exact (And.imp (zImp (h_Q _)) (zImp (mo_wp_G_at (fun z5 => (mo_wp_B_minute (fun σ8 => (And.imp id (ih _ _))))))))
theorem mo_wp_X_lookBack {σ : zM} {v1 : Int} {v2 : Int} {v3 : Int} {Q : zM → Prop} {Q' : zM → Prop} (h_Q : ∀ (x0 : zM), Q x0 → Q' x0) : wp_X_lookBack σ v1 v2 v3 Q → wp_X_lookBack σ v1 v2 v3 Q' := by
  unfold wp_X_lookBack
  exact (mo_wp_G_prepare (fun σ2 => (mo_wp_B_start (fun σ4 => (Exists.imp fun n10 => (mo_wp_X_lookBack_L23 h_Q _ _ _))))))
theorem mo_wp_X_leadsOn {σ : zM} {v1 : Int} {v2 : Int} {Q : Int → Prop} {Q' : Int → Prop} (h_Q : ∀ (x0 : Int), Q x0 → Q' x0) : wp_X_leadsOn σ v1 v2 Q → wp_X_leadsOn σ v1 v2 Q' := by
  unfold wp_X_leadsOn
  exact (mo_wp_G_at (fun z1 => (mo_wp_X_has (fun z3 => (And.imp (zImp (h_Q _)) (zImp (mo_wp_S_ofRoads (fun z5 => (mo_wp_S_ofRoads (fun z7 => (And.imp id (mo_wp_B_leads (fun z10 => (And.imp (zImp (h_Q _)) (zImp (h_Q _))))))))))))))))
theorem mo_wp_X_firstEntry_L21 {σ : zM} {v1 : Int} {v3 : Int} {Q : Int → Prop} {Q' : Int → Prop} (h_Q : ∀ (x0 : Int), Q x0 → Q' x0) : ∀ (n : Nat) (v4 : Int), wp_X_firstEntry_L21 σ v1 v3 Q n v4 → wp_X_firstEntry_L21 σ v1 v3 Q' n v4 := by
  intro n
  induction n with
  | zero => intro v4 h; rw [wp_X_firstEntry_L21] at h; exact h.elim
  | succ n ih =>
    intro v4
    rw [wp_X_firstEntry_L21, wp_X_firstEntry_L21]
    exact (And.imp (zImp (h_Q _)) (zImp (mo_wp_X_leadsOn (fun z5 => (And.imp (zImp (And.imp id (ih _))) (zImp (h_Q _)))))))
theorem mo_wp_X_firstEntry {σ : zM} {v1 : Int} {v2 : Int} {Q : Int → Prop} {Q' : Int → Prop} (h_Q : ∀ (x0 : Int), Q x0 → Q' x0) : wp_X_firstEntry σ v1 v2 Q → wp_X_firstEntry σ v1 v2 Q' := by
  unfold wp_X_firstEntry
  exact (mo_wp_S_ofRoads (fun z1 => (mo_wp_S_waitEnd (fun z3 => (Exists.imp fun n8 => (mo_wp_X_firstEntry_L21 h_Q _ _))))))
theorem mo_wp_X_firstRoad_b39 {σ : zM} {v1 : Int} {v2 : Int} {k2 : Int → Prop} {Q : Int → Prop} {v3 : Int} {k2' : Int → Prop} {Q' : Int → Prop} (h_k2 : ∀ (x0 : Int), k2 x0 → k2' x0) (h_Q : ∀ (x0 : Int), Q x0 → Q' x0) : wp_X_firstRoad_b39 σ v1 v2 k2 Q v3 → wp_X_firstRoad_b39 σ v1 v2 k2' Q' v3 := by
  unfold wp_X_firstRoad_b39
  exact (And.imp id (h_k2 _))
theorem mo_wp_X_firstRoad_L2 {σ : zM} {v1 : Int} {v2 : Int} {Q : Int → Prop} {Q' : Int → Prop} (h_Q : ∀ (x0 : Int), Q x0 → Q' x0) : ∀ (n : Nat) (v3 : Int), wp_X_firstRoad_L2 σ v1 v2 Q n v3 → wp_X_firstRoad_L2 σ v1 v2 Q' n v3 := by
  intro n
  induction n with
  | zero => intro v3 h; rw [wp_X_firstRoad_L2] at h; exact h.elim
  | succ n ih =>
    intro v3
    rw [wp_X_firstRoad_L2, wp_X_firstRoad_L2]
    exact (And.imp (zImp (h_Q _)) (zImp (mo_wp_S_ofRoads (fun z1 => (And.imp (zImp (mo_wp_X_firstRoad_b39 (fun x0 => ih x0) h_Q)) (zImp (mo_wp_X_firstEntry (fun z4 => (And.imp (zImp (mo_wp_X_firstRoad_b39 (fun x0 => ih x0) h_Q)) (zImp (h_Q _)))))))))))
theorem mo_wp_X_firstRoad {σ : zM} {v1 : Int} {v2 : Int} {Q : Int → Prop} {Q' : Int → Prop} (h_Q : ∀ (x0 : Int), Q x0 → Q' x0) : wp_X_firstRoad σ v1 v2 Q → wp_X_firstRoad σ v1 v2 Q' := by
  unfold wp_X_firstRoad
  exact (Exists.imp fun n6 => (mo_wp_X_firstRoad_L2 h_Q _ _))
theorem mo_wp_X_lastEntry_L21 {σ : zM} {v1 : Int} {v2 : Int} {Q : Int → Prop} {Q' : Int → Prop} (h_Q : ∀ (x0 : Int), Q x0 → Q' x0) : ∀ (n : Nat) (v4 : Int), wp_X_lastEntry_L21 σ v1 v2 Q n v4 → wp_X_lastEntry_L21 σ v1 v2 Q' n v4 := by
  intro n
  induction n with
  | zero => intro v4 h; rw [wp_X_lastEntry_L21] at h; exact h.elim
  | succ n ih =>
    intro v4
    rw [wp_X_lastEntry_L21, wp_X_lastEntry_L21]
    exact (And.imp (zImp (h_Q _)) (zImp (mo_wp_X_leadsOn (fun z5 => (And.imp (zImp (And.imp id (ih _))) (zImp (h_Q _)))))))
theorem mo_wp_X_lastEntry {σ : zM} {v1 : Int} {v2 : Int} {Q : Int → Prop} {Q' : Int → Prop} (h_Q : ∀ (x0 : Int), Q x0 → Q' x0) : wp_X_lastEntry σ v1 v2 Q → wp_X_lastEntry σ v1 v2 Q' := by
  unfold wp_X_lastEntry
  exact (mo_wp_S_ofRoads (fun z1 => (mo_wp_S_waitEnd (fun z3 => (Exists.imp fun n8 => (mo_wp_X_lastEntry_L21 h_Q _ _))))))
theorem mo_wp_X_way {σ : zM} {v1 : Int} {v2 : Int} {v3 : Int} {v4 : Int} {Q : Int → zM → Prop} {Q' : Int → zM → Prop} (h_Q : ∀ (x0 : Int) (x1 : zM), Q x0 x1 → Q' x0 x1) : wp_X_way σ v1 v2 v3 v4 Q → wp_X_way σ v1 v2 v3 v4 Q' := by
  unfold wp_X_way
  exact (mo_wp_X_isPlace (fun z1 => (And.imp (zImp (h_Q _ _)) (zImp (mo_wp_X_isPlace (fun z3 => (And.imp (zImp (mo_wp_X_within (fun z5 => (And.imp (zImp (h_Q _ _)) (zImp (mo_wp_X_within (fun z7 => (And.imp (zImp (And.imp (zImp (mo_wp_X_earliestTime (fun z9 σ10 => (And.imp (zImp (And.imp (zImp (mo_wp_X_lookBack (fun σ12 => (mo_wp_X_firstRoad (fun z13 => (And.imp (zImp (h_Q _ _)) (zImp (And.imp (zImp (And.imp (zImp (mo_wp_X_lastEntry (fun z15 => (h_Q _ _)))) (zImp (mo_wp_X_firstEntry (fun z17 => (h_Q _ _)))))) (zImp (h_Q _ _)))))))))) (zImp (mo_wp_X_fewestRoads (fun z19 σ20 => (h_Q _ _)))))) (zImp (h_Q _ _)))))) (zImp (And.imp (zImp (h_Q _ _)) (zImp (h_Q _ _)))))) (zImp (h_Q _ _)))))))))) (zImp (h_Q _ _)))))))))
theorem mo_wp_X_reach_L77 {v3 : Int} {Q : Int → zM → Prop} {Q' : Int → zM → Prop} (h_Q : ∀ (x0 : Int) (x1 : zM), Q x0 x1 → Q' x0 x1) : ∀ (n : Nat) (σ : zM) (v4 : Int) (v5 : Int), wp_X_reach_L77 v3 Q n σ v4 v5 → wp_X_reach_L77 v3 Q' n σ v4 v5 := by
  intro n
  induction n with
  | zero => intro σ v4 v5 h; rw [wp_X_reach_L77] at h; exact h.elim
  | succ n ih =>
    intro σ v4 v5
    rw [wp_X_reach_L77, wp_X_reach_L77]
    exact (And.imp (zImp (h_Q _ _)) (zImp (mo_wp_O_comersAt (fun z13 => (mo_wp_G_at (fun z15 => (mo_wp_O_minute (fun z17 σ18 => (And.imp id (ih _ _ _))))))))))
theorem mo_wp_X_reach {σ : zM} {v1 : Int} {v2 : Int} {v3 : Int} {Q : Int → zM → Prop} {Q' : Int → zM → Prop} (h_Q : ∀ (x0 : Int) (x1 : zM), Q x0 x1 → Q' x0 x1) : wp_X_reach σ v1 v2 v3 Q → wp_X_reach σ v1 v2 v3 Q' := by
  unfold wp_X_reach
  exact (mo_wp_X_isPlace (fun z1 => (And.imp (zImp (mo_wp_X_within (fun z3 => (And.imp (zImp (h_Q _ _)) (zImp (mo_wp_X_within (fun z5 => (And.imp (zImp (And.imp (zImp (mo_wp_G_prepare (fun σ8 => (mo_wp_S_waitEnd (fun z9 => (mo_wp_O_start (fun σ12 => (Exists.imp fun n20 => (mo_wp_X_reach_L77 h_Q _ _ _ _))))))))) (zImp (h_Q _ _)))) (zImp (h_Q _ _)))))))))) (zImp (h_Q _ _)))))
theorem mo_wp_X_roadLeadingOn_b37 {σ : zM} {v1 : Int} {v2 : Int} {k2 : Int → Prop} {Q : Int → Prop} {v3 : Int} {k2' : Int → Prop} {Q' : Int → Prop} (h_k2 : ∀ (x0 : Int), k2 x0 → k2' x0) (h_Q : ∀ (x0 : Int), Q x0 → Q' x0) : wp_X_roadLeadingOn_b37 σ v1 v2 k2 Q v3 → wp_X_roadLeadingOn_b37 σ v1 v2 k2' Q' v3 := by
  unfold wp_X_roadLeadingOn_b37
  exact (And.imp id (h_k2 _))
theorem mo_wp_X_roadLeadingOn_L2 {σ : zM} {v1 : Int} {v2 : Int} {Q : Int → Prop} {Q' : Int → Prop} (h_Q : ∀ (x0 : Int), Q x0 → Q' x0) : ∀ (n : Nat) (v3 : Int), wp_X_roadLeadingOn_L2 σ v1 v2 Q n v3 → wp_X_roadLeadingOn_L2 σ v1 v2 Q' n v3 := by
  intro n
  induction n with
  | zero => intro v3 h; rw [wp_X_roadLeadingOn_L2] at h; exact h.elim
  | succ n ih =>
    intro v3
    rw [wp_X_roadLeadingOn_L2, wp_X_roadLeadingOn_L2]
    exact (And.imp (zImp (h_Q _)) (zImp (mo_wp_S_ofRoads (fun z1 => (And.imp (zImp (mo_wp_X_roadLeadingOn_b37 (fun x0 => ih x0) h_Q)) (zImp (mo_wp_X_leadsOn (fun z4 => (And.imp (zImp (mo_wp_X_roadLeadingOn_b37 (fun x0 => ih x0) h_Q)) (zImp (h_Q _)))))))))))
theorem mo_wp_X_roadLeadingOn {σ : zM} {v1 : Int} {v2 : Int} {Q : Int → Prop} {Q' : Int → Prop} (h_Q : ∀ (x0 : Int), Q x0 → Q' x0) : wp_X_roadLeadingOn σ v1 v2 Q → wp_X_roadLeadingOn σ v1 v2 Q' := by
  unfold wp_X_roadLeadingOn
  exact (Exists.imp fun n6 => (mo_wp_X_roadLeadingOn_L2 h_Q _ _))
theorem mo_wp_X_roadsOfOneWay_b78 {σ : zM} {v2 : Int} {k9 : Int → Int → Int → Prop} {Q : Int → Prop} {v4 : Int} {v5 : Int} {v6 : Int} {k9' : Int → Int → Int → Prop} {Q' : Int → Prop} (h_k9 : ∀ (x0 : Int) (x1 : Int) (x2 : Int), k9 x0 x1 x2 → k9' x0 x1 x2) (h_Q : ∀ (x0 : Int), Q x0 → Q' x0) : wp_X_roadsOfOneWay_b78 σ v2 k9 Q v4 v5 v6 → wp_X_roadsOfOneWay_b78 σ v2 k9' Q' v4 v5 v6 := by
  unfold wp_X_roadsOfOneWay_b78
  exact (And.imp id (h_k9 _ _ _))
theorem mo_wp_X_roadsOfOneWay_L9 {σ : zM} {v2 : Int} {Q : Int → Prop} {Q' : Int → Prop} (h_Q : ∀ (x0 : Int), Q x0 → Q' x0) : ∀ (n : Nat) (v4 : Int) (v5 : Int) (v6 : Int), wp_X_roadsOfOneWay_L9 σ v2 Q n v4 v5 v6 → wp_X_roadsOfOneWay_L9 σ v2 Q' n v4 v5 v6 := by
  intro n
  induction n with
  | zero => intro v4 v5 v6 h; rw [wp_X_roadsOfOneWay_L9] at h; exact h.elim
  | succ n ih =>
    intro v4 v5 v6
    rw [wp_X_roadsOfOneWay_L9, wp_X_roadsOfOneWay_L9]
    exact (And.imp (zImp (h_Q _)) (zImp (And.imp (zImp (h_Q _)) (zImp (mo_wp_X_roadLeadingOn (fun z1 => (And.imp (zImp (mo_wp_X_roadsOfOneWay_b78 (fun x0 x1 x2 => ih x0 x1 x2) h_Q)) (zImp (mo_wp_S_ofRoads (fun z4 => (mo_wp_S_ofRoads (fun z6 => (And.imp id (mo_wp_X_roadsOfOneWay_b78 (fun x0 x1 x2 => ih x0 x1 x2) h_Q))))))))))))))
theorem mo_wp_X_roadsOfOneWay {σ : zM} {v1 : Int} {v2 : Int} {v3 : Int} {Q : Int → Prop} {Q' : Int → Prop} (h_Q : ∀ (x0 : Int), Q x0 → Q' x0) : wp_X_roadsOfOneWay σ v1 v2 v3 Q → wp_X_roadsOfOneWay σ v1 v2 v3 Q' := by
  unfold wp_X_roadsOfOneWay
  exact (Exists.imp fun n9 => (mo_wp_X_roadsOfOneWay_L9 h_Q _ _ _ _))
theorem mo_wp_X_needed_b140 {v1 : Int} {v2 : Int} {v3 : Int} {v4 : Int} {v5 : Int} {v6 : Int} {k89 : zM → Int → Int → Prop} {Q : Int → zM → Prop} {σ : zM} {v7 : Int} {v8 : Int} {k89' : zM → Int → Int → Prop} {Q' : Int → zM → Prop} (h_k89 : ∀ (x0 : zM) (x1 : Int) (x2 : Int), k89 x0 x1 x2 → k89' x0 x1 x2) (h_Q : ∀ (x0 : Int) (x1 : zM), Q x0 x1 → Q' x0 x1) : wp_X_needed_b140 v1 v2 v3 v4 v5 v6 k89 Q σ v7 v8 → wp_X_needed_b140 v1 v2 v3 v4 v5 v6 k89' Q' σ v7 v8 := by
  unfold wp_X_needed_b140
  exact (And.imp id (h_k89 _ _ _))
theorem mo_wp_X_needed_L89 {v1 : Int} {v2 : Int} {v3 : Int} {v4 : Int} {v5 : Int} {v6 : Int} {Q : Int → zM → Prop} {Q' : Int → zM → Prop} (h_Q : ∀ (x0 : Int) (x1 : zM), Q x0 x1 → Q' x0 x1) : ∀ (n : Nat) (σ : zM) (v7 : Int) (v8 : Int), wp_X_needed_L89 v1 v2 v3 v4 v5 v6 Q n σ v7 v8 → wp_X_needed_L89 v1 v2 v3 v4 v5 v6 Q' n σ v7 v8 := by
  intro n
  induction n with
  | zero => intro σ v7 v8 h; rw [wp_X_needed_L89] at h; exact h.elim
  | succ n ih =>
    intro σ v7 v8
    rw [wp_X_needed_L89, wp_X_needed_L89]
    exact (And.imp (zImp (h_Q _ _)) (zImp (mo_wp_X_has (fun z15 => (And.imp (zImp (mo_wp_X_needed_b140 (fun x0 x1 x2 => ih x0 x1 x2) h_Q)) (zImp (mo_wp_X_firstComing (fun z18 σ19 => (And.imp (zImp (mo_wp_X_needed_b140 (fun x0 x1 x2 => ih x0 x1 x2) h_Q)) (zImp (mo_wp_X_needed_b140 (fun x0 x1 x2 => ih x0 x1 x2) h_Q)))))))))))
theorem mo_wp_X_needed {σ : zM} {v1 : Int} {v2 : Int} {v3 : Int} {Q : Int → zM → Prop} {Q' : Int → zM → Prop} (h_Q : ∀ (x0 : Int) (x1 : zM), Q x0 x1 → Q' x0 x1) : wp_X_needed σ v1 v2 v3 Q → wp_X_needed σ v1 v2 v3 Q' := by
  unfold wp_X_needed
  exact (mo_wp_X_isPlace (fun z1 => (And.imp (zImp (h_Q _ _)) (zImp (mo_wp_X_isPlace (fun z3 => (And.imp (zImp (mo_wp_X_within (fun z5 => (And.imp (zImp (And.imp (zImp (mo_wp_X_earliestTime (fun z7 σ8 => (And.imp (zImp (mo_wp_X_lookBack (fun σ10 => (mo_wp_X_roadsOfOneWay (fun z11 => (mo_wp_S_waitEnd (fun z13 => (Exists.imp fun n20 => (mo_wp_X_needed_L89 h_Q _ _ _ _))))))))) (zImp (h_Q _ _)))))) (zImp (h_Q _ _)))) (zImp (h_Q _ _)))))) (zImp (h_Q _ _)))))))))
theorem mo_wp_S_stayLeft {σ : zM} {v1 : Int} {Q : Int → Prop} {Q' : Int → Prop} (h_Q : ∀ (x0 : Int), Q x0 → Q' x0) : wp_S_stayLeft σ v1 Q → wp_S_stayLeft σ v1 Q' := by
  unfold wp_S_stayLeft
  exact (mo_wp_S_ofTravellers (fun z1 => (mo_wp_S_ofTravellers (fun z3 => (mo_wp_S_ofTravellers (fun z5 => (mo_wp_S_ofRooms (fun z7 => (And.imp id (mo_wp_S_openUntil (fun z10 => (forall_imp fun t12 => (zImp (And.imp id (h_Q _)))))))))))))))
theorem mo_wp_In_bitCount {σ : zM} {v0 : Int} {Q : Int → Prop} {Q' : Int → Prop} (h_Q : ∀ (x0 : Int), Q x0 → Q' x0) : wp_In_bitCount σ v0 Q → wp_In_bitCount σ v0 Q' := by
  unfold wp_In_bitCount
  exact (And.imp id (forall_imp fun t2 => (zImp (And.imp id (forall_imp fun t4 => (zImp (forall_imp fun t5 => (zImp (And.imp id (And.imp id (forall_imp fun t8 => (zImp (h_Q _)))))))))))))
theorem mo_wp_X_lowest {σ : zM} {v0 : Int} {Q : Int → Prop} {Q' : Int → Prop} (h_Q : ∀ (x0 : Int), Q x0 → Q' x0) : wp_X_lowest σ v0 Q → wp_X_lowest σ v0 Q' := by
  unfold wp_X_lowest
  exact (And.imp id (mo_wp_In_bitCount (fun z2 => (h_Q _))))
theorem mo_wp_X_meet_b205 {v3 : Int} {v4 : Int} {v5 : Int} {k132 : zM → Int → Prop} {Q : Int → zM → Prop} {σ : zM} {v6 : Int} {v8 : Int} {s0 : Int} {k132' : zM → Int → Prop} {Q' : Int → zM → Prop} (h_k132 : ∀ (x0 : zM) (x1 : Int), k132 x0 x1 → k132' x0 x1) (h_Q : ∀ (x0 : Int) (x1 : zM), Q x0 x1 → Q' x0 x1) : wp_X_meet_b205 v3 v4 v5 k132 Q σ v6 v8 s0 → wp_X_meet_b205 v3 v4 v5 k132' Q' σ v6 v8 s0 := by
  unfold wp_X_meet_b205
  exact (And.imp (zImp (And.imp id (h_k132 _ _))) (zImp (And.imp (zImp (mo_wp_X_lowest (fun z34 => (h_Q _ _)))) (zImp (h_Q _ _)))))
theorem mo_wp_X_meet_b177 {v3 : Int} {v4 : Int} {v5 : Int} {k132 : zM → Int → Prop} {Q : Int → zM → Prop} {σ : zM} {v6 : Int} {v7 : Int} {s0 : Int} {k132' : zM → Int → Prop} {Q' : Int → zM → Prop} (h_k132 : ∀ (x0 : zM) (x1 : Int), k132 x0 x1 → k132' x0 x1) (h_Q : ∀ (x0 : Int) (x1 : zM), Q x0 x1 → Q' x0 x1) : wp_X_meet_b177 v3 v4 v5 k132 Q σ v6 v7 s0 → wp_X_meet_b177 v3 v4 v5 k132' Q' σ v6 v7 s0 := by
  unfold wp_X_meet_b177
  exact (And.imp (zImp (mo_wp_O_minute (fun z31 σ32 => (mo_wp_X_meet_b205 h_k132 h_Q)))) (zImp (mo_wp_X_meet_b205 h_k132 h_Q)))
theorem mo_wp_X_meet_L132 {v3 : Int} {v4 : Int} {v5 : Int} {Q : Int → zM → Prop} {Q' : Int → zM → Prop} (h_Q : ∀ (x0 : Int) (x1 : zM), Q x0 x1 → Q' x0 x1) : ∀ (n : Nat) (σ : zM) (v6 : Int), wp_X_meet_L132 v3 v4 v5 Q n σ v6 → wp_X_meet_L132 v3 v4 v5 Q' n σ v6 := by
  intro n
  induction n with
  | zero => intro σ v6 h; rw [wp_X_meet_L132] at h; exact h.elim
  | succ n ih =>
    intro σ v6
    rw [wp_X_meet_L132, wp_X_meet_L132]
    exact (And.imp (zImp (h_Q _ _)) (zImp (mo_wp_G_at (fun z27 => (And.imp (zImp (mo_wp_O_minute (fun z29 σ30 => (mo_wp_X_meet_b177 (fun x0 x1 => ih x0 x1) h_Q)))) (zImp (mo_wp_X_meet_b177 (fun x0 x1 => ih x0 x1) h_Q)))))))
theorem mo_wp_X_meet {σ : zM} {v1 : Int} {v2 : Int} {v3 : Int} {Q : Int → zM → Prop} {Q' : Int → zM → Prop} (h_Q : ∀ (x0 : Int) (x1 : zM), Q x0 x1 → Q' x0 x1) : wp_X_meet σ v1 v2 v3 Q → wp_X_meet σ v1 v2 v3 Q' := by
  unfold wp_X_meet
  exact (mo_wp_S_hasTraveller (fun z1 => (And.imp (zImp (h_Q _ _)) (zImp (mo_wp_S_hasTraveller (fun z3 => (And.imp (zImp (mo_wp_X_within (fun z5 => (And.imp (zImp (mo_wp_G_prepare (fun σ8 => (mo_wp_S_ofTravellers (fun z9 => (mo_wp_S_ofTravellers (fun z11 => (mo_wp_S_ofTravellers (fun z13 => (mo_wp_S_stayLeft (fun z15 => (And.imp id (mo_wp_O_start (fun σ19 => (mo_wp_S_ofTravellers (fun z20 => (mo_wp_S_stayLeft (fun z22 => (And.imp id (mo_wp_O_start (fun σ26 => (Exists.imp fun n36 => (mo_wp_X_meet_L132 h_Q _ _ _))))))))))))))))))))))) (zImp (h_Q _ _)))))) (zImp (h_Q _ _)))))))))
theorem mo_wp_X_arrives {σ : zM} {v1 : Int} {v2 : Int} {Q : Int → zM → Prop} {Q' : Int → zM → Prop} (h_Q : ∀ (x0 : Int) (x1 : zM), Q x0 x1 → Q' x0 x1) : wp_X_arrives σ v1 v2 Q → wp_X_arrives σ v1 v2 Q' := by
  unfold wp_X_arrives
  exact (mo_wp_S_hasTraveller (fun z1 => (And.imp (zImp (h_Q _ _)) (zImp (mo_wp_X_isPlace (fun z3 => (And.imp (zImp (mo_wp_S_ofTravellers (fun z5 => (mo_wp_S_ofTravellers (fun z7 => (And.imp (zImp (mo_wp_S_stayLeft (fun z9 => (And.imp id (mo_wp_X_firstComing (fun z12 σ13 => (h_Q _ _))))))) (zImp (h_Q _ _)))))))) (zImp (h_Q _ _)))))))))
theorem mo_wp_X_canStay {σ : zM} {v1 : Int} {Q : Int → Prop} {Q' : Int → Prop} (h_Q : ∀ (x0 : Int), Q x0 → Q' x0) : wp_X_canStay σ v1 Q → wp_X_canStay σ v1 Q' := by
  unfold wp_X_canStay
  exact (mo_wp_S_hasTraveller (fun z1 => (And.imp (zImp (h_Q _)) (zImp (mo_wp_S_stayLeft (fun z3 => (h_Q _)))))))
theorem mo_wp_X_charactersIn_L2 {σ : zM} {v0 : Int64} {Q : Int → Prop} {Q' : Int → Prop} (h_Q : ∀ (x0 : Int), Q x0 → Q' x0) : ∀ (n : Nat) (v2 : Int), wp_X_charactersIn_L2 σ v0 Q n v2 → wp_X_charactersIn_L2 σ v0 Q' n v2 := by
  intro n
  induction n with
  | zero => intro v2 h; rw [wp_X_charactersIn_L2] at h; exact h.elim
  | succ n ih =>
    intro v2
    rw [wp_X_charactersIn_L2, wp_X_charactersIn_L2]
    exact (And.imp (zImp (h_Q _)) (zImp (And.imp (zImp (And.imp (zImp (h_Q _)) (zImp (And.imp (zImp (And.imp id (ih _))) (zImp (h_Q _)))))) (zImp (h_Q _)))))
theorem mo_wp_X_charactersIn {σ : zM} {v0 : Int64} {Q : Int → Prop} {Q' : Int → Prop} (h_Q : ∀ (x0 : Int), Q x0 → Q' x0) : wp_X_charactersIn σ v0 Q → wp_X_charactersIn σ v0 Q' := by
  unfold wp_X_charactersIn
  exact (Exists.imp fun n2 => (mo_wp_X_charactersIn_L2 h_Q _ _))
theorem mo_wp_P_append {σ : zM} {v1 : Int} {Q : zM → Prop} {Q' : zM → Prop} (h_Q : ∀ (x0 : zM), Q x0 → Q' x0) : wp_P_append σ v1 Q → wp_P_append σ v1 Q' := by
  unfold wp_P_append
  exact (And.imp (zImp (h_Q _)) (zImp (And.imp id (And.imp id (forall_imp fun σ3 => (zImp (And.imp id (forall_imp fun σ5 => (zImp (h_Q _))))))))))
theorem mo_wp_X_put_L34 {v1 : Int64} {Q : Int → zM → Prop} {Q' : Int → zM → Prop} (h_Q : ∀ (x0 : Int) (x1 : zM), Q x0 x1 → Q' x0 x1) : ∀ (n : Nat) (σ : zM) (v4 : Int), wp_X_put_L34 v1 Q n σ v4 → wp_X_put_L34 v1 Q' n σ v4 := by
  intro n
  induction n with
  | zero => intro σ v4 h; rw [wp_X_put_L34] at h; exact h.elim
  | succ n ih =>
    intro σ v4
    rw [wp_X_put_L34, wp_X_put_L34]
    exact (And.imp (zImp (h_Q _ _)) (zImp (And.imp id (mo_wp_P_append (fun σ7 => (And.imp id (ih _ _)))))))
theorem mo_wp_X_put {σ : zM} {v1 : Int64} {Q : Int → zM → Prop} {Q' : Int → zM → Prop} (h_Q : ∀ (x0 : Int) (x1 : zM), Q x0 x1 → Q' x0 x1) : wp_X_put σ v1 Q → wp_X_put σ v1 Q' := by
  unfold wp_X_put
  exact (mo_wp_X_charactersIn (fun z1 => (And.imp (zImp (And.imp id (And.imp (zImp (And.imp id (Exists.imp fun n9 => (mo_wp_X_put_L34 h_Q _ _ _)))) (zImp (h_Q _ _))))) (zImp (h_Q _ _)))))
theorem mo_wp_X_wipe {σ : zM} {Q : Int → zM → Prop} {Q' : Int → zM → Prop} (h_Q : ∀ (x0 : Int) (x1 : zM), Q x0 x1 → Q' x0 x1) : wp_X_wipe σ Q → wp_X_wipe σ Q' := by
  unfold wp_X_wipe
  exact (forall_imp fun σ1 => (zImp (h_Q _ _)))
theorem mo_wp_P_rewind {σ : zM} {Q : zM → Prop} {Q' : zM → Prop} (h_Q : ∀ (x0 : zM), Q x0 → Q' x0) : wp_P_rewind σ Q → wp_P_rewind σ Q' := by
  unfold wp_P_rewind
  exact (forall_imp fun σ1 => (zImp (forall_imp fun σ2 => (zImp (h_Q _)))))
theorem mo_wp_P_digitStands {σ : zM} {v1 : Int} {Q : Int → Prop} {Q' : Int → Prop} (h_Q : ∀ (x0 : Int), Q x0 → Q' x0) : wp_P_digitStands σ v1 Q → wp_P_digitStands σ v1 Q' := by
  unfold wp_P_digitStands
  exact (And.imp (zImp (h_Q _)) (zImp (And.imp (zImp (h_Q _)) (zImp (And.imp id (And.imp (zImp (h_Q _)) (zImp (And.imp id (And.imp id (And.imp (zImp (h_Q _)) (zImp (h_Q _))))))))))))
theorem mo_wp_P_readDigit {σ : zM} {v1 : Int} {Q : Int → zM → Prop} {Q' : Int → zM → Prop} (h_Q : ∀ (x0 : Int) (x1 : zM), Q x0 x1 → Q' x0 x1) : wp_P_readDigit σ v1 Q → wp_P_readDigit σ v1 Q' := by
  unfold wp_P_readDigit
  exact (mo_wp_P_digitStands (fun z1 => (And.imp (zImp (And.imp id (forall_imp fun σ4 => (zImp (And.imp id (And.imp id (h_Q _ _))))))) (zImp (forall_imp fun σ7 => (zImp (h_Q _ _)))))))
theorem mo_wp_P_readNumber_L9 {Q : Int → zM → Prop} {Q' : Int → zM → Prop} (h_Q : ∀ (x0 : Int) (x1 : zM), Q x0 x1 → Q' x0 x1) : ∀ (n : Nat) (σ : zM) (v1 : Int) (v2 : Int), wp_P_readNumber_L9 Q n σ v1 v2 → wp_P_readNumber_L9 Q' n σ v1 v2 := by
  intro n
  induction n with
  | zero => intro σ v1 v2 h; rw [wp_P_readNumber_L9] at h; exact h.elim
  | succ n ih =>
    intro σ v1 v2
    rw [wp_P_readNumber_L9, wp_P_readNumber_L9]
    exact (And.imp (zImp (h_Q _ _)) (zImp (And.imp (zImp (h_Q _ _)) (zImp (mo_wp_P_digitStands (fun z3 => (And.imp (zImp (h_Q _ _)) (zImp (And.imp id (And.imp id (forall_imp fun t7 => (zImp (And.imp (zImp (And.imp id (forall_imp fun σ9 => (zImp (And.imp id (ih _ _ _)))))) (zImp (h_Q _ _)))))))))))))))
theorem mo_wp_P_readNumber {σ : zM} {Q : Int → zM → Prop} {Q' : Int → zM → Prop} (h_Q : ∀ (x0 : Int) (x1 : zM), Q x0 x1 → Q' x0 x1) : wp_P_readNumber σ Q → wp_P_readNumber σ Q' := by
  unfold wp_P_readNumber
  exact (mo_wp_P_readDigit (fun z1 σ2 => (Exists.imp fun n11 => (mo_wp_P_readNumber_L9 h_Q _ _ _ _))))
theorem mo_wp_P_stands {σ : zM} {v1 : Int} {Q : Int → Prop} {Q' : Int → Prop} (h_Q : ∀ (x0 : Int), Q x0 → Q' x0) : wp_P_stands σ v1 Q → wp_P_stands σ v1 Q' := by
  unfold wp_P_stands
  exact (And.imp (zImp (h_Q _)) (zImp (And.imp (zImp (h_Q _)) (zImp (And.imp id (And.imp (zImp (h_Q _)) (zImp (h_Q _))))))))
theorem mo_wp_P_take {σ : zM} {v1 : Int} {Q : Int → zM → Prop} {Q' : Int → zM → Prop} (h_Q : ∀ (x0 : Int) (x1 : zM), Q x0 x1 → Q' x0 x1) : wp_P_take σ v1 Q → wp_P_take σ v1 Q' := by
  unfold wp_P_take
  exact (mo_wp_P_stands (fun z1 => (And.imp (zImp (And.imp id (forall_imp fun σ4 => (zImp (h_Q _ _))))) (zImp (h_Q _ _)))))
theorem mo_wp_P_expect {σ : zM} {v1 : Int} {Q : zM → Prop} {Q' : zM → Prop} (h_Q : ∀ (x0 : zM), Q x0 → Q' x0) : wp_P_expect σ v1 Q → wp_P_expect σ v1 Q' := by
  unfold wp_P_expect
  exact (mo_wp_P_take (fun z1 σ2 => (And.imp (zImp (h_Q _)) (zImp (forall_imp fun σ3 => (zImp (h_Q _)))))))
theorem mo_wp_P_readClock_b74 {Q : Int → zM → Prop} {σ : zM} {v2 : Int} {s0 : Int} {s2 : Int} {Q' : Int → zM → Prop} (h_Q : ∀ (x0 : Int) (x1 : zM), Q x0 x1 → Q' x0 x1) : wp_P_readClock_b74 Q σ v2 s0 s2 → wp_P_readClock_b74 Q' σ v2 s0 s2 := by
  unfold wp_P_readClock_b74
  exact (mo_wp_P_readDigit (fun z10 σ11 => (And.imp id (And.imp id (h_Q _ _)))))
theorem mo_wp_P_readClock_b53 {Q : Int → zM → Prop} {σ : zM} {v2 : Int} {v3 : Int} {s1 : Int} {Q' : Int → zM → Prop} (h_Q : ∀ (x0 : Int) (x1 : zM), Q x0 x1 → Q' x0 x1) : wp_P_readClock_b53 Q σ v2 v3 s1 → wp_P_readClock_b53 Q' σ v2 v3 s1 := by
  unfold wp_P_readClock_b53
  exact (mo_wp_P_readDigit (fun z7 σ8 => (And.imp id (And.imp (zImp (mo_wp_P_readClock_b74 h_Q)) (zImp (mo_wp_P_readClock_b74 h_Q))))))
theorem mo_wp_P_readClock_b42 {Q : Int → zM → Prop} {σ : zM} {v2 : Int} {s0 : Int} {Q' : Int → zM → Prop} (h_Q : ∀ (x0 : Int) (x1 : zM), Q x0 x1 → Q' x0 x1) : wp_P_readClock_b42 Q σ v2 s0 → wp_P_readClock_b42 Q' σ v2 s0 := by
  unfold wp_P_readClock_b42
  exact (And.imp (zImp (mo_wp_P_readClock_b53 h_Q)) (zImp (mo_wp_P_readClock_b53 h_Q)))
theorem mo_wp_P_readClock_b22 {Q : Int → zM → Prop} {σ : zM} {s0 : Int} {s2 : Int} {Q' : Int → zM → Prop} (h_Q : ∀ (x0 : Int) (x1 : zM), Q x0 x1 → Q' x0 x1) : wp_P_readClock_b22 Q σ s0 s2 → wp_P_readClock_b22 Q' σ s0 s2 := by
  unfold wp_P_readClock_b22
  exact (mo_wp_P_readDigit (fun z3 σ4 => (And.imp id (And.imp id (And.imp (zImp (mo_wp_P_readClock_b42 h_Q)) (zImp (mo_wp_P_readClock_b42 h_Q)))))))
theorem mo_wp_P_readClock {σ : zM} {Q : Int → zM → Prop} {Q' : Int → zM → Prop} (h_Q : ∀ (x0 : Int) (x1 : zM), Q x0 x1 → Q' x0 x1) : wp_P_readClock σ Q → wp_P_readClock σ Q' := by
  unfold wp_P_readClock
  exact (mo_wp_P_readDigit (fun z1 σ2 => (And.imp (zImp (And.imp id (mo_wp_P_readClock_b22 h_Q))) (zImp (And.imp id (mo_wp_P_readClock_b22 h_Q))))))
theorem mo_wp_P_readSpans_b105 {k23 : zM → Int → Prop} {Q : zM → Prop} {σ : zM} {s0 : Int} {k23' : zM → Int → Prop} {Q' : zM → Prop} (h_k23 : ∀ (x0 : zM) (x1 : Int), k23 x0 x1 → k23' x0 x1) (h_Q : ∀ (x0 : zM), Q x0 → Q' x0) : wp_P_readSpans_b105 k23 Q σ s0 → wp_P_readSpans_b105 k23' Q' σ s0 := by
  unfold wp_P_readSpans_b105
  exact (h_k23 _ _)
theorem mo_wp_P_readSpans_b104 {k23 : zM → Int → Prop} {Q : zM → Prop} {σ : zM} {k23' : zM → Int → Prop} {Q' : zM → Prop} (h_k23 : ∀ (x0 : zM) (x1 : Int), k23 x0 x1 → k23' x0 x1) (h_Q : ∀ (x0 : zM), Q x0 → Q' x0) : wp_P_readSpans_b104 k23 Q σ → wp_P_readSpans_b104 k23' Q' σ := by
  unfold wp_P_readSpans_b104
  exact (mo_wp_P_readSpans_b105 h_k23 h_Q)
theorem mo_wp_P_readSpans_L23 {k109 : zM → Prop} {Q : zM → Prop} {k109' : zM → Prop} {Q' : zM → Prop} (h_k109 : ∀ (x0 : zM), k109 x0 → k109' x0) (h_Q : ∀ (x0 : zM), Q x0 → Q' x0) : ∀ (n : Nat) (σ : zM) (v1 : Int), wp_P_readSpans_L23 k109 Q n σ v1 → wp_P_readSpans_L23 k109' Q' n σ v1 := by
  intro n
  induction n with
  | zero => intro σ v1 h; rw [wp_P_readSpans_L23] at h; exact h.elim
  | succ n ih =>
    intro σ v1
    rw [wp_P_readSpans_L23, wp_P_readSpans_L23]
    exact (And.imp (zImp (h_k109 _)) (zImp (And.imp (zImp (h_k109 _)) (zImp (mo_wp_P_readClock (fun z7 σ8 => (And.imp id (forall_imp fun σ10 => (zImp (mo_wp_P_expect (fun σ12 => (mo_wp_P_readClock (fun z13 σ14 => (And.imp id (forall_imp fun σ16 => (zImp (And.imp id (forall_imp fun σ18 => (zImp (And.imp (zImp (mo_wp_P_readSpans_b104 (fun x0 x1 => ih x0 x1) h_Q)) (zImp (mo_wp_P_take (fun z19 σ20 => (And.imp (zImp (mo_wp_P_readSpans_b104 (fun x0 x1 => ih x0 x1) h_Q)) (zImp (mo_wp_P_readSpans_b105 (fun x0 x1 => ih x0 x1) h_Q))))))))))))))))))))))))))
theorem mo_wp_P_readSpans_b109 {Q : zM → Prop} {σ : zM} {Q' : zM → Prop} (h_Q : ∀ (x0 : zM), Q x0 → Q' x0) : wp_P_readSpans_b109 Q σ → wp_P_readSpans_b109 Q' σ := by
  unfold wp_P_readSpans_b109
  exact (mo_wp_P_take (fun z22 σ23 => (And.imp (zImp (forall_imp fun σ24 => (zImp (h_Q _)))) (zImp (forall_imp fun σ25 => (zImp (h_Q _)))))))
theorem mo_wp_P_readSpans {σ : zM} {Q : zM → Prop} {Q' : zM → Prop} (h_Q : ∀ (x0 : zM), Q x0 → Q' x0) : wp_P_readSpans σ Q → wp_P_readSpans σ Q' := by
  unfold wp_P_readSpans
  exact (mo_wp_P_readNumber (fun z1 σ2 => (forall_imp fun σ3 => (zImp (mo_wp_P_expect (fun σ5 => (forall_imp fun σ6 => (zImp (Exists.imp fun n26 => (mo_wp_P_readSpans_L23 (fun σ21 => (mo_wp_P_readSpans_b109 h_Q)) h_Q _ _ _))))))))))
theorem mo_wp_P_readClosure {σ : zM} {Q : zM → Prop} {Q' : zM → Prop} (h_Q : ∀ (x0 : zM), Q x0 → Q' x0) : wp_P_readClosure σ Q → wp_P_readClosure σ Q' := by
  unfold wp_P_readClosure
  exact (mo_wp_P_readNumber (fun z1 σ2 => (forall_imp fun σ3 => (zImp (mo_wp_P_expect (fun σ5 => (mo_wp_P_readNumber (fun z6 σ7 => (forall_imp fun σ8 => (zImp (mo_wp_P_expect (fun σ10 => (mo_wp_P_readNumber (fun z11 σ12 => (forall_imp fun σ13 => (zImp (h_Q _)))))))))))))))))
theorem mo_wp_P_readDigitAndNumber {σ : zM} {v1 : Int} {Q : zM → Prop} {Q' : zM → Prop} (h_Q : ∀ (x0 : zM), Q x0 → Q' x0) : wp_P_readDigitAndNumber σ v1 Q → wp_P_readDigitAndNumber σ v1 Q' := by
  unfold wp_P_readDigitAndNumber
  exact (mo_wp_P_readDigit (fun z1 σ2 => (forall_imp fun σ3 => (zImp (mo_wp_P_expect (fun σ5 => (mo_wp_P_readNumber (fun z6 σ7 => (forall_imp fun σ8 => (zImp (h_Q _)))))))))))
theorem mo_wp_P_readOrder_b33 {Q : zM → Prop} {σ : zM} {s1 : Int} {Q' : zM → Prop} (h_Q : ∀ (x0 : zM), Q x0 → Q' x0) : wp_P_readOrder_b33 Q σ s1 → wp_P_readOrder_b33 Q' σ s1 := by
  unfold wp_P_readOrder_b33
  exact (forall_imp fun σ1 => (zImp (And.imp (zImp (And.imp id (forall_imp fun σ3 => (zImp (mo_wp_P_readDigitAndNumber (fun σ5 => (h_Q _))))))) (And.imp (zImp (And.imp id (forall_imp fun σ7 => (zImp (mo_wp_P_readSpans (fun σ9 => (h_Q _))))))) (And.imp (zImp (And.imp id (forall_imp fun σ11 => (zImp (mo_wp_P_readDigitAndNumber (fun σ13 => (h_Q _))))))) (And.imp (zImp (And.imp id (forall_imp fun σ15 => (zImp (mo_wp_P_readClosure (fun σ17 => (h_Q _))))))) (zImp (forall_imp fun σ18 => (zImp (h_Q _))))))))))
theorem mo_wp_P_readOrder_b31 {Q : zM → Prop} {σ : zM} {Q' : zM → Prop} (h_Q : ∀ (x0 : zM), Q x0 → Q' x0) : wp_P_readOrder_b31 Q σ → wp_P_readOrder_b31 Q' σ := by
  unfold wp_P_readOrder_b31
  exact (mo_wp_P_readOrder_b33 h_Q)
theorem mo_wp_P_readOrder {σ : zM} {Q : zM → Prop} {Q' : zM → Prop} (h_Q : ∀ (x0 : zM), Q x0 → Q' x0) : wp_P_readOrder σ Q → wp_P_readOrder σ Q' := by
  unfold wp_P_readOrder
  exact (And.imp (zImp (mo_wp_P_readOrder_b31 h_Q)) (zImp (And.imp (zImp (mo_wp_P_readOrder_b31 h_Q)) (zImp (And.imp id (mo_wp_P_readOrder_b33 h_Q))))))
theorem mo_wp_P_firstWrong_b56 {k8 : zM → Int → Int → Prop} {Q : Int → zM → Prop} {σ : zM} {v1 : Int} {v2 : Int} {k8' : zM → Int → Int → Prop} {Q' : Int → zM → Prop} (h_k8 : ∀ (x0 : zM) (x1 : Int) (x2 : Int), k8 x0 x1 x2 → k8' x0 x1 x2) (h_Q : ∀ (x0 : Int) (x1 : zM), Q x0 x1 → Q' x0 x1) : wp_P_firstWrong_b56 k8 Q σ v1 v2 → wp_P_firstWrong_b56 k8' Q' σ v1 v2 := by
  unfold wp_P_firstWrong_b56
  exact (And.imp id (h_k8 _ _ _))
theorem mo_wp_P_firstWrong_b45 {k8 : zM → Int → Int → Prop} {Q : Int → zM → Prop} {σ : zM} {v2 : Int} {s0 : Int} {k8' : zM → Int → Int → Prop} {Q' : Int → zM → Prop} (h_k8 : ∀ (x0 : zM) (x1 : Int) (x2 : Int), k8 x0 x1 x2 → k8' x0 x1 x2) (h_Q : ∀ (x0 : Int) (x1 : zM), Q x0 x1 → Q' x0 x1) : wp_P_firstWrong_b45 k8 Q σ v2 s0 → wp_P_firstWrong_b45 k8' Q' σ v2 s0 := by
  unfold wp_P_firstWrong_b45
  exact (And.imp (zImp (mo_wp_P_firstWrong_b56 h_k8 h_Q)) (zImp (mo_wp_P_expect (fun σ7 => (mo_wp_P_firstWrong_b56 h_k8 h_Q)))))
theorem mo_wp_P_firstWrong_b44 {k8 : zM → Int → Int → Prop} {Q : Int → zM → Prop} {σ : zM} {v2 : Int} {k8' : zM → Int → Int → Prop} {Q' : Int → zM → Prop} (h_k8 : ∀ (x0 : zM) (x1 : Int) (x2 : Int), k8 x0 x1 x2 → k8' x0 x1 x2) (h_Q : ∀ (x0 : Int) (x1 : zM), Q x0 x1 → Q' x0 x1) : wp_P_firstWrong_b44 k8 Q σ v2 → wp_P_firstWrong_b44 k8' Q' σ v2 := by
  unfold wp_P_firstWrong_b44
  exact (mo_wp_P_firstWrong_b45 h_k8 h_Q)
theorem mo_wp_P_firstWrong_L8 {k62 : zM → Prop} {Q : Int → zM → Prop} {k62' : zM → Prop} {Q' : Int → zM → Prop} (h_k62 : ∀ (x0 : zM), k62 x0 → k62' x0) (h_Q : ∀ (x0 : Int) (x1 : zM), Q x0 x1 → Q' x0 x1) : ∀ (n : Nat) (σ : zM) (v1 : Int) (v2 : Int), wp_P_firstWrong_L8 k62 Q n σ v1 v2 → wp_P_firstWrong_L8 k62' Q' n σ v1 v2 := by
  intro n
  induction n with
  | zero => intro σ v1 v2 h; rw [wp_P_firstWrong_L8] at h; exact h.elim
  | succ n ih =>
    intro σ v1 v2
    rw [wp_P_firstWrong_L8, wp_P_firstWrong_L8]
    exact (And.imp (zImp (h_k62 _)) (zImp (And.imp (zImp (h_k62 _)) (zImp (mo_wp_P_readOrder (fun σ4 => (And.imp (zImp (mo_wp_P_firstWrong_b44 (fun x0 x1 x2 => ih x0 x1 x2) h_Q)) (zImp (And.imp (zImp (mo_wp_P_firstWrong_b44 (fun x0 x1 x2 => ih x0 x1 x2) h_Q)) (zImp (mo_wp_P_firstWrong_b45 (fun x0 x1 x2 => ih x0 x1 x2) h_Q)))))))))))
theorem mo_wp_P_firstWrong_b62 {Q : Int → zM → Prop} {σ : zM} {Q' : Int → zM → Prop} (h_Q : ∀ (x0 : Int) (x1 : zM), Q x0 x1 → Q' x0 x1) : wp_P_firstWrong_b62 Q σ → wp_P_firstWrong_b62 Q' σ := by
  unfold wp_P_firstWrong_b62
  exact (And.imp (zImp (h_Q _ _)) (zImp (h_Q _ _)))
theorem mo_wp_P_firstWrong {σ : zM} {Q : Int → zM → Prop} {Q' : Int → zM → Prop} (h_Q : ∀ (x0 : Int) (x1 : zM), Q x0 x1 → Q' x0 x1) : wp_P_firstWrong σ Q → wp_P_firstWrong σ Q' := by
  unfold wp_P_firstWrong
  exact (mo_wp_P_rewind (fun σ2 => (Exists.imp fun n9 => (mo_wp_P_firstWrong_L8 (fun σ8 => (mo_wp_P_firstWrong_b62 h_Q)) h_Q _ _ _ _))))
theorem mo_wp_X_fault {σ : zM} {Q : Int → zM → Prop} {Q' : Int → zM → Prop} (h_Q : ∀ (x0 : Int) (x1 : zM), Q x0 x1 → Q' x0 x1) : wp_X_fault σ Q → wp_X_fault σ Q' := by
  unfold wp_X_fault
  exact (mo_wp_P_firstWrong (fun z1 σ2 => (h_Q _ _)))
theorem mo_wp_P_spanFrom {σ : zM} {v1 : Int} {Q : Int → Prop} {Q' : Int → Prop} (h_Q : ∀ (x0 : Int), Q x0 → Q' x0) : wp_P_spanFrom σ v1 Q → wp_P_spanFrom σ v1 Q' := by
  unfold wp_P_spanFrom
  exact (And.imp id (h_Q _))
theorem mo_wp_P_spanTo {σ : zM} {v1 : Int} {Q : Int → Prop} {Q' : Int → Prop} (h_Q : ∀ (x0 : Int), Q x0 → Q' x0) : wp_P_spanTo σ v1 Q → wp_P_spanTo σ v1 Q' := by
  unfold wp_P_spanTo
  exact (And.imp id (h_Q _))
theorem mo_wp_P_spansStandApart_b60 {σ : zM} {v1 : Int} {k27 : Int → Prop} {Q : Int → Prop} {v2 : Int} {k27' : Int → Prop} {Q' : Int → Prop} (h_k27 : ∀ (x0 : Int), k27 x0 → k27' x0) (h_Q : ∀ (x0 : Int), Q x0 → Q' x0) : wp_P_spansStandApart_b60 σ v1 k27 Q v2 → wp_P_spansStandApart_b60 σ v1 k27' Q' v2 := by
  unfold wp_P_spansStandApart_b60
  exact (And.imp id (h_k27 _))
theorem mo_wp_P_spansStandApart_L27 {σ : zM} {v1 : Int} {k66 : Prop} {Q : Int → Prop} {k66' : Prop} {Q' : Int → Prop} (h_k66 : k66 → k66') (h_Q : ∀ (x0 : Int), Q x0 → Q' x0) : ∀ (n : Nat) (v2 : Int), wp_P_spansStandApart_L27 σ v1 k66 Q n v2 → wp_P_spansStandApart_L27 σ v1 k66' Q' n v2 := by
  intro n
  induction n with
  | zero => intro v2 h; rw [wp_P_spansStandApart_L27] at h; exact h.elim
  | succ n ih =>
    intro v2
    rw [wp_P_spansStandApart_L27, wp_P_spansStandApart_L27]
    exact (And.imp (zImp h_k66) (zImp (mo_wp_P_spanFrom (fun z5 => (mo_wp_P_spanTo (fun z7 => (And.imp (zImp (mo_wp_P_spansStandApart_b60 (fun x0 => ih x0) h_Q)) (zImp (mo_wp_P_spanFrom (fun z10 => (mo_wp_P_spanTo (fun z12 => (And.imp (zImp (mo_wp_P_spansStandApart_b60 (fun x0 => ih x0) h_Q)) (zImp (h_Q _)))))))))))))))
theorem mo_wp_P_spansStandApart_L2 {σ : zM} {Q : Int → Prop} {Q' : Int → Prop} (h_Q : ∀ (x0 : Int), Q x0 → Q' x0) : ∀ (n : Nat) (v1 : Int), wp_P_spansStandApart_L2 σ Q n v1 → wp_P_spansStandApart_L2 σ Q' n v1 := by
  intro n
  induction n with
  | zero => intro v1 h; rw [wp_P_spansStandApart_L2] at h; exact h.elim
  | succ n ih =>
    intro v1
    rw [wp_P_spansStandApart_L2, wp_P_spansStandApart_L2]
    exact (And.imp (zImp (h_Q _)) (zImp (mo_wp_P_spanFrom (fun z1 => (mo_wp_P_spanTo (fun z3 => (And.imp (zImp (Exists.imp fun n15 => (mo_wp_P_spansStandApart_L27 (And.imp id (ih _)) h_Q _ _))) (zImp (h_Q _)))))))))
theorem mo_wp_P_spansStandApart {σ : zM} {Q : Int → Prop} {Q' : Int → Prop} (h_Q : ∀ (x0 : Int), Q x0 → Q' x0) : wp_P_spansStandApart σ Q → wp_P_spansStandApart σ Q' := by
  unfold wp_P_spansStandApart
  exact (Exists.imp fun n16 => (mo_wp_P_spansStandApart_L2 h_Q _ _))
theorem mo_wp_X_tellSpans_L43 {v1 : Int} {Q : Int → zM → Prop} {Q' : Int → zM → Prop} (h_Q : ∀ (x0 : Int) (x1 : zM), Q x0 x1 → Q' x0 x1) : ∀ (n : Nat) (σ : zM) (v2 : Int), wp_X_tellSpans_L43 v1 Q n σ v2 → wp_X_tellSpans_L43 v1 Q' n σ v2 := by
  intro n
  induction n with
  | zero => intro σ v2 h; rw [wp_X_tellSpans_L43] at h; exact h.elim
  | succ n ih =>
    intro σ v2
    rw [wp_X_tellSpans_L43, wp_X_tellSpans_L43]
    exact (And.imp (zImp (h_Q _ _)) (zImp (mo_wp_P_spanFrom (fun z7 => (mo_wp_P_spanTo (fun z9 => (mo_wp_S_addSpan (fun σ12 => (And.imp id (ih _ _))))))))))
theorem mo_wp_X_tellSpans {σ : zM} {v1 : Int} {Q : Int → zM → Prop} {Q' : Int → zM → Prop} (h_Q : ∀ (x0 : Int) (x1 : zM), Q x0 x1 → Q' x0 x1) : wp_X_tellSpans σ v1 Q → wp_X_tellSpans σ v1 Q' := by
  unfold wp_X_tellSpans
  exact (mo_wp_S_hasRoad (fun z1 => (And.imp (zImp (mo_wp_P_spansStandApart (fun z3 => (And.imp (zImp (mo_wp_S_dropSpans (fun σ6 => (Exists.imp fun n14 => (mo_wp_X_tellSpans_L43 h_Q _ _ _))))) (zImp (h_Q _ _)))))) (zImp (h_Q _ _)))))
theorem mo_wp_X_carryOrder {σ : zM} {Q : Int → zM → Prop} {Q' : Int → zM → Prop} (h_Q : ∀ (x0 : Int) (x1 : zM), Q x0 x1 → Q' x0 x1) : wp_X_carryOrder σ Q → wp_X_carryOrder σ Q' := by
  unfold wp_X_carryOrder
  exact (And.imp (zImp (mo_wp_X_go (fun z1 σ2 => (h_Q _ _)))) (And.imp (zImp (mo_wp_X_tellSpans (fun z3 σ4 => (h_Q _ _)))) (And.imp (zImp (mo_wp_X_stay (fun z5 σ6 => (h_Q _ _)))) (And.imp (zImp (mo_wp_X_close (fun z7 σ8 => (h_Q _ _)))) (zImp (h_Q _ _))))))
theorem mo_wp_X_carryOut_b84 {k37 : zM → Int → Int → Int → Prop} {Q : Int → zM → Prop} {σ : zM} {v1 : Int} {v2 : Int} {v3 : Int} {k37' : zM → Int → Int → Int → Prop} {Q' : Int → zM → Prop} (h_k37 : ∀ (x0 : zM) (x1 : Int) (x2 : Int) (x3 : Int), k37 x0 x1 x2 x3 → k37' x0 x1 x2 x3) (h_Q : ∀ (x0 : Int) (x1 : zM), Q x0 x1 → Q' x0 x1) : wp_X_carryOut_b84 k37 Q σ v1 v2 v3 → wp_X_carryOut_b84 k37' Q' σ v1 v2 v3 := by
  unfold wp_X_carryOut_b84
  exact (And.imp id (h_k37 _ _ _ _))
theorem mo_wp_X_carryOut_b66 {k37 : zM → Int → Int → Int → Prop} {Q : Int → zM → Prop} {σ : zM} {v1 : Int} {v3 : Int} {s0 : Int} {k37' : zM → Int → Int → Int → Prop} {Q' : Int → zM → Prop} (h_k37 : ∀ (x0 : zM) (x1 : Int) (x2 : Int) (x3 : Int), k37 x0 x1 x2 x3 → k37' x0 x1 x2 x3) (h_Q : ∀ (x0 : Int) (x1 : zM), Q x0 x1 → Q' x0 x1) : wp_X_carryOut_b66 k37 Q σ v1 v3 s0 → wp_X_carryOut_b66 k37' Q' σ v1 v3 s0 := by
  unfold wp_X_carryOut_b66
  exact (And.imp (zImp (mo_wp_X_carryOut_b84 h_k37 h_Q)) (zImp (And.imp id (mo_wp_P_take (fun z14 σ15 => (mo_wp_X_carryOut_b84 h_k37 h_Q))))))
theorem mo_wp_X_carryOut_L37 {k90 : zM → Int → Prop} {Q : Int → zM → Prop} {k90' : zM → Int → Prop} {Q' : Int → zM → Prop} (h_k90 : ∀ (x0 : zM) (x1 : Int), k90 x0 x1 → k90' x0 x1) (h_Q : ∀ (x0 : Int) (x1 : zM), Q x0 x1 → Q' x0 x1) : ∀ (n : Nat) (σ : zM) (v1 : Int) (v2 : Int) (v3 : Int), wp_X_carryOut_L37 k90 Q n σ v1 v2 v3 → wp_X_carryOut_L37 k90' Q' n σ v1 v2 v3 := by
  intro n
  induction n with
  | zero => intro σ v1 v2 v3 h; rw [wp_X_carryOut_L37] at h; exact h.elim
  | succ n ih =>
    intro σ v1 v2 v3
    rw [wp_X_carryOut_L37, wp_X_carryOut_L37]
    exact (And.imp (zImp (h_k90 _ _)) (zImp (And.imp (zImp (h_k90 _ _)) (zImp (mo_wp_P_readOrder (fun σ9 => (mo_wp_X_carryOrder (fun z10 σ11 => (And.imp (zImp (mo_wp_X_carryOut_b66 (fun x0 x1 x2 x3 => ih x0 x1 x2 x3) h_Q)) (zImp (mo_wp_X_carryOut_b66 (fun x0 x1 x2 x3 => ih x0 x1 x2 x3) h_Q)))))))))))
theorem mo_wp_X_carryOut_b90 {Q : Int → zM → Prop} {σ : zM} {v1 : Int} {Q' : Int → zM → Prop} (h_Q : ∀ (x0 : Int) (x1 : zM), Q x0 x1 → Q' x0 x1) : wp_X_carryOut_b90 Q σ v1 → wp_X_carryOut_b90 Q' σ v1 := by
  unfold wp_X_carryOut_b90
  exact (forall_imp fun σ18 => (zImp (forall_imp fun σ19 => (zImp (h_Q _ _)))))
theorem mo_wp_X_carryOut {σ : zM} {Q : Int → zM → Prop} {Q' : Int → zM → Prop} (h_Q : ∀ (x0 : Int) (x1 : zM), Q x0 x1 → Q' x0 x1) : wp_X_carryOut σ Q → wp_X_carryOut σ Q' := by
  unfold wp_X_carryOut
  exact (mo_wp_P_firstWrong (fun z1 σ2 => (And.imp (zImp (mo_wp_X_remember (fun σ4 => (forall_imp fun σ5 => (zImp (mo_wp_P_rewind (fun σ7 => (Exists.imp fun n20 => (mo_wp_X_carryOut_L37 (fun σ16 u17 => (mo_wp_X_carryOut_b90 h_Q)) h_Q _ _ _ _ _))))))))) (zImp (h_Q _ _)))))
theorem mo_wp_X_undo {σ : zM} {Q : Int → zM → Prop} {Q' : Int → zM → Prop} (h_Q : ∀ (x0 : Int) (x1 : zM), Q x0 x1 → Q' x0 x1) : wp_X_undo σ Q → wp_X_undo σ Q' := by
  unfold wp_X_undo
  exact (And.imp (zImp (And.imp id (forall_imp fun σ2 => (zImp (And.imp id (And.imp id (mo_wp_S_copyFrom (fun σ6 => (forall_imp fun σ7 => (zImp (h_Q _ _))))))))))) (zImp (h_Q _ _)))
theorem mo_wp_X_save {σ : zM} {v1 : Int} {Q : Int → zM → Prop} {Q' : Int → zM → Prop} (h_Q : ∀ (x0 : Int) (x1 : zM), Q x0 x1 → Q' x0 x1) : wp_X_save σ v1 Q → wp_X_save σ v1 Q' := by
  unfold wp_X_save
  exact (mo_wp_X_within (fun z1 => (And.imp (zImp (And.imp id (And.imp id (mo_wp_S_copyFrom (fun σ6 => (And.imp id (forall_imp fun σ8 => (zImp (h_Q _ _))))))))) (zImp (h_Q _ _)))))
theorem mo_wp_X_restore {σ : zM} {v1 : Int} {Q : Int → zM → Prop} {Q' : Int → zM → Prop} (h_Q : ∀ (x0 : Int) (x1 : zM), Q x0 x1 → Q' x0 x1) : wp_X_restore σ v1 Q → wp_X_restore σ v1 Q' := by
  unfold wp_X_restore
  exact (mo_wp_X_within (fun z1 => (And.imp (zImp (h_Q _ _)) (zImp (And.imp id (And.imp (zImp (mo_wp_X_remember (fun σ5 => (And.imp id (And.imp id (mo_wp_S_copyFrom (fun σ9 => (h_Q _ _)))))))) (zImp (h_Q _ _))))))))
theorem mo_wp_M_undo_L22 {Q : Int → zM → Prop} {Q' : Int → zM → Prop} (h_Q : ∀ (x0 : Int) (x1 : zM), Q x0 x1 → Q' x0 x1) : ∀ (n : Nat) (σ : zM) (v1 : Int), wp_M_undo_L22 Q n σ v1 → wp_M_undo_L22 Q' n σ v1 := by
  intro n
  induction n with
  | zero => intro σ v1 h; rw [wp_M_undo_L22] at h; exact h.elim
  | succ n ih =>
    intro σ v1
    rw [wp_M_undo_L22, wp_M_undo_L22]
    exact (And.imp (zImp (h_Q _ _)) (zImp (And.imp id (And.imp id (forall_imp fun σ5 => (zImp (And.imp id (ih _ _))))))))
theorem mo_wp_M_undo {σ : zM} {Q : Int → zM → Prop} {Q' : Int → zM → Prop} (h_Q : ∀ (x0 : Int) (x1 : zM), Q x0 x1 → Q' x0 x1) : wp_M_undo σ Q → wp_M_undo σ Q' := by
  unfold wp_M_undo
  exact (And.imp (zImp (And.imp id (forall_imp fun σ2 => (zImp (Exists.imp fun n7 => (mo_wp_M_undo_L22 h_Q _ _ _)))))) (zImp (h_Q _ _)))
theorem mo_wp_M_isIn {σ : zM} {v0 : Int} {v1 : Int} {v2 : Int} {Q : Int → Prop} {Q' : Int → Prop} (h_Q : ∀ (x0 : Int), Q x0 → Q' x0) : wp_M_isIn σ v0 v1 v2 Q → wp_M_isIn σ v0 v1 v2 Q' := by
  unfold wp_M_isIn
  exact (And.imp (zImp (h_Q _)) (zImp (And.imp (zImp (h_Q _)) (zImp (h_Q _)))))
theorem mo_wp_M_save_L13 {v1 : Int} {Q : Int → zM → Prop} {Q' : Int → zM → Prop} (h_Q : ∀ (x0 : Int) (x1 : zM), Q x0 x1 → Q' x0 x1) : ∀ (n : Nat) (σ : zM) (v2 : Int), wp_M_save_L13 v1 Q n σ v2 → wp_M_save_L13 v1 Q' n σ v2 := by
  intro n
  induction n with
  | zero => intro σ v2 h; rw [wp_M_save_L13] at h; exact h.elim
  | succ n ih =>
    intro σ v2
    rw [wp_M_save_L13, wp_M_save_L13]
    exact (And.imp (zImp (And.imp id (forall_imp fun σ4 => (zImp (h_Q _ _))))) (zImp (And.imp id (And.imp id (forall_imp fun σ7 => (zImp (And.imp id (ih _ _))))))))
theorem mo_wp_M_save {σ : zM} {v1 : Int} {Q : Int → zM → Prop} {Q' : Int → zM → Prop} (h_Q : ∀ (x0 : Int) (x1 : zM), Q x0 x1 → Q' x0 x1) : wp_M_save σ v1 Q → wp_M_save σ v1 Q' := by
  unfold wp_M_save
  exact (mo_wp_M_isIn (fun z1 => (And.imp (zImp (Exists.imp fun n9 => (mo_wp_M_save_L13 h_Q _ _ _))) (zImp (h_Q _ _)))))
theorem mo_wp_M_records_L52 {Q : zM → Prop} {Q' : zM → Prop} (h_Q : ∀ (x0 : zM), Q x0 → Q' x0) : ∀ (n : Nat) (σ : zM) (v1 : Int), wp_M_records_L52 Q n σ v1 → wp_M_records_L52 Q' n σ v1 := by
  intro n
  induction n with
  | zero => intro σ v1 h; rw [wp_M_records_L52] at h; exact h.elim
  | succ n ih =>
    intro σ v1
    rw [wp_M_records_L52, wp_M_records_L52]
    exact (And.imp (zImp (And.imp id (forall_imp fun σ2 => (zImp (h_Q _))))) (zImp (And.imp id (And.imp id (forall_imp fun σ5 => (zImp (And.imp id (ih _ _))))))))
theorem mo_wp_M_records_b50 {Q : zM → Prop} {σ : zM} {Q' : zM → Prop} (h_Q : ∀ (x0 : zM), Q x0 → Q' x0) : wp_M_records_b50 Q σ → wp_M_records_b50 Q' σ := by
  unfold wp_M_records_b50
  exact (Exists.imp fun n7 => (mo_wp_M_records_L52 h_Q _ _ _))
theorem mo_wp_M_records_L11 {k40 : zM → Prop} {Q : zM → Prop} {k40' : zM → Prop} {Q' : zM → Prop} (h_k40 : ∀ (x0 : zM), k40 x0 → k40' x0) (h_Q : ∀ (x0 : zM), Q x0 → Q' x0) : ∀ (n : Nat) (σ : zM) (v1 : Int), wp_M_records_L11 k40 Q n σ v1 → wp_M_records_L11 k40' Q' n σ v1 := by
  intro n
  induction n with
  | zero => intro σ v1 h; rw [wp_M_records_L11] at h; exact h.elim
  | succ n ih =>
    intro σ v1
    rw [wp_M_records_L11, wp_M_records_L11]
    exact (And.imp (zImp (h_k40 _)) (zImp (And.imp id (And.imp id (forall_imp fun σ10 => (zImp (And.imp id (ih _ _))))))))
theorem mo_wp_M_records {σ : zM} {Q : zM → Prop} {Q' : zM → Prop} (h_Q : ∀ (x0 : zM), Q x0 → Q' x0) : wp_M_records σ Q → wp_M_records σ Q' := by
  unfold wp_M_records
  exact (And.imp (zImp (mo_wp_M_records_b50 h_Q)) (zImp (Exists.imp fun n15 => (mo_wp_M_records_L11 (fun σ12 => (And.imp id (forall_imp fun σ14 => (zImp (mo_wp_M_records_b50 h_Q))))) h_Q _ _ _))))
theorem mo_wp_M_restore_L26 {v1 : Int} {Q : Int → zM → Prop} {Q' : Int → zM → Prop} (h_Q : ∀ (x0 : Int) (x1 : zM), Q x0 x1 → Q' x0 x1) : ∀ (n : Nat) (σ : zM) (v2 : Int), wp_M_restore_L26 v1 Q n σ v2 → wp_M_restore_L26 v1 Q' n σ v2 := by
  intro n
  induction n with
  | zero => intro σ v2 h; rw [wp_M_restore_L26] at h; exact h.elim
  | succ n ih =>
    intro σ v2
    rw [wp_M_restore_L26, wp_M_restore_L26]
    exact (And.imp (zImp (h_Q _ _)) (zImp (And.imp id (And.imp id (forall_imp fun σ8 => (zImp (And.imp id (ih _ _))))))))
theorem mo_wp_M_restore {σ : zM} {v1 : Int} {Q : Int → zM → Prop} {Q' : Int → zM → Prop} (h_Q : ∀ (x0 : Int) (x1 : zM), Q x0 x1 → Q' x0 x1) : wp_M_restore σ v1 Q → wp_M_restore σ v1 Q' := by
  unfold wp_M_restore
  exact (mo_wp_M_isIn (fun z1 => (And.imp (zImp (h_Q _ _)) (zImp (And.imp id (And.imp (zImp (mo_wp_M_records (fun σ5 => (Exists.imp fun n10 => (mo_wp_M_restore_L26 h_Q _ _ _))))) (zImp (h_Q _ _))))))))
theorem mo_wp_M_isPlace {σ : zM} {v0 : Int} {Q : Int → Prop} {Q' : Int → Prop} (h_Q : ∀ (x0 : Int), Q x0 → Q' x0) : wp_M_isPlace σ v0 Q → wp_M_isPlace σ v0 Q' := by
  unfold wp_M_isPlace
  exact (mo_wp_M_isIn (fun z1 => (And.imp id (h_Q _))))
theorem mo_wp_M_room {σ : zM} {v1 : Int} {v2 : Int} {v3 : Int} {v4 : Int} {Q : Int → zM → Prop} {Q' : Int → zM → Prop} (h_Q : ∀ (x0 : Int) (x1 : zM), Q x0 x1 → Q' x0 x1) : wp_M_room σ v1 v2 v3 v4 Q → wp_M_room σ v1 v2 v3 v4 Q' := by
  unfold wp_M_room
  exact (mo_wp_M_isPlace (fun z1 => (And.imp (zImp (mo_wp_M_isIn (fun z3 => (And.imp (zImp (h_Q _ _)) (zImp (mo_wp_M_isIn (fun z5 => (And.imp (zImp (h_Q _ _)) (zImp (mo_wp_M_isIn (fun z7 => (And.imp (zImp (mo_wp_M_records (fun σ10 => (And.imp id (forall_imp fun t12 => (zImp (And.imp id (forall_imp fun σ14 => (zImp (And.imp id (forall_imp fun σ16 => (zImp (And.imp id (forall_imp fun σ18 => (zImp (h_Q _ _)))))))))))))))) (zImp (h_Q _ _)))))))))))))) (zImp (h_Q _ _)))))
theorem mo_wp_M_road {σ : zM} {v1 : Int} {v2 : Int} {v3 : Int} {Q : Int → zM → Prop} {Q' : Int → zM → Prop} (h_Q : ∀ (x0 : Int) (x1 : zM), Q x0 x1 → Q' x0 x1) : wp_M_road σ v1 v2 v3 Q → wp_M_road σ v1 v2 v3 Q' := by
  unfold wp_M_road
  exact (mo_wp_M_isPlace (fun z1 => (And.imp (zImp (h_Q _ _)) (zImp (mo_wp_M_isPlace (fun z3 => (And.imp (zImp (h_Q _ _)) (zImp (And.imp (zImp (mo_wp_M_isIn (fun z5 => (And.imp (zImp (And.imp (zImp (mo_wp_M_records (fun σ8 => (And.imp id (And.imp id (forall_imp fun σ11 => (zImp (And.imp id (forall_imp fun σ13 => (zImp (And.imp id (forall_imp fun σ15 => (zImp (And.imp id (forall_imp fun σ17 => (zImp (And.imp id (forall_imp fun σ19 => (zImp (And.imp id (forall_imp fun σ21 => (zImp (And.imp id (forall_imp fun σ23 => (zImp (And.imp id (forall_imp fun σ25 => (zImp (And.imp id (forall_imp fun σ27 => (zImp (And.imp id (h_Q _ _))))))))))))))))))))))))))))))))) (zImp (h_Q _ _)))) (zImp (h_Q _ _)))))) (zImp (h_Q _ _)))))))))))
theorem mo_wp_M_isRoad {σ : zM} {v1 : Int} {Q : Int → Prop} {Q' : Int → Prop} (h_Q : ∀ (x0 : Int), Q x0 → Q' x0) : wp_M_isRoad σ v1 Q → wp_M_isRoad σ v1 Q' := by
  unfold wp_M_isRoad
  exact (And.imp id (mo_wp_M_isIn (fun z2 => (And.imp id (h_Q _)))))
theorem mo_wp_M_isSpan {σ : zM} {v0 : Int} {v1 : Int} {v2 : Int} {Q : Int → Prop} {Q' : Int → Prop} (h_Q : ∀ (x0 : Int), Q x0 → Q' x0) : wp_M_isSpan σ v0 v1 v2 Q → wp_M_isSpan σ v0 v1 v2 Q' := by
  unfold wp_M_isSpan
  exact (And.imp id (mo_wp_M_isIn (fun z2 => (And.imp (zImp (h_Q _)) (zImp (And.imp id (mo_wp_M_isIn (fun z5 => (And.imp (zImp (h_Q _)) (zImp (h_Q _)))))))))))
theorem mo_wp_M_open {σ : zM} {v1 : Int} {v2 : Int} {v3 : Int} {v4 : Int} {Q : Int → zM → Prop} {Q' : Int → zM → Prop} (h_Q : ∀ (x0 : Int) (x1 : zM), Q x0 x1 → Q' x0 x1) : wp_M_open σ v1 v2 v3 v4 Q → wp_M_open σ v1 v2 v3 v4 Q' := by
  unfold wp_M_open
  exact (mo_wp_M_isRoad (fun z1 => (And.imp (zImp (mo_wp_M_isSpan (fun z3 => (And.imp (zImp (h_Q _ _)) (zImp (mo_wp_M_isIn (fun z5 => (And.imp (zImp (mo_wp_M_records (fun σ8 => (And.imp id (And.imp id (forall_imp fun t11 => (zImp (And.imp id (forall_imp fun σ13 => (zImp (And.imp id (forall_imp fun σ15 => (zImp (And.imp id (forall_imp fun σ17 => (zImp (And.imp id (forall_imp fun σ19 => (zImp (h_Q _ _)))))))))))))))))))) (zImp (h_Q _ _)))))))))) (zImp (h_Q _ _)))))
theorem mo_wp_M_ofR {σ : zM} {v1 : Int} {v2 : Int} {Q : Int → Prop} {Q' : Int → Prop} (h_Q : ∀ (x0 : Int), Q x0 → Q' x0) : wp_M_ofR σ v1 v2 Q → wp_M_ofR σ v1 v2 Q' := by
  unfold wp_M_ofR
  exact (And.imp id (h_Q _))
theorem mo_wp_M_isTaken_b59 {σ : zM} {v1 : Int} {v2 : Int} {v3 : Int} {k6 : Int → Int → Prop} {Q : Int → Prop} {v5 : Int} {s0 : Int} {k6' : Int → Int → Prop} {Q' : Int → Prop} (h_k6 : ∀ (x0 : Int) (x1 : Int), k6 x0 x1 → k6' x0 x1) (h_Q : ∀ (x0 : Int), Q x0 → Q' x0) : wp_M_isTaken_b59 σ v1 v2 v3 k6 Q v5 s0 → wp_M_isTaken_b59 σ v1 v2 v3 k6' Q' v5 s0 := by
  unfold wp_M_isTaken_b59
  exact (And.imp id (h_k6 _ _))
theorem mo_wp_M_isTaken_b54 {σ : zM} {v1 : Int} {v2 : Int} {v3 : Int} {k6 : Int → Int → Prop} {Q : Int → Prop} {v5 : Int} {k6' : Int → Int → Prop} {Q' : Int → Prop} (h_k6 : ∀ (x0 : Int) (x1 : Int), k6 x0 x1 → k6' x0 x1) (h_Q : ∀ (x0 : Int), Q x0 → Q' x0) : wp_M_isTaken_b54 σ v1 v2 v3 k6 Q v5 → wp_M_isTaken_b54 σ v1 v2 v3 k6' Q' v5 := by
  unfold wp_M_isTaken_b54
  exact (mo_wp_M_isTaken_b59 h_k6 h_Q)
theorem mo_wp_M_isTaken_b58 {σ : zM} {v1 : Int} {v2 : Int} {v3 : Int} {k6 : Int → Int → Prop} {Q : Int → Prop} {v5 : Int} {k6' : Int → Int → Prop} {Q' : Int → Prop} (h_k6 : ∀ (x0 : Int) (x1 : Int), k6 x0 x1 → k6' x0 x1) (h_Q : ∀ (x0 : Int), Q x0 → Q' x0) : wp_M_isTaken_b58 σ v1 v2 v3 k6 Q v5 → wp_M_isTaken_b58 σ v1 v2 v3 k6' Q' v5 := by
  unfold wp_M_isTaken_b58
  exact (mo_wp_M_isTaken_b59 h_k6 h_Q)
theorem mo_wp_M_isTaken_L6 {σ : zM} {v1 : Int} {v2 : Int} {v3 : Int} {Q : Int → Prop} {Q' : Int → Prop} (h_Q : ∀ (x0 : Int), Q x0 → Q' x0) : ∀ (n : Nat) (v4 : Int) (v5 : Int), wp_M_isTaken_L6 σ v1 v2 v3 Q n v4 v5 → wp_M_isTaken_L6 σ v1 v2 v3 Q' n v4 v5 := by
  intro n
  induction n with
  | zero => intro v4 v5 h; rw [wp_M_isTaken_L6] at h; exact h.elim
  | succ n ih =>
    intro v4 v5
    rw [wp_M_isTaken_L6, wp_M_isTaken_L6]
    exact (mo_wp_M_ofR (fun z1 => (And.imp (zImp (And.imp id (h_Q _))) (zImp (And.imp (zImp (mo_wp_M_isTaken_b54 (fun x0 x1 => ih x0 x1) h_Q)) (zImp (And.imp id (mo_wp_M_ofR (fun z6 => (And.imp (zImp (mo_wp_M_isTaken_b58 (fun x0 x1 => ih x0 x1) h_Q)) (zImp (And.imp id (mo_wp_M_ofR (fun z9 => (And.imp (zImp (mo_wp_M_isTaken_b58 (fun x0 x1 => ih x0 x1) h_Q)) (zImp (mo_wp_M_isTaken_b54 (fun x0 x1 => ih x0 x1) h_Q)))))))))))))))))
theorem mo_wp_M_isTaken {σ : zM} {v1 : Int} {v2 : Int} {v3 : Int} {Q : Int → Prop} {Q' : Int → Prop} (h_Q : ∀ (x0 : Int), Q x0 → Q' x0) : wp_M_isTaken σ v1 v2 v3 Q → wp_M_isTaken σ v1 v2 v3 Q' := by
  unfold wp_M_isTaken
  exact (Exists.imp fun n11 => (mo_wp_M_isTaken_L6 h_Q _ _ _))
theorem mo_wp_M_adds_L20 {v2 : Int} {v3 : Int} {v4 : Int} {k115 : zM → Int → Prop} {Q : zM → Prop} {k115' : zM → Int → Prop} {Q' : zM → Prop} (h_k115 : ∀ (x0 : zM) (x1 : Int), k115 x0 x1 → k115' x0 x1) (h_Q : ∀ (x0 : zM), Q x0 → Q' x0) : ∀ (n : Nat) (σ : zM) (v5 : Int), wp_M_adds_L20 v2 v3 v4 k115 Q n σ v5 → wp_M_adds_L20 v2 v3 v4 k115' Q' n σ v5 := by
  intro n
  induction n with
  | zero => intro σ v5 h; rw [wp_M_adds_L20] at h; exact h.elim
  | succ n ih =>
    intro σ v5
    rw [wp_M_adds_L20, wp_M_adds_L20]
    exact (And.imp (zImp (h_k115 _ _)) (zImp (And.imp id (And.imp (zImp (h_k115 _ _)) (zImp (And.imp id (And.imp id (forall_imp fun σ7 => (zImp (And.imp id (And.imp id (forall_imp fun σ10 => (zImp (And.imp id (ih _ _)))))))))))))))
theorem mo_wp_M_adds_b115 {Q : zM → Prop} {σ : zM} {v2 : Int} {v3 : Int} {v4 : Int} {v5 : Int} {Q' : zM → Prop} (h_Q : ∀ (x0 : zM), Q x0 → Q' x0) : wp_M_adds_b115 Q σ v2 v3 v4 v5 → wp_M_adds_b115 Q' σ v2 v3 v4 v5 := by
  unfold wp_M_adds_b115
  exact (And.imp id (forall_imp fun σ15 => (zImp (And.imp id (forall_imp fun σ17 => (zImp (And.imp id (And.imp id (And.imp id (forall_imp fun σ21 => (zImp (h_Q _))))))))))))
theorem mo_wp_M_adds {σ : zM} {v1 : Int} {v2 : Int} {v3 : Int} {Q : zM → Prop} {Q' : zM → Prop} (h_Q : ∀ (x0 : zM), Q x0 → Q' x0) : wp_M_adds σ v1 v2 v3 Q → wp_M_adds σ v1 v2 v3 Q' := by
  unfold wp_M_adds
  exact (And.imp id (And.imp id (forall_imp fun t3 => (zImp (Exists.imp fun n22 => (mo_wp_M_adds_L20 (fun σ12 u13 => (mo_wp_M_adds_b115 h_Q)) h_Q _ _ _))))))
theorem mo_wp_M_more {σ : zM} {v1 : Int} {v2 : Int} {v3 : Int} {Q : Int → zM → Prop} {Q' : Int → zM → Prop} (h_Q : ∀ (x0 : Int) (x1 : zM), Q x0 x1 → Q' x0 x1) : wp_M_more σ v1 v2 v3 Q → wp_M_more σ v1 v2 v3 Q' := by
  unfold wp_M_more
  exact (mo_wp_M_isRoad (fun z1 => (And.imp (zImp (mo_wp_M_isSpan (fun z3 => (And.imp (zImp (h_Q _ _)) (zImp (mo_wp_M_isTaken (fun z5 => (And.imp (zImp (mo_wp_M_ofR (fun z7 => (And.imp (zImp (mo_wp_M_records (fun σ10 => (mo_wp_M_adds (fun σ12 => (mo_wp_M_ofR (fun z13 => (h_Q _ _)))))))) (zImp (h_Q _ _)))))) (zImp (h_Q _ _)))))))))) (zImp (h_Q _ _)))))
theorem mo_wp_M_checksClosing {σ : zM} {v1 : Int} {v2 : Int} {v3 : Int} {Q : Int → Prop} {Q' : Int → Prop} (h_Q : ∀ (x0 : Int), Q x0 → Q' x0) : wp_M_checksClosing σ v1 v2 v3 Q → wp_M_checksClosing σ v1 v2 v3 Q' := by
  unfold wp_M_checksClosing
  exact (mo_wp_M_isRoad (fun z1 => (And.imp (zImp (mo_wp_M_isSpan (fun z3 => (And.imp (zImp (And.imp (zImp (h_Q _)) (zImp (h_Q _)))) (zImp (h_Q _)))))) (zImp (h_Q _)))))
theorem mo_wp_M_closes {σ : zM} {v1 : Int} {v2 : Int} {v3 : Int} {Q : Int → zM → Prop} {Q' : Int → zM → Prop} (h_Q : ∀ (x0 : Int) (x1 : zM), Q x0 x1 → Q' x0 x1) : wp_M_closes σ v1 v2 v3 Q → wp_M_closes σ v1 v2 v3 Q' := by
  unfold wp_M_closes
  exact (And.imp id (And.imp id (forall_imp fun σ3 => (zImp (And.imp id (forall_imp fun σ5 => (zImp (And.imp id (forall_imp fun σ7 => (zImp (And.imp id (forall_imp fun σ9 => (zImp (And.imp id (h_Q _ _)))))))))))))))
theorem mo_wp_M_close {σ : zM} {v1 : Int} {v2 : Int} {v3 : Int} {Q : Int → zM → Prop} {Q' : Int → zM → Prop} (h_Q : ∀ (x0 : Int) (x1 : zM), Q x0 x1 → Q' x0 x1) : wp_M_close σ v1 v2 v3 Q → wp_M_close σ v1 v2 v3 Q' := by
  unfold wp_M_close
  exact (mo_wp_M_checksClosing (fun z1 => (And.imp (zImp (mo_wp_M_records (fun σ4 => (mo_wp_M_closes (fun z5 σ6 => (h_Q _ _)))))) (zImp (h_Q _ _)))))
theorem mo_wp_M_lift_L40 {Q : Int → zM → Prop} {Q' : Int → zM → Prop} (h_Q : ∀ (x0 : Int) (x1 : zM), Q x0 x1 → Q' x0 x1) : ∀ (n : Nat) (σ : zM) (v2 : Int), wp_M_lift_L40 Q n σ v2 → wp_M_lift_L40 Q' n σ v2 := by
  intro n
  induction n with
  | zero => intro σ v2 h; rw [wp_M_lift_L40] at h; exact h.elim
  | succ n ih =>
    intro σ v2
    rw [wp_M_lift_L40, wp_M_lift_L40]
    exact (And.imp id (And.imp (zImp (h_Q _ _)) (zImp (And.imp id (And.imp id (forall_imp fun σ12 => (zImp (And.imp id (ih _ _)))))))))
theorem mo_wp_M_lift {σ : zM} {v1 : Int} {Q : Int → zM → Prop} {Q' : Int → zM → Prop} (h_Q : ∀ (x0 : Int) (x1 : zM), Q x0 x1 → Q' x0 x1) : wp_M_lift σ v1 Q → wp_M_lift σ v1 Q' := by
  unfold wp_M_lift
  exact (And.imp id (mo_wp_M_isIn (fun z2 => (And.imp (zImp (mo_wp_M_records (fun σ5 => (And.imp id (forall_imp fun σ7 => (zImp (And.imp id (Exists.imp fun n14 => (mo_wp_M_lift_L40 h_Q _ _ _))))))))) (zImp (h_Q _ _))))))
theorem mo_wp_M_isTime {σ : zM} {v0 : Int} {Q : Int → Prop} {Q' : Int → Prop} (h_Q : ∀ (x0 : Int), Q x0 → Q' x0) : wp_M_isTime σ v0 Q → wp_M_isTime σ v0 Q' := by
  unfold wp_M_isTime
  exact (mo_wp_M_isIn (fun z1 => (And.imp id (h_Q _))))
theorem mo_wp_M_spanEnd_b77 {σ : zM} {v1 : Int} {v2 : Int} {k5 : Int → Int → Prop} {Q : Int → Prop} {v4 : Int} {s0 : Int} {k5' : Int → Int → Prop} {Q' : Int → Prop} (h_k5 : ∀ (x0 : Int) (x1 : Int), k5 x0 x1 → k5' x0 x1) (h_Q : ∀ (x0 : Int), Q x0 → Q' x0) : wp_M_spanEnd_b77 σ v1 v2 k5 Q v4 s0 → wp_M_spanEnd_b77 σ v1 v2 k5' Q' v4 s0 := by
  unfold wp_M_spanEnd_b77
  exact (And.imp id (h_k5 _ _))
theorem mo_wp_M_spanEnd_b53 {σ : zM} {v1 : Int} {v2 : Int} {k5 : Int → Int → Prop} {Q : Int → Prop} {v3 : Int} {v4 : Int} {s0 : Int} {k5' : Int → Int → Prop} {Q' : Int → Prop} (h_k5 : ∀ (x0 : Int) (x1 : Int), k5 x0 x1 → k5' x0 x1) (h_Q : ∀ (x0 : Int), Q x0 → Q' x0) : wp_M_spanEnd_b53 σ v1 v2 k5 Q v3 v4 s0 → wp_M_spanEnd_b53 σ v1 v2 k5' Q' v3 v4 s0 := by
  unfold wp_M_spanEnd_b53
  exact (And.imp (zImp (mo_wp_M_spanEnd_b77 h_k5 h_Q)) (zImp (And.imp id (mo_wp_M_ofR (fun z8 => (mo_wp_M_spanEnd_b77 h_k5 h_Q))))))
theorem mo_wp_M_spanEnd_b52 {σ : zM} {v1 : Int} {v2 : Int} {k5 : Int → Int → Prop} {Q : Int → Prop} {v3 : Int} {v4 : Int} {k5' : Int → Int → Prop} {Q' : Int → Prop} (h_k5 : ∀ (x0 : Int) (x1 : Int), k5 x0 x1 → k5' x0 x1) (h_Q : ∀ (x0 : Int), Q x0 → Q' x0) : wp_M_spanEnd_b52 σ v1 v2 k5 Q v3 v4 → wp_M_spanEnd_b52 σ v1 v2 k5' Q' v3 v4 := by
  unfold wp_M_spanEnd_b52
  exact (mo_wp_M_spanEnd_b53 h_k5 h_Q)
theorem mo_wp_M_spanEnd_L5 {σ : zM} {v1 : Int} {v2 : Int} {Q : Int → Prop} {Q' : Int → Prop} (h_Q : ∀ (x0 : Int), Q x0 → Q' x0) : ∀ (n : Nat) (v3 : Int) (v4 : Int), wp_M_spanEnd_L5 σ v1 v2 Q n v3 v4 → wp_M_spanEnd_L5 σ v1 v2 Q' n v3 v4 := by
  intro n
  induction n with
  | zero => intro v3 v4 h; rw [wp_M_spanEnd_L5] at h; exact h.elim
  | succ n ih =>
    intro v3 v4
    rw [wp_M_spanEnd_L5, wp_M_spanEnd_L5]
    exact (mo_wp_M_ofR (fun z1 => (And.imp (zImp (h_Q _)) (zImp (And.imp id (mo_wp_M_ofR (fun z4 => (And.imp (zImp (mo_wp_M_spanEnd_b52 (fun x0 x1 => ih x0 x1) h_Q)) (zImp (And.imp id (mo_wp_M_ofR (fun z11 => (And.imp (zImp (mo_wp_M_spanEnd_b52 (fun x0 x1 => ih x0 x1) h_Q)) (zImp (mo_wp_M_spanEnd_b53 (fun x0 x1 => ih x0 x1) h_Q)))))))))))))))
theorem mo_wp_M_spanEnd {σ : zM} {v1 : Int} {v2 : Int} {Q : Int → Prop} {Q' : Int → Prop} (h_Q : ∀ (x0 : Int), Q x0 → Q' x0) : wp_M_spanEnd σ v1 v2 Q → wp_M_spanEnd σ v1 v2 Q' := by
  unfold wp_M_spanEnd
  exact (Exists.imp fun n13 => (mo_wp_M_spanEnd_L5 h_Q _ _ _))
theorem mo_wp_M_isClosed_b72 {σ : zM} {v1 : Int} {v2 : Int} {k5 : Int → Int → Prop} {Q : Int → Prop} {v4 : Int} {s0 : Int} {k5' : Int → Int → Prop} {Q' : Int → Prop} (h_k5 : ∀ (x0 : Int) (x1 : Int), k5 x0 x1 → k5' x0 x1) (h_Q : ∀ (x0 : Int), Q x0 → Q' x0) : wp_M_isClosed_b72 σ v1 v2 k5 Q v4 s0 → wp_M_isClosed_b72 σ v1 v2 k5' Q' v4 s0 := by
  unfold wp_M_isClosed_b72
  exact (And.imp id (h_k5 _ _))
theorem mo_wp_M_isClosed_b67 {σ : zM} {v1 : Int} {v2 : Int} {k5 : Int → Int → Prop} {Q : Int → Prop} {v4 : Int} {k5' : Int → Int → Prop} {Q' : Int → Prop} (h_k5 : ∀ (x0 : Int) (x1 : Int), k5 x0 x1 → k5' x0 x1) (h_Q : ∀ (x0 : Int), Q x0 → Q' x0) : wp_M_isClosed_b67 σ v1 v2 k5 Q v4 → wp_M_isClosed_b67 σ v1 v2 k5' Q' v4 := by
  unfold wp_M_isClosed_b67
  exact (mo_wp_M_isClosed_b72 h_k5 h_Q)
theorem mo_wp_M_isClosed_b71 {σ : zM} {v1 : Int} {v2 : Int} {k5 : Int → Int → Prop} {Q : Int → Prop} {v4 : Int} {k5' : Int → Int → Prop} {Q' : Int → Prop} (h_k5 : ∀ (x0 : Int) (x1 : Int), k5 x0 x1 → k5' x0 x1) (h_Q : ∀ (x0 : Int), Q x0 → Q' x0) : wp_M_isClosed_b71 σ v1 v2 k5 Q v4 → wp_M_isClosed_b71 σ v1 v2 k5' Q' v4 := by
  unfold wp_M_isClosed_b71
  exact (mo_wp_M_isClosed_b72 h_k5 h_Q)
theorem mo_wp_M_isClosed_L5 {σ : zM} {v1 : Int} {v2 : Int} {Q : Int → Prop} {Q' : Int → Prop} (h_Q : ∀ (x0 : Int), Q x0 → Q' x0) : ∀ (n : Nat) (v3 : Int) (v4 : Int), wp_M_isClosed_L5 σ v1 v2 Q n v3 v4 → wp_M_isClosed_L5 σ v1 v2 Q' n v3 v4 := by
  intro n
  induction n with
  | zero => intro v3 v4 h; rw [wp_M_isClosed_L5] at h; exact h.elim
  | succ n ih =>
    intro v3 v4
    rw [wp_M_isClosed_L5, wp_M_isClosed_L5]
    exact (And.imp (zImp (And.imp id (h_Q _))) (zImp (And.imp id (And.imp (zImp (mo_wp_M_isClosed_b67 (fun x0 x1 => ih x0 x1) h_Q)) (zImp (And.imp id (And.imp (zImp (mo_wp_M_isClosed_b71 (fun x0 x1 => ih x0 x1) h_Q)) (zImp (And.imp id (And.imp (zImp (mo_wp_M_isClosed_b71 (fun x0 x1 => ih x0 x1) h_Q)) (zImp (And.imp id (And.imp (zImp (mo_wp_M_isClosed_b71 (fun x0 x1 => ih x0 x1) h_Q)) (zImp (mo_wp_M_isClosed_b67 (fun x0 x1 => ih x0 x1) h_Q)))))))))))))))
theorem mo_wp_M_isClosed {σ : zM} {v1 : Int} {v2 : Int} {Q : Int → Prop} {Q' : Int → Prop} (h_Q : ∀ (x0 : Int), Q x0 → Q' x0) : wp_M_isClosed σ v1 v2 Q → wp_M_isClosed σ v1 v2 Q' := by
  unfold wp_M_isClosed
  exact (Exists.imp fun n7 => (mo_wp_M_isClosed_L5 h_Q _ _ _))
theorem mo_wp_M_whyNot_b46 {σ : zM} {Q : Int → Prop} {v1 : Int} {v2 : Int} {Q' : Int → Prop} (h_Q : ∀ (x0 : Int), Q x0 → Q' x0) : wp_M_whyNot_b46 σ Q v1 v2 → wp_M_whyNot_b46 σ Q' v1 v2 := by
  unfold wp_M_whyNot_b46
  exact (mo_wp_M_isClosed (fun z6 => (And.imp (zImp (mo_wp_M_ofR (fun z8 => (And.imp id (And.imp (zImp (h_Q _)) (zImp (h_Q _))))))) (zImp (h_Q _)))))
theorem mo_wp_M_whyNot {σ : zM} {v1 : Int} {v2 : Int} {Q : Int → Prop} {Q' : Int → Prop} (h_Q : ∀ (x0 : Int), Q x0 → Q' x0) : wp_M_whyNot σ v1 v2 Q → wp_M_whyNot σ v1 v2 Q' := by
  unfold wp_M_whyNot
  exact (And.imp id (mo_wp_M_spanEnd (fun z2 => (And.imp (zImp (mo_wp_M_ofR (fun z4 => (And.imp (zImp (mo_wp_M_whyNot_b46 h_Q)) (zImp (mo_wp_M_ofR (fun z11 => (And.imp id (And.imp (zImp (mo_wp_M_whyNot_b46 h_Q)) (zImp (h_Q _))))))))))) (zImp (h_Q _))))))
theorem mo_wp_M_whyShut {σ : zM} {v1 : Int} {v2 : Int} {Q : Int → Prop} {Q' : Int → Prop} (h_Q : ∀ (x0 : Int), Q x0 → Q' x0) : wp_M_whyShut σ v1 v2 Q → wp_M_whyShut σ v1 v2 Q' := by
  unfold wp_M_whyShut
  exact (mo_wp_M_isRoad (fun z1 => (And.imp (zImp (mo_wp_M_isTime (fun z3 => (And.imp (zImp (h_Q _)) (zImp (mo_wp_M_whyNot (fun z5 => (h_Q _)))))))) (zImp (h_Q _)))))
theorem mo_wp_M_traveller {σ : zM} {v1 : Int} {v2 : Int} {Q : Int → zM → Prop} {Q' : Int → zM → Prop} (h_Q : ∀ (x0 : Int) (x1 : zM), Q x0 x1 → Q' x0 x1) : wp_M_traveller σ v1 v2 Q → wp_M_traveller σ v1 v2 Q' := by
  unfold wp_M_traveller
  exact (mo_wp_M_isPlace (fun z1 => (And.imp (zImp (mo_wp_M_isTime (fun z3 => (And.imp (zImp (And.imp (zImp (mo_wp_M_records (fun σ6 => (And.imp id (And.imp id (forall_imp fun σ9 => (zImp (And.imp id (forall_imp fun σ11 => (zImp (And.imp id (forall_imp fun σ13 => (zImp (And.imp id (forall_imp fun σ15 => (zImp (And.imp id (forall_imp fun σ17 => (zImp (And.imp id (forall_imp fun σ19 => (zImp (And.imp id (forall_imp fun σ21 => (zImp (And.imp id (forall_imp fun σ23 => (zImp (And.imp id (forall_imp fun σ25 => (zImp (And.imp id (h_Q _ _))))))))))))))))))))))))))))))))) (zImp (h_Q _ _)))) (zImp (h_Q _ _)))))) (zImp (h_Q _ _)))))
theorem mo_wp_M_isTraveller {σ : zM} {v1 : Int} {Q : Int → Prop} {Q' : Int → Prop} (h_Q : ∀ (x0 : Int), Q x0 → Q' x0) : wp_M_isTraveller σ v1 Q → wp_M_isTraveller σ v1 Q' := by
  unfold wp_M_isTraveller
  exact (And.imp id (mo_wp_M_isIn (fun z2 => (And.imp id (h_Q _)))))
theorem mo_wp_M_ofT {σ : zM} {v1 : Int} {v2 : Int} {Q : Int → Prop} {Q' : Int → Prop} (h_Q : ∀ (x0 : Int), Q x0 → Q' x0) : wp_M_ofT σ v1 v2 Q → wp_M_ofT σ v1 v2 Q' := by
  unfold wp_M_ofT
  exact (And.imp id (h_Q _))
theorem mo_wp_M_refuses {σ : zM} {v1 : Int} {Q : Int → zM → Prop} {Q' : Int → zM → Prop} (h_Q : ∀ (x0 : Int) (x1 : zM), Q x0 x1 → Q' x0 x1) : wp_M_refuses σ v1 Q → wp_M_refuses σ v1 Q' := by
  unfold wp_M_refuses
  exact (forall_imp fun σ1 => (zImp (h_Q _ _)))
theorem mo_wp_M_checksGoing_b48 {Q : Int → zM → Prop} {σ : zM} {s0 : Int} {Q' : Int → zM → Prop} (h_Q : ∀ (x0 : Int) (x1 : zM), Q x0 x1 → Q' x0 x1) : wp_M_checksGoing_b48 Q σ s0 → wp_M_checksGoing_b48 Q' σ s0 := by
  unfold wp_M_checksGoing_b48
  exact (And.imp (zImp (mo_wp_M_refuses (fun z13 σ14 => (h_Q _ _)))) (zImp (h_Q _ _)))
theorem mo_wp_M_checksGoing {σ : zM} {v1 : Int} {v2 : Int} {Q : Int → zM → Prop} {Q' : Int → zM → Prop} (h_Q : ∀ (x0 : Int) (x1 : zM), Q x0 x1 → Q' x0 x1) : wp_M_checksGoing σ v1 v2 Q → wp_M_checksGoing σ v1 v2 Q' := by
  unfold wp_M_checksGoing
  exact (mo_wp_M_isTraveller (fun z1 => (And.imp (zImp (h_Q _ _)) (zImp (mo_wp_M_isRoad (fun z3 => (And.imp (zImp (mo_wp_M_ofR (fun z5 => (mo_wp_M_ofT (fun z7 => (And.imp (zImp (mo_wp_M_ofT (fun z9 => (mo_wp_M_whyNot (fun z11 => (mo_wp_M_checksGoing_b48 h_Q)))))) (zImp (mo_wp_M_checksGoing_b48 h_Q)))))))) (zImp (h_Q _ _)))))))))
theorem mo_wp_M_goes {σ : zM} {v1 : Int} {v2 : Int} {Q : Int → zM → Prop} {Q' : Int → zM → Prop} (h_Q : ∀ (x0 : Int) (x1 : zM), Q x0 x1 → Q' x0 x1) : wp_M_goes σ v1 v2 Q → wp_M_goes σ v1 v2 Q' := by
  unfold wp_M_goes
  exact (And.imp id (mo_wp_M_ofR (fun z2 => (mo_wp_M_ofR (fun z4 => (And.imp id (forall_imp fun σ7 => (zImp (And.imp id (And.imp id (And.imp id (forall_imp fun σ11 => (zImp (And.imp id (And.imp id (forall_imp fun σ14 => (zImp (And.imp id (And.imp id (And.imp id (forall_imp fun σ18 => (zImp (And.imp id (And.imp id (And.imp id (forall_imp fun σ22 => (zImp (And.imp id (And.imp id (And.imp id (forall_imp fun σ26 => (zImp (And.imp id (h_Q _ _))))))))))))))))))))))))))))))))))
theorem mo_wp_M_go {σ : zM} {v1 : Int} {v2 : Int} {Q : Int → zM → Prop} {Q' : Int → zM → Prop} (h_Q : ∀ (x0 : Int) (x1 : zM), Q x0 x1 → Q' x0 x1) : wp_M_go σ v1 v2 Q → wp_M_go σ v1 v2 Q' := by
  unfold wp_M_go
  exact (mo_wp_M_checksGoing (fun z1 σ2 => (And.imp (zImp (mo_wp_M_records (fun σ4 => (mo_wp_M_goes (fun z5 σ6 => (h_Q _ _)))))) (zImp (h_Q _ _)))))
theorem mo_wp_M_isRoomOpen {σ : zM} {v1 : Int} {v2 : Int} {Q : Int → Prop} {Q' : Int → Prop} (h_Q : ∀ (x0 : Int), Q x0 → Q' x0) : wp_M_isRoomOpen σ v1 v2 Q → wp_M_isRoomOpen σ v1 v2 Q' := by
  unfold wp_M_isRoomOpen
  exact (And.imp id (And.imp id (And.imp (zImp (h_Q _)) (zImp (And.imp id (And.imp (zImp (h_Q _)) (zImp (h_Q _))))))))
theorem mo_wp_M_limitOf {σ : zM} {v1 : Int} {Q : Int → Prop} {Q' : Int → Prop} (h_Q : ∀ (x0 : Int), Q x0 → Q' x0) : wp_M_limitOf σ v1 Q → wp_M_limitOf σ v1 Q' := by
  unfold wp_M_limitOf
  exact (And.imp id (h_Q _))
theorem mo_wp_M_checksStaying_L59 {σ : zM} {v1 : Int} {v2 : Int} {v3 : Int} {v4 : Int} {Q : Int → zM → Prop} {Q' : Int → zM → Prop} (h_Q : ∀ (x0 : Int) (x1 : zM), Q x0 x1 → Q' x0 x1) : ∀ (n : Nat) (v5 : Int), wp_M_checksStaying_L59 σ v1 v2 v3 v4 Q n v5 → wp_M_checksStaying_L59 σ v1 v2 v3 v4 Q' n v5 := by
  intro n
  induction n with
  | zero => intro v5 h; rw [wp_M_checksStaying_L59] at h; exact h.elim
  | succ n ih =>
    intro v5
    rw [wp_M_checksStaying_L59, wp_M_checksStaying_L59]
    exact (And.imp id (And.imp (zImp (mo_wp_M_ofT (fun z11 => (mo_wp_M_limitOf (fun z13 => (And.imp id (And.imp (zImp (h_Q _ _)) (zImp (mo_wp_M_refuses (fun z16 σ17 => (h_Q _ _))))))))))) (zImp (mo_wp_M_isRoomOpen (fun z18 => (And.imp (zImp (And.imp id (ih _))) (zImp (mo_wp_M_refuses (fun z21 σ22 => (h_Q _ _))))))))))
theorem mo_wp_M_checksStaying {σ : zM} {v1 : Int} {v2 : Int} {Q : Int → zM → Prop} {Q' : Int → zM → Prop} (h_Q : ∀ (x0 : Int) (x1 : zM), Q x0 x1 → Q' x0 x1) : wp_M_checksStaying σ v1 v2 Q → wp_M_checksStaying σ v1 v2 Q' := by
  unfold wp_M_checksStaying
  exact (mo_wp_M_isTraveller (fun z1 => (And.imp (zImp (mo_wp_M_isIn (fun z3 => (And.imp (zImp (mo_wp_M_ofT (fun z5 => (mo_wp_M_ofT (fun z7 => (And.imp id (And.imp (zImp (Exists.imp fun n23 => (mo_wp_M_checksStaying_L59 h_Q _ _))) (zImp (mo_wp_M_refuses (fun z24 σ25 => (h_Q _ _))))))))))) (zImp (h_Q _ _)))))) (zImp (h_Q _ _)))))
theorem mo_wp_M_stays {σ : zM} {v1 : Int} {v2 : Int} {Q : Int → zM → Prop} {Q' : Int → zM → Prop} (h_Q : ∀ (x0 : Int) (x1 : zM), Q x0 x1 → Q' x0 x1) : wp_M_stays σ v1 v2 Q → wp_M_stays σ v1 v2 Q' := by
  unfold wp_M_stays
  exact (And.imp id (And.imp id (And.imp id (And.imp id (forall_imp fun σ5 => (zImp (And.imp id (And.imp id (And.imp id (forall_imp fun σ9 => (zImp (And.imp id (h_Q _ _)))))))))))))
theorem mo_wp_M_stay {σ : zM} {v1 : Int} {v2 : Int} {Q : Int → zM → Prop} {Q' : Int → zM → Prop} (h_Q : ∀ (x0 : Int) (x1 : zM), Q x0 x1 → Q' x0 x1) : wp_M_stay σ v1 v2 Q → wp_M_stay σ v1 v2 Q' := by
  unfold wp_M_stay
  exact (mo_wp_M_checksStaying (fun z1 σ2 => (And.imp (zImp (mo_wp_M_records (fun σ4 => (mo_wp_M_stays (fun z5 σ6 => (h_Q _ _)))))) (zImp (h_Q _ _)))))
theorem mo_wp_M_roadsBy_b36 {σ : zM} {v1 : Int} {v2 : Int} {k5 : Int → Int → Prop} {Q : Int → Prop} {v4 : Int} {s0 : Int} {s1 : Int} {k5' : Int → Int → Prop} {Q' : Int → Prop} (h_k5 : ∀ (x0 : Int) (x1 : Int), k5 x0 x1 → k5' x0 x1) (h_Q : ∀ (x0 : Int), Q x0 → Q' x0) : wp_M_roadsBy_b36 σ v1 v2 k5 Q v4 s0 s1 → wp_M_roadsBy_b36 σ v1 v2 k5' Q' v4 s0 s1 := by
  unfold wp_M_roadsBy_b36
  exact (And.imp id (h_k5 _ _))
theorem mo_wp_M_roadsBy_L5 {σ : zM} {v1 : Int} {v2 : Int} {Q : Int → Prop} {Q' : Int → Prop} (h_Q : ∀ (x0 : Int), Q x0 → Q' x0) : ∀ (n : Nat) (v3 : Int) (v4 : Int), wp_M_roadsBy_L5 σ v1 v2 Q n v3 v4 → wp_M_roadsBy_L5 σ v1 v2 Q' n v3 v4 := by
  intro n
  induction n with
  | zero => intro v3 v4 h; rw [wp_M_roadsBy_L5] at h; exact h.elim
  | succ n ih =>
    intro v3 v4
    rw [wp_M_roadsBy_L5, wp_M_roadsBy_L5]
    exact (And.imp (zImp (h_Q _)) (zImp (mo_wp_M_ofR (fun z1 => (And.imp (zImp (mo_wp_M_roadsBy_b36 (fun x0 x1 => ih x0 x1) h_Q)) (zImp (mo_wp_M_roadsBy_b36 (fun x0 x1 => ih x0 x1) h_Q)))))))
theorem mo_wp_M_roadsBy {σ : zM} {v1 : Int} {v2 : Int} {Q : Int → Prop} {Q' : Int → Prop} (h_Q : ∀ (x0 : Int), Q x0 → Q' x0) : wp_M_roadsBy σ v1 v2 Q → wp_M_roadsBy σ v1 v2 Q' := by
  unfold wp_M_roadsBy
  exact (Exists.imp fun n4 => (mo_wp_M_roadsBy_L5 h_Q _ _ _))
theorem mo_wp_M_ofPlace_b96 {σ : zM} {v1 : Int} {k65 : Int → Int → Prop} {Q : Int → Prop} {v4 : Int} {s0 : Int} {s1 : Int} {k65' : Int → Int → Prop} {Q' : Int → Prop} (h_k65 : ∀ (x0 : Int) (x1 : Int), k65 x0 x1 → k65' x0 x1) (h_Q : ∀ (x0 : Int), Q x0 → Q' x0) : wp_M_ofPlace_b96 σ v1 k65 Q v4 s0 s1 → wp_M_ofPlace_b96 σ v1 k65' Q' v4 s0 s1 := by
  unfold wp_M_ofPlace_b96
  exact (And.imp id (h_k65 _ _))
theorem mo_wp_M_ofPlace_L65 {σ : zM} {v1 : Int} {Q : Int → Prop} {Q' : Int → Prop} (h_Q : ∀ (x0 : Int), Q x0 → Q' x0) : ∀ (n : Nat) (v3 : Int) (v4 : Int), wp_M_ofPlace_L65 σ v1 Q n v3 v4 → wp_M_ofPlace_L65 σ v1 Q' n v3 v4 := by
  intro n
  induction n with
  | zero => intro v3 v4 h; rw [wp_M_ofPlace_L65] at h; exact h.elim
  | succ n ih =>
    intro v3 v4
    rw [wp_M_ofPlace_L65, wp_M_ofPlace_L65]
    exact (And.imp (zImp (h_Q _)) (zImp (mo_wp_M_ofT (fun z5 => (And.imp (zImp (mo_wp_M_ofPlace_b96 (fun x0 x1 => ih x0 x1) h_Q)) (zImp (mo_wp_M_ofPlace_b96 (fun x0 x1 => ih x0 x1) h_Q)))))))
theorem mo_wp_M_ofPlace {σ : zM} {v1 : Int} {v2 : Int} {Q : Int → Prop} {Q' : Int → Prop} (h_Q : ∀ (x0 : Int), Q x0 → Q' x0) : wp_M_ofPlace σ v1 v2 Q → wp_M_ofPlace σ v1 v2 Q' := by
  unfold wp_M_ofPlace
  exact (mo_wp_M_isPlace (fun z1 => (And.imp (zImp (mo_wp_M_isIn (fun z3 => (And.imp (zImp (And.imp (zImp (And.imp (zImp (Exists.imp fun n8 => (mo_wp_M_ofPlace_L65 h_Q _ _ _))) (zImp (And.imp (zImp (mo_wp_M_roadsBy (fun z9 => (h_Q _)))) (zImp (mo_wp_M_roadsBy (fun z11 => (h_Q _)))))))) (zImp (And.imp id (h_Q _))))) (zImp (h_Q _)))))) (zImp (h_Q _)))))
theorem mo_wp_M_ofRoad_b120 {σ : zM} {v1 : Int} {k86 : Int → Int → Prop} {Q : Int → Prop} {v4 : Int} {s0 : Int} {s1 : Int} {k86' : Int → Int → Prop} {Q' : Int → Prop} (h_k86 : ∀ (x0 : Int) (x1 : Int), k86 x0 x1 → k86' x0 x1) (h_Q : ∀ (x0 : Int), Q x0 → Q' x0) : wp_M_ofRoad_b120 σ v1 k86 Q v4 s0 s1 → wp_M_ofRoad_b120 σ v1 k86' Q' v4 s0 s1 := by
  unfold wp_M_ofRoad_b120
  exact (And.imp id (And.imp id (h_k86 _ _)))
theorem mo_wp_M_ofRoad_L86 {σ : zM} {v1 : Int} {Q : Int → Prop} {Q' : Int → Prop} (h_Q : ∀ (x0 : Int), Q x0 → Q' x0) : ∀ (n : Nat) (v3 : Int) (v4 : Int), wp_M_ofRoad_L86 σ v1 Q n v3 v4 → wp_M_ofRoad_L86 σ v1 Q' n v3 v4 := by
  intro n
  induction n with
  | zero => intro v3 v4 h; rw [wp_M_ofRoad_L86] at h; exact h.elim
  | succ n ih =>
    intro v3 v4
    rw [wp_M_ofRoad_L86, wp_M_ofRoad_L86]
    exact (And.imp (zImp (h_Q _)) (zImp (And.imp id (And.imp (zImp (mo_wp_M_ofRoad_b120 (fun x0 x1 => ih x0 x1) h_Q)) (zImp (mo_wp_M_ofRoad_b120 (fun x0 x1 => ih x0 x1) h_Q))))))
theorem mo_wp_M_ofRoad {σ : zM} {v1 : Int} {v2 : Int} {Q : Int → Prop} {Q' : Int → Prop} (h_Q : ∀ (x0 : Int), Q x0 → Q' x0) : wp_M_ofRoad σ v1 v2 Q → wp_M_ofRoad σ v1 v2 Q' := by
  unfold wp_M_ofRoad
  exact (mo_wp_M_isRoad (fun z1 => (And.imp (zImp (mo_wp_M_isIn (fun z3 => (And.imp (zImp (And.imp (zImp (And.imp (zImp (And.imp (zImp (Exists.imp fun n8 => (mo_wp_M_ofRoad_L86 h_Q _ _ _))) (zImp (mo_wp_M_ofR (fun z9 => (h_Q _)))))) (zImp (And.imp id (And.imp id (mo_wp_M_ofR (fun z13 => (And.imp (zImp (h_Q _)) (zImp (mo_wp_M_ofR (fun z15 => (h_Q _)))))))))))) (zImp (mo_wp_M_ofR (fun z17 => (h_Q _)))))) (zImp (h_Q _)))))) (zImp (h_Q _)))))
theorem mo_wp_M_ofClosure {σ : zM} {v1 : Int} {v2 : Int} {Q : Int → Prop} {Q' : Int → Prop} (h_Q : ∀ (x0 : Int), Q x0 → Q' x0) : wp_M_ofClosure σ v1 v2 Q → wp_M_ofClosure σ v1 v2 Q' := by
  unfold wp_M_ofClosure
  exact (And.imp id (mo_wp_M_isIn (fun z2 => (And.imp (zImp (mo_wp_M_isIn (fun z4 => (And.imp (zImp (h_Q _)) (zImp (And.imp id (h_Q _))))))) (zImp (h_Q _))))))
theorem mo_wp_M_ofTraveller {σ : zM} {v1 : Int} {v2 : Int} {Q : Int → Prop} {Q' : Int → Prop} (h_Q : ∀ (x0 : Int), Q x0 → Q' x0) : wp_M_ofTraveller σ v1 v2 Q → wp_M_ofTraveller σ v1 v2 Q' := by
  unfold wp_M_ofTraveller
  exact (mo_wp_M_isTraveller (fun z1 => (And.imp (zImp (mo_wp_M_isIn (fun z3 => (And.imp (zImp (h_Q _)) (zImp (mo_wp_M_ofT (fun z5 => (h_Q _)))))))) (zImp (h_Q _)))))
theorem mo_wp_M_count {σ : zM} {v1 : Int} {Q : Int → Prop} {Q' : Int → Prop} (h_Q : ∀ (x0 : Int), Q x0 → Q' x0) : wp_M_count σ v1 Q → wp_M_count σ v1 Q' := by
  unfold wp_M_count
  exact (And.imp (zImp (And.imp id (h_Q _))) (And.imp (zImp (And.imp id (h_Q _))) (And.imp (zImp (And.imp id (h_Q _))) (And.imp (zImp (h_Q _)) (And.imp (zImp (h_Q _)) (And.imp (zImp (h_Q _)) (zImp (h_Q _))))))))
theorem mo_wp_M_has {σ : zM} {v0 : Int} {v1 : Int} {Q : Int → Prop} {Q' : Int → Prop} (h_Q : ∀ (x0 : Int), Q x0 → Q' x0) : wp_M_has σ v0 v1 Q → wp_M_has σ v0 v1 Q' := by
  unfold wp_M_has
  exact (And.imp (zImp (h_Q _)) (zImp (h_Q _)))
theorem mo_wp_M_spreads_L3 {v1 : Int} {v2 : Int} {v3 : Int} {v4 : Int} {k33 : zM → Prop} {Q : zM → Prop} {k33' : zM → Prop} {Q' : zM → Prop} (h_k33 : ∀ (x0 : zM), k33 x0 → k33' x0) (h_Q : ∀ (x0 : zM), Q x0 → Q' x0) : ∀ (n : Nat) (σ : zM) (v5 : Int), wp_M_spreads_L3 v1 v2 v3 v4 k33 Q n σ v5 → wp_M_spreads_L3 v1 v2 v3 v4 k33' Q' n σ v5 := by
  intro n
  induction n with
  | zero => intro σ v5 h; rw [wp_M_spreads_L3] at h; exact h.elim
  | succ n ih =>
    intro σ v5
    rw [wp_M_spreads_L3, wp_M_spreads_L3]
    exact (And.imp (zImp (h_k33 _)) (zImp (And.imp id (forall_imp fun σ2 => (zImp (And.imp id (forall_imp fun σ4 => (zImp (And.imp id (ih _ _))))))))))
theorem mo_wp_M_spreads_b61 {v1 : Int} {v2 : Int} {v3 : Int} {v4 : Int} {k36 : zM → Int → Prop} {Q : zM → Prop} {σ : zM} {v5 : Int} {s1 : Int} {s2 : Int} {k36' : zM → Int → Prop} {Q' : zM → Prop} (h_k36 : ∀ (x0 : zM) (x1 : Int), k36 x0 x1 → k36' x0 x1) (h_Q : ∀ (x0 : zM), Q x0 → Q' x0) : wp_M_spreads_b61 v1 v2 v3 v4 k36 Q σ v5 s1 s2 → wp_M_spreads_b61 v1 v2 v3 v4 k36' Q' σ v5 s1 s2 := by
  unfold wp_M_spreads_b61
  exact (And.imp id (forall_imp fun σ8 => (zImp (And.imp id (h_k36 _ _)))))
theorem mo_wp_M_spreads_L36 {v1 : Int} {v2 : Int} {v3 : Int} {v4 : Int} {k68 : zM → Prop} {Q : zM → Prop} {k68' : zM → Prop} {Q' : zM → Prop} (h_k68 : ∀ (x0 : zM), k68 x0 → k68' x0) (h_Q : ∀ (x0 : zM), Q x0 → Q' x0) : ∀ (n : Nat) (σ : zM) (v5 : Int), wp_M_spreads_L36 v1 v2 v3 v4 k68 Q n σ v5 → wp_M_spreads_L36 v1 v2 v3 v4 k68' Q' n σ v5 := by
  intro n
  induction n with
  | zero => intro σ v5 h; rw [wp_M_spreads_L36] at h; exact h.elim
  | succ n ih =>
    intro σ v5
    rw [wp_M_spreads_L36, wp_M_spreads_L36]
    exact (And.imp (zImp (h_k68 _)) (zImp (And.imp (zImp (mo_wp_M_spreads_b61 (fun x0 x1 => ih x0 x1) h_Q)) (zImp (mo_wp_M_spreads_b61 (fun x0 x1 => ih x0 x1) h_Q)))))
theorem mo_wp_M_spreads_b203 {v2 : Int} {v4 : Int} {v5 : Int} {k82 : zM → Int → Prop} {Q : zM → Prop} {σ : zM} {v6 : Int} {s1 : Int} {s2 : Int} {s3 : Int} {k82' : zM → Int → Prop} {Q' : zM → Prop} (h_k82 : ∀ (x0 : zM) (x1 : Int), k82 x0 x1 → k82' x0 x1) (h_Q : ∀ (x0 : zM), Q x0 → Q' x0) : wp_M_spreads_b203 v2 v4 v5 k82 Q σ v6 s1 s2 s3 → wp_M_spreads_b203 v2 v4 v5 k82' Q' σ v6 s1 s2 s3 := by
  unfold wp_M_spreads_b203
  exact (And.imp id (forall_imp fun σ17 => (zImp (And.imp id (h_k82 _ _)))))
theorem mo_wp_M_spreads_b175 {v2 : Int} {v4 : Int} {v5 : Int} {k82 : zM → Int → Prop} {Q : zM → Prop} {σ : zM} {v6 : Int} {k82' : zM → Int → Prop} {Q' : zM → Prop} (h_k82 : ∀ (x0 : zM) (x1 : Int), k82 x0 x1 → k82' x0 x1) (h_Q : ∀ (x0 : zM), Q x0 → Q' x0) : wp_M_spreads_b175 v2 v4 v5 k82 Q σ v6 → wp_M_spreads_b175 v2 v4 v5 k82' Q' σ v6 := by
  unfold wp_M_spreads_b175
  exact (And.imp id (And.imp id (And.imp (zImp (mo_wp_M_spreads_b203 h_k82 h_Q)) (zImp (mo_wp_M_spreads_b203 h_k82 h_Q)))))
theorem mo_wp_M_spreads_b166 {v2 : Int} {v4 : Int} {v5 : Int} {k82 : zM → Int → Prop} {Q : zM → Prop} {σ : zM} {v6 : Int} {k82' : zM → Int → Prop} {Q' : zM → Prop} (h_k82 : ∀ (x0 : zM) (x1 : Int), k82 x0 x1 → k82' x0 x1) (h_Q : ∀ (x0 : zM), Q x0 → Q' x0) : wp_M_spreads_b166 v2 v4 v5 k82 Q σ v6 → wp_M_spreads_b166 v2 v4 v5 k82' Q' σ v6 := by
  unfold wp_M_spreads_b166
  exact (And.imp id (forall_imp fun σ24 => (zImp (mo_wp_M_spreads_b175 h_k82 h_Q))))
theorem mo_wp_M_spreads_L82 {v2 : Int} {v4 : Int} {v5 : Int} {k211 : zM → Prop} {Q : zM → Prop} {k211' : zM → Prop} {Q' : zM → Prop} (h_k211 : ∀ (x0 : zM), k211 x0 → k211' x0) (h_Q : ∀ (x0 : zM), Q x0 → Q' x0) : ∀ (n : Nat) (σ : zM) (v6 : Int), wp_M_spreads_L82 v2 v4 v5 k211 Q n σ v6 → wp_M_spreads_L82 v2 v4 v5 k211' Q' n σ v6 := by
  intro n
  induction n with
  | zero => intro σ v6 h; rw [wp_M_spreads_L82] at h; exact h.elim
  | succ n ih =>
    intro σ v6
    rw [wp_M_spreads_L82, wp_M_spreads_L82]
    exact (And.imp (zImp (h_k211 _)) (zImp (And.imp id (mo_wp_M_has (fun z12 => (And.imp (zImp (And.imp (zImp (mo_wp_M_spreads_b175 (fun x0 x1 => ih x0 x1) h_Q)) (zImp (And.imp id (And.imp (zImp (mo_wp_M_spreads_b175 (fun x0 x1 => ih x0 x1) h_Q)) (zImp (And.imp id (mo_wp_M_isRoomOpen (fun z21 => (And.imp (zImp (mo_wp_M_spreads_b166 (fun x0 x1 => ih x0 x1) h_Q)) (zImp (And.imp id (mo_wp_M_limitOf (fun z26 => (And.imp id (And.imp (zImp (mo_wp_M_spreads_b175 (fun x0 x1 => ih x0 x1) h_Q)) (zImp (mo_wp_M_spreads_b166 (fun x0 x1 => ih x0 x1) h_Q)))))))))))))))))) (zImp (And.imp id (forall_imp fun σ30 => (zImp (mo_wp_M_spreads_b175 (fun x0 x1 => ih x0 x1) h_Q)))))))))))
theorem mo_wp_M_spreads_b290 {v2 : Int} {v4 : Int} {v5 : Int} {k214 : zM → Int → Prop} {Q : zM → Prop} {σ : zM} {v6 : Int} {k214' : zM → Int → Prop} {Q' : zM → Prop} (h_k214 : ∀ (x0 : zM) (x1 : Int), k214 x0 x1 → k214' x0 x1) (h_Q : ∀ (x0 : zM), Q x0 → Q' x0) : wp_M_spreads_b290 v2 v4 v5 k214 Q σ v6 → wp_M_spreads_b290 v2 v4 v5 k214' Q' σ v6 := by
  unfold wp_M_spreads_b290
  exact (And.imp id (h_k214 _ _))
theorem mo_wp_M_spreads_L214 {v2 : Int} {v4 : Int} {v5 : Int} {k296 : zM → Prop} {Q : zM → Prop} {k296' : zM → Prop} {Q' : zM → Prop} (h_k296 : ∀ (x0 : zM), k296 x0 → k296' x0) (h_Q : ∀ (x0 : zM), Q x0 → Q' x0) : ∀ (n : Nat) (σ : zM) (v6 : Int), wp_M_spreads_L214 v2 v4 v5 k296 Q n σ v6 → wp_M_spreads_L214 v2 v4 v5 k296' Q' n σ v6 := by
  intro n
  induction n with
  | zero => intro σ v6 h; rw [wp_M_spreads_L214] at h; exact h.elim
  | succ n ih =>
    intro σ v6
    rw [wp_M_spreads_L214, wp_M_spreads_L214]
    exact (And.imp (zImp (h_k296 _)) (zImp (And.imp (zImp (mo_wp_M_spreads_b290 (fun x0 x1 => ih x0 x1) h_Q)) (zImp (And.imp id (mo_wp_M_ofR (fun z34 => (mo_wp_M_has (fun z36 => (And.imp (zImp (mo_wp_M_spreads_b290 (fun x0 x1 => ih x0 x1) h_Q)) (zImp (mo_wp_M_whyNot (fun z38 => (And.imp (zImp (mo_wp_M_spreads_b290 (fun x0 x1 => ih x0 x1) h_Q)) (zImp (mo_wp_M_ofR (fun z40 => (And.imp id (mo_wp_M_ofR (fun z43 => (And.imp id (forall_imp fun σ46 => (zImp (mo_wp_M_spreads_b290 (fun x0 x1 => ih x0 x1) h_Q))))))))))))))))))))))))
theorem mo_wp_M_spreads_L71 {v2 : Int} {v4 : Int} {Q : zM → Prop} {Q' : zM → Prop} (h_Q : ∀ (x0 : zM), Q x0 → Q' x0) : ∀ (n : Nat) (σ : zM) (v5 : Int), wp_M_spreads_L71 v2 v4 Q n σ v5 → wp_M_spreads_L71 v2 v4 Q' n σ v5 := by
  intro n
  induction n with
  | zero => intro σ v5 h; rw [wp_M_spreads_L71] at h; exact h.elim
  | succ n ih =>
    intro σ v5
    rw [wp_M_spreads_L71, wp_M_spreads_L71]
    exact (And.imp (zImp (h_Q _)) (zImp (Exists.imp fun n50 => (mo_wp_M_spreads_L82 (fun σ31 => (Exists.imp fun n49 => (mo_wp_M_spreads_L214 (fun σ47 => (And.imp id (ih _ _))) h_Q _ _ _))) h_Q _ _ _))))
theorem mo_wp_M_spreads {σ : zM} {v1 : Int} {v2 : Int} {v3 : Int} {v4 : Int} {Q : zM → Prop} {Q' : zM → Prop} (h_Q : ∀ (x0 : zM), Q x0 → Q' x0) : wp_M_spreads σ v1 v2 v3 v4 Q → wp_M_spreads σ v1 v2 v3 v4 Q' := by
  unfold wp_M_spreads
  exact (Exists.imp fun n53 => (mo_wp_M_spreads_L3 (fun σ6 => (Exists.imp fun n52 => (mo_wp_M_spreads_L36 (fun σ10 => (Exists.imp fun n51 => (mo_wp_M_spreads_L71 h_Q _ _ _))) h_Q _ _ _))) h_Q _ _ _))
theorem mo_wp_M_firstAt_L2 {σ : zM} {v1 : Int} {Q : Int → Prop} {Q' : Int → Prop} (h_Q : ∀ (x0 : Int), Q x0 → Q' x0) : ∀ (n : Nat) (v2 : Int), wp_M_firstAt_L2 σ v1 Q n v2 → wp_M_firstAt_L2 σ v1 Q' n v2 := by
  intro n
  induction n with
  | zero => intro v2 h; rw [wp_M_firstAt_L2] at h; exact h.elim
  | succ n ih =>
    intro v2
    rw [wp_M_firstAt_L2, wp_M_firstAt_L2]
    exact (And.imp (zImp (h_Q _)) (zImp (And.imp id (mo_wp_M_has (fun z2 => (And.imp (zImp (And.imp id (ih _))) (zImp (h_Q _))))))))
theorem mo_wp_M_firstAt {σ : zM} {v1 : Int} {Q : Int → Prop} {Q' : Int → Prop} (h_Q : ∀ (x0 : Int), Q x0 → Q' x0) : wp_M_firstAt σ v1 Q → wp_M_firstAt σ v1 Q' := by
  unfold wp_M_firstAt
  exact (Exists.imp fun n5 => (mo_wp_M_firstAt_L2 h_Q _ _))
theorem mo_wp_M_earliestOf {σ : zM} {v1 : Int} {v2 : Int} {v3 : Int} {Q : Int → zM → Prop} {Q' : Int → zM → Prop} (h_Q : ∀ (x0 : Int) (x1 : zM), Q x0 x1 → Q' x0 x1) : wp_M_earliestOf σ v1 v2 v3 Q → wp_M_earliestOf σ v1 v2 v3 Q' := by
  unfold wp_M_earliestOf
  exact (And.imp (zImp (mo_wp_M_spreads (fun σ2 => (mo_wp_M_firstAt (fun z3 => (h_Q _ _)))))) (zImp (h_Q _ _)))
theorem mo_wp_M_earliest {σ : zM} {v1 : Int} {v2 : Int} {v3 : Int} {Q : Int → zM → Prop} {Q' : Int → zM → Prop} (h_Q : ∀ (x0 : Int) (x1 : zM), Q x0 x1 → Q' x0 x1) : wp_M_earliest σ v1 v2 v3 Q → wp_M_earliest σ v1 v2 v3 Q' := by
  unfold wp_M_earliest
  exact (mo_wp_M_isPlace (fun z1 => (And.imp (zImp (h_Q _ _)) (zImp (mo_wp_M_isPlace (fun z3 => (And.imp (zImp (mo_wp_M_isTime (fun z5 => (And.imp (zImp (h_Q _ _)) (zImp (mo_wp_M_earliestOf (fun z7 σ8 => (h_Q _ _)))))))) (zImp (h_Q _ _)))))))))
theorem mo_wp_M_leadsOn_b85 {σ : zM} {v1 : Int} {v2 : Int} {v3 : Int} {k6 : Int → Int → Prop} {Q : Int → Prop} {v5 : Int} {s0 : Int} {k6' : Int → Int → Prop} {Q' : Int → Prop} (h_k6 : ∀ (x0 : Int) (x1 : Int), k6 x0 x1 → k6' x0 x1) (h_Q : ∀ (x0 : Int), Q x0 → Q' x0) : wp_M_leadsOn_b85 σ v1 v2 v3 k6 Q v5 s0 → wp_M_leadsOn_b85 σ v1 v2 v3 k6' Q' v5 s0 := by
  unfold wp_M_leadsOn_b85
  exact (And.imp id (h_k6 _ _))
theorem mo_wp_M_leadsOn_b80 {σ : zM} {v1 : Int} {v2 : Int} {v3 : Int} {k6 : Int → Int → Prop} {Q : Int → Prop} {v5 : Int} {k6' : Int → Int → Prop} {Q' : Int → Prop} (h_k6 : ∀ (x0 : Int) (x1 : Int), k6 x0 x1 → k6' x0 x1) (h_Q : ∀ (x0 : Int), Q x0 → Q' x0) : wp_M_leadsOn_b80 σ v1 v2 v3 k6 Q v5 → wp_M_leadsOn_b80 σ v1 v2 v3 k6' Q' v5 := by
  unfold wp_M_leadsOn_b80
  exact (mo_wp_M_leadsOn_b85 h_k6 h_Q)
theorem mo_wp_M_leadsOn_b84 {σ : zM} {v1 : Int} {v2 : Int} {v3 : Int} {k6 : Int → Int → Prop} {Q : Int → Prop} {v5 : Int} {k6' : Int → Int → Prop} {Q' : Int → Prop} (h_k6 : ∀ (x0 : Int) (x1 : Int), k6 x0 x1 → k6' x0 x1) (h_Q : ∀ (x0 : Int), Q x0 → Q' x0) : wp_M_leadsOn_b84 σ v1 v2 v3 k6 Q v5 → wp_M_leadsOn_b84 σ v1 v2 v3 k6' Q' v5 := by
  unfold wp_M_leadsOn_b84
  exact (mo_wp_M_leadsOn_b85 h_k6 h_Q)
theorem mo_wp_M_leadsOn_L6 {σ : zM} {v1 : Int} {v2 : Int} {v3 : Int} {Q : Int → Prop} {Q' : Int → Prop} (h_Q : ∀ (x0 : Int), Q x0 → Q' x0) : ∀ (n : Nat) (v4 : Int) (v5 : Int), wp_M_leadsOn_L6 σ v1 v2 v3 Q n v4 v5 → wp_M_leadsOn_L6 σ v1 v2 v3 Q' n v4 v5 := by
  intro n
  induction n with
  | zero => intro v4 v5 h; rw [wp_M_leadsOn_L6] at h; exact h.elim
  | succ n ih =>
    intro v4 v5
    rw [wp_M_leadsOn_L6, wp_M_leadsOn_L6]
    exact (And.imp (zImp (And.imp id (h_Q _))) (zImp (mo_wp_M_ofR (fun z2 => (And.imp id (And.imp (zImp (mo_wp_M_leadsOn_b80 (fun x0 x1 => ih x0 x1) h_Q)) (zImp (mo_wp_M_ofR (fun z6 => (And.imp (zImp (mo_wp_M_leadsOn_b84 (fun x0 x1 => ih x0 x1) h_Q)) (zImp (And.imp (zImp (mo_wp_M_leadsOn_b84 (fun x0 x1 => ih x0 x1) h_Q)) (zImp (And.imp id (mo_wp_M_ofR (fun z9 => (mo_wp_M_has (fun z11 => (And.imp (zImp (mo_wp_M_leadsOn_b84 (fun x0 x1 => ih x0 x1) h_Q)) (zImp (mo_wp_M_whyNot (fun z13 => (And.imp (zImp (mo_wp_M_leadsOn_b84 (fun x0 x1 => ih x0 x1) h_Q)) (zImp (mo_wp_M_leadsOn_b80 (fun x0 x1 => ih x0 x1) h_Q)))))))))))))))))))))))))
theorem mo_wp_M_leadsOn {σ : zM} {v1 : Int} {v2 : Int} {v3 : Int} {Q : Int → Prop} {Q' : Int → Prop} (h_Q : ∀ (x0 : Int), Q x0 → Q' x0) : wp_M_leadsOn σ v1 v2 v3 Q → wp_M_leadsOn σ v1 v2 v3 Q' := by
  unfold wp_M_leadsOn
  exact (Exists.imp fun n15 => (mo_wp_M_leadsOn_L6 h_Q _ _ _))
theorem mo_wp_M_goesBack_L2 {v1 : Int} {v2 : Int} {k22 : zM → Prop} {Q : zM → Prop} {k22' : zM → Prop} {Q' : zM → Prop} (h_k22 : ∀ (x0 : zM), k22 x0 → k22' x0) (h_Q : ∀ (x0 : zM), Q x0 → Q' x0) : ∀ (n : Nat) (σ : zM) (v3 : Int), wp_M_goesBack_L2 v1 v2 k22 Q n σ v3 → wp_M_goesBack_L2 v1 v2 k22' Q' n σ v3 := by
  intro n
  induction n with
  | zero => intro σ v3 h; rw [wp_M_goesBack_L2] at h; exact h.elim
  | succ n ih =>
    intro σ v3
    rw [wp_M_goesBack_L2, wp_M_goesBack_L2]
    exact (And.imp (zImp (h_k22 _)) (zImp (And.imp id (forall_imp fun σ2 => (zImp (And.imp id (ih _ _)))))))
theorem mo_wp_M_goesBack_L24 {v1 : Int} {v2 : Int} {k44 : zM → Prop} {Q : zM → Prop} {k44' : zM → Prop} {Q' : zM → Prop} (h_k44 : ∀ (x0 : zM), k44 x0 → k44' x0) (h_Q : ∀ (x0 : zM), Q x0 → Q' x0) : ∀ (n : Nat) (σ : zM) (v3 : Int), wp_M_goesBack_L24 v1 v2 k44 Q n σ v3 → wp_M_goesBack_L24 v1 v2 k44' Q' n σ v3 := by
  intro n
  induction n with
  | zero => intro σ v3 h; rw [wp_M_goesBack_L24] at h; exact h.elim
  | succ n ih =>
    intro σ v3
    rw [wp_M_goesBack_L24, wp_M_goesBack_L24]
    exact (And.imp (zImp (h_k44 _)) (zImp (And.imp id (forall_imp fun σ6 => (zImp (And.imp id (ih _ _)))))))
theorem mo_wp_M_goesBack_b164 {v1 : Int} {v2 : Int} {v3 : Int} {k53 : zM → Int → Prop} {Q : zM → Prop} {σ : zM} {v4 : Int} {s1 : Int} {s2 : Int} {s3 : Int} {k53' : zM → Int → Prop} {Q' : zM → Prop} (h_k53 : ∀ (x0 : zM) (x1 : Int), k53 x0 x1 → k53' x0 x1) (h_Q : ∀ (x0 : zM), Q x0 → Q' x0) : wp_M_goesBack_b164 v1 v2 v3 k53 Q σ v4 s1 s2 s3 → wp_M_goesBack_b164 v1 v2 v3 k53' Q' σ v4 s1 s2 s3 := by
  unfold wp_M_goesBack_b164
  exact (And.imp id (forall_imp fun σ15 => (zImp (And.imp id (h_k53 _ _)))))
theorem mo_wp_M_goesBack_b142 {v1 : Int} {v2 : Int} {v3 : Int} {k53 : zM → Int → Prop} {Q : zM → Prop} {σ : zM} {v4 : Int} {s0 : Int} {k53' : zM → Int → Prop} {Q' : zM → Prop} (h_k53 : ∀ (x0 : zM) (x1 : Int), k53 x0 x1 → k53' x0 x1) (h_Q : ∀ (x0 : zM), Q x0 → Q' x0) : wp_M_goesBack_b142 v1 v2 v3 k53 Q σ v4 s0 → wp_M_goesBack_b142 v1 v2 v3 k53' Q' σ v4 s0 := by
  unfold wp_M_goesBack_b142
  exact (And.imp id (And.imp (zImp (mo_wp_M_goesBack_b164 h_k53 h_Q)) (zImp (mo_wp_M_goesBack_b164 h_k53 h_Q))))
theorem mo_wp_M_goesBack_b137 {v1 : Int} {v2 : Int} {v3 : Int} {k53 : zM → Int → Prop} {Q : zM → Prop} {σ : zM} {v4 : Int} {k53' : zM → Int → Prop} {Q' : zM → Prop} (h_k53 : ∀ (x0 : zM) (x1 : Int), k53 x0 x1 → k53' x0 x1) (h_Q : ∀ (x0 : zM), Q x0 → Q' x0) : wp_M_goesBack_b137 v1 v2 v3 k53 Q σ v4 → wp_M_goesBack_b137 v1 v2 v3 k53' Q' σ v4 := by
  unfold wp_M_goesBack_b137
  exact (mo_wp_M_goesBack_b142 h_k53 h_Q)
theorem mo_wp_M_goesBack_b141 {v1 : Int} {v2 : Int} {v3 : Int} {k53 : zM → Int → Prop} {Q : zM → Prop} {σ : zM} {v4 : Int} {k53' : zM → Int → Prop} {Q' : zM → Prop} (h_k53 : ∀ (x0 : zM) (x1 : Int), k53 x0 x1 → k53' x0 x1) (h_Q : ∀ (x0 : zM), Q x0 → Q' x0) : wp_M_goesBack_b141 v1 v2 v3 k53 Q σ v4 → wp_M_goesBack_b141 v1 v2 v3 k53' Q' σ v4 := by
  unfold wp_M_goesBack_b141
  exact (mo_wp_M_goesBack_b142 h_k53 h_Q)
theorem mo_wp_M_goesBack_b101 {v1 : Int} {v2 : Int} {v3 : Int} {k53 : zM → Int → Prop} {Q : zM → Prop} {σ : zM} {v4 : Int} {k53' : zM → Int → Prop} {Q' : zM → Prop} (h_k53 : ∀ (x0 : zM) (x1 : Int), k53 x0 x1 → k53' x0 x1) (h_Q : ∀ (x0 : zM), Q x0 → Q' x0) : wp_M_goesBack_b101 v1 v2 v3 k53 Q σ v4 → wp_M_goesBack_b101 v1 v2 v3 k53' Q' σ v4 := by
  unfold wp_M_goesBack_b101
  exact (And.imp (zImp (mo_wp_M_goesBack_b137 h_k53 h_Q)) (zImp (And.imp id (And.imp (zImp (mo_wp_M_goesBack_b141 h_k53 h_Q)) (zImp (And.imp id (mo_wp_M_limitOf (fun z19 => (And.imp id (And.imp (zImp (mo_wp_M_goesBack_b141 h_k53 h_Q)) (zImp (mo_wp_M_goesBack_b137 h_k53 h_Q))))))))))))
theorem mo_wp_M_goesBack_L53 {v1 : Int} {v2 : Int} {v3 : Int} {k172 : zM → Prop} {Q : zM → Prop} {k172' : zM → Prop} {Q' : zM → Prop} (h_k172 : ∀ (x0 : zM), k172 x0 → k172' x0) (h_Q : ∀ (x0 : zM), Q x0 → Q' x0) : ∀ (n : Nat) (σ : zM) (v4 : Int), wp_M_goesBack_L53 v1 v2 v3 k172 Q n σ v4 → wp_M_goesBack_L53 v1 v2 v3 k172' Q' n σ v4 := by
  intro n
  induction n with
  | zero => intro σ v4 h; rw [wp_M_goesBack_L53] at h; exact h.elim
  | succ n ih =>
    intro σ v4
    rw [wp_M_goesBack_L53, wp_M_goesBack_L53]
    exact (And.imp (zImp (h_k172 _)) (zImp (mo_wp_M_leadsOn (fun z9 => (And.imp (zImp (mo_wp_M_isRoomOpen (fun z11 => (And.imp (zImp (mo_wp_M_goesBack_b101 (fun x0 x1 => ih x0 x1) h_Q)) (zImp (And.imp id (forall_imp fun σ23 => (zImp (mo_wp_M_goesBack_b101 (fun x0 x1 => ih x0 x1) h_Q))))))))) (zImp (And.imp id (forall_imp fun σ25 => (zImp (mo_wp_M_goesBack_b101 (fun x0 x1 => ih x0 x1) h_Q))))))))))
theorem mo_wp_M_goesBack_L46 {v1 : Int} {v2 : Int} {Q : zM → Prop} {Q' : zM → Prop} (h_Q : ∀ (x0 : zM), Q x0 → Q' x0) : ∀ (n : Nat) (σ : zM) (v3 : Int), wp_M_goesBack_L46 v1 v2 Q n σ v3 → wp_M_goesBack_L46 v1 v2 Q' n σ v3 := by
  intro n
  induction n with
  | zero => intro σ v3 h; rw [wp_M_goesBack_L46] at h; exact h.elim
  | succ n ih =>
    intro σ v3
    rw [wp_M_goesBack_L46, wp_M_goesBack_L46]
    exact (And.imp (zImp (h_Q _)) (zImp (Exists.imp fun n28 => (mo_wp_M_goesBack_L53 (fun σ26 => (And.imp id (ih _ _))) h_Q _ _ _))))
theorem mo_wp_M_goesBack {σ : zM} {v1 : Int} {v2 : Int} {Q : zM → Prop} {Q' : zM → Prop} (h_Q : ∀ (x0 : zM), Q x0 → Q' x0) : wp_M_goesBack σ v1 v2 Q → wp_M_goesBack σ v1 v2 Q' := by
  unfold wp_M_goesBack
  exact (Exists.imp fun n31 => (mo_wp_M_goesBack_L2 (fun σ4 => (Exists.imp fun n30 => (mo_wp_M_goesBack_L24 (fun σ8 => (Exists.imp fun n29 => (mo_wp_M_goesBack_L46 h_Q _ _ _))) h_Q _ _ _))) h_Q _ _ _))
theorem mo_wp_M_latest_L35 {σ : zM} {v1 : Int} {Q : Int → zM → Prop} {Q' : Int → zM → Prop} (h_Q : ∀ (x0 : Int) (x1 : zM), Q x0 x1 → Q' x0 x1) : ∀ (n : Nat) (v4 : Int), wp_M_latest_L35 σ v1 Q n v4 → wp_M_latest_L35 σ v1 Q' n v4 := by
  intro n
  induction n with
  | zero => intro v4 h; rw [wp_M_latest_L35] at h; exact h.elim
  | succ n ih =>
    intro v4
    rw [wp_M_latest_L35, wp_M_latest_L35]
    exact (And.imp (zImp (h_Q _ _)) (zImp (And.imp id (mo_wp_M_has (fun z10 => (And.imp (zImp (And.imp id (ih _))) (zImp (h_Q _ _))))))))
theorem mo_wp_M_latest {σ : zM} {v1 : Int} {v2 : Int} {v3 : Int} {Q : Int → zM → Prop} {Q' : Int → zM → Prop} (h_Q : ∀ (x0 : Int) (x1 : zM), Q x0 x1 → Q' x0 x1) : wp_M_latest σ v1 v2 v3 Q → wp_M_latest σ v1 v2 v3 Q' := by
  unfold wp_M_latest
  exact (mo_wp_M_isPlace (fun z1 => (And.imp (zImp (h_Q _ _)) (zImp (mo_wp_M_isPlace (fun z3 => (And.imp (zImp (mo_wp_M_isTime (fun z5 => (And.imp (zImp (mo_wp_M_goesBack (fun σ8 => (Exists.imp fun n13 => (mo_wp_M_latest_L35 h_Q _ _))))) (zImp (h_Q _ _)))))) (zImp (h_Q _ _)))))))))
theorem mo_wp_M_fewestAt_b72 {σ : zM} {v1 : Int} {v2 : Int} {v3 : Int} {k7 : Int → Int → Prop} {Q : Int → Prop} {v5 : Int} {s0 : Int} {k7' : Int → Int → Prop} {Q' : Int → Prop} (h_k7 : ∀ (x0 : Int) (x1 : Int), k7 x0 x1 → k7' x0 x1) (h_Q : ∀ (x0 : Int), Q x0 → Q' x0) : wp_M_fewestAt_b72 σ v1 v2 v3 k7 Q v5 s0 → wp_M_fewestAt_b72 σ v1 v2 v3 k7' Q' v5 s0 := by
  unfold wp_M_fewestAt_b72
  exact (And.imp id (h_k7 _ _))
theorem mo_wp_M_fewestAt_b44 {σ : zM} {v1 : Int} {v2 : Int} {v3 : Int} {k7 : Int → Int → Prop} {Q : Int → Prop} {v4 : Int} {v5 : Int} {k7' : Int → Int → Prop} {Q' : Int → Prop} (h_k7 : ∀ (x0 : Int) (x1 : Int), k7 x0 x1 → k7' x0 x1) (h_Q : ∀ (x0 : Int), Q x0 → Q' x0) : wp_M_fewestAt_b44 σ v1 v2 v3 k7 Q v4 v5 → wp_M_fewestAt_b44 σ v1 v2 v3 k7' Q' v4 v5 := by
  unfold wp_M_fewestAt_b44
  exact (And.imp id (And.imp (zImp (mo_wp_M_fewestAt_b72 h_k7 h_Q)) (zImp (mo_wp_M_fewestAt_b72 h_k7 h_Q))))
theorem mo_wp_M_fewestAt_L7 {σ : zM} {v1 : Int} {v2 : Int} {v3 : Int} {Q : Int → Prop} {Q' : Int → Prop} (h_Q : ∀ (x0 : Int), Q x0 → Q' x0) : ∀ (n : Nat) (v4 : Int) (v5 : Int), wp_M_fewestAt_L7 σ v1 v2 v3 Q n v4 v5 → wp_M_fewestAt_L7 σ v1 v2 v3 Q' n v4 v5 := by
  intro n
  induction n with
  | zero => intro v4 v5 h; rw [wp_M_fewestAt_L7] at h; exact h.elim
  | succ n ih =>
    intro v4 v5
    rw [wp_M_fewestAt_L7, wp_M_fewestAt_L7]
    exact (And.imp (zImp (h_Q _)) (zImp (mo_wp_M_limitOf (fun z1 => (And.imp id (And.imp (zImp (h_Q _)) (zImp (And.imp (zImp (mo_wp_M_fewestAt_b44 (fun x0 x1 => ih x0 x1) h_Q)) (zImp (mo_wp_M_isRoomOpen (fun z6 => (And.imp (zImp (mo_wp_M_fewestAt_b44 (fun x0 x1 => ih x0 x1) h_Q)) (zImp (h_Q _))))))))))))))
theorem mo_wp_M_fewestAt {σ : zM} {v1 : Int} {v2 : Int} {v3 : Int} {Q : Int → Prop} {Q' : Int → Prop} (h_Q : ∀ (x0 : Int), Q x0 → Q' x0) : wp_M_fewestAt σ v1 v2 v3 Q → wp_M_fewestAt σ v1 v2 v3 Q' := by
  unfold wp_M_fewestAt
  exact (Exists.imp fun n8 => (mo_wp_M_fewestAt_L7 h_Q _ _ _))
theorem mo_wp_M_fewestRoads_L7 {v1 : Int} {v2 : Int} {v3 : Int} {v4 : Int} {v5 : Int} {k30 : zM → Prop} {Q : Int → zM → Prop} {k30' : zM → Prop} {Q' : Int → zM → Prop} (h_k30 : ∀ (x0 : zM), k30 x0 → k30' x0) (h_Q : ∀ (x0 : Int) (x1 : zM), Q x0 x1 → Q' x0 x1) : ∀ (n : Nat) (σ : zM) (v6 : Int), wp_M_fewestRoads_L7 v1 v2 v3 v4 v5 k30 Q n σ v6 → wp_M_fewestRoads_L7 v1 v2 v3 v4 v5 k30' Q' n σ v6 := by
  intro n
  induction n with
  | zero => intro σ v6 h; rw [wp_M_fewestRoads_L7] at h; exact h.elim
  | succ n ih =>
    intro σ v6
    rw [wp_M_fewestRoads_L7, wp_M_fewestRoads_L7]
    exact (And.imp (zImp (h_k30 _)) (zImp (And.imp id (forall_imp fun σ2 => (zImp (And.imp id (ih _ _)))))))
theorem mo_wp_M_fewestRoads_b175 {v2 : Int} {v3 : Int} {v4 : Int} {v5 : Int} {v6 : Int} {v7 : Int} {v8 : Int} {k76 : zM → Int → Prop} {Q : Int → zM → Prop} {σ : zM} {v9 : Int} {k76' : zM → Int → Prop} {Q' : Int → zM → Prop} (h_k76 : ∀ (x0 : zM) (x1 : Int), k76 x0 x1 → k76' x0 x1) (h_Q : ∀ (x0 : Int) (x1 : zM), Q x0 x1 → Q' x0 x1) : wp_M_fewestRoads_b175 v2 v3 v4 v5 v6 v7 v8 k76 Q σ v9 → wp_M_fewestRoads_b175 v2 v3 v4 v5 v6 v7 v8 k76' Q' σ v9 := by
  unfold wp_M_fewestRoads_b175
  exact (And.imp id (h_k76 _ _))
theorem mo_wp_M_fewestRoads_b174 {v2 : Int} {v3 : Int} {v4 : Int} {v5 : Int} {v6 : Int} {v7 : Int} {v8 : Int} {k76 : zM → Int → Prop} {Q : Int → zM → Prop} {σ : zM} {v9 : Int} {s1 : Int} {s2 : Int} {k76' : zM → Int → Prop} {Q' : Int → zM → Prop} (h_k76 : ∀ (x0 : zM) (x1 : Int), k76 x0 x1 → k76' x0 x1) (h_Q : ∀ (x0 : Int) (x1 : zM), Q x0 x1 → Q' x0 x1) : wp_M_fewestRoads_b174 v2 v3 v4 v5 v6 v7 v8 k76 Q σ v9 s1 s2 → wp_M_fewestRoads_b174 v2 v3 v4 v5 v6 v7 v8 k76' Q' σ v9 s1 s2 := by
  unfold wp_M_fewestRoads_b174
  exact (And.imp id (forall_imp fun σ24 => (zImp (mo_wp_M_fewestRoads_b175 h_k76 h_Q))))
theorem mo_wp_M_fewestRoads_L76 {v2 : Int} {v3 : Int} {v4 : Int} {v5 : Int} {v6 : Int} {v7 : Int} {v8 : Int} {k181 : zM → Prop} {Q : Int → zM → Prop} {k181' : zM → Prop} {Q' : Int → zM → Prop} (h_k181 : ∀ (x0 : zM), k181 x0 → k181' x0) (h_Q : ∀ (x0 : Int) (x1 : zM), Q x0 x1 → Q' x0 x1) : ∀ (n : Nat) (σ : zM) (v9 : Int), wp_M_fewestRoads_L76 v2 v3 v4 v5 v6 v7 v8 k181 Q n σ v9 → wp_M_fewestRoads_L76 v2 v3 v4 v5 v6 v7 v8 k181' Q' n σ v9 := by
  intro n
  induction n with
  | zero => intro σ v9 h; rw [wp_M_fewestRoads_L76] at h; exact h.elim
  | succ n ih =>
    intro σ v9
    rw [wp_M_fewestRoads_L76, wp_M_fewestRoads_L76]
    exact (And.imp (zImp (h_k181 _)) (zImp (And.imp (zImp (h_k181 _)) (zImp (mo_wp_M_ofR (fun z10 => (And.imp (zImp (mo_wp_M_fewestRoads_b175 (fun x0 x1 => ih x0 x1) h_Q)) (zImp (mo_wp_M_whyNot (fun z13 => (And.imp (zImp (mo_wp_M_fewestRoads_b175 (fun x0 x1 => ih x0 x1) h_Q)) (zImp (mo_wp_M_ofR (fun z15 => (mo_wp_M_ofR (fun z17 => (And.imp id (And.imp id (And.imp id (And.imp (zImp (And.imp id (mo_wp_M_fewestRoads_b174 (fun x0 x1 => ih x0 x1) h_Q))) (zImp (And.imp id (mo_wp_M_fewestRoads_b174 (fun x0 x1 => ih x0 x1) h_Q)))))))))))))))))))))))
theorem mo_wp_M_fewestRoads_b181 {v2 : Int} {v3 : Int} {v4 : Int} {v5 : Int} {v6 : Int} {k55 : zM → Int → Prop} {Q : Int → zM → Prop} {σ : zM} {v7 : Int} {k55' : zM → Int → Prop} {Q' : Int → zM → Prop} (h_k55 : ∀ (x0 : zM) (x1 : Int), k55 x0 x1 → k55' x0 x1) (h_Q : ∀ (x0 : Int) (x1 : zM), Q x0 x1 → Q' x0 x1) : wp_M_fewestRoads_b181 v2 v3 v4 v5 v6 k55 Q σ v7 → wp_M_fewestRoads_b181 v2 v3 v4 v5 v6 k55' Q' σ v7 := by
  unfold wp_M_fewestRoads_b181
  exact (And.imp id (h_k55 _ _))
theorem mo_wp_M_fewestRoads_L55 {v2 : Int} {v3 : Int} {v4 : Int} {v5 : Int} {v6 : Int} {k187 : zM → Prop} {Q : Int → zM → Prop} {k187' : zM → Prop} {Q' : Int → zM → Prop} (h_k187 : ∀ (x0 : zM), k187 x0 → k187' x0) (h_Q : ∀ (x0 : Int) (x1 : zM), Q x0 x1 → Q' x0 x1) : ∀ (n : Nat) (σ : zM) (v7 : Int), wp_M_fewestRoads_L55 v2 v3 v4 v5 v6 k187 Q n σ v7 → wp_M_fewestRoads_L55 v2 v3 v4 v5 v6 k187' Q' n σ v7 := by
  intro n
  induction n with
  | zero => intro σ v7 h; rw [wp_M_fewestRoads_L55] at h; exact h.elim
  | succ n ih =>
    intro σ v7
    rw [wp_M_fewestRoads_L55, wp_M_fewestRoads_L55]
    exact (And.imp (zImp (h_k187 _)) (zImp (mo_wp_M_fewestAt (fun z8 => (Exists.imp fun n28 => (mo_wp_M_fewestRoads_L76 (fun σ26 => (mo_wp_M_fewestRoads_b181 (fun x0 x1 => ih x0 x1) h_Q)) h_Q _ _ _))))))
theorem mo_wp_M_fewestRoads_L45 {v2 : Int} {v3 : Int} {v4 : Int} {v5 : Int} {Q : Int → zM → Prop} {Q' : Int → zM → Prop} (h_Q : ∀ (x0 : Int) (x1 : zM), Q x0 x1 → Q' x0 x1) : ∀ (n : Nat) (σ : zM) (v6 : Int), wp_M_fewestRoads_L45 v2 v3 v4 v5 Q n σ v6 → wp_M_fewestRoads_L45 v2 v3 v4 v5 Q' n σ v6 := by
  intro n
  induction n with
  | zero => intro σ v6 h; rw [wp_M_fewestRoads_L45] at h; exact h.elim
  | succ n ih =>
    intro σ v6
    rw [wp_M_fewestRoads_L45, wp_M_fewestRoads_L45]
    exact (And.imp (zImp (And.imp id (h_Q _ _))) (zImp (Exists.imp fun n31 => (mo_wp_M_fewestRoads_L55 (fun σ29 => (And.imp id (ih _ _))) h_Q _ _ _))))
theorem mo_wp_M_fewestRoads {σ : zM} {v1 : Int} {v2 : Int} {v3 : Int} {v4 : Int} {Q : Int → zM → Prop} {Q' : Int → zM → Prop} (h_Q : ∀ (x0 : Int) (x1 : zM), Q x0 x1 → Q' x0 x1) : wp_M_fewestRoads σ v1 v2 v3 v4 Q → wp_M_fewestRoads σ v1 v2 v3 v4 Q' := by
  unfold wp_M_fewestRoads
  exact (Exists.imp fun n33 => (mo_wp_M_fewestRoads_L7 (fun σ4 => (And.imp id (forall_imp fun σ6 => (zImp (Exists.imp fun n32 => (mo_wp_M_fewestRoads_L45 h_Q _ _ _)))))) h_Q _ _ _))
theorem mo_wp_M_beginsAt_b133 {σ : zM} {v1 : Int} {v2 : Int} {v3 : Int} {v4 : Int} {v5 : Int} {k15 : Int → Int → Prop} {Q : Int → Prop} {v7 : Int} {s0 : Int} {k15' : Int → Int → Prop} {Q' : Int → Prop} (h_k15 : ∀ (x0 : Int) (x1 : Int), k15 x0 x1 → k15' x0 x1) (h_Q : ∀ (x0 : Int), Q x0 → Q' x0) : wp_M_beginsAt_b133 σ v1 v2 v3 v4 v5 k15 Q v7 s0 → wp_M_beginsAt_b133 σ v1 v2 v3 v4 v5 k15' Q' v7 s0 := by
  unfold wp_M_beginsAt_b133
  exact (And.imp id (h_k15 _ _))
