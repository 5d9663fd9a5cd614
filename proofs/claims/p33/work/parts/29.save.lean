/-! undo, save, restore -/
theorem OKA_of_copy {A A' : Int → Int} {B : Int} (e : ∀ i : Int, 0 ≤ i → i < 455 → A' i = A i) (h : OKA A B) : OKA A' B := OKA_congr e h
def mUndo (τ : zM) : zM := zCp (zU τ 79 4 (τ 79 4 - 1)) 81 80 ((τ 79 4 - 1) * 455) 0 455
def mSave (τ : zM) (s : Int) : zM := zU (zCp τ 80 82 0 (s * 455) 455) 83 s 1
def mRest (τ : zM) (s : Int) : zM := zCp τ 82 80 (s * 455) 0 455
theorem Fr_mUndo {x y : zM} (h : Fr x y) : Fr (mUndo x) (mUndo y) := by
  unfold mUndo
  rw [h 79 (by omega)]
  exact Fr_zCp2 (Fr_zU2 h) (by omega)
theorem Fr_mSave {x y : zM} {s : Int} (h : Fr x y) : Fr (mSave x s) (mSave y s) := Fr_zU2 (Fr_zCp2 h (by omega))
theorem Fr_mRest {x y : zM} {s : Int} (h : Fr x y) : Fr (mRest x s) (mRest y s) := Fr_zCp2 h (by omega)
theorem FrM_mUndo {x : zM} : FrM x (mUndo x) := fun n hn => by unfold mUndo; rw [zCp_n (by omega), zU_n (by omega)]
theorem FrM_mSave {x : zM} {s : Int} : FrM x (mSave x s) := fun n hn => by unfold mSave; rw [zU_n (by omega), zCp_n (by omega)]
theorem FrM_mRest {x : zM} {s : Int} : FrM x (mRest x s) := fun n hn => by unfold mRest; rw [zCp_n (by omega)]