/-! post -/
def mm_en (h : mm_M) (x y q : Int) : mm_M := mUp (mUp (mUp (mUp (mUp (mUp (mUp h 11 (h 1 1) x) 11 (7 + h 1 1) y) 11 (14 + h 1 1) q) 1 1 (h 1 1 + 1)) 37 (h 1 1) (h 11 53)) 38 (h 1 1) (-2000000000)) 39 (h 1 1) (h 9 0)
theorem c_enlist (h : mm_M) (x y q : Int) (n : 0 ≤ h 1 1 ∧ h 1 1 < 7) : mm_call mX9_enlist [vR 0, vI x, vI y, vI q] h = some ([vI (h 1 1)], mm_en h x y q) := by
  have w0 : w32 (mm_ct 100 0 + h 1 1) = h 1 1 := by
    rw [show mm_ct 100 0 + h 1 1 = h 1 1 from by show 0 + h 1 1 = h 1 1; omega]
    exact w32_id (by unfold mm_r32; omega)
  have w1 : w32 (mm_ct 100 1 + h 1 1) = 7 + h 1 1 := w32_id (by show mm_r32 (7 + h 1 1); unfold mm_r32; omega)
  have w2 : w32 (mm_ct 100 2 + h 1 1) = 14 + h 1 1 := w32_id (by show mm_r32 (14 + h 1 1); unfold mm_r32; omega)
  have w3 : w32 (h 1 1 + 1) = h 1 1 + 1 := w32_id (by unfold mm_r32; omega)
  rw [X9_enlist_c, X4_addPost_c, w0, w1, w2, if_pos (by decide), if_pos (by omega), if_pos (by decide), if_pos (by omega), if_pos (by decide), if_pos (by omega), mm_bs]
  have t : (mUp (mUp (mUp h 11 (h 1 1) x) 11 (7 + h 1 1) y) 11 (14 + h 1 1) q) 1 1 = h 1 1 := rfl
  rw [t, w3]
  refine (X9_enlist_10 _ _ _ _ _).trans ?_
  rw [c_old, mm_bs]
  refine (X9_enlist_27 _ _ _ _ _ _ _).trans ?_
  rw [X2_forget_c, if_pos n, if_pos n, if_pos n, mm_bs]
  refine (X9_enlist_30 _ _ _ _ _).trans ?_
  have t2 : (mUp (mUp (mUp (mUp h 11 (h 1 1) x) 11 (7 + h 1 1) y) 11 (14 + h 1 1) q) 1 1 (h 1 1 + 1)) 11 53 = h 11 53 := by
    rw [mUp_ne (by decide), mUp_nei (by omega), mUp_nei (by omega), mUp_nei (by omega)]
  show some ([vI (h 1 1)], mUp (mUp (mUp _ 37 (h 1 1) ((mUp (mUp (mUp (mUp h 11 (h 1 1) x) 11 (7 + h 1 1) y) 11 (14 + h 1 1) q) 1 1 (h 1 1 + 1)) 11 53)) 38 (h 1 1) _) 39 (h 1 1) (h 9 0)) = _
  rw [t2]
  rfl
def mm_ad (h : mm_M) (x y q : Int) : mm_M := mUp (mUp (mUp (mUp (mUp (mUp (mUp h 48 (h 47 1) x) 49 (h 47 1) y) 50 (h 47 1) q) 71 (h 47 1) (h 47 10)) 72 (h 47 1) (-1)) 73 (h 47 1) 0) 47 1 (h 47 1 + 1)
theorem s_addPost (h : mm_M) (x y q : Int) (n : 0 ≤ h 47 1 ∧ h 47 1 < 7) : mm_call mX10_addPost [vR 47, vI x, vI y, vI q] h = some ([vI (h 47 1)], mm_ad h x y q) := by
  have w1 : w32 (h 47 1 + 1) = h 47 1 + 1 := w32_id (by unfold mm_r32; omega)
  have w2 : w32 (h 47 1 + 1 - 1) = h 47 1 := by
    rw [show h 47 1 + 1 - 1 = h 47 1 from by omega]
    exact w32_id (by unfold mm_r32; omega)
  refine (X10_addPost_c h x y q).trans ?_
  show (if 0 ≤ h 47 1 ∧ h 47 1 < 7 then if 0 ≤ h 47 1 ∧ h 47 1 < 7 then if 0 ≤ h 47 1 ∧ h 47 1 < 7 then if 0 ≤ h 47 1 ∧ h 47 1 < 7 then if 0 ≤ h 47 1 ∧ h 47 1 < 7 then if 0 ≤ h 47 1 ∧ h 47 1 < 7 then some ([vI (w32 (w32 (h 47 1 + 1) - 1))], mUp (mUp (mUp (mUp (mUp (mUp (mUp h 48 (h 47 1) x) 49 (h 47 1) y) 50 (h 47 1) q) 71 (h 47 1) (h 47 10)) 72 (h 47 1) (-1)) 73 (h 47 1) 0) 47 1 (w32 (h 47 1 + 1))) else none else none else none else none else none else none) = _
  rw [w1, w2, if_pos n, if_pos n, if_pos n, if_pos n, if_pos n, if_pos n]
  rfl
