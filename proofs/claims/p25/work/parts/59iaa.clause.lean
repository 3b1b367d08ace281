-- ===== the reader: clauses =====
theorem vp_96 {x : Int32} (h0 : ¬ x < 0) (h1 : ¬ nI 96 ≤ x) : vp_in x 96 := by
  obtain ⟨j, hj, rfl⟩ := nI_of h0
  refine vp_in_nI ?_ (by omega)
  rcases Nat.lt_or_ge j 96 with z | z
  · exact z
  · exact absurd (nI_le z (by omega)) h1
def opI (I : XI) (ta v : Nat) : XI := uI I (ta + 2) v (I ta 1)
def clsI (I : XI) (ta v : Nat) : XI := uI I (ta + 3) v (I ta 1)
def cl0 (I : XI) (ta i : Nat) : XI := uI (uI I (ta + 2) i 0) (ta + 3) i 0
def clrI (I : XI) (ta : Nat) : XI := cl0 (cl0 (cl0 (cl0 (cl0 (uI (uI I ta 1 0) ta 5 0) ta 0) ta 1) ta 2) ta 3) ta 4
theorem cl0_ne {I : XI} {ta i p : Nat} (h2 : p ≠ ta + 2) (h3 : p ≠ ta + 3) : cl0 I ta i p = I p := by
  unfold cl0
  rw [uI_ne h3, uI_ne h2]
theorem cl0_2 {I : XI} {ta i w : Nat} : cl0 I ta i (ta + 2) w = if w = i then 0 else I (ta + 2) w := by
  unfold cl0
  rw [uI_ne (by omega), uI_atC]
theorem cl0_3 {I : XI} {ta i w : Nat} : cl0 I ta i (ta + 3) w = if w = i then 0 else I (ta + 3) w := by
  unfold cl0
  rw [uI_atC, uI_ne (by omega)]
theorem clrI_ne {I : XI} {ta p : Nat} (h0 : p ≠ ta) (h2 : p ≠ ta + 2) (h3 : p ≠ ta + 3) : clrI I ta p = I p := by
  unfold clrI
  rw [cl0_ne h2 h3, cl0_ne h2 h3, cl0_ne h2 h3, cl0_ne h2 h3, cl0_ne h2 h3, uI_ne h0, uI_ne h0]
theorem clrI_ta {I : XI} {ta : Nat} : clrI I ta ta 1 = 0 ∧ clrI I ta ta 5 = 0 := by
  unfold clrI
  rw [cl0_ne (by omega) (by omega), cl0_ne (by omega) (by omega), cl0_ne (by omega) (by omega), cl0_ne (by omega) (by omega), cl0_ne (by omega) (by omega)]
  refine ⟨?_, ?_⟩
  · rw [uI_atC, if_neg (by decide), uI_atC, if_pos rfl]
  · rw [uI_atC, if_pos rfl]
theorem clrI_law {I : XI} {ta w : Nat} (hw : w < 5) : clrI I ta (ta + 2) w = 0 ∧ clrI I ta (ta + 3) w = 0 := by
  unfold clrI
  rw [cl0_2, cl0_2, cl0_2, cl0_2, cl0_2, cl0_3, cl0_3, cl0_3, cl0_3, cl0_3]
  have y : w = 0 ∨ w = 1 ∨ w = 2 ∨ w = 3 ∨ w = 4 := by omega
  rcases y with rfl | rfl | rfl | rfl | rfl <;> exact ⟨rfl, rfl⟩
/-- a clause more: its word; those ahead of it stay -/
def AC4 (ta : Nat) (I I' : XI) (i : Nat) (v : Int32) : Prop := I' (ta + 4) (4 * i) = v ∧ ∀ x, x < 4 * i → I' (ta + 4) x = I (ta + 4) x
