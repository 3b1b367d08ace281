set_option maxRecDepth 100000 in
set_option maxHeartbeats 2000000 in
theorem mp_all (l : Launch) (d : Nat) (ru ta : Nat) (rs : List XO) (I : XI) (J : XJ) (Rp : XR) (L : Lws) (A : Ast) (hA : AOK A) (h : MA I L A) (n : Nat) (t i c : Int32) (x y z : Int32) (vc : vp_in c 96) (w : Nat) (w13 : w ≤ 13) (hv : I 72 c.toNatClampNeg = nI w) (D : List Nat) (hD : 4 < w → D.length = (fmS w).length) (dm : ∀ y, y ∈ D → y ≤ 10000) (ex : NU3 D x y z) (hK : ∀ (I2 : XI) (J2 : XJ), FMl I I2 → MA I2 L (doS L A w D).2 → mpz l d ru ta rs J2 Rp n 296 [some (.ref 67), some (.int t), some (.int i), some (.int c), some (.int x), some (.int y), some (.int z), some (.int (b2 (doS L A w D).1))] I2) : mpz l d ru ta rs J Rp (n + 1) 65 [some (.ref 67), some (.int t), some (.int i), some (.int c), some (.int x), some (.int y), some (.int z), some (.int (nI 1))] I := by
  by_cases w4 : w ≤ 4
  · rw [doS_0 L A D w w4] at hK
    exact mp_0 l d ru ta rs I J Rp L A hA h n t i c _ _ _ vc w w4 hv (hK I J FMl.rf h)
  have yw : w = 5 ∨ w = 6 ∨ w = 7 ∨ w = 8 ∨ w = 9 ∨ w = 10 ∨ w = 11 ∨ w = 12 ∨ w = 13 := by omega
  rcases yw with rfl | rfl | rfl | rfl | rfl | rfl | rfl | rfl | rfl
  · have hl : D.length = 3 := hD (by decide)
    have x1 : x = aD D 0 := ex.1 (by omega)
    have x2 : y = aD D 1 := ex.2.1 (by omega)
    have x3 : z = aD D 2 := ex.2.2 (by omega)
    clear ex
    subst x1
    subst x2
    subst x3
    rw [dS1_5, dS2_5] at hK
    exact mp_5 l d ru ta rs I J Rp L A hA h n t i c (aD D 0) (aD D 1) (aD D 2)  vc hv hK
  · have hl : D.length = 1 := hD (by decide)
    have x1 : x = aD D 0 := ex.1 (by omega)
    clear ex
    subst x1
    rw [dS1_6, dS2_6] at hK
    exact mp_6 l d ru ta rs I J Rp L A hA h n t i c (aD D 0) _ _ vc hv hK
  · have hl : D.length = 1 := hD (by decide)
    have x1 : x = aD D 0 := ex.1 (by omega)
    clear ex
    subst x1
    rw [dS1_7, dS2_7] at hK
    exact mp_7 l d ru ta rs I J Rp L A hA h n t i c (aD D 0) _ _ vc hv hK
  · have hl : D.length = 3 := hD (by decide)
    have x1 : x = aD D 0 := ex.1 (by omega)
    have x2 : y = aD D 1 := ex.2.1 (by omega)
    have x3 : z = aD D 2 := ex.2.2 (by omega)
    clear ex
    subst x1
    subst x2
    subst x3
    rw [dS1_8, dS2_8] at hK
    exact mp_8 l d ru ta rs I J Rp L A hA h n t i c (aD D 0) (aD D 1) (aD D 2)  vc hv hK
  · have hl : D.length = 2 := hD (by decide)
    have x1 : x = aD D 0 := ex.1 (by omega)
    have x2 : y = aD D 1 := ex.2.1 (by omega)
    clear ex
    subst x1
    subst x2
    rw [dS1_9, dS2_9] at hK
    exact mp_9 l d ru ta rs I J Rp L A hA h n t i c (aD D 0) (aD D 1) _ vc hv hK
  · have hl : D.length = 2 := hD (by decide)
    have x1 : x = aD D 0 := ex.1 (by omega)
    have x2 : y = aD D 1 := ex.2.1 (by omega)
    clear ex
    subst x1
    subst x2
    rw [dS1_10, dS2_10] at hK
    exact mp_10 l d ru ta rs I J Rp L A hA h n t i c (aD D 0) (aD D 1) _ vc hv hK
  · have hl : D.length = 2 := hD (by decide)
    have x1 : x = aD D 0 := ex.1 (by omega)
    have x2 : y = aD D 1 := ex.2.1 (by omega)
    clear ex
    subst x1
    subst x2
    rw [dS1_11, dS2_11] at hK
    exact mp_11 l d ru ta rs I J Rp L A hA h n t i c (aD D 0) (aD D 1) _ vc hv hK
  · have hl : D.length = 1 := hD (by decide)
    have x1 : x = aD D 0 := ex.1 (by omega)
    clear ex
    subst x1
    rw [dS1_12, dS2_12] at hK
    exact mp_12 l d ru ta rs I J Rp L A hA h n t i c (aD D 0) _ _ vc hv hK
  · have hl : D.length = 1 := hD (by decide)
    have x1 : x = aD D 0 := ex.1 (by omega)
    clear ex
    subst x1
    rw [dS1_13, dS2_13] at hK
    have hk : D.getD 0 0 ≤ 10000 := dm _ (getD_mem (by omega))
    exact mp_13 l d ru ta rs I J Rp L A hA h n t i c (D.getD 0 0) hk _ _ vc hv hK
