set_option maxRecDepth 100000 in
set_option maxHeartbeats 8000000 in
theorem cu_erow (Q : Tld) (L : Lws) (I Ib I1 I2 : XI) (t r bn : Nat) (ht : t < 8) (hr : r < 4) (eb : Ib 93 = baI (I2 93) (frB (I 93)) (I2 68 ((nI 18) + (nI t)).toNatClampNeg) (ltR (nI (lgR Q L (I 93) t)) (I1 68 ((nI 34) + (nI r)).toNatClampNeg)) (nI bn)) (e68 : I1 68 = I 68) (e93b : I2 93 = I 93) (e68b : I2 68 = I 68) (eK : I 68 (18 + t) = nI (qK Q t)) (eC : I 68 (34 + r) = nI (qC Q r)) : (uI (uI Ib 93 ((nI 0) + (nI t)).toNatClampNeg ((Ib 93 ((nI 0) + (nI t)).toNatClampNeg) - (((Ib 93 ((nI 0) + (nI t)).toNatClampNeg) * (ltR (nI (lgR Q L (I 93) t)) (I1 68 ((nI 34) + (nI r)).toNatClampNeg))) / (nI (lgR Q L (I 93) t))))) 93 ((nI 12) + (nI r)).toNatClampNeg (nI 1)) 93 = cuW Q L (I 93) t r bn := by
  have ix0 : ((nI 8) + (nI r)).toNatClampNeg = 8 + r := by rw [show (nI 8) + (nI r) = nI (8 + r) by simp only [nI_add, nI_mul, Nat.zero_add]]; exact nI_clamp (by omega)
  have ix1 : ((nI 12) + (nI r)).toNatClampNeg = 12 + r := by rw [show (nI 12) + (nI r) = nI (12 + r) by simp only [nI_add, nI_mul, Nat.zero_add]]; exact nI_clamp (by omega)
  have ix2 : ((nI 34) + (nI r)).toNatClampNeg = 34 + r := by rw [show (nI 34) + (nI r) = nI (34 + r) by simp only [nI_add, nI_mul, Nat.zero_add]]; exact nI_clamp (by omega)
  have ix3 : ((nI 18) + (nI t)).toNatClampNeg = 18 + t := by rw [show (nI 18) + (nI t) = nI (18 + t) by simp only [nI_add, nI_mul, Nat.zero_add]]; exact nI_clamp (by omega)
  have ix4 : ((nI 0) + (nI t)).toNatClampNeg = t := by rw [show (nI 0) + (nI t) = nI (t) by simp only [nI_add, nI_mul, Nat.zero_add]]; exact nI_clamp (by omega)
  simp only [ix0, ix1, ix2, ix3, ix4, uI_rd, uI_eq, eb, e68, e93b, e68b, eK, eC]
  rfl
