-- ===== the class: what a law says =====
def hld (v lo hi : Int) : Int := if v < lo then lo else if hi < v then hi else v
theorem i32_dv {a b : Nat} (ha : a ≤ 16) (hb : b < 10000) : nI (10000 * a + b) / nI 10000 = nI a := by
  apply Int32.toInt_inj.mp
  rw [Int32.toInt_div_of_ne_right _ _ (by decide), nI_toInt (by omega), nI_toInt (by omega), nI_toInt (by omega)]
  rw [Int.tdiv_eq_ediv_of_nonneg (by omega)]
  omega
theorem i32_mod {a b : Nat} (ha : a ≤ 16) (hb : b < 10000) : nI (10000 * a + b) - nI (10000 * a + b) / nI 10000 * nI 10000 = nI b := by
  rw [i32_dv ha hb, nI_mul, show a * 10000 = 10000 * a by omega, nI_subI (by omega) (by omega), show 10000 * a + b - 10000 * a = b by omega]
/-- the class's operation and its number -/
def opa (o : Odr) : Nat := if o.1 = 400 then 0 else if o.1 = 401 then 1 else if o.1 = 403 then 3 else opc o.1
def opb (o : Odr) : Nat := if o.1 = 400 then o.2 else if o.1 = 401 then rnm o.2 else if o.1 = 403 then o.2 else 0
theorem ccd_if (o : Odr) : ccd o = if o.1 = 400 then nI o.2 else if o.1 = 401 then nI (10000 + rnm o.2) else if o.1 = 403 then nI (30000 + o.2) else nI (10000 * opc o.1) := by
  unfold ccd
  split <;> simp_all
theorem ccd_ab (o : Odr) : ccd o = nI (10000 * opa o + opb o) := by
  rw [ccd_if]
  unfold opa opb
  by_cases h1 : o.1 = 400
  · rw [if_pos h1, if_pos h1, if_pos h1, Nat.mul_zero, Nat.zero_add]
  · rw [if_neg h1, if_neg h1, if_neg h1]
    by_cases h2 : o.1 = 401
    · rw [if_pos h2, if_pos h2, if_pos h2]
    · rw [if_neg h2, if_neg h2, if_neg h2]
      by_cases h3 : o.1 = 403
      · rw [if_pos h3, if_pos h3, if_pos h3]
      · rw [if_neg h3, if_neg h3, if_neg h3, Nat.add_zero]
theorem bnd_id {v : Int} (h : inM v) : bnd v = v := by
  unfold bnd
  have := h.1
  have := h.2
  rw [if_neg (by omega), if_neg (by omega)]
theorem cl_bnd (v : Int64) : (if (if v < 1000000 then v else 1000000) < -1000000 then (-1000000 : Int64) else (if v < 1000000 then v else 1000000)).toInt = bnd v.toInt := by
  unfold bnd
  by_cases a : v < 1000000
  · have a2 := Int64.lt_iff_toInt_lt.mp a
    rw [i64_M] at a2
    rw [if_pos a, if_neg (show ¬ 1000000 < v.toInt by omega)]
    by_cases b : v < -1000000
    · have b2 := Int64.lt_iff_toInt_lt.mp b
      rw [i64_mM] at b2
      rw [if_pos b, if_pos b2, i64_mM]
    · have b2 : ¬ v.toInt < (-1000000 : Int64).toInt := fun z => b (Int64.lt_iff_toInt_lt.mpr z)
      rw [i64_mM] at b2
      rw [if_neg b, if_neg b2]
  · have a2 : ¬ v.toInt < (1000000 : Int64).toInt := fun z => a (Int64.lt_iff_toInt_lt.mpr z)
    rw [i64_M] at a2
    rw [if_neg a, if_neg (show ¬ (1000000 : Int64) < -1000000 by decide), i64_M]
    by_cases c : 1000000 < v.toInt
    · rw [if_pos c]
    · rw [if_neg c, if_neg (by omega)]
      omega
