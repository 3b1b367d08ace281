-- ===== who would leave: leave =====
def bsr (x k : Int32) : Int32 := (x.toUInt32 >>> (k.toUInt32 &&& Int32.toUInt32 31)).toInt32
def bc1 (x : Int32) : Int32 := x - (bsr x (nI 1) &&& 1431655765)
def bc2 (x : Int32) : Int32 := (x &&& 858993459) + (bsr x (nI 2) &&& 858993459)
def bc3 (x : Int32) : Int32 := (x + bsr x (nI 4)) &&& 252645135
def bc4 (x : Int32) : Int32 := x + bsr x (nI 8)
def bc5 (x : Int32) : Int32 := x + bsr x (nI 16)
def bcX (x : Int32) : Int32 := bc5 (bc4 (bc3 (bc2 (bc1 x)))) &&& nI 63
set_option maxRecDepth 100000 in
theorem j_bitCount (l : Launch) (d : Nat) (x : Int32) (sh : List XO) (I : XI) (J : XJ) (Rp : XR) (hR : Rp (some (.int (bcX x))) sh I J) : xm l (d + 1) 0 0 mJ6_bitCount_0f7a4 [.int x] sh I J Rp := by
  refine xm_ofK 0 (X := xxJ6) (t := tJ6_bitCount_0f7a4) (stop := []) (ini := false) xxj6 plJ6 rfl kJ6_bitCount_0f7a4 (fun h => by cases h) (Nat.le_of_ble_eq_true rfl) (fun K hK => ?_)
  exact hR
-- the class
-- the reference
theorem m_has_n (l : Launch) (d s k : Nat) (hs : s < 2147483648) (hk : k < 32) (v : Int32) (ev : v = nI k) (sh : List XO) (I : XI) (J : XJ) (Rp : XR) (h1 : s / 2 ^ k % 2 = 1 → Rp (some (.int 1)) sh I J) (h0 : ¬ s / 2 ^ k % 2 = 1 → Rp (some (.int 0)) sh I J) : xm l (d + 1) 0 0 mX12_has [.int (nI s), .int v] sh I J Rp := by
  subst ev
  have b := bit_nat s k hs hk
  refine m_has_x l d (nI s) (nI k) sh I J Rp (fun z => h1 ?_) (fun z => h0 (fun q => z ?_))
  · rw [b] at z
    rcases bit_two s k with q | q
    · rw [q] at z
      exact absurd z (by decide)
    · exact q
  · rw [b, q]
    rfl
