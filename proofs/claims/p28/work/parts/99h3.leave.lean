-- ===== who would leave: leave =====
theorem add_n0 (x : Int32) : x + nI 0 = x := by
  have e : nI 0 = 0 := rfl
  rw [e]
  simp
-- the class
-- the reference
theorem m_has_n (l : Launch) (d s k : Nat) (hs : s < 2147483648) (hk : k < 32) (v : Int32) (ev : v = nI k) (sh : List XO) (I : XI) (J : XJ) (Rp : XR) (h1 : s / 2 ^ k % 2 = 1 → Rp (some (.int 1)) sh I J) (h0 : ¬ s / 2 ^ k % 2 = 1 → Rp (some (.int 0)) sh I J) : xm l (d + 1) 0 0 mX12_has [.int (nI s), .int v] sh I J Rp := by
  subst ev
  have b := bit_nat s k hs hk
  refine m_has_x l d (nI s) (nI k) sh I J Rp (fun z => h1 ?_) (fun z => h0 (fun q => z ?_))
  · rw [b] at z
    rcases bit_two s k with q | q
    · rw [q] at z
      exact absurd z (by decide)
    · exact q
  · rw [b, q]
    rfl
