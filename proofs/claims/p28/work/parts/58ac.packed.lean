set_option maxRecDepth 100000 in
theorem hm_manyF (l : Launch) (d N : Nat) (hN : N < 4096) (sh : List XO) (I : XI) (J : XJ) (Rp : XR) (hR : Rp (some (.int (nI (pcN 12 N)))) sh I J) : xm l (d + 1) 0 0 mX12_many [.int (nI N)] sh I J Rp := by
  refine xm_ofK 13 (X := xxX12) (t := tX12_many) (stop := [4]) (ini := false) xx12 pl12 rfl kX12_many (fun h => by cases h) (Nat.le_of_ble_eq_true rfl) (fun K hK => ?_)
  refine hK 4 [some (.int (nI N)), some (.int (nI 0)), some (.int (nI N))] [] _ _ _ _ _ (hm_manyF_loop l d _ sh I J Rp 12 N 13 0 ?_ (by omega) (by omega) (by omega))
  rw [Nat.zero_add]
  exact hR
theorem pcN_zero (N : Nat) : ∀ b, pcN b N = 0 → N % 2 ^ b = 0
  | 0, _ => by
    rw [Nat.pow_zero]
    exact Nat.mod_one N
  | b + 1, h => by
    rw [pcN_step] at h
    have ih := pcN_zero N b (by omega)
    rw [Nat.pow_succ, Nat.mod_mul, ih, show N / 2 ^ b % 2 = 0 by omega]
    omega
theorem pcN_pos {N : Nat} (h1 : 1 ≤ N) (h2 : N ≤ 4095) : 1 ≤ pcN 12 N := by
  rcases Nat.eq_zero_or_pos (pcN 12 N) with z | z
  · have := pcN_zero N 12 z
    omega
  · exact z
theorem qp3 : ∀ p, p ∈ QPl → nmem p [96, 97, 98] = false := by decide
def pkL (N : Nat) (i w : Int32) (b : Nat) : List (Option Value) := [some (.ref 67), some (.int (nI N)), some (.int i), some (.int (nI (pcN b N))), some (.int w), some (.int (nI b)), none, none, none, none]
