theorem bv_small {k : Nat} (h : k < 4294967296) : (BitVec.ofNat 32 k).toNat = k := by
  rw [BitVec.toNat_ofNat, Nat.mod_eq_of_lt h]
theorem bit_nat (N b : Nat) (hN : N < 2147483648) (hb : b < 32) : (nI N >>> (nI b &&& 31)) &&& 1 = nI (N / 2 ^ b % 2) := by
  apply Int32.toBitVec_inj.mp
  have hbv : ((nI b &&& 31).toBitVec.smod 32) = BitVec.ofNat 32 b := by
    have : ∀ b, b < 32 → ((nI b &&& 31).toBitVec.smod 32) = BitVec.ofNat 32 b := by decide +kernel
    exact this b hb
  rw [Int32.toBitVec_and, Int32.toBitVec_shiftRight, hbv]
  have hx : (nI N).toBitVec = BitVec.ofNat 32 N := rfl
  rw [hx]
  apply BitVec.eq_of_toNat_eq
  rw [BitVec.toNat_and]
  have hs : (BitVec.ofNat 32 N).sshiftRight' (BitVec.ofNat 32 b) = (BitVec.ofNat 32 N) >>> b := by
    rw [BitVec.sshiftRight']
    rw [BitVec.sshiftRight_eq_of_msb_false]
    · rw [BitVec.toNat_ofNat, Nat.mod_eq_of_lt (by omega)]
    · rw [BitVec.msb_eq_decide]
      simp
      omega
  rw [hs, BitVec.toNat_ushiftRight, BitVec.toNat_ofNat, Nat.mod_eq_of_lt (by omega : N < 2^32), Nat.shiftRight_eq_div_pow]
  show N / 2 ^ b &&& 1 = (BitVec.ofNat 32 (N / 2 ^ b % 2)).toNat
  rw [Nat.and_one_is_mod, bv_small (by omega)]
theorem half_nat (N : Nat) (hN : N < 2147483648) : nI N >>> (1 &&& 31) = nI (N / 2) := by
  apply Int32.toBitVec_inj.mp
  have hbv : (((1:Int32) &&& 31).toBitVec.smod 32) = BitVec.ofNat 32 1 := by decide +kernel
  rw [Int32.toBitVec_shiftRight, hbv]
  have hx : (nI N).toBitVec = BitVec.ofNat 32 N := rfl
  rw [hx]
  have hs : (BitVec.ofNat 32 N).sshiftRight' (BitVec.ofNat 32 1) = (BitVec.ofNat 32 N) >>> 1 := by
    rw [BitVec.sshiftRight']
    rw [BitVec.sshiftRight_eq_of_msb_false]
    · rw [BitVec.toNat_ofNat]
    · rw [BitVec.msb_eq_decide]
      simp
      omega
  rw [hs]
  apply BitVec.eq_of_toNat_eq
  rw [BitVec.toNat_ushiftRight, BitVec.toNat_ofNat, Nat.mod_eq_of_lt (by omega : N < 2^32), Nat.shiftRight_eq_div_pow]
  show N / 2 ^ 1 = (BitVec.ofNat 32 (N / 2)).toNat
  rw [bv_small (by omega)]
theorem low_nat (N : Nat) (hN : N < 2147483648) : nI N &&& 1 = nI (N % 2) := by
  apply Int32.toBitVec_inj.mp
  rw [Int32.toBitVec_and]
  apply BitVec.eq_of_toNat_eq
  rw [BitVec.toNat_and]
  show (BitVec.ofNat 32 N).toNat &&& 1 = (BitVec.ofNat 32 (N % 2)).toNat
  rw [bv_small (by omega), Nat.and_one_is_mod, bv_small (by omega)]
theorem pow_step {N b : Nat} (h : N % 2 ^ b = 0) (h1 : N / 2 ^ b % 2 = 0) : N % 2 ^ (b + 1) = 0 := by
  rw [Nat.pow_succ, Nat.mod_mul, h, h1]; omega
theorem bit_two (N b : Nat) : N / 2 ^ b % 2 = 0 ∨ N / 2 ^ b % 2 = 1 := by omega
set_option maxRecDepth 100000 in
theorem c_bits (l : Launch) (d : Nat) (x : Int32) (sh : List XO) (I : XI) (J : XJ) (Rp : XR) (hR : ∀ r : Int32, Rp (some (.int r)) sh I J) : xm l (d + 1) 0 0 mJ6_bitCount_0f7a4 [.int x] sh I J Rp := by
  refine xm_ofK 0 (X := xxJ6) (t := tJ6_bitCount_0f7a4) (stop := []) (ini := false) xxj6 plJ6 rfl kJ6_bitCount_0f7a4 (fun h => by cases h) (Nat.le_of_ble_eq_true rfl) (fun K hK => ?_)
  exact hR _
set_option maxRecDepth 100000 in
theorem m_has_x (l : Launch) (d : Nat) (x k : Int32) (sh : List XO) (I : XI) (J : XJ) (Rp : XR) (h1 : (x >>> (k &&& 31)) &&& 1 = 1 → Rp (some (.int 1)) sh I J) (h0 : ¬ (x >>> (k &&& 31)) &&& 1 = 1 → Rp (some (.int 0)) sh I J) : xm l (d + 1) 0 0 mX12_has [.int x, .int k] sh I J Rp := by
  refine xm_ofK 0 (X := xxX12) (t := tX12_has) (stop := []) (ini := false) xx12 pl12 rfl kX12_has (fun h => by cases h) (Nat.le_of_ble_eq_true rfl) (fun K hK => ?_)
  refine And.intro (fun h => And.intro (Or.inl rfl) (h0 h)) (fun h => And.intro (Or.inr rfl) (h1 h))
set_option maxRecDepth 100000 in
theorem m_many_loop (l : Launch) (d : Nat) (x : Int32) (sh : List XO) (I : XI) (J : XJ) (Rp : XR) (hR : ∀ r : Int32, Rp (some (.int r)) sh I J) : ∀ (m N n : Nat) (c : Int32), N < 2 ^ m → m ≤ 30 → m < n → xrun xxX12 (some .int) false false sh.length 0 0 none l d tX12_many [4] Rp n 4 [some (.int x), some (.int c), some (.int (nI N))] [] sh I J 0 0 := by
  intro m
  induction m with
  | zero =>
    intro N n c hN hm hn
    obtain ⟨n, rfl⟩ : ∃ n', n = n' + 1 := ⟨n - 1, by omega⟩
    have h0 : N = 0 := by omega
    subst h0
    refine xrun_step fun K hK => ?_
    exact And.intro (fun _ => hR _) (fun h => absurd (show nI 0 = 0 by decide) h)
  | succ m ih =>
    intro N n c hN hm hn
    obtain ⟨n, rfl⟩ : ∃ n', n = n' + 1 := ⟨n - 1, by omega⟩
    have hP : 2 ^ (m + 1) ≤ 2 ^ 30 := Nat.pow_le_pow_right (by omega) hm
    have hP2 : 2 ^ (m + 1) = 2 ^ m * 2 := Nat.pow_succ 2 m
    refine xrun_step fun K hK => ?_
    refine And.intro (fun _ => hR _) (fun _ => ?_)
    refine hK 4 [some (.int x), some (.int (c + (nI N &&& 1))), some (.int (nI N >>> (1 &&& 31)))] [] sh I J 0 0 ?_
    rw [half_nat N (by omega)]
    exact ih (N / 2) n _ (by omega) (by omega) (by omega)
set_option maxRecDepth 100000 in
theorem m_many (l : Launch) (d N : Nat) (hN : N < 4096) (sh : List XO) (I : XI) (J : XJ) (Rp : XR) (hR : ∀ r : Int32, Rp (some (.int r)) sh I J) : xm l (d + 1) 0 0 mX12_many [.int (nI N)] sh I J Rp := by
  refine xm_ofK 13 (X := xxX12) (t := tX12_many) (stop := [4]) (ini := false) xx12 pl12 rfl kX12_many (fun h => by cases h) (Nat.le_of_ble_eq_true rfl) (fun K hK => ?_)
  exact hK _ _ _ _ _ _ _ _ (m_many_loop l d _ sh I J Rp hR 12 N 13 0 (by omega) (by omega) (by omega))
theorem rng_of {v a b : Int32} {m n : Nat} (ha : a.toInt = (m : Int) := by decide) (hb : b.toInt = (n : Int) := by decide) (h1 : a ≤ v) (h2 : v ≤ b) : ∃ N : Nat, m ≤ N ∧ N ≤ n ∧ v = nI N := by
  have y1 := Int32.le_iff_toInt_le.mp h1
  have y2 := Int32.le_iff_toInt_le.mp h2
  rw [ha] at y1
  rw [hb] at y2
  have hn : ¬ v < 0 := by
    intro z
    have z := Int32.lt_iff_toInt_lt.mp z
    rw [show (0 : Int32).toInt = 0 by decide] at z
    omega
  obtain ⟨j, hj, rfl⟩ := nI_of hn
  rw [nI_toInt hj] at y1 y2
  exact ⟨j, by omega, by omega, rfl⟩
set_option maxRecDepth 100000 in
theorem c_packed_loop (l : Launch) (d N : Nat) (i : Int32) (h1 : 1 ≤ N) (h2 : N ≤ 4095) (ru ta : Nat) (I : XI) (J : XJ) (Rp : XR) (hI : ∀ k, k < 12 → I 27 (28 + k) = 0) (hR : Rp (some (.int (-1))) (shG ru ta) I J) : ∀ (m b n : Nat), b + m = 12 → m < n → N % 2 ^ b = 0 → xrun xxX11 (some .int) false false (shG ru ta).length 0 0 none l (d + 1) tX11_packed [24] Rp n 24 [some (.ref 0), some (.int (nI N)), some (.int i), some (.int (nI b))] [] (shG ru ta) I J 0 0 := by
  intro m
  induction m with
  | zero =>
    intro b n hb hn hN
    exfalso
    have : b = 12 := by omega
    subst this
    omega
  | succ m ih =>
    intro b n hb hn hN
    obtain ⟨n, rfl⟩ : ∃ n', n = n' + 1 := ⟨n - 1, by omega⟩
    refine xrun_step fun K hK => ?_
    refine And.intro (fun h => absurd h (nI_ge (a := b) (b := 12) (by omega) (by omega))) (fun _ => ?_)
    have e := bit_nat N b (by omega) (by omega)
    refine And.intro (fun h => ?_) (fun h => ?_)
    · have h' : ¬ (nI N >>> (nI b &&& 31)) &&& 1 = 1 := h
      have h0 : N / 2 ^ b % 2 = 0 := by
        rcases bit_two N b with z | z
        · exact z
        · rw [e, z] at h'
          exact absurd rfl h'
      refine hK 24 [some (.ref 0), some (.int (nI N)), some (.int i), some (.int (nI b + 1))] [] (shG ru ta) I J 0 0 ?_
      rw [nI_1]
      exact ih (b + 1) n (by omega) (by omega) (pow_step hN h0)
    · refine c_hasBale_0_26 l _ _ _ _ _ _ _ hI ?_
      exact And.intro (fun h => absurd (show (0 : Int32) = 0 from rfl) h) (fun _ => hR)
set_option maxRecDepth 100000 in
theorem c_packed_0 (l : Launch) (d : Nat) (v i : Int32) (ru ta : Nat) (I : XI) (J : XJ) (Rp : XR) (hI : ∀ k, k < 12 → I 27 (28 + k) = 0) (hR : Rp (some (.int (-1))) (shG ru ta) I J) : xm l (d + 2) 0 0 mX11_packed [.ref 0, .int v, .int i] (shG ru ta) I J Rp := by
  refine xm_ofK 14 (X := xxX11) (t := tX11_packed) (stop := [24]) (ini := false) xx11 pl11 rfl kX11_packed (fun h => by cases h) (Nat.le_of_ble_eq_true rfl) (fun K hK => ?_)
  by_cases hc : (1 : Int32) ≤ v ∧ v ≤ 4095
  · refine c_within_t l _ _ _ _ _ _ _ _ hc.1 hc.2 ?_
    refine And.intro (fun h => absurd h (show ¬ ((1 : Int32) = 0) by decide)) (fun _ => ?_)
    refine c_bits l _ _ _ _ _ _ (fun r => ?_)
    refine And.intro (fun _ => ?_) (fun _ => hR)
    obtain ⟨N, h1, h2, rfl⟩ := rng_of (m := 1) (n := 4095) (by decide) (by decide) hc.1 hc.2
    exact hK _ _ _ _ _ _ _ _ (c_packed_loop l d N i h1 h2 ru ta I J Rp hI hR 12 0 14 (by omega) (by omega) (by omega))
  · refine c_within_f l _ _ _ _ _ _ _ _ hc ?_
    exact And.intro (fun _ => hR) (fun h => absurd (show (0 : Int32) = 0 from rfl) h)
set_option maxRecDepth 100000 in
theorem m_packed_loop (l : Launch) (d N : Nat) (i w : Int32) (h1 : 1 ≤ N) (h2 : N ≤ 4095) (ru ta : Nat) (I : XI) (J : XJ) (Rp : XR) (hI : ∀ k, k < 12 → I 68 (88 + k) = 0) (hR : Rp (some (.int (-1))) (shG ru ta) I J) : ∀ (m b n : Nat), b + m = 12 → m < n → N % 2 ^ b = 0 → xrun xxX12 (some .int) false false (shG ru ta).length 0 0 none l (d + 2) tX12_packed [44] Rp n 44 [some (.ref 67), some (.int (nI N)), some (.int i), some (.int 0), some (.int w), some (.int (nI b)), none, none, none, none] [] (shG ru ta) I J 0 0 := by
  intro m
  induction m with
  | zero =>
    intro b n hb hn hN
    exfalso
    have : b = 12 := by omega
    subst this
    omega
  | succ m ih =>
    intro b n hb hn hN
    obtain ⟨n, rfl⟩ : ∃ n', n = n' + 1 := ⟨n - 1, by omega⟩
    refine xrun_step fun K hK => ?_
    refine And.intro (fun h => absurd h (nI_ge (a := b) (b := 12) (by omega) (by omega))) (fun _ => ?_)
    have e := bit_nat N b (by omega) (by omega)
    refine m_has_x l _ _ _ _ _ _ _ (fun h => ?_) (fun h => ?_)
    · refine And.intro (fun h => absurd h (show ¬ ((1 : Int32) = 0) by decide)) (fun _ => ?_)
      refine m_isBale_0 l _ _ _ _ _ _ _ hI ?_
      exact And.intro (fun h => absurd (show (0 : Int32) = 0 from rfl) h) (fun _ => hR)
    · have h0 : N / 2 ^ b % 2 = 0 := by
        rcases bit_two N b with z | z
        · exact z
        · rw [e, z] at h
          exact absurd rfl h
      refine And.intro (fun _ => ?_) (fun h => absurd (show (0 : Int32) = 0 from rfl) h)
      refine hK 44 [some (.ref 67), some (.int (nI N)), some (.int i), some (.int 0), some (.int w), some (.int (nI b + 1)), none, none, none, none] [] (shG ru ta) I J 0 0 ?_
      rw [nI_1]
      exact ih (b + 1) n (by omega) (by omega) (pow_step hN h0)
set_option maxRecDepth 100000 in
theorem m_packed_0 (l : Launch) (d : Nat) (v i : Int32) (ru ta : Nat) (I : XI) (J : XJ) (Rp : XR) (hI : ∀ k, k < 12 → I 68 (88 + k) = 0) (hR : Rp (some (.int (-1))) (shG ru ta) I J) : xm l (d + 3) 0 0 mX12_packed [.ref 67, .int v, .int i] (shG ru ta) I J Rp := by
  refine xm_ofK 14 (X := xxX12) (t := tX12_packed) (stop := [44]) (ini := false) xx12 pl12 rfl kX12_packed (fun h => by cases h) (Nat.le_of_ble_eq_true rfl) (fun K hK => ?_)
  by_cases hc : (1 : Int32) ≤ v ∧ v ≤ 4095
  · refine m_in_t l _ _ _ _ _ _ _ _ hc.1 hc.2 ?_
    refine And.intro (fun h => absurd h (show ¬ ((1 : Int32) = 0) by decide)) (fun _ => ?_)
    obtain ⟨N, h1, h2, rfl⟩ := rng_of (m := 1) (n := 4095) (by decide) (by decide) hc.1 hc.2
    refine m_many l _ N (by omega) _ _ _ _ (fun r => ?_)
    refine And.intro (fun _ => hR) (fun _ => ?_)
    refine m_many l _ N (by omega) _ _ _ _ (fun r => ?_)
    by_cases hq : (-1 : Int32) ≤ i ∧ i ≤ r - 1
    · refine m_in_t l _ _ _ _ _ _ _ _ hq.1 hq.2 ?_
      refine And.intro (fun _ => ?_) (fun h => absurd h (show ¬ ((1 : Int32) = 0) by decide))
      exact hK _ _ _ _ _ _ _ _ (m_packed_loop l d N i 1 h1 h2 ru ta I J Rp hI hR 12 0 14 (by omega) (by omega) (by omega))
    · refine m_in_f l _ _ _ _ _ _ _ _ hq ?_
      exact And.intro (fun h => absurd (show (0 : Int32) = 0 from rfl) h) (fun _ => hR)
  · refine m_in_f l _ _ _ _ _ _ _ _ hc ?_
    exact And.intro (fun _ => hR) (fun h => absurd (show (0 : Int32) = 0 from rfl) h)
set_option maxRecDepth 100000 in
theorem law_c31 (l : Launch) (xs : Nat → Int32) (n : Nat) : lrun l 6 xs (n + 2) 1219 lloc [] shXM lI jM 99 18232 := by
  refine xrun_step fun K hK => ?_
  refine And.intro (show vp_in ((0 : Int32) + (1 : Int32)) 6 from vp_b (by decide)) ?_
  refine And.intro (show vp_in ((0 : Int32) + (2 : Int32)) 6 from vp_b (by decide)) ?_
  refine c_packed_0 l _ _ _ _ _ _ _ _ lI_now ?_
  refine And.intro (show vp_in ((0 : Int32) + (1 : Int32)) 6 from vp_b (by decide)) ?_
  refine And.intro (show vp_in ((0 : Int32) + (2 : Int32)) 6 from vp_b (by decide)) ?_
  refine m_packed_0 l _ _ _ _ _ _ _ _ lI_row ?_
  refine And.intro (fun _ => ?_) (fun h => absurd (show (-1 : Int32) = (-1 : Int32) from rfl) h)
  exact hK _ _ _ _ _ _ _ _ (law_next l xs n _ _ _ 99 18232 (Nat.le_of_ble_eq_true rfl) (Nat.le_of_ble_eq_true rfl))
