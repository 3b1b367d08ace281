-- ===== packed of the reference: the bits by hand, the ways by the check =====
theorem bit_nat (N b : Nat) (hN : N < 2147483648) (hb : b < 32) : (nI N >>> (nI b &&& 31)) &&& 1 = nI (N / 2 ^ b % 2) := by
  apply Int32.toBitVec_inj.mp
  have hbv : ((nI b &&& 31).toBitVec.smod 32) = BitVec.ofNat 32 b := by
    have : ∀ b, b < 32 → ((nI b &&& 31).toBitVec.smod 32) = BitVec.ofNat 32 b := by decide +kernel
    exact this b hb
  rw [Int32.toBitVec_and, Int32.toBitVec_shiftRight, hbv]
  have hx : (nI N).toBitVec = BitVec.ofNat 32 N := rfl
  rw [hx]
  apply BitVec.eq_of_toNat_eq
  rw [BitVec.toNat_and]
  have hs : (BitVec.ofNat 32 N).sshiftRight' (BitVec.ofNat 32 b) = (BitVec.ofNat 32 N) >>> b := by
    rw [BitVec.sshiftRight']
    rw [BitVec.sshiftRight_eq_of_msb_false]
    · rw [BitVec.toNat_ofNat, Nat.mod_eq_of_lt (by omega)]
    · rw [BitVec.msb_eq_decide]
      simp
      omega
  rw [hs, BitVec.toNat_ushiftRight, BitVec.toNat_ofNat, Nat.mod_eq_of_lt (by omega : N < 2^32), Nat.shiftRight_eq_div_pow]
  show N / 2 ^ b &&& 1 = (BitVec.ofNat 32 (N / 2 ^ b % 2)).toNat
  rw [Nat.and_one_is_mod, bv_small (by omega)]
theorem bit_two (N b : Nat) : N / 2 ^ b % 2 = 0 ∨ N / 2 ^ b % 2 = 1 := by omega
set_option maxRecDepth 100000 in
theorem m_has_x (l : Launch) (d : Nat) (x k : Int32) (sh : List XO) (I : XI) (J : XJ) (Rp : XR) (h1 : (x >>> (k &&& 31)) &&& 1 = 1 → Rp (some (.int 1)) sh I J) (h0 : ¬ (x >>> (k &&& 31)) &&& 1 = 1 → Rp (some (.int 0)) sh I J) : xm l (d + 1) 0 0 mX12_has [.int x, .int k] sh I J Rp := by
  refine xm_ofK 0 (X := xxX12) (t := tX12_has) (stop := []) (ini := false) xx12 pl12 rfl kX12_has (fun h => by cases h) (Nat.le_of_ble_eq_true rfl) (fun K hK => ?_)
  refine And.intro (fun h => And.intro (Or.inl rfl) (h0 h)) (fun h => And.intro (Or.inr rfl) (h1 h))
def pk_ann : List (Nat × AA) := [(99, [(.ofNat 0, .ofNat 0), (.ofNat 1, .ofNat 4095), (.negSucc 0, .ofNat 5), (.ofNat 0, .ofNat 6), fr, (.ofNat 1, .ofNat 4)], [.inr (.inl [67]), .inl (1, .ofNat 0), .inl (2, .ofNat 0), .inl (3, .ofNat 0), .inl (4, .ofNat 0), .inr (.inr 0), .inr (.inr 0), .inr (.inr 0), .inr (.inr 0), .inr (.inr 0)], [], [(68, 2, 5, .ofNat 0)], [(0, 3, 0), (0, 4, 0), (2, 68, 2)], (.ofNat 32212254720, [.ofNat 0, .ofNat 0, .ofNat 0, .ofNat 0, .ofNat 0, .ofNat 0])), (105, [(.ofNat 0, .ofNat 0), (.ofNat 1, .ofNat 4095), (.negSucc 0, .ofNat 5), (.ofNat 0, .ofNat 6), fr, fr, (.ofNat 0, .ofNat 2147483647), (.ofNat 1, .ofNat 4)], [.inr (.inl [67]), .inl (1, .ofNat 0), .inl (2, .ofNat 0), .inl (3, .ofNat 0), .inl (4, .ofNat 0), .inl (5, .ofNat 0), .inl (6, .ofNat 0), .inr (.inr 0), .inr (.inr 0), .inr (.inr 0)], [], [(68, 2, 7, .ofNat 0)], [(0, 3, 0), (0, 4, 0), (0, 5, 0), (0, 6, 0), (2, 68, 2)], (.ofNat 32212254719, [.ofNat 0, .ofNat 0, .ofNat 0, .ofNat 0, .ofNat 0, .ofNat 0, .negSucc 14, .ofNat 0])), (121, [(.ofNat 0, .ofNat 0), (.ofNat 1, .ofNat 4095), (.negSucc 0, .ofNat 5), (.ofNat 0, .ofNat 6), (.ofNat 1, .ofNat 2147483647), fr, (.ofNat 0, .ofNat 2147483646), (.ofNat 0, .ofNat 2147483646), (.negSucc 0, .ofNat 5), (.ofNat 1, .ofNat 4)], [.inr (.inl [67]), .inl (1, .ofNat 0), .inl (2, .ofNat 0), .inl (3, .ofNat 0), .inl (4, .ofNat 0), .inl (5, .ofNat 0), .inl (6, .ofNat 0), .inl (7, .ofNat 0), .inl (8, .ofNat 0), .inr (.inr 0)], [], [(68, 2, 9, .ofNat 0)], [(0, 3, 0), (0, 4, 0), (0, 5, 0), (0, 6, 0), (0, 7, 0), (0, 8, 0), (2, 68, 2)], (.ofNat 32212254713, [.ofNat 0, .ofNat 0, .ofNat 0, .ofNat 0, .ofNat 0, .ofNat 0, .negSucc 14, .ofNat 0, .ofNat 1, .ofNat 0])), (192, [(.ofNat 0, .ofNat 0), (.ofNat 1, .ofNat 4095), (.negSucc 0, .ofNat 5), (.ofNat 0, .ofNat 6), (.ofNat 1, .ofNat 2147483647), fr, (.ofNat 0, .ofNat 2147483646), (.ofNat 0, .ofNat 2147483646), fr, (.ofNat 0, .ofNat 6), (.ofNat 1, .ofNat 4)], [.inr (.inl [67]), .inl (1, .ofNat 0), .inl (2, .ofNat 0), .inl (3, .ofNat 0), .inl (4, .ofNat 0), .inl (5, .ofNat 0), .inl (6, .ofNat 0), .inl (7, .ofNat 0), .inl (8, .ofNat 0), .inl (9, .ofNat 0)], [], [(68, 2, 10, .ofNat 0)], [(0, 3, 0), (0, 4, 0), (0, 5, 0), (0, 6, 0), (0, 7, 0), (0, 8, 0), (0, 9, 0), (2, 68, 2)], (.ofNat 32212254711, [.ofNat 0, .ofNat 0, .ofNat 0, .ofNat 0, .ofNat 0, .ofNat 0, .negSucc 14, .ofNat 0, .ofNat 0, .negSucc 0, .ofNat 0]))]
def pk_a99 : AA := ([(.ofNat 0, .ofNat 0), (.ofNat 1, .ofNat 4095), (.negSucc 0, .ofNat 5), (.ofNat 0, .ofNat 6), fr, (.ofNat 1, .ofNat 4)], [.inr (.inl [67]), .inl (1, .ofNat 0), .inl (2, .ofNat 0), .inl (3, .ofNat 0), .inl (4, .ofNat 0), .inr (.inr 0), .inr (.inr 0), .inr (.inr 0), .inr (.inr 0), .inr (.inr 0)], [], [(68, 2, 5, .ofNat 0)], [(0, 3, 0), (0, 4, 0), (2, 68, 2)], (.ofNat 32212254720, [.ofNat 0, .ofNat 0, .ofNat 0, .ofNat 0, .ofNat 0, .ofNat 0]))
def pk_cg : List (Nat × AK) := [(503, ck_X12_barnsBy_0)]
theorem pk_cx : ctsO QQ CF xxX12 pk_cg := ctsO_cons rfl ct_X12_barnsBy_0 ctsO_nil
def pk_st : List Nat := [44, 99, 105, 121, 192]
set_option maxRecDepth 100000 in
theorem pk_cc : (pk_ann.all fun q => muOk 32212254721 q.2 && aN CF [96, 97, 98] false pk_cg 19 ck_X12_packed_0.2.2.2.2.1 xxX12 mX12_packed.2.2.2 tX12_packed pk_st (kkA CF 3 pk_ann (some q.2.2.2.2.2.2)) q.1 (stA q.2)) = true := by decide +kernel
theorem pk_run (l : Launch) (d : Nat) (al : Bool) (n0 mc ms : Nat) (sh0 : List XO) (I0 : XI) (args : List Value) (Rp : XR) (hQ : ∀ I', frO [96, 97, 98] I0 I' → QQ I') (hO : outO QQ CF [96, 97, 98] false sh0 I0 ck_X12_packed_0.2.2.2.2.1 args Rp) (hm : (numsV args).length = 2) : ∀ (n g : Nat) (A : AA) (R : List Int) (lc : List (Option Value)) (st : List Value) (sh : List XO) (I : XI) (J : XJ), xlk pk_ann g = some A → ga CF [96, 97, 98] false sh0 I0 R R (stA A) lc st sh I → preO (0 :: numsV args) R → muV A.2.2.2.2.2 R < n → xrun xxX12 mX12_packed.2.2.2 false al n0 mc ms none l (d + 19) tX12_packed pk_st Rp n g lc st sh I J 0 0 := by
  refine run_ok (N := 32212254721) hm (fun q hq => ?_)
  have y := List.all_eq_true.mp pk_cc q hq
  simp only [Bool.and_eq_true] at y
  refine ⟨y.1, fun K R lc st sh I J hK hg hp => ?_⟩
  exact aN_ok (d := d) (Rp := Rp) hQ pk_cx hO hp hK (stA q.2) y.2 R lc st sh I J hg
def pcN : Nat → Nat → Nat
  | 0, _ => 0
  | m + 1, N => N % 2 + pcN m (N / 2)
theorem pcN_step : ∀ (b N : Nat), pcN (b + 1) N = pcN b N + N / 2 ^ b % 2
  | 0, N => by
    show N % 2 + 0 = 0 + N / 2 ^ 0 % 2
    simp
  | b + 1, N => by
    have ih := pcN_step b (N / 2)
    show N % 2 + pcN (b + 1) (N / 2) = N % 2 + pcN b (N / 2) + N / 2 ^ (b + 1) % 2
    rw [ih, Nat.div_div_eq_div_mul, show 2 * 2 ^ b = 2 ^ (b + 1) by rw [Nat.pow_succ]; omega]
    omega
theorem pcN_mono (N : Nat) : ∀ (m b : Nat), pcN b N ≤ pcN (b + m) N
  | 0, b => Nat.le_refl _
  | m + 1, b => by
    have := pcN_mono N m b
    have e := pcN_step (b + m) N
    show pcN b N ≤ pcN (b + m + 1) N
    omega
