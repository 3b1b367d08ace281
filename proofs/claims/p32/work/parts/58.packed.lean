-- ===== packed of the reference: the bits by hand, the ways by the check =====
theorem bit_nat (N b : Nat) (hN : N < 2147483648) (hb : b < 32) : (nI N >>> (nI b &&& 31)) &&& 1 = nI (N / 2 ^ b % 2) := by
  apply Int32.toBitVec_inj.mp
  have hbv : ((nI b &&& 31).toBitVec.smod 32) = BitVec.ofNat 32 b := by
    have : ∀ b, b < 32 → ((nI b &&& 31).toBitVec.smod 32) = BitVec.ofNat 32 b := by decide +kernel
    exact this b hb
  rw [Int32.toBitVec_and, Int32.toBitVec_shiftRight, hbv]
  have hx : (nI N).toBitVec = BitVec.ofNat 32 N := rfl
  rw [hx]
  apply BitVec.eq_of_toNat_eq
  rw [BitVec.toNat_and]
  have hs : (BitVec.ofNat 32 N).sshiftRight' (BitVec.ofNat 32 b) = (BitVec.ofNat 32 N) >>> b := by
    rw [BitVec.sshiftRight']
    rw [BitVec.sshiftRight_eq_of_msb_false]
    · rw [BitVec.toNat_ofNat, Nat.mod_eq_of_lt (by omega)]
    · rw [BitVec.msb_eq_decide]
      simp
      omega
  rw [hs, BitVec.toNat_ushiftRight, BitVec.toNat_ofNat, Nat.mod_eq_of_lt (by omega : N < 2^32), Nat.shiftRight_eq_div_pow]
  show N / 2 ^ b &&& 1 = (BitVec.ofNat 32 (N / 2 ^ b % 2)).toNat
  rw [Nat.and_one_is_mod, bv_small (by omega)]
theorem bit_two (N b : Nat) : N / 2 ^ b % 2 = 0 ∨ N / 2 ^ b % 2 = 1 := by omega
set_option maxRecDepth 100000 in
theorem m_has_x (l : Launch) (d : Nat) (x k : Int32) (sh : List XO) (I : XI) (J : XJ) (Rp : XR) (h1 : (x >>> (k &&& 31)) &&& 1 = 1 → Rp (some (.int 1)) sh I J) (h0 : ¬ (x >>> (k &&& 31)) &&& 1 = 1 → Rp (some (.int 0)) sh I J) : xm l (d + 1) 0 0 mX12_has [.int x, .int k] sh I J Rp := by
  refine xm_ofK 0 (X := xxX12) (t := tX12_has) (stop := []) (ini := false) xx12 pl12 rfl kX12_has (fun h => by cases h) (Nat.le_of_ble_eq_true rfl) (fun K hK => ?_)
  refine And.intro (fun h => And.intro (Or.inl rfl) (h0 h)) (fun h => And.intro (Or.inr rfl) (h1 h))
def pk_ann : List (Nat × AA) := [(99, [(.ofNat 0, .ofNat 0), (.ofNat 1, .ofNat 4095), (.negSucc 0, .ofNat 5), (.ofNat 0, .ofNat 6), fr, (.ofNat 1, .ofNat 4)], [.inr (.inl [67]), .inl (1, .ofNat 0), .inl (2, .ofNat 0), .inl (3, .ofNat 0), .inl (4, .ofNat 0), .inr (.inr 0), .inr (.inr 0), .inr (.inr 0), .inr (.inr 0), .inr (.inr 0)], [], [(68, 2, 5, .ofNat 0)], [(0, 3, 0), (0, 4, 0), (2, 68, 2)], (.ofNat 32212254720, [.ofNat 0, .ofNat 0, .ofNat 0, .ofNat 0, .ofNat 0, .ofNat 0])), (105, [(.ofNat 0, .ofNat 0), (.ofNat 1, .ofNat 4095), (.negSucc 0, .ofNat 5), (.ofNat 0, .ofNat 6), fr, fr, (.ofNat 0, .ofNat 2147483647), (.ofNat 1, .ofNat 4)], [.inr (.inl [67]), .inl (1, .ofNat 0), .inl (2, .ofNat 0), .inl (3, .ofNat 0), .inl (4, .ofNat 0), .inl (5, .ofNat 0), .inl (6, .ofNat 0), .inr (.inr 0), .inr (.inr 0), .inr (.inr 0)], [], [(68, 2, 7, .ofNat 0)], [(0, 3, 0), (0, 4, 0), (0, 5, 0), (0, 6, 0), (2, 68, 2)], (.ofNat 32212254719, [.ofNat 0, .ofNat 0, .ofNat 0, .ofNat 0, .ofNat 0, .ofNat 0, .negSucc 14, .ofNat 0])), (121, [(.ofNat 0, .ofNat 0), (.ofNat 1, .ofNat 4095), (.negSucc 0, .ofNat 5), (.ofNat 0, .ofNat 6), (.ofNat 1, .ofNat 2147483647), fr, (.ofNat 0, .ofNat 2147483646), (.ofNat 0, .ofNat 2147483646), (.negSucc 0, .ofNat 5), (.ofNat 1, .ofNat 4)], [.inr (.inl [67]), .inl (1, .ofNat 0), .inl (2, .ofNat 0), .inl (3, .ofNat 0), .inl (4, .ofNat 0), .inl (5, .ofNat 0), .inl (6, .ofNat 0), .inl (7, .ofNat 0), .inl (8, .ofNat 0), .inr (.inr 0)], [], [(68, 2, 9, .ofNat 0)], [(0, 3, 0), (0, 4, 0), (0, 5, 0), (0, 6, 0), (0, 7, 0), (0, 8, 0), (2, 68, 2)], (.ofNat 32212254713, [.ofNat 0, .ofNat 0, .ofNat 0, .ofNat 0, .ofNat 0, .ofNat 0, .negSucc 14, .ofNat 0, .ofNat 1, .ofNat 0])), (192, [(.ofNat 0, .ofNat 0), (.ofNat 1, .ofNat 4095), (.negSucc 0, .ofNat 5), (.ofNat 0, .ofNat 6), (.ofNat 1, .ofNat 2147483647), fr, (.ofNat 0, .ofNat 2147483646), (.ofNat 0, .ofNat 2147483646), fr, (.ofNat 0, .ofNat 6), (.ofNat 1, .ofNat 4)], [.inr (.inl [67]), .inl (1, .ofNat 0), .inl (2, .ofNat 0), .inl (3, .ofNat 0), .inl (4, .ofNat 0), .inl (5, .ofNat 0), .inl (6, .ofNat 0), .inl (7, .ofNat 0), .inl (8, .ofNat 0), .inl (9, .ofNat 0)], [], [(68, 2, 10, .ofNat 0)], [(0, 3, 0), (0, 4, 0), (0, 5, 0), (0, 6, 0), (0, 7, 0), (0, 8, 0), (0, 9, 0), (2, 68, 2)], (.ofNat 32212254711, [.ofNat 0, .ofNat 0, .ofNat 0, .ofNat 0, .ofNat 0, .ofNat 0, .negSucc 14, .ofNat 0, .ofNat 0, .negSucc 0, .ofNat 0]))]
def pk_a99 : AA := ([(.ofNat 0, .ofNat 0), (.ofNat 1, .ofNat 4095), (.negSucc 0, .ofNat 5), (.ofNat 0, .ofNat 6), fr, (.ofNat 1, .ofNat 4)], [.inr (.inl [67]), .inl (1, .ofNat 0), .inl (2, .ofNat 0), .inl (3, .ofNat 0), .inl (4, .ofNat 0), .inr (.inr 0), .inr (.inr 0), .inr (.inr 0), .inr (.inr 0), .inr (.inr 0)], [], [(68, 2, 5, .ofNat 0)], [(0, 3, 0), (0, 4, 0), (2, 68, 2)], (.ofNat 32212254720, [.ofNat 0, .ofNat 0, .ofNat 0, .ofNat 0, .ofNat 0, .ofNat 0]))
def pk_cg : List (Nat × AK) := [(503, ck_X12_barnsBy_0)]
theorem pk_cx : ctsO QQ CF xxX12 pk_cg := ctsO_cons rfl ct_X12_barnsBy_0 ctsO_nil
def pk_st : List Nat := [44, 99, 105, 121, 192]
set_option maxRecDepth 100000 in
theorem pk_cc : (pk_ann.all fun q => muOk 32212254721 q.2 && aN CF [96, 97, 98] false pk_cg 19 ck_X12_packed_0.2.2.2.2.1 xxX12 mX12_packed.2.2.2 tX12_packed pk_st (kkA CF 3 pk_ann (some q.2.2.2.2.2.2)) q.1 (stA q.2)) = true := by decide +kernel
theorem pk_run (l : Launch) (d : Nat) (al : Bool) (n0 mc ms : Nat) (sh0 : List XO) (I0 : XI) (args : List Value) (Rp : XR) (hQ : ∀ I', frO [96, 97, 98] I0 I' → QQ I') (hO : outO QQ CF [96, 97, 98] false sh0 I0 ck_X12_packed_0.2.2.2.2.1 args Rp) (hm : (numsV args).length = 2) : ∀ (n g : Nat) (A : AA) (R : List Int) (lc : List (Option Value)) (st : List Value) (sh : List XO) (I : XI) (J : XJ), xlk pk_ann g = some A → ga CF [96, 97, 98] false sh0 I0 R R (stA A) lc st sh I → preO (0 :: numsV args) R → muV A.2.2.2.2.2 R < n → xrun xxX12 mX12_packed.2.2.2 false al n0 mc ms none l (d + 19) tX12_packed pk_st Rp n g lc st sh I J 0 0 := by
  refine run_ok (N := 32212254721) hm (fun q hq => ?_)
  have y := List.all_eq_true.mp pk_cc q hq
  simp only [Bool.and_eq_true] at y
  refine ⟨y.1, fun K R lc st sh I J hK hg hp => ?_⟩
  exact aN_ok (d := d) (Rp := Rp) hQ pk_cx hO hp hK (stA q.2) y.2 R lc st sh I J hg
def pcN : Nat → Nat → Nat
  | 0, _ => 0
  | m + 1, N => N % 2 + pcN m (N / 2)
theorem pcN_step : ∀ (b N : Nat), pcN (b + 1) N = pcN b N + N / 2 ^ b % 2
  | 0, N => by
    show N % 2 + 0 = 0 + N / 2 ^ 0 % 2
    simp
  | b + 1, N => by
    have ih := pcN_step b (N / 2)
    show N % 2 + pcN (b + 1) (N / 2) = N % 2 + pcN b (N / 2) + N / 2 ^ (b + 1) % 2
    rw [ih, Nat.div_div_eq_div_mul, show 2 * 2 ^ b = 2 ^ (b + 1) by rw [Nat.pow_succ]; omega]
    omega
theorem pcN_mono (N : Nat) : ∀ (m b : Nat), pcN b N ≤ pcN (b + m) N
  | 0, b => Nat.le_refl _
  | m + 1, b => by
    have := pcN_mono N m b
    have e := pcN_step (b + m) N
    show pcN b N ≤ pcN (b + m + 1) N
    omega
set_option maxRecDepth 100000 in
theorem hm_manyF_loop (l : Launch) (d : Nat) (x : Int32) (sh : List XO) (I : XI) (J : XJ) (Rp : XR) : ∀ (m N n C : Nat), (Rp (some (.int (nI (C + pcN m N)))) sh I J) → N < 2 ^ m → m ≤ 30 → m < n → xrun xxX12 (some .int) false false sh.length 0 0 none l d tX12_many [4] Rp n 4 [some (.int x), some (.int (nI C)), some (.int (nI N))] [] sh I J 0 0 := by
  intro m
  induction m with
  | zero =>
    intro N n C hR hN hm hn
    obtain ⟨n, rfl⟩ : ∃ n', n = n' + 1 := ⟨n - 1, by omega⟩
    have h0 : N = 0 := by omega
    subst h0
    refine xrun_step fun K hK => ?_
    exact And.intro (fun _ => hR) (fun h => absurd (show nI 0 = 0 by decide) h)
  | succ m ih =>
    intro N n C hR hN hm hn
    obtain ⟨n, rfl⟩ : ∃ n', n = n' + 1 := ⟨n - 1, by omega⟩
    have hP : 2 ^ (m + 1) ≤ 2 ^ 30 := Nat.pow_le_pow_right (by omega) hm
    have hP2 : 2 ^ (m + 1) = 2 ^ m * 2 := Nat.pow_succ 2 m
    refine xrun_step fun K hK => ?_
    refine And.intro (fun hz => ?_) (fun _ => ?_)
    · have h0 : N = 0 := by
        have := congrArg Int32.toInt (show nI N = 0 from hz)
        rw [nI_toInt (by omega)] at this
        have e0 : (0 : Int32).toInt = 0 := by decide
        omega
      have hp : ∀ m, pcN m 0 = 0 := by
        intro m
        induction m with
        | zero => rfl
        | succ m ihm =>
          show 0 % 2 + pcN m (0 / 2) = 0
          rw [show 0 / 2 = 0 from rfl, ihm]
      rw [h0, hp] at hR
      exact hR
    refine hK 4 [some (.int x), some (.int (nI C + (nI N &&& 1))), some (.int (nI N >>> (1 &&& 31)))] [] sh I J 0 0 ?_
    have e1 : nI N &&& 1 = nI (N % 2) := by
      have y := bit_nat N 0 (by omega) (by omega)
      rw [show nI N >>> (nI 0 &&& 31) = nI N by
        apply Int32.toBitVec_inj.mp
        rw [Int32.toBitVec_shiftRight, show ((nI 0 &&& 31).toBitVec.smod 32) = BitVec.ofNat 32 0 by decide]
        exact BitVec.eq_of_toInt_eq (by rw [BitVec.sshiftRight', BitVec.toInt_sshiftRight]; simp)] at y
      rw [y]
      simp
    rw [half_nat N (by omega), e1, nI_add]
    refine ih (N / 2) n _ ?_ (by omega) (by omega) (by omega)
    rw [show C + N % 2 + pcN m (N / 2) = C + pcN (m + 1) N by show C + N % 2 + pcN m (N / 2) = C + (N % 2 + pcN m (N / 2)); omega]
    exact hR
set_option maxRecDepth 100000 in
theorem hm_manyF (l : Launch) (d N : Nat) (hN : N < 4096) (sh : List XO) (I : XI) (J : XJ) (Rp : XR) (hR : Rp (some (.int (nI (pcN 12 N)))) sh I J) : xm l (d + 1) 0 0 mX12_many [.int (nI N)] sh I J Rp := by
  refine xm_ofK 13 (X := xxX12) (t := tX12_many) (stop := [4]) (ini := false) xx12 pl12 rfl kX12_many (fun h => by cases h) (Nat.le_of_ble_eq_true rfl) (fun K hK => ?_)
  refine hK 4 [some (.int (nI N)), some (.int (nI 0)), some (.int (nI N))] [] _ _ _ _ _ (hm_manyF_loop l d _ sh I J Rp 12 N 13 0 ?_ (by omega) (by omega) (by omega))
  rw [Nat.zero_add]
  exact hR
theorem pcN_zero (N : Nat) : ∀ b, pcN b N = 0 → N % 2 ^ b = 0
  | 0, _ => by
    rw [Nat.pow_zero]
    exact Nat.mod_one N
  | b + 1, h => by
    rw [pcN_step] at h
    have ih := pcN_zero N b (by omega)
    rw [Nat.pow_succ, Nat.mod_mul, ih, show N / 2 ^ b % 2 = 0 by omega]
    omega
theorem pcN_pos {N : Nat} (h1 : 1 ≤ N) (h2 : N ≤ 4095) : 1 ≤ pcN 12 N := by
  rcases Nat.eq_zero_or_pos (pcN 12 N) with z | z
  · have := pcN_zero N 12 z
    omega
  · exact z
theorem qp3 : ∀ p, p ∈ QPl → nmem p [96, 97, 98] = false := by decide
def pkL (N : Nat) (i w : Int32) (b : Nat) : List (Option Value) := [some (.ref 67), some (.int (nI N)), some (.int i), some (.int (nI (pcN b N))), some (.int w), some (.int (nI b)), none, none, none, none]
set_option maxRecDepth 100000 in
set_option maxHeartbeats 1000000 in
theorem pk99ga (N P : Nat) (i w : Int32) (h1 : 1 ≤ N) (h2 : N ≤ 4095) (hpc : P ≤ 6) (hi5 : inI (-1, 5) i.toInt) (ru ta : Nat) (rs : List XO) (I0 I : XI) (hs : shO CF (shH ru ta rs)) (hiv : ivO CF [] I) (hfr : frO [96, 97, 98] I0 I) (hb1 : inI (1, 4) (I 68 2).toInt) : ga CF [96, 97, 98] false (shH ru ta rs) I0 [0, (nI N).toInt, i.toInt, (nI P).toInt, w.toInt, (I 68 2).toInt] [0, (nI N).toInt, i.toInt, (nI P).toInt, w.toInt, (I 68 2).toInt] (stA pk_a99) [some (.ref 67), some (.int (nI N)), some (.int i), some (.int (nI P)), some (.int w), some (.int (nI 12)), none, none, none, none] [] (shH ru ta rs) I := by
  have hv : (nI N).toInt = (N : Int) := nI_toInt (by omega)
  have hp : (nI P).toInt = (P : Int) := nI_toInt (by omega)
  refine ⟨⟨⟨rfl, fun v z r hz hr => ?_⟩, rfl, fun _ _ z => z⟩, ⟨fun k a hk => ?_, trivial⟩, ⟨fun p k q hq => ?_, fun p k hn => hiv p k rfl, hfr⟩, hs, fun _ => rfl⟩
  · match v, hz, hr with
    | 0, hz, hr =>
      cases hz
      cases hr
      exact ⟨by decide, by decide⟩
    | 1, hz, hr =>
      cases hz
      cases hr
      rw [hv]
      exact ⟨by show (1 : Int) ≤ (N : Int); omega, by show (N : Int) ≤ 4095; omega⟩
    | 2, hz, hr =>
      cases hz
      cases hr
      exact hi5
    | 3, hz, hr =>
      cases hz
      cases hr
      rw [hp]
      exact ⟨by show (0 : Int) ≤ (P : Int); omega, by show (P : Int) ≤ 6; omega⟩
    | 4, hz, hr =>
      cases hz
      cases hr
      exact inI_fr w
    | 5, hz, hr =>
      cases hz
      cases hr
      exact hb1
    | _ + 6, hz, _ => cases hz
  · match k, hk with
    | 0, hk =>
      cases hk
      exact ⟨_, rfl, 67, by decide, rfl⟩
    | 1, hk =>
      cases hk
      exact ⟨_, rfl, _, rfl, _, rfl, by simp⟩
    | 2, hk =>
      cases hk
      exact ⟨_, rfl, _, rfl, _, rfl, by simp⟩
    | 3, hk =>
      cases hk
      exact ⟨_, rfl, _, rfl, _, rfl, by simp⟩
    | 4, hk =>
      cases hk
      exact ⟨_, rfl, _, rfl, _, rfl, by simp⟩
    | 5, hk =>
      cases hk
      exact ⟨_, rfl, trivial⟩
    | 6, hk =>
      cases hk
      exact ⟨_, rfl, trivial⟩
    | 7, hk =>
      cases hk
      exact ⟨_, rfl, trivial⟩
    | 8, hk =>
      cases hk
      exact ⟨_, rfl, trivial⟩
    | 9, hk =>
      cases hk
      exact ⟨_, rfl, trivial⟩
    | _ + 10, hk => cases hk
  · by_cases hh : p = 68 ∧ k = 2
    · obtain ⟨rfl, rfl⟩ := hh
      cases hq
      exact ⟨_, rfl, by simp⟩
    · replace hq : tF [(68, 2, 5, .ofNat 0)] p k = some q := hq
      rw [tF_ne hh] at hq
      cases hq
set_option maxRecDepth 100000 in
theorem pk99pre (N P : Nat) (i w : Int32) (I : XI) : preO (0 :: numsV [.ref 67, .int (nI N), .int i]) [0, (nI N).toInt, i.toInt, (nI P).toInt, w.toInt, (I 68 2).toInt] := by
  intro k z hz
  match k, hz with
  | 0, hz => exact hz
  | 1, hz => exact hz
  | 2, hz => exact hz
  | _ + 3, hz => cases hz
set_option maxRecDepth 100000 in
set_option maxHeartbeats 1000000 in
theorem pk99 (l : Launch) (d N : Nat) (i w : Int32) (h1 : 1 ≤ N) (h2 : N ≤ 4095) (hpc : pcN 12 N ≤ 6) (hi5 : inI (-1, 5) i.toInt) (ru ta : Nat) (rs : List XO) (I0 I : XI) (J : XJ) (Rp : XR) (hq0 : QQ I0) (hs : shO CF (shH ru ta rs)) (hO : outO QQ CF [96, 97, 98] false (shH ru ta rs) I0 ck_X12_packed_0.2.2.2.2.1 [.ref 67, .int (nI N), .int i] Rp) (ha : agO ck_X12_packed_0.2.1 [.ref 67, .int (nI N), .int i]) (hiv : ivO CF [] I) (hfr : frO [96, 97, 98] I0 I) (hw : I 68 2 = 0 → w = 0) : ∀ n : Nat, 32212254721 ≤ n → xrun xxX12 (some .int) false false (shH ru ta rs).length 0 0 none l (d + 19) tX12_packed pk_st Rp n 99 (pkL N i w 12) [] (shH ru ta rs) I J 0 0 := by
  intro n hn
  have hQ : ∀ I', frO [96, 97, 98] I0 I' → QQ I' := fun I' hf => qq_ok I0 I' (fun p hp => hf p (qp3 p hp)) hq0
  have hb : inI (0, 4) (I 68 2).toInt := hiv 68 2 rfl
  by_cases hB : I 68 2 = 0
  · have hw0 := hw hB
    subst hw0
    obtain ⟨n, rfl⟩ : ∃ n', n = n' + 1 + 1 := ⟨n - 2, by omega⟩
    refine xrun_step fun K hK => ?_
    refine hK 105 [some (.ref 67), some (.int (nI N)), some (.int i), some (.int (nI (pcN 12 N))), some (.int 0), some (.int (-1)), some (.int 0), none, none, none] [] (shH ru ta rs) I J 0 0 ?_
    refine xrun_step fun K hK => ?_
    refine And.intro (fun _ => ?_) (fun h => absurd (show (0 : Int32) ≤ 0 by decide) h)
    refine And.intro (fun _ => ?_) (fun h => absurd (show (-1 : Int32) = -1 from rfl) h)
    exact hO _ _ I J hs (fun _ => rfl) hiv (hQ I hfr) hfr ⟨_, List.mem_cons_self, one_post ha ⟨-1, rfl, inI_fr _⟩⟩
  · have hb1 : inI (1, 4) (I 68 2).toInt := by
      refine ⟨?_, hb.2⟩
      have z1 := hb.1
      have z2 : ¬ (I 68 2).toInt = 0 := fun z => hB (Int32.toInt_inj.mp (z.trans (by decide)))
      dsimp only at z1 ⊢
      omega
    refine pk_run l d false (shH ru ta rs).length 0 0 (shH ru ta rs) I0 [.ref 67, .int (nI N), .int i] Rp hQ hO rfl n 99 pk_a99 [0, (nI N).toInt, i.toInt, (nI (pcN 12 N)).toInt, w.toInt, (I 68 2).toInt] (pkL N i w 12) [] (shH ru ta rs) I J rfl ?_ ?_ ?_
    · exact pk99ga N (pcN 12 N) i w h1 h2 hpc hi5 ru ta rs I0 I hs hiv hfr hb1
    · exact pk99pre N (pcN 12 N) i w I
    · show 32212254720 + dot [0, 0, 0, 0, 0, 0] [0, (nI N).toInt, i.toInt, (nI (pcN 12 N)).toInt, w.toInt, (I 68 2).toInt] < (n : Int)
      have e : dot [0, 0, 0, 0, 0, 0] [0, (nI N).toInt, i.toInt, (nI (pcN 12 N)).toInt, w.toInt, (I 68 2).toInt] = 0 := by simp [dot]
      rw [e]
      omega
theorem iv_96 {I : XI} {k : Nat} {v : Int32} (h : ivO CF [] I) (hv : inI (0, 11) v.toInt) : ivO CF [] (uI I 96 k v) := by
  intro p j hn
  by_cases hp : p = 96
  · subst hp
    rw [uI_eq]
    by_cases hj : j = k
    · subst hj
      rw [show upd (I 96) j v j = v by simp [upd]]
      exact hv
    · rw [show upd (I 96) k v j = I 96 j by simp [upd, hj]]
      exact h 96 j hn
  · rw [uI_ne hp]
    exact h p j hn
set_option maxRecDepth 100000 in
set_option maxHeartbeats 1000000 in
theorem pkB_loop (l : Launch) (d N : Nat) (i : Int32) (h1 : 1 ≤ N) (h2 : N ≤ 4095) (hpc : pcN 12 N ≤ 6) (hi5 : inI (-1, 5) i.toInt) (ru ta : Nat) (rs : List XO) (I0 : XI) (Rp : XR) (hq0 : QQ I0) (hs : shO CF (shH ru ta rs)) (hO : outO QQ CF [96, 97, 98] false (shH ru ta rs) I0 ck_X12_packed_0.2.2.2.2.1 [.ref 67, .int (nI N), .int i] Rp) (ha : agO ck_X12_packed_0.2.1 [.ref 67, .int (nI N), .int i]) : ∀ (m b n : Nat) (w : Int32) (I : XI) (J : XJ), b + m = 12 → 32212254721 + m < n → ivO CF [] I → frO [96, 97, 98] I0 I → (I 68 2 = 0 → 1 ≤ pcN b N → w = 0) → xrun xxX12 (some .int) false false (shH ru ta rs).length 0 0 none l (d + 19) tX12_packed pk_st Rp n 44 (pkL N i w b) [] (shH ru ta rs) I J 0 0 := by
  have hQ : ∀ I', frO [96, 97, 98] I0 I' → QQ I' := fun I' hf => qq_ok I0 I' (fun p hp => hf p (qp3 p hp)) hq0
  intro m
  induction m with
  | zero =>
    intro b n w I J hb hn hiv hfr hw
    obtain ⟨n, rfl⟩ : ∃ n', n = n' + 1 := ⟨n - 1, by omega⟩
    have e : b = 12 := by omega
    subst e
    refine xrun_step fun K hK => ?_
    exact And.intro (fun _ => hK 99 (pkL N i w 12) [] (shH ru ta rs) I J 0 0 (pk99 l d N i w h1 h2 hpc hi5 ru ta rs I0 I J Rp hq0 hs hO ha hiv hfr (fun z => hw z (pcN_pos h1 h2)) n (by omega))) (fun h => absurd (show (12 : Int32) ≤ nI 12 by decide) h)
  | succ m ih =>
    intro b n w I J hb hn hiv hfr hw
    obtain ⟨n, rfl⟩ : ∃ n', n = n' + 1 := ⟨n - 1, by omega⟩
    have hmono := pcN_mono N m (b + 1)
    rw [show b + 1 + m = 12 by omega] at hmono
    have hstep := pcN_step b N
    refine xrun_step fun K hK => ?_
    refine And.intro (fun h => absurd h (nI_ge (a := b) (b := 12) (by omega) (by omega))) (fun _ => ?_)
    refine m_has_x l (d + 18) _ _ _ _ _ _ (fun h => ?_) (fun h => ?_)
    · rw [bit_nat N b (by omega) (by omega)] at h
      have hb1 : N / 2 ^ b % 2 = 1 := by
        rcases bit_two N b with z | z
        · rw [z] at h
          exact absurd h (by decide)
        · exact z
      rw [hb1] at hstep
      have e3 : nI (pcN b N) + 1 = nI (pcN (b + 1) N) := by rw [nI_1, hstep]
      refine And.intro (fun h => absurd h (by decide)) (fun _ => ?_)
      refine ct_X12_isBale_0 l (d + 17) (shH ru ta rs) I J [.ref 67, .int (nI b)] _ ⟨by decide, ⟨inI_fr _, trivial⟩⟩ (fun e he => by cases he) hs hiv (hQ I hfr) ?_
      intro v sh' I' J' g1 g2 g3 gQ g4 g5
      have e1 := g2 rfl
      subst e1
      have e2 : I' = I := funext fun p => g4 p rfl
      subst e2
      obtain ⟨P, hP, hp⟩ := g5
      have hr : v = some (.int 1) ∨ v = some (.int 0) := by
        rcases List.mem_cons.mp hP with rfl | hP
        · obtain ⟨x, rfl, hx⟩ : ∃ x, v = some (.int x) ∧ inI (1, 1) x.toInt := hp.2.1
          have hx1 := hx.1
          have hx2 := hx.2
          exact Or.inl (by rw [show x = 1 from Int32.toInt_inj.mp (by rw [show (1 : Int32).toInt = 1 by decide]; exact Int.le_antisymm hx2 hx1)])
        · rcases List.mem_cons.mp hP with rfl | hP
          · obtain ⟨x, rfl, hx⟩ : ∃ x, v = some (.int x) ∧ inI (0, 0) x.toInt := hp.2.1
            have hx1 := hx.1
            have hx2 := hx.2
            exact Or.inr (by rw [show x = 0 from Int32.toInt_inj.mp (by rw [show (0 : Int32).toInt = 0 by decide]; exact Int.le_antisymm hx2 hx1)])
          · cases hP
      rcases hr with rfl | rfl
      · refine And.intro (fun _ => ?_) (fun h => absurd h (by decide))
        refine And.intro (vp_in_nI (N := 6) (by omega) (by omega)) ?_
        refine And.intro (vp_in_nI (N := 2200) (n := 2) (by omega) (by omega)) ?_
        refine hK 44 [some (.ref 67), some (.int (nI N)), some (.int i), some (.int (nI (pcN b N) + 1)), some (.int (w * uI I' 96 (nI (pcN b N)).toNatClampNeg (nI b) 68 2)), some (.int (nI b + 1)), none, none, none, none] [] (shH ru ta rs) (uI I' 96 (nI (pcN b N)).toNatClampNeg (nI b)) J' 0 0 ?_
        rw [e3, nI_1]
        have hbI : inI (0, 11) (nI b).toInt := by
          rw [nI_toInt (by omega)]
          exact ⟨by show (0 : Int) ≤ (b : Int); omega, by show (b : Int) ≤ 11; omega⟩
        refine ih (b + 1) n _ _ J' (by omega) (by omega) (iv_96 hiv hbI) (fun p hp => ?_) (fun hz _ => ?_)
        · rw [uI_ne (fun e => by subst e; cases hp)]
          exact hfr p hp
        · rw [hz]
          exact Int32.mul_zero
      · refine And.intro (fun h => absurd rfl h) (fun _ => ?_)
        exact hO _ _ I' J' hs (fun _ => rfl) hiv (hQ I' hfr) hfr ⟨_, List.mem_cons_self, one_post ha ⟨-1, rfl, inI_fr _⟩⟩
    · rw [bit_nat N b (by omega) (by omega)] at h
      have hb0 : N / 2 ^ b % 2 = 0 := by
        rcases bit_two N b with z | z
        · exact z
        · rw [z] at h
          exact absurd rfl h
      rw [hb0] at hstep
      refine And.intro (fun _ => ?_) (fun h => absurd rfl h)
      refine hK 44 [some (.ref 67), some (.int (nI N)), some (.int i), some (.int (nI (pcN b N))), some (.int w), some (.int (nI b + 1)), none, none, none, none] [] (shH ru ta rs) I J 0 0 ?_
      rw [nI_1, show pcN b N = pcN (b + 1) N by omega]
      exact ih (b + 1) n w I J (by omega) (by omega) hiv hfr (fun z y => hw z (by omega))
set_option maxRecDepth 100000 in
set_option maxHeartbeats 1000000 in
theorem ct_X12_packed_0 : ctrO QQ CF ck_X12_packed_0 mX12_packed := by
  intro l d sh I J as Rp ha hce hs hi hq hR
  obtain ⟨x, i, rfl, hx, hi'⟩ := ag1ii ha
  obtain ⟨ru, ta, rs, _, _, rfl⟩ := shX hs
  have fin : ∀ r : Int32, Rp (some (.int r)) (shH ru ta rs) I J := fun r => hR _ _ I J hs (fun _ => rfl) hi hq (fun _ _ => rfl) ⟨_, List.mem_cons_self, one_post ha ⟨r, rfl, inI_fr _⟩⟩
  show xm l (d + 19 + 1) 0 0 mX12_packed [.ref 67, .int x, .int i] (shH ru ta rs) I J Rp
  refine xm_ofK 32212254735 (X := xxX12) (t := tX12_packed) (stop := pk_st) (ini := false) xx12 pl12 rfl kX12_packed (fun h => by cases h) (Nat.le_of_ble_eq_true rfl) (fun K hK => ?_)
  by_cases c1 : 1 ≤ x ∧ x ≤ 4095
  · obtain ⟨N, hN2, rfl⟩ := nI_of2 (x := x) (M := 4095) (n := 4095) (by decide) (fun z => by
      have z1 := Int32.lt_iff_toInt_lt.mp z
      have z2 := Int32.le_iff_toInt_le.mp c1.1
      have e1 : (1 : Int32).toInt = 1 := by decide
      have e0 : (0 : Int32).toInt = 0 := by decide
      omega) c1.2
    have hN1 : 1 ≤ N := by
      have z2 := Int32.le_iff_toInt_le.mp c1.1
      have e1 : (1 : Int32).toInt = 1 := by decide
      rw [nI_toInt (by omega)] at z2
      omega
    refine m_in_t l (d + 18) (nI N) 1 4095 _ _ _ _ c1.1 c1.2 ?_
    refine And.intro (fun h => absurd h (by decide)) (fun _ => ?_)
    refine hm_manyF l (d + 18) N (by omega) _ _ _ _ ?_
    refine And.intro (fun _ => fin _) (fun h6 => ?_)
    have h12 : ∀ b, pcN b N ≤ b := by
      intro b
      induction b with
      | zero => exact Nat.le_refl _
      | succ b ihb =>
        rw [pcN_step]
        omega
    have hp12 := h12 12
    have hpc : pcN 12 N ≤ 6 := by
      rcases Nat.lt_or_ge 6 (pcN 12 N) with z | z
      · exact absurd (nI_lt (a := 6) z (by omega)) h6
      · exact z
    refine hm_manyF l (d + 18) N (by omega) _ _ _ _ ?_
    by_cases c2 : -1 ≤ i ∧ i ≤ nI (pcN 12 N) - 1
    · refine m_in_t l (d + 18) i (-1) (nI (pcN 12 N) - 1) _ _ _ _ c2.1 c2.2 ?_
      refine And.intro (fun _ => ?_) (fun h => absurd h (by decide))
      have hpos := pcN_pos hN1 hN2
      have hi5 : inI (-1, 5) i.toInt := by
        have z1 := Int32.le_iff_toInt_le.mp c2.1
        have z2 := Int32.le_iff_toInt_le.mp c2.2
        obtain ⟨j, hj⟩ : ∃ j, pcN 12 N = j + 1 := ⟨pcN 12 N - 1, by omega⟩
        rw [hj, nI_pred, nI_toInt (by omega)] at z2
        have e1 : (-1 : Int32).toInt = -1 := by decide
        rw [e1] at z1
        exact ⟨z1, by show i.toInt ≤ 5; omega⟩
      exact hK 44 (pkL N i 1 0) [] (shH ru ta rs) I J 0 0 (pkB_loop l d N i hN1 hN2 hpc hi5 ru ta rs I Rp hq hs hR ha 12 0 _ 1 I J (by omega) (by omega) hi (fun _ _ => rfl) (fun _ h => absurd h (by show ¬ 1 ≤ 0; omega)))
    · refine m_in_f l (d + 18) i (-1) (nI (pcN 12 N) - 1) _ _ _ _ c2 ?_
      exact And.intro (fun h => absurd rfl h) (fun _ => fin _)
  · refine m_in_f l (d + 18) x 1 4095 _ _ _ _ c1 ?_
    exact And.intro (fun _ => fin _) (fun h => absurd rfl h)
