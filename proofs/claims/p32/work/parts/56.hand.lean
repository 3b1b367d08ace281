-- ===== methods of the reference that are walked by hand =====
theorem bv_small {k : Nat} (h : k < 4294967296) : (BitVec.ofNat 32 k).toNat = k := by
  rw [BitVec.toNat_ofNat, Nat.mod_eq_of_lt h]
theorem half_nat (N : Nat) (hN : N < 2147483648) : nI N >>> (1 &&& 31) = nI (N / 2) := by
  apply Int32.toBitVec_inj.mp
  have hbv : (((1:Int32) &&& 31).toBitVec.smod 32) = BitVec.ofNat 32 1 := by decide +kernel
  rw [Int32.toBitVec_shiftRight, hbv]
  have hx : (nI N).toBitVec = BitVec.ofNat 32 N := rfl
  rw [hx]
  have hs : (BitVec.ofNat 32 N).sshiftRight' (BitVec.ofNat 32 1) = (BitVec.ofNat 32 N) >>> 1 := by
    rw [BitVec.sshiftRight']
    rw [BitVec.sshiftRight_eq_of_msb_false]
    · rw [BitVec.toNat_ofNat]
    · rw [BitVec.msb_eq_decide]
      simp
      omega
  rw [hs]
  apply BitVec.eq_of_toNat_eq
  rw [BitVec.toNat_ushiftRight, BitVec.toNat_ofNat, Nat.mod_eq_of_lt (by omega : N < 2^32), Nat.shiftRight_eq_div_pow]
  show N / 2 ^ 1 = (BitVec.ofNat 32 (N / 2)).toNat
  rw [bv_small (by omega)]
theorem vp_k {k N : Nat} {x : Int32} (e : x = nI k) (h : k < N) (hN : N < 2 ^ 31) : vp_in x N := by
  rw [e]
  exact vp_in_nI h hN
theorem nI_m1 {h : Nat} (h1 : 1 ≤ h) : nI h + (-1) = nI (h - 1) := by
  obtain ⟨j, rfl⟩ : ∃ j, h = j + 1 := ⟨h - 1, by omega⟩
  rw [show j + 1 - 1 = j by omega, ← nI_pred j, Int32.sub_eq_add_neg]
theorem nI_s1 {h : Nat} (h1 : 1 ≤ h) : nI h - 1 = nI (h - 1) := by
  obtain ⟨j, rfl⟩ : ∃ j, h = j + 1 := ⟨h - 1, by omega⟩
  rw [show j + 1 - 1 = j by omega, nI_pred j]
set_option maxRecDepth 100000 in
theorem hm_many_loop (l : Launch) (d : Nat) (x : Int32) (sh : List XO) (I : XI) (J : XJ) (Rp : XR) (hR : ∀ r : Int32, Rp (some (.int r)) sh I J) : ∀ (m N n : Nat) (c : Int32), N < 2 ^ m → m ≤ 31 → m < n → xrun xxX12 (some .int) false false sh.length 0 0 none l d tX12_many [4] Rp n 4 [some (.int x), some (.int c), some (.int (nI N))] [] sh I J 0 0 := by
  intro m
  induction m with
  | zero =>
    intro N n c hN hm hn
    obtain ⟨n, rfl⟩ : ∃ n', n = n' + 1 := ⟨n - 1, by omega⟩
    have h0 : N = 0 := by omega
    subst h0
    refine xrun_step fun K hK => ?_
    exact And.intro (fun _ => hR _) (fun h => absurd (show nI 0 = 0 by decide) h)
  | succ m ih =>
    intro N n c hN hm hn
    obtain ⟨n, rfl⟩ : ∃ n', n = n' + 1 := ⟨n - 1, by omega⟩
    have hP : 2 ^ (m + 1) ≤ 2 ^ 31 := Nat.pow_le_pow_right (by omega) hm
    have hP2 : 2 ^ (m + 1) = 2 ^ m * 2 := Nat.pow_succ 2 m
    refine xrun_step fun K hK => ?_
    refine And.intro (fun _ => hR _) (fun _ => ?_)
    refine hK 4 [some (.int x), some (.int (c + (nI N &&& 1))), some (.int (nI N >>> (1 &&& 31)))] [] sh I J 0 0 ?_
    rw [half_nat N (by omega)]
    exact ih (N / 2) n _ (by omega) (by omega) (by omega)
set_option maxRecDepth 100000 in
theorem hm_many (l : Launch) (d N : Nat) (hN : N < 2 ^ 31) (sh : List XO) (I : XI) (J : XJ) (Rp : XR) (hR : ∀ r : Int32, Rp (some (.int r)) sh I J) : xm l (d + 1) 0 0 mX12_many [.int (nI N)] sh I J Rp := by
  refine xm_ofK 32 (X := xxX12) (t := tX12_many) (stop := [4]) (ini := false) xx12 pl12 rfl kX12_many (fun h => by cases h) (Nat.le_of_ble_eq_true rfl) (fun K hK => ?_)
  exact hK _ _ _ _ _ _ _ _ (hm_many_loop l d _ sh I J Rp hR 31 N 32 0 hN (by omega) (by omega))
theorem lgn {x y : Int64} (h : ¬ lg_cmp x y = 0) : ¬ x = y := fun z => h (by rw [z]; unfold lg_cmp; rw [if_neg (Int64.lt_irrefl), if_pos rfl])
set_option maxRecDepth 100000 in
theorem hm_bound (l : Launch) (d : Nat) (x : Int64) (sh : List XO) (I : XI) (J : XJ) (Rp : XR) (hR : ∀ r : Int64, Rp (some (.long r)) sh I J) : xm l (d + 1) 0 0 mX12_bound [.long x] sh I J Rp := by
  refine xm_ofK 0 (X := xxX12) (t := tX12_bound) (stop := []) (ini := false) xx12 pl12 rfl kX12_bound (fun h => by cases h) (Nat.le_of_ble_eq_true rfl) (fun K hK => ?_)
  exact And.intro (fun _ => And.intro (fun _ => hR _) (fun _ => hR _)) (fun _ => hR _)
set_option maxRecDepth 100000 in
theorem hm_worked (l : Launch) (d : Nat) (o : Int32) (x y : Int64) (sh : List XO) (I : XI) (J : XJ) (Rp : XR) (hR : ∀ r : Int64, Rp (some (.long r)) sh I J) : xm l (d + 2) 0 0 mX12_worked [.int o, .long x, .long y] sh I J Rp := by
  refine xm_ofK 0 (X := xxX12) (t := tX12_worked) (stop := []) (ini := false) xx12 pl12 rfl kX12_worked (fun h => by cases h) (Nat.le_of_ble_eq_true rfl) (fun K hK => ?_)
  refine And.intro (fun _ => And.intro (fun _ => hR _) (fun _ => hR _)) (fun _ => ?_)
  refine And.intro (fun _ => hm_bound l d _ sh I J _ (fun r => hR r)) (fun _ => ?_)
  refine And.intro (fun _ => hm_bound l d _ sh I J _ (fun r => hR r)) (fun _ => ?_)
  refine And.intro (fun _ => hm_bound l d _ sh I J _ (fun r => hR r)) (fun _ => ?_)
  refine And.intro (fun _ => And.intro (fun h => And.intro (lgn h) (hR _)) (fun _ => hR _)) (fun _ => ?_)
  refine And.intro (fun _ => And.intro (fun _ => hR _) (fun _ => hR _)) (fun _ => ?_)
  refine And.intro (fun _ => And.intro (fun _ => hR _) (fun _ => hR _)) (fun _ => ?_)
  refine And.intro (fun _ => And.intro (fun _ => hR _) (fun _ => hR _)) (fun _ => ?_)
  refine And.intro (fun _ => And.intro (fun _ => hR _) (fun _ => hR _)) (fun _ => ?_)
  refine And.intro (fun _ => And.intro (fun _ => hR _) (fun _ => hR _)) (fun _ => ?_)
  refine And.intro (fun _ => hR _) (fun _ => ?_)
  exact And.intro (fun _ => hR _) (fun _ => hR _)

