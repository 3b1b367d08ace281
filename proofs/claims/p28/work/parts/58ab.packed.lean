set_option maxRecDepth 100000 in
theorem hm_manyF_loop (l : Launch) (d : Nat) (x : Int32) (sh : List XO) (I : XI) (J : XJ) (Rp : XR) : ∀ (m N n C : Nat), (Rp (some (.int (nI (C + pcN m N)))) sh I J) → N < 2 ^ m → m ≤ 30 → m < n → xrun xxX12 (some .int) false false sh.length 0 0 none l d tX12_many [4] Rp n 4 [some (.int x), some (.int (nI C)), some (.int (nI N))] [] sh I J 0 0 := by
  intro m
  induction m with
  | zero =>
    intro N n C hR hN hm hn
    obtain ⟨n, rfl⟩ : ∃ n', n = n' + 1 := ⟨n - 1, by omega⟩
    have h0 : N = 0 := by omega
    subst h0
    refine xrun_step fun K hK => ?_
    exact And.intro (fun _ => hR) (fun h => absurd (show nI 0 = 0 by decide) h)
  | succ m ih =>
    intro N n C hR hN hm hn
    obtain ⟨n, rfl⟩ : ∃ n', n = n' + 1 := ⟨n - 1, by omega⟩
    have hP : 2 ^ (m + 1) ≤ 2 ^ 30 := Nat.pow_le_pow_right (by omega) hm
    have hP2 : 2 ^ (m + 1) = 2 ^ m * 2 := Nat.pow_succ 2 m
    refine xrun_step fun K hK => ?_
    refine And.intro (fun hz => ?_) (fun _ => ?_)
    · have h0 : N = 0 := by
        have := congrArg Int32.toInt (show nI N = 0 from hz)
        rw [nI_toInt (by omega)] at this
        have e0 : (0 : Int32).toInt = 0 := by decide
        omega
      have hp : ∀ m, pcN m 0 = 0 := by
        intro m
        induction m with
        | zero => rfl
        | succ m ihm =>
          show 0 % 2 + pcN m (0 / 2) = 0
          rw [show 0 / 2 = 0 from rfl, ihm]
      rw [h0, hp] at hR
      exact hR
    refine hK 4 [some (.int x), some (.int (nI C + (nI N &&& 1))), some (.int (nI N >>> (1 &&& 31)))] [] sh I J 0 0 ?_
    have e1 : nI N &&& 1 = nI (N % 2) := by
      have y := bit_nat N 0 (by omega) (by omega)
      rw [show nI N >>> (nI 0 &&& 31) = nI N by
        apply Int32.toBitVec_inj.mp
        rw [Int32.toBitVec_shiftRight, show ((nI 0 &&& 31).toBitVec.smod 32) = BitVec.ofNat 32 0 by decide]
        exact BitVec.eq_of_toInt_eq (by rw [BitVec.sshiftRight', BitVec.toInt_sshiftRight]; simp)] at y
      rw [y]
      simp
    rw [half_nat N (by omega), e1, nI_add]
    refine ih (N / 2) n _ ?_ (by omega) (by omega) (by omega)
    rw [show C + N % 2 + pcN m (N / 2) = C + pcN (m + 1) N by show C + N % 2 + pcN m (N / 2) = C + (N % 2 + pcN m (N / 2)); omega]
    exact hR
