section
-- ===== methods of the reference that are walked by hand =====
theorem bv_small {k : Nat} (h : k < 4294967296) : (BitVec.ofNat 32 k).toNat = k := by
  rw [BitVec.toNat_ofNat, Nat.mod_eq_of_lt h]
theorem half_nat (N : Nat) (hN : N < 2147483648) : nI N >>> (1 &&& 31) = nI (N / 2) := by
  apply Int32.toBitVec_inj.mp
  have hbv : (((1:Int32) &&& 31).toBitVec.smod 32) = BitVec.ofNat 32 1 := by decide +kernel
  rw [Int32.toBitVec_shiftRight, hbv]
  have hx : (nI N).toBitVec = BitVec.ofNat 32 N := rfl
  rw [hx]
  have hs : (BitVec.ofNat 32 N).sshiftRight' (BitVec.ofNat 32 1) = (BitVec.ofNat 32 N) >>> 1 := by
    rw [BitVec.sshiftRight']
    rw [BitVec.sshiftRight_eq_of_msb_false]
    · rw [BitVec.toNat_ofNat]
    · rw [BitVec.msb_eq_decide]
      simp
      omega
  rw [hs]
  apply BitVec.eq_of_toNat_eq
  rw [BitVec.toNat_ushiftRight, BitVec.toNat_ofNat, Nat.mod_eq_of_lt (by omega : N < 2^32), Nat.shiftRight_eq_div_pow]
  show N / 2 ^ 1 = (BitVec.ofNat 32 (N / 2)).toNat
  rw [bv_small (by omega)]
theorem vp_k {k N : Nat} {x : Int32} (e : x = nI k) (h : k < N) (hN : N < 2 ^ 31) : vp_in x N := by
  rw [e]
  exact vp_in_nI h hN
theorem nI_m1 {h : Nat} (h1 : 1 ≤ h) : nI h + (-1) = nI (h - 1) := by
  obtain ⟨j, rfl⟩ : ∃ j, h = j + 1 := ⟨h - 1, by omega⟩
  rw [show j + 1 - 1 = j by omega, ← nI_pred j, Int32.sub_eq_add_neg]
theorem nI_s1 {h : Nat} (h1 : 1 ≤ h) : nI h - 1 = nI (h - 1) := by
  obtain ⟨j, rfl⟩ : ∃ j, h = j + 1 := ⟨h - 1, by omega⟩
  rw [show j + 1 - 1 = j by omega, nI_pred j]
set_option maxRecDepth 100000 in
theorem hm_many_loop (l : Launch) (d : Nat) (x : Int32) (sh : List XO) (I : XI) (J : XJ) (Rp : XR) (hR : ∀ r : Int32, Rp (some (.int r)) sh I J) : ∀ (m N n : Nat) (c : Int32), N < 2 ^ m → m ≤ 31 → m < n → xrun xxX12 (some .int) false false sh.length 0 0 none l d tX12_many [4] Rp n 4 [some (.int x), some (.int c), some (.int (nI N))] [] sh I J 0 0 := by
  intro m
  induction m with
  | zero =>
    intro N n c hN hm hn
    obtain ⟨n, rfl⟩ : ∃ n', n = n' + 1 := ⟨n - 1, by omega⟩
    have h0 : N = 0 := by omega
    subst h0
    refine xrun_step fun K hK => ?_
    exact And.intro (fun _ => hR _) (fun h => absurd (show nI 0 = 0 by decide) h)
  | succ m ih =>
    intro N n c hN hm hn
    obtain ⟨n, rfl⟩ : ∃ n', n = n' + 1 := ⟨n - 1, by omega⟩
    have hP : 2 ^ (m + 1) ≤ 2 ^ 31 := Nat.pow_le_pow_right (by omega) hm
    have hP2 : 2 ^ (m + 1) = 2 ^ m * 2 := Nat.pow_succ 2 m
    refine xrun_step fun K hK => ?_
    refine And.intro (fun _ => hR _) (fun _ => ?_)
    refine hK 4 [some (.int x), some (.int (c + (nI N &&& 1))), some (.int (nI N >>> (1 &&& 31)))] [] sh I J 0 0 ?_
    rw [half_nat N (by omega)]
    exact ih (N / 2) n _ (by omega) (by omega) (by omega)
set_option maxRecDepth 100000 in
theorem hm_many (l : Launch) (d N : Nat) (hN : N < 2 ^ 31) (sh : List XO) (I : XI) (J : XJ) (Rp : XR) (hR : ∀ r : Int32, Rp (some (.int r)) sh I J) : xm l (d + 1) 0 0 mX12_many [.int (nI N)] sh I J Rp := by
  refine xm_ofK 32 (X := xxX12) (t := tX12_many) (stop := [4]) (ini := false) xx12 pl12 rfl kX12_many (fun h => by cases h) (Nat.le_of_ble_eq_true rfl) (fun K hK => ?_)
  exact hK _ _ _ _ _ _ _ _ (hm_many_loop l d _ sh I J Rp hR 31 N 32 0 hN (by omega) (by omega))
theorem lgn {x y : Int64} (h : ¬ lg_cmp x y = 0) : ¬ x = y := fun z => h (by rw [z]; unfold lg_cmp; rw [if_neg (Int64.lt_irrefl), if_pos rfl])
set_option maxRecDepth 100000 in
theorem hm_bound (l : Launch) (d : Nat) (x : Int64) (sh : List XO) (I : XI) (J : XJ) (Rp : XR) (hR : ∀ r : Int64, Rp (some (.long r)) sh I J) : xm l (d + 1) 0 0 mX12_bound [.long x] sh I J Rp := by
  refine xm_ofK 0 (X := xxX12) (t := tX12_bound) (stop := []) (ini := false) xx12 pl12 rfl kX12_bound (fun h => by cases h) (Nat.le_of_ble_eq_true rfl) (fun K hK => ?_)
  exact And.intro (fun _ => And.intro (fun _ => hR _) (fun _ => hR _)) (fun _ => hR _)
set_option maxRecDepth 100000 in
theorem hm_worked (l : Launch) (d : Nat) (o : Int32) (x y : Int64) (sh : List XO) (I : XI) (J : XJ) (Rp : XR) (hR : ∀ r : Int64, Rp (some (.long r)) sh I J) : xm l (d + 2) 0 0 mX12_worked [.int o, .long x, .long y] sh I J Rp := by
  refine xm_ofK 0 (X := xxX12) (t := tX12_worked) (stop := []) (ini := false) xx12 pl12 rfl kX12_worked (fun h => by cases h) (Nat.le_of_ble_eq_true rfl) (fun K hK => ?_)
  refine And.intro (fun _ => And.intro (fun _ => hR _) (fun _ => hR _)) (fun _ => ?_)
  refine And.intro (fun _ => hm_bound l d _ sh I J _ (fun r => hR r)) (fun _ => ?_)
  refine And.intro (fun _ => hm_bound l d _ sh I J _ (fun r => hR r)) (fun _ => ?_)
  refine And.intro (fun _ => hm_bound l d _ sh I J _ (fun r => hR r)) (fun _ => ?_)
  refine And.intro (fun _ => And.intro (fun h => And.intro (lgn h) (hR _)) (fun _ => hR _)) (fun _ => ?_)
  refine And.intro (fun _ => And.intro (fun _ => hR _) (fun _ => hR _)) (fun _ => ?_)
  refine And.intro (fun _ => And.intro (fun _ => hR _) (fun _ => hR _)) (fun _ => ?_)
  refine And.intro (fun _ => And.intro (fun _ => hR _) (fun _ => hR _)) (fun _ => ?_)
  refine And.intro (fun _ => And.intro (fun _ => hR _) (fun _ => hR _)) (fun _ => ?_)
  refine And.intro (fun _ => And.intro (fun _ => hR _) (fun _ => hR _)) (fun _ => ?_)
  refine And.intro (fun _ => hR _) (fun _ => ?_)
  exact And.intro (fun _ => hR _) (fun _ => hR _)
end
section
-- ===== the laws of a text in the reference: orders, their worth =====
def saysL (f h k : Nat) (o : Option Value) : List (Option Value) := [some (.ref 67), some (.int (nI f)), some (.int (nI h)), some (.int (nI k)), o]
set_option maxRecDepth 100000 in
set_option maxHeartbeats 4000000 in
theorem hm_says_loop (l : Launch) (d f : Nat) (ru ta : Nat) (rs : List XO) (I : XI) (Rp : XR) (hR : ∀ (r : Int64) (J' : XJ), Rp (some (.long r)) (shH ru ta rs) I J') : ∀ (n k h : Nat) (o : Option Value) (J : XJ), h ≤ 200 → stW I n k h → xrun xxX12 (some .long) false false (shH ru ta rs).length 0 0 none l (d + 2) tX12_saysOf [4, 208] Rp (2 * n) 4 (saysL f h k o) [] (shH ru ta rs) I J 0 0 := by
  intro n
  induction n with
  | zero =>
    intro k h o J hh0 hs
    exact hs.elim
  | succ n ih =>
    intro k h o J hh0 hs
    obtain ⟨hk, hs⟩ := hs
    rw [show 2 * (n + 1) = 2 * n + 1 + 1 by omega]
    have ec : (nI k).toNatClampNeg = k := nI_clamp (by omega)
    have hv : vp_in (nI k) 1600 := vp_in_nI hk (by omega)
    -- behind one order
    have nxt : ∀ (h' : Nat) (o : Option Value) (J : XJ), h' ≤ 200 → stW I n (k + 1) h' → xrun xxX12 (some .long) false false (shH ru ta rs).length 0 0 none l (d + 2) tX12_saysOf [4, 208] Rp (2 * n + 1) 208 (saysL f h' k o) [] (shH ru ta rs) I J 0 0 := by
      intro h' o J hh' hs'
      refine xrun_step fun K hK => ?_
      refine hK 4 [some (.ref 67), some (.int (nI f)), some (.int (nI h')), some (.int (nI k + 1)), o] [] (shH ru ta rs) I J 0 0 ?_
      rw [nI_1]
      exact ih (k + 1) h' o J hh' hs'
    refine xrun_step fun K hK => ?_
    refine And.intro hv ?_
    rcases hs with ho | ⟨ho, hh, hs'⟩ | ⟨ho, hh, hs'⟩ | ⟨ho, hh, hs'⟩
    · have hc : I 77 (nI k).toNatClampNeg = 408 := by rw [ec, ho]
      refine And.intro (fun _ => ?_) (fun h => absurd hc h)
      exact And.intro (vp_b (by decide)) (hR _ _)
    · -- a number or a name
      have hw : vp_in (nI h) 200 := vp_in_nI hh (by omega)
      rcases ho with ho | ⟨ho, hn1, hn2⟩
      · have hc : I 77 (nI k).toNatClampNeg = 400 := by rw [ec, ho]
        refine And.intro (fun z => absurd (hc.symm.trans z) (by decide)) (fun _ => ?_)
        refine And.intro hv ?_
        refine And.intro (fun _ => ?_) (fun z => absurd hc z)
        refine And.intro (fun z => absurd hc z) (fun _ => ?_)
        refine And.intro hv (And.intro hw ?_)
        refine hK 208 [some (.ref 67), some (.int (nI f)), some (.int (nI h + 1)), some (.int (nI k)), some (.int _)] [] (shH ru ta rs) I _ 0 0 ?_
        rw [nI_1]
        exact nxt (h + 1) _ _ (by omega) hs'
      · have hc : I 77 (nI k).toNatClampNeg = 401 := by rw [ec, ho]
        have hn : vp_in (I 78 (nI k).toNatClampNeg) 11 := by
          rw [ec]
          exact vp_in_iff.mpr ⟨hn1, by omega⟩
        refine And.intro (fun z => absurd (hc.symm.trans z) (by decide)) (fun _ => ?_)
        refine And.intro hv ?_
        refine And.intro (fun z => absurd (hc.symm.trans z) (by decide)) (fun _ => ?_)
        refine And.intro (fun z => absurd hc z) (fun _ => ?_)
        refine And.intro (fun _ => ?_) (fun z => absurd (hc.symm.trans z) (by decide))
        refine And.intro hv (And.intro hn (And.intro hw ?_))
        refine hK 208 [some (.ref 67), some (.int (nI f)), some (.int (nI h + 1)), some (.int (nI k)), some (.int _)] [] (shH ru ta rs) I _ 0 0 ?_
        rw [nI_1]
        exact nxt (h + 1) _ _ (by omega) hs'
    · -- one number is changed
      have hw : vp_in (nI h - 1) 200 := by
        rw [nI_s1 hh]
        exact vp_in_nI (by omega) (by omega)
      rcases ho with ho | ho | ho
      · have hc : I 77 (nI k).toNatClampNeg = 402 := by rw [ec, ho]
        refine And.intro (fun z => absurd (hc.symm.trans z) (by decide)) (fun _ => ?_)
        refine And.intro hv ?_
        refine And.intro (fun z => absurd (hc.symm.trans z) (by decide)) (fun _ => ?_)
        refine And.intro (fun _ => ?_) (fun z => absurd (hc.symm.trans z) (by decide))
        refine And.intro (fun z => absurd hc z) (fun _ => ?_)
        refine And.intro hw (And.intro hw ?_)
        exact hK 208 (saysL f h k _) [] (shH ru ta rs) I _ 0 0 (nxt h _ _ hh0 hs')
      · have hc : I 77 (nI k).toNatClampNeg = 403 := by rw [ec, ho]
        refine And.intro (fun z => absurd (hc.symm.trans z) (by decide)) (fun _ => ?_)
        refine And.intro hv ?_
        refine And.intro (fun z => absurd (hc.symm.trans z) (by decide)) (fun _ => ?_)
        refine And.intro (fun _ => ?_) (fun z => absurd (hc.symm.trans z) (by decide))
        refine And.intro (fun _ => ?_) (fun z => absurd (hc.symm.trans z) (by decide))
        refine And.intro (fun z => absurd hc z) (fun _ => ?_)
        refine And.intro hw (And.intro hv (And.intro (show ¬ ((100 : Int64) = 0) by decide) (And.intro hw ?_)))
        exact hK 208 (saysL f h k _) [] (shH ru ta rs) I _ 0 0 (nxt h _ _ hh0 hs')
      · have hc : I 77 (nI k).toNatClampNeg = 405 := by rw [ec, ho]
        refine And.intro (fun z => absurd (hc.symm.trans z) (by decide)) (fun _ => ?_)
        refine And.intro hv ?_
        refine And.intro (fun z => absurd (hc.symm.trans z) (by decide)) (fun _ => ?_)
        refine And.intro (fun _ => ?_) (fun z => absurd (hc.symm.trans z) (by decide))
        refine And.intro (fun _ => ?_) (fun z => absurd (hc.symm.trans z) (by decide))
        refine And.intro (fun _ => ?_) (fun z => absurd (hc.symm.trans z) (by decide))
        refine And.intro (fun z => absurd hc z) (fun _ => ?_)
        refine And.intro hw (And.intro hw ?_)
        exact hK 208 (saysL f h k _) [] (shH ru ta rs) I _ 0 0 (nxt h _ _ hh0 hs')
    · -- two numbers become one
      have eo : I 77 (nI k).toNatClampNeg = I 77 k := by rw [ec]
      have e1 : nI h + (-1) = nI (h - 1) := nI_m1 (by omega)
      have hw1 : vp_in (nI h + (-1)) 200 := by
        rw [e1]
        exact vp_in_nI (by omega) (by omega)
      have hw2 : vp_in (nI h + (-1) - 1) 200 := by
        rw [e1, nI_s1 (by omega)]
        exact vp_in_nI (by omega) (by omega)
      refine And.intro (fun z => absurd (Or.inl (eo.symm.trans z)) ho) (fun _ => ?_)
      refine And.intro hv ?_
      refine And.intro (fun z => absurd (Or.inr (Or.inl (eo.symm.trans z))) ho) (fun _ => ?_)
      refine And.intro (fun _ => ?_) (fun z => absurd (Or.inr (Or.inr (Or.inl (eo.symm.trans z)))) ho)
      refine And.intro (fun _ => ?_) (fun z => absurd (Or.inr (Or.inr (Or.inr (Or.inl (eo.symm.trans z))))) ho)
      refine And.intro (fun _ => ?_) (fun z => absurd (Or.inr (Or.inr (Or.inr (Or.inr (Or.inl (eo.symm.trans z)))))) ho)
      refine And.intro (fun _ => ?_) (fun z => absurd (Or.inr (Or.inr (Or.inr (Or.inr (Or.inr (eo.symm.trans z)))))) ho)
      refine And.intro hw2 (And.intro hw1 ?_)
      refine hm_worked l d _ _ _ _ _ _ _ (fun r => ?_)
      refine And.intro hw2 ?_
      refine hK 208 [some (.ref 67), some (.int (nI f)), some (.int (nI h + (-1))), some (.int (nI k)), some (.int _)] [] (shH ru ta rs) I _ 0 0 ?_
      rw [e1]
      exact nxt (h - 1) _ _ (by omega) hs'
set_option maxRecDepth 100000 in
theorem hm_says (l : Launch) (d f : Nat) (ru ta : Nat) (rs : List XO) (I : XI) (J : XJ) (Rp : XR) (hs : stW I 1601 f 0) (hR : ∀ (r : Int64) (J' : XJ), Rp (some (.long r)) (shH ru ta rs) I J') : xm l (d + 3) 0 0 mX12_saysOf [.ref 67, .int (nI f)] (shH ru ta rs) I J Rp := by
  refine xm_ofK (2 * 1601) (X := xxX12) (t := tX12_saysOf) (stop := [4, 208]) (ini := false) xx12 pl12 rfl kX12_saysOf (fun h => by cases h) (Nat.le_of_ble_eq_true rfl) (fun K hK => ?_)
  exact hK 4 (saysL f 0 f none) [] _ _ _ _ _ (hm_says_loop l d f ru ta rs I Rp hR 1601 f 0 none J (by omega) hs)
/-- where the orders of law w begin, if THE TEXT has it -/
def foO (I : XI) (r : Int32) : Prop := r = -1 ∨ ∃ f : Nat, r = nI f ∧ stW I 1601 f 0
set_option maxRecDepth 100000 in
set_option maxHeartbeats 4000000 in
theorem hm_orders_loop (l : Launch) (d t N : Nat) (w : Int32) (hw : w.toInt ≤ 4) (ht : t < 4) (ru ta : Nat) (rs : List XO) (I : XI) (J : XJ) (Rp : XR) (h4 : I 68 4 = nI t) (hN : I 71 t = nI N) (hN2 : N ≤ 24) (hq : QQ I) (hR : ∀ r : Int32, foO I r → Rp (some (.int r)) (shH ru ta rs) I J) : ∀ (m k n : Nat) (r : Int32) (o : Option Value), N ≤ k + m → m < n → k ≤ 24 → foO I r → xrun xxX12 (some .int) false false (shH ru ta rs).length 0 0 none l d tX12_ordersOf [4, 64] Rp (2 * n) 4 [some (.ref 67), some (.int w), some (.int r), some (.int (nI k)), o] [] (shH ru ta rs) I J 0 0 := by
  have v4 : vp_in (I 68 4) 4 := vp_k (N := 4) h4 ht (by omega)
  have c4 : (I 68 4).toNatClampNeg = t := by rw [h4, nI_clamp (by omega)]
  have n4 : ¬ I 68 4 = -1 := by
    rw [h4]
    have : ∀ t, t < 4 → ¬ nI t = -1 := by decide
    exact this t ht
  intro m
  induction m with
  | zero =>
    intro k n r o hk hn h24 hr
    obtain ⟨n, rfl⟩ : ∃ n', n = n' + 1 := ⟨n - 1, by omega⟩
    rw [show 2 * (n + 1) = 2 * n + 1 + 1 by omega]
    refine xrun_step fun K hK => ?_
    refine And.intro (vp_b (by decide)) ?_
    refine And.intro (fun z => absurd z n4) (fun _ => ?_)
    refine And.intro (vp_b (by decide)) ?_
    refine And.intro v4 ?_
    refine And.intro (fun _ => hR _ hr) (fun z => absurd ?_ z)
    show I 71 (I 68 4).toNatClampNeg ≤ nI k
    rw [c4, hN]
    exact nI_le (by omega) (by omega)
  | succ m ih =>
    intro k n r o hk hn h24 hr
    obtain ⟨n, rfl⟩ : ∃ n', n = n' + 1 := ⟨n - 1, by omega⟩
    rw [show 2 * (n + 1) = 2 * n + 1 + 1 by omega]
    refine xrun_step fun K hK => ?_
    refine And.intro (vp_b (by decide)) ?_
    refine And.intro (fun z => absurd z n4) (fun _ => ?_)
    refine And.intro (vp_b (by decide)) ?_
    refine And.intro v4 ?_
    refine And.intro (fun _ => hR _ hr) (fun hlt => ?_)
    have hlt2 : k < N := by
      rcases Nat.lt_or_ge k N with z | z
      · exact z
      · exfalso
        refine hlt ?_
        show I 71 (I 68 4).toNatClampNeg ≤ nI k
        rw [c4, hN]
        exact nI_le (by omega) (by omega)
    have ei : nI 24 * I 68 4 + nI k = nI (24 * t + k) := by
      rw [h4, show nI 24 * nI t = nI (24 * t) from (Int32.ofNat_mul 24 t).symm, nI_add]
    have vi : vp_in (nI 24 * I 68 4 + nI k) 96 := vp_k (N := 96) ei (by omega) (by omega)
    have ci : (nI 24 * I 68 4 + nI k).toNatClampNeg = 24 * t + k := by rw [ei, nI_clamp (by omega)]
    have go : ∀ r', foO I r' → xrun xxX12 (some .int) false false (shH ru ta rs).length 0 0 none l d tX12_ordersOf [4, 64] Rp (2 * n + 1) 64 [some (.ref 67), some (.int w), some (.int r), some (.int (nI k)), some (.int (nI 24 * I 68 4 + nI k))] [.int r'] (shH ru ta rs) I J 0 0 := by
      intro r' hr'
      refine xrun_step fun K hK => ?_
      refine hK 4 [some (.ref 67), some (.int w), some (.int r'), some (.int (nI k + 1)), some (.int (nI 24 * I 68 4 + nI k))] [] (shH ru ta rs) I J 0 0 ?_
      rw [nI_1]
      exact ih (k + 1) n r' _ (by omega) (by omega) (by omega) hr'
    refine And.intro (vp_b (by decide)) ?_
    refine And.intro vi ?_
    refine And.intro (fun _ => hK _ _ _ _ _ _ _ _ (go r hr)) (fun he => ?_)
    refine And.intro vi ?_
    refine hK _ _ _ _ _ _ _ _ (go _ ?_)
    have he2 : I 72 (24 * t + k) = w := by
      rw [← ci]
      exact he
    obtain ⟨f, hf, _, hs0⟩ := hq t k ht (by rw [hN, nI_toInt (by omega)]; omega) (by rw [he2]; exact hw)
    have hs := stL_W (by omega) _ _ _ hs0
    refine Or.inr ⟨f, ?_, hs⟩
    show I 73 (nI 24 * I 68 4 + nI k).toNatClampNeg = nI f
    rw [ci]
    apply Int32.toInt_inj.mp
    have hl := Int32.toInt_lt (I 73 (24 * t + k))
    rw [nI_toInt (by omega), hf]
set_option maxRecDepth 100000 in
theorem hm_orders (l : Launch) (d : Nat) (w : Int32) (hw : w.toInt ≤ 4) (ru ta : Nat) (rs : List XO) (I : XI) (J : XJ) (Rp : XR) (hi : ivO CF [] I) (hq : QQ I) (hR : ∀ r : Int32, foO I r → Rp (some (.int r)) (shH ru ta rs) I J) : xm l (d + 1) 0 0 mX12_ordersOf [.ref 67, .int w] (shH ru ta rs) I J Rp := by
  refine xm_ofK 52 (X := xxX12) (t := tX12_ordersOf) (stop := [4, 64]) (ini := false) xx12 pl12 rfl kX12_ordersOf (fun h => by cases h) (Nat.le_of_ble_eq_true rfl) (fun K hK => ?_)
  have h4 : inI (-1, 3) (I 68 4).toInt := hi 68 4 rfl
  by_cases hn : I 68 4 = -1
  · refine hK 4 [some (.ref 67), some (.int w), some (.int (-1)), some (.int (nI 0)), none] [] _ _ _ _ _ ?_
    refine xrun_step fun K hK => ?_
    refine And.intro (vp_b (by decide)) ?_
    exact And.intro (fun _ => hR _ (Or.inl rfl)) (fun z => absurd hn z)
  · have h5 : inI (0, 3) (I 68 4).toInt := by
      refine ⟨?_, h4.2⟩
      have h1 := h4.1
      dsimp only at h1 ⊢
      have : ¬ (I 68 4).toInt = -1 := fun z => hn (Int32.toInt_inj.mp z)
      omega
    obtain ⟨t, e4, t1, t2, _⟩ := nI_inI h5 (by omega)
    have hc : inI (0, 24) (I 71 t).toInt := by
      have z := hi 71 t rfl
      have e : ∀ t, t < 4 → cellI CF 71 t = (0, 24) := by decide +kernel
      rw [e t (by omega)] at z
      exact z
    obtain ⟨N, eN, n1, n2, _⟩ := nI_inI hc (by omega)
    exact hK 4 [some (.ref 67), some (.int w), some (.int (-1)), some (.int (nI 0)), none] [] _ _ _ _ _ (hm_orders_loop l d t N w hw (by omega) ru ta rs I J Rp e4 eN (by omega) hq hR 25 0 26 (-1) none (by omega) (by omega) (by omega) (Or.inl rfl))
end
section
theorem lg_ge {x y : Int64} (h : 0 ≤ lg_cmp x y) : ¬ x < y := by
  intro z
  unfold lg_cmp at h
  have z1 := Int64.lt_iff_toInt_lt.mp z
  rw [if_neg (fun w => by have := Int64.lt_iff_toInt_lt.mp w; omega), if_neg (fun w => by rw [w] at z1; omega)] at h
  exact absurd h (by decide)
theorem lg_le {x y : Int64} (h : lg_cmp x y ≤ 0) : ¬ y < x := by
  intro z
  unfold lg_cmp at h
  rw [if_pos z] at h
  exact absurd h (by decide)
set_option maxRecDepth 100000 in
theorem hm_held (l : Launch) (d : Nat) (v : Int64) (lo hi : Int32) (hl : lo.toInt ≤ hi.toInt) (sh : List XO) (I : XI) (J : XJ) (Rp : XR) (hR : ∀ r : Int32, lo.toInt ≤ r.toInt → r.toInt ≤ hi.toInt → Rp (some (.int r)) sh I J) : xm l (d + 1) 0 0 mX12_held [.long v, .int lo, .int hi] sh I J Rp := by
  refine xm_ofK 0 (X := xxX12) (t := tX12_held) (stop := []) (ini := false) xx12 pl12 rfl kX12_held (fun h => by cases h) (Nat.le_of_ble_eq_true rfl) (fun K hK => ?_)
  refine And.intro (fun h1 => ?_) (fun _ => hR lo (Int.le_refl _) hl)
  refine And.intro (fun h2 => ?_) (fun _ => hR hi hl (Int.le_refl _))
  have h1 := lg_ge h1
  have h2 := lg_le h2
  have z1 : lo.toInt ≤ v.toInt := by
    have : ¬ v.toInt < lo.toInt64.toInt := fun z => h1 (Int64.lt_iff_toInt_lt.mpr z)
    rw [Int32.toInt_toInt64] at this
    omega
  have z2 : v.toInt ≤ hi.toInt := by
    have : ¬ hi.toInt64.toInt < v.toInt := fun z => h2 (Int64.lt_iff_toInt_lt.mpr z)
    rw [Int32.toInt_toInt64] at this
    omega
  have y1 := Int32.le_toInt lo
  have y2 := Int32.toInt_lt hi
  have e : v.toInt32.toInt = v.toInt := by
    rw [Int64.toInt_toInt32]
    exact Int.bmod_eq_of_le (by omega) (by omega)
  exact hR _ (by rw [e]; exact z1) (by rw [e]; exact z2)
theorem foO_keep {I I' : XI} {r : Int32} (h1 : I' 77 = I 77) (h2 : I' 78 = I 78) (h : foO I r) : foO I' r := by
  rcases h with h | ⟨f, e, h⟩
  · exact Or.inl h
  · exact Or.inr ⟨f, e, stW_keep h1 h2 _ _ _ h⟩
set_option maxRecDepth 100000 in
/-- what the orders say, where there are any -/
theorem hm_says_fo (l : Launch) (d : Nat) (r : Int32) (hn : ¬ r = -1) (ru ta : Nat) (rs : List XO) (I : XI) (J : XJ) (Rp : XR) (hs : foO I r) (hR : ∀ (v : Int64) (J' : XJ), Rp (some (.long v)) (shH ru ta rs) I J') : xm l (d + 3) 0 0 mX12_saysOf [.ref 67, .int r] (shH ru ta rs) I J Rp := by
  rcases hs with hs | ⟨f, rfl, hs⟩
  · exact absurd hs hn
  · exact hm_says l d f ru ta rs I J Rp hs hR
set_option maxRecDepth 100000 in
theorem hm_copies_loop (l : Launch) (d : Nat) (q p : Nat) (w : Int32) (hqp : (w = 0 ∧ q = 69 ∧ p = 68) ∨ (¬ w = 0 ∧ q = 68 ∧ p = 69)) (ru ta : Nat) (rs : List XO) (I : XI) (J : XJ) (Rp : XR) (hR : Rp none (shH ru ta rs) (cI I q p 0 0 2200) J) : ∀ (m k n : Nat), k + m = 2200 → m < n → xrun xxX12 none false false (shH ru ta rs).length 0 0 none l d tX12_copies [2] Rp n 2 [some (.ref 67), some (.int w), some (.int (nI k))] [] (shH ru ta rs) (cI I q p 0 0 k) J 0 0 := by
  intro m
  induction m with
  | zero =>
    intro k n hk hn
    obtain ⟨n, rfl⟩ : ∃ n', n = n' + 1 := ⟨n - 1, by omega⟩
    have hk : k = 2200 := by omega
    subst hk
    refine xrun_step fun K hK => ?_
    exact And.intro (fun h => hR) (fun h => absurd (show (2200 : Int32) ≤ nI 2200 by decide) h)
  | succ m ih =>
    intro k n hk hn
    obtain ⟨n, rfl⟩ : ∃ n', n = n' + 1 := ⟨n - 1, by omega⟩
    have hst : uI (cI I q p 0 0 k) p k (cI I q p 0 0 k q k) = cI I q p 0 0 (k + 1) := by
      have hne : q ≠ p := by omega
      funext r j
      by_cases hr : r = p
      · subst hr
        rw [uI_atA, cI_eq, cI_eq, cI_ne hne]
        simp only [va_cpy, true_and]
        by_cases hj : j = k
        · subst hj
          rw [if_pos rfl, if_pos (by omega), show 0 + (j - 0) = j by omega]
        · rw [if_neg hj]
          by_cases h2 : 0 ≤ j ∧ j < 0 + k
          · rw [if_pos h2, if_pos (by omega)]
          · rw [if_neg h2, if_neg (by omega)]
      · rw [uI_ne hr, cI_ne hr, cI_ne hr]
    refine xrun_step fun K hK => ?_
    refine And.intro (fun h => absurd h (nI_ge (a := k) (b := 2200) (by omega) (by omega))) (fun h => ?_)
    rcases hqp with ⟨hw, rfl, rfl⟩ | ⟨hw, rfl, rfl⟩
    · refine And.intro (fun _ => ?_) (fun h => absurd hw h)
      refine And.intro (vp_in_nI (N := 2200) (by omega) (by omega)) ?_
      refine And.intro (vp_in_nI (N := 2200) (by omega) (by omega)) ?_
      refine hK 2 [some (.ref 67), some (.int w), some (.int (nI k + 1))] [] (shH ru ta rs) (uI (cI I 69 68 0 0 k) 68 (nI k).toNatClampNeg (cI I 69 68 0 0 k 69 (nI k).toNatClampNeg)) J 0 0 ?_
      rw [nI_1, nI_clamp (by omega), hst]
      exact ih (k + 1) n (by omega) (by omega)
    · refine And.intro (fun h => absurd h hw) (fun _ => ?_)
      refine And.intro (vp_in_nI (N := 2200) (by omega) (by omega)) ?_
      refine And.intro (vp_in_nI (N := 2200) (by omega) (by omega)) ?_
      refine hK 2 [some (.ref 67), some (.int w), some (.int (nI k + 1))] [] (shH ru ta rs) (uI (cI I 68 69 0 0 k) 69 (nI k).toNatClampNeg (cI I 68 69 0 0 k 68 (nI k).toNatClampNeg)) J 0 0 ?_
      rw [nI_1, nI_clamp (by omega), hst]
      exact ih (k + 1) n (by omega) (by omega)
theorem cI_zero (I : XI) (q p : Nat) : cI I q p 0 0 0 = I := by
  funext r j
  by_cases hr : r = p
  · subst hr
    rw [cI_eq]
    simp only [va_cpy]
    rw [if_neg (by omega)]
  · rw [cI_ne hr]
def cellJ (C : AC) (p j : Nat) : Int × Int := match C.2.1.find? (fun q => Nat.beq q.1 p && Nat.beq q.2.1 j) with
  | some q => q.2.2
  | none => (match xlk C.2.2 p with
    | some r => r
    | none => fr)
theorem nrm_lt (k : Nat) : nrm 68 k < 130 := by
  unfold nrm
  split
  · omega
  · rename_i e
    have e2 : Nat.ble 130 k = false := e
    rcases Nat.lt_or_ge k 130 with z | z
    · exact z
    · have := Nat.ble_eq_true_of_le z
      rw [e2] at this
      cases this
theorem cellJ_6 : ∀ j, j < 130 → cellJ CF 69 j = cellJ CF 68 j := by decide +kernel
theorem cell_6 (k : Nat) : cellI CF 69 k = cellI CF 68 k := by
  show cellJ CF 69 (nrm 68 k) = cellJ CF 68 (nrm 68 k)
  exact cellJ_6 _ (nrm_lt k)
theorem qp91 : ∀ p, p ∈ QPl → nmem p [91] = false := by decide
end
section
-- ===== bales of the reference: lengths, what they make together, what is used of them =====
def balI (I : XI) (b : Nat) (k n t : Int32) : XI := uI (uI (uI (uI I 93 (16 + b) k) 93 (28 + b) n) 93 (40 + b) 0) 93 (52 + b) t
theorem nI_ix {c b : Nat} (h : c + b < 69) : (nI c + nI b).toNatClampNeg = c + b ∧ vp_in (nI c + nI b) 69 := by
  rw [nI_add]
  exact ⟨nI_clamp (by omega), vp_in_nI h (by omega)⟩
theorem i32_add {a b : Int32} (h1 : -2147483648 ≤ a.toInt + b.toInt) (h2 : a.toInt + b.toInt < 2147483648) : (a + b).toInt = a.toInt + b.toInt := by
  rw [Int32.toInt_add]
  exact Int.bmod_eq_of_le (by omega) (by omega)
theorem i32_sub {a b : Int32} (h1 : -2147483648 ≤ a.toInt - b.toInt) (h2 : a.toInt - b.toInt < 2147483648) : (a - b).toInt = a.toInt - b.toInt := by
  rw [Int32.toInt_sub]
  exact Int.bmod_eq_of_le (by omega) (by omega)
theorem uI_atC (I : XI) (p k : Nat) (v : Int32) (j : Nat) : uI I p k v p j = if j = k then v else I p j := by
  rw [uI_atA]
  simp
theorem i32_0 : (0 : Int32).toInt = 0 := by decide
set_option maxRecDepth 100000 in
theorem hm_bales (l : Launch) (d b : Nat) (hb : b < 12) (k n t : Int32) (ru ta : Nat) (rs : List XO) (I : XI) (J : XJ) (Rp : XR) (hR : Rp none (shH ru ta rs) (balI I b k n t) J) : xm l (d + 1) 0 0 mX12_bales [.ref 67, .int (nI b), .int k, .int n, .int t] (shH ru ta rs) I J Rp := by
  obtain ⟨e1, v1⟩ := nI_ix (c := 16) (b := b) (by omega)
  obtain ⟨e2, v2⟩ := nI_ix (c := 28) (b := b) (by omega)
  obtain ⟨e3, v3⟩ := nI_ix (c := 40) (b := b) (by omega)
  obtain ⟨e4, v4⟩ := nI_ix (c := 52) (b := b) (by omega)
  refine xm_ofK 0 (X := xxX12) (t := tX12_bales) (stop := []) (ini := false) xx12 pl12 rfl kX12_bales (fun h => by cases h) (Nat.le_of_ble_eq_true rfl) (fun K hK => ?_)
  refine And.intro v1 (And.intro v2 (And.intro v3 (And.intro v4 ?_)))
  show Rp none (shH ru ta rs) (uI (uI (uI (uI I 93 (nI 16 + nI b).toNatClampNeg k) 93 (nI 28 + nI b).toNatClampNeg n) 93 (nI 40 + nI b).toNatClampNeg 0) 93 (nI 52 + nI b).toNatClampNeg t) J
  rw [e1, e2, e3, e4]
  exact hR
set_option maxRecDepth 100000 in
theorem hm_shortens (l : Launch) (d b : Nat) (hb : b < 12) (y : Int32) (ru ta : Nat) (rs : List XO) (I : XI) (J : XJ) (Rp : XR) (h1 : 0 < I 93 (28 + b) - y → Rp none (shH ru ta rs) (uI I 93 (28 + b) (I 93 (28 + b) - y)) J) (h0 : ¬ 0 < I 93 (28 + b) - y → Rp none (shH ru ta rs) (balI (uI I 93 (28 + b) (I 93 (28 + b) - y)) b 0 0 0) J) : xm l (d + 2) 0 0 mX12_shortens [.ref 67, .int (nI b), .int y] (shH ru ta rs) I J Rp := by
  obtain ⟨e2, v2⟩ := nI_ix (c := 28) (b := b) (by omega)
  refine xm_ofK 0 (X := xxX12) (t := tX12_shortens) (stop := []) (ini := false) xx12 pl12 rfl kX12_shortens (fun h => by cases h) (Nat.le_of_ble_eq_true rfl) (fun K hK => ?_)
  refine And.intro v2 (And.intro v2 (And.intro v2 (And.intro (fun h => ?_) (fun h => ?_))))
  · have hh : 0 < uI I 93 (nI 28 + nI b).toNatClampNeg (I 93 (nI 28 + nI b).toNatClampNeg - y) 93 (nI 28 + nI b).toNatClampNeg := h
    show Rp none (shH ru ta rs) (uI I 93 (nI 28 + nI b).toNatClampNeg (I 93 (nI 28 + nI b).toNatClampNeg - y)) J
    rw [e2, uI_atC, if_pos rfl] at hh
    rw [e2]
    exact h1 hh
  · have hh : ¬ 0 < uI I 93 (nI 28 + nI b).toNatClampNeg (I 93 (nI 28 + nI b).toNatClampNeg - y) 93 (nI 28 + nI b).toNatClampNeg := h
    rw [e2, uI_atC, if_pos rfl] at hh
    refine hm_bales l d b hb 0 0 0 ru ta rs _ J _ ?_
    show Rp none (shH ru ta rs) (balI (uI I 93 (nI 28 + nI b).toNatClampNeg (I 93 (nI 28 + nI b).toNatClampNeg - y)) b 0 0 0) J
    rw [e2]
    exact h0 hh
set_option maxRecDepth 100000 in
theorem hm_least (l : Launch) (d : Nat) (x y : Int32) (sh : List XO) (I : XI) (J : XJ) (Rp : XR) (h1 : ¬ y ≤ x → Rp (some (.int x)) sh I J) (h2 : y ≤ x → Rp (some (.int y)) sh I J) : xm l (d + 1) 0 0 mX12_least [.int x, .int y] sh I J Rp := by
  refine xm_ofK 0 (X := xxX12) (t := tX12_least) (stop := []) (ini := false) xx12 pl12 rfl kX12_least (fun h => by cases h) (Nat.le_of_ble_eq_true rfl) (fun K hK => ?_)
  exact And.intro h2 h1
def sumN (f : Nat → Int) : Nat → Int
  | 0 => 0
  | n + 1 => sumN f n + f n
theorem sumN_same {f g : Nat → Int} : ∀ n, (∀ b, b < n → g b = f b) → sumN g n = sumN f n
  | 0, _ => rfl
  | n + 1, h => by
    show sumN g n + g n = sumN f n + f n
    rw [sumN_same n (fun b hb => h b (by omega)), h n (by omega)]
theorem sumN_one {f g : Nat → Int} {j : Nat} (h : ∀ b, b ≠ j → g b = f b) : ∀ n, j < n → sumN g n = sumN f n - f j + g j
  | 0, hj => by omega
  | n + 1, hj => by
    show sumN g n + g n = sumN f n + f n - f j + g j
    by_cases e : n = j
    · subst e
      rw [sumN_same n (fun b hb => h b (by omega))]
      omega
    · rw [sumN_one h n (by omega), h n e]
      omega
theorem sumN_neg {f : Nat → Int} : ∀ n, (∀ b, b < n → f b ≤ 0) → sumN f n ≤ 0
  | 0, _ => Int.le_refl _
  | n + 1, h => by
    show sumN f n + f n ≤ 0
    have := sumN_neg n (fun b hb => h b (by omega))
    have := h n (by omega)
    omega
theorem sumN_bd {f : Nat → Int} (h : ∀ b, 0 ≤ f b ∧ f b ≤ 999) : ∀ n : Nat, 0 ≤ sumN f n ∧ sumN f n ≤ 999 * (n : Int)
  | 0 => ⟨Int.le_refl _, Int.le_refl _⟩
  | n + 1 => by
    have a := sumN_bd h n
    have b := h n
    show 0 ≤ sumN f n + f n ∧ sumN f n + f n ≤ 999 * ((n + 1 : Nat) : Int)
    omega
def lens (I : XI) : Prop := ∀ b, b < 12 → 0 ≤ (I 93 (28 + b)).toInt ∧ (I 93 (28 + b)).toInt ≤ 999
def lenF (I : XI) (t : Int32) (b : Nat) : Int := if b < 12 ∧ (t = -1 ∨ I 93 (52 + b) = t) then (I 93 (28 + b)).toInt else 0
theorem lenF_bd {I : XI} {t : Int32} (h : lens I) (b : Nat) : 0 ≤ lenF I t b ∧ lenF I t b ≤ 999 := by
  unfold lenF
  by_cases c : b < 12 ∧ (t = -1 ∨ I 93 (52 + b) = t)
  · rw [if_pos c]
    exact h b c.1
  · rw [if_neg c]
    omega
theorem feet_add {I : XI} {t : Int32} (hL : lens I) {k : Nat} (hk : k < 12) {s v : Int32} (hs : s.toInt = sumN (lenF I t) k) (hv : v.toInt = lenF I t k) : (s + v).toInt = sumN (lenF I t) (k + 1) := by
  have a := sumN_bd (lenF_bd (t := t) hL) k
  have b := lenF_bd (t := t) hL k
  rw [i32_add (by omega) (by omega), hs, hv]
  rfl
set_option maxRecDepth 100000 in
theorem hm_feetInAll_loop (l : Launch) (d : Nat) (ru ta : Nat) (rs : List XO) (I : XI) (J : XJ) (Rp : XR) (hL : lens I) (hR : ∀ r : Int32, r.toInt = sumN (lenF I (-1)) 12 → Rp (some (.int r)) (shH ru ta rs) I J) : ∀ (m k n : Nat) (s : Int32), k + m = 12 → m < n → s.toInt = sumN (lenF I (-1)) k → xrun xxX12 (some .int) false false (shH ru ta rs).length 0 0 none l d tX12_feetInAll [4] Rp n 4 [some (.ref 67), some (.int s), some (.int (nI k))] [] (shH ru ta rs) I J 0 0 := by
  intro m
  induction m with
  | zero =>
    intro k n s hk hn hs
    obtain ⟨n, rfl⟩ : ∃ n', n = n' + 1 := ⟨n - 1, by omega⟩
    have hk : k = 12 := by omega
    subst hk
    refine xrun_step fun K hK => ?_
    exact And.intro (fun _ => hR s hs) (fun h => absurd (show (12 : Int32) ≤ nI 12 by decide) h)
  | succ m ih =>
    intro k n s hk hn hs
    obtain ⟨n, rfl⟩ : ∃ n', n = n' + 1 := ⟨n - 1, by omega⟩
    obtain ⟨e2, v2⟩ := nI_ix (c := 28) (b := k) (by omega)
    refine xrun_step fun K hK => ?_
    refine And.intro (fun h => absurd h (nI_ge (a := k) (b := 12) (by omega) (by omega))) (fun _ => ?_)
    refine And.intro v2 ?_
    refine hK 4 [some (.ref 67), some (.int (s + I 93 (nI 28 + nI k).toNatClampNeg)), some (.int (nI k + 1))] [] (shH ru ta rs) I J 0 0 ?_
    rw [nI_1, e2]
    refine ih (k + 1) n _ (by omega) (by omega) (feet_add hL (by omega) hs ?_)
    unfold lenF
    rw [if_pos ⟨by omega, Or.inl rfl⟩]
set_option maxRecDepth 100000 in
theorem hm_feetInAll (l : Launch) (d : Nat) (ru ta : Nat) (rs : List XO) (I : XI) (J : XJ) (Rp : XR) (hL : lens I) (hR : ∀ r : Int32, r.toInt = sumN (lenF I (-1)) 12 → Rp (some (.int r)) (shH ru ta rs) I J) : xm l (d + 1) 0 0 mX12_feetInAll [.ref 67] (shH ru ta rs) I J Rp := by
  refine xm_ofK 13 (X := xxX12) (t := tX12_feetInAll) (stop := [4]) (ini := false) xx12 pl12 rfl kX12_feetInAll (fun h => by cases h) (Nat.le_of_ble_eq_true rfl) (fun K hK => ?_)
  exact hK 4 [some (.ref 67), some (.int 0), some (.int (nI 0))] [] (shH ru ta rs) I J 0 0 (hm_feetInAll_loop l d ru ta rs I J Rp hL hR 12 0 13 0 rfl (by omega) i32_0)
/-- what is left alone by what uses bales -/
def outW (I0 I : XI) : Prop := (∀ p, p ≠ 93 → I p = I0 p) ∧ ∀ k, k < 16 ∨ 64 ≤ k → I 93 k = I0 93 k
theorem us_upd1 {I0 I : XI} {t y : Int32} {i : Nat} (hi : i < 12) (hL : lens I) (hc : t = -1 ∨ I 93 (52 + i) = t) (hy : 1 ≤ y.toInt) (h : 0 < I 93 (28 + i) - y) (hle : y.toInt ≤ (I 93 (28 + i)).toInt) (ho : outW I0 I) : lens (uI I 93 (28 + i) (I 93 (28 + i) - y)) ∧ sumN (lenF (uI I 93 (28 + i) (I 93 (28 + i) - y)) t) 12 = sumN (lenF I t) 12 - y.toInt ∧ outW I0 (uI I 93 (28 + i) (I 93 (28 + i) - y)) := by
  have hi2 := hL i hi
  have ev : (I 93 (28 + i) - y).toInt = (I 93 (28 + i)).toInt - y.toInt := i32_sub (by omega) (by omega)
  refine ⟨fun b hb => ?_, ?_, ⟨fun p hp => ?_, fun k hk => ?_⟩⟩
  · rw [uI_atC]
    by_cases e : 28 + b = 28 + i
    · rw [if_pos e, ev]
      omega
    · rw [if_neg e]
      exact hL b hb
  · rw [sumN_one (f := lenF I t) (j := i) (fun b hb => ?_) 12 hi]
    · have e1 : lenF I t i = (I 93 (28 + i)).toInt := by
        unfold lenF
        rw [if_pos ⟨hi, hc⟩]
      have e2 : lenF (uI I 93 (28 + i) (I 93 (28 + i) - y)) t i = (I 93 (28 + i)).toInt - y.toInt := by
        unfold lenF
        rw [uI_atC, uI_atC, if_neg (show ¬ 52 + i = 28 + i by omega), if_pos (show 28 + i = 28 + i from rfl), if_pos ⟨hi, hc⟩, ev]
      rw [e1, e2]
      omega
    · unfold lenF
      rw [uI_atC, uI_atC, if_neg (show ¬ 52 + b = 28 + i by omega), if_neg (show ¬ 28 + b = 28 + i by omega)]
  · rw [uI_ne hp]
    exact ho.1 p hp
  · rw [uI_atC, if_neg (by omega)]
    exact ho.2 k hk
theorem us_upd2 {I0 I : XI} {t y : Int32} {i : Nat} (hi : i < 12) (hL : lens I) (hc : t = -1 ∨ I 93 (52 + i) = t) (hy : 1 ≤ y.toInt) (h : ¬ 0 < I 93 (28 + i) - y) (hle : y.toInt ≤ (I 93 (28 + i)).toInt) (ho : outW I0 I) : lens (balI (uI I 93 (28 + i) (I 93 (28 + i) - y)) i 0 0 0) ∧ sumN (lenF (balI (uI I 93 (28 + i) (I 93 (28 + i) - y)) i 0 0 0) t) 12 = sumN (lenF I t) 12 - y.toInt ∧ outW I0 (balI (uI I 93 (28 + i) (I 93 (28 + i) - y)) i 0 0 0) := by
  have hi2 := hL i hi
  have ev : (I 93 (28 + i) - y).toInt = (I 93 (28 + i)).toInt - y.toInt := i32_sub (by omega) (by omega)
  have he : (I 93 (28 + i)).toInt = y.toInt := by
    have z : ¬ (0 : Int32).toInt < (I 93 (28 + i) - y).toInt := fun z => h (Int32.lt_iff_toInt_lt.mpr z)
    rw [ev, i32_0] at z
    omega
  have lv : ∀ b, b < 12 → balI (uI I 93 (28 + i) (I 93 (28 + i) - y)) i 0 0 0 93 (28 + b) = if b = i then 0 else I 93 (28 + b) := by
    intro b hb
    unfold balI
    rw [uI_atC, uI_atC, uI_atC, uI_atC, uI_atC, if_neg (by omega), if_neg (by omega)]
    by_cases e : b = i
    · subst e
      rw [if_pos rfl, if_pos rfl]
    · rw [if_neg (by omega), if_neg (by omega), if_neg (by omega), if_neg e]
  refine ⟨fun b hb => ?_, ?_, ⟨fun p hp => ?_, fun k hk => ?_⟩⟩
  · rw [lv b hb]
    by_cases e : b = i
    · rw [if_pos e, i32_0]
      omega
    · rw [if_neg e]
      exact hL b hb
  · rw [sumN_one (f := lenF I t) (j := i) (fun b hb => ?_) 12 hi]
    · have e1 : lenF I t i = (I 93 (28 + i)).toInt := by
        unfold lenF
        rw [if_pos ⟨hi, hc⟩]
      have e2 : lenF (balI (uI I 93 (28 + i) (I 93 (28 + i) - y)) i 0 0 0) t i = 0 := by
        unfold lenF
        rw [lv i hi, if_pos rfl, i32_0]
        split <;> rfl
      rw [e1, e2]
      omega
    · unfold lenF
      by_cases h12 : b < 12
      · have eb : balI (uI I 93 (28 + i) (I 93 (28 + i) - y)) i 0 0 0 93 (52 + b) = I 93 (52 + b) := by
          unfold balI
          rw [uI_atC, uI_atC, uI_atC, uI_atC, uI_atC, if_neg (by omega), if_neg (by omega), if_neg (by omega), if_neg (by omega), if_neg (by omega)]
        rw [lv b h12, if_neg hb, eb]
      · rw [if_neg (fun z => h12 z.1), if_neg (fun z => h12 z.1)]
  · unfold balI
    rw [uI_ne hp, uI_ne hp, uI_ne hp, uI_ne hp, uI_ne hp]
    exact ho.1 p hp
  · unfold balI
    rw [uI_atC, uI_atC, uI_atC, uI_atC, uI_atC, if_neg (by omega), if_neg (by omega), if_neg (by omega), if_neg (by omega), if_neg (by omega)]
    exact ho.2 k hk
theorem sh_upd1 {I : XI} {y : Int32} {i : Nat} (hi : i < 12) (hL : lens I) (h1 : 0 ≤ y.toInt) (h2 : y.toInt ≤ 999) (g : 0 < I 93 (28 + i) - y) : lens (uI I 93 (28 + i) (I 93 (28 + i) - y)) ∧ outW I (uI I 93 (28 + i) (I 93 (28 + i) - y)) := by
  have hi2 := hL i hi
  have ev : (I 93 (28 + i) - y).toInt = (I 93 (28 + i)).toInt - y.toInt := i32_sub (by omega) (by omega)
  have g2 := Int32.lt_iff_toInt_lt.mp g
  rw [ev, i32_0] at g2
  refine ⟨fun b hb => ?_, ⟨fun p hp => uI_ne hp, fun k hk => ?_⟩⟩
  · rw [uI_atC]
    by_cases e : 28 + b = 28 + i
    · rw [if_pos e, ev]
      omega
    · rw [if_neg e]
      exact hL b hb
  · rw [uI_atC, if_neg (by omega)]
theorem sh_upd2 {I : XI} {y : Int32} {i : Nat} (hi : i < 12) (hL : lens I) (h1 : 0 ≤ y.toInt) (h2 : y.toInt ≤ 999) (g : ¬ 0 < I 93 (28 + i) - y) : lens (balI (uI I 93 (28 + i) (I 93 (28 + i) - y)) i 0 0 0) ∧ outW I (balI (uI I 93 (28 + i) (I 93 (28 + i) - y)) i 0 0 0) := by
  refine ⟨fun b hb => ?_, ⟨fun p hp => ?_, fun k hk => ?_⟩⟩
  · unfold balI
    rw [uI_atC, uI_atC, uI_atC, uI_atC, uI_atC, if_neg (by omega), if_neg (by omega)]
    by_cases e : 28 + b = 28 + i
    · rw [if_pos e, i32_0]
      omega
    · rw [if_neg e, if_neg (by omega), if_neg e]
      exact hL b hb
  · unfold balI
    rw [uI_ne hp, uI_ne hp, uI_ne hp, uI_ne hp, uI_ne hp]
  · unfold balI
    rw [uI_atC, uI_atC, uI_atC, uI_atC, uI_atC, if_neg (by omega), if_neg (by omega), if_neg (by omega), if_neg (by omega), if_neg (by omega)]
def usL (f t left : Int32) (o4 o5 : Option Value) : List (Option Value) := [some (.ref 67), some (.int f), some (.int t), some (.int left), o4, o5]
def pick (I : XI) (t : Int32) (k : Nat) (nx : Int32) : Prop := (nx = -1 ∧ ∀ b, b < k → ¬ (0 < I 93 (28 + b) ∧ (t = -1 ∨ I 93 (52 + b) = t))) ∨ ∃ i, nx = nI i ∧ i < k ∧ 0 < I 93 (28 + i) ∧ (t = -1 ∨ I 93 (52 + i) = t)
theorem pick_no {I : XI} {t nx : Int32} {k : Nat} (h : pick I t k nx) (hn : ¬ (0 < I 93 (28 + k) ∧ (t = -1 ∨ I 93 (52 + k) = t))) : pick I t (k + 1) nx := by
  rcases h with ⟨e, h⟩ | ⟨i, e, h1, h2⟩
  · refine Or.inl ⟨e, fun b hb => ?_⟩
    by_cases z : b = k
    · subst z
      exact hn
    · exact h b (by omega)
  · exact Or.inr ⟨i, e, by omega, h2⟩
set_option maxRecDepth 100000 in
set_option maxHeartbeats 1000000 in
theorem us_inner (l : Launch) (d : Nat) (f t left : Int32) (ru ta : Nat) (rs : List XO) (I0 I : XI) (J : XJ) (Rp : XR) (m : Nat) (hpos : 1 ≤ left.toInt) (hm : left.toInt ≤ m + 1) (hL : lens I) (hsum : left.toInt ≤ sumN (lenF I t) 12) (ho : outW I0 I) (hout : ∀ (n : Nat) (left' : Int32) (o4 o5 : Option Value) (I' : XI) (J' : XJ), left'.toInt ≤ m → 14 * m + 1 < n → lens I' → left'.toInt ≤ sumN (lenF I' t) 12 → outW I0 I' → xrun xxX12 none false false (shH ru ta rs).length 0 0 none l (d + 2) tX12_usesNow [2, 12] Rp n 2 (usL f t left' o4 o5) [] (shH ru ta rs) I' J' 0 0) : ∀ (j k n : Nat) (nx : Int32), k + j = 12 → 14 * m + 2 + j < n → pick I t k nx → xrun xxX12 none false false (shH ru ta rs).length 0 0 none l (d + 2) tX12_usesNow [2, 12] Rp n 12 (usL f t left (some (.int nx)) (some (.int (nI k)))) [] (shH ru ta rs) I J 0 0 := by
  intro j
  induction j with
  | zero =>
    intro k n nx hk hn hp
    obtain ⟨n, rfl⟩ : ∃ n', n = n' + 1 := ⟨n - 1, by omega⟩
    have hk : k = 12 := by omega
    subst hk
    rcases hp with ⟨_, hp⟩ | ⟨i, rfl, hi, hp1, hp2⟩
    · exfalso
      have := sumN_neg (f := lenF I t) 12 (fun b hb => by
        have y := hp b hb
        unfold lenF
        by_cases c : b < 12 ∧ (t = -1 ∨ I 93 (52 + b) = t)
        · rw [if_pos c]
          have z : ¬ (0 : Int32).toInt < (I 93 (28 + b)).toInt := fun z => y ⟨Int32.lt_iff_toInt_lt.mpr z, c.2⟩
          rw [i32_0] at z
          omega
        · rw [if_neg c]
          omega)
      omega
    · obtain ⟨e2, v2⟩ := nI_ix (c := 28) (b := i) (by omega)
      have hLi : 1 ≤ (I 93 (28 + i)).toInt := by
        have := Int32.lt_iff_toInt_lt.mp hp1
        rw [i32_0] at this
        omega
      have fin : ∀ (y : Int32) (I' : XI), 1 ≤ y.toInt → y.toInt ≤ left.toInt → lens I' → sumN (lenF I' t) 12 = sumN (lenF I t) 12 - y.toInt → outW I0 I' → ∀ (n : Nat), 14 * m + 1 < n → xrun xxX12 none false false (shH ru ta rs).length 0 0 none l (d + 2) tX12_usesNow [2, 12] Rp n 2 (usL f t (left - y) (some (.int (nI i))) (some (.int y))) [] (shH ru ta rs) I' J 0 0 := by
        intro y I' h1 h2 h3 h4 h5 n hn
        have ev : (left - y).toInt = left.toInt - y.toInt := by
          have := Int32.toInt_lt left
          exact i32_sub (by omega) (by omega)
        exact hout n (left - y) _ _ I' J (by omega) hn h3 (by omega) h5
      refine xrun_step fun K hK => ?_
      refine And.intro (fun _ => And.intro v2 ?_) (fun h => absurd (show (12 : Int32) ≤ nI 12 by decide) h)
      refine hm_least l (d + 1) left (I 93 (nI 28 + nI i).toNatClampNeg) _ _ _ _ (fun h => ?_) (fun h => ?_)
      · rw [e2] at h
        have hlt : left.toInt < (I 93 (28 + i)).toInt := by
          have z : ¬ (I 93 (28 + i)).toInt ≤ left.toInt := fun z => h (Int32.le_iff_toInt_le.mpr z)
          omega
        refine hm_shortens l d i hi left ru ta rs I J _ (fun g => ?_) (fun g => ?_)
        · obtain ⟨u1, u2, u3⟩ := us_upd1 (t := t) hi hL hp2 hpos g (by omega) ho
          exact hK 2 (usL f t (left - left) (some (.int (nI i))) (some (.int left))) [] (shH ru ta rs) _ J 0 0 (fin left _ hpos (Int.le_refl _) u1 u2 u3 n (by omega))
        · obtain ⟨u1, u2, u3⟩ := us_upd2 (t := t) hi hL hp2 hpos g (by omega) ho
          exact hK 2 (usL f t (left - left) (some (.int (nI i))) (some (.int left))) [] (shH ru ta rs) _ J 0 0 (fin left _ hpos (Int.le_refl _) u1 u2 u3 n (by omega))
      · rw [e2] at h
        have hle : (I 93 (28 + i)).toInt ≤ left.toInt := Int32.le_iff_toInt_le.mp h
        have go : ∀ y : Int32, y = I 93 (nI 28 + nI i).toNatClampNeg → y = I 93 (28 + i) := fun y z => by rw [z, e2]
        refine hm_shortens l d i hi (I 93 (nI 28 + nI i).toNatClampNeg) ru ta rs I J _ (fun g => ?_) (fun g => ?_)
        · rw [e2] at g
          obtain ⟨u1, u2, u3⟩ := us_upd1 (t := t) hi hL hp2 hLi g (Int.le_refl _) ho
          refine hK 2 (usL f t (left - I 93 (nI 28 + nI i).toNatClampNeg) (some (.int (nI i))) (some (.int (I 93 (nI 28 + nI i).toNatClampNeg)))) [] (shH ru ta rs) (uI I 93 (28 + i) (I 93 (28 + i) - I 93 (nI 28 + nI i).toNatClampNeg)) J 0 0 ?_
          rw [e2]
          exact fin _ _ hLi hle u1 u2 u3 n (by omega)
        · rw [e2] at g
          obtain ⟨u1, u2, u3⟩ := us_upd2 (t := t) hi hL hp2 hLi g (Int.le_refl _) ho
          refine hK 2 (usL f t (left - I 93 (nI 28 + nI i).toNatClampNeg) (some (.int (nI i))) (some (.int (I 93 (nI 28 + nI i).toNatClampNeg)))) [] (shH ru ta rs) (balI (uI I 93 (28 + i) (I 93 (28 + i) - I 93 (nI 28 + nI i).toNatClampNeg)) i 0 0 0) J 0 0 ?_
          rw [e2]
          exact fin _ _ hLi hle u1 u2 u3 n (by omega)
  | succ j ih =>
    intro k n nx hk hn hp
    obtain ⟨n, rfl⟩ : ∃ n', n = n' + 1 := ⟨n - 1, by omega⟩
    obtain ⟨e1, v1⟩ := nI_ix (c := 28) (b := k) (by omega)
    obtain ⟨e2, v2⟩ := nI_ix (c := 52) (b := k) (by omega)
    obtain ⟨e3, v3⟩ := nI_ix (c := 40) (b := k) (by omega)
    have next : ∀ (nx' : Int32), pick I t (k + 1) nx' → xrun xxX12 none false false (shH ru ta rs).length 0 0 none l (d + 2) tX12_usesNow [2, 12] Rp n 12 (usL f t left (some (.int nx')) (some (.int (nI k + 1)))) [] (shH ru ta rs) I J 0 0 := by
      intro nx' h
      rw [nI_1]
      exact ih (k + 1) n nx' (by omega) (by omega) h
    refine xrun_step fun K hK => ?_
    refine And.intro (fun h => absurd h (nI_ge (a := k) (b := 12) (by omega) (by omega))) (fun _ => And.intro v1 (And.intro (fun h => ?_) (fun h => ?_)))
    · replace h : I 93 (nI 28 + nI k).toNatClampNeg ≤ 0 := h
      rw [e1] at h
      exact hK 12 (usL f t left (some (.int nx)) (some (.int (nI k + 1)))) [] (shH ru ta rs) I J 0 0 (next nx (pick_no hp (fun z => absurd z.1 (Int32.not_lt.mpr h))))
    · replace h : ¬ I 93 (nI 28 + nI k).toNatClampNeg ≤ 0 := h
      rw [e1] at h
      have hlt := Int32.not_le.mp h
      have yes : (t = -1 ∨ I 93 (52 + k) = t) → pick I t (k + 1) (nI k) := fun c => Or.inr ⟨k, rfl, by omega, hlt, c⟩
      have keep : pick I t k nx → (∃ i, nx = nI i ∧ i < k) → pick I t (k + 1) nx := by
        intro hp hi
        obtain ⟨i0, e0, hi0⟩ := hi
        rcases hp with ⟨e, _⟩ | ⟨i, e, h1, h2⟩
        · exfalso
          rw [e0] at e
          have := congrArg Int32.toInt e
          rw [nI_toInt (by omega), show (-1 : Int32).toInt = -1 by decide] at this
          omega
        · exact Or.inr ⟨i, e, by omega, h2⟩
      -- what is compared with the one picked before
      have tail : (t = -1 ∨ I 93 (52 + k) = t) → ∀ (w : Prop), True := fun _ _ => trivial
      have more : (t = -1 ∨ I 93 (52 + k) = t) → ¬ nx = -1 → ∃ i, nx = nI i ∧ i < k := by
        intro _ hne
        rcases hp with ⟨e, _⟩ | ⟨i, e, h1, _⟩
        · exact absurd e hne
        · exact ⟨i, e, h1⟩
      have cmp : (t = -1 ∨ I 93 (52 + k) = t) → ¬ nx = -1 → (vp_in (nI 40 + nx) 69) := by
        intro c hne
        obtain ⟨i, e, hi⟩ := more c hne
        rw [e]
        exact (nI_ix (c := 40) (b := i) (by omega)).2
      have z1 : (t = -1 ∨ I 93 (52 + k) = t) → ¬ nx = -1 → pick I t (k + 1) nx := fun c hne => keep hp (more c hne)
      refine And.intro (fun ht => ?_) (fun ht => And.intro v2 (And.intro (fun hb => ?_) (fun hb => ?_)))
      · refine And.intro (fun hx => ?_) (fun hx => And.intro v3 (And.intro (cmp (Or.inl ht) hx) (And.intro (fun _ => ?_) (fun _ => ?_))))
        · exact hK 12 (usL f t left (some (.int (nI k))) (some (.int (nI k + 1)))) [] (shH ru ta rs) I J 0 0 (next _ (yes (Or.inl ht)))
        · exact hK 12 (usL f t left (some (.int nx)) (some (.int (nI k + 1)))) [] (shH ru ta rs) I J 0 0 (next nx (z1 (Or.inl ht) hx))
        · exact hK 12 (usL f t left (some (.int (nI k))) (some (.int (nI k + 1)))) [] (shH ru ta rs) I J 0 0 (next _ (yes (Or.inl ht)))
      · replace hb : ¬ I 93 (nI 52 + nI k).toNatClampNeg = t := hb
        rw [e2] at hb
        exact hK 12 (usL f t left (some (.int nx)) (some (.int (nI k + 1)))) [] (shH ru ta rs) I J 0 0 (next nx (pick_no hp (fun z => z.2.elim ht hb)))
      · replace hb : I 93 (nI 52 + nI k).toNatClampNeg = t := hb
        rw [e2] at hb
        refine And.intro (fun hx => ?_) (fun hx => And.intro v3 (And.intro (cmp (Or.inr hb) hx) (And.intro (fun _ => ?_) (fun _ => ?_))))
        · exact hK 12 (usL f t left (some (.int (nI k))) (some (.int (nI k + 1)))) [] (shH ru ta rs) I J 0 0 (next _ (yes (Or.inr hb)))
        · exact hK 12 (usL f t left (some (.int nx)) (some (.int (nI k + 1)))) [] (shH ru ta rs) I J 0 0 (next nx (z1 (Or.inr hb) hx))
        · exact hK 12 (usL f t left (some (.int (nI k))) (some (.int (nI k + 1)))) [] (shH ru ta rs) I J 0 0 (next _ (yes (Or.inr hb)))
set_option maxRecDepth 100000 in
theorem us_loop (l : Launch) (d : Nat) (f t : Int32) (ru ta : Nat) (rs : List XO) (I0 : XI) (Rp : XR) (hR : ∀ I' J', lens I' → outW I0 I' → Rp none (shH ru ta rs) I' J') : ∀ (m n : Nat) (left : Int32) (o4 o5 : Option Value) (I : XI) (J : XJ), left.toInt ≤ m → 14 * m + 1 < n → lens I → left.toInt ≤ sumN (lenF I t) 12 → outW I0 I → xrun xxX12 none false false (shH ru ta rs).length 0 0 none l (d + 2) tX12_usesNow [2, 12] Rp n 2 (usL f t left o4 o5) [] (shH ru ta rs) I J 0 0 := by
  intro m
  induction m with
  | zero =>
    intro n left o4 o5 I J hm hn hL hsum ho
    obtain ⟨n, rfl⟩ : ∃ n', n = n' + 1 := ⟨n - 1, by omega⟩
    refine xrun_step fun K hK => ?_
    exact And.intro (fun _ => hR I J hL ho) (fun h => absurd (Int32.le_iff_toInt_le.mpr (by rw [i32_0]; omega)) h)
  | succ m ih =>
    intro n left o4 o5 I J hm hn hL hsum ho
    obtain ⟨n, rfl⟩ : ∃ n', n = n' + 1 := ⟨n - 1, by omega⟩
    refine xrun_step fun K hK => ?_
    refine And.intro (fun _ => hR I J hL ho) (fun h => ?_)
    have hpos : 1 ≤ left.toInt := by
      have := Int32.lt_iff_toInt_lt.mp (Int32.not_le.mp h)
      rw [i32_0] at this
      omega
    exact hK 12 (usL f t left (some (.int (-1))) (some (.int (nI 0)))) [] (shH ru ta rs) I J 0 0 (us_inner l d f t left ru ta rs I0 I J Rp m hpos (by omega) hL hsum ho ih 12 0 n (-1) rfl (by omega) (Or.inl ⟨rfl, fun b hb => by omega⟩))
set_option maxRecDepth 100000 in
theorem hm_usesNow (l : Launch) (d : Nat) (f t : Int32) (ru ta : Nat) (rs : List XO) (I : XI) (J : XJ) (Rp : XR) (hL : lens I) (hsum : f.toInt ≤ sumN (lenF I t) 12) (hR : ∀ I' J', lens I' → outW I I' → Rp none (shH ru ta rs) I' J') : xm l (d + 3) 0 0 mX12_usesNow [.ref 67, .int f, .int t] (shH ru ta rs) I J Rp := by
  refine xm_ofK 30064771080 (X := xxX12) (t := tX12_usesNow) (stop := [2, 12]) (ini := false) xx12 pl12 rfl kX12_usesNow (fun h => by cases h) (Nat.le_of_ble_eq_true rfl) (fun K hK => ?_)
  exact hK 2 (usL f t f none none) [] (shH ru ta rs) I J 0 0 (us_loop l d f t ru ta rs I Rp hR 2147483648 30064771080 f none none I J (by have := Int32.toInt_lt f; omega) (by omega) hL hsum ⟨fun _ _ => rfl, fun _ _ => rfl⟩)
theorem lens_of {I : XI} (h : ivO CF [] I) : lens I := by
  intro b hb
  have e : ∀ b, b < 12 → cellI CF 93 (28 + b) = (0, 999) := by decide +kernel
  have y := h 93 (28 + b) rfl
  rw [e b hb] at y
  exact y
theorem cell_93 (k : Nat) (h : k < 28 ∨ 40 ≤ k) : cellI CF 93 k = fr := by
  unfold cellI
  split
  · rename_i q e
    exfalso
    have hm := List.mem_of_find?_eq_some e
    have hq := List.find?_some e
    simp only [Bool.and_eq_true] at hq
    have e1 := Nat.eq_of_beq_eq_true hq.1
    have e2 := Nat.eq_of_beq_eq_true hq.2
    have all : ∀ q, q ∈ CF.2.1 → q.1 = 93 → 28 ≤ q.2.1 ∧ q.2.1 < 40 := by decide +kernel
    have y := all q hm e1
    rw [e2, show nrm 93 k = k from rfl] at y
    omega
  · rfl
theorem iv_out {I I' : XI} (h : ivO CF [] I) (hL : lens I') (ho : outW I I') : ivO CF [] I' := by
  intro p k hn
  by_cases hp : p = 93
  · subst hp
    by_cases hk : k < 28 ∨ 40 ≤ k
    · rw [cell_93 k hk]
      exact inI_fr _
    · obtain ⟨b, rfl⟩ : ∃ b, k = 28 + b := ⟨k - 28, by omega⟩
      have e : ∀ b, b < 12 → cellI CF 93 (28 + b) = (0, 999) := by decide +kernel
      rw [e b (by omega)]
      exact hL b (by omega)
  · rw [ho.1 p hp]
    exact h p k hn
-- ===== rows of steps: a column's cell is copied to a cell of its column =====
theorem nrm_ge {k : Nat} (h : 130 ≤ k) : nrm 68 k = 60 + (k - 130) % 69 := by
  unfold nrm
  split
  · rfl
  · rename_i e
    have e2 : Nat.ble 130 k = false := e
    rw [Nat.ble_eq_true_of_le h] at e2
    cases e2
theorem nrm_lo {k : Nat} (h : k < 130) : nrm 68 k = k := by
  unfold nrm
  split
  · rename_i e
    have e2 : Nat.ble 130 k = true := e
    have := Nat.le_of_ble_eq_true e2
    omega
  · rfl
theorem cellI_J (C : AC) (p k : Nat) : cellI C p k = cellJ C p (nrm p k) := rfl
theorem cell_col {S k : Nat} (hk : k < 69) : cellI CF 68 (130 + 69 * S + k) = cellI CF 68 (60 + k) := by
  rw [cellI_J, cellI_J, nrm_ge (by omega), nrm_lo (by omega), show 60 + (130 + 69 * S + k - 130) % 69 = 60 + k by omega]
theorem cell_next {k : Nat} (hk : 130 ≤ k) : cellI CF 68 k = cellI CF 68 (k + 69) := by
  rw [cellI_J, cellI_J, nrm_ge hk, nrm_ge (by omega), show (k + 69 - 130) % 69 = (k - 130) % 69 by omega]
theorem ex2 {α : Type} {l : List α} {o : α} (h : xn l 1 = some o) : ∃ a0 a1 r, l = a0 :: a1 :: r := by
  match l, h with
  | a0 :: a1 :: r, _ => exact ⟨a0, a1, r, rfl⟩
  | [], h => cases h
  | [_], h => cases h
theorem ix_col {S k : Nat} (hS : S ≤ 29) (hk : k < 69) : ((nI 130 + nI 69 * nI S + nI k).toNatClampNeg = 130 + 69 * S + k) ∧ vp_in (nI 130 + nI 69 * nI S + nI k) 2200 := by
  have e : nI 69 * nI S = nI (69 * S) := (Int32.ofNat_mul 69 S).symm
  rw [e, nI_add, nI_add]
  exact ⟨nI_clamp (by omega), vp_in_nI (by omega) (by omega)⟩
theorem ix_row {k : Nat} (hk : k < 69) : ((nI 60 + nI k).toNatClampNeg = 60 + k) ∧ vp_in (nI 60 + nI k) 2200 := by
  rw [nI_add]
  exact ⟨nI_clamp (by omega), vp_in_nI (by omega) (by omega)⟩
theorem nI_mul (a b : Nat) : nI a * nI b = nI (a * b) := (Int32.ofNat_mul a b).symm
theorem iv_93f {I : XI} {k : Nat} {v : Int32} (h : ivO CF [] I) (hk : k < 28 ∨ 40 ≤ k) : ivO CF [] (uI I 93 k v) := by
  intro p j hn
  by_cases hp : p = 93
  · subst hp
    rw [uI_atC]
    by_cases hj : j = k
    · subst hj
      rw [if_pos rfl, cell_93 j hk]
      exact inI_fr _
    · rw [if_neg hj]
      exact h 93 j hn
  · rw [uI_ne hp]
    exact h p j hn
theorem fr_93 {ms : List Nat} (h : nmem 93 ms = true) {I0 I : XI} {k : Nat} {v : Int32} (hf : frO ms I0 I) : frO ms I0 (uI I 93 k v) := by
  intro p hp
  rw [uI_ne (fun e => by subst e; rw [h] at hp; cases hp)]
  exact hf p hp
theorem qp_of {ms : List Nat} (hm : (QPl.all fun p => !(nmem p ms)) = true) {I0 I : XI} (hq : QQ I0) (hf : frO ms I0 I) : QQ I := qq_ok I0 I (fun p hp => hf p (by
  have y := List.all_eq_true.mp hm p hp
  simpa using y)) hq
theorem fr_tr {ms ns : List Nat} (h : nsub ns ms = true) {I0 I I' : XI} (hf : frO ms I0 I) (hg : frO ns I I') : frO ms I0 I' := by
  intro p hp
  rw [hg p (by
    cases z : nmem p ns with
    | false => rfl
    | true =>
      rw [nmem_of (nsub_el h (nmem_el z))] at hp
      cases hp)]
  exact hf p hp
theorem fr_out {ms : List Nat} (h : nmem 93 ms = true) {I0 I I' : XI} (hf : frO ms I0 I) (hg : outW I I') : frO ms I0 I' := by
  intro p hp
  rw [hg.1 p (fun e => by subst e; rw [h] at hp; cases hp)]
  exact hf p hp
end
section
-- ===== hail of the reference ends, whatever it answers (parts that don't compare it) =====
theorem rem_to {p q : Int64} (hq : q ≠ 0) : (p - p / q * q).toInt = Int.tmod p.toInt q.toInt ∧ (Int.tmod p.toInt q.toInt).natAbs < q.toInt.natAbs := by
  have q0 : q.toInt ≠ 0 := fun z => hq (Int64.toInt_inj.mp z)
  have qa : 0 < q.toInt.natAbs := Int.natAbs_pos.mpr q0
  have lt : (Int.tmod p.toInt q.toInt).natAbs < q.toInt.natAbs := by
    rw [Int.natAbs_tmod]
    exact Nat.mod_lt _ qa
  have b1 := Int64.le_toInt q
  have b2 := Int64.toInt_lt q
  refine ⟨?_, lt⟩
  rw [Int64.toInt_sub, Int64.toInt_mul, Int64.toInt_div, Int.bmod_mul_bmod, Int.sub_bmod_bmod]
  have e : p.toInt - p.toInt.tdiv q.toInt * q.toInt = Int.tmod p.toInt q.toInt := by rw [Int.tmod_def, Int.mul_comm]
  rw [e]
  refine Int.bmod_eq_of_le_mul_two ?_ ?_
  · omega
  · omega
set_option maxRecDepth 100000 in
set_option maxHeartbeats 1000000 in
theorem hc_loop (l : Launch) (d : Nat) (x y : Int64) (sh : List XO) (I : XI) (J : XJ) (Rp : XR) (hR : ∀ g : Int64, g ≠ 0 → Rp (some (.long g)) sh I J) : ∀ (k : Nat) (p q : Int64) (o8 : Option Value), (o8 = none ∨ ∃ r : Int64, o8 = some (.long r)) → q.toInt.natAbs < k → p ≠ 0 → xrun xxX12 (some .long) false false sh.length 0 0 none l d tX12_common [6] Rp k 6 [some (.long x), none, some (.long y), none, some (.long p), none, some (.long q), none, o8, none] [] sh I J 0 0 := by
  intro k
  induction k with
  | zero => exact fun p q o8 _ h => absurd h (Nat.not_lt_zero _)
  | succ k ih =>
    intro p q o8 ho h hp
    refine xrun_step fun K hK => ?_
    refine And.intro (fun _ => ?_) (fun (z : ¬ lg_cmp q (Int64.ofNat 0) = 0) => ?_)
    · exact hR p hp
    · have q0 : ¬ q = 0 := lgn z
      obtain ⟨e, lt⟩ := rem_to (p := p) q0
      refine And.intro (show ¬ q = 0 from q0) ?_
      have nx := ih q (p - p / q * q) (some (.long (p - p / q * q))) (Or.inr ⟨_, rfl⟩) (by rw [e]; omega) q0
      rcases ho with rfl | ⟨r, rfl⟩
      · exact hK 6 [some (.long x), none, some (.long y), none, some (.long q), none, some (.long (p - p / q * q)), none, some (.long (p - p / q * q)), none] [] sh I J 0 0 nx
      · exact hK 6 [some (.long x), none, some (.long y), none, some (.long q), none, some (.long (p - p / q * q)), none, some (.long (p - p / q * q)), none] [] sh I J 0 0 nx
set_option maxRecDepth 100000 in
theorem hc_any (l : Launch) (d : Nat) (x y : Int64) (hx : x ≠ 0) (sh : List XO) (I : XI) (J : XJ) (Rp : XR) (hR : ∀ g : Int64, g ≠ 0 → Rp (some (.long g)) sh I J) : xm l (d + 1) 0 0 mX12_common [.long x, .long y] sh I J Rp := by
  refine xm_ofK (y.toInt.natAbs + 1) (X := xxX12) (t := tX12_common) (stop := [6]) (ini := false) xx12 pl12 rfl kX12_common (fun h => by cases h) (Nat.le_of_ble_eq_true rfl) (fun K hK => ?_)
  exact hK 6 [some (.long x), none, some (.long y), none, some (.long x), none, some (.long y), none, none, none] [] _ _ _ _ _ (hc_loop l d x y sh I J Rp hR _ x y none (Or.inl rfl) (by omega) hx)
theorem p10_n : ∀ i, i < 10 → ¬ Int64.ofNat (10 ^ i) = 0 := by decide +kernel
theorem p10_s : ∀ i, i < 10 → Int64.ofNat (10 ^ i) * 10 = Int64.ofNat (10 ^ (i + 1)) := by decide +kernel
theorem j_64 : ∀ j, j < 10 → ¬ (Int32.ofNat j + Int32.ofNat 1).toInt64 = 0 := by decide +kernel
abbrev hlz (l : Launch) (d : Nat) (sh : List XO) (I : XI) (J : XJ) (Rp : XR) (nn pc n : Nat) (k w : Int32) (s D : Int64) (t : List (Option Value)) : Prop := xrun xxX12 (some .int) false false sh.length 0 0 none l (d + 1) tX12_hail [31, 57, 70] Rp nn pc ([some (.ref 67), some (.int (Int32.ofNat n)), some (.int k), some (.int w), some (.long s), none, some (.long D), none] ++ t) [] sh I J 0 0
set_option maxRecDepth 100000 in
set_option maxHeartbeats 2000000 in
/-- the sum's loop -/
theorem hl_out (l : Launch) (d n : Nat) (n9 : n ≤ 9) (k w : Int32) (D : Int64) (hD : D ≠ 0) (sh : List XO) (I : XI) (J : XJ) (Rp : XR) (hR : ∀ r : Int32, Rp (some (.int r)) sh I J) : ∀ (m j nn : Nat) (s W : Int64) (o11 o13 : Option Value), (o11 = none ∧ o13 = none ∨ ∃ (a : Int64) (q : Int32), o11 = some (.long a) ∧ o13 = some (.int q)) → j + m = n + 1 → 12 * m < nn → hlz l d sh I J Rp nn 57 n k w s D [some (.long W), none, some (.int (Int32.ofNat j)), o11, none, o13] := by
  have c1 : ∀ {a b : Nat}, a < 100 → b < 100 → (Int32.ofNat a < Int32.ofNat b ↔ a < b) := fun {a b} ha hb => by
    rw [Int32.lt_iff_toInt_lt, Int32.toInt_ofNat_of_lt (by omega), Int32.toInt_ofNat_of_lt (by omega)]
    omega
  have c2 : ∀ {a b : Nat}, a < 100 → b < 100 → (Int32.ofNat a ≤ Int32.ofNat b ↔ a ≤ b) := fun {a b} ha hb => by
    rw [Int32.le_iff_toInt_le, Int32.toInt_ofNat_of_lt (by omega), Int32.toInt_ofNat_of_lt (by omega)]
    omega
  intro m
  induction m with
  | zero =>
    intro j nn s W o11 o13 ho hj hnn
    obtain ⟨nn, rfl⟩ : ∃ n', nn = n' + 1 := ⟨nn - 1, by omega⟩
    have gt : Int32.ofNat n < Int32.ofNat j := (c1 (by omega) (by omega)).mpr (by omega)
    have fin : ∀ (Rq : XR), (∀ g : Int64, g ≠ 0 → Rq (some (.long g)) sh I J) → xm l (d + 1) 0 0 mX12_common [.long D, .long s] sh I J Rq := fun Rq hq => hc_any l d D s hD sh I J Rq hq
    rcases ho with ⟨rfl, rfl⟩ | ⟨a, q, rfl, rfl⟩
    all_goals
      refine xrun_step fun K hK => ?_
      refine And.intro (fun _ => ?_) (fun z => absurd gt z)
      refine fin _ (fun g hg => ?_)
      refine And.intro (fun _ => ?_) (fun _ => ?_)
      · refine And.intro (show ¬ g = 0 from hg) ?_
        exact hR _
      · refine And.intro (show ¬ g = 0 from hg) ?_
        exact hR _
  | succ m ih =>
    intro j nn s W o11 o13 ho hj hnn
    obtain ⟨nn, rfl⟩ : ∃ n', nn = n' + 1 := ⟨nn - 1, by omega⟩
    have ngt : ¬ Int32.ofNat n < Int32.ofNat j := fun z => by
      have := (c1 (by omega) (by omega)).mp z
      omega
    have j0 := j_64 j (by omega)
    -- the part's loop
    have inn : ∀ (mm q nq : Nat) (a : Int64), q + mm = n → 12 * m + 1 + mm < nq → hlz l d sh I J Rp nq 70 n k w s D [some (.long W), none, some (.int (Int32.ofNat j)), some (.long a), none, some (.int (Int32.ofNat q))] := by
      intro mm
      induction mm with
      | zero =>
        intro q nq a hq hnq
        obtain ⟨nq, rfl⟩ : ∃ n', nq = n' + 1 := ⟨nq - 1, by omega⟩
        have hq : q = n := by omega
        subst hq
        have e1 : Int32.ofNat j + Int32.ofNat 1 = Int32.ofNat (j + 1) := (Int32.ofNat_add j 1).symm
        have nx : ∀ s' W' : Int64, hlz l d sh I J Rp nq 57 q k w s' D [some (.long W'), none, some (.int (Int32.ofNat j + Int32.ofNat 1)), some (.long a), none, some (.int (Int32.ofNat q))] := fun s' W' => by
          rw [e1]
          exact ih (j + 1) nq s' W' _ _ (Or.inr ⟨a, _, rfl, rfl⟩) (by omega) (by omega)
        refine xrun_step fun K hK => ?_
        refine And.intro (fun _ => ?_) (fun z => absurd (Int32.le_refl _) z)
        refine And.intro (fun _ => ?_) (fun _ => ?_)
        · refine And.intro (show ¬ (Int32.ofNat j + Int32.ofNat 1).toInt64 = 0 from j0) ?_
          exact hK 57 _ [] sh I J 0 0 (nx _ _)
        · refine And.intro (show ¬ (Int32.ofNat j + Int32.ofNat 1).toInt64 = 0 from j0) ?_
          exact hK 57 _ [] sh I J 0 0 (nx _ _)
      | succ mm ihm =>
        intro q nq a hq hnq
        obtain ⟨nq, rfl⟩ : ∃ n', nq = n' + 1 := ⟨nq - 1, by omega⟩
        have e1 : Int32.ofNat q + Int32.ofNat 1 = Int32.ofNat (q + 1) := (Int32.ofNat_add q 1).symm
        have nx : ∀ a' : Int64, hlz l d sh I J Rp nq 70 n k w s D [some (.long W), none, some (.int (Int32.ofNat j)), some (.long a'), none, some (.int (Int32.ofNat q + Int32.ofNat 1))] := fun a' => by
          rw [e1]
          exact ihm (q + 1) nq a' (by omega) (by omega)
        refine xrun_step fun K hK => ?_
        refine And.intro (fun z => absurd ((c2 (by omega) (by omega)).mp (show Int32.ofNat n ≤ Int32.ofNat q from z)) (by omega)) (fun _ => ?_)
        refine And.intro (fun _ => ?_) (fun _ => ?_)
        · exact hK 70 _ [] sh I J 0 0 (nx _)
        · exact hK 70 _ [] sh I J 0 0 (nx _)
    rcases ho with ⟨rfl, rfl⟩ | ⟨a, q, rfl, rfl⟩
    all_goals
      refine xrun_step fun K hK => ?_
      refine And.intro (fun z => absurd z ngt) (fun _ => ?_)
      exact hK 70 _ [] sh I J 0 0 (inn n 0 nn W (Nat.zero_add _) (by omega))
set_option maxRecDepth 100000 in
set_option maxHeartbeats 2000000 in
theorem hl_ten (l : Launch) (d n : Nat) (n9 : n ≤ 9) (k w : Int32) (sh : List XO) (I : XI) (J : XJ) (Rp : XR) (hR : ∀ r : Int32, Rp (some (.int r)) sh I J) : ∀ (m i nn : Nat), i + m = n → 200 + m < nn → hlz l d sh I J Rp nn 31 n k w (Int64.ofNat 0) (Int64.ofNat (10 ^ i)) [some (.int (Int32.ofNat i)), none, none, none, none, none] := by
  have c2 : ∀ {a b : Nat}, a < 100 → b < 100 → (Int32.ofNat a ≤ Int32.ofNat b ↔ a ≤ b) := fun {a b} ha hb => by
    rw [Int32.le_iff_toInt_le, Int32.toInt_ofNat_of_lt (by omega), Int32.toInt_ofNat_of_lt (by omega)]
    omega
  intro m
  induction m with
  | zero =>
    intro i nn hi hnn
    obtain ⟨nn, rfl⟩ : ∃ n', nn = n' + 1 := ⟨nn - 1, by omega⟩
    have hi : i = n := by omega
    subst hi
    refine xrun_step fun K hK => ?_
    refine And.intro (fun _ => ?_) (fun z => absurd (Int32.le_refl _) z)
    exact hK 57 _ [] sh I J 0 0 (hl_out l d i n9 k w _ (p10_n i (by omega)) sh I J Rp hR (i + 1) 0 nn (Int64.ofNat 0) (Int64.ofNat 1) none none (Or.inl ⟨rfl, rfl⟩) (by omega) (by omega))
  | succ m ih =>
    intro i nn hi hnn
    obtain ⟨nn, rfl⟩ : ∃ n', nn = n' + 1 := ⟨nn - 1, by omega⟩
    have e1 : Int32.ofNat i + Int32.ofNat 1 = Int32.ofNat (i + 1) := (Int32.ofNat_add i 1).symm
    have nx := ih (i + 1) nn (by omega) (by omega)
    rw [← e1, ← p10_s i (by omega)] at nx
    refine xrun_step fun K hK => ?_
    refine And.intro (fun z => absurd ((c2 (by omega) (by omega)).mp (show Int32.ofNat n ≤ Int32.ofNat i from z)) (by omega)) (fun _ => ?_)
    exact hK 31 _ [] sh I J 0 0 nx
set_option maxRecDepth 100000 in
set_option maxHeartbeats 1000000 in
theorem m_hail_any (l : Launch) (d : Nat) (n k w : Int32) (sh : List XO) (I : XI) (J : XJ) (Rp : XR) (hR : ∀ r : Int32, Rp (some (.int r)) sh I J) : xm l (d + 2) 0 0 mX12_hail [.ref 67, .int n, .int k, .int w] sh I J Rp := by
  refine xm_ofK 300 (X := xxX12) (t := tX12_hail) (stop := [31, 57, 70]) (ini := false) xx12 pl12 rfl kX12_hail (fun h => by cases h) (Nat.le_of_ble_eq_true rfl) (fun K hK => ?_)
  by_cases h1 : 1 ≤ n ∧ n ≤ 9
  · refine m_in_t l _ _ _ _ _ _ _ _ h1.1 h1.2 ?_
    refine And.intro (fun h => absurd h (show ¬ ((1 : Int32) = (0 : Int32)) by decide)) (fun _ => ?_)
    by_cases h2 : 0 ≤ k ∧ k ≤ 9
    · refine m_in_t l _ _ _ _ _ _ _ _ h2.1 h2.2 ?_
      refine And.intro (fun _ => ?_) (fun h => absurd h (show ¬ ((1 : Int32) = (0 : Int32)) by decide))
      have y1 := Int32.le_iff_toInt_le.mp h1.1
      have y2 := Int32.le_iff_toInt_le.mp h1.2
      rw [show (1 : Int32).toInt = 1 from rfl] at y1
      rw [show (9 : Int32).toInt = 9 from rfl] at y2
      have en : n = Int32.ofNat n.toInt.toNat := by
        apply Int32.toInt_inj.mp
        rw [Int32.toInt_ofNat_of_lt (by omega)]
        omega
      have z := hl_ten l d n.toInt.toNat (by omega) k w sh I J Rp hR n.toInt.toNat 0 300 (Nat.zero_add _) (by omega)
      unfold hlz at z
      rw [← en] at z
      exact hK 31 _ [] sh I J 0 0 z
    · refine m_in_f l _ _ _ _ _ _ _ _ h2 ?_
      refine And.intro (fun h => absurd (show ((0 : Int32) = (0 : Int32)) by decide) h) (fun _ => ?_)
      exact hR _
  · refine m_in_f l _ _ _ _ _ _ _ _ h1 ?_
    refine And.intro (fun _ => ?_) (fun h => absurd (show ((0 : Int32) = (0 : Int32)) by decide) h)
    exact hR _
end
