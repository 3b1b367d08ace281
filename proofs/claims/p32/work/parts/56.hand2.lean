-- ===== the laws of a text in the reference: orders, their worth =====
def saysL (f h k : Nat) (o : Option Value) : List (Option Value) := [some (.ref 67), some (.int (nI f)), some (.int (nI h)), some (.int (nI k)), o]
set_option maxRecDepth 100000 in
set_option maxHeartbeats 4000000 in
theorem hm_says_loop (l : Launch) (d f : Nat) (ru ta : Nat) (rs : List XO) (I : XI) (Rp : XR) (hR : ∀ (r : Int64) (J' : XJ), Rp (some (.long r)) (shH ru ta rs) I J') : ∀ (n k h : Nat) (o : Option Value) (J : XJ), h ≤ 200 → stW I n k h → xrun xxX12 (some .long) false false (shH ru ta rs).length 0 0 none l (d + 2) tX12_saysOf [4, 208] Rp (2 * n) 4 (saysL f h k o) [] (shH ru ta rs) I J 0 0 := by
  intro n
  induction n with
  | zero =>
    intro k h o J hh0 hs
    exact hs.elim
  | succ n ih =>
    intro k h o J hh0 hs
    obtain ⟨hk, hs⟩ := hs
    rw [show 2 * (n + 1) = 2 * n + 1 + 1 by omega]
    have ec : (nI k).toNatClampNeg = k := nI_clamp (by omega)
    have hv : vp_in (nI k) 1600 := vp_in_nI hk (by omega)
    -- behind one order
    have nxt : ∀ (h' : Nat) (o : Option Value) (J : XJ), h' ≤ 200 → stW I n (k + 1) h' → xrun xxX12 (some .long) false false (shH ru ta rs).length 0 0 none l (d + 2) tX12_saysOf [4, 208] Rp (2 * n + 1) 208 (saysL f h' k o) [] (shH ru ta rs) I J 0 0 := by
      intro h' o J hh' hs'
      refine xrun_step fun K hK => ?_
      refine hK 4 [some (.ref 67), some (.int (nI f)), some (.int (nI h')), some (.int (nI k + 1)), o] [] (shH ru ta rs) I J 0 0 ?_
      rw [nI_1]
      exact ih (k + 1) h' o J hh' hs'
    refine xrun_step fun K hK => ?_
    refine And.intro hv ?_
    rcases hs with ho | ⟨ho, hh, hs'⟩ | ⟨ho, hh, hs'⟩ | ⟨ho, hh, hs'⟩
    · have hc : I 77 (nI k).toNatClampNeg = 408 := by rw [ec, ho]
      refine And.intro (fun _ => ?_) (fun h => absurd hc h)
      exact And.intro (vp_b (by decide)) (hR _ _)
    · -- a number or a name
      have hw : vp_in (nI h) 200 := vp_in_nI hh (by omega)
      rcases ho with ho | ⟨ho, hn1, hn2⟩
      · have hc : I 77 (nI k).toNatClampNeg = 400 := by rw [ec, ho]
        refine And.intro (fun z => absurd (hc.symm.trans z) (by decide)) (fun _ => ?_)
        refine And.intro hv ?_
        refine And.intro (fun _ => ?_) (fun z => absurd hc z)
        refine And.intro (fun z => absurd hc z) (fun _ => ?_)
        refine And.intro hv (And.intro hw ?_)
        refine hK 208 [some (.ref 67), some (.int (nI f)), some (.int (nI h + 1)), some (.int (nI k)), some (.int _)] [] (shH ru ta rs) I _ 0 0 ?_
        rw [nI_1]
        exact nxt (h + 1) _ _ (by omega) hs'
      · have hc : I 77 (nI k).toNatClampNeg = 401 := by rw [ec, ho]
        have hn : vp_in (I 78 (nI k).toNatClampNeg) 11 := by
          rw [ec]
          exact vp_in_iff.mpr ⟨hn1, by omega⟩
        refine And.intro (fun z => absurd (hc.symm.trans z) (by decide)) (fun _ => ?_)
        refine And.intro hv ?_
        refine And.intro (fun z => absurd (hc.symm.trans z) (by decide)) (fun _ => ?_)
        refine And.intro (fun z => absurd hc z) (fun _ => ?_)
        refine And.intro (fun _ => ?_) (fun z => absurd (hc.symm.trans z) (by decide))
        refine And.intro hv (And.intro hn (And.intro hw ?_))
        refine hK 208 [some (.ref 67), some (.int (nI f)), some (.int (nI h + 1)), some (.int (nI k)), some (.int _)] [] (shH ru ta rs) I _ 0 0 ?_
        rw [nI_1]
        exact nxt (h + 1) _ _ (by omega) hs'
    · -- one number is changed
      have hw : vp_in (nI h - 1) 200 := by
        rw [nI_s1 hh]
        exact vp_in_nI (by omega) (by omega)
      rcases ho with ho | ho | ho
      · have hc : I 77 (nI k).toNatClampNeg = 402 := by rw [ec, ho]
        refine And.intro (fun z => absurd (hc.symm.trans z) (by decide)) (fun _ => ?_)
        refine And.intro hv ?_
        refine And.intro (fun z => absurd (hc.symm.trans z) (by decide)) (fun _ => ?_)
        refine And.intro (fun _ => ?_) (fun z => absurd (hc.symm.trans z) (by decide))
        refine And.intro (fun z => absurd hc z) (fun _ => ?_)
        refine And.intro hw (And.intro hw ?_)
        exact hK 208 (saysL f h k _) [] (shH ru ta rs) I _ 0 0 (nxt h _ _ hh0 hs')
      · have hc : I 77 (nI k).toNatClampNeg = 403 := by rw [ec, ho]
        refine And.intro (fun z => absurd (hc.symm.trans z) (by decide)) (fun _ => ?_)
        refine And.intro hv ?_
        refine And.intro (fun z => absurd (hc.symm.trans z) (by decide)) (fun _ => ?_)
        refine And.intro (fun _ => ?_) (fun z => absurd (hc.symm.trans z) (by decide))
        refine And.intro (fun _ => ?_) (fun z => absurd (hc.symm.trans z) (by decide))
        refine And.intro (fun z => absurd hc z) (fun _ => ?_)
        refine And.intro hw (And.intro hv (And.intro (show ¬ ((100 : Int64) = 0) by decide) (And.intro hw ?_)))
        exact hK 208 (saysL f h k _) [] (shH ru ta rs) I _ 0 0 (nxt h _ _ hh0 hs')
      · have hc : I 77 (nI k).toNatClampNeg = 405 := by rw [ec, ho]
        refine And.intro (fun z => absurd (hc.symm.trans z) (by decide)) (fun _ => ?_)
        refine And.intro hv ?_
        refine And.intro (fun z => absurd (hc.symm.trans z) (by decide)) (fun _ => ?_)
        refine And.intro (fun _ => ?_) (fun z => absurd (hc.symm.trans z) (by decide))
        refine And.intro (fun _ => ?_) (fun z => absurd (hc.symm.trans z) (by decide))
        refine And.intro (fun _ => ?_) (fun z => absurd (hc.symm.trans z) (by decide))
        refine And.intro (fun z => absurd hc z) (fun _ => ?_)
        refine And.intro hw (And.intro hw ?_)
        exact hK 208 (saysL f h k _) [] (shH ru ta rs) I _ 0 0 (nxt h _ _ hh0 hs')
    · -- two numbers become one
      have eo : I 77 (nI k).toNatClampNeg = I 77 k := by rw [ec]
      have e1 : nI h + (-1) = nI (h - 1) := nI_m1 (by omega)
      have hw1 : vp_in (nI h + (-1)) 200 := by
        rw [e1]
        exact vp_in_nI (by omega) (by omega)
      have hw2 : vp_in (nI h + (-1) - 1) 200 := by
        rw [e1, nI_s1 (by omega)]
        exact vp_in_nI (by omega) (by omega)
      refine And.intro (fun z => absurd (Or.inl (eo.symm.trans z)) ho) (fun _ => ?_)
      refine And.intro hv ?_
      refine And.intro (fun z => absurd (Or.inr (Or.inl (eo.symm.trans z))) ho) (fun _ => ?_)
      refine And.intro (fun _ => ?_) (fun z => absurd (Or.inr (Or.inr (Or.inl (eo.symm.trans z)))) ho)
      refine And.intro (fun _ => ?_) (fun z => absurd (Or.inr (Or.inr (Or.inr (Or.inl (eo.symm.trans z))))) ho)
      refine And.intro (fun _ => ?_) (fun z => absurd (Or.inr (Or.inr (Or.inr (Or.inr (Or.inl (eo.symm.trans z)))))) ho)
      refine And.intro (fun _ => ?_) (fun z => absurd (Or.inr (Or.inr (Or.inr (Or.inr (Or.inr (eo.symm.trans z)))))) ho)
      refine And.intro hw2 (And.intro hw1 ?_)
      refine hm_worked l d _ _ _ _ _ _ _ (fun r => ?_)
      refine And.intro hw2 ?_
      refine hK 208 [some (.ref 67), some (.int (nI f)), some (.int (nI h + (-1))), some (.int (nI k)), some (.int _)] [] (shH ru ta rs) I _ 0 0 ?_
      rw [e1]
      exact nxt (h - 1) _ _ (by omega) hs'
set_option maxRecDepth 100000 in
theorem hm_says (l : Launch) (d f : Nat) (ru ta : Nat) (rs : List XO) (I : XI) (J : XJ) (Rp : XR) (hs : stW I 1601 f 0) (hR : ∀ (r : Int64) (J' : XJ), Rp (some (.long r)) (shH ru ta rs) I J') : xm l (d + 3) 0 0 mX12_saysOf [.ref 67, .int (nI f)] (shH ru ta rs) I J Rp := by
  refine xm_ofK (2 * 1601) (X := xxX12) (t := tX12_saysOf) (stop := [4, 208]) (ini := false) xx12 pl12 rfl kX12_saysOf (fun h => by cases h) (Nat.le_of_ble_eq_true rfl) (fun K hK => ?_)
  exact hK 4 (saysL f 0 f none) [] _ _ _ _ _ (hm_says_loop l d f ru ta rs I Rp hR 1601 f 0 none J (by omega) hs)
/-- where the orders of law w begin, if THE TEXT has it -/
def foO (I : XI) (r : Int32) : Prop := r = -1 ∨ ∃ f : Nat, r = nI f ∧ stW I 1601 f 0
set_option maxRecDepth 100000 in
set_option maxHeartbeats 4000000 in
theorem hm_orders_loop (l : Launch) (d t N : Nat) (w : Int32) (hw : w.toInt ≤ 4) (ht : t < 4) (ru ta : Nat) (rs : List XO) (I : XI) (J : XJ) (Rp : XR) (h4 : I 68 4 = nI t) (hN : I 71 t = nI N) (hN2 : N ≤ 24) (hq : QQ I) (hR : ∀ r : Int32, foO I r → Rp (some (.int r)) (shH ru ta rs) I J) : ∀ (m k n : Nat) (r : Int32) (o : Option Value), N ≤ k + m → m < n → k ≤ 24 → foO I r → xrun xxX12 (some .int) false false (shH ru ta rs).length 0 0 none l d tX12_ordersOf [4, 64] Rp (2 * n) 4 [some (.ref 67), some (.int w), some (.int r), some (.int (nI k)), o] [] (shH ru ta rs) I J 0 0 := by
  have v4 : vp_in (I 68 4) 4 := vp_k (N := 4) h4 ht (by omega)
  have c4 : (I 68 4).toNatClampNeg = t := by rw [h4, nI_clamp (by omega)]
  have n4 : ¬ I 68 4 = -1 := by
    rw [h4]
    have : ∀ t, t < 4 → ¬ nI t = -1 := by decide
    exact this t ht
  intro m
  induction m with
  | zero =>
    intro k n r o hk hn h24 hr
    obtain ⟨n, rfl⟩ : ∃ n', n = n' + 1 := ⟨n - 1, by omega⟩
    rw [show 2 * (n + 1) = 2 * n + 1 + 1 by omega]
    refine xrun_step fun K hK => ?_
    refine And.intro (vp_b (by decide)) ?_
    refine And.intro (fun z => absurd z n4) (fun _ => ?_)
    refine And.intro (vp_b (by decide)) ?_
    refine And.intro v4 ?_
    refine And.intro (fun _ => hR _ hr) (fun z => absurd ?_ z)
    show I 71 (I 68 4).toNatClampNeg ≤ nI k
    rw [c4, hN]
    exact nI_le (by omega) (by omega)
  | succ m ih =>
    intro k n r o hk hn h24 hr
    obtain ⟨n, rfl⟩ : ∃ n', n = n' + 1 := ⟨n - 1, by omega⟩
    rw [show 2 * (n + 1) = 2 * n + 1 + 1 by omega]
    refine xrun_step fun K hK => ?_
    refine And.intro (vp_b (by decide)) ?_
    refine And.intro (fun z => absurd z n4) (fun _ => ?_)
    refine And.intro (vp_b (by decide)) ?_
    refine And.intro v4 ?_
    refine And.intro (fun _ => hR _ hr) (fun hlt => ?_)
    have hlt2 : k < N := by
      rcases Nat.lt_or_ge k N with z | z
      · exact z
      · exfalso
        refine hlt ?_
        show I 71 (I 68 4).toNatClampNeg ≤ nI k
        rw [c4, hN]
        exact nI_le (by omega) (by omega)
    have ei : nI 24 * I 68 4 + nI k = nI (24 * t + k) := by
      rw [h4, show nI 24 * nI t = nI (24 * t) from (Int32.ofNat_mul 24 t).symm, nI_add]
    have vi : vp_in (nI 24 * I 68 4 + nI k) 96 := vp_k (N := 96) ei (by omega) (by omega)
    have ci : (nI 24 * I 68 4 + nI k).toNatClampNeg = 24 * t + k := by rw [ei, nI_clamp (by omega)]
    have go : ∀ r', foO I r' → xrun xxX12 (some .int) false false (shH ru ta rs).length 0 0 none l d tX12_ordersOf [4, 64] Rp (2 * n + 1) 64 [some (.ref 67), some (.int w), some (.int r), some (.int (nI k)), some (.int (nI 24 * I 68 4 + nI k))] [.int r'] (shH ru ta rs) I J 0 0 := by
      intro r' hr'
      refine xrun_step fun K hK => ?_
      refine hK 4 [some (.ref 67), some (.int w), some (.int r'), some (.int (nI k + 1)), some (.int (nI 24 * I 68 4 + nI k))] [] (shH ru ta rs) I J 0 0 ?_
      rw [nI_1]
      exact ih (k + 1) n r' _ (by omega) (by omega) (by omega) hr'
    refine And.intro (vp_b (by decide)) ?_
    refine And.intro vi ?_
    refine And.intro (fun _ => hK _ _ _ _ _ _ _ _ (go r hr)) (fun he => ?_)
    refine And.intro vi ?_
    refine hK _ _ _ _ _ _ _ _ (go _ ?_)
    have he2 : I 72 (24 * t + k) = w := by
      rw [← ci]
      exact he
    obtain ⟨f, hf, _, hs0⟩ := hq t k ht (by rw [hN, nI_toInt (by omega)]; omega) (by rw [he2]; exact hw)
    have hs := stL_W (by omega) _ _ _ hs0
    refine Or.inr ⟨f, ?_, hs⟩
    show I 73 (nI 24 * I 68 4 + nI k).toNatClampNeg = nI f
    rw [ci]
    apply Int32.toInt_inj.mp
    have hl := Int32.toInt_lt (I 73 (24 * t + k))
    rw [nI_toInt (by omega), hf]
set_option maxRecDepth 100000 in
theorem hm_orders (l : Launch) (d : Nat) (w : Int32) (hw : w.toInt ≤ 4) (ru ta : Nat) (rs : List XO) (I : XI) (J : XJ) (Rp : XR) (hi : ivO CF [] I) (hq : QQ I) (hR : ∀ r : Int32, foO I r → Rp (some (.int r)) (shH ru ta rs) I J) : xm l (d + 1) 0 0 mX12_ordersOf [.ref 67, .int w] (shH ru ta rs) I J Rp := by
  refine xm_ofK 52 (X := xxX12) (t := tX12_ordersOf) (stop := [4, 64]) (ini := false) xx12 pl12 rfl kX12_ordersOf (fun h => by cases h) (Nat.le_of_ble_eq_true rfl) (fun K hK => ?_)
  have h4 : inI (-1, 3) (I 68 4).toInt := hi 68 4 rfl
  by_cases hn : I 68 4 = -1
  · refine hK 4 [some (.ref 67), some (.int w), some (.int (-1)), some (.int (nI 0)), none] [] _ _ _ _ _ ?_
    refine xrun_step fun K hK => ?_
    refine And.intro (vp_b (by decide)) ?_
    exact And.intro (fun _ => hR _ (Or.inl rfl)) (fun z => absurd hn z)
  · have h5 : inI (0, 3) (I 68 4).toInt := by
      refine ⟨?_, h4.2⟩
      have h1 := h4.1
      dsimp only at h1 ⊢
      have : ¬ (I 68 4).toInt = -1 := fun z => hn (Int32.toInt_inj.mp z)
      omega
    obtain ⟨t, e4, t1, t2, _⟩ := nI_inI h5 (by omega)
    have hc : inI (0, 24) (I 71 t).toInt := by
      have z := hi 71 t rfl
      have e : ∀ t, t < 4 → cellI CF 71 t = (0, 24) := by decide +kernel
      rw [e t (by omega)] at z
      exact z
    obtain ⟨N, eN, n1, n2, _⟩ := nI_inI hc (by omega)
    exact hK 4 [some (.ref 67), some (.int w), some (.int (-1)), some (.int (nI 0)), none] [] _ _ _ _ _ (hm_orders_loop l d t N w hw (by omega) ru ta rs I J Rp e4 eN (by omega) hq hR 25 0 26 (-1) none (by omega) (by omega) (by omega) (Or.inl rfl))

