theorem lI_now : ∀ k, k < 12 → lI 27 (28 + k) = 0 := by decide +kernel
theorem lI_row : ∀ k, k < 12 → lI 68 (88 + k) = 0 := by decide +kernel
set_option maxRecDepth 100000 in
set_option maxHeartbeats 4000000 in
theorem law_c3 (l : Launch) (xs : Nat → Int32) (n : Nat) : lrun l 6 xs (n + 2) 285 lloc [] shXM lI jM 99 18232 := by
  refine xrun_step fun K hK => ?_
  refine And.intro (show vp_in (1 : Int32) 6 from vp_b (by decide)) ?_
  refine And.intro (show vp_in (2 : Int32) 6 from vp_b (by decide)) ?_
  refine And.intro (show vp_in (3 : Int32) 6 from vp_b (by decide)) ?_
  refine xm_of (X := xxX11) (t := tX11_cut) (stop := []) (n := 1) (ini := false) xx11 pl11 rfl kX11_cut (fun h => by cases h) (Nat.le_of_ble_eq_true rfl) ?_
  refine xm_of (X := xxX6) (t := tX6_note) (stop := []) (n := 1) (ini := false) xx6 pl6 rfl kX6_note (fun h => by cases h) (Nat.le_of_ble_eq_true rfl) ?_
  refine xm_of (X := xxX6) (t := tX6_placeOf) (stop := []) (n := 1) (ini := false) xx6 pl6 rfl kX6_placeOf (fun h => by cases h) (Nat.le_of_ble_eq_true rfl) ?_
  refine And.intro (show ¬ ((31 : Int32) = 0) by decide) ?_
  refine And.intro (fun h => absurd (show (69 : Int32) = (69 : Int32) by decide) h) (fun _ => ?_)
  refine And.intro (fun h => absurd h (show ¬ ((0 : Int32) < (0 : Int32)) by decide)) (fun _ => ?_)
  refine And.intro (fun h => absurd h (show ¬ ((2139 : Int32) < (69 : Int32)) by decide)) (fun _ => ?_)
  refine And.intro (show ¬ ((0 : Int32) < 0) ∧ ¬ ((0 : Int32) < 0) ∧ ¬ ((69 : Int32) < 0) ∧ (0 : Int32).toNatClampNeg + (69 : Int32).toNatClampNeg ≤ 69 ∧ (0 : Int32).toNatClampNeg + (69 : Int32).toNatClampNeg ≤ 2139 by decide) ?_
  refine xm_of (X := xxX10) (t := tX10_cutOff) (stop := []) (n := 1) (ini := false) xx10 pl10 rfl kX10_cutOff (fun h => by cases h) (Nat.le_of_ble_eq_true rfl) ?_
  refine xm_of (X := xxX10) (t := tX10_cutLength) (stop := []) (n := 1) (ini := false) xx10 pl10 rfl kX10_cutLength (fun h => by cases h) (Nat.le_of_ble_eq_true rfl) ?_
  refine c_hasThing_0 l _ _ _ _ _ _ _ rfl ?_
  refine And.intro (fun _ => ?_) (fun h => absurd (show (0 : Int32) = (0 : Int32) by decide) h)
  refine xm_of (X := xxX10) (t := tX10_shadowOf) (stop := []) (n := 1) (ini := false) xx10 pl10 rfl kX10_shadowOf (fun h => by cases h) (Nat.le_of_ble_eq_true rfl) ?_
  refine c_hasThing_0 l _ _ _ _ _ _ _ rfl ?_
  refine And.intro (fun _ => ?_) (fun h => absurd (show (0 : Int32) = (0 : Int32) by decide) h)
  refine And.intro (fun _ => ?_) (fun h => absurd (show (0 : Int32) ≤ (0 : Int32) by decide) h)
  refine And.intro (fun _ => ?_) (fun h => absurd (show (-1 : Int32) = (-1 : Int32) by decide) h)
  refine And.intro (show vp_in (1 : Int32) 6 from vp_b (by decide)) ?_
  refine And.intro (show vp_in (2 : Int32) 6 from vp_b (by decide)) ?_
  refine And.intro (show vp_in (3 : Int32) 6 from vp_b (by decide)) ?_
  refine xm_of (X := xxX12) (t := tX12_cut) (stop := []) (n := 1) (ini := false) xx12 pl12 rfl kX12_cut (fun h => by cases h) (Nat.le_of_ble_eq_true rfl) ?_
  refine xm_of (X := xxX12) (t := tX12_isThing) (stop := []) (n := 1) (ini := false) xx12 pl12 rfl kX12_isThing (fun h => by cases h) (Nat.le_of_ble_eq_true rfl) ?_
  refine And.intro (show vp_in (0 : Int32) 2200 from vp_b (by decide)) ?_
  refine m_in_f l _ _ _ _ _ _ _ _ (no_neg (show _ = (-1 : Int32) from rfl)) ?_
  refine And.intro (Or.inl rfl) ?_
  refine And.intro (fun _ => ?_) (fun h => absurd (show (0 : Int32) = (0 : Int32) by decide) h)
  refine And.intro (fun _ => ?_) (fun h => absurd (show (-1 : Int32) = (-1 : Int32) by decide) h)
  exact hK _ _ _ _ _ _ _ _ (law_next l xs n _ _ _ 99 18232 (Nat.le_of_ble_eq_true rfl) (Nat.le_of_ble_eq_true rfl))
set_option maxRecDepth 100000 in
set_option maxHeartbeats 4000000 in
theorem law_c5 (l : Launch) (xs : Nat → Int32) (n : Nat) : lrun l 6 xs (n + 2) 361 lloc [] shXM lI jM 99 18232 := by
  refine xrun_step fun K hK => ?_
  by_cases h1 : (1 : Int32) ≤ xs 1 ∧ xs 1 ≤ (999 : Int32)
  · skip
    refine And.intro (show vp_in (1 : Int32) 6 from vp_b (by decide)) ?_
    refine And.intro (show vp_in (2 : Int32) 6 from vp_b (by decide)) ?_
    refine xm_of (X := xxX11) (t := tX11_use) (stop := []) (n := 1) (ini := false) xx11 pl11 rfl kX11_use (fun h => by cases h) (Nat.le_of_ble_eq_true rfl) ?_
    refine c_within_t l _ _ _ _ _ _ _ _ h1.1 h1.2 ?_
    refine And.intro (fun h => absurd h (show ¬ ((1 : Int32) = (0 : Int32)) by decide)) (fun _ => ?_)
    refine c_hasBarn_0 l _ _ _ _ _ _ _ rfl ?_
    refine And.intro (fun h => absurd (show (0 : Int32) = (0 : Int32) by decide) h) (fun _ => ?_)
    refine And.intro (show vp_in (1 : Int32) 6 from vp_b (by decide)) ?_
    refine And.intro (show vp_in (2 : Int32) 6 from vp_b (by decide)) ?_
    refine xm_of (X := xxX12) (t := tX12_use) (stop := []) (n := 1) (ini := false) xx12 pl12 rfl kX12_use (fun h => by cases h) (Nat.le_of_ble_eq_true rfl) ?_
    refine m_in_t l _ _ _ _ _ _ _ _ h1.1 h1.2 ?_
    refine And.intro (fun h => absurd h (show ¬ ((1 : Int32) = (0 : Int32)) by decide)) (fun _ => ?_)
    refine xm_of (X := xxX12) (t := tX12_isBarn) (stop := []) (n := 1) (ini := false) xx12 pl12 rfl kX12_isBarn (fun h => by cases h) (Nat.le_of_ble_eq_true rfl) ?_
    refine And.intro (show vp_in (2 : Int32) 2200 from vp_b (by decide)) ?_
    refine m_in_f l _ _ _ _ _ _ _ _ (no_neg (show _ = (-1 : Int32) from rfl)) ?_
    refine And.intro (Or.inl rfl) ?_
    refine And.intro (fun h => absurd (show (0 : Int32) = (0 : Int32) by decide) h) (fun _ => ?_)
    refine And.intro (fun _ => ?_) (fun h => absurd (show (-1 : Int32) = (-1 : Int32) by decide) h)
    exact hK _ _ _ _ _ _ _ _ (law_next l xs n _ _ _ 99 18232 (Nat.le_of_ble_eq_true rfl) (Nat.le_of_ble_eq_true rfl))
  · skip
    refine And.intro (show vp_in (1 : Int32) 6 from vp_b (by decide)) ?_
    refine And.intro (show vp_in (2 : Int32) 6 from vp_b (by decide)) ?_
    refine xm_of (X := xxX11) (t := tX11_use) (stop := []) (n := 1) (ini := false) xx11 pl11 rfl kX11_use (fun h => by cases h) (Nat.le_of_ble_eq_true rfl) ?_
    refine c_within_f l _ _ _ _ _ _ _ _ h1 ?_
    refine And.intro (fun _ => ?_) (fun h => absurd (show (0 : Int32) = (0 : Int32) by decide) h)
    refine And.intro (show vp_in (1 : Int32) 6 from vp_b (by decide)) ?_
    refine And.intro (show vp_in (2 : Int32) 6 from vp_b (by decide)) ?_
    refine xm_of (X := xxX12) (t := tX12_use) (stop := []) (n := 1) (ini := false) xx12 pl12 rfl kX12_use (fun h => by cases h) (Nat.le_of_ble_eq_true rfl) ?_
    refine m_in_f l _ _ _ _ _ _ _ _ h1 ?_
    refine And.intro (fun _ => ?_) (fun h => absurd (show (0 : Int32) = (0 : Int32) by decide) h)
    refine And.intro (fun _ => ?_) (fun h => absurd (show (-1 : Int32) = (-1 : Int32) by decide) h)
    exact hK _ _ _ _ _ _ _ _ (law_next l xs n _ _ _ 99 18232 (Nat.le_of_ble_eq_true rfl) (Nat.le_of_ble_eq_true rfl))
set_option maxRecDepth 100000 in
set_option maxHeartbeats 4000000 in
theorem law_c11 (l : Launch) (xs : Nat → Int32) (n : Nat) : lrun l 6 xs (n + 2) 569 lloc [] shXM lI jM 99 18232 := by
  refine xrun_step fun K hK => ?_
  by_cases h1 : (0 : Int32) ≤ xs 1 ∧ xs 1 ≤ (0 : Int32)
  · skip
    refine And.intro (show vp_in (1 : Int32) 6 from vp_b (by decide)) ?_
    refine xm_of (X := xxX11) (t := tX11_end) (stop := []) (n := 1) (ini := false) xx11 pl11 rfl kX11_end (fun h => by cases h) (Nat.le_of_ble_eq_true rfl) ?_
    refine c_within_t l _ _ _ _ _ _ _ _ h1.1 h1.2 ?_
    refine And.intro (fun _ => ?_) (fun h => absurd h (show ¬ ((1 : Int32) = (0 : Int32)) by decide))
    refine And.intro (show vp_in (1 : Int32) 6 from vp_b (by decide)) ?_
    refine xm_of (X := xxX12) (t := tX12_end) (stop := []) (n := 1) (ini := false) xx12 pl12 rfl kX12_end (fun h => by cases h) (Nat.le_of_ble_eq_true rfl) ?_
    refine m_in_t l _ _ _ _ _ _ _ _ h1.1 h1.2 ?_
    refine And.intro (fun _ => ?_) (fun h => absurd h (show ¬ ((1 : Int32) = (0 : Int32)) by decide))
    refine And.intro (fun _ => ?_) (fun h => absurd rfl h)
    exact hK _ _ _ _ _ _ _ _ (law_next l xs n _ _ _ 99 18232 (Nat.le_of_ble_eq_true rfl) (Nat.le_of_ble_eq_true rfl))
  · skip
    refine And.intro (show vp_in (1 : Int32) 6 from vp_b (by decide)) ?_
    refine xm_of (X := xxX11) (t := tX11_end) (stop := []) (n := 1) (ini := false) xx11 pl11 rfl kX11_end (fun h => by cases h) (Nat.le_of_ble_eq_true rfl) ?_
    refine c_within_f l _ _ _ _ _ _ _ _ h1 ?_
    refine And.intro (fun h => absurd (show (0 : Int32) = (0 : Int32) by decide) h) (fun _ => ?_)
    refine And.intro (show vp_in (1 : Int32) 6 from vp_b (by decide)) ?_
    refine xm_of (X := xxX12) (t := tX12_end) (stop := []) (n := 1) (ini := false) xx12 pl12 rfl kX12_end (fun h => by cases h) (Nat.le_of_ble_eq_true rfl) ?_
    refine m_in_f l _ _ _ _ _ _ _ _ h1 ?_
    refine And.intro (fun h => absurd (show (0 : Int32) = (0 : Int32) by decide) h) (fun _ => ?_)
    refine And.intro (fun _ => ?_) (fun h => absurd (show (-1 : Int32) = (-1 : Int32) by decide) h)
    exact hK _ _ _ _ _ _ _ _ (law_next l xs n _ _ _ 99 18232 (Nat.le_of_ble_eq_true rfl) (Nat.le_of_ble_eq_true rfl))
set_option maxRecDepth 100000 in
set_option maxHeartbeats 4000000 in
theorem law_c19 (l : Launch) (xs : Nat → Int32) (n : Nat) : lrun l 6 xs (n + 2) 753 lloc [] shXM lI jM 99 18232 := by
  refine xrun_step fun K hK => ?_
  refine And.intro (show vp_in (1 : Int32) 6 from vp_b (by decide)) ?_
  refine And.intro (show vp_in (2 : Int32) 6 from vp_b (by decide)) ?_
  refine xm_of (X := xxX11) (t := tX11_bale) (stop := []) (n := 1) (ini := false) xx11 pl11 rfl kX11_bale (fun h => by cases h) (Nat.le_of_ble_eq_true rfl) ?_
  refine c_hasBale_0_26 l _ _ _ _ _ _ _ lI_now ?_
  refine And.intro (fun h => absurd (show (0 : Int32) = (0 : Int32) by decide) h) (fun _ => ?_)
  refine And.intro (show vp_in (1 : Int32) 6 from vp_b (by decide)) ?_
  refine And.intro (show vp_in (2 : Int32) 6 from vp_b (by decide)) ?_
  refine xm_of (X := xxX12) (t := tX12_bale) (stop := []) (n := 1) (ini := false) xx12 pl12 rfl kX12_bale (fun h => by cases h) (Nat.le_of_ble_eq_true rfl) ?_
  refine m_isBale_0 l _ _ _ _ _ _ _ lI_row ?_
  refine And.intro (fun h => absurd (show (0 : Int32) = (0 : Int32) by decide) h) (fun _ => ?_)
  refine And.intro (fun _ => ?_) (fun h => absurd (show (-1 : Int32) = (-1 : Int32) by decide) h)
  exact hK _ _ _ _ _ _ _ _ (law_next l xs n _ _ _ 99 18232 (Nat.le_of_ble_eq_true rfl) (Nat.le_of_ble_eq_true rfl))
