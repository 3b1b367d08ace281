theorem lI_now : ∀ k, k < 12 → lI 27 (28 + k) = 0 := by decide +kernel
theorem lI_row : ∀ k, k < 12 → lI 68 (88 + k) = 0 := by decide +kernel
set_option maxRecDepth 100000 in
set_option maxHeartbeats 4000000 in
theorem law_c0 (l : Launch) (xs : Nat → Int32) (n : Nat) : lrun l 6 xs (n + 2) 196 lloc [] shXM lI jM 99 18232 := by
  refine xrun_step fun K hK => ?_
  by_cases h1 : (1 : Int32) ≤ xs 1 ∧ xs 1 ≤ (99 : Int32)
  · skip
    by_cases h2 : (0 : Int32) ≤ xs 2 ∧ xs 2 ≤ (5 : Int32)
    · skip
      by_cases h3 : (0 : Int32) ≤ xs 3 ∧ xs 3 ≤ (4 : Int32)
      · skip
        refine And.intro (show vp_in ((0 : Int32) + (1 : Int32)) 6 from vp_b (by decide)) ?_
        refine And.intro (show vp_in ((0 : Int32) + (2 : Int32)) 6 from vp_b (by decide)) ?_
        refine And.intro (show vp_in ((0 : Int32) + (3 : Int32)) 6 from vp_b (by decide)) ?_
        refine xm_of (X := xxX11) (t := tX11_thing) (stop := []) (n := 1) (ini := false) xx11 pl11 rfl kX11_thing (fun h => by cases h) (Nat.le_of_ble_eq_true rfl) ?_
        refine c_within_t l _ _ _ _ _ _ _ _ h1.1 h1.2 ?_
        refine And.intro (fun h => absurd h (show ¬ ((1 : Int32) = (0 : Int32)) by decide)) (fun _ => ?_)
        refine c_within_t l _ _ _ _ _ _ _ _ h2.1 h2.2 ?_
        refine And.intro (fun h => absurd h (show ¬ ((1 : Int32) = (0 : Int32)) by decide)) (fun _ => ?_)
        refine c_within_t l _ _ _ _ _ _ _ _ h3.1 h3.2 ?_
        refine And.intro (fun _ => ?_) (fun h => absurd h (show ¬ ((1 : Int32) = (0 : Int32)) by decide))
        refine xm_of (X := xxX9) (t := tX9_addThing) (stop := []) (n := 1) (ini := false) xx9 pl9 rfl kX9_addThing (fun h => by cases h) (Nat.le_of_ble_eq_true rfl) ?_
        refine And.intro (fun _ => ?_) (fun h => absurd (show (0 : Int32) < (8 : Int32) by decide) h)
        refine And.intro (show vp_in (0 : Int32) 8 from vp_b (by decide)) ?_
        refine And.intro (show vp_in (0 : Int32) 8 from vp_b (by decide)) ?_
        refine And.intro (show vp_in (0 : Int32) 8 from vp_b (by decide)) ?_
        refine And.intro (show vp_in ((0 : Int32) + (1 : Int32)) 6 from vp_b (by decide)) ?_
        refine And.intro (show vp_in ((0 : Int32) + (2 : Int32)) 6 from vp_b (by decide)) ?_
        refine And.intro (show vp_in ((0 : Int32) + (3 : Int32)) 6 from vp_b (by decide)) ?_
        refine xm_of (X := xxX12) (t := tX12_thing) (stop := []) (n := 1) (ini := false) xx12 pl12 rfl kX12_thing (fun h => by cases h) (Nat.le_of_ble_eq_true rfl) ?_
        refine And.intro (show vp_in (0 : Int32) 2200 from vp_b (by decide)) ?_
        refine m_in_t l _ _ _ _ _ _ _ _ h1.1 h1.2 ?_
        refine And.intro (fun h => absurd h (show ¬ ((1 : Int32) = (0 : Int32)) by decide)) (fun _ => ?_)
        refine m_in_t l _ _ _ _ _ _ _ _ h2.1 h2.2 ?_
        refine And.intro (fun h => absurd h (show ¬ ((1 : Int32) = (0 : Int32)) by decide)) (fun _ => ?_)
        refine m_in_t l _ _ _ _ _ _ _ _ h3.1 h3.2 ?_
        refine And.intro (fun h => absurd h (show ¬ ((1 : Int32) = (0 : Int32)) by decide)) (fun _ => ?_)
        refine And.intro (fun _ => ?_) (fun h => absurd h (show ¬ ((0 : Int32) = (8 : Int32)) by decide))
        refine And.intro (show vp_in ((10 : Int32) + (0 : Int32)) 2200 from vp_b (by decide)) ?_
        refine And.intro (show vp_in ((18 : Int32) + (0 : Int32)) 2200 from vp_b (by decide)) ?_
        refine And.intro (show vp_in ((26 : Int32) + (0 : Int32)) 2200 from vp_b (by decide)) ?_
        refine And.intro (show vp_in ((60 : Int32) + (0 : Int32)) 2200 from vp_b (by decide)) ?_
        refine And.intro (show vp_in (5 : Int32) 2200 from vp_b (by decide)) ?_
        refine And.intro (fun _ => ?_) (fun h => absurd (show (0 : Int32) ≤ (0 : Int32) by decide) h)
        refine And.intro (show vp_in (0 : Int32) 2200 from vp_b (by decide)) ?_
        refine And.intro (show vp_in (0 : Int32) 2200 from vp_b (by decide)) ?_
        refine And.intro (fun _ => ?_) (fun h => absurd (show (((0 : Int32) + (1 : Int32)) - (1 : Int32)) = (0 : Int32) by decide) h)
        exact hK _ _ _ _ _ _ _ _ (law_next l xs n _ _ _ 99 18232 (Nat.le_of_ble_eq_true rfl) (Nat.le_of_ble_eq_true rfl))
      · skip
        refine And.intro (show vp_in ((0 : Int32) + (1 : Int32)) 6 from vp_b (by decide)) ?_
        refine And.intro (show vp_in ((0 : Int32) + (2 : Int32)) 6 from vp_b (by decide)) ?_
        refine And.intro (show vp_in ((0 : Int32) + (3 : Int32)) 6 from vp_b (by decide)) ?_
        refine xm_of (X := xxX11) (t := tX11_thing) (stop := []) (n := 1) (ini := false) xx11 pl11 rfl kX11_thing (fun h => by cases h) (Nat.le_of_ble_eq_true rfl) ?_
        refine c_within_t l _ _ _ _ _ _ _ _ h1.1 h1.2 ?_
        refine And.intro (fun h => absurd h (show ¬ ((1 : Int32) = (0 : Int32)) by decide)) (fun _ => ?_)
        refine c_within_t l _ _ _ _ _ _ _ _ h2.1 h2.2 ?_
        refine And.intro (fun h => absurd h (show ¬ ((1 : Int32) = (0 : Int32)) by decide)) (fun _ => ?_)
        refine c_within_f l _ _ _ _ _ _ _ _ h3 ?_
        refine And.intro (fun h => absurd (show (0 : Int32) = (0 : Int32) by decide) h) (fun _ => ?_)
        refine And.intro (show vp_in ((0 : Int32) + (1 : Int32)) 6 from vp_b (by decide)) ?_
        refine And.intro (show vp_in ((0 : Int32) + (2 : Int32)) 6 from vp_b (by decide)) ?_
        refine And.intro (show vp_in ((0 : Int32) + (3 : Int32)) 6 from vp_b (by decide)) ?_
        refine xm_of (X := xxX12) (t := tX12_thing) (stop := []) (n := 1) (ini := false) xx12 pl12 rfl kX12_thing (fun h => by cases h) (Nat.le_of_ble_eq_true rfl) ?_
        refine And.intro (show vp_in (0 : Int32) 2200 from vp_b (by decide)) ?_
        refine m_in_t l _ _ _ _ _ _ _ _ h1.1 h1.2 ?_
        refine And.intro (fun h => absurd h (show ¬ ((1 : Int32) = (0 : Int32)) by decide)) (fun _ => ?_)
        refine m_in_t l _ _ _ _ _ _ _ _ h2.1 h2.2 ?_
        refine And.intro (fun h => absurd h (show ¬ ((1 : Int32) = (0 : Int32)) by decide)) (fun _ => ?_)
        refine m_in_f l _ _ _ _ _ _ _ _ h3 ?_
        refine And.intro (fun _ => ?_) (fun h => absurd (show (0 : Int32) = (0 : Int32) by decide) h)
        refine And.intro (fun _ => ?_) (fun h => absurd (show (-1 : Int32) = (-1 : Int32) by decide) h)
        exact hK _ _ _ _ _ _ _ _ (law_next l xs n _ _ _ 99 18232 (Nat.le_of_ble_eq_true rfl) (Nat.le_of_ble_eq_true rfl))
    · skip
      refine And.intro (show vp_in ((0 : Int32) + (1 : Int32)) 6 from vp_b (by decide)) ?_
      refine And.intro (show vp_in ((0 : Int32) + (2 : Int32)) 6 from vp_b (by decide)) ?_
      refine And.intro (show vp_in ((0 : Int32) + (3 : Int32)) 6 from vp_b (by decide)) ?_
      refine xm_of (X := xxX11) (t := tX11_thing) (stop := []) (n := 1) (ini := false) xx11 pl11 rfl kX11_thing (fun h => by cases h) (Nat.le_of_ble_eq_true rfl) ?_
      refine c_within_t l _ _ _ _ _ _ _ _ h1.1 h1.2 ?_
      refine And.intro (fun h => absurd h (show ¬ ((1 : Int32) = (0 : Int32)) by decide)) (fun _ => ?_)
      refine c_within_f l _ _ _ _ _ _ _ _ h2 ?_
      refine And.intro (fun _ => ?_) (fun h => absurd (show (0 : Int32) = (0 : Int32) by decide) h)
      refine And.intro (show vp_in ((0 : Int32) + (1 : Int32)) 6 from vp_b (by decide)) ?_
      refine And.intro (show vp_in ((0 : Int32) + (2 : Int32)) 6 from vp_b (by decide)) ?_
      refine And.intro (show vp_in ((0 : Int32) + (3 : Int32)) 6 from vp_b (by decide)) ?_
      refine xm_of (X := xxX12) (t := tX12_thing) (stop := []) (n := 1) (ini := false) xx12 pl12 rfl kX12_thing (fun h => by cases h) (Nat.le_of_ble_eq_true rfl) ?_
      refine And.intro (show vp_in (0 : Int32) 2200 from vp_b (by decide)) ?_
      refine m_in_t l _ _ _ _ _ _ _ _ h1.1 h1.2 ?_
      refine And.intro (fun h => absurd h (show ¬ ((1 : Int32) = (0 : Int32)) by decide)) (fun _ => ?_)
      refine m_in_f l _ _ _ _ _ _ _ _ h2 ?_
      refine And.intro (fun _ => ?_) (fun h => absurd (show (0 : Int32) = (0 : Int32) by decide) h)
      refine And.intro (fun _ => ?_) (fun h => absurd (show (-1 : Int32) = (-1 : Int32) by decide) h)
      exact hK _ _ _ _ _ _ _ _ (law_next l xs n _ _ _ 99 18232 (Nat.le_of_ble_eq_true rfl) (Nat.le_of_ble_eq_true rfl))
  · skip
    refine And.intro (show vp_in ((0 : Int32) + (1 : Int32)) 6 from vp_b (by decide)) ?_
    refine And.intro (show vp_in ((0 : Int32) + (2 : Int32)) 6 from vp_b (by decide)) ?_
    refine And.intro (show vp_in ((0 : Int32) + (3 : Int32)) 6 from vp_b (by decide)) ?_
    refine xm_of (X := xxX11) (t := tX11_thing) (stop := []) (n := 1) (ini := false) xx11 pl11 rfl kX11_thing (fun h => by cases h) (Nat.le_of_ble_eq_true rfl) ?_
    refine c_within_f l _ _ _ _ _ _ _ _ h1 ?_
    refine And.intro (fun _ => ?_) (fun h => absurd (show (0 : Int32) = (0 : Int32) by decide) h)
    refine And.intro (show vp_in ((0 : Int32) + (1 : Int32)) 6 from vp_b (by decide)) ?_
    refine And.intro (show vp_in ((0 : Int32) + (2 : Int32)) 6 from vp_b (by decide)) ?_
    refine And.intro (show vp_in ((0 : Int32) + (3 : Int32)) 6 from vp_b (by decide)) ?_
    refine xm_of (X := xxX12) (t := tX12_thing) (stop := []) (n := 1) (ini := false) xx12 pl12 rfl kX12_thing (fun h => by cases h) (Nat.le_of_ble_eq_true rfl) ?_
    refine And.intro (show vp_in (0 : Int32) 2200 from vp_b (by decide)) ?_
    refine m_in_f l _ _ _ _ _ _ _ _ h1 ?_
    refine And.intro (fun _ => ?_) (fun h => absurd (show (0 : Int32) = (0 : Int32) by decide) h)
    refine And.intro (fun _ => ?_) (fun h => absurd (show (-1 : Int32) = (-1 : Int32) by decide) h)
    exact hK _ _ _ _ _ _ _ _ (law_next l xs n _ _ _ 99 18232 (Nat.le_of_ble_eq_true rfl) (Nat.le_of_ble_eq_true rfl))
set_option maxRecDepth 100000 in
set_option maxHeartbeats 4000000 in
theorem law_c1 (l : Launch) (xs : Nat → Int32) (n : Nat) : lrun l 6 xs (n + 2) 239 lloc [] shXM lI jM 99 18232 := by
  refine xrun_step fun K hK => ?_
  by_cases h1 : (1 : Int32) ≤ xs 1 ∧ xs 1 ≤ (99 : Int32)
  · skip
    refine And.intro (show vp_in ((0 : Int32) + (1 : Int32)) 6 from vp_b (by decide)) ?_
    refine xm_of (X := xxX11) (t := tX11_reaper) (stop := []) (n := 1) (ini := false) xx11 pl11 rfl kX11_reaper (fun h => by cases h) (Nat.le_of_ble_eq_true rfl) ?_
    refine c_within_t l _ _ _ _ _ _ _ _ h1.1 h1.2 ?_
    refine And.intro (fun h => absurd h (show ¬ ((1 : Int32) = (0 : Int32)) by decide)) (fun _ => ?_)
    refine xm_of (X := xxX9) (t := tX9_addReaper) (stop := []) (n := 1) (ini := false) xx9 pl9 rfl kX9_addReaper (fun h => by cases h) (Nat.le_of_ble_eq_true rfl) ?_
    refine And.intro (fun _ => ?_) (fun h => absurd (show (0 : Int32) < (4 : Int32) by decide) h)
    refine And.intro (show vp_in (0 : Int32) 4 from vp_b (by decide)) ?_
    refine And.intro (show vp_in ((0 : Int32) + (1 : Int32)) 6 from vp_b (by decide)) ?_
    refine xm_of (X := xxX12) (t := tX12_reaper) (stop := []) (n := 1) (ini := false) xx12 pl12 rfl kX12_reaper (fun h => by cases h) (Nat.le_of_ble_eq_true rfl) ?_
    refine And.intro (show vp_in (1 : Int32) 2200 from vp_b (by decide)) ?_
    refine m_in_t l _ _ _ _ _ _ _ _ h1.1 h1.2 ?_
    refine And.intro (fun h => absurd h (show ¬ ((1 : Int32) = (0 : Int32)) by decide)) (fun _ => ?_)
    refine And.intro (fun _ => ?_) (fun h => absurd h (show ¬ ((0 : Int32) = (4 : Int32)) by decide))
    refine And.intro (show vp_in ((34 : Int32) + (0 : Int32)) 2200 from vp_b (by decide)) ?_
    refine And.intro (show vp_in (1 : Int32) 2200 from vp_b (by decide)) ?_
    refine And.intro (show vp_in (1 : Int32) 2200 from vp_b (by decide)) ?_
    refine And.intro (fun _ => ?_) (fun h => absurd (show (((0 : Int32) + (1 : Int32)) - (1 : Int32)) = (0 : Int32) by decide) h)
    exact hK _ _ _ _ _ _ _ _ (law_next l xs n _ _ _ 99 18232 (Nat.le_of_ble_eq_true rfl) (Nat.le_of_ble_eq_true rfl))
  · skip
    refine And.intro (show vp_in ((0 : Int32) + (1 : Int32)) 6 from vp_b (by decide)) ?_
    refine xm_of (X := xxX11) (t := tX11_reaper) (stop := []) (n := 1) (ini := false) xx11 pl11 rfl kX11_reaper (fun h => by cases h) (Nat.le_of_ble_eq_true rfl) ?_
    refine c_within_f l _ _ _ _ _ _ _ _ h1 ?_
    refine And.intro (fun _ => ?_) (fun h => absurd (show (0 : Int32) = (0 : Int32) by decide) h)
    refine And.intro (show vp_in ((0 : Int32) + (1 : Int32)) 6 from vp_b (by decide)) ?_
    refine xm_of (X := xxX12) (t := tX12_reaper) (stop := []) (n := 1) (ini := false) xx12 pl12 rfl kX12_reaper (fun h => by cases h) (Nat.le_of_ble_eq_true rfl) ?_
    refine And.intro (show vp_in (1 : Int32) 2200 from vp_b (by decide)) ?_
    refine m_in_f l _ _ _ _ _ _ _ _ h1 ?_
    refine And.intro (fun _ => ?_) (fun h => absurd (show (0 : Int32) = (0 : Int32) by decide) h)
    refine And.intro (fun _ => ?_) (fun h => absurd (show (-1 : Int32) = (-1 : Int32) by decide) h)
    exact hK _ _ _ _ _ _ _ _ (law_next l xs n _ _ _ 99 18232 (Nat.le_of_ble_eq_true rfl) (Nat.le_of_ble_eq_true rfl))
set_option maxRecDepth 100000 in
set_option maxHeartbeats 4000000 in
theorem law_c2 (l : Launch) (xs : Nat → Int32) (n : Nat) : lrun l 6 xs (n + 2) 262 lloc [] shXM lI jM 99 18232 := by
  refine xrun_step fun K hK => ?_
  by_cases h1 : (1 : Int32) ≤ xs 1 ∧ xs 1 ≤ (999 : Int32)
  · skip
    refine And.intro (show vp_in ((0 : Int32) + (1 : Int32)) 6 from vp_b (by decide)) ?_
    refine xm_of (X := xxX11) (t := tX11_barn) (stop := []) (n := 1) (ini := false) xx11 pl11 rfl kX11_barn (fun h => by cases h) (Nat.le_of_ble_eq_true rfl) ?_
    refine c_within_t l _ _ _ _ _ _ _ _ h1.1 h1.2 ?_
    refine And.intro (fun h => absurd h (show ¬ ((1 : Int32) = (0 : Int32)) by decide)) (fun _ => ?_)
    refine xm_of (X := xxX9) (t := tX9_addBarn) (stop := []) (n := 1) (ini := false) xx9 pl9 rfl kX9_addBarn (fun h => by cases h) (Nat.le_of_ble_eq_true rfl) ?_
    refine And.intro (fun _ => ?_) (fun h => absurd (show (0 : Int32) < (4 : Int32) by decide) h)
    refine And.intro (show vp_in (0 : Int32) 4 from vp_b (by decide)) ?_
    refine And.intro (show vp_in ((0 : Int32) + (1 : Int32)) 6 from vp_b (by decide)) ?_
    refine xm_of (X := xxX12) (t := tX12_barn) (stop := []) (n := 1) (ini := false) xx12 pl12 rfl kX12_barn (fun h => by cases h) (Nat.le_of_ble_eq_true rfl) ?_
    refine And.intro (show vp_in (2 : Int32) 2200 from vp_b (by decide)) ?_
    refine m_in_t l _ _ _ _ _ _ _ _ h1.1 h1.2 ?_
    refine And.intro (fun h => absurd h (show ¬ ((1 : Int32) = (0 : Int32)) by decide)) (fun _ => ?_)
    refine And.intro (fun _ => ?_) (fun h => absurd h (show ¬ ((0 : Int32) = (4 : Int32)) by decide))
    refine And.intro (show vp_in ((38 : Int32) + (0 : Int32)) 2200 from vp_b (by decide)) ?_
    refine And.intro (show vp_in (2 : Int32) 2200 from vp_b (by decide)) ?_
    refine And.intro (show vp_in (2 : Int32) 2200 from vp_b (by decide)) ?_
    refine And.intro (fun _ => ?_) (fun h => absurd (show (((0 : Int32) + (1 : Int32)) - (1 : Int32)) = (0 : Int32) by decide) h)
    exact hK _ _ _ _ _ _ _ _ (law_next l xs n _ _ _ 99 18232 (Nat.le_of_ble_eq_true rfl) (Nat.le_of_ble_eq_true rfl))
  · skip
    refine And.intro (show vp_in ((0 : Int32) + (1 : Int32)) 6 from vp_b (by decide)) ?_
    refine xm_of (X := xxX11) (t := tX11_barn) (stop := []) (n := 1) (ini := false) xx11 pl11 rfl kX11_barn (fun h => by cases h) (Nat.le_of_ble_eq_true rfl) ?_
    refine c_within_f l _ _ _ _ _ _ _ _ h1 ?_
    refine And.intro (fun _ => ?_) (fun h => absurd (show (0 : Int32) = (0 : Int32) by decide) h)
    refine And.intro (show vp_in ((0 : Int32) + (1 : Int32)) 6 from vp_b (by decide)) ?_
    refine xm_of (X := xxX12) (t := tX12_barn) (stop := []) (n := 1) (ini := false) xx12 pl12 rfl kX12_barn (fun h => by cases h) (Nat.le_of_ble_eq_true rfl) ?_
    refine And.intro (show vp_in (2 : Int32) 2200 from vp_b (by decide)) ?_
    refine m_in_f l _ _ _ _ _ _ _ _ h1 ?_
    refine And.intro (fun _ => ?_) (fun h => absurd (show (0 : Int32) = (0 : Int32) by decide) h)
    refine And.intro (fun _ => ?_) (fun h => absurd (show (-1 : Int32) = (-1 : Int32) by decide) h)
    exact hK _ _ _ _ _ _ _ _ (law_next l xs n _ _ _ 99 18232 (Nat.le_of_ble_eq_true rfl) (Nat.le_of_ble_eq_true rfl))
set_option maxRecDepth 100000 in
set_option maxHeartbeats 4000000 in
theorem law_c3 (l : Launch) (xs : Nat → Int32) (n : Nat) : lrun l 6 xs (n + 2) 285 lloc [] shXM lI jM 99 18232 := by
  refine xrun_step fun K hK => ?_
  refine And.intro (show vp_in ((0 : Int32) + (1 : Int32)) 6 from vp_b (by decide)) ?_
  refine And.intro (show vp_in ((0 : Int32) + (2 : Int32)) 6 from vp_b (by decide)) ?_
  refine And.intro (show vp_in ((0 : Int32) + (3 : Int32)) 6 from vp_b (by decide)) ?_
  refine xm_of (X := xxX11) (t := tX11_cut) (stop := []) (n := 1) (ini := false) xx11 pl11 rfl kX11_cut (fun h => by cases h) (Nat.le_of_ble_eq_true rfl) ?_
  refine xm_of (X := xxX6) (t := tX6_note) (stop := []) (n := 1) (ini := false) xx6 pl6 rfl kX6_note (fun h => by cases h) (Nat.le_of_ble_eq_true rfl) ?_
  refine xm_of (X := xxX6) (t := tX6_placeOf) (stop := []) (n := 1) (ini := false) xx6 pl6 rfl kX6_placeOf (fun h => by cases h) (Nat.le_of_ble_eq_true rfl) ?_
  refine And.intro (show ¬ ((31 : Int32) = 0) by decide) ?_
  refine And.intro (fun h => absurd (show (69 : Int32) = (69 : Int32) by decide) h) (fun _ => ?_)
  refine And.intro (fun h => absurd h (show ¬ (((0 : Int32) * (69 : Int32)) < (0 : Int32)) by decide)) (fun _ => ?_)
  refine And.intro (fun h => absurd h (show ¬ ((2139 : Int32) < (((0 : Int32) * (69 : Int32)) + (69 : Int32))) by decide)) (fun _ => ?_)
  refine And.intro (show ¬ ((0 : Int32) < 0) ∧ ¬ (((0 : Int32) * (69 : Int32)) < 0) ∧ ¬ ((69 : Int32) < 0) ∧ (0 : Int32).toNatClampNeg + (69 : Int32).toNatClampNeg ≤ 69 ∧ ((0 : Int32) * (69 : Int32)).toNatClampNeg + (69 : Int32).toNatClampNeg ≤ 2139 by decide) ?_
  refine xm_of (X := xxX10) (t := tX10_cutOff) (stop := []) (n := 1) (ini := false) xx10 pl10 rfl kX10_cutOff (fun h => by cases h) (Nat.le_of_ble_eq_true rfl) ?_
  refine xm_of (X := xxX10) (t := tX10_cutLength) (stop := []) (n := 1) (ini := false) xx10 pl10 rfl kX10_cutLength (fun h => by cases h) (Nat.le_of_ble_eq_true rfl) ?_
  refine c_hasThing_0 l _ _ _ _ _ _ _ rfl ?_
  refine And.intro (fun _ => ?_) (fun h => absurd (show (0 : Int32) = (0 : Int32) by decide) h)
  refine xm_of (X := xxX10) (t := tX10_shadowOf) (stop := []) (n := 1) (ini := false) xx10 pl10 rfl kX10_shadowOf (fun h => by cases h) (Nat.le_of_ble_eq_true rfl) ?_
  refine c_hasThing_0 l _ _ _ _ _ _ _ rfl ?_
  refine And.intro (fun _ => ?_) (fun h => absurd (show (0 : Int32) = (0 : Int32) by decide) h)
  refine And.intro (fun _ => ?_) (fun h => absurd (show (0 : Int32) ≤ (0 : Int32) by decide) h)
  refine And.intro (fun _ => ?_) (fun h => absurd (show (-1 : Int32) = (-1 : Int32) by decide) h)
  refine And.intro (show vp_in ((0 : Int32) + (1 : Int32)) 6 from vp_b (by decide)) ?_
  refine And.intro (show vp_in ((0 : Int32) + (2 : Int32)) 6 from vp_b (by decide)) ?_
  refine And.intro (show vp_in ((0 : Int32) + (3 : Int32)) 6 from vp_b (by decide)) ?_
  refine xm_of (X := xxX12) (t := tX12_cut) (stop := []) (n := 1) (ini := false) xx12 pl12 rfl kX12_cut (fun h => by cases h) (Nat.le_of_ble_eq_true rfl) ?_
  refine xm_of (X := xxX12) (t := tX12_isThing) (stop := []) (n := 1) (ini := false) xx12 pl12 rfl kX12_isThing (fun h => by cases h) (Nat.le_of_ble_eq_true rfl) ?_
  refine And.intro (show vp_in (0 : Int32) 2200 from vp_b (by decide)) ?_
  refine m_in_f l _ _ _ _ _ _ _ _ (no_neg (show _ = (-1 : Int32) from rfl)) ?_
  refine And.intro (Or.inl rfl) ?_
  refine And.intro (fun _ => ?_) (fun h => absurd (show (0 : Int32) = (0 : Int32) by decide) h)
  refine And.intro (fun _ => ?_) (fun h => absurd (show (-1 : Int32) = (-1 : Int32) by decide) h)
  exact hK _ _ _ _ _ _ _ _ (law_next l xs n _ _ _ 99 18232 (Nat.le_of_ble_eq_true rfl) (Nat.le_of_ble_eq_true rfl))
set_option maxRecDepth 100000 in
set_option maxHeartbeats 4000000 in
theorem law_c4 (l : Launch) (xs : Nat → Int32) (n : Nat) : lrun l 6 xs (n + 2) 328 lloc [] shXM lI jM 99 18232 := by
  refine xrun_step fun K hK => ?_
  refine And.intro (show vp_in ((0 : Int32) + (1 : Int32)) 6 from vp_b (by decide)) ?_
  refine And.intro (show vp_in ((0 : Int32) + (2 : Int32)) 6 from vp_b (by decide)) ?_
  refine xm_of (X := xxX11) (t := tX11_last) (stop := []) (n := 1) (ini := false) xx11 pl11 rfl kX11_last (fun h => by cases h) (Nat.le_of_ble_eq_true rfl) ?_
  refine xm_of (X := xxX6) (t := tX6_note) (stop := []) (n := 1) (ini := false) xx6 pl6 rfl kX6_note (fun h => by cases h) (Nat.le_of_ble_eq_true rfl) ?_
  refine xm_of (X := xxX6) (t := tX6_placeOf) (stop := []) (n := 1) (ini := false) xx6 pl6 rfl kX6_placeOf (fun h => by cases h) (Nat.le_of_ble_eq_true rfl) ?_
  refine And.intro (show ¬ ((31 : Int32) = 0) by decide) ?_
  refine And.intro (fun h => absurd (show (69 : Int32) = (69 : Int32) by decide) h) (fun _ => ?_)
  refine And.intro (fun h => absurd h (show ¬ (((0 : Int32) * (69 : Int32)) < (0 : Int32)) by decide)) (fun _ => ?_)
  refine And.intro (fun h => absurd h (show ¬ ((2139 : Int32) < (((0 : Int32) * (69 : Int32)) + (69 : Int32))) by decide)) (fun _ => ?_)
  refine And.intro (show ¬ ((0 : Int32) < 0) ∧ ¬ (((0 : Int32) * (69 : Int32)) < 0) ∧ ¬ ((69 : Int32) < 0) ∧ (0 : Int32).toNatClampNeg + (69 : Int32).toNatClampNeg ≤ 69 ∧ ((0 : Int32) * (69 : Int32)).toNatClampNeg + (69 : Int32).toNatClampNeg ≤ 2139 by decide) ?_
  refine xm_of (X := xxX10) (t := tX10_sendOff) (stop := []) (n := 1) (ini := false) xx10 pl10 rfl kX10_sendOff (fun h => by cases h) (Nat.le_of_ble_eq_true rfl) ?_
  refine c_hasReaper_0 l _ _ _ _ _ _ _ rfl ?_
  refine And.intro (fun _ => ?_) (fun h => absurd (show (0 : Int32) = (0 : Int32) by decide) h)
  refine And.intro (fun _ => ?_) (fun h => absurd (show (-1 : Int32) = (-1 : Int32) by decide) h)
  refine And.intro (show vp_in ((0 : Int32) + (1 : Int32)) 6 from vp_b (by decide)) ?_
  refine And.intro (show vp_in ((0 : Int32) + (2 : Int32)) 6 from vp_b (by decide)) ?_
  refine xm_of (X := xxX12) (t := tX12_last) (stop := []) (n := 1) (ini := false) xx12 pl12 rfl kX12_last (fun h => by cases h) (Nat.le_of_ble_eq_true rfl) ?_
  refine xm_of (X := xxX12) (t := tX12_isReaper) (stop := []) (n := 1) (ini := false) xx12 pl12 rfl kX12_isReaper (fun h => by cases h) (Nat.le_of_ble_eq_true rfl) ?_
  refine And.intro (show vp_in (1 : Int32) 2200 from vp_b (by decide)) ?_
  refine m_in_f l _ _ _ _ _ _ _ _ (no_neg (show _ = (-1 : Int32) from rfl)) ?_
  refine And.intro (Or.inl rfl) ?_
  refine And.intro (fun _ => ?_) (fun h => absurd (show (0 : Int32) = (0 : Int32) by decide) h)
  refine And.intro (fun _ => ?_) (fun h => absurd (show (-1 : Int32) = (-1 : Int32) by decide) h)
  exact hK _ _ _ _ _ _ _ _ (law_next l xs n _ _ _ 99 18232 (Nat.le_of_ble_eq_true rfl) (Nat.le_of_ble_eq_true rfl))
set_option maxRecDepth 100000 in
set_option maxHeartbeats 4000000 in
theorem law_c5 (l : Launch) (xs : Nat → Int32) (n : Nat) : lrun l 6 xs (n + 2) 361 lloc [] shXM lI jM 99 18232 := by
  refine xrun_step fun K hK => ?_
  by_cases h1 : (1 : Int32) ≤ xs 1 ∧ xs 1 ≤ (999 : Int32)
  · skip
    refine And.intro (show vp_in ((0 : Int32) + (1 : Int32)) 6 from vp_b (by decide)) ?_
    refine And.intro (show vp_in ((0 : Int32) + (2 : Int32)) 6 from vp_b (by decide)) ?_
    refine xm_of (X := xxX11) (t := tX11_use) (stop := []) (n := 1) (ini := false) xx11 pl11 rfl kX11_use (fun h => by cases h) (Nat.le_of_ble_eq_true rfl) ?_
    refine c_within_t l _ _ _ _ _ _ _ _ h1.1 h1.2 ?_
    refine And.intro (fun h => absurd h (show ¬ ((1 : Int32) = (0 : Int32)) by decide)) (fun _ => ?_)
    refine c_hasBarn_0 l _ _ _ _ _ _ _ rfl ?_
    refine And.intro (fun h => absurd (show (0 : Int32) = (0 : Int32) by decide) h) (fun _ => ?_)
    refine And.intro (show vp_in ((0 : Int32) + (1 : Int32)) 6 from vp_b (by decide)) ?_
    refine And.intro (show vp_in ((0 : Int32) + (2 : Int32)) 6 from vp_b (by decide)) ?_
    refine xm_of (X := xxX12) (t := tX12_use) (stop := []) (n := 1) (ini := false) xx12 pl12 rfl kX12_use (fun h => by cases h) (Nat.le_of_ble_eq_true rfl) ?_
    refine m_in_t l _ _ _ _ _ _ _ _ h1.1 h1.2 ?_
    refine And.intro (fun h => absurd h (show ¬ ((1 : Int32) = (0 : Int32)) by decide)) (fun _ => ?_)
    refine xm_of (X := xxX12) (t := tX12_isBarn) (stop := []) (n := 1) (ini := false) xx12 pl12 rfl kX12_isBarn (fun h => by cases h) (Nat.le_of_ble_eq_true rfl) ?_
    refine And.intro (show vp_in (2 : Int32) 2200 from vp_b (by decide)) ?_
    refine m_in_f l _ _ _ _ _ _ _ _ (no_neg (show _ = (-1 : Int32) from rfl)) ?_
    refine And.intro (Or.inl rfl) ?_
    refine And.intro (fun h => absurd (show (0 : Int32) = (0 : Int32) by decide) h) (fun _ => ?_)
    refine And.intro (fun _ => ?_) (fun h => absurd (show (-1 : Int32) = (-1 : Int32) by decide) h)
    exact hK _ _ _ _ _ _ _ _ (law_next l xs n _ _ _ 99 18232 (Nat.le_of_ble_eq_true rfl) (Nat.le_of_ble_eq_true rfl))
  · skip
    refine And.intro (show vp_in ((0 : Int32) + (1 : Int32)) 6 from vp_b (by decide)) ?_
    refine And.intro (show vp_in ((0 : Int32) + (2 : Int32)) 6 from vp_b (by decide)) ?_
    refine xm_of (X := xxX11) (t := tX11_use) (stop := []) (n := 1) (ini := false) xx11 pl11 rfl kX11_use (fun h => by cases h) (Nat.le_of_ble_eq_true rfl) ?_
    refine c_within_f l _ _ _ _ _ _ _ _ h1 ?_
    refine And.intro (fun _ => ?_) (fun h => absurd (show (0 : Int32) = (0 : Int32) by decide) h)
    refine And.intro (show vp_in ((0 : Int32) + (1 : Int32)) 6 from vp_b (by decide)) ?_
    refine And.intro (show vp_in ((0 : Int32) + (2 : Int32)) 6 from vp_b (by decide)) ?_
    refine xm_of (X := xxX12) (t := tX12_use) (stop := []) (n := 1) (ini := false) xx12 pl12 rfl kX12_use (fun h => by cases h) (Nat.le_of_ble_eq_true rfl) ?_
    refine m_in_f l _ _ _ _ _ _ _ _ h1 ?_
    refine And.intro (fun _ => ?_) (fun h => absurd (show (0 : Int32) = (0 : Int32) by decide) h)
    refine And.intro (fun _ => ?_) (fun h => absurd (show (-1 : Int32) = (-1 : Int32) by decide) h)
    exact hK _ _ _ _ _ _ _ _ (law_next l xs n _ _ _ 99 18232 (Nat.le_of_ble_eq_true rfl) (Nat.le_of_ble_eq_true rfl))
set_option maxRecDepth 100000 in
set_option maxHeartbeats 4000000 in
theorem law_c6 (l : Launch) (xs : Nat → Int32) (n : Nat) : lrun l 6 xs (n + 2) 394 lloc [] shXM lI jM 99 18232 := by
  refine xrun_step fun K hK => ?_
  refine And.intro (show vp_in ((0 : Int32) + (1 : Int32)) 6 from vp_b (by decide)) ?_
  refine And.intro (show vp_in ((0 : Int32) + (2 : Int32)) 6 from vp_b (by decide)) ?_
  refine xm_of (X := xxX11) (t := tX11_move) (stop := []) (n := 1) (ini := false) xx11 pl11 rfl kX11_move (fun h => by cases h) (Nat.le_of_ble_eq_true rfl) ?_
  refine xm_of (X := xxX6) (t := tX6_note) (stop := []) (n := 1) (ini := false) xx6 pl6 rfl kX6_note (fun h => by cases h) (Nat.le_of_ble_eq_true rfl) ?_
  refine xm_of (X := xxX6) (t := tX6_placeOf) (stop := []) (n := 1) (ini := false) xx6 pl6 rfl kX6_placeOf (fun h => by cases h) (Nat.le_of_ble_eq_true rfl) ?_
  refine And.intro (show ¬ ((31 : Int32) = 0) by decide) ?_
  refine And.intro (fun h => absurd (show (69 : Int32) = (69 : Int32) by decide) h) (fun _ => ?_)
  refine And.intro (fun h => absurd h (show ¬ (((0 : Int32) * (69 : Int32)) < (0 : Int32)) by decide)) (fun _ => ?_)
  refine And.intro (fun h => absurd h (show ¬ ((2139 : Int32) < (((0 : Int32) * (69 : Int32)) + (69 : Int32))) by decide)) (fun _ => ?_)
  refine And.intro (show ¬ ((0 : Int32) < 0) ∧ ¬ (((0 : Int32) * (69 : Int32)) < 0) ∧ ¬ ((69 : Int32) < 0) ∧ (0 : Int32).toNatClampNeg + (69 : Int32).toNatClampNeg ≤ 69 ∧ ((0 : Int32) * (69 : Int32)).toNatClampNeg + (69 : Int32).toNatClampNeg ≤ 2139 by decide) ?_
  refine xm_of (X := xxX10) (t := tX10_carry) (stop := []) (n := 1) (ini := false) xx10 pl10 rfl kX10_carry (fun h => by cases h) (Nat.le_of_ble_eq_true rfl) ?_
  refine c_hasBale_0_26 l _ _ _ _ _ _ _ lI_now ?_
  refine And.intro (fun _ => ?_) (fun h => absurd (show (0 : Int32) = (0 : Int32) by decide) h)
  refine And.intro (Or.inl rfl) ?_
  refine And.intro (fun _ => ?_) (fun h => absurd (show (0 : Int32) = (0 : Int32) by decide) h)
  refine And.intro (Or.inl rfl) ?_
  refine And.intro (show vp_in ((0 : Int32) + (1 : Int32)) 6 from vp_b (by decide)) ?_
  refine And.intro (show vp_in ((0 : Int32) + (2 : Int32)) 6 from vp_b (by decide)) ?_
  refine xm_of (X := xxX12) (t := tX12_move) (stop := []) (n := 1) (ini := false) xx12 pl12 rfl kX12_move (fun h => by cases h) (Nat.le_of_ble_eq_true rfl) ?_
  refine m_isBale_0 l _ _ _ _ _ _ _ lI_row ?_
  refine And.intro (fun _ => ?_) (fun h => absurd (show (0 : Int32) = (0 : Int32) by decide) h)
  refine And.intro (Or.inl rfl) ?_
  refine And.intro (fun _ => ?_) (fun h => absurd (show (0 : Int32) = (0 : Int32) by decide) h)
  exact hK _ _ _ _ _ _ _ _ (law_next l xs n _ _ _ 99 18232 (Nat.le_of_ble_eq_true rfl) (Nat.le_of_ble_eq_true rfl))
set_option maxRecDepth 100000 in
set_option maxHeartbeats 4000000 in
theorem law_c7 (l : Launch) (xs : Nat → Int32) (n : Nat) : lrun l 6 xs (n + 2) 427 lloc [] shXM lI jM 99 18232 := by
  refine xrun_step fun K hK => ?_
  refine And.intro (show vp_in ((0 : Int32) + (1 : Int32)) 6 from vp_b (by decide)) ?_
  refine xm_of (X := xxX11) (t := tX11_sell) (stop := []) (n := 1) (ini := false) xx11 pl11 rfl kX11_sell (fun h => by cases h) (Nat.le_of_ble_eq_true rfl) ?_
  refine xm_of (X := xxX6) (t := tX6_note) (stop := []) (n := 1) (ini := false) xx6 pl6 rfl kX6_note (fun h => by cases h) (Nat.le_of_ble_eq_true rfl) ?_
  refine xm_of (X := xxX6) (t := tX6_placeOf) (stop := []) (n := 1) (ini := false) xx6 pl6 rfl kX6_placeOf (fun h => by cases h) (Nat.le_of_ble_eq_true rfl) ?_
  refine And.intro (show ¬ ((31 : Int32) = 0) by decide) ?_
  refine And.intro (fun h => absurd (show (69 : Int32) = (69 : Int32) by decide) h) (fun _ => ?_)
  refine And.intro (fun h => absurd h (show ¬ (((0 : Int32) * (69 : Int32)) < (0 : Int32)) by decide)) (fun _ => ?_)
  refine And.intro (fun h => absurd h (show ¬ ((2139 : Int32) < (((0 : Int32) * (69 : Int32)) + (69 : Int32))) by decide)) (fun _ => ?_)
  refine And.intro (show ¬ ((0 : Int32) < 0) ∧ ¬ (((0 : Int32) * (69 : Int32)) < 0) ∧ ¬ ((69 : Int32) < 0) ∧ (0 : Int32).toNatClampNeg + (69 : Int32).toNatClampNeg ≤ 69 ∧ ((0 : Int32) * (69 : Int32)).toNatClampNeg + (69 : Int32).toNatClampNeg ≤ 2139 by decide) ?_
  refine xm_of (X := xxX10) (t := tX10_sellOff) (stop := []) (n := 1) (ini := false) xx10 pl10 rfl kX10_sellOff (fun h => by cases h) (Nat.le_of_ble_eq_true rfl) ?_
  refine c_hasBale_0_26 l _ _ _ _ _ _ _ lI_now ?_
  refine And.intro (fun h => absurd (show (0 : Int32) = (0 : Int32) by decide) h) (fun _ => ?_)
  refine And.intro (fun _ => ?_) (fun h => absurd (show (-1 : Int32) = (-1 : Int32) by decide) h)
  refine And.intro (show vp_in ((0 : Int32) + (1 : Int32)) 6 from vp_b (by decide)) ?_
  refine xm_of (X := xxX12) (t := tX12_sell) (stop := []) (n := 1) (ini := false) xx12 pl12 rfl kX12_sell (fun h => by cases h) (Nat.le_of_ble_eq_true rfl) ?_
  refine m_isBale_0 l _ _ _ _ _ _ _ lI_row ?_
  refine And.intro (fun h => absurd (show (0 : Int32) = (0 : Int32) by decide) h) (fun _ => ?_)
  refine And.intro (fun _ => ?_) (fun h => absurd (show (-1 : Int32) = (-1 : Int32) by decide) h)
  exact hK _ _ _ _ _ _ _ _ (law_next l xs n _ _ _ 99 18232 (Nat.le_of_ble_eq_true rfl) (Nat.le_of_ble_eq_true rfl))
set_option maxRecDepth 100000 in
set_option maxHeartbeats 4000000 in
theorem law_c9 (l : Launch) (xs : Nat → Int32) (n : Nat) : lrun l 6 xs (n + 2) 473 lloc [] shXM lI jM 99 18232 := by
  refine xrun_step fun K hK => ?_
  by_cases h1 : (0 : Int32) ≤ xs 1 ∧ xs 1 ≤ (9999 : Int32)
  · skip
    by_cases h2 : (1 : Int32) ≤ xs 2 ∧ xs 2 ≤ (30 : Int32)
    · skip
      refine And.intro (show vp_in ((0 : Int32) + (1 : Int32)) 6 from vp_b (by decide)) ?_
      refine And.intro (show vp_in ((0 : Int32) + (2 : Int32)) 6 from vp_b (by decide)) ?_
      refine xm_of (X := xxX11) (t := tX11_decades) (stop := []) (n := 1) (ini := false) xx11 pl11 rfl kX11_decades (fun h => by cases h) (Nat.le_of_ble_eq_true rfl) ?_
      refine And.intro (fun _ => ?_) (fun h => absurd (show (0 : Int32) = (0 : Int32) by decide) h)
      refine c_within_t l _ _ _ _ _ _ _ _ h1.1 h1.2 ?_
      refine And.intro (fun h => absurd h (show ¬ ((1 : Int32) = (0 : Int32)) by decide)) (fun _ => ?_)
      refine c_within_t l _ _ _ _ _ _ _ _ h2.1 h2.2 ?_
      refine And.intro (fun h => absurd h (show ¬ ((1 : Int32) = (0 : Int32)) by decide)) (fun _ => ?_)
      refine And.intro (fun h => absurd h (show ¬ ((1 : Int32) = (0 : Int32)) by decide)) (fun _ => ?_)
      refine And.intro (show vp_in ((0 : Int32) + (1 : Int32)) 6 from vp_b (by decide)) ?_
      refine And.intro (show vp_in ((0 : Int32) + (2 : Int32)) 6 from vp_b (by decide)) ?_
      refine xm_of (X := xxX12) (t := tX12_decades) (stop := []) (n := 1) (ini := false) xx12 pl12 rfl kX12_decades (fun h => by cases h) (Nat.le_of_ble_eq_true rfl) ?_
      refine m_in_t l _ _ _ _ _ _ _ _ h1.1 h1.2 ?_
      refine And.intro (fun h => absurd h (show ¬ ((1 : Int32) = (0 : Int32)) by decide)) (fun _ => ?_)
      refine m_in_t l _ _ _ _ _ _ _ _ h2.1 h2.2 ?_
      refine And.intro (fun h => absurd h (show ¬ ((1 : Int32) = (0 : Int32)) by decide)) (fun _ => ?_)
      refine And.intro (show vp_in (0 : Int32) 2200 from vp_b (by decide)) ?_
      refine And.intro (fun _ => ?_) (fun h => absurd (show (0 : Int32) = (0 : Int32) by decide) h)
      refine And.intro (fun _ => ?_) (fun h => absurd (show (-1 : Int32) = (-1 : Int32) by decide) h)
      exact hK _ _ _ _ _ _ _ _ (law_next l xs n _ _ _ 99 18232 (Nat.le_of_ble_eq_true rfl) (Nat.le_of_ble_eq_true rfl))
    · skip
      refine And.intro (show vp_in ((0 : Int32) + (1 : Int32)) 6 from vp_b (by decide)) ?_
      refine And.intro (show vp_in ((0 : Int32) + (2 : Int32)) 6 from vp_b (by decide)) ?_
      refine xm_of (X := xxX11) (t := tX11_decades) (stop := []) (n := 1) (ini := false) xx11 pl11 rfl kX11_decades (fun h => by cases h) (Nat.le_of_ble_eq_true rfl) ?_
      refine And.intro (fun _ => ?_) (fun h => absurd (show (0 : Int32) = (0 : Int32) by decide) h)
      refine c_within_t l _ _ _ _ _ _ _ _ h1.1 h1.2 ?_
      refine And.intro (fun h => absurd h (show ¬ ((1 : Int32) = (0 : Int32)) by decide)) (fun _ => ?_)
      refine c_within_f l _ _ _ _ _ _ _ _ h2 ?_
      refine And.intro (fun _ => ?_) (fun h => absurd (show (0 : Int32) = (0 : Int32) by decide) h)
      refine And.intro (show vp_in ((0 : Int32) + (1 : Int32)) 6 from vp_b (by decide)) ?_
      refine And.intro (show vp_in ((0 : Int32) + (2 : Int32)) 6 from vp_b (by decide)) ?_
      refine xm_of (X := xxX12) (t := tX12_decades) (stop := []) (n := 1) (ini := false) xx12 pl12 rfl kX12_decades (fun h => by cases h) (Nat.le_of_ble_eq_true rfl) ?_
      refine m_in_t l _ _ _ _ _ _ _ _ h1.1 h1.2 ?_
      refine And.intro (fun h => absurd h (show ¬ ((1 : Int32) = (0 : Int32)) by decide)) (fun _ => ?_)
      refine m_in_f l _ _ _ _ _ _ _ _ h2 ?_
      refine And.intro (fun _ => ?_) (fun h => absurd (show (0 : Int32) = (0 : Int32) by decide) h)
      refine And.intro (fun _ => ?_) (fun h => absurd (show (-1 : Int32) = (-1 : Int32) by decide) h)
      exact hK _ _ _ _ _ _ _ _ (law_next l xs n _ _ _ 99 18232 (Nat.le_of_ble_eq_true rfl) (Nat.le_of_ble_eq_true rfl))
  · skip
    refine And.intro (show vp_in ((0 : Int32) + (1 : Int32)) 6 from vp_b (by decide)) ?_
    refine And.intro (show vp_in ((0 : Int32) + (2 : Int32)) 6 from vp_b (by decide)) ?_
    refine xm_of (X := xxX11) (t := tX11_decades) (stop := []) (n := 1) (ini := false) xx11 pl11 rfl kX11_decades (fun h => by cases h) (Nat.le_of_ble_eq_true rfl) ?_
    refine And.intro (fun _ => ?_) (fun h => absurd (show (0 : Int32) = (0 : Int32) by decide) h)
    refine c_within_f l _ _ _ _ _ _ _ _ h1 ?_
    refine And.intro (fun _ => ?_) (fun h => absurd (show (0 : Int32) = (0 : Int32) by decide) h)
    refine And.intro (show vp_in ((0 : Int32) + (1 : Int32)) 6 from vp_b (by decide)) ?_
    refine And.intro (show vp_in ((0 : Int32) + (2 : Int32)) 6 from vp_b (by decide)) ?_
    refine xm_of (X := xxX12) (t := tX12_decades) (stop := []) (n := 1) (ini := false) xx12 pl12 rfl kX12_decades (fun h => by cases h) (Nat.le_of_ble_eq_true rfl) ?_
    refine m_in_f l _ _ _ _ _ _ _ _ h1 ?_
    refine And.intro (fun _ => ?_) (fun h => absurd (show (0 : Int32) = (0 : Int32) by decide) h)
    refine And.intro (fun _ => ?_) (fun h => absurd (show (-1 : Int32) = (-1 : Int32) by decide) h)
    exact hK _ _ _ _ _ _ _ _ (law_next l xs n _ _ _ 99 18232 (Nat.le_of_ble_eq_true rfl) (Nat.le_of_ble_eq_true rfl))
set_option maxRecDepth 100000 in
set_option maxHeartbeats 4000000 in
theorem law_c11 (l : Launch) (xs : Nat → Int32) (n : Nat) : lrun l 6 xs (n + 2) 569 lloc [] shXM lI jM 99 18232 := by
  refine xrun_step fun K hK => ?_
  by_cases h1 : (0 : Int32) ≤ xs 1 ∧ xs 1 ≤ (0 : Int32)
  · skip
    refine And.intro (show vp_in ((0 : Int32) + (1 : Int32)) 6 from vp_b (by decide)) ?_
    refine xm_of (X := xxX11) (t := tX11_end) (stop := []) (n := 1) (ini := false) xx11 pl11 rfl kX11_end (fun h => by cases h) (Nat.le_of_ble_eq_true rfl) ?_
    refine c_within_t l _ _ _ _ _ _ _ _ h1.1 h1.2 ?_
    refine And.intro (fun _ => ?_) (fun h => absurd h (show ¬ ((1 : Int32) = (0 : Int32)) by decide))
    refine And.intro (show vp_in ((0 : Int32) + (1 : Int32)) 6 from vp_b (by decide)) ?_
    refine xm_of (X := xxX12) (t := tX12_end) (stop := []) (n := 1) (ini := false) xx12 pl12 rfl kX12_end (fun h => by cases h) (Nat.le_of_ble_eq_true rfl) ?_
    refine m_in_t l _ _ _ _ _ _ _ _ h1.1 h1.2 ?_
    refine And.intro (fun _ => ?_) (fun h => absurd h (show ¬ ((1 : Int32) = (0 : Int32)) by decide))
    refine And.intro (fun _ => ?_) (fun h => absurd rfl h)
    exact hK _ _ _ _ _ _ _ _ (law_next l xs n _ _ _ 99 18232 (Nat.le_of_ble_eq_true rfl) (Nat.le_of_ble_eq_true rfl))
  · skip
    refine And.intro (show vp_in ((0 : Int32) + (1 : Int32)) 6 from vp_b (by decide)) ?_
    refine xm_of (X := xxX11) (t := tX11_end) (stop := []) (n := 1) (ini := false) xx11 pl11 rfl kX11_end (fun h => by cases h) (Nat.le_of_ble_eq_true rfl) ?_
    refine c_within_f l _ _ _ _ _ _ _ _ h1 ?_
    refine And.intro (fun h => absurd (show (0 : Int32) = (0 : Int32) by decide) h) (fun _ => ?_)
    refine And.intro (show vp_in ((0 : Int32) + (1 : Int32)) 6 from vp_b (by decide)) ?_
    refine xm_of (X := xxX12) (t := tX12_end) (stop := []) (n := 1) (ini := false) xx12 pl12 rfl kX12_end (fun h => by cases h) (Nat.le_of_ble_eq_true rfl) ?_
    refine m_in_f l _ _ _ _ _ _ _ _ h1 ?_
    refine And.intro (fun h => absurd (show (0 : Int32) = (0 : Int32) by decide) h) (fun _ => ?_)
    refine And.intro (fun _ => ?_) (fun h => absurd (show (-1 : Int32) = (-1 : Int32) by decide) h)
    exact hK _ _ _ _ _ _ _ _ (law_next l xs n _ _ _ 99 18232 (Nat.le_of_ble_eq_true rfl) (Nat.le_of_ble_eq_true rfl))
set_option maxRecDepth 100000 in
set_option maxHeartbeats 4000000 in
theorem law_c15 (l : Launch) (xs : Nat → Int32) (n : Nat) : lrun l 6 xs (n + 2) 651 lloc [] shXM lI jM 99 18232 := by
  refine xrun_step fun K hK => ?_
  refine And.intro (show vp_in ((0 : Int32) + (1 : Int32)) 6 from vp_b (by decide)) ?_
  refine xm_of (X := xxX11) (t := tX11_played) (stop := []) (n := 1) (ini := false) xx11 pl11 rfl kX11_played (fun h => by cases h) (Nat.le_of_ble_eq_true rfl) ?_
  refine c_within_f l _ _ _ _ _ _ _ _ (no_neg (show _ = (-1 : Int32) from rfl)) ?_
  refine And.intro (fun h => absurd (show (0 : Int32) = (0 : Int32) by decide) h) (fun _ => ?_)
  refine And.intro (show vp_in ((0 : Int32) + (1 : Int32)) 6 from vp_b (by decide)) ?_
  refine xm_of (X := xxX12) (t := tX12_played) (stop := []) (n := 1) (ini := false) xx12 pl12 rfl kX12_played (fun h => by cases h) (Nat.le_of_ble_eq_true rfl) ?_
  refine And.intro (show vp_in (3 : Int32) 2200 from vp_b (by decide)) ?_
  refine m_in_f l _ _ _ _ _ _ _ _ (no_neg (show _ = (-1 : Int32) from rfl)) ?_
  refine And.intro (fun h => absurd (show (0 : Int32) = (0 : Int32) by decide) h) (fun _ => ?_)
  refine And.intro (fun _ => ?_) (fun h => absurd (show (-2 : Int32) = (-2 : Int32) by decide) h)
  exact hK _ _ _ _ _ _ _ _ (law_next l xs n _ _ _ 99 18232 (Nat.le_of_ble_eq_true rfl) (Nat.le_of_ble_eq_true rfl))
set_option maxRecDepth 100000 in
set_option maxHeartbeats 4000000 in
theorem law_c16 (l : Launch) (xs : Nat → Int32) (n : Nat) : lrun l 6 xs (n + 2) 674 lloc [] shXM lI jM 99 18232 := by
  refine xrun_step fun K hK => ?_
  refine xm_of (X := xxX11) (t := tX11_undo) (stop := []) (n := 1) (ini := false) xx11 pl11 rfl kX11_undo (fun h => by cases h) (Nat.le_of_ble_eq_true rfl) ?_
  refine xm_of (X := xxX6) (t := tX6_takeBack) (stop := []) (n := 1) (ini := false) xx6 pl6 rfl kX6_takeBack (fun h => by cases h) (Nat.le_of_ble_eq_true rfl) ?_
  refine xm_of (X := xxX6) (t := tX6_placeOf) (stop := []) (n := 1) (ini := false) xx6 pl6 rfl kX6_placeOf (fun h => by cases h) (Nat.le_of_ble_eq_true rfl) ?_
  refine And.intro (show ¬ ((31 : Int32) = 0) by decide) ?_
  refine And.intro (fun h => absurd (show (69 : Int32) = (69 : Int32) by decide) h) (fun _ => ?_)
  refine And.intro (fun _ => ?_) (fun h => absurd (show ((-1 : Int32) * (69 : Int32)) < (0 : Int32) by decide) h)
  refine And.intro (fun _ => ?_) (fun h => absurd (show (0 : Int32) ≤ (0 : Int32) by decide) h)
  refine And.intro (Or.inl rfl) ?_
  refine And.intro (fun _ => ?_) (fun h => absurd (show (0 : Int32) = (0 : Int32) by decide) h)
  refine xm_of (X := xxX12) (t := tX12_undo) (stop := []) (n := 1) (ini := false) xx12 pl12 rfl kX12_undo (fun h => by cases h) (Nat.le_of_ble_eq_true rfl) ?_
  refine And.intro (show vp_in (5 : Int32) 2200 from vp_b (by decide)) ?_
  refine And.intro (fun h => absurd (show (0 : Int32) = (0 : Int32) by decide) h) (fun _ => ?_)
  refine And.intro (fun _ => ?_) (fun h => absurd (show (-1 : Int32) = (-1 : Int32) by decide) h)
  exact hK _ _ _ _ _ _ _ _ (law_next l xs n _ _ _ 99 18232 (Nat.le_of_ble_eq_true rfl) (Nat.le_of_ble_eq_true rfl))
set_option maxRecDepth 100000 in
set_option maxHeartbeats 4000000 in
theorem law_c17 (l : Launch) (xs : Nat → Int32) (n : Nat) : lrun l 6 xs (n + 2) 687 lloc [] shXM lI jM 99 18232 := by
  refine xrun_step fun K hK => ?_
  refine And.intro (show vp_in ((0 : Int32) + (1 : Int32)) 6 from vp_b (by decide)) ?_
  refine And.intro (show vp_in ((0 : Int32) + (2 : Int32)) 6 from vp_b (by decide)) ?_
  refine xm_of (X := xxX11) (t := tX11_of) (stop := []) (n := 1) (ini := false) xx11 pl11 rfl kX11_of (fun h => by cases h) (Nat.le_of_ble_eq_true rfl) ?_
  refine c_hasThing_0 l _ _ _ _ _ _ _ rfl ?_
  refine And.intro (fun h => absurd (show (0 : Int32) = (0 : Int32) by decide) h) (fun _ => ?_)
  refine And.intro (show vp_in ((0 : Int32) + (1 : Int32)) 6 from vp_b (by decide)) ?_
  refine And.intro (show vp_in ((0 : Int32) + (2 : Int32)) 6 from vp_b (by decide)) ?_
  refine xm_of (X := xxX12) (t := tX12_of) (stop := []) (n := 1) (ini := false) xx12 pl12 rfl kX12_of (fun h => by cases h) (Nat.le_of_ble_eq_true rfl) ?_
  refine xm_of (X := xxX12) (t := tX12_isThing) (stop := []) (n := 1) (ini := false) xx12 pl12 rfl kX12_isThing (fun h => by cases h) (Nat.le_of_ble_eq_true rfl) ?_
  refine And.intro (show vp_in (0 : Int32) 2200 from vp_b (by decide)) ?_
  refine m_in_f l _ _ _ _ _ _ _ _ (no_neg (show _ = (-1 : Int32) from rfl)) ?_
  refine And.intro (Or.inl rfl) ?_
  refine And.intro (fun h => absurd (show (0 : Int32) = (0 : Int32) by decide) h) (fun _ => ?_)
  refine And.intro (fun _ => ?_) (fun h => absurd (show (-1 : Int32) = (-1 : Int32) by decide) h)
  exact hK _ _ _ _ _ _ _ _ (law_next l xs n _ _ _ 99 18232 (Nat.le_of_ble_eq_true rfl) (Nat.le_of_ble_eq_true rfl))
set_option maxRecDepth 100000 in
set_option maxHeartbeats 4000000 in
theorem law_c18 (l : Launch) (xs : Nat → Int32) (n : Nat) : lrun l 6 xs (n + 2) 720 lloc [] shXM lI jM 99 18232 := by
  refine xrun_step fun K hK => ?_
  refine And.intro (show vp_in ((0 : Int32) + (1 : Int32)) 6 from vp_b (by decide)) ?_
  refine And.intro (show vp_in ((0 : Int32) + (2 : Int32)) 6 from vp_b (by decide)) ?_
  refine xm_of (X := xxX11) (t := tX11_ofReaper) (stop := []) (n := 1) (ini := false) xx11 pl11 rfl kX11_ofReaper (fun h => by cases h) (Nat.le_of_ble_eq_true rfl) ?_
  refine c_hasReaper_0 l _ _ _ _ _ _ _ rfl ?_
  refine And.intro (fun h => absurd (show (0 : Int32) = (0 : Int32) by decide) h) (fun _ => ?_)
  refine And.intro (show vp_in ((0 : Int32) + (1 : Int32)) 6 from vp_b (by decide)) ?_
  refine And.intro (show vp_in ((0 : Int32) + (2 : Int32)) 6 from vp_b (by decide)) ?_
  refine xm_of (X := xxX12) (t := tX12_ofReaper) (stop := []) (n := 1) (ini := false) xx12 pl12 rfl kX12_ofReaper (fun h => by cases h) (Nat.le_of_ble_eq_true rfl) ?_
  refine xm_of (X := xxX12) (t := tX12_isReaper) (stop := []) (n := 1) (ini := false) xx12 pl12 rfl kX12_isReaper (fun h => by cases h) (Nat.le_of_ble_eq_true rfl) ?_
  refine And.intro (show vp_in (1 : Int32) 2200 from vp_b (by decide)) ?_
  refine m_in_f l _ _ _ _ _ _ _ _ (no_neg (show _ = (-1 : Int32) from rfl)) ?_
  refine And.intro (Or.inl rfl) ?_
  refine And.intro (fun _ => ?_) (fun h => absurd (show (0 : Int32) = (0 : Int32) by decide) h)
  refine And.intro (fun _ => ?_) (fun h => absurd (show (-1 : Int32) = (-1 : Int32) by decide) h)
  exact hK _ _ _ _ _ _ _ _ (law_next l xs n _ _ _ 99 18232 (Nat.le_of_ble_eq_true rfl) (Nat.le_of_ble_eq_true rfl))
set_option maxRecDepth 100000 in
set_option maxHeartbeats 4000000 in
theorem law_c19 (l : Launch) (xs : Nat → Int32) (n : Nat) : lrun l 6 xs (n + 2) 753 lloc [] shXM lI jM 99 18232 := by
  refine xrun_step fun K hK => ?_
  refine And.intro (show vp_in ((0 : Int32) + (1 : Int32)) 6 from vp_b (by decide)) ?_
  refine And.intro (show vp_in ((0 : Int32) + (2 : Int32)) 6 from vp_b (by decide)) ?_
  refine xm_of (X := xxX11) (t := tX11_bale) (stop := []) (n := 1) (ini := false) xx11 pl11 rfl kX11_bale (fun h => by cases h) (Nat.le_of_ble_eq_true rfl) ?_
  refine c_hasBale_0_26 l _ _ _ _ _ _ _ lI_now ?_
  refine And.intro (fun h => absurd (show (0 : Int32) = (0 : Int32) by decide) h) (fun _ => ?_)
  refine And.intro (show vp_in ((0 : Int32) + (1 : Int32)) 6 from vp_b (by decide)) ?_
  refine And.intro (show vp_in ((0 : Int32) + (2 : Int32)) 6 from vp_b (by decide)) ?_
  refine xm_of (X := xxX12) (t := tX12_bale) (stop := []) (n := 1) (ini := false) xx12 pl12 rfl kX12_bale (fun h => by cases h) (Nat.le_of_ble_eq_true rfl) ?_
  refine m_isBale_0 l _ _ _ _ _ _ _ lI_row ?_
  refine And.intro (fun h => absurd (show (0 : Int32) = (0 : Int32) by decide) h) (fun _ => ?_)
  refine And.intro (fun _ => ?_) (fun h => absurd (show (-1 : Int32) = (-1 : Int32) by decide) h)
  exact hK _ _ _ _ _ _ _ _ (law_next l xs n _ _ _ 99 18232 (Nat.le_of_ble_eq_true rfl) (Nat.le_of_ble_eq_true rfl))
set_option maxRecDepth 100000 in
set_option maxHeartbeats 4000000 in
theorem law_c20 (l : Launch) (xs : Nat → Int32) (n : Nat) : lrun l 6 xs (n + 2) 786 lloc [] shXM lI jM 99 18232 := by
  refine xrun_step fun K hK => ?_
  refine And.intro (show vp_in ((0 : Int32) + (1 : Int32)) 6 from vp_b (by decide)) ?_
  refine And.intro (show vp_in ((0 : Int32) + (2 : Int32)) 6 from vp_b (by decide)) ?_
  refine xm_of (X := xxX11) (t := tX11_ofBarn) (stop := []) (n := 1) (ini := false) xx11 pl11 rfl kX11_ofBarn (fun h => by cases h) (Nat.le_of_ble_eq_true rfl) ?_
  refine c_hasBarn_0 l _ _ _ _ _ _ _ rfl ?_
  refine And.intro (fun h => absurd (show (0 : Int32) = (0 : Int32) by decide) h) (fun _ => ?_)
  refine And.intro (show vp_in ((0 : Int32) + (1 : Int32)) 6 from vp_b (by decide)) ?_
  refine And.intro (show vp_in ((0 : Int32) + (2 : Int32)) 6 from vp_b (by decide)) ?_
  refine xm_of (X := xxX12) (t := tX12_ofBarn) (stop := []) (n := 1) (ini := false) xx12 pl12 rfl kX12_ofBarn (fun h => by cases h) (Nat.le_of_ble_eq_true rfl) ?_
  refine xm_of (X := xxX12) (t := tX12_isBarn) (stop := []) (n := 1) (ini := false) xx12 pl12 rfl kX12_isBarn (fun h => by cases h) (Nat.le_of_ble_eq_true rfl) ?_
  refine And.intro (show vp_in (2 : Int32) 2200 from vp_b (by decide)) ?_
  refine m_in_f l _ _ _ _ _ _ _ _ (no_neg (show _ = (-1 : Int32) from rfl)) ?_
  refine And.intro (Or.inl rfl) ?_
  refine And.intro (fun _ => ?_) (fun h => absurd (show (0 : Int32) = (0 : Int32) by decide) h)
  refine And.intro (fun _ => ?_) (fun h => absurd (show (-1 : Int32) = (-1 : Int32) by decide) h)
  exact hK _ _ _ _ _ _ _ _ (law_next l xs n _ _ _ 99 18232 (Nat.le_of_ble_eq_true rfl) (Nat.le_of_ble_eq_true rfl))
set_option maxRecDepth 100000 in
set_option maxHeartbeats 4000000 in
theorem law_c21 (l : Launch) (xs : Nat → Int32) (n : Nat) : lrun l 6 xs (n + 2) 819 lloc [] shXM lI jM 99 18232 := by
  refine xrun_step fun K hK => ?_
  by_cases h1 : (1 : Int32) ≤ xs 1 ∧ xs 1 ≤ (60 : Int32)
  · skip
    refine And.intro (show vp_in ((0 : Int32) + (1 : Int32)) 6 from vp_b (by decide)) ?_
    refine And.intro (show vp_in ((0 : Int32) + (2 : Int32)) 6 from vp_b (by decide)) ?_
    refine xm_of (X := xxX11) (t := tX11_foretold) (stop := []) (n := 1) (ini := false) xx11 pl11 rfl kX11_foretold (fun h => by cases h) (Nat.le_of_ble_eq_true rfl) ?_
    refine c_within_t l _ _ _ _ _ _ _ _ h1.1 h1.2 ?_
    refine And.intro (fun h => absurd h (show ¬ ((1 : Int32) = (0 : Int32)) by decide)) (fun _ => ?_)
    refine c_hasThing_0 l _ _ _ _ _ _ _ rfl ?_
    refine And.intro (fun h => absurd (show (0 : Int32) = (0 : Int32) by decide) h) (fun _ => ?_)
    refine And.intro (show vp_in ((0 : Int32) + (1 : Int32)) 6 from vp_b (by decide)) ?_
    refine And.intro (show vp_in ((0 : Int32) + (2 : Int32)) 6 from vp_b (by decide)) ?_
    refine xm_of (X := xxX12) (t := tX12_foretold) (stop := []) (n := 1) (ini := false) xx12 pl12 rfl kX12_foretold (fun h => by cases h) (Nat.le_of_ble_eq_true rfl) ?_
    refine m_in_t l _ _ _ _ _ _ _ _ h1.1 h1.2 ?_
    refine And.intro (fun h => absurd h (show ¬ ((1 : Int32) = (0 : Int32)) by decide)) (fun _ => ?_)
    refine xm_of (X := xxX12) (t := tX12_isThing) (stop := []) (n := 1) (ini := false) xx12 pl12 rfl kX12_isThing (fun h => by cases h) (Nat.le_of_ble_eq_true rfl) ?_
    refine And.intro (show vp_in (0 : Int32) 2200 from vp_b (by decide)) ?_
    refine m_in_f l _ _ _ _ _ _ _ _ (no_neg (show _ = (-1 : Int32) from rfl)) ?_
    refine And.intro (Or.inl rfl) ?_
    refine And.intro (fun h => absurd (show (0 : Int32) = (0 : Int32) by decide) h) (fun _ => ?_)
    refine And.intro (fun _ => ?_) (fun h => absurd (show (-1 : Int32) = (-1 : Int32) by decide) h)
    exact hK _ _ _ _ _ _ _ _ (law_next l xs n _ _ _ 99 18232 (Nat.le_of_ble_eq_true rfl) (Nat.le_of_ble_eq_true rfl))
  · skip
    refine And.intro (show vp_in ((0 : Int32) + (1 : Int32)) 6 from vp_b (by decide)) ?_
    refine And.intro (show vp_in ((0 : Int32) + (2 : Int32)) 6 from vp_b (by decide)) ?_
    refine xm_of (X := xxX11) (t := tX11_foretold) (stop := []) (n := 1) (ini := false) xx11 pl11 rfl kX11_foretold (fun h => by cases h) (Nat.le_of_ble_eq_true rfl) ?_
    refine c_within_f l _ _ _ _ _ _ _ _ h1 ?_
    refine And.intro (fun _ => ?_) (fun h => absurd (show (0 : Int32) = (0 : Int32) by decide) h)
    refine And.intro (show vp_in ((0 : Int32) + (1 : Int32)) 6 from vp_b (by decide)) ?_
    refine And.intro (show vp_in ((0 : Int32) + (2 : Int32)) 6 from vp_b (by decide)) ?_
    refine xm_of (X := xxX12) (t := tX12_foretold) (stop := []) (n := 1) (ini := false) xx12 pl12 rfl kX12_foretold (fun h => by cases h) (Nat.le_of_ble_eq_true rfl) ?_
    refine m_in_f l _ _ _ _ _ _ _ _ h1 ?_
    refine And.intro (fun _ => ?_) (fun h => absurd (show (0 : Int32) = (0 : Int32) by decide) h)
    refine And.intro (fun _ => ?_) (fun h => absurd (show (-1 : Int32) = (-1 : Int32) by decide) h)
    exact hK _ _ _ _ _ _ _ _ (law_next l xs n _ _ _ 99 18232 (Nat.le_of_ble_eq_true rfl) (Nat.le_of_ble_eq_true rfl))
set_option maxRecDepth 100000 in
set_option maxHeartbeats 4000000 in
theorem law_c22 (l : Launch) (xs : Nat → Int32) (n : Nat) : lrun l 6 xs (n + 2) 852 lloc [] shXM lI jM 99 18232 := by
  refine xrun_step fun K hK => ?_
  by_cases h1 : (1 : Int32) ≤ xs 1 ∧ xs 1 ≤ (60 : Int32)
  · skip
    refine And.intro (show vp_in ((0 : Int32) + (1 : Int32)) 6 from vp_b (by decide)) ?_
    refine And.intro (show vp_in ((0 : Int32) + (2 : Int32)) 6 from vp_b (by decide)) ?_
    refine xm_of (X := xxX11) (t := tX11_stored) (stop := []) (n := 1) (ini := false) xx11 pl11 rfl kX11_stored (fun h => by cases h) (Nat.le_of_ble_eq_true rfl) ?_
    refine c_within_t l _ _ _ _ _ _ _ _ h1.1 h1.2 ?_
    refine And.intro (fun h => absurd h (show ¬ ((1 : Int32) = (0 : Int32)) by decide)) (fun _ => ?_)
    refine c_hasBarn_0 l _ _ _ _ _ _ _ rfl ?_
    refine And.intro (fun h => absurd (show (0 : Int32) = (0 : Int32) by decide) h) (fun _ => ?_)
    refine And.intro (show vp_in ((0 : Int32) + (1 : Int32)) 6 from vp_b (by decide)) ?_
    refine And.intro (show vp_in ((0 : Int32) + (2 : Int32)) 6 from vp_b (by decide)) ?_
    refine xm_of (X := xxX12) (t := tX12_stored) (stop := []) (n := 1) (ini := false) xx12 pl12 rfl kX12_stored (fun h => by cases h) (Nat.le_of_ble_eq_true rfl) ?_
    refine m_in_t l _ _ _ _ _ _ _ _ h1.1 h1.2 ?_
    refine And.intro (fun h => absurd h (show ¬ ((1 : Int32) = (0 : Int32)) by decide)) (fun _ => ?_)
    refine xm_of (X := xxX12) (t := tX12_isBarn) (stop := []) (n := 1) (ini := false) xx12 pl12 rfl kX12_isBarn (fun h => by cases h) (Nat.le_of_ble_eq_true rfl) ?_
    refine And.intro (show vp_in (2 : Int32) 2200 from vp_b (by decide)) ?_
    refine m_in_f l _ _ _ _ _ _ _ _ (no_neg (show _ = (-1 : Int32) from rfl)) ?_
    refine And.intro (Or.inl rfl) ?_
    refine And.intro (fun h => absurd (show (0 : Int32) = (0 : Int32) by decide) h) (fun _ => ?_)
    refine And.intro (fun _ => ?_) (fun h => absurd (show (-1 : Int32) = (-1 : Int32) by decide) h)
    exact hK _ _ _ _ _ _ _ _ (law_next l xs n _ _ _ 99 18232 (Nat.le_of_ble_eq_true rfl) (Nat.le_of_ble_eq_true rfl))
  · skip
    refine And.intro (show vp_in ((0 : Int32) + (1 : Int32)) 6 from vp_b (by decide)) ?_
    refine And.intro (show vp_in ((0 : Int32) + (2 : Int32)) 6 from vp_b (by decide)) ?_
    refine xm_of (X := xxX11) (t := tX11_stored) (stop := []) (n := 1) (ini := false) xx11 pl11 rfl kX11_stored (fun h => by cases h) (Nat.le_of_ble_eq_true rfl) ?_
    refine c_within_f l _ _ _ _ _ _ _ _ h1 ?_
    refine And.intro (fun _ => ?_) (fun h => absurd (show (0 : Int32) = (0 : Int32) by decide) h)
    refine And.intro (show vp_in ((0 : Int32) + (1 : Int32)) 6 from vp_b (by decide)) ?_
    refine And.intro (show vp_in ((0 : Int32) + (2 : Int32)) 6 from vp_b (by decide)) ?_
    refine xm_of (X := xxX12) (t := tX12_stored) (stop := []) (n := 1) (ini := false) xx12 pl12 rfl kX12_stored (fun h => by cases h) (Nat.le_of_ble_eq_true rfl) ?_
    refine m_in_f l _ _ _ _ _ _ _ _ h1 ?_
    refine And.intro (fun _ => ?_) (fun h => absurd (show (0 : Int32) = (0 : Int32) by decide) h)
    refine And.intro (fun _ => ?_) (fun h => absurd (show (-1 : Int32) = (-1 : Int32) by decide) h)
    exact hK _ _ _ _ _ _ _ _ (law_next l xs n _ _ _ 99 18232 (Nat.le_of_ble_eq_true rfl) (Nat.le_of_ble_eq_true rfl))
set_option maxRecDepth 100000 in
set_option maxHeartbeats 4000000 in
theorem law_c23 (l : Launch) (xs : Nat → Int32) (n : Nat) : lrun l 6 xs (n + 2) 885 lloc [] shXM lI jM 99 18232 := by
  refine xrun_step fun K hK => ?_
  refine And.intro (show vp_in ((0 : Int32) + (1 : Int32)) 6 from vp_b (by decide)) ?_
  refine And.intro (show vp_in ((0 : Int32) + (2 : Int32)) 6 from vp_b (by decide)) ?_
  refine And.intro (show vp_in ((0 : Int32) + (3 : Int32)) 6 from vp_b (by decide)) ?_
  refine And.intro (show vp_in ((0 : Int32) + (4 : Int32)) 6 from vp_b (by decide)) ?_
  refine xm_of (X := xxX11) (t := tX11_most) (stop := []) (n := 1) (ini := false) xx11 pl11 rfl kX11_most (fun h => by cases h) (Nat.le_of_ble_eq_true rfl) ?_
  refine c_hasReaper_0 l _ _ _ _ _ _ _ rfl ?_
  refine And.intro (fun _ => ?_) (fun h => absurd (show (0 : Int32) = (0 : Int32) by decide) h)
  refine And.intro (fun _ => ?_) (fun h => absurd h (show ¬ ((1 : Int32) = (0 : Int32)) by decide))
  refine And.intro (show vp_in ((0 : Int32) + (1 : Int32)) 6 from vp_b (by decide)) ?_
  refine And.intro (show vp_in ((0 : Int32) + (2 : Int32)) 6 from vp_b (by decide)) ?_
  refine And.intro (show vp_in ((0 : Int32) + (3 : Int32)) 6 from vp_b (by decide)) ?_
  refine And.intro (show vp_in ((0 : Int32) + (4 : Int32)) 6 from vp_b (by decide)) ?_
  refine xm_of (X := xxX12) (t := tX12_most) (stop := []) (n := 1) (ini := false) xx12 pl12 rfl kX12_most (fun h => by cases h) (Nat.le_of_ble_eq_true rfl) ?_
  refine xm_of (X := xxX12) (t := tX12_isReaper) (stop := []) (n := 1) (ini := false) xx12 pl12 rfl kX12_isReaper (fun h => by cases h) (Nat.le_of_ble_eq_true rfl) ?_
  refine And.intro (show vp_in (1 : Int32) 2200 from vp_b (by decide)) ?_
  refine m_in_f l _ _ _ _ _ _ _ _ (no_neg (show _ = (-1 : Int32) from rfl)) ?_
  refine And.intro (Or.inl rfl) ?_
  refine And.intro (fun _ => ?_) (fun h => absurd (show (0 : Int32) = (0 : Int32) by decide) h)
  refine And.intro (fun _ => ?_) (fun h => absurd (show (-1 : Int32) = (-1 : Int32) by decide) h)
  exact hK _ _ _ _ _ _ _ _ (law_next l xs n _ _ _ 99 18232 (Nat.le_of_ble_eq_true rfl) (Nat.le_of_ble_eq_true rfl))
set_option maxRecDepth 100000 in
set_option maxHeartbeats 4000000 in
theorem law_c27 (l : Launch) (xs : Nat → Int32) (n : Nat) : lrun l 6 xs (n + 2) 1027 lloc [] shXM lI jM 99 18232 := by
  refine xrun_step fun K hK => ?_
  refine And.intro (show vp_in ((0 : Int32) + (1 : Int32)) 6 from vp_b (by decide)) ?_
  refine And.intro (show vp_in ((0 : Int32) + (2 : Int32)) 6 from vp_b (by decide)) ?_
  refine And.intro (show vp_in ((0 : Int32) + (3 : Int32)) 6 from vp_b (by decide)) ?_
  refine And.intro (show vp_in ((0 : Int32) + (4 : Int32)) 6 from vp_b (by decide)) ?_
  refine xm_of (X := xxX11) (t := tX11_over) (stop := []) (n := 1) (ini := false) xx11 pl11 rfl kX11_over (fun h => by cases h) (Nat.le_of_ble_eq_true rfl) ?_
  refine c_hasThing_0 l _ _ _ _ _ _ _ rfl ?_
  refine And.intro (fun _ => ?_) (fun h => absurd (show (0 : Int32) = (0 : Int32) by decide) h)
  refine And.intro (fun _ => ?_) (fun h => absurd (show (0 : Int32) = (0 : Int32) by decide) h)
  refine And.intro (show vp_in ((0 : Int32) + (1 : Int32)) 6 from vp_b (by decide)) ?_
  refine And.intro (show vp_in ((0 : Int32) + (2 : Int32)) 6 from vp_b (by decide)) ?_
  refine And.intro (show vp_in ((0 : Int32) + (3 : Int32)) 6 from vp_b (by decide)) ?_
  refine And.intro (show vp_in ((0 : Int32) + (4 : Int32)) 6 from vp_b (by decide)) ?_
  refine xm_of (X := xxX12) (t := tX12_over) (stop := []) (n := 1) (ini := false) xx12 pl12 rfl kX12_over (fun h => by cases h) (Nat.le_of_ble_eq_true rfl) ?_
  refine xm_of (X := xxX12) (t := tX12_isThing) (stop := []) (n := 1) (ini := false) xx12 pl12 rfl kX12_isThing (fun h => by cases h) (Nat.le_of_ble_eq_true rfl) ?_
  refine And.intro (show vp_in (0 : Int32) 2200 from vp_b (by decide)) ?_
  refine m_in_f l _ _ _ _ _ _ _ _ (no_neg (show _ = (-1 : Int32) from rfl)) ?_
  refine And.intro (Or.inl rfl) ?_
  refine And.intro (fun _ => ?_) (fun h => absurd (show (0 : Int32) = (0 : Int32) by decide) h)
  refine And.intro (fun _ => ?_) (fun h => absurd (show (-1 : Int32) = (-1 : Int32) by decide) h)
  exact hK _ _ _ _ _ _ _ _ (law_next l xs n _ _ _ 99 18232 (Nat.le_of_ble_eq_true rfl) (Nat.le_of_ble_eq_true rfl))
set_option maxRecDepth 100000 in
set_option maxHeartbeats 4000000 in
theorem law_c28 (l : Launch) (xs : Nat → Int32) (n : Nat) : lrun l 6 xs (n + 2) 1080 lloc [] shXM lI jM 99 18232 := by
  refine xrun_step fun K hK => ?_
  by_cases h1 : (0 : Int32) ≤ xs 1 ∧ xs 1 ≤ (5 : Int32)
  · skip
    by_cases h2 : (1 : Int32) ≤ xs 2 ∧ xs 2 ≤ (999 : Int32)
    · skip
      by_cases h3 : (0 : Int32) ≤ xs 3 ∧ xs 3 ≤ (999 : Int32)
      · skip
        refine And.intro (show vp_in ((0 : Int32) + (1 : Int32)) 6 from vp_b (by decide)) ?_
        refine And.intro (show vp_in ((0 : Int32) + (2 : Int32)) 6 from vp_b (by decide)) ?_
        refine And.intro (show vp_in ((0 : Int32) + (3 : Int32)) 6 from vp_b (by decide)) ?_
        refine xm_of (X := xxX11) (t := tX11_whose) (stop := []) (n := 1) (ini := false) xx11 pl11 rfl kX11_whose (fun h => by cases h) (Nat.le_of_ble_eq_true rfl) ?_
        refine c_within_t l _ _ _ _ _ _ _ _ h1.1 h1.2 ?_
        refine And.intro (fun h => absurd h (show ¬ ((1 : Int32) = (0 : Int32)) by decide)) (fun _ => ?_)
        refine c_within_t l _ _ _ _ _ _ _ _ h2.1 h2.2 ?_
        refine And.intro (fun h => absurd h (show ¬ ((1 : Int32) = (0 : Int32)) by decide)) (fun _ => ?_)
        refine c_within_t l _ _ _ _ _ _ _ _ h3.1 h3.2 ?_
        refine And.intro (fun _ => ?_) (fun h => absurd h (show ¬ ((1 : Int32) = (0 : Int32)) by decide))
        refine And.intro (fun _ => ?_) (fun h => absurd (show (0 : Int32) ≤ (0 : Int32) by decide) h)
        refine And.intro (show vp_in ((0 : Int32) + (1 : Int32)) 6 from vp_b (by decide)) ?_
        refine And.intro (show vp_in ((0 : Int32) + (2 : Int32)) 6 from vp_b (by decide)) ?_
        refine And.intro (show vp_in ((0 : Int32) + (3 : Int32)) 6 from vp_b (by decide)) ?_
        refine xm_of (X := xxX12) (t := tX12_whose) (stop := []) (n := 1) (ini := false) xx12 pl12 rfl kX12_whose (fun h => by cases h) (Nat.le_of_ble_eq_true rfl) ?_
        refine m_in_t l _ _ _ _ _ _ _ _ h1.1 h1.2 ?_
        refine And.intro (fun h => absurd h (show ¬ ((1 : Int32) = (0 : Int32)) by decide)) (fun _ => ?_)
        refine m_in_t l _ _ _ _ _ _ _ _ h2.1 h2.2 ?_
        refine And.intro (fun h => absurd h (show ¬ ((1 : Int32) = (0 : Int32)) by decide)) (fun _ => ?_)
        refine m_in_t l _ _ _ _ _ _ _ _ h3.1 h3.2 ?_
        refine And.intro (fun _ => ?_) (fun h => absurd h (show ¬ ((1 : Int32) = (0 : Int32)) by decide))
        refine And.intro (show vp_in (0 : Int32) 2200 from vp_b (by decide)) ?_
        refine And.intro (fun _ => ?_) (fun h => absurd (show (0 : Int32) ≤ (0 : Int32) by decide) h)
        refine And.intro (fun _ => ?_) (fun h => absurd (show (0 : Int32) = (0 : Int32) by decide) h)
        exact hK _ _ _ _ _ _ _ _ (law_next l xs n _ _ _ 99 18232 (Nat.le_of_ble_eq_true rfl) (Nat.le_of_ble_eq_true rfl))
      · skip
        refine And.intro (show vp_in ((0 : Int32) + (1 : Int32)) 6 from vp_b (by decide)) ?_
        refine And.intro (show vp_in ((0 : Int32) + (2 : Int32)) 6 from vp_b (by decide)) ?_
        refine And.intro (show vp_in ((0 : Int32) + (3 : Int32)) 6 from vp_b (by decide)) ?_
        refine xm_of (X := xxX11) (t := tX11_whose) (stop := []) (n := 1) (ini := false) xx11 pl11 rfl kX11_whose (fun h => by cases h) (Nat.le_of_ble_eq_true rfl) ?_
        refine c_within_t l _ _ _ _ _ _ _ _ h1.1 h1.2 ?_
        refine And.intro (fun h => absurd h (show ¬ ((1 : Int32) = (0 : Int32)) by decide)) (fun _ => ?_)
        refine c_within_t l _ _ _ _ _ _ _ _ h2.1 h2.2 ?_
        refine And.intro (fun h => absurd h (show ¬ ((1 : Int32) = (0 : Int32)) by decide)) (fun _ => ?_)
        refine c_within_f l _ _ _ _ _ _ _ _ h3 ?_
        refine And.intro (fun h => absurd (show (0 : Int32) = (0 : Int32) by decide) h) (fun _ => ?_)
        refine And.intro (show vp_in ((0 : Int32) + (1 : Int32)) 6 from vp_b (by decide)) ?_
        refine And.intro (show vp_in ((0 : Int32) + (2 : Int32)) 6 from vp_b (by decide)) ?_
        refine And.intro (show vp_in ((0 : Int32) + (3 : Int32)) 6 from vp_b (by decide)) ?_
        refine xm_of (X := xxX12) (t := tX12_whose) (stop := []) (n := 1) (ini := false) xx12 pl12 rfl kX12_whose (fun h => by cases h) (Nat.le_of_ble_eq_true rfl) ?_
        refine m_in_t l _ _ _ _ _ _ _ _ h1.1 h1.2 ?_
        refine And.intro (fun h => absurd h (show ¬ ((1 : Int32) = (0 : Int32)) by decide)) (fun _ => ?_)
        refine m_in_t l _ _ _ _ _ _ _ _ h2.1 h2.2 ?_
        refine And.intro (fun h => absurd h (show ¬ ((1 : Int32) = (0 : Int32)) by decide)) (fun _ => ?_)
        refine m_in_f l _ _ _ _ _ _ _ _ h3 ?_
        refine And.intro (fun h => absurd (show (0 : Int32) = (0 : Int32) by decide) h) (fun _ => ?_)
        refine And.intro (fun _ => ?_) (fun h => absurd (show (-1 : Int32) = (-1 : Int32) by decide) h)
        exact hK _ _ _ _ _ _ _ _ (law_next l xs n _ _ _ 99 18232 (Nat.le_of_ble_eq_true rfl) (Nat.le_of_ble_eq_true rfl))
    · skip
      refine And.intro (show vp_in ((0 : Int32) + (1 : Int32)) 6 from vp_b (by decide)) ?_
      refine And.intro (show vp_in ((0 : Int32) + (2 : Int32)) 6 from vp_b (by decide)) ?_
      refine And.intro (show vp_in ((0 : Int32) + (3 : Int32)) 6 from vp_b (by decide)) ?_
      refine xm_of (X := xxX11) (t := tX11_whose) (stop := []) (n := 1) (ini := false) xx11 pl11 rfl kX11_whose (fun h => by cases h) (Nat.le_of_ble_eq_true rfl) ?_
      refine c_within_t l _ _ _ _ _ _ _ _ h1.1 h1.2 ?_
      refine And.intro (fun h => absurd h (show ¬ ((1 : Int32) = (0 : Int32)) by decide)) (fun _ => ?_)
      refine c_within_f l _ _ _ _ _ _ _ _ h2 ?_
      refine And.intro (fun _ => ?_) (fun h => absurd (show (0 : Int32) = (0 : Int32) by decide) h)
      refine And.intro (show vp_in ((0 : Int32) + (1 : Int32)) 6 from vp_b (by decide)) ?_
      refine And.intro (show vp_in ((0 : Int32) + (2 : Int32)) 6 from vp_b (by decide)) ?_
      refine And.intro (show vp_in ((0 : Int32) + (3 : Int32)) 6 from vp_b (by decide)) ?_
      refine xm_of (X := xxX12) (t := tX12_whose) (stop := []) (n := 1) (ini := false) xx12 pl12 rfl kX12_whose (fun h => by cases h) (Nat.le_of_ble_eq_true rfl) ?_
      refine m_in_t l _ _ _ _ _ _ _ _ h1.1 h1.2 ?_
      refine And.intro (fun h => absurd h (show ¬ ((1 : Int32) = (0 : Int32)) by decide)) (fun _ => ?_)
      refine m_in_f l _ _ _ _ _ _ _ _ h2 ?_
      refine And.intro (fun _ => ?_) (fun h => absurd (show (0 : Int32) = (0 : Int32) by decide) h)
      refine And.intro (fun _ => ?_) (fun h => absurd (show (-1 : Int32) = (-1 : Int32) by decide) h)
      exact hK _ _ _ _ _ _ _ _ (law_next l xs n _ _ _ 99 18232 (Nat.le_of_ble_eq_true rfl) (Nat.le_of_ble_eq_true rfl))
  · skip
    refine And.intro (show vp_in ((0 : Int32) + (1 : Int32)) 6 from vp_b (by decide)) ?_
    refine And.intro (show vp_in ((0 : Int32) + (2 : Int32)) 6 from vp_b (by decide)) ?_
    refine And.intro (show vp_in ((0 : Int32) + (3 : Int32)) 6 from vp_b (by decide)) ?_
    refine xm_of (X := xxX11) (t := tX11_whose) (stop := []) (n := 1) (ini := false) xx11 pl11 rfl kX11_whose (fun h => by cases h) (Nat.le_of_ble_eq_true rfl) ?_
    refine c_within_f l _ _ _ _ _ _ _ _ h1 ?_
    refine And.intro (fun _ => ?_) (fun h => absurd (show (0 : Int32) = (0 : Int32) by decide) h)
    refine And.intro (show vp_in ((0 : Int32) + (1 : Int32)) 6 from vp_b (by decide)) ?_
    refine And.intro (show vp_in ((0 : Int32) + (2 : Int32)) 6 from vp_b (by decide)) ?_
    refine And.intro (show vp_in ((0 : Int32) + (3 : Int32)) 6 from vp_b (by decide)) ?_
    refine xm_of (X := xxX12) (t := tX12_whose) (stop := []) (n := 1) (ini := false) xx12 pl12 rfl kX12_whose (fun h => by cases h) (Nat.le_of_ble_eq_true rfl) ?_
    refine m_in_f l _ _ _ _ _ _ _ _ h1 ?_
    refine And.intro (fun _ => ?_) (fun h => absurd (show (0 : Int32) = (0 : Int32) by decide) h)
    refine And.intro (fun _ => ?_) (fun h => absurd (show (-1 : Int32) = (-1 : Int32) by decide) h)
    exact hK _ _ _ _ _ _ _ _ (law_next l xs n _ _ _ 99 18232 (Nat.le_of_ble_eq_true rfl) (Nat.le_of_ble_eq_true rfl))
set_option maxRecDepth 100000 in
set_option maxHeartbeats 4000000 in
theorem law_c29 (l : Launch) (xs : Nat → Int32) (n : Nat) : lrun l 6 xs (n + 2) 1123 lloc [] shXM lI jM 99 18232 := by
  refine xrun_step fun K hK => ?_
  refine And.intro (show vp_in ((0 : Int32) + (1 : Int32)) 6 from vp_b (by decide)) ?_
  refine And.intro (show vp_in ((0 : Int32) + (2 : Int32)) 6 from vp_b (by decide)) ?_
  refine And.intro (show vp_in ((0 : Int32) + (3 : Int32)) 6 from vp_b (by decide)) ?_
  refine xm_of (X := xxX11) (t := tX11_at) (stop := []) (n := 1) (ini := false) xx11 pl11 rfl kX11_at (fun h => by cases h) (Nat.le_of_ble_eq_true rfl) ?_
  refine c_hasThing_0 l _ _ _ _ _ _ _ rfl ?_
  refine And.intro (fun _ => ?_) (fun h => absurd (show (0 : Int32) = (0 : Int32) by decide) h)
  refine And.intro (show vp_in ((0 : Int32) + (1 : Int32)) 6 from vp_b (by decide)) ?_
  refine And.intro (show vp_in ((0 : Int32) + (2 : Int32)) 6 from vp_b (by decide)) ?_
  refine And.intro (show vp_in ((0 : Int32) + (3 : Int32)) 6 from vp_b (by decide)) ?_
  refine xm_of (X := xxX12) (t := tX12_at) (stop := []) (n := 1) (ini := false) xx12 pl12 rfl kX12_at (fun h => by cases h) (Nat.le_of_ble_eq_true rfl) ?_
  refine xm_of (X := xxX12) (t := tX12_isThing) (stop := []) (n := 1) (ini := false) xx12 pl12 rfl kX12_isThing (fun h => by cases h) (Nat.le_of_ble_eq_true rfl) ?_
  refine And.intro (show vp_in (0 : Int32) 2200 from vp_b (by decide)) ?_
  refine m_in_f l _ _ _ _ _ _ _ _ (no_neg (show _ = (-1 : Int32) from rfl)) ?_
  refine And.intro (Or.inl rfl) ?_
  refine And.intro (fun _ => ?_) (fun h => absurd (show (0 : Int32) = (0 : Int32) by decide) h)
  refine And.intro (fun _ => ?_) (fun h => absurd (show (-1 : Int32) = (-1 : Int32) by decide) h)
  exact hK _ _ _ _ _ _ _ _ (law_next l xs n _ _ _ 99 18232 (Nat.le_of_ble_eq_true rfl) (Nat.le_of_ble_eq_true rfl))
set_option maxRecDepth 100000 in
set_option maxHeartbeats 4000000 in
theorem law_c32 (l : Launch) (xs : Nat → Int32) (n : Nat) : lrun l 6 xs (n + 2) 1252 lloc [] shXM lI jM 99 18232 := by
  refine xrun_step fun K hK => ?_
  refine And.intro (show vp_in ((0 : Int32) + (1 : Int32)) 6 from vp_b (by decide)) ?_
  refine And.intro (show vp_in ((0 : Int32) + (2 : Int32)) 6 from vp_b (by decide)) ?_
  refine And.intro (show vp_in ((0 : Int32) + (3 : Int32)) 6 from vp_b (by decide)) ?_
  refine xm_of (X := xxX11) (t := tX11_when) (stop := []) (n := 1) (ini := false) xx11 pl11 rfl kX11_when (fun h => by cases h) (Nat.le_of_ble_eq_true rfl) ?_
  refine c_hasBale_0_26 l _ _ _ _ _ _ _ lI_now ?_
  refine And.intro (fun _ => ?_) (fun h => absurd (show (0 : Int32) = (0 : Int32) by decide) h)
  refine And.intro (show vp_in ((0 : Int32) + (1 : Int32)) 6 from vp_b (by decide)) ?_
  refine And.intro (show vp_in ((0 : Int32) + (2 : Int32)) 6 from vp_b (by decide)) ?_
  refine And.intro (show vp_in ((0 : Int32) + (3 : Int32)) 6 from vp_b (by decide)) ?_
  refine xm_of (X := xxX12) (t := tX12_when) (stop := []) (n := 1) (ini := false) xx12 pl12 rfl kX12_when (fun h => by cases h) (Nat.le_of_ble_eq_true rfl) ?_
  refine m_isBale_0 l _ _ _ _ _ _ _ lI_row ?_
  refine And.intro (fun _ => ?_) (fun h => absurd (show (0 : Int32) = (0 : Int32) by decide) h)
  refine And.intro (fun _ => ?_) (fun h => absurd (show (-1 : Int32) = (-1 : Int32) by decide) h)
  exact hK _ _ _ _ _ _ _ _ (law_next l xs n _ _ _ 99 18232 (Nat.le_of_ble_eq_true rfl) (Nat.le_of_ble_eq_true rfl))
