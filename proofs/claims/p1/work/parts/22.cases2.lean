theorem lt0_of {x : Int32} (h : x ≤ -1) : x < 0 := by
  have y := Int32.le_iff_toInt_le.mp h
  rw [Int32.lt_iff_toInt_lt]
  have e1 : (0 : Int32).toInt = 0 := by decide
  have e2 : (-1 : Int32).toInt = -1 := by decide
  omega
set_option maxRecDepth 100000 in
set_option maxHeartbeats 4000000 in
theorem law_c12 (l : Launch) (xs : Nat → Int32) (n : Nat) : lrun l 6 xs (n + 2) 592 lloc [] shXM lI jM 99 18232 := by
  refine xrun_step fun K hK => ?_
  refine xm_of (X := xxX11) (t := tX11_text) (stop := []) (n := 1) (ini := false) xx11 pl11 rfl kX11_text (fun h => by cases h) (Nat.le_of_ble_eq_true rfl) ?_
  refine And.intro (fun _ => ?_) (fun h => absurd (show (0 : Int32) < (4 : Int32) by decide) h)
  refine xm_of (X := xxX11) (t := tX11_textAt) (stop := []) (n := 1) (ini := false) xx11 pl11 rfl kX11_textAt (fun h => by cases h) (Nat.le_of_ble_eq_true rfl) ?_
  refine And.intro (fun h => absurd h (show ¬ ((0 : Int32) < (0 : Int32)) by decide)) (fun _ => ?_)
  refine And.intro (fun h => absurd h (show ¬ ((4 : Int32) ≤ (0 : Int32)) by decide)) (fun _ => ?_)
  refine And.intro (show vp_in (0 : Int32) 4 from vp_b (by decide)) ?_
  refine xm_of (X := xxX5) (t := tX5_read) (stop := []) (n := 1) (ini := false) xx5 pl5 rfl kX5_read (fun h => by cases h) (Nat.le_of_ble_eq_true rfl) ?_
  refine xm_of (X := xxX8) (t := tX8_clear) (stop := []) (n := 1) (ini := false) xx8 pl8 rfl kX8_clear (fun h => by cases h) (Nat.le_of_ble_eq_true rfl) ?_
  refine And.intro (fun h => absurd h (show ¬ ((5 : Int32) ≤ (0 : Int32)) by decide)) (fun _ => ?_)
  refine And.intro (show vp_in (0 : Int32) 5 from vp_b (by decide)) ?_
  refine And.intro (show vp_in (0 : Int32) 5 from vp_b (by decide)) ?_
  refine And.intro (fun h => absurd h (show ¬ ((5 : Int32) ≤ (1 : Int32)) by decide)) (fun _ => ?_)
  refine And.intro (show vp_in (1 : Int32) 5 from vp_b (by decide)) ?_
  refine And.intro (show vp_in (1 : Int32) 5 from vp_b (by decide)) ?_
  refine And.intro (fun h => absurd h (show ¬ ((5 : Int32) ≤ (2 : Int32)) by decide)) (fun _ => ?_)
  refine And.intro (show vp_in (2 : Int32) 5 from vp_b (by decide)) ?_
  refine And.intro (show vp_in (2 : Int32) 5 from vp_b (by decide)) ?_
  refine And.intro (fun h => absurd h (show ¬ ((5 : Int32) ≤ (3 : Int32)) by decide)) (fun _ => ?_)
  refine And.intro (show vp_in (3 : Int32) 5 from vp_b (by decide)) ?_
  refine And.intro (show vp_in (3 : Int32) 5 from vp_b (by decide)) ?_
  refine And.intro (fun h => absurd h (show ¬ ((5 : Int32) ≤ (4 : Int32)) by decide)) (fun _ => ?_)
  refine And.intro (show vp_in (4 : Int32) 5 from vp_b (by decide)) ?_
  refine And.intro (show vp_in (4 : Int32) 5 from vp_b (by decide)) ?_
  refine And.intro (fun _ => ?_) (fun h => absurd (show (5 : Int32) ≤ (5 : Int32) by decide) h)
  refine And.intro (Or.inr rfl) ?_
  refine xm_of (X := xxX7) (t := tX7_split) (stop := []) (n := 1) (ini := false) xx7 pl7 rfl kX7_split (fun h => by cases h) (Nat.le_of_ble_eq_true rfl) ?_
  refine And.intro (fun _ => ?_) (fun h => absurd (show (0 : Int32) ≤ (0 : Int32) by decide) h)
  refine xm_of (X := xxX7) (t := tX7_addToken) (stop := []) (n := 1) (ini := false) xx7 pl7 rfl kX7_addToken (fun h => by cases h) (Nat.le_of_ble_eq_true rfl) ?_
  refine And.intro (fun h => absurd h (show ¬ ((0 : Int32) < (0 : Int32)) by decide)) (fun _ => ?_)
  refine And.intro (fun h => absurd h (show ¬ ((301 : Int32) ≤ (0 : Int32)) by decide)) (fun _ => ?_)
  refine And.intro (show vp_in (0 : Int32) 301 from vp_b (by decide)) ?_
  refine And.intro (show vp_in (0 : Int32) 301 from vp_b (by decide)) ?_
  refine And.intro (show vp_in (0 : Int32) 301 from vp_b (by decide)) ?_
  refine xm_of (X := xxX5) (t := tX5_advance) (stop := []) (n := 1) (ini := false) xx5 pl5 rfl kX5_advance (fun h => by cases h) (Nat.le_of_ble_eq_true rfl) ?_
  refine And.intro (fun h => absurd h (show ¬ (((-1 : Int32) + (1 : Int32)) < (0 : Int32)) by decide)) (fun _ => ?_)
  refine And.intro (fun h => absurd h (show ¬ (((0 : Int32) + (1 : Int32)) ≤ ((-1 : Int32) + (1 : Int32))) by decide)) (fun _ => ?_)
  refine And.intro (fun h => absurd h (show ¬ ((301 : Int32) ≤ ((-1 : Int32) + (1 : Int32))) by decide)) (fun _ => ?_)
  refine And.intro (fun h => absurd h (show ¬ ((1 : Int32) = (0 : Int32)) by decide)) (fun _ => ?_)
  refine And.intro (show vp_in ((-1 : Int32) + (1 : Int32)) 301 from vp_b (by decide)) ?_
  refine And.intro (fun h => absurd h (show ¬ ((1 : Int32) = (0 : Int32)) by decide)) (fun _ => ?_)
  refine And.intro (show vp_in ((-1 : Int32) + (1 : Int32)) 301 from vp_b (by decide)) ?_
  refine And.intro (fun h => absurd h (show ¬ ((24 : Int32) < (0 : Int32)) by decide)) (fun _ => ?_)
  refine And.intro (fun h => absurd h (show ¬ ((1 : Int32) = (0 : Int32)) by decide)) (fun _ => ?_)
  refine And.intro (fun _ => ?_) (fun h => absurd (show (0 : Int32) = (0 : Int32) by decide) h)
  refine And.intro (Or.inr rfl) ?_
  refine And.intro (fun _ => ?_) (fun h => absurd h (show ¬ ((1 : Int32) = (0 : Int32)) by decide))
  refine xm_of (X := xxX12) (t := tX12_text) (stop := []) (n := 1) (ini := false) xx12 pl12 rfl kX12_text (fun h => by cases h) (Nat.le_of_ble_eq_true rfl) ?_
  refine And.intro (show vp_in (3 : Int32) 2200 from vp_b (by decide)) ?_
  refine And.intro (fun _ => ?_) (fun h => absurd h (show ¬ ((0 : Int32) = (4 : Int32)) by decide))
  refine xm_of (X := xxX12) (t := tX12_next) (stop := []) (n := 1) (ini := false) xx12 pl12 rfl kX12_next (fun h => by cases h) (Nat.le_of_ble_eq_true rfl) ?_
  refine And.intro (fun _ => ?_) (fun h => absurd (show (0 : Int32) ≤ (0 : Int32) by decide) h)
  refine And.intro (fun h => absurd (show (0 : Int32) = (0 : Int32) by decide) h) (fun _ => ?_)
  refine And.intro (fun h => absurd (show (0 : Int32) = (0 : Int32) by decide) h) (fun _ => ?_)
  refine And.intro (fun h => absurd (show (4 : Int32) = (4 : Int32) by decide) h) (fun _ => ?_)
  refine And.intro (fun _ => ?_) (fun h => absurd (show (0 : Int32) = (0 : Int32) by decide) h)
  refine And.intro (fun _ => ?_) (fun h => absurd (show (0 : Int32) ≤ (0 : Int32) by decide) h)
  refine And.intro (show vp_in (3 : Int32) 2200 from vp_b (by decide)) ?_
  refine And.intro (show vp_in (0 : Int32) 4 from vp_b (by decide)) ?_
  refine And.intro (fun _ => ?_) (fun h => absurd (show (0 : Int32) ≤ (0 : Int32) by decide) h)
  refine And.intro (fun _ => ?_) (fun h => absurd (show (0 : Int32) ≤ (0 : Int32) by decide) h)
  refine And.intro (show vp_in (3 : Int32) 2200 from vp_b (by decide)) ?_
  refine And.intro (show vp_in (3 : Int32) 2200 from vp_b (by decide)) ?_
  refine And.intro (fun _ => ?_) (fun h => absurd (show (((0 : Int32) + (1 : Int32)) - (1 : Int32)) = (0 : Int32) by decide) h)
  exact hK _ _ _ _ _ _ _ _ (law_next l xs n _ _ _ 99 18232 (Nat.le_of_ble_eq_true rfl) (Nat.le_of_ble_eq_true rfl))
set_option maxRecDepth 100000 in
set_option maxHeartbeats 4000000 in
theorem law_c13 (l : Launch) (xs : Nat → Int32) (n : Nat) : lrun l 6 xs (n + 2) 605 lloc [] shXM lI jM 99 18232 := by
  refine xrun_step fun K hK => ?_
  refine And.intro (show vp_in ((0 : Int32) + (1 : Int32)) 6 from vp_b (by decide)) ?_
  refine xm_of (X := xxX11) (t := tX11_fault) (stop := []) (n := 1) (ini := false) xx11 pl11 rfl kX11_fault (fun h => by cases h) (Nat.le_of_ble_eq_true rfl) ?_
  refine And.intro (fun h => absurd (show (0 : Int32) = (0 : Int32) by decide) h) (fun _ => ?_)
  refine And.intro (show vp_in ((0 : Int32) + (1 : Int32)) 6 from vp_b (by decide)) ?_
  refine xm_of (X := xxX12) (t := tX12_fault) (stop := []) (n := 1) (ini := false) xx12 pl12 rfl kX12_fault (fun h => by cases h) (Nat.le_of_ble_eq_true rfl) ?_
  refine And.intro (fun _ => ?_) (fun _ => ?_)
  · skip
    refine And.intro (fun _ => ?_) (fun _ => ?_)
    · skip
      refine And.intro (fun _ => ?_) (fun h => absurd (show (-1 : Int32) = (-1 : Int32) by decide) h)
      exact hK _ _ _ _ _ _ _ _ (law_next l xs n _ _ _ 99 18232 (Nat.le_of_ble_eq_true rfl) (Nat.le_of_ble_eq_true rfl))
    · skip
      refine And.intro (fun _ => ?_) (fun h => absurd (show (-1 : Int32) = (-1 : Int32) by decide) h)
      exact hK _ _ _ _ _ _ _ _ (law_next l xs n _ _ _ 99 18232 (Nat.le_of_ble_eq_true rfl) (Nat.le_of_ble_eq_true rfl))
  · skip
    refine And.intro (fun _ => ?_) (fun h => absurd (show (-1 : Int32) = (-1 : Int32) by decide) h)
    exact hK _ _ _ _ _ _ _ _ (law_next l xs n _ _ _ 99 18232 (Nat.le_of_ble_eq_true rfl) (Nat.le_of_ble_eq_true rfl))
set_option maxRecDepth 100000 in
set_option maxHeartbeats 4000000 in
theorem law_c14 (l : Launch) (xs : Nat → Int32) (n : Nat) : lrun l 6 xs (n + 2) 628 lloc [] shXM lI jM 99 18232 := by
  refine xrun_step fun K hK => ?_
  by_cases h1 : (-1 : Int32) ≤ xs 1 ∧ xs 1 ≤ -1
  · skip
    refine And.intro (show vp_in ((0 : Int32) + (1 : Int32)) 6 from vp_b (by decide)) ?_
    refine xm_of (X := xxX11) (t := tX11_by) (stop := []) (n := 1) (ini := false) xx11 pl11 rfl kX11_by (fun h => by cases h) (Nat.le_of_ble_eq_true rfl) ?_
    refine c_within_t l _ _ _ _ _ _ _ _ h1.1 h1.2 ?_
    refine And.intro (fun _ => ?_) (fun h => absurd h (show ¬ ((1 : Int32) = (0 : Int32)) by decide))
    refine xm_of (X := xxX11) (t := tX11_setRule) (stop := []) (n := 1) (ini := false) xx11 pl11 rfl kX11_setRule (fun h => by cases h) (Nat.le_of_ble_eq_true rfl) ?_
    refine xm_of (X := xxX11) (t := tX11_textAt) (stop := []) (n := 1) (ini := false) xx11 pl11 rfl kX11_textAt (fun h => by cases h) (Nat.le_of_ble_eq_true rfl) ?_
    refine And.intro (fun _ => ?_) (fun h => absurd (lt0_of h1.2) h)
    refine And.intro (Or.inr rfl) ?_
    refine And.intro (show vp_in ((0 : Int32) + (1 : Int32)) 6 from vp_b (by decide)) ?_
    refine xm_of (X := xxX12) (t := tX12_by) (stop := []) (n := 1) (ini := false) xx12 pl12 rfl kX12_by (fun h => by cases h) (Nat.le_of_ble_eq_true rfl) ?_
    refine And.intro (fun _ => ?_) (fun h => absurd (Int32.le_antisymm h1.2 h1.1) h)
    refine And.intro (show vp_in (4 : Int32) 2200 from vp_b (by decide)) ?_
    refine And.intro (Or.inr rfl) ?_
    refine And.intro (fun _ => ?_) (fun h => absurd (show (1 : Int32) = (1 : Int32) by decide) h)
    exact hK _ _ _ _ _ _ _ _ (law_next l xs n _ _ _ 99 18232 (Nat.le_of_ble_eq_true rfl) (Nat.le_of_ble_eq_true rfl))
  · skip
    refine And.intro (show vp_in ((0 : Int32) + (1 : Int32)) 6 from vp_b (by decide)) ?_
    refine xm_of (X := xxX11) (t := tX11_by) (stop := []) (n := 1) (ini := false) xx11 pl11 rfl kX11_by (fun h => by cases h) (Nat.le_of_ble_eq_true rfl) ?_
    refine c_within_f l _ _ _ _ _ _ _ _ h1 ?_
    refine And.intro (fun h => absurd (show (0 : Int32) = (0 : Int32) by decide) h) (fun _ => ?_)
    refine And.intro (Or.inl rfl) ?_
    refine And.intro (show vp_in ((0 : Int32) + (1 : Int32)) 6 from vp_b (by decide)) ?_
    refine xm_of (X := xxX12) (t := tX12_by) (stop := []) (n := 1) (ini := false) xx12 pl12 rfl kX12_by (fun h => by cases h) (Nat.le_of_ble_eq_true rfl) ?_
    refine And.intro (fun h => absurd (show (-1 : Int32) ≤ xs 1 ∧ xs 1 ≤ -1 by have h' : xs 1 = -1 := h; rw [h']; exact ⟨by decide, by decide⟩) h1) (fun _ => ?_)
    refine And.intro (show vp_in (3 : Int32) 2200 from vp_b (by decide)) ?_
    refine m_in_f l _ _ _ _ _ _ _ _ (no_neg (show _ = (-1 : Int32) from rfl)) ?_
    refine And.intro (fun h => absurd (show (0 : Int32) = (0 : Int32) by decide) h) (fun _ => ?_)
    refine And.intro (Or.inl rfl) ?_
    refine And.intro (fun _ => ?_) (fun h => absurd (show (0 : Int32) = (0 : Int32) by decide) h)
    exact hK _ _ _ _ _ _ _ _ (law_next l xs n _ _ _ 99 18232 (Nat.le_of_ble_eq_true rfl) (Nat.le_of_ble_eq_true rfl))
set_option maxRecDepth 100000 in
set_option maxHeartbeats 4000000 in
theorem law_c24 (l : Launch) (xs : Nat → Int32) (n : Nat) : lrun l 6 xs (n + 2) 938 lloc [] shXM lI jM 99 18232 := by
  refine xrun_step fun K hK => ?_
  by_cases e1 : xs 1 = -1
  · skip
    refine And.intro (show vp_in ((0 : Int32) + (1 : Int32)) 6 from vp_b (by decide)) ?_
    refine And.intro (show vp_in ((0 : Int32) + (2 : Int32)) 6 from vp_b (by decide)) ?_
    refine xm_of (X := xxX11) (t := tX11_need) (stop := []) (n := 1) (ini := false) xx11 pl11 rfl kX11_need (fun h => by cases h) (Nat.le_of_ble_eq_true rfl) ?_
    refine And.intro (fun h => absurd e1 h) (fun _ => ?_)
    refine And.intro (show vp_in ((0 : Int32) + (1 : Int32)) 6 from vp_b (by decide)) ?_
    refine And.intro (show vp_in ((0 : Int32) + (2 : Int32)) 6 from vp_b (by decide)) ?_
    refine xm_of (X := xxX12) (t := tX12_need) (stop := []) (n := 1) (ini := false) xx12 pl12 rfl kX12_need (fun h => by cases h) (Nat.le_of_ble_eq_true rfl) ?_
    refine And.intro (fun h => absurd e1 h) (fun _ => ?_)
    refine And.intro (show vp_in (6 : Int32) 2200 from vp_b (by decide)) ?_
    refine And.intro (fun _ => ?_) (fun h => absurd (show (0 : Int32) = (0 : Int32) by decide) h)
    exact hK _ _ _ _ _ _ _ _ (law_next l xs n _ _ _ 99 18232 (Nat.le_of_ble_eq_true rfl) (Nat.le_of_ble_eq_true rfl))
  · skip
    by_cases h1 : (0 : Int32) ≤ xs 1 ∧ xs 1 ≤ (999 : Int32)
    · skip
      by_cases h2 : (1 : Int32) ≤ xs 2 ∧ xs 2 ≤ (999 : Int32)
      · skip
        refine And.intro (show vp_in ((0 : Int32) + (1 : Int32)) 6 from vp_b (by decide)) ?_
        refine And.intro (show vp_in ((0 : Int32) + (2 : Int32)) 6 from vp_b (by decide)) ?_
        refine xm_of (X := xxX11) (t := tX11_need) (stop := []) (n := 1) (ini := false) xx11 pl11 rfl kX11_need (fun h => by cases h) (Nat.le_of_ble_eq_true rfl) ?_
        refine And.intro (fun _ => ?_) (fun h => absurd h e1)
        refine c_within_t l _ _ _ _ _ _ _ _ h1.1 h1.2 ?_
        refine And.intro (fun h => absurd h (show ¬ ((1 : Int32) = (0 : Int32)) by decide)) (fun _ => ?_)
        refine c_within_t l _ _ _ _ _ _ _ _ h2.1 h2.2 ?_
        refine And.intro (fun h => absurd h (show ¬ ((1 : Int32) = (0 : Int32)) by decide)) (fun _ => ?_)
        refine And.intro (fun _ => ?_) (fun h => absurd (show (0 : Int32) < (8 : Int32) by decide) h)
        refine And.intro (show vp_in (0 : Int32) 8 from vp_b (by decide)) ?_
        refine And.intro (show vp_in (0 : Int32) 8 from vp_b (by decide)) ?_
        refine And.intro (show vp_in ((0 : Int32) + (1 : Int32)) 6 from vp_b (by decide)) ?_
        refine And.intro (show vp_in ((0 : Int32) + (2 : Int32)) 6 from vp_b (by decide)) ?_
        refine xm_of (X := xxX12) (t := tX12_need) (stop := []) (n := 1) (ini := false) xx12 pl12 rfl kX12_need (fun h => by cases h) (Nat.le_of_ble_eq_true rfl) ?_
        refine And.intro (fun _ => ?_) (fun h => absurd h e1)
        refine m_in_t l _ _ _ _ _ _ _ _ h1.1 h1.2 ?_
        refine And.intro (fun h => absurd h (show ¬ ((1 : Int32) = (0 : Int32)) by decide)) (fun _ => ?_)
        refine m_in_t l _ _ _ _ _ _ _ _ h2.1 h2.2 ?_
        refine And.intro (fun h => absurd h (show ¬ ((1 : Int32) = (0 : Int32)) by decide)) (fun _ => ?_)
        refine And.intro (show vp_in (6 : Int32) 2200 from vp_b (by decide)) ?_
        refine And.intro (fun _ => ?_) (fun h => absurd h (show ¬ ((0 : Int32) = (8 : Int32)) by decide))
        refine And.intro (show vp_in (6 : Int32) 2200 from vp_b (by decide)) ?_
        refine And.intro (show vp_in ((42 : Int32) + ((2 : Int32) * (0 : Int32))) 2200 from vp_b (by decide)) ?_
        refine And.intro (show vp_in (6 : Int32) 2200 from vp_b (by decide)) ?_
        refine And.intro (show vp_in (((42 : Int32) + ((2 : Int32) * (0 : Int32))) + (1 : Int32)) 2200 from vp_b (by decide)) ?_
        refine And.intro (show vp_in (6 : Int32) 2200 from vp_b (by decide)) ?_
        refine And.intro (show vp_in (6 : Int32) 2200 from vp_b (by decide)) ?_
        refine And.intro (show vp_in (6 : Int32) 2200 from vp_b (by decide)) ?_
        refine And.intro (fun _ => ?_) (fun h => absurd (show ((0 : Int32) + (1 : Int32)) = ((0 : Int32) + (1 : Int32)) by decide) h)
        exact hK _ _ _ _ _ _ _ _ (law_next l xs n _ _ _ 99 18232 (Nat.le_of_ble_eq_true rfl) (Nat.le_of_ble_eq_true rfl))
      · skip
        refine And.intro (show vp_in ((0 : Int32) + (1 : Int32)) 6 from vp_b (by decide)) ?_
        refine And.intro (show vp_in ((0 : Int32) + (2 : Int32)) 6 from vp_b (by decide)) ?_
        refine xm_of (X := xxX11) (t := tX11_need) (stop := []) (n := 1) (ini := false) xx11 pl11 rfl kX11_need (fun h => by cases h) (Nat.le_of_ble_eq_true rfl) ?_
        refine And.intro (fun _ => ?_) (fun h => absurd h e1)
        refine c_within_t l _ _ _ _ _ _ _ _ h1.1 h1.2 ?_
        refine And.intro (fun h => absurd h (show ¬ ((1 : Int32) = (0 : Int32)) by decide)) (fun _ => ?_)
        refine c_within_f l _ _ _ _ _ _ _ _ h2 ?_
        refine And.intro (fun _ => ?_) (fun h => absurd (show (0 : Int32) = (0 : Int32) by decide) h)
        refine And.intro (show vp_in ((0 : Int32) + (1 : Int32)) 6 from vp_b (by decide)) ?_
        refine And.intro (show vp_in ((0 : Int32) + (2 : Int32)) 6 from vp_b (by decide)) ?_
        refine xm_of (X := xxX12) (t := tX12_need) (stop := []) (n := 1) (ini := false) xx12 pl12 rfl kX12_need (fun h => by cases h) (Nat.le_of_ble_eq_true rfl) ?_
        refine And.intro (fun _ => ?_) (fun h => absurd h e1)
        refine m_in_t l _ _ _ _ _ _ _ _ h1.1 h1.2 ?_
        refine And.intro (fun h => absurd h (show ¬ ((1 : Int32) = (0 : Int32)) by decide)) (fun _ => ?_)
        refine m_in_f l _ _ _ _ _ _ _ _ h2 ?_
        refine And.intro (fun _ => ?_) (fun h => absurd (show (0 : Int32) = (0 : Int32) by decide) h)
        refine And.intro (fun _ => ?_) (fun h => absurd (show (-2 : Int32) = (-2 : Int32) by decide) h)
        exact hK _ _ _ _ _ _ _ _ (law_next l xs n _ _ _ 99 18232 (Nat.le_of_ble_eq_true rfl) (Nat.le_of_ble_eq_true rfl))
    · skip
      refine And.intro (show vp_in ((0 : Int32) + (1 : Int32)) 6 from vp_b (by decide)) ?_
      refine And.intro (show vp_in ((0 : Int32) + (2 : Int32)) 6 from vp_b (by decide)) ?_
      refine xm_of (X := xxX11) (t := tX11_need) (stop := []) (n := 1) (ini := false) xx11 pl11 rfl kX11_need (fun h => by cases h) (Nat.le_of_ble_eq_true rfl) ?_
      refine And.intro (fun _ => ?_) (fun h => absurd h e1)
      refine c_within_f l _ _ _ _ _ _ _ _ h1 ?_
      refine And.intro (fun _ => ?_) (fun h => absurd (show (0 : Int32) = (0 : Int32) by decide) h)
      refine And.intro (show vp_in ((0 : Int32) + (1 : Int32)) 6 from vp_b (by decide)) ?_
      refine And.intro (show vp_in ((0 : Int32) + (2 : Int32)) 6 from vp_b (by decide)) ?_
      refine xm_of (X := xxX12) (t := tX12_need) (stop := []) (n := 1) (ini := false) xx12 pl12 rfl kX12_need (fun h => by cases h) (Nat.le_of_ble_eq_true rfl) ?_
      refine And.intro (fun _ => ?_) (fun h => absurd h e1)
      refine m_in_f l _ _ _ _ _ _ _ _ h1 ?_
      refine And.intro (fun _ => ?_) (fun h => absurd (show (0 : Int32) = (0 : Int32) by decide) h)
      refine And.intro (fun _ => ?_) (fun h => absurd (show (-2 : Int32) = (-2 : Int32) by decide) h)
      exact hK _ _ _ _ _ _ _ _ (law_next l xs n _ _ _ 99 18232 (Nat.le_of_ble_eq_true rfl) (Nat.le_of_ble_eq_true rfl))
set_option maxRecDepth 100000 in
set_option maxHeartbeats 4000000 in
theorem law_c34 (l : Launch) (xs : Nat → Int32) (n : Nat) : lrun l 6 xs (n + 2) 1354 lloc [] shXM lI jM 99 18232 := by
  refine xrun_step fun K hK => ?_
  refine xm_of (X := xxX11) (t := tX11_image) (stop := []) (n := 1) (ini := false) xx11 pl11 rfl kX11_image (fun h => by cases h) (Nat.le_of_ble_eq_true rfl) ?_
  refine xm_of (X := xxX1) (t := tX1_keepWorld) (stop := []) (n := 1) (ini := false) xx1 pl1 rfl kX1_keepWorld (fun h => by cases h) (Nat.le_of_ble_eq_true rfl) ?_
  refine And.intro (fun h => absurd (show (69 : Int32) = (69 : Int32) by decide) h) (fun _ => ?_)
  refine And.intro (show ¬ ((0 : Int32) < 0) ∧ ¬ ((0 : Int32) < 0) ∧ ¬ ((69 : Int32) < 0) ∧ (0 : Int32).toNatClampNeg + (69 : Int32).toNatClampNeg ≤ 69 ∧ (0 : Int32).toNatClampNeg + (69 : Int32).toNatClampNeg ≤ 69 by decide) ?_
  refine xm_of (X := xxX6) (t := tX6_takeFrom) (stop := []) (n := 1) (ini := false) xx6 pl6 rfl kX6_takeFrom (fun h => by cases h) (Nat.le_of_ble_eq_true rfl) ?_
  refine And.intro (fun h => absurd (show (2139 : Int32) = (2139 : Int32) by decide) h) (fun _ => ?_)
  refine And.intro (show ¬ ((0 : Int32) < 0) ∧ ¬ ((0 : Int32) < 0) ∧ ¬ ((2139 : Int32) < 0) ∧ (0 : Int32).toNatClampNeg + (2139 : Int32).toNatClampNeg ≤ 2139 ∧ (0 : Int32).toNatClampNeg + (2139 : Int32).toNatClampNeg ≤ 2139 by decide) ?_
  refine xm_of (X := xxX1) (t := tX1_keepTold) (stop := []) (n := 1) (ini := false) xx1 pl1 rfl kX1_keepTold (fun h => by cases h) (Nat.le_of_ble_eq_true rfl) ?_
  refine xm_of (X := xxX1) (t := tX1_keepTexts) (stop := []) (n := 1) (ini := false) xx1 pl1 rfl kX1_keepTexts (fun h => by cases h) (Nat.le_of_ble_eq_true rfl) ?_
  refine xm_of (X := xxX1) (t := tX1_keepNeeds) (stop := []) (n := 1) (ini := false) xx1 pl1 rfl kX1_keepNeeds (fun h => by cases h) (Nat.le_of_ble_eq_true rfl) ?_
  refine And.intro (fun h => absurd (show (8 : Int32) = (8 : Int32) by decide) h) (fun _ => ?_)
  refine And.intro (fun h => absurd (show (8 : Int32) = (8 : Int32) by decide) h) (fun _ => ?_)
  refine And.intro (show ¬ ((0 : Int32) < 0) ∧ ¬ ((0 : Int32) < 0) ∧ ¬ ((8 : Int32) < 0) ∧ (0 : Int32).toNatClampNeg + (8 : Int32).toNatClampNeg ≤ 8 ∧ (0 : Int32).toNatClampNeg + (8 : Int32).toNatClampNeg ≤ 8 by decide) ?_
  refine And.intro (show ¬ ((0 : Int32) < 0) ∧ ¬ ((0 : Int32) < 0) ∧ ¬ ((8 : Int32) < 0) ∧ (0 : Int32).toNatClampNeg + (8 : Int32).toNatClampNeg ≤ 8 ∧ (0 : Int32).toNatClampNeg + (8 : Int32).toNatClampNeg ≤ 8 by decide) ?_
  refine And.intro (show vp_in (65 : Int32) 69 from vp_b (by decide)) ?_
  refine xm_of (X := xxX12) (t := tX12_image) (stop := []) (n := 1) (ini := false) xx12 pl12 rfl kX12_image (fun h => by cases h) (Nat.le_of_ble_eq_true rfl) ?_
  refine m_copies1 l _ _ _ _ ?_
  refine And.intro (show vp_in (125 : Int32) 2200 from vp_b (by decide)) ?_
  refine And.intro (fun _ => ?_) (fun h => absurd (show (0 : Int32) = (0 : Int32) by decide) h)
  exact hK _ _ _ _ _ _ _ _ (law_next l xs n _ _ _ 99 18232 (Nat.le_of_ble_eq_true rfl) (Nat.le_of_ble_eq_true rfl))
set_option maxRecDepth 100000 in
set_option maxHeartbeats 4000000 in
theorem law_c35 (l : Launch) (xs : Nat → Int32) (n : Nat) : lrun l 6 xs (n + 2) 1367 lloc [] shXM lI jM 99 18232 := by
  refine xrun_step fun K hK => ?_
  refine xm_of (X := xxX11) (t := tX11_back) (stop := []) (n := 1) (ini := false) xx11 pl11 rfl kX11_back (fun h => by cases h) (Nat.le_of_ble_eq_true rfl) ?_
  refine xm_of (X := xxX1) (t := tX1_giveWorld) (stop := []) (n := 1) (ini := false) xx1 pl1 rfl kX1_giveWorld (fun h => by cases h) (Nat.le_of_ble_eq_true rfl) ?_
  refine And.intro (fun h => absurd (show (69 : Int32) = (69 : Int32) by decide) h) (fun _ => ?_)
  refine And.intro (show ¬ ((0 : Int32) < 0) ∧ ¬ ((0 : Int32) < 0) ∧ ¬ ((69 : Int32) < 0) ∧ (0 : Int32).toNatClampNeg + (69 : Int32).toNatClampNeg ≤ 69 ∧ (0 : Int32).toNatClampNeg + (69 : Int32).toNatClampNeg ≤ 69 by decide) ?_
  refine xm_of (X := xxX6) (t := tX6_takeFrom) (stop := []) (n := 1) (ini := false) xx6 pl6 rfl kX6_takeFrom (fun h => by cases h) (Nat.le_of_ble_eq_true rfl) ?_
  refine And.intro (fun h => absurd (show (2139 : Int32) = (2139 : Int32) by decide) h) (fun _ => ?_)
  refine And.intro (show ¬ ((0 : Int32) < 0) ∧ ¬ ((0 : Int32) < 0) ∧ ¬ ((2139 : Int32) < 0) ∧ (0 : Int32).toNatClampNeg + (2139 : Int32).toNatClampNeg ≤ 2139 ∧ (0 : Int32).toNatClampNeg + (2139 : Int32).toNatClampNeg ≤ 2139 by decide) ?_
  refine xm_of (X := xxX11) (t := tX11_setRule) (stop := []) (n := 1) (ini := false) xx11 pl11 rfl kX11_setRule (fun h => by cases h) (Nat.le_of_ble_eq_true rfl) ?_
  refine xm_of (X := xxX11) (t := tX11_textAt) (stop := []) (n := 1) (ini := false) xx11 pl11 rfl kX11_textAt (fun h => by cases h) (Nat.le_of_ble_eq_true rfl) ?_
  refine And.intro (fun _ => ?_) (fun h => absurd (show (-1 : Int32) < (0 : Int32) by decide) h)
  refine xm_of (X := xxX1) (t := tX1_giveNeeds) (stop := []) (n := 1) (ini := false) xx1 pl1 rfl kX1_giveNeeds (fun h => by cases h) (Nat.le_of_ble_eq_true rfl) ?_
  refine And.intro (fun h => absurd (show (8 : Int32) = (8 : Int32) by decide) h) (fun _ => ?_)
  refine And.intro (fun h => absurd (show (8 : Int32) = (8 : Int32) by decide) h) (fun _ => ?_)
  refine And.intro (show ¬ ((0 : Int32) < 0) ∧ ¬ ((0 : Int32) < 0) ∧ ¬ ((8 : Int32) < 0) ∧ (0 : Int32).toNatClampNeg + (8 : Int32).toNatClampNeg ≤ 8 ∧ (0 : Int32).toNatClampNeg + (8 : Int32).toNatClampNeg ≤ 8 by decide) ?_
  refine And.intro (show ¬ ((0 : Int32) < 0) ∧ ¬ ((0 : Int32) < 0) ∧ ¬ ((8 : Int32) < 0) ∧ (0 : Int32).toNatClampNeg + (8 : Int32).toNatClampNeg ≤ 8 ∧ (0 : Int32).toNatClampNeg + (8 : Int32).toNatClampNeg ≤ 8 by decide) ?_
  refine And.intro (show vp_in (65 : Int32) 69 from vp_b (by decide)) ?_
  refine xm_of (X := xxX12) (t := tX12_back) (stop := []) (n := 1) (ini := false) xx12 pl12 rfl kX12_back (fun h => by cases h) (Nat.le_of_ble_eq_true rfl) ?_
  refine m_copies0 l _ _ _ _ ?_
  refine And.intro (show vp_in (125 : Int32) 2200 from vp_b (by decide)) ?_
  refine And.intro (fun _ => ?_) (fun h => absurd (show (0 : Int32) = (0 : Int32) by decide) h)
  exact hK _ _ _ _ _ _ _ _ (law_next l xs n _ _ _ 99 18232 (Nat.le_of_ble_eq_true rfl) (Nat.le_of_ble_eq_true rfl))
set_option maxRecDepth 100000 in
set_option maxHeartbeats 4000000 in
theorem law_c36 (l : Launch) (xs : Nat → Int32) (n : Nat) : lrun l 6 xs (n + 2) 1380 lloc [] shXM lI jM 99 18232 := by
  refine xrun_step fun K hK => ?_
  by_cases e0 : xs 1 = 0
  · skip
    refine And.intro (show vp_in ((0 : Int32) + (1 : Int32)) 6 from vp_b (by decide)) ?_
    refine xm_of (X := xxX11) (t := tX11_about) (stop := []) (n := 1) (ini := false) xx11 pl11 rfl kX11_about (fun h => by cases h) (Nat.le_of_ble_eq_true rfl) ?_
    refine And.intro (fun _ => ?_) (fun h => absurd e0 h)
    refine And.intro (show vp_in ((0 : Int32) + (1 : Int32)) 6 from vp_b (by decide)) ?_
    refine xm_of (X := xxX12) (t := tX12_about) (stop := []) (n := 1) (ini := false) xx12 pl12 rfl kX12_about (fun h => by cases h) (Nat.le_of_ble_eq_true rfl) ?_
    refine And.intro (fun _ => ?_) (fun h => absurd e0 h)
    refine And.intro (show vp_in (0 : Int32) 2200 from vp_b (by decide)) ?_
    refine And.intro (fun _ => ?_) (fun h => absurd (show (0 : Int32) = (0 : Int32) by decide) h)
    exact hK _ _ _ _ _ _ _ _ (law_next l xs n _ _ _ 99 18232 (Nat.le_of_ble_eq_true rfl) (Nat.le_of_ble_eq_true rfl))
  by_cases e1 : xs 1 = 1
  · skip
    refine And.intro (show vp_in ((0 : Int32) + (1 : Int32)) 6 from vp_b (by decide)) ?_
    refine xm_of (X := xxX11) (t := tX11_about) (stop := []) (n := 1) (ini := false) xx11 pl11 rfl kX11_about (fun h => by cases h) (Nat.le_of_ble_eq_true rfl) ?_
    refine And.intro (fun h => absurd (e1.symm.trans h) (show ¬ ((1 : Int32) = (0 : Int32)) by decide)) (fun _ => ?_)
    refine And.intro (fun _ => ?_) (fun h => absurd e1 h)
    refine And.intro (show vp_in ((0 : Int32) + (1 : Int32)) 6 from vp_b (by decide)) ?_
    refine xm_of (X := xxX12) (t := tX12_about) (stop := []) (n := 1) (ini := false) xx12 pl12 rfl kX12_about (fun h => by cases h) (Nat.le_of_ble_eq_true rfl) ?_
    refine And.intro (fun h => absurd (e1.symm.trans h) (show ¬ ((1 : Int32) = (0 : Int32)) by decide)) (fun _ => ?_)
    refine And.intro (fun _ => ?_) (fun h => absurd e1 h)
    refine And.intro (show vp_in (1 : Int32) 2200 from vp_b (by decide)) ?_
    refine And.intro (fun _ => ?_) (fun h => absurd (show (0 : Int32) = (0 : Int32) by decide) h)
    exact hK _ _ _ _ _ _ _ _ (law_next l xs n _ _ _ 99 18232 (Nat.le_of_ble_eq_true rfl) (Nat.le_of_ble_eq_true rfl))
  by_cases e2 : xs 1 = 2
  · skip
    refine And.intro (show vp_in ((0 : Int32) + (1 : Int32)) 6 from vp_b (by decide)) ?_
    refine xm_of (X := xxX11) (t := tX11_about) (stop := []) (n := 1) (ini := false) xx11 pl11 rfl kX11_about (fun h => by cases h) (Nat.le_of_ble_eq_true rfl) ?_
    refine And.intro (fun h => absurd (e2.symm.trans h) (show ¬ ((2 : Int32) = (0 : Int32)) by decide)) (fun _ => ?_)
    refine And.intro (fun h => absurd (e2.symm.trans h) (show ¬ ((2 : Int32) = (1 : Int32)) by decide)) (fun _ => ?_)
    refine And.intro (fun _ => ?_) (fun h => absurd e2 h)
    refine And.intro (show vp_in ((0 : Int32) + (1 : Int32)) 6 from vp_b (by decide)) ?_
    refine xm_of (X := xxX12) (t := tX12_about) (stop := []) (n := 1) (ini := false) xx12 pl12 rfl kX12_about (fun h => by cases h) (Nat.le_of_ble_eq_true rfl) ?_
    refine And.intro (fun h => absurd (e2.symm.trans h) (show ¬ ((2 : Int32) = (0 : Int32)) by decide)) (fun _ => ?_)
    refine And.intro (fun h => absurd (e2.symm.trans h) (show ¬ ((2 : Int32) = (1 : Int32)) by decide)) (fun _ => ?_)
    refine And.intro (fun _ => ?_) (fun h => absurd e2 h)
    refine And.intro (show vp_in (2 : Int32) 2200 from vp_b (by decide)) ?_
    refine And.intro (fun _ => ?_) (fun h => absurd (show (0 : Int32) = (0 : Int32) by decide) h)
    exact hK _ _ _ _ _ _ _ _ (law_next l xs n _ _ _ 99 18232 (Nat.le_of_ble_eq_true rfl) (Nat.le_of_ble_eq_true rfl))
  by_cases e3 : xs 1 = 3
  · skip
    refine And.intro (show vp_in ((0 : Int32) + (1 : Int32)) 6 from vp_b (by decide)) ?_
    refine xm_of (X := xxX11) (t := tX11_about) (stop := []) (n := 1) (ini := false) xx11 pl11 rfl kX11_about (fun h => by cases h) (Nat.le_of_ble_eq_true rfl) ?_
    refine And.intro (fun h => absurd (e3.symm.trans h) (show ¬ ((3 : Int32) = (0 : Int32)) by decide)) (fun _ => ?_)
    refine And.intro (fun h => absurd (e3.symm.trans h) (show ¬ ((3 : Int32) = (1 : Int32)) by decide)) (fun _ => ?_)
    refine And.intro (fun h => absurd (e3.symm.trans h) (show ¬ ((3 : Int32) = (2 : Int32)) by decide)) (fun _ => ?_)
    refine And.intro (fun _ => ?_) (fun h => absurd e3 h)
    refine And.intro (show vp_in (64 : Int32) 69 from vp_b (by decide)) ?_
    refine And.intro (show vp_in ((0 : Int32) + (1 : Int32)) 6 from vp_b (by decide)) ?_
    refine xm_of (X := xxX12) (t := tX12_about) (stop := []) (n := 1) (ini := false) xx12 pl12 rfl kX12_about (fun h => by cases h) (Nat.le_of_ble_eq_true rfl) ?_
    refine And.intro (fun h => absurd (e3.symm.trans h) (show ¬ ((3 : Int32) = (0 : Int32)) by decide)) (fun _ => ?_)
    refine And.intro (fun h => absurd (e3.symm.trans h) (show ¬ ((3 : Int32) = (1 : Int32)) by decide)) (fun _ => ?_)
    refine And.intro (fun h => absurd (e3.symm.trans h) (show ¬ ((3 : Int32) = (2 : Int32)) by decide)) (fun _ => ?_)
    refine And.intro (fun _ => ?_) (fun h => absurd e3 h)
    refine And.intro (show vp_in (124 : Int32) 2200 from vp_b (by decide)) ?_
    refine And.intro (fun _ => ?_) (fun h => absurd (show (0 : Int32) = (0 : Int32) by decide) h)
    exact hK _ _ _ _ _ _ _ _ (law_next l xs n _ _ _ 99 18232 (Nat.le_of_ble_eq_true rfl) (Nat.le_of_ble_eq_true rfl))
  by_cases e4 : xs 1 = 4
  · skip
    refine And.intro (show vp_in ((0 : Int32) + (1 : Int32)) 6 from vp_b (by decide)) ?_
    refine xm_of (X := xxX11) (t := tX11_about) (stop := []) (n := 1) (ini := false) xx11 pl11 rfl kX11_about (fun h => by cases h) (Nat.le_of_ble_eq_true rfl) ?_
    refine And.intro (fun h => absurd (e4.symm.trans h) (show ¬ ((4 : Int32) = (0 : Int32)) by decide)) (fun _ => ?_)
    refine And.intro (fun h => absurd (e4.symm.trans h) (show ¬ ((4 : Int32) = (1 : Int32)) by decide)) (fun _ => ?_)
    refine And.intro (fun h => absurd (e4.symm.trans h) (show ¬ ((4 : Int32) = (2 : Int32)) by decide)) (fun _ => ?_)
    refine And.intro (fun h => absurd (e4.symm.trans h) (show ¬ ((4 : Int32) = (3 : Int32)) by decide)) (fun _ => ?_)
    refine And.intro (fun _ => ?_) (fun h => absurd e4 h)
    refine And.intro (show vp_in (65 : Int32) 69 from vp_b (by decide)) ?_
    refine And.intro (show vp_in ((0 : Int32) + (1 : Int32)) 6 from vp_b (by decide)) ?_
    refine xm_of (X := xxX12) (t := tX12_about) (stop := []) (n := 1) (ini := false) xx12 pl12 rfl kX12_about (fun h => by cases h) (Nat.le_of_ble_eq_true rfl) ?_
    refine And.intro (fun h => absurd (e4.symm.trans h) (show ¬ ((4 : Int32) = (0 : Int32)) by decide)) (fun _ => ?_)
    refine And.intro (fun h => absurd (e4.symm.trans h) (show ¬ ((4 : Int32) = (1 : Int32)) by decide)) (fun _ => ?_)
    refine And.intro (fun h => absurd (e4.symm.trans h) (show ¬ ((4 : Int32) = (2 : Int32)) by decide)) (fun _ => ?_)
    refine And.intro (fun h => absurd (e4.symm.trans h) (show ¬ ((4 : Int32) = (3 : Int32)) by decide)) (fun _ => ?_)
    refine And.intro (fun _ => ?_) (fun h => absurd e4 h)
    refine And.intro (show vp_in (125 : Int32) 2200 from vp_b (by decide)) ?_
    refine And.intro (fun _ => ?_) (fun h => absurd (show (0 : Int32) = (0 : Int32) by decide) h)
    exact hK _ _ _ _ _ _ _ _ (law_next l xs n _ _ _ 99 18232 (Nat.le_of_ble_eq_true rfl) (Nat.le_of_ble_eq_true rfl))
  by_cases e5 : xs 1 = 5
  · skip
    refine And.intro (show vp_in ((0 : Int32) + (1 : Int32)) 6 from vp_b (by decide)) ?_
    refine xm_of (X := xxX11) (t := tX11_about) (stop := []) (n := 1) (ini := false) xx11 pl11 rfl kX11_about (fun h => by cases h) (Nat.le_of_ble_eq_true rfl) ?_
    refine And.intro (fun h => absurd (e5.symm.trans h) (show ¬ ((5 : Int32) = (0 : Int32)) by decide)) (fun _ => ?_)
    refine And.intro (fun h => absurd (e5.symm.trans h) (show ¬ ((5 : Int32) = (1 : Int32)) by decide)) (fun _ => ?_)
    refine And.intro (fun h => absurd (e5.symm.trans h) (show ¬ ((5 : Int32) = (2 : Int32)) by decide)) (fun _ => ?_)
    refine And.intro (fun h => absurd (e5.symm.trans h) (show ¬ ((5 : Int32) = (3 : Int32)) by decide)) (fun _ => ?_)
    refine And.intro (fun h => absurd (e5.symm.trans h) (show ¬ ((5 : Int32) = (4 : Int32)) by decide)) (fun _ => ?_)
    refine And.intro (fun _ => ?_) (fun h => absurd e5 h)
    refine And.intro (show vp_in (66 : Int32) 69 from vp_b (by decide)) ?_
    refine And.intro (show vp_in ((0 : Int32) + (1 : Int32)) 6 from vp_b (by decide)) ?_
    refine xm_of (X := xxX12) (t := tX12_about) (stop := []) (n := 1) (ini := false) xx12 pl12 rfl kX12_about (fun h => by cases h) (Nat.le_of_ble_eq_true rfl) ?_
    refine And.intro (fun h => absurd (e5.symm.trans h) (show ¬ ((5 : Int32) = (0 : Int32)) by decide)) (fun _ => ?_)
    refine And.intro (fun h => absurd (e5.symm.trans h) (show ¬ ((5 : Int32) = (1 : Int32)) by decide)) (fun _ => ?_)
    refine And.intro (fun h => absurd (e5.symm.trans h) (show ¬ ((5 : Int32) = (2 : Int32)) by decide)) (fun _ => ?_)
    refine And.intro (fun h => absurd (e5.symm.trans h) (show ¬ ((5 : Int32) = (3 : Int32)) by decide)) (fun _ => ?_)
    refine And.intro (fun h => absurd (e5.symm.trans h) (show ¬ ((5 : Int32) = (4 : Int32)) by decide)) (fun _ => ?_)
    refine And.intro (fun _ => ?_) (fun h => absurd e5 h)
    refine And.intro (show vp_in (126 : Int32) 2200 from vp_b (by decide)) ?_
    refine And.intro (fun _ => ?_) (fun h => absurd (show (0 : Int32) = (0 : Int32) by decide) h)
    exact hK _ _ _ _ _ _ _ _ (law_next l xs n _ _ _ 99 18232 (Nat.le_of_ble_eq_true rfl) (Nat.le_of_ble_eq_true rfl))
  by_cases e6 : xs 1 = 6
  · skip
    refine And.intro (show vp_in ((0 : Int32) + (1 : Int32)) 6 from vp_b (by decide)) ?_
    refine xm_of (X := xxX11) (t := tX11_about) (stop := []) (n := 1) (ini := false) xx11 pl11 rfl kX11_about (fun h => by cases h) (Nat.le_of_ble_eq_true rfl) ?_
    refine And.intro (fun h => absurd (e6.symm.trans h) (show ¬ ((6 : Int32) = (0 : Int32)) by decide)) (fun _ => ?_)
    refine And.intro (fun h => absurd (e6.symm.trans h) (show ¬ ((6 : Int32) = (1 : Int32)) by decide)) (fun _ => ?_)
    refine And.intro (fun h => absurd (e6.symm.trans h) (show ¬ ((6 : Int32) = (2 : Int32)) by decide)) (fun _ => ?_)
    refine And.intro (fun h => absurd (e6.symm.trans h) (show ¬ ((6 : Int32) = (3 : Int32)) by decide)) (fun _ => ?_)
    refine And.intro (fun h => absurd (e6.symm.trans h) (show ¬ ((6 : Int32) = (4 : Int32)) by decide)) (fun _ => ?_)
    refine And.intro (fun h => absurd (e6.symm.trans h) (show ¬ ((6 : Int32) = (5 : Int32)) by decide)) (fun _ => ?_)
    refine And.intro (fun _ => ?_) (fun h => absurd e6 h)
    refine And.intro (show vp_in (67 : Int32) 69 from vp_b (by decide)) ?_
    refine And.intro (show vp_in ((0 : Int32) + (1 : Int32)) 6 from vp_b (by decide)) ?_
    refine xm_of (X := xxX12) (t := tX12_about) (stop := []) (n := 1) (ini := false) xx12 pl12 rfl kX12_about (fun h => by cases h) (Nat.le_of_ble_eq_true rfl) ?_
    refine And.intro (fun h => absurd (e6.symm.trans h) (show ¬ ((6 : Int32) = (0 : Int32)) by decide)) (fun _ => ?_)
    refine And.intro (fun h => absurd (e6.symm.trans h) (show ¬ ((6 : Int32) = (1 : Int32)) by decide)) (fun _ => ?_)
    refine And.intro (fun h => absurd (e6.symm.trans h) (show ¬ ((6 : Int32) = (2 : Int32)) by decide)) (fun _ => ?_)
    refine And.intro (fun h => absurd (e6.symm.trans h) (show ¬ ((6 : Int32) = (3 : Int32)) by decide)) (fun _ => ?_)
    refine And.intro (fun h => absurd (e6.symm.trans h) (show ¬ ((6 : Int32) = (4 : Int32)) by decide)) (fun _ => ?_)
    refine And.intro (fun h => absurd (e6.symm.trans h) (show ¬ ((6 : Int32) = (5 : Int32)) by decide)) (fun _ => ?_)
    refine And.intro (fun _ => ?_) (fun h => absurd e6 h)
    refine And.intro (show vp_in (127 : Int32) 2200 from vp_b (by decide)) ?_
    refine And.intro (fun _ => ?_) (fun h => absurd (show (0 : Int32) = (0 : Int32) by decide) h)
    exact hK _ _ _ _ _ _ _ _ (law_next l xs n _ _ _ 99 18232 (Nat.le_of_ble_eq_true rfl) (Nat.le_of_ble_eq_true rfl))
  by_cases e7 : xs 1 = 7
  · skip
    refine And.intro (show vp_in ((0 : Int32) + (1 : Int32)) 6 from vp_b (by decide)) ?_
    refine xm_of (X := xxX11) (t := tX11_about) (stop := []) (n := 1) (ini := false) xx11 pl11 rfl kX11_about (fun h => by cases h) (Nat.le_of_ble_eq_true rfl) ?_
    refine And.intro (fun h => absurd (e7.symm.trans h) (show ¬ ((7 : Int32) = (0 : Int32)) by decide)) (fun _ => ?_)
    refine And.intro (fun h => absurd (e7.symm.trans h) (show ¬ ((7 : Int32) = (1 : Int32)) by decide)) (fun _ => ?_)
    refine And.intro (fun h => absurd (e7.symm.trans h) (show ¬ ((7 : Int32) = (2 : Int32)) by decide)) (fun _ => ?_)
    refine And.intro (fun h => absurd (e7.symm.trans h) (show ¬ ((7 : Int32) = (3 : Int32)) by decide)) (fun _ => ?_)
    refine And.intro (fun h => absurd (e7.symm.trans h) (show ¬ ((7 : Int32) = (4 : Int32)) by decide)) (fun _ => ?_)
    refine And.intro (fun h => absurd (e7.symm.trans h) (show ¬ ((7 : Int32) = (5 : Int32)) by decide)) (fun _ => ?_)
    refine And.intro (fun h => absurd (e7.symm.trans h) (show ¬ ((7 : Int32) = (6 : Int32)) by decide)) (fun _ => ?_)
    refine And.intro (fun _ => ?_) (fun h => absurd e7 h)
    refine And.intro (show vp_in (68 : Int32) 69 from vp_b (by decide)) ?_
    refine And.intro (show vp_in ((0 : Int32) + (1 : Int32)) 6 from vp_b (by decide)) ?_
    refine xm_of (X := xxX12) (t := tX12_about) (stop := []) (n := 1) (ini := false) xx12 pl12 rfl kX12_about (fun h => by cases h) (Nat.le_of_ble_eq_true rfl) ?_
    refine And.intro (fun h => absurd (e7.symm.trans h) (show ¬ ((7 : Int32) = (0 : Int32)) by decide)) (fun _ => ?_)
    refine And.intro (fun h => absurd (e7.symm.trans h) (show ¬ ((7 : Int32) = (1 : Int32)) by decide)) (fun _ => ?_)
    refine And.intro (fun h => absurd (e7.symm.trans h) (show ¬ ((7 : Int32) = (2 : Int32)) by decide)) (fun _ => ?_)
    refine And.intro (fun h => absurd (e7.symm.trans h) (show ¬ ((7 : Int32) = (3 : Int32)) by decide)) (fun _ => ?_)
    refine And.intro (fun h => absurd (e7.symm.trans h) (show ¬ ((7 : Int32) = (4 : Int32)) by decide)) (fun _ => ?_)
    refine And.intro (fun h => absurd (e7.symm.trans h) (show ¬ ((7 : Int32) = (5 : Int32)) by decide)) (fun _ => ?_)
    refine And.intro (fun h => absurd (e7.symm.trans h) (show ¬ ((7 : Int32) = (6 : Int32)) by decide)) (fun _ => ?_)
    refine And.intro (fun _ => ?_) (fun h => absurd e7 h)
    refine And.intro (show vp_in (128 : Int32) 2200 from vp_b (by decide)) ?_
    refine And.intro (fun _ => ?_) (fun h => absurd (show (83 : Int32) = (83 : Int32) by decide) h)
    exact hK _ _ _ _ _ _ _ _ (law_next l xs n _ _ _ 99 18232 (Nat.le_of_ble_eq_true rfl) (Nat.le_of_ble_eq_true rfl))
  by_cases e8 : xs 1 = 8
  · skip
    refine And.intro (show vp_in ((0 : Int32) + (1 : Int32)) 6 from vp_b (by decide)) ?_
    refine xm_of (X := xxX11) (t := tX11_about) (stop := []) (n := 1) (ini := false) xx11 pl11 rfl kX11_about (fun h => by cases h) (Nat.le_of_ble_eq_true rfl) ?_
    refine And.intro (fun h => absurd (e8.symm.trans h) (show ¬ ((8 : Int32) = (0 : Int32)) by decide)) (fun _ => ?_)
    refine And.intro (fun h => absurd (e8.symm.trans h) (show ¬ ((8 : Int32) = (1 : Int32)) by decide)) (fun _ => ?_)
    refine And.intro (fun h => absurd (e8.symm.trans h) (show ¬ ((8 : Int32) = (2 : Int32)) by decide)) (fun _ => ?_)
    refine And.intro (fun h => absurd (e8.symm.trans h) (show ¬ ((8 : Int32) = (3 : Int32)) by decide)) (fun _ => ?_)
    refine And.intro (fun h => absurd (e8.symm.trans h) (show ¬ ((8 : Int32) = (4 : Int32)) by decide)) (fun _ => ?_)
    refine And.intro (fun h => absurd (e8.symm.trans h) (show ¬ ((8 : Int32) = (5 : Int32)) by decide)) (fun _ => ?_)
    refine And.intro (fun h => absurd (e8.symm.trans h) (show ¬ ((8 : Int32) = (6 : Int32)) by decide)) (fun _ => ?_)
    refine And.intro (fun h => absurd (e8.symm.trans h) (show ¬ ((8 : Int32) = (7 : Int32)) by decide)) (fun _ => ?_)
    refine And.intro (fun _ => ?_) (fun h => absurd e8 h)
    refine And.intro (show vp_in ((0 : Int32) + (1 : Int32)) 6 from vp_b (by decide)) ?_
    refine xm_of (X := xxX12) (t := tX12_about) (stop := []) (n := 1) (ini := false) xx12 pl12 rfl kX12_about (fun h => by cases h) (Nat.le_of_ble_eq_true rfl) ?_
    refine And.intro (fun h => absurd (e8.symm.trans h) (show ¬ ((8 : Int32) = (0 : Int32)) by decide)) (fun _ => ?_)
    refine And.intro (fun h => absurd (e8.symm.trans h) (show ¬ ((8 : Int32) = (1 : Int32)) by decide)) (fun _ => ?_)
    refine And.intro (fun h => absurd (e8.symm.trans h) (show ¬ ((8 : Int32) = (2 : Int32)) by decide)) (fun _ => ?_)
    refine And.intro (fun h => absurd (e8.symm.trans h) (show ¬ ((8 : Int32) = (3 : Int32)) by decide)) (fun _ => ?_)
    refine And.intro (fun h => absurd (e8.symm.trans h) (show ¬ ((8 : Int32) = (4 : Int32)) by decide)) (fun _ => ?_)
    refine And.intro (fun h => absurd (e8.symm.trans h) (show ¬ ((8 : Int32) = (5 : Int32)) by decide)) (fun _ => ?_)
    refine And.intro (fun h => absurd (e8.symm.trans h) (show ¬ ((8 : Int32) = (6 : Int32)) by decide)) (fun _ => ?_)
    refine And.intro (fun h => absurd (e8.symm.trans h) (show ¬ ((8 : Int32) = (7 : Int32)) by decide)) (fun _ => ?_)
    refine And.intro (fun _ => ?_) (fun h => absurd e8 h)
    refine And.intro (show vp_in (3 : Int32) 2200 from vp_b (by decide)) ?_
    refine And.intro (fun _ => ?_) (fun h => absurd (show (0 : Int32) = (0 : Int32) by decide) h)
    exact hK _ _ _ _ _ _ _ _ (law_next l xs n _ _ _ 99 18232 (Nat.le_of_ble_eq_true rfl) (Nat.le_of_ble_eq_true rfl))
  by_cases e9 : xs 1 = 9
  · skip
    refine And.intro (show vp_in ((0 : Int32) + (1 : Int32)) 6 from vp_b (by decide)) ?_
    refine xm_of (X := xxX11) (t := tX11_about) (stop := []) (n := 1) (ini := false) xx11 pl11 rfl kX11_about (fun h => by cases h) (Nat.le_of_ble_eq_true rfl) ?_
    refine And.intro (fun h => absurd (e9.symm.trans h) (show ¬ ((9 : Int32) = (0 : Int32)) by decide)) (fun _ => ?_)
    refine And.intro (fun h => absurd (e9.symm.trans h) (show ¬ ((9 : Int32) = (1 : Int32)) by decide)) (fun _ => ?_)
    refine And.intro (fun h => absurd (e9.symm.trans h) (show ¬ ((9 : Int32) = (2 : Int32)) by decide)) (fun _ => ?_)
    refine And.intro (fun h => absurd (e9.symm.trans h) (show ¬ ((9 : Int32) = (3 : Int32)) by decide)) (fun _ => ?_)
    refine And.intro (fun h => absurd (e9.symm.trans h) (show ¬ ((9 : Int32) = (4 : Int32)) by decide)) (fun _ => ?_)
    refine And.intro (fun h => absurd (e9.symm.trans h) (show ¬ ((9 : Int32) = (5 : Int32)) by decide)) (fun _ => ?_)
    refine And.intro (fun h => absurd (e9.symm.trans h) (show ¬ ((9 : Int32) = (6 : Int32)) by decide)) (fun _ => ?_)
    refine And.intro (fun h => absurd (e9.symm.trans h) (show ¬ ((9 : Int32) = (7 : Int32)) by decide)) (fun _ => ?_)
    refine And.intro (fun h => absurd (e9.symm.trans h) (show ¬ ((9 : Int32) = (8 : Int32)) by decide)) (fun _ => ?_)
    refine And.intro (fun _ => ?_) (fun h => absurd e9 h)
    refine And.intro (show vp_in ((0 : Int32) + (1 : Int32)) 6 from vp_b (by decide)) ?_
    refine xm_of (X := xxX12) (t := tX12_about) (stop := []) (n := 1) (ini := false) xx12 pl12 rfl kX12_about (fun h => by cases h) (Nat.le_of_ble_eq_true rfl) ?_
    refine And.intro (fun h => absurd (e9.symm.trans h) (show ¬ ((9 : Int32) = (0 : Int32)) by decide)) (fun _ => ?_)
    refine And.intro (fun h => absurd (e9.symm.trans h) (show ¬ ((9 : Int32) = (1 : Int32)) by decide)) (fun _ => ?_)
    refine And.intro (fun h => absurd (e9.symm.trans h) (show ¬ ((9 : Int32) = (2 : Int32)) by decide)) (fun _ => ?_)
    refine And.intro (fun h => absurd (e9.symm.trans h) (show ¬ ((9 : Int32) = (3 : Int32)) by decide)) (fun _ => ?_)
    refine And.intro (fun h => absurd (e9.symm.trans h) (show ¬ ((9 : Int32) = (4 : Int32)) by decide)) (fun _ => ?_)
    refine And.intro (fun h => absurd (e9.symm.trans h) (show ¬ ((9 : Int32) = (5 : Int32)) by decide)) (fun _ => ?_)
    refine And.intro (fun h => absurd (e9.symm.trans h) (show ¬ ((9 : Int32) = (6 : Int32)) by decide)) (fun _ => ?_)
    refine And.intro (fun h => absurd (e9.symm.trans h) (show ¬ ((9 : Int32) = (7 : Int32)) by decide)) (fun _ => ?_)
    refine And.intro (fun h => absurd (e9.symm.trans h) (show ¬ ((9 : Int32) = (8 : Int32)) by decide)) (fun _ => ?_)
    refine And.intro (fun _ => ?_) (fun h => absurd e9 h)
    refine And.intro (show vp_in (4 : Int32) 2200 from vp_b (by decide)) ?_
    refine And.intro (fun _ => ?_) (fun h => absurd (show (-1 : Int32) = (-1 : Int32) by decide) h)
    exact hK _ _ _ _ _ _ _ _ (law_next l xs n _ _ _ 99 18232 (Nat.le_of_ble_eq_true rfl) (Nat.le_of_ble_eq_true rfl))
  by_cases e10 : xs 1 = 10
  · skip
    refine And.intro (show vp_in ((0 : Int32) + (1 : Int32)) 6 from vp_b (by decide)) ?_
    refine xm_of (X := xxX11) (t := tX11_about) (stop := []) (n := 1) (ini := false) xx11 pl11 rfl kX11_about (fun h => by cases h) (Nat.le_of_ble_eq_true rfl) ?_
    refine And.intro (fun h => absurd (e10.symm.trans h) (show ¬ ((10 : Int32) = (0 : Int32)) by decide)) (fun _ => ?_)
    refine And.intro (fun h => absurd (e10.symm.trans h) (show ¬ ((10 : Int32) = (1 : Int32)) by decide)) (fun _ => ?_)
    refine And.intro (fun h => absurd (e10.symm.trans h) (show ¬ ((10 : Int32) = (2 : Int32)) by decide)) (fun _ => ?_)
    refine And.intro (fun h => absurd (e10.symm.trans h) (show ¬ ((10 : Int32) = (3 : Int32)) by decide)) (fun _ => ?_)
    refine And.intro (fun h => absurd (e10.symm.trans h) (show ¬ ((10 : Int32) = (4 : Int32)) by decide)) (fun _ => ?_)
    refine And.intro (fun h => absurd (e10.symm.trans h) (show ¬ ((10 : Int32) = (5 : Int32)) by decide)) (fun _ => ?_)
    refine And.intro (fun h => absurd (e10.symm.trans h) (show ¬ ((10 : Int32) = (6 : Int32)) by decide)) (fun _ => ?_)
    refine And.intro (fun h => absurd (e10.symm.trans h) (show ¬ ((10 : Int32) = (7 : Int32)) by decide)) (fun _ => ?_)
    refine And.intro (fun h => absurd (e10.symm.trans h) (show ¬ ((10 : Int32) = (8 : Int32)) by decide)) (fun _ => ?_)
    refine And.intro (fun h => absurd (e10.symm.trans h) (show ¬ ((10 : Int32) = (9 : Int32)) by decide)) (fun _ => ?_)
    refine And.intro (fun _ => ?_) (fun h => absurd e10 h)
    refine And.intro (show vp_in ((0 : Int32) + (1 : Int32)) 6 from vp_b (by decide)) ?_
    refine xm_of (X := xxX12) (t := tX12_about) (stop := []) (n := 1) (ini := false) xx12 pl12 rfl kX12_about (fun h => by cases h) (Nat.le_of_ble_eq_true rfl) ?_
    refine And.intro (fun h => absurd (e10.symm.trans h) (show ¬ ((10 : Int32) = (0 : Int32)) by decide)) (fun _ => ?_)
    refine And.intro (fun h => absurd (e10.symm.trans h) (show ¬ ((10 : Int32) = (1 : Int32)) by decide)) (fun _ => ?_)
    refine And.intro (fun h => absurd (e10.symm.trans h) (show ¬ ((10 : Int32) = (2 : Int32)) by decide)) (fun _ => ?_)
    refine And.intro (fun h => absurd (e10.symm.trans h) (show ¬ ((10 : Int32) = (3 : Int32)) by decide)) (fun _ => ?_)
    refine And.intro (fun h => absurd (e10.symm.trans h) (show ¬ ((10 : Int32) = (4 : Int32)) by decide)) (fun _ => ?_)
    refine And.intro (fun h => absurd (e10.symm.trans h) (show ¬ ((10 : Int32) = (5 : Int32)) by decide)) (fun _ => ?_)
    refine And.intro (fun h => absurd (e10.symm.trans h) (show ¬ ((10 : Int32) = (6 : Int32)) by decide)) (fun _ => ?_)
    refine And.intro (fun h => absurd (e10.symm.trans h) (show ¬ ((10 : Int32) = (7 : Int32)) by decide)) (fun _ => ?_)
    refine And.intro (fun h => absurd (e10.symm.trans h) (show ¬ ((10 : Int32) = (8 : Int32)) by decide)) (fun _ => ?_)
    refine And.intro (fun h => absurd (e10.symm.trans h) (show ¬ ((10 : Int32) = (9 : Int32)) by decide)) (fun _ => ?_)
    refine And.intro (fun _ => ?_) (fun h => absurd e10 h)
    refine And.intro (show vp_in (5 : Int32) 2200 from vp_b (by decide)) ?_
    refine And.intro (fun _ => ?_) (fun h => absurd (show (0 : Int32) = (0 : Int32) by decide) h)
    exact hK _ _ _ _ _ _ _ _ (law_next l xs n _ _ _ 99 18232 (Nat.le_of_ble_eq_true rfl) (Nat.le_of_ble_eq_true rfl))
  by_cases e11 : xs 1 = 11
  · skip
    refine And.intro (show vp_in ((0 : Int32) + (1 : Int32)) 6 from vp_b (by decide)) ?_
    refine xm_of (X := xxX11) (t := tX11_about) (stop := []) (n := 1) (ini := false) xx11 pl11 rfl kX11_about (fun h => by cases h) (Nat.le_of_ble_eq_true rfl) ?_
    refine And.intro (fun h => absurd (e11.symm.trans h) (show ¬ ((11 : Int32) = (0 : Int32)) by decide)) (fun _ => ?_)
    refine And.intro (fun h => absurd (e11.symm.trans h) (show ¬ ((11 : Int32) = (1 : Int32)) by decide)) (fun _ => ?_)
    refine And.intro (fun h => absurd (e11.symm.trans h) (show ¬ ((11 : Int32) = (2 : Int32)) by decide)) (fun _ => ?_)
    refine And.intro (fun h => absurd (e11.symm.trans h) (show ¬ ((11 : Int32) = (3 : Int32)) by decide)) (fun _ => ?_)
    refine And.intro (fun h => absurd (e11.symm.trans h) (show ¬ ((11 : Int32) = (4 : Int32)) by decide)) (fun _ => ?_)
    refine And.intro (fun h => absurd (e11.symm.trans h) (show ¬ ((11 : Int32) = (5 : Int32)) by decide)) (fun _ => ?_)
    refine And.intro (fun h => absurd (e11.symm.trans h) (show ¬ ((11 : Int32) = (6 : Int32)) by decide)) (fun _ => ?_)
    refine And.intro (fun h => absurd (e11.symm.trans h) (show ¬ ((11 : Int32) = (7 : Int32)) by decide)) (fun _ => ?_)
    refine And.intro (fun h => absurd (e11.symm.trans h) (show ¬ ((11 : Int32) = (8 : Int32)) by decide)) (fun _ => ?_)
    refine And.intro (fun h => absurd (e11.symm.trans h) (show ¬ ((11 : Int32) = (9 : Int32)) by decide)) (fun _ => ?_)
    refine And.intro (fun h => absurd (e11.symm.trans h) (show ¬ ((11 : Int32) = (10 : Int32)) by decide)) (fun _ => ?_)
    refine And.intro (fun _ => ?_) (fun h => absurd e11 h)
    refine And.intro (show vp_in ((0 : Int32) + (1 : Int32)) 6 from vp_b (by decide)) ?_
    refine xm_of (X := xxX12) (t := tX12_about) (stop := []) (n := 1) (ini := false) xx12 pl12 rfl kX12_about (fun h => by cases h) (Nat.le_of_ble_eq_true rfl) ?_
    refine And.intro (fun h => absurd (e11.symm.trans h) (show ¬ ((11 : Int32) = (0 : Int32)) by decide)) (fun _ => ?_)
    refine And.intro (fun h => absurd (e11.symm.trans h) (show ¬ ((11 : Int32) = (1 : Int32)) by decide)) (fun _ => ?_)
    refine And.intro (fun h => absurd (e11.symm.trans h) (show ¬ ((11 : Int32) = (2 : Int32)) by decide)) (fun _ => ?_)
    refine And.intro (fun h => absurd (e11.symm.trans h) (show ¬ ((11 : Int32) = (3 : Int32)) by decide)) (fun _ => ?_)
    refine And.intro (fun h => absurd (e11.symm.trans h) (show ¬ ((11 : Int32) = (4 : Int32)) by decide)) (fun _ => ?_)
    refine And.intro (fun h => absurd (e11.symm.trans h) (show ¬ ((11 : Int32) = (5 : Int32)) by decide)) (fun _ => ?_)
    refine And.intro (fun h => absurd (e11.symm.trans h) (show ¬ ((11 : Int32) = (6 : Int32)) by decide)) (fun _ => ?_)
    refine And.intro (fun h => absurd (e11.symm.trans h) (show ¬ ((11 : Int32) = (7 : Int32)) by decide)) (fun _ => ?_)
    refine And.intro (fun h => absurd (e11.symm.trans h) (show ¬ ((11 : Int32) = (8 : Int32)) by decide)) (fun _ => ?_)
    refine And.intro (fun h => absurd (e11.symm.trans h) (show ¬ ((11 : Int32) = (9 : Int32)) by decide)) (fun _ => ?_)
    refine And.intro (fun h => absurd (e11.symm.trans h) (show ¬ ((11 : Int32) = (10 : Int32)) by decide)) (fun _ => ?_)
    refine And.intro (fun _ => ?_) (fun h => absurd e11 h)
    refine And.intro (show vp_in (6 : Int32) 2200 from vp_b (by decide)) ?_
    refine And.intro (fun _ => ?_) (fun h => absurd (show (0 : Int32) = (0 : Int32) by decide) h)
    exact hK _ _ _ _ _ _ _ _ (law_next l xs n _ _ _ 99 18232 (Nat.le_of_ble_eq_true rfl) (Nat.le_of_ble_eq_true rfl))
  by_cases e12 : xs 1 = 12
  · skip
    refine And.intro (show vp_in ((0 : Int32) + (1 : Int32)) 6 from vp_b (by decide)) ?_
    refine xm_of (X := xxX11) (t := tX11_about) (stop := []) (n := 1) (ini := false) xx11 pl11 rfl kX11_about (fun h => by cases h) (Nat.le_of_ble_eq_true rfl) ?_
    refine And.intro (fun h => absurd (e12.symm.trans h) (show ¬ ((12 : Int32) = (0 : Int32)) by decide)) (fun _ => ?_)
    refine And.intro (fun h => absurd (e12.symm.trans h) (show ¬ ((12 : Int32) = (1 : Int32)) by decide)) (fun _ => ?_)
    refine And.intro (fun h => absurd (e12.symm.trans h) (show ¬ ((12 : Int32) = (2 : Int32)) by decide)) (fun _ => ?_)
    refine And.intro (fun h => absurd (e12.symm.trans h) (show ¬ ((12 : Int32) = (3 : Int32)) by decide)) (fun _ => ?_)
    refine And.intro (fun h => absurd (e12.symm.trans h) (show ¬ ((12 : Int32) = (4 : Int32)) by decide)) (fun _ => ?_)
    refine And.intro (fun h => absurd (e12.symm.trans h) (show ¬ ((12 : Int32) = (5 : Int32)) by decide)) (fun _ => ?_)
    refine And.intro (fun h => absurd (e12.symm.trans h) (show ¬ ((12 : Int32) = (6 : Int32)) by decide)) (fun _ => ?_)
    refine And.intro (fun h => absurd (e12.symm.trans h) (show ¬ ((12 : Int32) = (7 : Int32)) by decide)) (fun _ => ?_)
    refine And.intro (fun h => absurd (e12.symm.trans h) (show ¬ ((12 : Int32) = (8 : Int32)) by decide)) (fun _ => ?_)
    refine And.intro (fun h => absurd (e12.symm.trans h) (show ¬ ((12 : Int32) = (9 : Int32)) by decide)) (fun _ => ?_)
    refine And.intro (fun h => absurd (e12.symm.trans h) (show ¬ ((12 : Int32) = (10 : Int32)) by decide)) (fun _ => ?_)
    refine And.intro (fun h => absurd (e12.symm.trans h) (show ¬ ((12 : Int32) = (11 : Int32)) by decide)) (fun _ => ?_)
    refine And.intro (fun _ => ?_) (fun h => absurd e12 h)
    refine And.intro (show vp_in ((0 : Int32) + (1 : Int32)) 6 from vp_b (by decide)) ?_
    refine xm_of (X := xxX12) (t := tX12_about) (stop := []) (n := 1) (ini := false) xx12 pl12 rfl kX12_about (fun h => by cases h) (Nat.le_of_ble_eq_true rfl) ?_
    refine And.intro (fun h => absurd (e12.symm.trans h) (show ¬ ((12 : Int32) = (0 : Int32)) by decide)) (fun _ => ?_)
    refine And.intro (fun h => absurd (e12.symm.trans h) (show ¬ ((12 : Int32) = (1 : Int32)) by decide)) (fun _ => ?_)
    refine And.intro (fun h => absurd (e12.symm.trans h) (show ¬ ((12 : Int32) = (2 : Int32)) by decide)) (fun _ => ?_)
    refine And.intro (fun h => absurd (e12.symm.trans h) (show ¬ ((12 : Int32) = (3 : Int32)) by decide)) (fun _ => ?_)
    refine And.intro (fun h => absurd (e12.symm.trans h) (show ¬ ((12 : Int32) = (4 : Int32)) by decide)) (fun _ => ?_)
    refine And.intro (fun h => absurd (e12.symm.trans h) (show ¬ ((12 : Int32) = (5 : Int32)) by decide)) (fun _ => ?_)
    refine And.intro (fun h => absurd (e12.symm.trans h) (show ¬ ((12 : Int32) = (6 : Int32)) by decide)) (fun _ => ?_)
    refine And.intro (fun h => absurd (e12.symm.trans h) (show ¬ ((12 : Int32) = (7 : Int32)) by decide)) (fun _ => ?_)
    refine And.intro (fun h => absurd (e12.symm.trans h) (show ¬ ((12 : Int32) = (8 : Int32)) by decide)) (fun _ => ?_)
    refine And.intro (fun h => absurd (e12.symm.trans h) (show ¬ ((12 : Int32) = (9 : Int32)) by decide)) (fun _ => ?_)
    refine And.intro (fun h => absurd (e12.symm.trans h) (show ¬ ((12 : Int32) = (10 : Int32)) by decide)) (fun _ => ?_)
    refine And.intro (fun h => absurd (e12.symm.trans h) (show ¬ ((12 : Int32) = (11 : Int32)) by decide)) (fun _ => ?_)
    refine And.intro (fun _ => ?_) (fun h => absurd e12 h)
    refine And.intro (fun _ => ?_) (fun h => absurd (show (0 : Int32) = (0 : Int32) by decide) h)
    exact hK _ _ _ _ _ _ _ _ (law_next l xs n _ _ _ 99 18232 (Nat.le_of_ble_eq_true rfl) (Nat.le_of_ble_eq_true rfl))
  refine And.intro (show vp_in ((0 : Int32) + (1 : Int32)) 6 from vp_b (by decide)) ?_
  refine xm_of (X := xxX11) (t := tX11_about) (stop := []) (n := 1) (ini := false) xx11 pl11 rfl kX11_about (fun h => by cases h) (Nat.le_of_ble_eq_true rfl) ?_
  refine And.intro (fun h => absurd h e0) (fun _ => ?_)
  refine And.intro (fun h => absurd h e1) (fun _ => ?_)
  refine And.intro (fun h => absurd h e2) (fun _ => ?_)
  refine And.intro (fun h => absurd h e3) (fun _ => ?_)
  refine And.intro (fun h => absurd h e4) (fun _ => ?_)
  refine And.intro (fun h => absurd h e5) (fun _ => ?_)
  refine And.intro (fun h => absurd h e6) (fun _ => ?_)
  refine And.intro (fun h => absurd h e7) (fun _ => ?_)
  refine And.intro (fun h => absurd h e8) (fun _ => ?_)
  refine And.intro (fun h => absurd h e9) (fun _ => ?_)
  refine And.intro (fun h => absurd h e10) (fun _ => ?_)
  refine And.intro (fun h => absurd h e11) (fun _ => ?_)
  refine And.intro (fun h => absurd h e12) (fun _ => ?_)
  refine And.intro (show vp_in ((0 : Int32) + (1 : Int32)) 6 from vp_b (by decide)) ?_
  refine xm_of (X := xxX12) (t := tX12_about) (stop := []) (n := 1) (ini := false) xx12 pl12 rfl kX12_about (fun h => by cases h) (Nat.le_of_ble_eq_true rfl) ?_
  refine And.intro (fun h => absurd h e0) (fun _ => ?_)
  refine And.intro (fun h => absurd h e1) (fun _ => ?_)
  refine And.intro (fun h => absurd h e2) (fun _ => ?_)
  refine And.intro (fun h => absurd h e3) (fun _ => ?_)
  refine And.intro (fun h => absurd h e4) (fun _ => ?_)
  refine And.intro (fun h => absurd h e5) (fun _ => ?_)
  refine And.intro (fun h => absurd h e6) (fun _ => ?_)
  refine And.intro (fun h => absurd h e7) (fun _ => ?_)
  refine And.intro (fun h => absurd h e8) (fun _ => ?_)
  refine And.intro (fun h => absurd h e9) (fun _ => ?_)
  refine And.intro (fun h => absurd h e10) (fun _ => ?_)
  refine And.intro (fun h => absurd h e11) (fun _ => ?_)
  refine And.intro (fun h => absurd h e12) (fun _ => ?_)
  refine And.intro (fun _ => ?_) (fun h => absurd (show (-2 : Int32) = (-2 : Int32) by decide) h)
  exact hK _ _ _ _ _ _ _ _ (law_next l xs n _ _ _ 99 18232 (Nat.le_of_ble_eq_true rfl) (Nat.le_of_ble_eq_true rfl))
