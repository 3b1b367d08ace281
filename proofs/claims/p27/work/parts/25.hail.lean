def cH (n k w : Int32) : Option XQ := eRun xxX11 tX11_hail [22, 157] 157 3 22 [some (.ref 0), some (.int n), some (.int k), some (.int w), none, none, none, none, none] []
def mH (n k w : Int32) : Option XQ := eRun xxX12 tX12_hail [22, 57, 146, 149, 169] 146 14 22 [some (.ref 67), some (.int n), some (.int k), some (.int w), none, none, none, none, none, none, none, none, none, none] []
def mG (x y : Int64) : Option XQ := eRun xxX12 tX12_common [6, 33] 33 30 6 (sL (sL (xpad 10 (xargs [.long x, .long y])) 4 (.long x)) 6 (.long y)) []
def mE (lc : List (Option Value)) (g : Int64) : Option XQ := eRun xxX12 tX12_hail [22, 57, 146, 149, 169] 169 3 149 lc [.long g]
def hB (n k w : Int32) : Bool := match cH n k w with
  | some (_, [.int r]) => (match mH n k w with
    | some (lc, [.long y, .long x]) => (match mG x y with
      | some (_, [.long g]) => (match mE lc g with
        | some (_, [.int r']) => decide (r = r')
        | _ => false)
      | _ => false)
    | _ => false)
  | _ => false
theorem hB_el {n k w : Int32} (h : hB n k w = true) : ∃ r lc1 lc2 x y lc3 g lc4, cH n k w = some (lc1, [.int r]) ∧ mH n k w = some (lc2, [.long y, .long x]) ∧ mG x y = some (lc3, [.long g]) ∧ mE lc2 g = some (lc4, [.int r]) := by
  unfold hB at h
  split at h
  · rename_i lc1 r h1
    split at h
    · rename_i lc2 y x h2
      split at h
      · rename_i lc3 g h3
        split at h
        · rename_i lc4 r' h4
          have e := of_decide_eq_true h
          subst e
          exact ⟨r, lc1, lc2, x, y, lc3, g, lc4, h1, h2, h3, h4⟩
        · cases h
      · cases h
    · cases h
  · cases h
def hRow (i j : Nat) : Bool := hB (Int32.ofInt (i : Nat)) (Int32.ofInt (j : Nat)) 0 && hB (Int32.ofInt (i : Nat)) (Int32.ofInt (j : Nat)) 1
set_option maxRecDepth 100000 in
theorem hRow_1_0 : hRow 1 0 = true := by decide +kernel
set_option maxRecDepth 100000 in
theorem hRow_1_1 : hRow 1 1 = true := by decide +kernel
set_option maxRecDepth 100000 in
theorem hRow_1_2 : hRow 1 2 = true := by decide +kernel
set_option maxRecDepth 100000 in
theorem hRow_1_3 : hRow 1 3 = true := by decide +kernel
set_option maxRecDepth 100000 in
theorem hRow_1_4 : hRow 1 4 = true := by decide +kernel
set_option maxRecDepth 100000 in
theorem hRow_1_5 : hRow 1 5 = true := by decide +kernel
set_option maxRecDepth 100000 in
theorem hRow_1_6 : hRow 1 6 = true := by decide +kernel
set_option maxRecDepth 100000 in
theorem hRow_1_7 : hRow 1 7 = true := by decide +kernel
set_option maxRecDepth 100000 in
theorem hRow_1_8 : hRow 1 8 = true := by decide +kernel
set_option maxRecDepth 100000 in
theorem hRow_1_9 : hRow 1 9 = true := by decide +kernel
set_option maxRecDepth 100000 in
theorem hRow_2_0 : hRow 2 0 = true := by decide +kernel
set_option maxRecDepth 100000 in
theorem hRow_2_1 : hRow 2 1 = true := by decide +kernel
set_option maxRecDepth 100000 in
theorem hRow_2_2 : hRow 2 2 = true := by decide +kernel
set_option maxRecDepth 100000 in
theorem hRow_2_3 : hRow 2 3 = true := by decide +kernel
set_option maxRecDepth 100000 in
theorem hRow_2_4 : hRow 2 4 = true := by decide +kernel
set_option maxRecDepth 100000 in
theorem hRow_2_5 : hRow 2 5 = true := by decide +kernel
set_option maxRecDepth 100000 in
theorem hRow_2_6 : hRow 2 6 = true := by decide +kernel
set_option maxRecDepth 100000 in
theorem hRow_2_7 : hRow 2 7 = true := by decide +kernel
set_option maxRecDepth 100000 in
theorem hRow_2_8 : hRow 2 8 = true := by decide +kernel
set_option maxRecDepth 100000 in
theorem hRow_2_9 : hRow 2 9 = true := by decide +kernel
set_option maxRecDepth 100000 in
theorem hRow_3_0 : hRow 3 0 = true := by decide +kernel
set_option maxRecDepth 100000 in
theorem hRow_3_1 : hRow 3 1 = true := by decide +kernel
set_option maxRecDepth 100000 in
theorem hRow_3_2 : hRow 3 2 = true := by decide +kernel
set_option maxRecDepth 100000 in
theorem hRow_3_3 : hRow 3 3 = true := by decide +kernel
set_option maxRecDepth 100000 in
theorem hRow_3_4 : hRow 3 4 = true := by decide +kernel
set_option maxRecDepth 100000 in
theorem hRow_3_5 : hRow 3 5 = true := by decide +kernel
set_option maxRecDepth 100000 in
theorem hRow_3_6 : hRow 3 6 = true := by decide +kernel
set_option maxRecDepth 100000 in
theorem hRow_3_7 : hRow 3 7 = true := by decide +kernel
set_option maxRecDepth 100000 in
theorem hRow_3_8 : hRow 3 8 = true := by decide +kernel
set_option maxRecDepth 100000 in
theorem hRow_3_9 : hRow 3 9 = true := by decide +kernel
set_option maxRecDepth 100000 in
theorem hRow_4_0 : hRow 4 0 = true := by decide +kernel
set_option maxRecDepth 100000 in
theorem hRow_4_1 : hRow 4 1 = true := by decide +kernel
set_option maxRecDepth 100000 in
theorem hRow_4_2 : hRow 4 2 = true := by decide +kernel
set_option maxRecDepth 100000 in
theorem hRow_4_3 : hRow 4 3 = true := by decide +kernel
set_option maxRecDepth 100000 in
theorem hRow_4_4 : hRow 4 4 = true := by decide +kernel
set_option maxRecDepth 100000 in
theorem hRow_4_5 : hRow 4 5 = true := by decide +kernel
set_option maxRecDepth 100000 in
theorem hRow_4_6 : hRow 4 6 = true := by decide +kernel
set_option maxRecDepth 100000 in
theorem hRow_4_7 : hRow 4 7 = true := by decide +kernel
set_option maxRecDepth 100000 in
theorem hRow_4_8 : hRow 4 8 = true := by decide +kernel
set_option maxRecDepth 100000 in
theorem hRow_4_9 : hRow 4 9 = true := by decide +kernel
set_option maxRecDepth 100000 in
theorem hRow_5_0 : hRow 5 0 = true := by decide +kernel
set_option maxRecDepth 100000 in
theorem hRow_5_1 : hRow 5 1 = true := by decide +kernel
set_option maxRecDepth 100000 in
theorem hRow_5_2 : hRow 5 2 = true := by decide +kernel
set_option maxRecDepth 100000 in
theorem hRow_5_3 : hRow 5 3 = true := by decide +kernel
set_option maxRecDepth 100000 in
theorem hRow_5_4 : hRow 5 4 = true := by decide +kernel
set_option maxRecDepth 100000 in
theorem hRow_5_5 : hRow 5 5 = true := by decide +kernel
set_option maxRecDepth 100000 in
theorem hRow_5_6 : hRow 5 6 = true := by decide +kernel
set_option maxRecDepth 100000 in
theorem hRow_5_7 : hRow 5 7 = true := by decide +kernel
set_option maxRecDepth 100000 in
theorem hRow_5_8 : hRow 5 8 = true := by decide +kernel
set_option maxRecDepth 100000 in
theorem hRow_5_9 : hRow 5 9 = true := by decide +kernel
set_option maxRecDepth 100000 in
theorem hRow_6_0 : hRow 6 0 = true := by decide +kernel
set_option maxRecDepth 100000 in
theorem hRow_6_1 : hRow 6 1 = true := by decide +kernel
set_option maxRecDepth 100000 in
theorem hRow_6_2 : hRow 6 2 = true := by decide +kernel
set_option maxRecDepth 100000 in
theorem hRow_6_3 : hRow 6 3 = true := by decide +kernel
set_option maxRecDepth 100000 in
theorem hRow_6_4 : hRow 6 4 = true := by decide +kernel
set_option maxRecDepth 100000 in
theorem hRow_6_5 : hRow 6 5 = true := by decide +kernel
set_option maxRecDepth 100000 in
theorem hRow_6_6 : hRow 6 6 = true := by decide +kernel
set_option maxRecDepth 100000 in
theorem hRow_6_7 : hRow 6 7 = true := by decide +kernel
set_option maxRecDepth 100000 in
theorem hRow_6_8 : hRow 6 8 = true := by decide +kernel
set_option maxRecDepth 100000 in
theorem hRow_6_9 : hRow 6 9 = true := by decide +kernel
set_option maxRecDepth 100000 in
theorem hRow_7_0 : hRow 7 0 = true := by decide +kernel
set_option maxRecDepth 100000 in
theorem hRow_7_1 : hRow 7 1 = true := by decide +kernel
set_option maxRecDepth 100000 in
theorem hRow_7_2 : hRow 7 2 = true := by decide +kernel
set_option maxRecDepth 100000 in
theorem hRow_7_3 : hRow 7 3 = true := by decide +kernel
set_option maxRecDepth 100000 in
theorem hRow_7_4 : hRow 7 4 = true := by decide +kernel
set_option maxRecDepth 100000 in
theorem hRow_7_5 : hRow 7 5 = true := by decide +kernel
set_option maxRecDepth 100000 in
theorem hRow_7_6 : hRow 7 6 = true := by decide +kernel
set_option maxRecDepth 100000 in
theorem hRow_7_7 : hRow 7 7 = true := by decide +kernel
set_option maxRecDepth 100000 in
theorem hRow_7_8 : hRow 7 8 = true := by decide +kernel
set_option maxRecDepth 100000 in
theorem hRow_7_9 : hRow 7 9 = true := by decide +kernel
set_option maxRecDepth 100000 in
theorem hRow_8_0 : hRow 8 0 = true := by decide +kernel
set_option maxRecDepth 100000 in
theorem hRow_8_1 : hRow 8 1 = true := by decide +kernel
set_option maxRecDepth 100000 in
theorem hRow_8_2 : hRow 8 2 = true := by decide +kernel
set_option maxRecDepth 100000 in
theorem hRow_8_3 : hRow 8 3 = true := by decide +kernel
set_option maxRecDepth 100000 in
theorem hRow_8_4 : hRow 8 4 = true := by decide +kernel
set_option maxRecDepth 100000 in
theorem hRow_8_5 : hRow 8 5 = true := by decide +kernel
set_option maxRecDepth 100000 in
theorem hRow_8_6 : hRow 8 6 = true := by decide +kernel
set_option maxRecDepth 100000 in
theorem hRow_8_7 : hRow 8 7 = true := by decide +kernel
set_option maxRecDepth 100000 in
theorem hRow_8_8 : hRow 8 8 = true := by decide +kernel
set_option maxRecDepth 100000 in
theorem hRow_8_9 : hRow 8 9 = true := by decide +kernel
set_option maxRecDepth 100000 in
theorem hRow_9_0 : hRow 9 0 = true := by decide +kernel
set_option maxRecDepth 100000 in
theorem hRow_9_1 : hRow 9 1 = true := by decide +kernel
set_option maxRecDepth 100000 in
theorem hRow_9_2 : hRow 9 2 = true := by decide +kernel
set_option maxRecDepth 100000 in
theorem hRow_9_3 : hRow 9 3 = true := by decide +kernel
set_option maxRecDepth 100000 in
theorem hRow_9_4 : hRow 9 4 = true := by decide +kernel
set_option maxRecDepth 100000 in
theorem hRow_9_5 : hRow 9 5 = true := by decide +kernel
set_option maxRecDepth 100000 in
theorem hRow_9_6 : hRow 9 6 = true := by decide +kernel
set_option maxRecDepth 100000 in
theorem hRow_9_7 : hRow 9 7 = true := by decide +kernel
set_option maxRecDepth 100000 in
theorem hRow_9_8 : hRow 9 8 = true := by decide +kernel
set_option maxRecDepth 100000 in
theorem hRow_9_9 : hRow 9 9 = true := by decide +kernel
theorem hRow_ok : ∀ (i j : Nat), 0 < i → i < 10 → j < 10 → hRow i j = true
  | 1, 0, _, _, _ => hRow_1_0
  | 1, 1, _, _, _ => hRow_1_1
  | 1, 2, _, _, _ => hRow_1_2
  | 1, 3, _, _, _ => hRow_1_3
  | 1, 4, _, _, _ => hRow_1_4
  | 1, 5, _, _, _ => hRow_1_5
  | 1, 6, _, _, _ => hRow_1_6
  | 1, 7, _, _, _ => hRow_1_7
  | 1, 8, _, _, _ => hRow_1_8
  | 1, 9, _, _, _ => hRow_1_9
  | 2, 0, _, _, _ => hRow_2_0
  | 2, 1, _, _, _ => hRow_2_1
  | 2, 2, _, _, _ => hRow_2_2
  | 2, 3, _, _, _ => hRow_2_3
  | 2, 4, _, _, _ => hRow_2_4
  | 2, 5, _, _, _ => hRow_2_5
  | 2, 6, _, _, _ => hRow_2_6
  | 2, 7, _, _, _ => hRow_2_7
  | 2, 8, _, _, _ => hRow_2_8
  | 2, 9, _, _, _ => hRow_2_9
  | 3, 0, _, _, _ => hRow_3_0
  | 3, 1, _, _, _ => hRow_3_1
  | 3, 2, _, _, _ => hRow_3_2
  | 3, 3, _, _, _ => hRow_3_3
  | 3, 4, _, _, _ => hRow_3_4
  | 3, 5, _, _, _ => hRow_3_5
  | 3, 6, _, _, _ => hRow_3_6
  | 3, 7, _, _, _ => hRow_3_7
  | 3, 8, _, _, _ => hRow_3_8
  | 3, 9, _, _, _ => hRow_3_9
  | 4, 0, _, _, _ => hRow_4_0
  | 4, 1, _, _, _ => hRow_4_1
  | 4, 2, _, _, _ => hRow_4_2
  | 4, 3, _, _, _ => hRow_4_3
  | 4, 4, _, _, _ => hRow_4_4
  | 4, 5, _, _, _ => hRow_4_5
  | 4, 6, _, _, _ => hRow_4_6
  | 4, 7, _, _, _ => hRow_4_7
  | 4, 8, _, _, _ => hRow_4_8
  | 4, 9, _, _, _ => hRow_4_9
  | 5, 0, _, _, _ => hRow_5_0
  | 5, 1, _, _, _ => hRow_5_1
  | 5, 2, _, _, _ => hRow_5_2
  | 5, 3, _, _, _ => hRow_5_3
  | 5, 4, _, _, _ => hRow_5_4
  | 5, 5, _, _, _ => hRow_5_5
  | 5, 6, _, _, _ => hRow_5_6
  | 5, 7, _, _, _ => hRow_5_7
  | 5, 8, _, _, _ => hRow_5_8
  | 5, 9, _, _, _ => hRow_5_9
  | 6, 0, _, _, _ => hRow_6_0
  | 6, 1, _, _, _ => hRow_6_1
  | 6, 2, _, _, _ => hRow_6_2
  | 6, 3, _, _, _ => hRow_6_3
  | 6, 4, _, _, _ => hRow_6_4
  | 6, 5, _, _, _ => hRow_6_5
  | 6, 6, _, _, _ => hRow_6_6
  | 6, 7, _, _, _ => hRow_6_7
  | 6, 8, _, _, _ => hRow_6_8
  | 6, 9, _, _, _ => hRow_6_9
  | 7, 0, _, _, _ => hRow_7_0
  | 7, 1, _, _, _ => hRow_7_1
  | 7, 2, _, _, _ => hRow_7_2
  | 7, 3, _, _, _ => hRow_7_3
  | 7, 4, _, _, _ => hRow_7_4
  | 7, 5, _, _, _ => hRow_7_5
  | 7, 6, _, _, _ => hRow_7_6
  | 7, 7, _, _, _ => hRow_7_7
  | 7, 8, _, _, _ => hRow_7_8
  | 7, 9, _, _, _ => hRow_7_9
  | 8, 0, _, _, _ => hRow_8_0
  | 8, 1, _, _, _ => hRow_8_1
  | 8, 2, _, _, _ => hRow_8_2
  | 8, 3, _, _, _ => hRow_8_3
  | 8, 4, _, _, _ => hRow_8_4
  | 8, 5, _, _, _ => hRow_8_5
  | 8, 6, _, _, _ => hRow_8_6
  | 8, 7, _, _, _ => hRow_8_7
  | 8, 8, _, _, _ => hRow_8_8
  | 8, 9, _, _, _ => hRow_8_9
  | 9, 0, _, _, _ => hRow_9_0
  | 9, 1, _, _, _ => hRow_9_1
  | 9, 2, _, _, _ => hRow_9_2
  | 9, 3, _, _, _ => hRow_9_3
  | 9, 4, _, _, _ => hRow_9_4
  | 9, 5, _, _, _ => hRow_9_5
  | 9, 6, _, _, _ => hRow_9_6
  | 9, 7, _, _, _ => hRow_9_7
  | 9, 8, _, _, _ => hRow_9_8
  | 9, 9, _, _, _ => hRow_9_9
  | 0, _, h, _, _ => absurd h (by decide)
  | _ + 10, _, _, h, _ => absurd h (by omega)
  | _, _ + 10, _, _, h => absurd h (by omega)
theorem i_nat10 {x lo : Int32} (h : 0 ≤ lo.toInt) (h1 : lo ≤ x) (h2 : x ≤ 9) : ∃ m : Nat, m < 10 ∧ x = Int32.ofInt (m : Int) ∧ x.toInt = (m : Int) := by
  have y1 := Int32.le_iff_toInt_le.mp h1
  have y2 := Int32.le_iff_toInt_le.mp h2
  have e : (9 : Int32).toInt = 9 := by decide
  refine ⟨x.toInt.toNat, by omega, ?_, by omega⟩
  have z : ((x.toInt.toNat : Nat) : Int) = x.toInt := by omega
  rw [z, Int32.ofInt_toInt]
theorem hB_all {n k : Int32} (h1 : 1 ≤ n) (h2 : n ≤ 9) (h3 : 0 ≤ k) (h4 : k ≤ 9) : hB n k 0 = true ∧ hB n k 1 = true := by
  obtain ⟨i, hi, e1, e2⟩ := i_nat10 (show 0 ≤ (1 : Int32).toInt by decide) h1 h2
  obtain ⟨j, hj, e3, e4⟩ := i_nat10 (show 0 ≤ (0 : Int32).toInt by decide) h3 h4
  have y1 := Int32.le_iff_toInt_le.mp h1
  have e5 : (1 : Int32).toInt = 1 := by decide
  have hz := hRow_ok i j (by omega) hi hj
  unfold hRow at hz
  rw [← e1, ← e3, Bool.and_eq_true] at hz
  exact hz
set_option maxRecDepth 100000 in
theorem c_hail_t (l : Launch) (d : Nat) (n k w r : Int32) (lc1 : List (Option Value)) (sh : List XO) (I : XI) (J : XJ) (Rp : XR) (h1 : 1 ≤ n) (h2 : n ≤ 9) (h3 : 0 ≤ k) (h4 : k ≤ 9) (h : cH n k w = some (lc1, [.int r])) (hR : Rp (some (.int r)) sh I J) : xm l (d + 2) 0 0 mX11_hail [.ref 0, .int n, .int k, .int w] sh I J Rp := by
  refine xm_ofK 4 (X := xxX11) (t := tX11_hail) (stop := [22, 157]) (ini := false) xx11 pl11 rfl kX11_hail (fun h => by cases h) (Nat.le_of_ble_eq_true rfl) (fun K hK => ?_)
  refine c_within_t l _ _ _ _ _ _ _ _ h1 h2 ?_
  refine And.intro (fun h => absurd h (show ¬ ((1 : Int32) = (0 : Int32)) by decide)) (fun _ => ?_)
  refine c_within_t l _ _ _ _ _ _ _ _ h3 h4 ?_
  refine And.intro (fun _ => ?_) (fun h => absurd h (show ¬ ((1 : Int32) = (0 : Int32)) by decide))
  refine hK 22 _ _ _ _ _ _ _ (eRun_ok 3 1 (fun j => ?_) 22 _ _ h)
  have e : 1 + j = j + 1 := Nat.add_comm 1 j
  rw [e]
  refine xrun_step fun K hK => ?_
  exact hR
set_option maxRecDepth 100000 in
theorem c_hail_f (l : Launch) (d : Nat) (n k w : Int32) (sh : List XO) (I : XI) (J : XJ) (Rp : XR) (h : ¬ ((1 ≤ n ∧ n ≤ 9) ∧ (0 ≤ k ∧ k ≤ 9))) (hR : Rp (some (.int (-1))) sh I J) : xm l (d + 2) 0 0 mX11_hail [.ref 0, .int n, .int k, .int w] sh I J Rp := by
  refine xm_ofK 4 (X := xxX11) (t := tX11_hail) (stop := [22, 157]) (ini := false) xx11 pl11 rfl kX11_hail (fun h => by cases h) (Nat.le_of_ble_eq_true rfl) (fun K hK => ?_)
  by_cases h1 : 1 ≤ n ∧ n ≤ 9
  · refine c_within_t l _ _ _ _ _ _ _ _ h1.1 h1.2 ?_
    refine And.intro (fun h => absurd h (show ¬ ((1 : Int32) = (0 : Int32)) by decide)) (fun _ => ?_)
    refine c_within_f l _ _ _ _ _ _ _ _ (fun z => h ⟨h1, z⟩) ?_
    refine And.intro (fun h => absurd (show ((0 : Int32) = (0 : Int32)) by decide) h) (fun _ => ?_)
    exact hR
  · refine c_within_f l _ _ _ _ _ _ _ _ h1 ?_
    refine And.intro (fun _ => ?_) (fun h => absurd (show ((0 : Int32) = (0 : Int32)) by decide) h)
    exact hR
set_option maxRecDepth 100000 in
theorem m_common (l : Launch) (d : Nat) (x y g : Int64) (lc3 : List (Option Value)) (sh : List XO) (I : XI) (J : XJ) (Rp : XR) (h : mG x y = some (lc3, [.long g])) (hR : Rp (some (.long g)) sh I J) : xm l (d + 1) 0 0 mX12_common [.long x, .long y] sh I J Rp := by
  refine xm_ofK 31 (X := xxX12) (t := tX12_common) (stop := [6, 33]) (ini := false) xx12 pl12 rfl kX12_common (fun h => by cases h) (Nat.le_of_ble_eq_true rfl) (fun K hK => ?_)
  refine hK 6 _ _ _ _ _ _ _ (eRun_ok 30 1 (fun j => ?_) 6 _ _ h)
  have e : 1 + j = j + 1 := Nat.add_comm 1 j
  rw [e]
  refine xrun_step fun K hK => ?_
  exact hR
set_option maxRecDepth 100000 in
theorem m_hail_t (l : Launch) (d : Nat) (n k w r : Int32) (x y g : Int64) (lc2 lc3 lc4 : List (Option Value)) (sh : List XO) (I : XI) (J : XJ) (Rp : XR) (h1 : 1 ≤ n) (h2 : n ≤ 9) (h3 : 0 ≤ k) (h4 : k ≤ 9) (h : mH n k w = some (lc2, [.long y, .long x])) (hg : mG x y = some (lc3, [.long g])) (he : mE lc2 g = some (lc4, [.int r])) (hR : Rp (some (.int r)) sh I J) : xm l (d + 2) 0 0 mX12_hail [.ref 67, .int n, .int k, .int w] sh I J Rp := by
  refine xm_ofK 19 (X := xxX12) (t := tX12_hail) (stop := [22, 57, 146, 149, 169]) (ini := false) xx12 pl12 rfl kX12_hail (fun h => by cases h) (Nat.le_of_ble_eq_true rfl) (fun K hK => ?_)
  refine m_in_t l _ _ _ _ _ _ _ _ h1 h2 ?_
  refine And.intro (fun h => absurd h (show ¬ ((1 : Int32) = (0 : Int32)) by decide)) (fun _ => ?_)
  refine m_in_t l _ _ _ _ _ _ _ _ h3 h4 ?_
  refine And.intro (fun _ => ?_) (fun h => absurd h (show ¬ ((1 : Int32) = (0 : Int32)) by decide))
  refine hK 22 _ _ _ _ _ _ _ (eRun_ok 14 5 (fun j => ?_) 22 _ _ h)
  have e : 5 + j = (1 + j + 3) + 1 := by omega
  rw [e]
  refine xrun_step fun K hK => ?_
  refine m_common l _ _ _ g lc3 _ _ _ _ hg ?_
  refine hK 149 _ _ _ _ _ _ _ (eRun_ok 3 (1 + j) (fun i => ?_) 149 _ _ he)
  have e : 1 + j + i = (j + i) + 1 := by omega
  rw [e]
  refine xrun_step fun K hK => ?_
  exact hR
set_option maxRecDepth 100000 in
theorem m_hail_f (l : Launch) (d : Nat) (n k w : Int32) (sh : List XO) (I : XI) (J : XJ) (Rp : XR) (h : ¬ ((1 ≤ n ∧ n ≤ 9) ∧ (0 ≤ k ∧ k ≤ 9))) (hR : Rp (some (.int (-1))) sh I J) : xm l (d + 2) 0 0 mX12_hail [.ref 67, .int n, .int k, .int w] sh I J Rp := by
  refine xm_ofK 4 (X := xxX12) (t := tX12_hail) (stop := [22, 57, 146, 149, 169]) (ini := false) xx12 pl12 rfl kX12_hail (fun h => by cases h) (Nat.le_of_ble_eq_true rfl) (fun K hK => ?_)
  by_cases h1 : 1 ≤ n ∧ n ≤ 9
  · refine m_in_t l _ _ _ _ _ _ _ _ h1.1 h1.2 ?_
    refine And.intro (fun h => absurd h (show ¬ ((1 : Int32) = (0 : Int32)) by decide)) (fun _ => ?_)
    refine m_in_f l _ _ _ _ _ _ _ _ (fun z => h ⟨h1, z⟩) ?_
    refine And.intro (fun h => absurd (show ((0 : Int32) = (0 : Int32)) by decide) h) (fun _ => ?_)
    exact hR
  · refine m_in_f l _ _ _ _ _ _ _ _ h1 ?_
    refine And.intro (fun _ => ?_) (fun h => absurd (show ((0 : Int32) = (0 : Int32)) by decide) h)
    exact hR
