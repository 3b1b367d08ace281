theorem lg_ge {x y : Int64} (h : 0 ≤ lg_cmp x y) : ¬ x < y := by
  intro z
  unfold lg_cmp at h
  have z1 := Int64.lt_iff_toInt_lt.mp z
  rw [if_neg (fun w => by have := Int64.lt_iff_toInt_lt.mp w; omega), if_neg (fun w => by rw [w] at z1; omega)] at h
  exact absurd h (by decide)
theorem lg_le {x y : Int64} (h : lg_cmp x y ≤ 0) : ¬ y < x := by
  intro z
  unfold lg_cmp at h
  rw [if_pos z] at h
  exact absurd h (by decide)
set_option maxRecDepth 100000 in
theorem hm_held (l : Launch) (d : Nat) (v : Int64) (lo hi : Int32) (hl : lo.toInt ≤ hi.toInt) (sh : List XO) (I : XI) (J : XJ) (Rp : XR) (hR : ∀ r : Int32, lo.toInt ≤ r.toInt → r.toInt ≤ hi.toInt → Rp (some (.int r)) sh I J) : xm l (d + 1) 0 0 mX12_held [.long v, .int lo, .int hi] sh I J Rp := by
  refine xm_ofK 0 (X := xxX12) (t := tX12_held) (stop := []) (ini := false) xx12 pl12 rfl kX12_held (fun h => by cases h) (Nat.le_of_ble_eq_true rfl) (fun K hK => ?_)
  refine And.intro (fun h1 => ?_) (fun _ => hR lo (Int.le_refl _) hl)
  refine And.intro (fun h2 => ?_) (fun _ => hR hi hl (Int.le_refl _))
  have h1 := lg_ge h1
  have h2 := lg_le h2
  have z1 : lo.toInt ≤ v.toInt := by
    have : ¬ v.toInt < lo.toInt64.toInt := fun z => h1 (Int64.lt_iff_toInt_lt.mpr z)
    rw [Int32.toInt_toInt64] at this
    omega
  have z2 : v.toInt ≤ hi.toInt := by
    have : ¬ hi.toInt64.toInt < v.toInt := fun z => h2 (Int64.lt_iff_toInt_lt.mpr z)
    rw [Int32.toInt_toInt64] at this
    omega
  have y1 := Int32.le_toInt lo
  have y2 := Int32.toInt_lt hi
  have e : v.toInt32.toInt = v.toInt := by
    rw [Int64.toInt_toInt32]
    exact Int.bmod_eq_of_le (by omega) (by omega)
  exact hR _ (by rw [e]; exact z1) (by rw [e]; exact z2)
theorem foO_keep {I I' : XI} {r : Int32} (h1 : I' 77 = I 77) (h2 : I' 78 = I 78) (h : foO I r) : foO I' r := by
  rcases h with h | ⟨f, e, h⟩
  · exact Or.inl h
  · exact Or.inr ⟨f, e, stW_keep h1 h2 _ _ _ h⟩
set_option maxRecDepth 100000 in
/-- what the orders say, where there are any -/
theorem hm_says_fo (l : Launch) (d : Nat) (r : Int32) (hn : ¬ r = -1) (ru ta : Nat) (rs : List XO) (I : XI) (J : XJ) (Rp : XR) (hs : foO I r) (hR : ∀ (v : Int64) (J' : XJ), Rp (some (.long v)) (shH ru ta rs) I J') : xm l (d + 3) 0 0 mX12_saysOf [.ref 67, .int r] (shH ru ta rs) I J Rp := by
  rcases hs with hs | ⟨f, rfl, hs⟩
  · exact absurd hs hn
  · exact hm_says l d f ru ta rs I J Rp hs hR
set_option maxRecDepth 100000 in
theorem hm_copies_loop (l : Launch) (d : Nat) (q p : Nat) (w : Int32) (hqp : (w = 0 ∧ q = 69 ∧ p = 68) ∨ (¬ w = 0 ∧ q = 68 ∧ p = 69)) (ru ta : Nat) (rs : List XO) (I : XI) (J : XJ) (Rp : XR) (hR : Rp none (shH ru ta rs) (cI I q p 0 0 2200) J) : ∀ (m k n : Nat), k + m = 2200 → m < n → xrun xxX12 none false false (shH ru ta rs).length 0 0 none l d tX12_copies [2] Rp n 2 [some (.ref 67), some (.int w), some (.int (nI k))] [] (shH ru ta rs) (cI I q p 0 0 k) J 0 0 := by
  intro m
  induction m with
  | zero =>
    intro k n hk hn
    obtain ⟨n, rfl⟩ : ∃ n', n = n' + 1 := ⟨n - 1, by omega⟩
    have hk : k = 2200 := by omega
    subst hk
    refine xrun_step fun K hK => ?_
    exact And.intro (fun h => hR) (fun h => absurd (show (2200 : Int32) ≤ nI 2200 by decide) h)
  | succ m ih =>
    intro k n hk hn
    obtain ⟨n, rfl⟩ : ∃ n', n = n' + 1 := ⟨n - 1, by omega⟩
    have hst : uI (cI I q p 0 0 k) p k (cI I q p 0 0 k q k) = cI I q p 0 0 (k + 1) := by
      have hne : q ≠ p := by omega
      funext r j
      by_cases hr : r = p
      · subst hr
        rw [uI_atA, cI_eq, cI_eq, cI_ne hne]
        simp only [va_cpy, true_and]
        by_cases hj : j = k
        · subst hj
          rw [if_pos rfl, if_pos (by omega), show 0 + (j - 0) = j by omega]
        · rw [if_neg hj]
          by_cases h2 : 0 ≤ j ∧ j < 0 + k
          · rw [if_pos h2, if_pos (by omega)]
          · rw [if_neg h2, if_neg (by omega)]
      · rw [uI_ne hr, cI_ne hr, cI_ne hr]
    refine xrun_step fun K hK => ?_
    refine And.intro (fun h => absurd h (nI_ge (a := k) (b := 2200) (by omega) (by omega))) (fun h => ?_)
    rcases hqp with ⟨hw, rfl, rfl⟩ | ⟨hw, rfl, rfl⟩
    · refine And.intro (fun _ => ?_) (fun h => absurd hw h)
      refine And.intro (vp_in_nI (N := 2200) (by omega) (by omega)) ?_
      refine And.intro (vp_in_nI (N := 2200) (by omega) (by omega)) ?_
      refine hK 2 [some (.ref 67), some (.int w), some (.int (nI k + 1))] [] (shH ru ta rs) (uI (cI I 69 68 0 0 k) 68 (nI k).toNatClampNeg (cI I 69 68 0 0 k 69 (nI k).toNatClampNeg)) J 0 0 ?_
      rw [nI_1, nI_clamp (by omega), hst]
      exact ih (k + 1) n (by omega) (by omega)
    · refine And.intro (fun h => absurd h hw) (fun _ => ?_)
      refine And.intro (vp_in_nI (N := 2200) (by omega) (by omega)) ?_
      refine And.intro (vp_in_nI (N := 2200) (by omega) (by omega)) ?_
      refine hK 2 [some (.ref 67), some (.int w), some (.int (nI k + 1))] [] (shH ru ta rs) (uI (cI I 68 69 0 0 k) 69 (nI k).toNatClampNeg (cI I 68 69 0 0 k 68 (nI k).toNatClampNeg)) J 0 0 ?_
      rw [nI_1, nI_clamp (by omega), hst]
      exact ih (k + 1) n (by omega) (by omega)
theorem cI_zero (I : XI) (q p : Nat) : cI I q p 0 0 0 = I := by
  funext r j
  by_cases hr : r = p
  · subst hr
    rw [cI_eq]
    simp only [va_cpy]
    rw [if_neg (by omega)]
  · rw [cI_ne hr]
def cellJ (C : AC) (p j : Nat) : Int × Int := match C.2.1.find? (fun q => Nat.beq q.1 p && Nat.beq q.2.1 j) with
  | some q => q.2.2
  | none => (match xlk C.2.2 p with
    | some r => r
    | none => fr)
theorem nrm_lt (k : Nat) : nrm 68 k < 130 := by
  unfold nrm
  split
  · omega
  · rename_i e
    have e2 : Nat.ble 130 k = false := e
    rcases Nat.lt_or_ge k 130 with z | z
    · exact z
    · have := Nat.ble_eq_true_of_le z
      rw [e2] at this
      cases this
theorem cellJ_6 : ∀ j, j < 130 → cellJ CF 69 j = cellJ CF 68 j := by decide +kernel
theorem cell_6 (k : Nat) : cellI CF 69 k = cellI CF 68 k := by
  show cellJ CF 69 (nrm 68 k) = cellJ CF 68 (nrm 68 k)
  exact cellJ_6 _ (nrm_lt k)
theorem qp91 : ∀ p, p ∈ QPl → nmem p [91] = false := by decide

