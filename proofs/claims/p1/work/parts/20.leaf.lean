def shG (ru ta : Nat) : List XO := [.inl (11, [some 12, some 23, some 26, some 28, some 1, some 3, some 4, none, some 30, some 35, some 18, some 5, none, none, some 6, some 36, some 40, some 41]), .inl (6, [some 2, none, none]), .inr (0, 2139, []), .inr (0, 8, []), .inr (0, 8, []), .inr (3, 4, [some 47, some 52, some 57, some 62]), .inl (1, [some 7, some 8, some 10, some 11, none, none, none, none, none, none]), .inr (0, 69, []), .inl (6, [some 9, none, none]), .inr (0, 2139, []), .inr (0, 8, []), .inr (0, 8, []), .inl (9, [some 13, some 14, some 15, some 16, some 17, none, none, none]), .inr (0, 8, []), .inr (0, 8, []), .inr (0, 8, []), .inr (0, 4, []), .inr (0, 4, []), .inl (8, [some 19, none, some 20, some 21, some 22, none]), .inr (0, 300, []), .inr (0, 5, []), .inr (0, 5, []), .inr (0, 96, []), .inl (2, [some 12, some ru, some 24, some 25]), .inr (0, 11, []), .inr (2, 64, []), .inl (10, [some 27, some 12, some 23]), .inr (0, 69, []), .inl (10, [some 29, some 12, some 23]), .inr (0, 69, []), .inl (7, [some 31, none, some 32, some 33, some 34, none]), .inr (0, 300, []), .inr (0, 301, []), .inr (0, 301, []), .inr (0, 301, []), .inl (5, [some 30, some ta, none, none, none, none, none, none, none]), .inl (3, [some 28, some 37, some 38, some 39, none, none, none, none, none]), .inr (0, 276, []), .inr (0, 4, []), .inr (0, 4, []), .inl (0, [some 23, none, none, none, none, none, none, none]), .inl (4, [some 26, some 42, none, some 43, some 44, some 45, some 46, none]), .inr (0, 6, []), .inr (0, 4, []), .inr (0, 4, []), .inr (0, 6, []), .inr (0, 6, []), .inl (8, [some 48, none, some 49, some 50, some 51, none]), .inr (0, 300, []), .inr (0, 5, []), .inr (0, 5, []), .inr (0, 96, []), .inl (8, [some 53, none, some 54, some 55, some 56, none]), .inr (0, 300, []), .inr (0, 5, []), .inr (0, 5, []), .inr (0, 96, []), .inl (8, [some 58, none, some 59, some 60, some 61, none]), .inr (0, 300, []), .inr (0, 5, []), .inr (0, 5, []), .inr (0, 96, []), .inl (8, [some 63, none, some 64, some 65, some 66, none]), .inr (0, 300, []), .inr (0, 5, []), .inr (0, 5, []), .inr (0, 96, []), .inl (12, [some 68, some 69, some 70, none, none, none, some 71, some 72, some 73, some 74, some 75, some 76, some 77, some 78, none, none, none, none, none, none, none, none, none, some 79, some 80, none, some 81, some 82, none, some 83, none, none, some 84, some 85, some 86, some 87, some 88, none, some 89, some 90, some 91, some 92, some 93, some 94, some 95, some 96, some 97, some 98]), .inr (0, 2200, []), .inr (0, 2200, []), .inr (1, 300, []), .inr (0, 4, []), .inr (0, 96, []), .inr (0, 96, []), .inr (0, 96, []), .inr (0, 96, []), .inr (0, 96, []), .inr (0, 1600, []), .inr (0, 1600, []), .inr (0, 40, []), .inr (0, 41, []), .inr (0, 80, []), .inr (0, 80, []), .inr (0, 40, []), .inr (0, 24, []), .inr (0, 24, []), .inr (0, 24, []), .inr (0, 24, []), .inr (0, 24, []), .inr (0, 400, []), .inr (0, 400, []), .inr (0, 11, []), .inr (2, 200, []), .inr (0, 69, []), .inr (0, 4, []), .inr (0, 4, []), .inr (0, 6, []), .inr (0, 6, []), .inr (0, 6, [])]
theorem shG_0 : shXM = shG 18 18 := rfl
set_option maxRecDepth 100000 in
theorem c_within_t (l : Launch) (d : Nat) (v lo hi : Int32) (sh : List XO) (I : XI) (J : XJ) (Rp : XR) (h1 : lo ≤ v) (h2 : v ≤ hi) (hR : Rp (some (.int 1)) sh I J) : xm l (d + 1) 0 0 mX11_within [.int v, .int lo, .int hi] sh I J Rp := by
  refine xm_ofK 0 (X := xxX11) (t := tX11_within) (stop := []) (ini := false) xx11 pl11 rfl kX11_within (fun h => by cases h) (Nat.le_of_ble_eq_true rfl) (fun K hK => ?_)
  refine And.intro (fun h => absurd h (Int32.not_lt.mpr h1)) (fun _ => And.intro (fun h => absurd h (Int32.not_lt.mpr h2)) (fun _ => And.intro (Or.inr rfl) hR))
set_option maxRecDepth 100000 in
theorem c_within_f (l : Launch) (d : Nat) (v lo hi : Int32) (sh : List XO) (I : XI) (J : XJ) (Rp : XR) (h : ¬ (lo ≤ v ∧ v ≤ hi)) (hR : Rp (some (.int 0)) sh I J) : xm l (d + 1) 0 0 mX11_within [.int v, .int lo, .int hi] sh I J Rp := by
  refine xm_ofK 0 (X := xxX11) (t := tX11_within) (stop := []) (ini := false) xx11 pl11 rfl kX11_within (fun h => by cases h) (Nat.le_of_ble_eq_true rfl) (fun K hK => ?_)
  refine And.intro (fun _ => And.intro (Or.inl rfl) hR) (fun h1 => And.intro (fun _ => And.intro (Or.inl rfl) hR) (fun h2 => absurd ⟨Int32.not_lt.mp h1, Int32.not_lt.mp h2⟩ h))
set_option maxRecDepth 100000 in
theorem m_in_t (l : Launch) (d : Nat) (v lo hi : Int32) (sh : List XO) (I : XI) (J : XJ) (Rp : XR) (h1 : lo ≤ v) (h2 : v ≤ hi) (hR : Rp (some (.int 1)) sh I J) : xm l (d + 1) 0 0 mX12_in [.int v, .int lo, .int hi] sh I J Rp := by
  refine xm_ofK 0 (X := xxX12) (t := tX12_in) (stop := []) (ini := false) xx12 pl12 rfl kX12_in (fun h => by cases h) (Nat.le_of_ble_eq_true rfl) (fun K hK => ?_)
  refine And.intro (fun h => absurd h (Int32.not_lt.mpr h1)) (fun _ => And.intro (fun h => absurd h (Int32.not_lt.mpr h2)) (fun _ => And.intro (Or.inr rfl) hR))
set_option maxRecDepth 100000 in
theorem m_in_f (l : Launch) (d : Nat) (v lo hi : Int32) (sh : List XO) (I : XI) (J : XJ) (Rp : XR) (h : ¬ (lo ≤ v ∧ v ≤ hi)) (hR : Rp (some (.int 0)) sh I J) : xm l (d + 1) 0 0 mX12_in [.int v, .int lo, .int hi] sh I J Rp := by
  refine xm_ofK 0 (X := xxX12) (t := tX12_in) (stop := []) (ini := false) xx12 pl12 rfl kX12_in (fun h => by cases h) (Nat.le_of_ble_eq_true rfl) (fun K hK => ?_)
  refine And.intro (fun _ => And.intro (Or.inl rfl) hR) (fun h1 => And.intro (fun _ => And.intro (Or.inl rfl) hR) (fun h2 => absurd ⟨Int32.not_lt.mp h1, Int32.not_lt.mp h2⟩ h))
theorem no_neg {v hi : Int32} (h : hi = -1) : ¬ (0 ≤ v ∧ v ≤ hi) := by
  intro ⟨z1, z2⟩
  rw [h] at z2
  have y1 := Int32.le_iff_toInt_le.mp z1
  have y2 := Int32.le_iff_toInt_le.mp z2
  have e1 : (0 : Int32).toInt = 0 := by decide
  have e2 : (-1 : Int32).toInt = -1 := by decide
  omega
set_option maxRecDepth 100000 in
theorem c_hasThing_0 (l : Launch) (d : Nat) (t : Int32) (ru ta : Nat) (I : XI) (J : XJ) (Rp : XR) (hI : I 12 5 = 0) (hR : Rp (some (.int 0)) (shG ru ta) I J) : xm l (d + 1) 0 0 mX9_hasThing [.ref 12, .int t] (shG ru ta) I J Rp := by
  refine xm_ofK 0 (X := xxX9) (t := tX9_hasThing) (stop := []) (ini := false) xx9 pl9 rfl kX9_hasThing (fun h => by cases h) (Nat.le_of_ble_eq_true rfl) (fun K hK => ?_)
  refine And.intro (fun _ => And.intro (Or.inl rfl) hR) (fun h1 => And.intro (fun _ => And.intro (Or.inl rfl) hR) (fun h2 => absurd ?_ h2))
  show I 12 5 ≤ t
  rw [hI]
  exact Int32.not_lt.mp h1
set_option maxRecDepth 100000 in
theorem c_hasReaper_0 (l : Launch) (d : Nat) (t : Int32) (ru ta : Nat) (I : XI) (J : XJ) (Rp : XR) (hI : I 12 6 = 0) (hR : Rp (some (.int 0)) (shG ru ta) I J) : xm l (d + 1) 0 0 mX9_hasReaper [.ref 12, .int t] (shG ru ta) I J Rp := by
  refine xm_ofK 0 (X := xxX9) (t := tX9_hasReaper) (stop := []) (ini := false) xx9 pl9 rfl kX9_hasReaper (fun h => by cases h) (Nat.le_of_ble_eq_true rfl) (fun K hK => ?_)
  refine And.intro (fun _ => And.intro (Or.inl rfl) hR) (fun h1 => And.intro (fun _ => And.intro (Or.inl rfl) hR) (fun h2 => absurd ?_ h2))
  show I 12 6 ≤ t
  rw [hI]
  exact Int32.not_lt.mp h1
set_option maxRecDepth 100000 in
theorem c_hasBarn_0 (l : Launch) (d : Nat) (t : Int32) (ru ta : Nat) (I : XI) (J : XJ) (Rp : XR) (hI : I 12 7 = 0) (hR : Rp (some (.int 0)) (shG ru ta) I J) : xm l (d + 1) 0 0 mX9_hasBarn [.ref 12, .int t] (shG ru ta) I J Rp := by
  refine xm_ofK 0 (X := xxX9) (t := tX9_hasBarn) (stop := []) (ini := false) xx9 pl9 rfl kX9_hasBarn (fun h => by cases h) (Nat.le_of_ble_eq_true rfl) (fun K hK => ?_)
  refine And.intro (fun _ => And.intro (Or.inl rfl) hR) (fun h1 => And.intro (fun _ => And.intro (Or.inl rfl) hR) (fun h2 => absurd ?_ h2))
  show I 12 7 ≤ t
  rw [hI]
  exact Int32.not_lt.mp h1
theorem ix_add {t : Int32} {a m : Nat} (h0 : ¬ t < 0) (h1 : ¬ nI m ≤ t) (ha : a + m < 2147483648) : ∃ j : Nat, j < m ∧ nI a + t = nI (a + j) := by
  obtain ⟨j, hj, rfl⟩ := nI_of h0
  refine ⟨j, ?_, nI_add a j⟩
  rcases Nat.lt_or_ge j m with q | q
  · exact q
  · exact absurd (nI_le q (by omega)) h1
set_option maxRecDepth 100000 in
theorem c_hasBale_0_26 (l : Launch) (d : Nat) (t : Int32) (ru ta : Nat) (I : XI) (J : XJ) (Rp : XR) (hI : ∀ k, k < 12 → I 27 (28 + k) = 0) (hR : Rp (some (.int 0)) (shG ru ta) I J) : xm l (d + 1) 0 0 mX10_hasBale [.ref 26, .int t] (shG ru ta) I J Rp := by
  refine xm_ofK 0 (X := xxX10) (t := tX10_hasBale) (stop := []) (ini := false) xx10 pl10 rfl kX10_hasBale (fun h => by cases h) (Nat.le_of_ble_eq_true rfl) (fun K hK => ?_)
  refine And.intro (fun _ => And.intro (Or.inl rfl) hR) (fun h1 => And.intro (fun _ => And.intro (Or.inl rfl) hR) (fun h2 => ?_))
  obtain ⟨j, hj, e⟩ := ix_add (a := 28) (m := 12) h1 h2 (by omega)
  have hv : vp_in (nI 28 + t) 69 := by
    rw [e]
    exact vp_in_nI (by omega) (by omega)
  refine And.intro hv (And.intro (fun _ => And.intro (Or.inl rfl) hR) (fun h3 => absurd ?_ h3))
  show I 27 (nI 28 + t).toNatClampNeg ≤ 0
  rw [e, nI_clamp (by omega), hI j hj]
  decide
set_option maxRecDepth 100000 in
theorem c_hasBale_0_28 (l : Launch) (d : Nat) (t : Int32) (ru ta : Nat) (I : XI) (J : XJ) (Rp : XR) (hI : ∀ k, k < 12 → I 29 (28 + k) = 0) (hR : Rp (some (.int 0)) (shG ru ta) I J) : xm l (d + 1) 0 0 mX10_hasBale [.ref 28, .int t] (shG ru ta) I J Rp := by
  refine xm_ofK 0 (X := xxX10) (t := tX10_hasBale) (stop := []) (ini := false) xx10 pl10 rfl kX10_hasBale (fun h => by cases h) (Nat.le_of_ble_eq_true rfl) (fun K hK => ?_)
  refine And.intro (fun _ => And.intro (Or.inl rfl) hR) (fun h1 => And.intro (fun _ => And.intro (Or.inl rfl) hR) (fun h2 => ?_))
  obtain ⟨j, hj, e⟩ := ix_add (a := 28) (m := 12) h1 h2 (by omega)
  have hv : vp_in (nI 28 + t) 69 := by
    rw [e]
    exact vp_in_nI (by omega) (by omega)
  refine And.intro hv (And.intro (fun _ => And.intro (Or.inl rfl) hR) (fun h3 => absurd ?_ h3))
  show I 29 (nI 28 + t).toNatClampNeg ≤ 0
  rw [e, nI_clamp (by omega), hI j hj]
  decide
set_option maxRecDepth 100000 in
theorem m_isBale_0 (l : Launch) (d : Nat) (t : Int32) (ru ta : Nat) (I : XI) (J : XJ) (Rp : XR) (hI : ∀ k, k < 12 → I 68 (88 + k) = 0) (hR : Rp (some (.int 0)) (shG ru ta) I J) : xm l (d + 2) 0 0 mX12_isBale [.ref 67, .int t] (shG ru ta) I J Rp := by
  refine xm_ofK 0 (X := xxX12) (t := tX12_isBale) (stop := []) (ini := false) xx12 pl12 rfl kX12_isBale (fun h => by cases h) (Nat.le_of_ble_eq_true rfl) (fun K hK => ?_)
  by_cases hc : (0 : Int32) ≤ t ∧ t ≤ 11
  · refine m_in_t l d _ _ _ _ _ _ _ hc.1 hc.2 ?_
    refine And.intro (fun h => absurd h (show ¬ ((1 : Int32) = 0) by decide)) (fun _ => ?_)
    obtain ⟨j, hj, rfl⟩ := nI_of2 (x := t) (M := 11) (n := 11) (by decide) (Int32.not_lt.mpr hc.1) hc.2
    have hv : vp_in (nI 88 + nI j) 2200 := by
      rw [nI_add]
      exact vp_in_nI (by omega) (by omega)
    refine And.intro hv (And.intro (fun _ => And.intro (Or.inl rfl) hR) (fun h3 => absurd ?_ h3))
    show I 68 (nI 88 + nI j).toNatClampNeg ≤ 0
    rw [nI_add, nI_clamp (by omega), hI j (by omega)]
    decide
  · refine m_in_f l d _ _ _ _ _ _ _ hc ?_
    exact And.intro (fun _ => And.intro (Or.inl rfl) hR) (fun h => absurd (show (0 : Int32) = 0 by decide) h)
set_option maxRecDepth 100000 in
theorem cp0_loop (l : Launch) (d : Nat) (I : XI) (J : XJ) (Rp : XR) (hR : Rp none shXM (cI I 69 68 0 0 2200) J) : ∀ (m k n : Nat), k + m = 2200 → m < n → xrun xxX12 none false false shXM.length 0 0 none l d tX12_copies [2] Rp n 2 [some (.ref 67), some (.int 0), some (.int (nI k))] [] shXM (cI I 69 68 0 0 k) J 0 0 := by
  intro m
  induction m with
  | zero =>
    intro k n hk hn
    obtain ⟨n, rfl⟩ : ∃ n', n = n' + 1 := ⟨n - 1, by omega⟩
    have hk : k = 2200 := by omega
    subst hk
    refine xrun_step fun K hK => ?_
    refine And.intro (fun h => ?_) (fun h => absurd (show (2200 : Int32) ≤ nI 2200 by decide) h)
    exact hR
  | succ m ih =>
    intro k n hk hn
    obtain ⟨n, rfl⟩ : ∃ n', n = n' + 1 := ⟨n - 1, by omega⟩
    refine xrun_step fun K hK => ?_
    refine And.intro (fun h => absurd h ?_) (fun h => ?_)
    · exact fun z => nI_ge (a := k) (b := 2200) (by omega) (by omega) z
    refine And.intro (fun _ => ?_) (fun h => absurd (show (0 : Int32) = 0 by decide) h)
    refine And.intro (vp_in_nI (N := 2200) (by omega) (by omega)) ?_
    refine And.intro (vp_in_nI (N := 2200) (by omega) (by omega)) ?_
    refine hK 2 [some (.ref 67), some (.int 0), some (.int (nI k + 1))] [] shXM (uI (cI I 69 68 0 0 k) 68 (nI k).toNatClampNeg (cI I 69 68 0 0 k 69 (nI k).toNatClampNeg)) J 0 0 ?_
    rw [nI_1, nI_clamp (by omega), cp_step I 69 68 k (by omega)]
    exact ih (k + 1) n (by omega) (by omega)
set_option maxRecDepth 100000 in
theorem m_copies0 (l : Launch) (d : Nat) (I : XI) (J : XJ) (Rp : XR) (hR : Rp none shXM (cI I 69 68 0 0 2200) J) : xm l (d + 1) 0 0 mX12_copies [.ref 67, .int 0] shXM I J Rp := by
  refine xm_ofK 2201 (X := xxX12) (t := tX12_copies) (stop := [2]) (ini := false) xx12 pl12 rfl kX12_copies (fun h => by cases h) (Nat.le_of_ble_eq_true rfl) (fun K hK => ?_)
  have h := cp0_loop l d I J Rp hR 2200 0 2201 (by omega) (by omega)
  rw [cp_zero] at h
  exact hK _ _ _ _ _ _ _ _ h

