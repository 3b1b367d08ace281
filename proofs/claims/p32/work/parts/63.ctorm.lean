def shM : List XO := [.inl (12, [some 68, some 69, some 70, none, none, none, some 71, some 72, some 73, some 74, some 75, some 76, some 77, some 78, none, none, none, none, none, none, none, none, none, some 79, some 80, none, some 81, some 82, none, some 83, none, none, some 84, some 85, some 86, some 87, some 88, none, some 89, some 90, some 91, some 92, some 93, some 94, some 95, some 96, some 97, some 98]), .inr (0, 2200, []), .inr (0, 2200, []), .inr (1, 300, []), .inr (0, 4, []), .inr (0, 96, []), .inr (0, 96, []), .inr (0, 96, []), .inr (0, 96, []), .inr (0, 96, []), .inr (0, 1600, []), .inr (0, 1600, []), .inr (0, 40, []), .inr (0, 41, []), .inr (0, 80, []), .inr (0, 80, []), .inr (0, 40, []), .inr (0, 24, []), .inr (0, 24, []), .inr (0, 24, []), .inr (0, 24, []), .inr (0, 24, []), .inr (0, 400, []), .inr (0, 400, []), .inr (0, 11, []), .inr (2, 200, []), .inr (0, 69, []), .inr (0, 4, []), .inr (0, 4, []), .inr (0, 6, []), .inr (0, 6, []), .inr (0, 6, [])]
def shXM : List XO := [.inl (11, [some 12, some 23, some 26, some 28, some 1, some 3, some 4, none, some 30, some 35, some 18, some 5, none, none, some 6, some 36, some 40, some 41]), .inl (6, [some 2, none, none]), .inr (0, 2139, []), .inr (0, 8, []), .inr (0, 8, []), .inr (3, 4, [some 47, some 52, some 57, some 62]), .inl (1, [some 7, some 8, some 10, some 11, none, none, none, none, none, none]), .inr (0, 69, []), .inl (6, [some 9, none, none]), .inr (0, 2139, []), .inr (0, 8, []), .inr (0, 8, []), .inl (9, [some 13, some 14, some 15, some 16, some 17, none, none, none]), .inr (0, 8, []), .inr (0, 8, []), .inr (0, 8, []), .inr (0, 4, []), .inr (0, 4, []), .inl (8, [some 19, none, some 20, some 21, some 22, none]), .inr (0, 300, []), .inr (0, 5, []), .inr (0, 5, []), .inr (0, 96, []), .inl (2, [some 12, some 18, some 24, some 25]), .inr (0, 11, []), .inr (2, 64, []), .inl (10, [some 27, some 12, some 23]), .inr (0, 69, []), .inl (10, [some 29, some 12, some 23]), .inr (0, 69, []), .inl (7, [some 31, none, some 32, some 33, some 34, none]), .inr (0, 300, []), .inr (0, 301, []), .inr (0, 301, []), .inr (0, 301, []), .inl (5, [some 30, some 18, none, none, none, none, none, none, none]), .inl (3, [some 28, some 37, some 38, some 39, none, none, none, none, none]), .inr (0, 276, []), .inr (0, 4, []), .inr (0, 4, []), .inl (0, [some 23, none, none, none, none, none, none, none]), .inl (4, [some 26, some 42, none, some 43, some 44, some 45, some 46, none]), .inr (0, 6, []), .inr (0, 4, []), .inr (0, 4, []), .inr (0, 6, []), .inr (0, 6, []), .inl (8, [some 48, none, some 49, some 50, some 51, none]), .inr (0, 300, []), .inr (0, 5, []), .inr (0, 5, []), .inr (0, 96, []), .inl (8, [some 53, none, some 54, some 55, some 56, none]), .inr (0, 300, []), .inr (0, 5, []), .inr (0, 5, []), .inr (0, 96, []), .inl (8, [some 58, none, some 59, some 60, some 61, none]), .inr (0, 300, []), .inr (0, 5, []), .inr (0, 5, []), .inr (0, 96, []), .inl (8, [some 63, none, some 64, some 65, some 66, none]), .inr (0, 300, []), .inr (0, 5, []), .inr (0, 5, []), .inr (0, 96, []), .inl (12, [some 68, some 69, some 70, none, none, none, some 71, some 72, some 73, some 74, some 75, some 76, some 77, some 78, none, none, none, none, none, none, none, none, none, some 79, some 80, none, some 81, some 82, none, some 83, none, none, some 84, some 85, some 86, some 87, some 88, none, some 89, some 90, some 91, some 92, some 93, some 94, some 95, some 96, some 97, some 98]), .inr (0, 2200, []), .inr (0, 2200, []), .inr (1, 300, []), .inr (0, 4, []), .inr (0, 96, []), .inr (0, 96, []), .inr (0, 96, []), .inr (0, 96, []), .inr (0, 96, []), .inr (0, 1600, []), .inr (0, 1600, []), .inr (0, 40, []), .inr (0, 41, []), .inr (0, 80, []), .inr (0, 80, []), .inr (0, 40, []), .inr (0, 24, []), .inr (0, 24, []), .inr (0, 24, []), .inr (0, 24, []), .inr (0, 24, []), .inr (0, 400, []), .inr (0, 400, []), .inr (0, 11, []), .inr (2, 200, []), .inr (0, 69, []), .inr (0, 4, []), .inr (0, 4, []), .inr (0, 6, []), .inr (0, 6, []), .inr (0, 6, [])]
def iM0 : XI := zI (zI (zI (zI (zI (zI (zI (zI (zI (zI (zI (zI (zI (zI (zI (zI (zI (zI (zI (uI (uI (zI (zI (zI (zI (iX) 67) 68) 69) 70) 67 4 (-1)) 67 5 (-1)) 71) 72) 73) 74) 75) 76) 77) 78) 79) 80) 81) 82) 83) 84) 85) 86) 87) 88) 89
def iM1 : XI := uI (uI (zI (zI (zI (zI (zI (zI (zI (zI (zI (iM0) 90) 91) 92) 93) 94) 95) 96) 97) 98) 68 4 (-1)) 68 128 83
def iM : XI := iM1
def jM0 : XJ := zJ (zJ (zJ (zJ (zJ (zJ (zJ (zJ (zJ (zJ (zJ (zJ (zJ (zJ (zJ (zJ (zJ (zJ (zJ (zJ (zJ (zJ (zJ (zJ (zJ (jX) 68) 69) 70) 71) 72) 73) 74) 75) 76) 77) 78) 79) 80) 81) 82) 83) 84) 85) 86) 87) 88) 89) 90) 91) 92
def jM1 : XJ := zJ (zJ (zJ (zJ (zJ (zJ (jM0) 93) 94) 95) 96) 97) 98
def jM : XJ := jM1
theorem cp_step (I : XI) (q p n : Nat) (h : q ≠ p) : uI (cI I q p 0 0 n) p n (cI I q p 0 0 n q n) = cI I q p 0 0 (n + 1) := by
  funext r j
  by_cases hr : r = p
  · subst hr
    rw [uI_eq, cI_eq, cI_eq, cI_ne h]
    simp only [upd, va_cpy]
    by_cases hj : j = n
    · subst hj
      simp
    · simp only [if_neg hj]
      by_cases h2 : j < n
      · simp [h2, show j < n + 1 by omega]
      · simp [h2, show ¬ j < n + 1 by omega]
  · rw [uI_ne hr, cI_ne hr, cI_ne hr]
theorem cp_zero (I : XI) (q p : Nat) : cI I q p 0 0 0 = I := by
  funext r j
  by_cases hr : r = p
  · subst hr
    rw [cI_eq]
    simp [va_cpy]
  · rw [cI_ne hr]
set_option maxRecDepth 100000 in
theorem cp1_loop (l : Launch) (d : Nat) (I : XI) (J : XJ) (Rp : XR) (hR : Rp none shXM (cI I 68 69 0 0 2200) J) : ∀ (m k n : Nat), k + m = 2200 → m < n → xrun xxX12 none false false shXM.length 0 0 none l d tX12_copies [2] Rp n 2 [some (.ref 67), some (.int 1), some (.int (nI k))] [] shXM (cI I 68 69 0 0 k) J 0 0 := by
  intro m
  induction m with
  | zero =>
    intro k n hk hn
    obtain ⟨n, rfl⟩ : ∃ n', n = n' + 1 := ⟨n - 1, by omega⟩
    have hk : k = 2200 := by omega
    subst hk
    refine xrun_step fun K hK => ?_
    refine And.intro (fun h => ?_) (fun h => absurd (show (2200 : Int32) ≤ nI 2200 by decide) h)
    exact hR
  | succ m ih =>
    intro k n hk hn
    obtain ⟨n, rfl⟩ : ∃ n', n = n' + 1 := ⟨n - 1, by omega⟩
    refine xrun_step fun K hK => ?_
    refine And.intro (fun h => absurd h ?_) (fun h => ?_)
    · exact fun z => nI_ge (a := k) (b := 2200) (by omega) (by omega) z
    refine And.intro (fun h => absurd h (by decide)) (fun _ => ?_)
    refine And.intro (vp_in_nI (N := 2200) (by omega) (by omega)) ?_
    refine And.intro (vp_in_nI (N := 2200) (by omega) (by omega)) ?_
    refine hK 2 [some (.ref 67), some (.int 1), some (.int (nI k + 1))] [] shXM (uI (cI I 68 69 0 0 k) 69 (nI k).toNatClampNeg (cI I 68 69 0 0 k 68 (nI k).toNatClampNeg)) J 0 0 ?_
    rw [nI_1, nI_clamp (by omega), cp_step I 68 69 k (by omega)]
    exact ih (k + 1) n (by omega) (by omega)
set_option maxRecDepth 100000 in
theorem m_copies1 (l : Launch) (d : Nat) (I : XI) (J : XJ) (Rp : XR) (hR : Rp none shXM (cI I 68 69 0 0 2200) J) : xm l (d + 1) 0 0 mX12_copies [.ref 67, .int 1] shXM I J Rp := by
  refine xm_ofK 2201 (X := xxX12) (t := tX12_copies) (stop := [2]) (ini := false) xx12 pl12 rfl kX12_copies (fun h => by cases h) (Nat.le_of_ble_eq_true rfl) (fun K hK => ?_)
  have h := cp1_loop l d I J Rp hR 2200 0 2201 (by omega) (by omega)
  rw [cp_zero] at h
  exact hK _ _ _ _ _ _ _ _ h

set_option maxRecDepth 100000 in
set_option maxHeartbeats 4000000 in
theorem ctor_m (l : Launch) (d : Nat) (Rp : XR) (h : Rp none shXM (cI iM 68 69 0 0 2200) jM) : xm l (d + 2) 31 9891 mX12_init [.ref 67] (shCX ++ [.inl (12, List.replicate 48 none)]) (zI iX 67) jX Rp := by
  refine xm_of (X := xxX12) (t := tX12_init) (stop := []) (n := 1) (ini := true) xx12 pl12 rfl kX12_init (fun _ => rfl) (Nat.le_of_ble_eq_true rfl) ?_
  refine And.intro (vp_b (by decide +kernel)) ?_
  refine And.intro (vp_b (by decide +kernel)) ?_
  refine m_copies1 _ _ iM jM _ ?_
  exact h
