set_option maxRecDepth 100000 in
set_option maxHeartbeats 4000000 in
theorem c_takeFrom_28 (l : Launch) (d : Nat) (ru ta : Nat) (I : XI) (J : XJ) (Rp : XR) (hR : Rp none (shG ru ta) (cI I 27 29 0 0 69) J) : xm l (d + 1) 0 0 mX10_takeFrom [.ref 28, .ref 27] (shG ru ta) I J Rp := by
  refine xm_ofK 0 (X := xxX10) (t := tX10_takeFrom) (stop := []) (ini := false) xx10 pl10 rfl kX10_takeFrom (fun h => by cases h) (Nat.le_of_ble_eq_true rfl) (fun K hK => ?_)
  refine And.intro (fun h => absurd (show Int32.ofNat 69 = 69 by decide) h) (fun _ => ?_)
  exact And.intro ⟨by decide, by decide, by decide, by decide, by decide⟩ hR
theorem FW.copy {I : XI} {p q s T : Nat} (hqp : q ≠ p) (hL : ∀ k, k < 12 → I q (s + 28 + k) = 0) (hh : I q (s + 64) = nI (T % 10)) (hd : I q (s + 65) = nI (T / 10)) : FW p I T (cI I q p s 0 69) := by
  refine ⟨fun r hr => cI_ne hr, fun k hk => ?_, ?_, ?_⟩
  · rw [cI_eq]
    simp only [va_cpy]
    rw [if_pos (by omega), show s + (28 + k - 0) = s + 28 + k by omega, hL k hk]
  · rw [cI_eq]
    simp only [va_cpy]
    rw [if_pos (by omega)]
    exact hh
  · rw [cI_eq]
    simp only [va_cpy]
    rw [if_pos (by omega)]
    exact hd
set_option maxRecDepth 100000 in
set_option maxHeartbeats 4000000 in
theorem c_fs16 (l : Launch) (d N : Nat) (hN : N ≤ 60) (ru ta : Nat) (I0 : XI) (J : XJ) (Rp : XR) (h5 : I0 12 5 = 0) (hR : ∀ I', FW 29 I0 N I' → Rp none (shG ru ta) I' J) : ∀ (m i n : Nat) (I : XI), i + m = N → m < n → FW 29 I0 i I → xrun xxX11 none false false (shG ru ta).length 0 0 none l (d + 3) tX11_foresee [16] Rp n 16 [some (.ref 0), some (.int (nI N)), some (.int (nI i))] [] (shG ru ta) I J 0 0 := by
  intro m
  induction m with
  | zero =>
    intro i n I hi hn hF
    obtain ⟨n, rfl⟩ : ∃ n', n = n' + 1 := ⟨n - 1, by omega⟩
    have : i = N := by omega
    subst this
    refine xrun_step fun K hK => ?_
    exact And.intro (fun _ => hR _ hF) (fun h => absurd (nI_le (a := i) (b := i) (by omega) (by omega)) h)
  | succ m ih =>
    intro i n I hi hn hF
    obtain ⟨n, rfl⟩ : ∃ n', n = n' + 1 := ⟨n - 1, by omega⟩
    refine xrun_step fun K hK => ?_
    refine And.intro (fun h => absurd h (nI_ge (a := i) (b := N) (by omega) (by omega))) (fun _ => ?_)
    refine c_passHour_28 l d i ru ta I0 J _ (by omega) h5 I hF (fun I' hF' => ?_)
    refine And.intro (fun _ => ?_) (fun h => absurd h (show ¬ ((1 : Int32) = 0) by decide))
    refine hK 16 [some (.ref 0), some (.int (nI N)), some (.int (nI i + 1))] [] (shG ru ta) I' J 0 0 ?_
    rw [nI_1]
    exact ih (i + 1) n I' (by omega) (by omega) hF'
set_option maxRecDepth 100000 in
set_option maxHeartbeats 4000000 in
theorem c_foresee_0 (l : Launch) (d N : Nat) (hN : N ≤ 60) (ru ta : Nat) (I : XI) (J : XJ) (Rp : XR) (h5 : I 12 5 = 0) (hL : ∀ k, k < 12 → I 27 (28 + k) = 0) (hh : I 27 64 = 0) (hd : I 27 65 = 0) (hR : ∀ I', FW 29 I N I' → Rp none (shG ru ta) I' J) : xm l (d + 4) 0 0 mX11_foresee [.ref 0, .int (nI N)] (shG ru ta) I J Rp := by
  refine xm_ofK 62 (X := xxX11) (t := tX11_foresee) (stop := [16]) (ini := false) xx11 pl11 rfl kX11_foresee (fun h => by cases h) (Nat.le_of_ble_eq_true rfl) (fun K hK => ?_)
  refine c_takeFrom_28 l _ _ _ _ _ _ ?_
  have hF : FW 29 I 0 (cI I 27 29 0 0 69) := FW.copy (q := 27) (p := 29) (s := 0) (T := 0) (by decide) (fun k hk => by rw [Nat.zero_add]; exact hL k hk) hh hd
  exact hK _ _ _ _ _ _ _ _ (c_fs16 l d N hN ru ta I J Rp h5 hR N 0 62 _ (by omega) (by omega) hF)
set_option maxRecDepth 100000 in
set_option maxHeartbeats 4000000 in
theorem c_firstUnmet_0 (l : Launch) (d : Nat) (v : Int32) (ru ta : Nat) (I : XI) (J : XJ) (Rp : XR) (h7 : I 0 7 = 0) (hR : Rp (some (.int (-1))) (shG ru ta) I J) : xm l (d + 1) 0 0 mX11_firstUnmet [.ref 0, .int v] (shG ru ta) I J Rp := by
  refine xm_ofK 0 (X := xxX11) (t := tX11_firstUnmet) (stop := []) (ini := false) xx11 pl11 rfl kX11_firstUnmet (fun h => by cases h) (Nat.le_of_ble_eq_true rfl) (fun K hK => ?_)
  refine And.intro (fun _ => hR) (fun h => absurd ?_ h)
  show I 0 7 ≤ 0
  rw [h7]
  decide
set_option maxRecDepth 100000 in
set_option maxHeartbeats 4000000 in
theorem c_un28 (l : Launch) (d N : Nat) (hN : N ≤ 20) (ru ta : Nat) (I0 : XI) (J : XJ) (Rp : XR) (h5 : I0 12 5 = 0) (h7 : I0 0 7 = 0) (hR : ∀ I', FW 29 I0 (N * 10) I' → Rp (some (.int (-1))) (shG ru ta) I' J) : ∀ (m i n : Nat) (I : XI) (o : Option Value), i + m = N * 10 → m < n → FW 29 I0 i I → xrun xxX11 (some .int) false false (shG ru ta).length 0 0 none l (d + 3) tX11_unmet [28, 80] Rp (n + n) 28 [some (.ref 0), some (.int (nI N)), some (.int (nI i)), o] [] (shG ru ta) I J 0 0 := by
  intro m
  induction m with
  | zero =>
    intro i n I o hi hn hF
    obtain ⟨n, rfl⟩ : ∃ n', n = n' + 1 := ⟨n - 1, by omega⟩
    have : i = N * 10 := by omega
    subst this
    refine xrun_step fun K hK => ?_
    refine And.intro (fun _ => hR _ hF) (fun h => absurd ?_ h)
    show nI N * nI 10 ≤ nI (N * 10)
    rw [nI_mulN]
    exact nI_le (a := N * 10) (b := N * 10) (by omega) (by omega)
  | succ m ih =>
    intro i n I o hi hn hF
    obtain ⟨n, rfl⟩ : ∃ n', n = n' + 1 := ⟨n - 1, by omega⟩
    rw [show n + 1 + (n + 1) = (n + n) + 1 + 1 by omega]
    refine xrun_step fun K hK => ?_
    refine And.intro (fun h => absurd h ?_) (fun _ => ?_)
    · show ¬ nI N * nI 10 ≤ nI i
      rw [nI_mulN]
      exact nI_ge (a := i) (b := N * 10) (by omega) (by omega)
    refine c_passHour_28 l d i ru ta I0 J _ (by omega) h5 I hF (fun I' hF' => ?_)
    refine And.intro (fun _ => ?_) (fun h => absurd h (show ¬ ((1 : Int32) = 0) by decide))
    refine And.intro (vp_b (by decide)) ?_
    have h80 : xrun xxX11 (some .int) false false (shG ru ta).length 0 0 none l (d + 3) tX11_unmet [28, 80] Rp (n + n + 1) 80 [some (.ref 0), some (.int (nI N)), some (.int (nI i)), o] [.int (-1)] (shG ru ta) I' J 0 0 := by
      refine xrun_step fun K hK => ?_
      refine And.intro (fun _ => ?_) (fun h => absurd (show (-1 : Int32) = -1 from rfl) h)
      refine hK 28 [some (.ref 0), some (.int (nI N)), some (.int (nI i + 1)), some (.int (-1))] [] (shG ru ta) I' J 0 0 ?_
      rw [nI_1]
      exact ih (i + 1) n I' _ (by omega) (by omega) hF'
    refine And.intro (fun _ => ?_) (fun _ => ?_)
    · exact hK _ _ _ _ _ _ _ _ h80
    · refine And.intro (vp_b (by decide)) ?_
      refine c_firstUnmet_0 l _ _ _ _ _ _ _ (hF'.at (by decide) h7) ?_
      exact hK _ _ _ _ _ _ _ _ h80
set_option maxRecDepth 100000 in
set_option maxHeartbeats 4000000 in
theorem c_unmet_t (l : Launch) (d N : Nat) (hN : N ≤ 20) (h1 : 1 ≤ N) (ru ta : Nat) (I : XI) (J : XJ) (Rp : XR) (h5 : I 12 5 = 0) (h7 : I 0 7 = 0) (hL : ∀ k, k < 12 → I 27 (28 + k) = 0) (hh : I 27 64 = 0) (hd : I 27 65 = 0) (hR : ∀ I', (∀ q, q ≠ 29 → I' q = I q) → Rp (some (.int (-1))) (shG ru ta) I' J) : xm l (d + 4) 0 0 mX11_unmet [.ref 0, .int (nI N)] (shG ru ta) I J Rp := by
  refine xm_ofK 1000 (X := xxX11) (t := tX11_unmet) (stop := [28, 80]) (ini := false) xx11 pl11 rfl kX11_unmet (fun h => by cases h) (Nat.le_of_ble_eq_true rfl) (fun K hK => ?_)
  refine c_within_t l _ _ _ _ _ _ _ _ (nI_le (a := 1) (b := N) h1 (by omega)) (nI_le (a := N) (b := 20) hN (by omega)) ?_
  refine And.intro (fun _ => ?_) (fun h => absurd h (show ¬ ((1 : Int32) = 0) by decide))
  refine c_takeFrom_28 l _ _ _ _ _ _ ?_
  have hF : FW 29 I 0 (cI I 27 29 0 0 69) := FW.copy (q := 27) (p := 29) (s := 0) (T := 0) (by decide) (fun k hk => by rw [Nat.zero_add]; exact hL k hk) hh hd
  exact hK _ _ _ _ _ _ _ _ (c_un28 l d N hN ru ta I J Rp h5 h7 (fun I' hF' => hR I' hF'.1) (N * 10) 0 500 _ none (by omega) (by omega) hF)
set_option maxRecDepth 100000 in
set_option maxHeartbeats 4000000 in
theorem c_unmet_f (l : Launch) (d : Nat) (v : Int32) (ru ta : Nat) (I : XI) (J : XJ) (Rp : XR) (hc : ¬ ((1 : Int32) ≤ v ∧ v ≤ 20)) (hR : Rp (some (.int (-1))) (shG ru ta) I J) : xm l (d + 2) 0 0 mX11_unmet [.ref 0, .int v] (shG ru ta) I J Rp := by
  refine xm_ofK 0 (X := xxX11) (t := tX11_unmet) (stop := []) (ini := false) xx11 pl11 rfl kX11_unmet (fun h => by cases h) (Nat.le_of_ble_eq_true rfl) (fun K hK => ?_)
  refine c_within_f l _ _ _ _ _ _ _ _ hc ?_
  exact And.intro (fun h => absurd (show (0 : Int32) = 0 from rfl) h) (fun _ => hR)
def isB (x : Int32) : Prop := x = -1 ∨ ∃ j : Nat, j < 12 ∧ x = nI j
set_option maxRecDepth 100000 in
set_option maxHeartbeats 4000000 in
theorem c_lf20 (l : Launch) (d c : Nat) (ru ta : Nat) (I : XI) (J : XJ) (Rp : XR) (hL : ∀ k, k < 12 → I 29 (28 + k) = 0) (tk i : Int32) (n0 : Nat) (hR : Rp (some (.int 0)) (shG ru ta) I J) (hc : ∀ (tk' : Int32) (o6 o7 o8 : Option Value), xrun xxX10 (some .int) false false (shG ru ta).length 0 0 none l d tX10_longestFeet [8, 20, 47, 87] Rp n0 8 [some (.ref 28), some (.int 12), some (.int (nI c)), some (.int tk'), some (.int 0), some (.int (i + 1)), o6, o7, o8] [] (shG ru ta) I J 0 0) : ∀ (m b : Nat) (x : Int32) (o8 : Option Value), b + m = 12 → isB x → xrun xxX10 (some .int) false false (shG ru ta).length 0 0 none l d tX10_longestFeet [8, 20, 47, 87] Rp (n0 + 3 * m + 1) 20 [some (.ref 28), some (.int 12), some (.int (nI c)), some (.int tk), some (.int 0), some (.int i), some (.int x), some (.int (nI b)), o8] [] (shG ru ta) I J 0 0 := by
  intro m
  induction m with
  | zero =>
    intro b x o8 hb hx
    have : b = 12 := by omega
    subst this
    refine xrun_step fun K hK => ?_
    refine And.intro (fun _ => ?_) (fun h => absurd (show (12 : Int32) ≤ nI 12 by decide) h)
    rcases hx with hx | ⟨j, hj, hx⟩
    · subst hx
      exact And.intro (fun h => absurd (show (-1 : Int32) = -1 from rfl) h) (fun _ => hR)
    · subst hx
      refine And.intro (fun _ => ?_) (fun h => absurd h ?_)
      · have e : nI 28 + nI j = nI (28 + j) := nI_add 28 j
        have hv : vp_in (nI 28 + nI j) 69 := by
          rw [e]
          exact vp_in_nI (by omega) (by omega)
        refine And.intro hv ?_
        refine hK 8 [some (.ref 28), some (.int 12), some (.int (nI c)), some (.int _), some (.int (0 + I 29 (nI 28 + nI j).toNatClampNeg)), some (.int (i + 1)), some (.int (nI j)), some (.int (nI 12)), o8] [] (shG ru ta) I J 0 0 ?_
        rw [e, nI_clamp (by omega), hL j hj]
        exact hc _ _ _ _
      · have : ∀ j, j < 12 → ¬ nI j = -1 := by decide +kernel
        exact this j hj
  | succ m ih =>
    intro b x o8 hb hx
    have e : nI 28 + nI b = nI (28 + b) := nI_add 28 b
    have hv : vp_in (nI 28 + nI b) 69 := by
      rw [e]
      exact vp_in_nI (by omega) (by omega)
    rw [show n0 + 3 * (m + 1) + 1 = (n0 + 3 * m + 1) + 1 + 1 + 1 by omega]
    have h87 : ∀ (y : Int32) (o8 : Option Value), isB y → xrun xxX10 (some .int) false false (shG ru ta).length 0 0 none l d tX10_longestFeet [8, 20, 47, 87] Rp (n0 + 3 * m + 1 + 1) 87 [some (.ref 28), some (.int 12), some (.int (nI c)), some (.int tk), some (.int 0), some (.int i), some (.int y), some (.int (nI b)), o8] [] (shG ru ta) I J 0 0 := by
      intro y o8 hy
      refine xrun_step fun K hK => ?_
      refine hK 20 [some (.ref 28), some (.int 12), some (.int (nI c)), some (.int tk), some (.int 0), some (.int i), some (.int y), some (.int (nI b + 1)), o8] [] (shG ru ta) I J 0 0 ?_
      rw [nI_1]
      exact ih (b + 1) y o8 (by omega) hy
    have h47 : ∀ (v : Int32), xrun xxX10 (some .int) false false (shG ru ta).length 0 0 none l d tX10_longestFeet [8, 20, 47, 87] Rp (n0 + 3 * m + 1 + 1 + 1) 47 [some (.ref 28), some (.int 12), some (.int (nI c)), some (.int tk), some (.int 0), some (.int i), some (.int x), some (.int (nI b)), o8] [.int v] (shG ru ta) I J 0 0 := by
      intro v
      refine xrun_step fun K hK => ?_
      refine And.intro (fun _ => hK _ _ _ _ _ _ _ _ (h87 x _ hx)) (fun _ => ?_)
      rcases hx with hx | ⟨j, hj, hx⟩
      · subst hx
        refine And.intro (fun _ => ?_) (fun h => absurd (show (-1 : Int32) = -1 from rfl) h)
        exact hK _ _ _ _ _ _ _ _ (h87 (nI b) _ (Or.inr ⟨b, by omega, rfl⟩))
      · subst hx
        refine And.intro (fun h => absurd h ?_) (fun _ => ?_)
        · have : ∀ j, j < 12 → ¬ nI j = -1 := by decide +kernel
          exact this j hj
        have ej : nI 28 + nI j = nI (28 + j) := nI_add 28 j
        have hvj : vp_in (nI 28 + nI j) 69 := by
          rw [ej]
          exact vp_in_nI (by omega) (by omega)
        refine And.intro hv (And.intro hvj ?_)
        refine And.intro (fun _ => hK _ _ _ _ _ _ _ _ (h87 (nI j) _ (Or.inr ⟨j, hj, rfl⟩))) (fun h => absurd ?_ h)
        show I 29 (nI 28 + nI b).toNatClampNeg ≤ I 29 (nI 28 + nI j).toNatClampNeg
        rw [e, ej, nI_clamp (by omega), nI_clamp (by omega), hL b (by omega), hL j hj]
        decide
    refine xrun_step fun K hK => ?_
    refine And.intro (fun h => absurd h (nI_ge (a := b) (b := 12) (by omega) (by omega))) (fun _ => ?_)
    refine And.intro (fun h => absurd h (nI_ge (a := b) (b := 12) (by omega) (by omega))) (fun _ => ?_)
    exact And.intro (fun _ => hK _ _ _ _ _ _ _ _ (h47 0)) (fun _ => hK _ _ _ _ _ _ _ _ (h47 1))
set_option maxRecDepth 100000 in
set_option maxHeartbeats 4000000 in
theorem c_lf8 (l : Launch) (d c : Nat) (hcc : c ≤ 12) (ru ta : Nat) (I : XI) (J : XJ) (Rp : XR) (hL : ∀ k, k < 12 → I 29 (28 + k) = 0) (hR : Rp (some (.int 0)) (shG ru ta) I J) : ∀ (m i : Nat) (tk : Int32) (o6 o7 o8 : Option Value), i + m = c → xrun xxX10 (some .int) false false (shG ru ta).length 0 0 none l d tX10_longestFeet [8, 20, 47, 87] Rp (38 * m + 1) 8 [some (.ref 28), some (.int 12), some (.int (nI c)), some (.int tk), some (.int 0), some (.int (nI i)), o6, o7, o8] [] (shG ru ta) I J 0 0 := by
  intro m
  induction m with
  | zero =>
    intro i tk o6 o7 o8 hi
    have : i = c := by omega
    subst this
    refine xrun_step fun K hK => ?_
    exact And.intro (fun _ => hR) (fun h => absurd (nI_le (a := i) (b := i) (by omega) (by omega)) h)
  | succ m ih =>
    intro i tk o6 o7 o8 hi
    rw [show 38 * (m + 1) + 1 = ((38 * m + 1) + 3 * 12 + 1) + 1 by omega]
    refine xrun_step fun K hK => ?_
    refine And.intro (fun h => absurd h (nI_ge (a := i) (b := c) (by omega) (by omega))) (fun _ => ?_)
    refine hK 20 [some (.ref 28), some (.int 12), some (.int (nI c)), some (.int tk), some (.int 0), some (.int (nI i)), some (.int (-1)), some (.int (nI 0)), o8] [] (shG ru ta) I J 0 0 ?_
    refine c_lf20 l d c ru ta I J Rp hL tk (nI i) (38 * m + 1) hR (fun tk' o6 o7 o8 => ?_) 12 0 (-1) o8 (by omega) (Or.inl rfl)
    rw [nI_1]
    exact ih (i + 1) tk' o6 o7 o8 (by omega)
set_option maxRecDepth 100000 in
set_option maxHeartbeats 4000000 in
theorem c_longestFeet_0 (l : Launch) (d c : Nat) (hcc : c ≤ 12) (ru ta : Nat) (I : XI) (J : XJ) (Rp : XR) (hL : ∀ k, k < 12 → I 29 (28 + k) = 0) (hR : Rp (some (.int 0)) (shG ru ta) I J) : xm l (d + 1) 0 0 mX10_longestFeet [.ref 28, .int 12, .int (nI c)] (shG ru ta) I J Rp := by
  refine xm_ofK (38 * c + 1) (X := xxX10) (t := tX10_longestFeet) (stop := [8, 20, 47, 87]) (ini := false) xx10 pl10 rfl kX10_longestFeet (fun h => by cases h) (Nat.le_of_ble_eq_true rfl) (fun K hK => ?_)
  exact hK _ _ _ _ _ _ _ _ (c_lf8 l d c hcc ru ta I J Rp hL hR c 0 0 none none none (by omega))
set_option maxRecDepth 100000 in
set_option maxHeartbeats 4000000 in
theorem c_en30 (l : Launch) (d : Nat) (ft : Int32) (hft : ¬ ft ≤ 0) (v : Int32) (ru ta : Nat) (I : XI) (J : XJ) (Rp : XR) (hL : ∀ k, k < 12 → I 29 (28 + k) = 0) (hR : Rp (some (.int (-1))) (shG ru ta) I J) : ∀ (m c : Nat), c + m = 13 → xrun xxX11 (some .int) false false (shG ru ta).length 0 0 none l (d + 1) tX11_enough [30] Rp (m + 1) 30 [some (.ref 0), some (.int ft), some (.int v), some (.int (nI c)), none, none, none] [] (shG ru ta) I J 0 0 := by
  intro m
  induction m with
  | zero =>
    intro c hc
    have : c = 13 := by omega
    subst this
    refine xrun_step fun K hK => ?_
    refine And.intro (fun _ => ?_) (fun h => absurd (show (12 : Int32) < nI 13 by decide) h)
    exact And.intro (fun h => absurd h (show ¬ nI 13 ≤ 12 by decide)) (fun _ => hR)
  | succ m ih =>
    intro c hc
    refine xrun_step fun K hK => ?_
    refine And.intro (fun h => absurd h (nI_nlt (a := 12) (b := c) (by omega) (by omega))) (fun _ => ?_)
    refine c_longestFeet_0 l _ c (by omega) _ _ _ _ _ hL ?_
    refine And.intro (fun h => absurd h hft) (fun _ => ?_)
    refine hK 30 [some (.ref 0), some (.int ft), some (.int v), some (.int (nI c + 1)), none, none, none] [] (shG ru ta) I J 0 0 ?_
    rw [nI_1]
    exact ih (c + 1) (by omega)
set_option maxRecDepth 100000 in
set_option maxHeartbeats 4000000 in
theorem c_enough_0 (l : Launch) (d : Nat) (ft v : Int32) (ru ta : Nat) (I : XI) (J : XJ) (Rp : XR) (h5 : I 12 5 = 0) (hL : ∀ k, k < 12 → I 27 (28 + k) = 0) (hh : I 27 64 = 0) (hd : I 27 65 = 0) (hR : ∀ I', (∀ q, q ≠ 29 → I' q = I q) → Rp (some (.int (-1))) (shG ru ta) I' J) : xm l (d + 5) 0 0 mX11_enough [.ref 0, .int ft, .int v] (shG ru ta) I J Rp := by
  refine xm_ofK 13 (X := xxX11) (t := tX11_enough) (stop := [30]) (ini := false) xx11 pl11 rfl kX11_enough (fun h => by cases h) (Nat.le_of_ble_eq_true rfl) (fun K hK => ?_)
  by_cases h1 : (1 : Int32) ≤ ft ∧ ft ≤ 9999
  · refine c_within_t l _ _ _ _ _ _ _ _ h1.1 h1.2 ?_
    refine And.intro (fun h => absurd h (show ¬ ((1 : Int32) = 0) by decide)) (fun _ => ?_)
    by_cases h2 : (0 : Int32) ≤ v ∧ v ≤ 60
    · refine c_within_t l _ _ _ _ _ _ _ _ h2.1 h2.2 ?_
      refine And.intro (fun _ => ?_) (fun h => absurd h (show ¬ ((1 : Int32) = 0) by decide))
      obtain ⟨N, _, hN, rfl⟩ := rng_of (m := 0) (n := 60) (by decide) (by decide) h2.1 h2.2
      refine c_foresee_0 l d N hN _ _ _ _ _ h5 hL hh hd (fun I' hF => ?_)
      have hft : ¬ ft ≤ 0 := by
        obtain ⟨M, m1, m2, rfl⟩ := rng_of (m := 1) (n := 9999) (by decide) (by decide) h1.1 h1.2
        exact nI_nle (by omega) (by omega)
      exact hK _ _ _ _ _ _ _ _ (c_en30 l _ ft hft (nI N) ru ta I' J _ hF.2.1 (hR I' hF.1) 12 1 (by omega))
    · refine c_within_f l _ _ _ _ _ _ _ _ h2 ?_
      exact And.intro (fun h => absurd (show (0 : Int32) = 0 from rfl) h) (fun _ => hR I (fun _ _ => rfl))
  · refine c_within_f l _ _ _ _ _ _ _ _ h1 ?_
    exact And.intro (fun _ => hR I (fun _ _ => rfl)) (fun h => absurd (show (0 : Int32) = 0 from rfl) h)
def ST (I : XI) : Prop := ∃ f s : Nat, f < 31 ∧ s ≤ 30 ∧ I 1 1 = nI f ∧ I 1 2 = nI s
set_option maxRecDepth 100000 in
set_option maxHeartbeats 4000000 in
theorem c_placeOf_1 (l : Launch) (d f s : Nat) (hf : f < 31) (hs : s ≤ 30) (ru ta : Nat) (I : XI) (J : XJ) (Rp : XR) (h1 : I 1 1 = nI f) (hR : Rp (some (.int (nI ((f + s) % 31 * 69)))) (shG ru ta) I J) : xm l (d + 1) 0 0 mX6_placeOf [.ref 1, .int (nI s)] (shG ru ta) I J Rp := by
  refine xm_ofK 0 (X := xxX6) (t := tX6_placeOf) (stop := []) (ini := false) xx6 pl6 rfl kX6_placeOf (fun h => by cases h) (Nat.le_of_ble_eq_true rfl) (fun K hK => ?_)
  refine And.intro (show ¬ ((31 : Int32) = 0) by decide) ?_
  have e : ((I 1 1 + nI s) - (I 1 1 + nI s) / 31 * 31) * 69 = nI ((f + s) % 31 * 69) := by
    rw [h1, nI_add, mod31 (f + s) (by omega), show (69 : Int32) = nI 69 from rfl, nI_mulN]
  rw [← e] at hR
  exact hR
set_option maxRecDepth 100000 in
set_option maxHeartbeats 4000000 in
theorem c_note_1 (l : Launch) (d : Nat) (ru ta : Nat) (I : XI) (J : XJ) (Rp : XR) (hS : ST I) (hR : ∀ I', (∀ q, q ≠ 2 → I' q = I q) → Rp none (shG ru ta) I' J) : xm l (d + 2) 0 0 mX6_note [.ref 1, .ref 27] (shG ru ta) I J Rp := by
  obtain ⟨f, s, hf, hs, h1, h2⟩ := hS
  have hb : (f + s) % 31 * 69 ≤ 2070 := by omega
  refine xm_ofK 0 (X := xxX6) (t := tX6_note) (stop := []) (ini := false) xx6 pl6 rfl kX6_note (fun h => by cases h) (Nat.le_of_ble_eq_true rfl) (fun K hK => ?_)
  have hp := c_placeOf_1 l d f s hf hs ru ta I J
  rw [← h2] at hp
  refine hp _ h1 ?_
  refine And.intro (fun h => absurd (show Int32.ofNat 69 = 69 by decide) h) (fun _ => ?_)
  refine And.intro (fun h => absurd h (nI_pos (by omega))) (fun _ => ?_)
  refine And.intro (fun h => absurd h ?_) (fun _ => ?_)
  · show ¬ nI 2139 < nI ((f + s) % 31 * 69) + nI 69
    rw [nI_add]
    exact nI_nlt (a := 2139) (b := (f + s) % 31 * 69 + 69) (by omega) (by omega)
  refine And.intro ⟨by decide, nI_pos (by omega), by decide, by decide, ?_⟩ (hR _ (fun q hq => cI_ne hq))
  show (nI ((f + s) % 31 * 69)).toNatClampNeg + 69 ≤ 2139
  rw [nI_clamp (by omega)]
  omega
set_option maxRecDepth 100000 in
set_option maxHeartbeats 4000000 in
theorem c_count_1 (l : Launch) (d : Nat) (ru ta : Nat) (I : XI) (J : XJ) (Rp : XR) (hS : ST I) (hR : ∀ I', (∀ q, q ≠ 1 → I' q = I q) → ST I' → Rp none (shG ru ta) I' J) : xm l (d + 1) 0 0 mX6_count [.ref 1] (shG ru ta) I J Rp := by
  obtain ⟨f, s, hf, hs, h1, h2⟩ := hS
  refine xm_ofK 0 (X := xxX6) (t := tX6_count) (stop := []) (ini := false) xx6 pl6 rfl kX6_count (fun h => by cases h) (Nat.le_of_ble_eq_true rfl) (fun K hK => ?_)
  refine And.intro (fun h => ?_) (fun h => ?_)
  · refine And.intro (show ¬ ((31 : Int32) = 0) by decide) ?_
    refine hR (uI I 1 1 _) (fun q hq => uI_ne hq) ⟨(f + 1) % 31, s, by omega, hs, ?_, ?_⟩
    · rw [uI_same]
      show (I 1 1 + nI 1) - (I 1 1 + nI 1) / 31 * 31 = nI ((f + 1) % 31)
      rw [h1, nI_add, mod31 (f + 1) (by omega)]
    · rw [uI_other (by omega), h2]
  · have h' : ¬ (30 : Int32) ≤ I 1 2 := h
    rw [h2] at h'
    have hlt : s < 30 := by
      rcases Nat.lt_or_ge s 30 with z | z
      · exact z
      · exact absurd (nI_le (a := 30) (b := s) z (by omega)) h'
    refine hR (uI I 1 2 (I 1 2 + 1)) (fun q hq => uI_ne hq) ⟨f, s + 1, hf, by omega, ?_, ?_⟩
    · rw [uI_other (by omega), h1]
    · rw [uI_same, h2, nI_1]
def HW (I0 : XI) (i : Nat) (I : XI) : Prop := FW 27 I i I ∧ ST I ∧ I 12 5 = 0 ∧ ∀ q, 67 ≤ q → I q = I0 q
set_option maxRecDepth 100000 in
set_option maxHeartbeats 4000000 in
theorem c_ph4 (l : Launch) (d N : Nat) (hN : N ≤ 60) (ru ta : Nat) (I0 : XI) (J : XJ) (Rp : XR) (hR : ∀ (I' : XI) (v : Int32), HW I0 N I' → Rp (some (.int v)) (shG ru ta) I' J) : ∀ (m i n : Nat) (I : XI) (v : Int32), i + m = N → m < n → HW I0 i I → xrun xxX11 (some .int) false false (shG ru ta).length 0 0 none l (d + 3) tX11_passHours [4] Rp n 4 [some (.ref 0), some (.int (nI N)), some (.int v), some (.int (nI i))] [] (shG ru ta) I J 0 0 := by
  intro m
  induction m with
  | zero =>
    intro i n I v hi hn hW
    obtain ⟨n, rfl⟩ : ∃ n', n = n' + 1 := ⟨n - 1, by omega⟩
    have : i = N := by omega
    subst this
    refine xrun_step fun K hK => ?_
    exact And.intro (fun _ => hR _ _ hW) (fun h => absurd (nI_le (a := i) (b := i) (by omega) (by omega)) h)
  | succ m ih =>
    intro i n I v hi hn hW
    obtain ⟨n, rfl⟩ : ∃ n', n = n' + 1 := ⟨n - 1, by omega⟩
    obtain ⟨hF, hS, h5, hq⟩ := hW
    refine xrun_step fun K hK => ?_
    refine And.intro (fun h => absurd h (nI_ge (a := i) (b := N) (by omega) (by omega))) (fun _ => ?_)
    refine c_note_1 l _ _ _ _ _ _ hS (fun I1 e1 => ?_)
    have hF1 : FW 27 I1 i I1 := ⟨fun _ _ => rfl, by rw [e1 27 (by decide)]; exact hF.2⟩
    refine c_passHour_26 l d i ru ta I1 J _ (by omega) (by rw [e1 12 (by decide)]; exact h5) I1 hF1 (fun I2 hF2 => ?_)
    refine And.intro (fun _ => ?_) (fun h => absurd h (show ¬ ((1 : Int32) = 0) by decide))
    have hS2 : ST I2 := by
      unfold ST
      rw [hF2.1 1 (by decide), e1 1 (by decide)]
      exact hS
    refine c_count_1 l _ _ _ _ _ _ hS2 (fun I3 e3 hS3 => ?_)
    refine hK 4 [some (.ref 0), some (.int (nI N)), some (.int (v + 1)), some (.int (nI i + 1))] [] (shG ru ta) I3 J 0 0 ?_
    rw [nI_1]
    refine ih (i + 1) n I3 _ (by omega) (by omega) ⟨⟨fun _ _ => rfl, ?_⟩, hS3, ?_, fun q hq' => ?_⟩
    · rw [e3 27 (by decide)]
      exact hF2.2
    · rw [e3 12 (by decide), hF2.1 12 (by decide), e1 12 (by decide), h5]
    · rw [e3 q (by omega), hF2.1 q (by omega), e1 q (by omega), hq q hq']
set_option maxRecDepth 100000 in
set_option maxHeartbeats 4000000 in
theorem c_hour_t (l : Launch) (d N : Nat) (hN : N ≤ 60) (h1 : 1 ≤ N) (ru ta : Nat) (I : XI) (J : XJ) (Rp : XR) (hS : ST I) (h5 : I 12 5 = 0) (hL : ∀ k, k < 12 → I 27 (28 + k) = 0) (hh : I 27 64 = 0) (hd : I 27 65 = 0) (hR : ∀ I', (∀ q, 67 ≤ q → I' q = I q) → Rp (some (.int (nI (N % 10)))) (shG ru ta) I' J) : xm l (d + 5) 0 0 mX11_hour [.ref 0, .int (nI N)] (shG ru ta) I J Rp := by
  refine xm_ofK 0 (X := xxX11) (t := tX11_hour) (stop := []) (ini := false) xx11 pl11 rfl kX11_hour (fun h => by cases h) (Nat.le_of_ble_eq_true rfl) (fun K hK => ?_)
  refine c_within_t l _ _ _ _ _ _ _ _ (nI_le (a := 1) (b := N) h1 (by omega)) (nI_le (a := N) (b := 60) hN (by omega)) ?_
  refine And.intro (fun h => absurd h (show ¬ ((1 : Int32) = 0) by decide)) (fun _ => ?_)
  refine c_hoursLeft_26 l _ _ _ _ _ _ ?_
  refine And.intro (fun _ => ?_) (fun h => absurd ?_ h)
  · have hW : HW I 0 I := ⟨⟨fun _ _ => rfl, hL, hh, hd⟩, hS, h5, fun _ _ => rfl⟩
    refine xm_ofK 62 (X := xxX11) (t := tX11_passHours) (stop := [4]) (ini := false) xx11 pl11 rfl kX11_passHours (fun h => by cases h) (Nat.le_of_ble_eq_true rfl) (fun K hK => ?_)
    refine hK _ _ _ _ _ _ _ _ (c_ph4 l d N hN ru ta I J _ (fun I' v hW' => ?_) N 0 62 I 0 (by omega) (by omega) hW)
    refine And.intro (vp_b (by decide)) ?_
    have e : I' 27 64 = nI (N % 10) := hW'.1.2.2.1
    have hRR := hR I' hW'.2.2.2
    rw [← e] at hRR
    exact hRR
  · show nI N ≤ (((999 : Int32) - I 27 65) * 10 + 10) - 1 - I 27 64
    rw [hh, hd, show (((999 : Int32) - 0) * 10 + 10) - 1 - 0 = nI 9999 by decide]
    exact nI_le (a := N) (b := 9999) (by omega) (by omega)
set_option maxRecDepth 100000 in
set_option maxHeartbeats 4000000 in
theorem c_hour_f (l : Launch) (d : Nat) (v : Int32) (ru ta : Nat) (I : XI) (J : XJ) (Rp : XR) (hc : ¬ ((1 : Int32) ≤ v ∧ v ≤ 60)) (hR : Rp (some (.int (-1))) (shG ru ta) I J) : xm l (d + 2) 0 0 mX11_hour [.ref 0, .int v] (shG ru ta) I J Rp := by
  refine xm_ofK 0 (X := xxX11) (t := tX11_hour) (stop := []) (ini := false) xx11 pl11 rfl kX11_hour (fun h => by cases h) (Nat.le_of_ble_eq_true rfl) (fun K hK => ?_)
  refine c_within_f l _ _ _ _ _ _ _ _ hc ?_
  exact And.intro (fun _ => hR) (fun h => absurd (show (0 : Int32) = 0 from rfl) h)
