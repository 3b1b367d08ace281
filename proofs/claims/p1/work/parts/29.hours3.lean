theorem cp_stepG (I : XI) (q p s t n : Nat) (h : q ≠ p) : uI (cI I q p s t n) p (t + n) (cI I q p s t n q (s + n)) = cI I q p s t (n + 1) := by
  funext r j
  by_cases hr : r = p
  · subst hr
    rw [uI_at, cI_eq, cI_eq, cI_ne h]
    simp only [va_cpy, true_and]
    by_cases hj : j = t + n
    · subst hj
      rw [if_pos rfl, if_pos (by omega), show s + (t + n - t) = s + n by omega]
    · rw [if_neg hj]
      by_cases h2 : t ≤ j ∧ j < t + n
      · rw [if_pos h2, if_pos (by omega)]
      · rw [if_neg h2, if_neg (by omega)]
  · rw [uI_ne hr, cI_ne hr, cI_ne hr]
theorem cp_zeroG (I : XI) (q p s t : Nat) : cI I q p s t 0 = I := by
  funext r j
  by_cases hr : r = p
  · subst hr
    rw [cI_eq]
    simp only [va_cpy]
    rw [if_neg (by omega)]
  · rw [cI_ne hr]
theorem vp_k {k N : Nat} {x : Int32} (e : x = nI k) (h : k < N) (hN : N < 2 ^ 31) : vp_in x N := by
  rw [e]
  exact vp_in_nI h hN
set_option maxRecDepth 100000 in
set_option maxHeartbeats 4000000 in
theorem m_laysNow_loop (l : Launch) (d : Nat) (ru ta : Nat) (I : XI) (J : XJ) (Rp : XR) (hR : Rp none (shG ru ta) (cI I 68 93 60 0 69) J) : ∀ (m k n : Nat), k + m = 69 → m < n → xrun xxX12 none false false (shG ru ta).length 0 0 none l d tX12_laysNow [2] Rp n 2 [some (.ref 67), some (.int (nI k))] [] (shG ru ta) (cI I 68 93 60 0 k) J 0 0 := by
  intro m
  induction m with
  | zero =>
    intro k n hk hn
    obtain ⟨n, rfl⟩ : ∃ n', n = n' + 1 := ⟨n - 1, by omega⟩
    have hk : k = 69 := by omega
    subst hk
    refine xrun_step fun K hK => ?_
    exact And.intro (fun _ => hR) (fun h => absurd (show (69 : Int32) ≤ nI 69 by decide) h)
  | succ m ih =>
    intro k n hk hn
    obtain ⟨n, rfl⟩ : ∃ n', n = n' + 1 := ⟨n - 1, by omega⟩
    have hst := cp_stepG I 68 93 60 0 k (by decide)
    refine xrun_step fun K hK => ?_
    refine And.intro (fun h => absurd h (nI_ge (a := k) (b := 69) (by omega) (by omega))) (fun _ => ?_)
    refine And.intro (vp_k (N := 2200) (k := 60 + k) (nI_add 60 k) (by omega) (by omega)) ?_
    refine And.intro (vp_in_nI (N := 69) (by omega) (by omega)) ?_
    refine hK 2 [some (.ref 67), some (.int (nI k + 1))] [] (shG ru ta) (uI (cI I 68 93 60 0 k) 93 ((nI k)).toNatClampNeg (cI I 68 93 60 0 k 68 ((nI 60 + nI k)).toNatClampNeg)) J 0 0 ?_
    rw [nI_1, nI_add, nI_clamp (by omega), nI_clamp (by omega)]
    rw [show (0 + k) = k by omega, show (60 + k) = 60 + k by omega] at hst
    rw [hst]
    exact ih (k + 1) n (by omega) (by omega)
set_option maxRecDepth 100000 in
set_option maxHeartbeats 4000000 in
theorem m_laysNow_0 (l : Launch) (d : Nat) (ru ta : Nat) (I : XI) (J : XJ) (Rp : XR) (hR : Rp none (shG ru ta) (cI I 68 93 60 0 69) J) : xm l (d + 1) 0 0 mX12_laysNow [.ref 67] (shG ru ta) I J Rp := by
  refine xm_ofK 70 (X := xxX12) (t := tX12_laysNow) (stop := [2]) (ini := false) xx12 pl12 rfl kX12_laysNow (fun h => by cases h) (Nat.le_of_ble_eq_true rfl) (fun K hK => ?_)
  have h := m_laysNow_loop l d ru ta I J Rp hR 69 0 70 (by omega) (by omega)
  rw [cp_zeroG] at h
  exact hK _ _ _ _ _ _ _ _ h
set_option maxRecDepth 100000 in
set_option maxHeartbeats 4000000 in
theorem m_keepsNow_loop (l : Launch) (d : Nat) (ru ta : Nat) (I : XI) (J : XJ) (Rp : XR) (hR : Rp none (shG ru ta) (cI I 93 68 0 60 69) J) : ∀ (m k n : Nat), k + m = 69 → m < n → xrun xxX12 none false false (shG ru ta).length 0 0 none l d tX12_keepsNow [2] Rp n 2 [some (.ref 67), some (.int (nI k))] [] (shG ru ta) (cI I 93 68 0 60 k) J 0 0 := by
  intro m
  induction m with
  | zero =>
    intro k n hk hn
    obtain ⟨n, rfl⟩ : ∃ n', n = n' + 1 := ⟨n - 1, by omega⟩
    have hk : k = 69 := by omega
    subst hk
    refine xrun_step fun K hK => ?_
    exact And.intro (fun _ => hR) (fun h => absurd (show (69 : Int32) ≤ nI 69 by decide) h)
  | succ m ih =>
    intro k n hk hn
    obtain ⟨n, rfl⟩ : ∃ n', n = n' + 1 := ⟨n - 1, by omega⟩
    have hst := cp_stepG I 93 68 0 60 k (by decide)
    refine xrun_step fun K hK => ?_
    refine And.intro (fun h => absurd h (nI_ge (a := k) (b := 69) (by omega) (by omega))) (fun _ => ?_)
    refine And.intro (vp_in_nI (N := 69) (by omega) (by omega)) ?_
    refine And.intro (vp_k (N := 2200) (k := 60 + k) (nI_add 60 k) (by omega) (by omega)) ?_
    refine hK 2 [some (.ref 67), some (.int (nI k + 1))] [] (shG ru ta) (uI (cI I 93 68 0 60 k) 68 ((nI 60 + nI k)).toNatClampNeg (cI I 93 68 0 60 k 93 ((nI k)).toNatClampNeg)) J 0 0 ?_
    rw [nI_1, nI_add, nI_clamp (by omega), nI_clamp (by omega)]
    rw [show (60 + k) = 60 + k by omega, show (0 + k) = k by omega] at hst
    rw [hst]
    exact ih (k + 1) n (by omega) (by omega)
set_option maxRecDepth 100000 in
set_option maxHeartbeats 4000000 in
theorem m_keepsNow_0 (l : Launch) (d : Nat) (ru ta : Nat) (I : XI) (J : XJ) (Rp : XR) (hR : Rp none (shG ru ta) (cI I 93 68 0 60 69) J) : xm l (d + 1) 0 0 mX12_keepsNow [.ref 67] (shG ru ta) I J Rp := by
  refine xm_ofK 70 (X := xxX12) (t := tX12_keepsNow) (stop := [2]) (ini := false) xx12 pl12 rfl kX12_keepsNow (fun h => by cases h) (Nat.le_of_ble_eq_true rfl) (fun K hK => ?_)
  have h := m_keepsNow_loop l d ru ta I J Rp hR 69 0 70 (by omega) (by omega)
  rw [cp_zeroG] at h
  exact hK _ _ _ _ _ _ _ _ h
def KS (I0 I : XI) : Prop := (∀ q, q ≠ 68 → I q = I0 q) ∧ ∀ k, k < 130 → k ≠ 5 → I 68 k = I0 68 k
theorem KS.set {I0 I : XI} {k : Nat} {v : Int32} (h : KS I0 I) (hk : 130 ≤ k ∨ k = 5) : KS I0 (uI I 68 k v) := by
  refine ⟨fun q hq => ?_, fun j hj h5 => ?_⟩
  · rw [uI_ne hq, h.1 q hq]
  · rw [uI_other (by omega), h.2 j hj h5]
set_option maxRecDepth 100000 in
set_option maxHeartbeats 4000000 in
theorem m_ks53 (l : Launch) (d s : Nat) (hs : s ≤ 29) (ru ta : Nat) (I0 : XI) (J : XJ) (Rp : XR) (hR : ∀ I', KS I0 I' → I' 68 5 = nI (s + 1) → Rp none (shG ru ta) I' J) : ∀ (m k n : Nat) (I : XI), k + m = 69 → m < n → KS I0 I → I 68 5 = nI s → xrun xxX12 none false false (shG ru ta).length 0 0 none l d tX12_keepsStep [15, 51, 53] Rp n 53 [some (.ref 67), some (.int (nI k))] [] (shG ru ta) I J 0 0 := by
  intro m
  induction m with
  | zero =>
    intro k n I hk hn hS h5
    obtain ⟨n, rfl⟩ : ∃ n', n = n' + 1 := ⟨n - 1, by omega⟩
    have hk : k = 69 := by omega
    subst hk
    refine xrun_step fun K hK => ?_
    refine And.intro (fun _ => ?_) (fun h => absurd (show (69 : Int32) ≤ nI 69 by decide) h)
    refine And.intro (vp_b (by decide)) (And.intro (vp_b (by decide)) ?_)
    refine hR (uI I 68 5 (I 68 5 + 1)) (hS.set (Or.inr rfl)) ?_
    rw [uI_same, h5, nI_1]
  | succ m ih =>
    intro k n I hk hn hS h5
    obtain ⟨n, rfl⟩ : ∃ n', n = n' + 1 := ⟨n - 1, by omega⟩
    have e : nI 130 + nI 69 * I 68 5 + nI k = nI (130 + 69 * s + k) := by
      rw [h5, nI_mulN, nI_add, nI_add]
    refine xrun_step fun K hK => ?_
    refine And.intro (fun h => absurd h (nI_ge (a := k) (b := 69) (by omega) (by omega))) (fun _ => ?_)
    refine And.intro (vp_b (by decide)) ?_
    refine And.intro (vp_k (N := 2200) (k := 60 + k) (nI_add 60 k) (by omega) (by omega)) ?_
    refine And.intro (vp_k (N := 2200) (k := 130 + 69 * s + k) e (by omega) (by omega)) ?_
    refine hK 53 [some (.ref 67), some (.int (nI k + 1))] [] (shG ru ta) (uI I 68 (nI 130 + nI 69 * I 68 5 + nI k).toNatClampNeg _) J 0 0 ?_
    rw [nI_1, e, nI_clamp (by omega)]
    refine ih (k + 1) n _ (by omega) (by omega) (hS.set (by omega)) ?_
    rw [uI_other (by omega), h5]
set_option maxRecDepth 100000 in
set_option maxHeartbeats 4000000 in
theorem m_ks51 (l : Launch) (d s : Nat) (hs : s ≤ 29) (ru ta : Nat) (I0 : XI) (J : XJ) (Rp : XR) (hR : ∀ I', KS I0 I' → I' 68 5 = nI (s + 1) → Rp none (shG ru ta) I' J) (n : Nat) (hn : 71 ≤ n) (I : XI) (hS : KS I0 I) (h5 : I 68 5 = nI s) (o : Option Value) : xrun xxX12 none false false (shG ru ta).length 0 0 none l d tX12_keepsStep [15, 51, 53] Rp n 51 [some (.ref 67), o] [] (shG ru ta) I J 0 0 := by
  obtain ⟨n, rfl⟩ : ∃ n', n = n' + 1 := ⟨n - 1, by omega⟩
  refine xrun_step fun K hK => ?_
  exact hK 53 [some (.ref 67), some (.int (nI 0))] [] _ _ _ _ _ (m_ks53 l d s hs ru ta I0 J Rp hR 69 0 n I (by omega) (by omega) hS h5)
set_option maxRecDepth 100000 in
set_option maxHeartbeats 4000000 in
theorem m_ks15 (l : Launch) (d : Nat) (ru ta : Nat) (I0 : XI) (J : XJ) (Rp : XR) (hR : ∀ I', KS I0 I' → I' 68 5 = nI 30 → Rp none (shG ru ta) I' J) : ∀ (m k n : Nat) (I : XI), k + m = 2131 → m + 72 ≤ n → 130 ≤ k → KS I0 I → xrun xxX12 none false false (shG ru ta).length 0 0 none l d tX12_keepsStep [15, 51, 53] Rp n 15 [some (.ref 67), some (.int (nI k))] [] (shG ru ta) I J 0 0 := by
  intro m
  induction m with
  | zero =>
    intro k n I hk hn h130 hS
    obtain ⟨n, rfl⟩ : ∃ n', n = n' + 1 := ⟨n - 1, by omega⟩
    have hk : k = 2131 := by omega
    subst hk
    refine xrun_step fun K hK => ?_
    refine And.intro (fun _ => ?_) (fun h => absurd (show (2131 : Int32) ≤ nI 2131 by decide) h)
    refine And.intro (vp_b (by decide)) ?_
    refine hK 51 [some (.ref 67), some (.int (nI 2131))] [] (shG ru ta) (uI I 68 5 29) J 0 0 ?_
    exact m_ks51 l d 29 (by omega) ru ta I0 J Rp hR n (by omega) _ (hS.set (Or.inr rfl)) (by rw [uI_same]; rfl) _
  | succ m ih =>
    intro k n I hk hn h130 hS
    obtain ⟨n, rfl⟩ : ∃ n', n = n' + 1 := ⟨n - 1, by omega⟩
    refine xrun_step fun K hK => ?_
    refine And.intro (fun h => absurd h (nI_ge (a := k) (b := 2131) (by omega) (by omega))) (fun _ => ?_)
    refine And.intro (vp_k (N := 2200) (k := k + 69) (nI_add k 69) (by omega) (by omega)) ?_
    refine And.intro (vp_in_nI (N := 2200) (by omega) (by omega)) ?_
    refine hK 15 [some (.ref 67), some (.int (nI k + 1))] [] (shG ru ta) (uI I 68 (nI k).toNatClampNeg _) J 0 0 ?_
    rw [nI_1, nI_clamp (by omega)]
    exact ih (k + 1) n _ (by omega) (by omega) (by omega) (hS.set (by omega))
set_option maxRecDepth 100000 in
set_option maxHeartbeats 4000000 in
theorem m_keepsStep_0 (l : Launch) (d s : Nat) (hs : s ≤ 30) (ru ta : Nat) (I : XI) (J : XJ) (Rp : XR) (h5 : I 68 5 = nI s) (hR : ∀ I', KS I I' → (∃ s', s' ≤ 30 ∧ I' 68 5 = nI s') → Rp none (shG ru ta) I' J) : xm l (d + 1) 0 0 mX12_keepsStep [.ref 67] (shG ru ta) I J Rp := by
  refine xm_ofK 2100 (X := xxX12) (t := tX12_keepsStep) (stop := [15, 51, 53]) (ini := false) xx12 pl12 rfl kX12_keepsStep (fun h => by cases h) (Nat.le_of_ble_eq_true rfl) (fun K hK => ?_)
  have hS : KS I I := ⟨fun _ _ => rfl, fun _ _ _ => rfl⟩
  refine And.intro (vp_b (by decide)) ?_
  refine And.intro (fun h => ?_) (fun h => ?_)
  · have h' : ¬ I 68 5 = 30 := h
    rw [h5] at h'
    have hlt : s ≤ 29 := by
      rcases Nat.lt_or_ge s 30 with z | z
      · omega
      · have : s = 30 := by omega
        subst this
        exact absurd (show nI 30 = 30 from rfl) h'
    exact hK 51 [some (.ref 67), none] [] _ _ _ _ _ (m_ks51 l d s hlt ru ta I J Rp (fun I' a b => hR I' a ⟨s + 1, by omega, b⟩) 2100 (by omega) I hS h5 none)
  · refine hK 15 [some (.ref 67), some (.int (nI 130))] [] _ _ _ _ _ ?_
    exact m_ks15 l d ru ta I J Rp (fun I' a b => hR I' a ⟨30, by omega, b⟩) 2001 130 2100 I (by omega) (by omega) (by omega) hS
def MW (i : Nat) (I : XI) : Prop := (∀ k, k < 12 → I 68 (88 + k) = 0) ∧ I 68 124 = nI (i % 10) ∧ I 68 125 = nI (i / 10) ∧ I 68 0 = 0 ∧ ∃ s, s ≤ 30 ∧ I 68 5 = nI s
set_option maxRecDepth 100000 in
set_option maxHeartbeats 4000000 in
theorem m_h40 (l : Launch) (d N : Nat) (hN : N ≤ 60) (ru ta : Nat) (J : XJ) (Rp : XR) (hR : ∀ I', Rp (some (.int (nI (N % 10)))) (shG ru ta) I' J) : ∀ (m i n : Nat) (I : XI), i + m = N → m < n → MW i I → xrun xxX12 (some .int) false false (shG ru ta).length 0 0 none l (d + 3) tX12_hour [40] Rp n 40 [some (.ref 67), some (.int (nI N)), some (.int (nI i))] [] (shG ru ta) I J 0 0 := by
  intro m
  induction m with
  | zero =>
    intro i n I hi hn hW
    obtain ⟨n, rfl⟩ : ∃ n', n = n' + 1 := ⟨n - 1, by omega⟩
    have : i = N := by omega
    subst this
    refine xrun_step fun K hK => ?_
    refine And.intro (fun _ => ?_) (fun h => absurd (nI_le (a := i) (b := i) (by omega) (by omega)) h)
    refine And.intro (vp_b (by decide)) ?_
    have hRR := hR I
    rw [← hW.2.1] at hRR
    exact hRR
  | succ m ih =>
    intro i n I hi hn hW
    obtain ⟨n, rfl⟩ : ∃ n', n = n' + 1 := ⟨n - 1, by omega⟩
    obtain ⟨hL, hh, hd, h0, s, hs, h5⟩ := hW
    refine xrun_step fun K hK => ?_
    refine And.intro (fun h => absurd h (nI_ge (a := i) (b := N) (by omega) (by omega))) (fun _ => ?_)
    refine m_keepsStep_0 l _ s hs _ _ _ _ _ h5 (fun I1 k1 s1 => ?_)
    refine m_laysNow_0 l _ _ _ _ _ _ ?_
    have hF : FW 93 I1 i (cI I1 68 93 60 0 69) := by
      refine FW.copy (q := 68) (p := 93) (s := 60) (T := i) (by decide) (fun k hk => ?_) ?_ ?_
      · rw [k1.2 _ (by omega) (by omega), show 60 + 28 + k = 88 + k by omega, hL k hk]
      · rw [k1.2 _ (by omega) (by omega)]
        exact hh
      · rw [k1.2 _ (by omega) (by omega)]
        exact hd
    refine m_hourPasses_0 l d i ru ta I1 J _ (by rw [k1.2 _ (by omega) (by omega)]; exact h0) _ hF (fun I2 hF2 => ?_)
    refine m_keepsNow_0 l _ _ _ _ _ _ ?_
    refine hK 40 [some (.ref 67), some (.int (nI N)), some (.int (nI i + 1))] [] (shG ru ta) (cI I2 93 68 0 60 69) J 0 0 ?_
    rw [nI_1]
    have ci : ∀ j, j < 69 → cI I2 93 68 0 60 69 68 (60 + j) = I2 93 j := by
      intro j hj
      rw [cI_eq]
      simp only [va_cpy]
      rw [if_pos (by omega), show 0 + (60 + j - 60) = j by omega]
    have cl : ∀ j, j < 60 → cI I2 93 68 0 60 69 68 j = I1 68 j := by
      intro j hj
      rw [cI_eq]
      simp only [va_cpy]
      rw [if_neg (by omega), hF2.1 68 (by decide)]
    refine ih (i + 1) n _ (by omega) (by omega) ⟨fun k hk => ?_, ?_, ?_, ?_, ?_⟩
    · rw [show 88 + k = 60 + (28 + k) by omega, ci _ (by omega), hF2.2.1 k hk]
    · exact (ci 64 (by omega)).trans hF2.2.2.1
    · exact (ci 65 (by omega)).trans hF2.2.2.2
    · rw [cl 0 (by omega), k1.2 _ (by omega) (by omega), h0]
    · rw [cl 5 (by omega)]
      exact s1
set_option maxRecDepth 100000 in
set_option maxHeartbeats 4000000 in
theorem m_hour_t (l : Launch) (d N : Nat) (hN : N ≤ 60) (h1 : 1 ≤ N) (ru ta : Nat) (I : XI) (J : XJ) (Rp : XR) (hW : MW 0 I) (hR : ∀ I', Rp (some (.int (nI (N % 10)))) (shG ru ta) I' J) : xm l (d + 4) 0 0 mX12_hour [.ref 67, .int (nI N)] (shG ru ta) I J Rp := by
  refine xm_ofK 62 (X := xxX12) (t := tX12_hour) (stop := [40]) (ini := false) xx12 pl12 rfl kX12_hour (fun h => by cases h) (Nat.le_of_ble_eq_true rfl) (fun K hK => ?_)
  refine m_in_t l _ _ _ _ _ _ _ _ (nI_le (a := 1) (b := N) h1 (by omega)) (nI_le (a := N) (b := 60) hN (by omega)) ?_
  refine And.intro (fun h => absurd h (show ¬ ((1 : Int32) = 0) by decide)) (fun _ => ?_)
  refine And.intro (vp_b (by decide)) (And.intro (vp_b (by decide)) ?_)
  refine And.intro (fun _ => ?_) (fun h => absurd ?_ h)
  · exact hK 40 [some (.ref 67), some (.int (nI N)), some (.int (nI 0))] [] _ _ _ _ _ (m_h40 l d N hN ru ta J Rp hR N 0 62 I (by omega) (by omega) hW)
  · show I 68 125 * nI 10 + I 68 124 + nI N ≤ 9999
    rw [hW.2.1, hW.2.2.1, nI_mulN, nI_add, nI_add]
    exact nI_le (a := 0 / 10 * 10 + 0 % 10 + N) (b := 9999) (by omega) (by omega)
set_option maxRecDepth 100000 in
set_option maxHeartbeats 4000000 in
theorem m_hour_f (l : Launch) (d : Nat) (v : Int32) (ru ta : Nat) (I : XI) (J : XJ) (Rp : XR) (hc : ¬ ((1 : Int32) ≤ v ∧ v ≤ 60)) (hR : Rp (some (.int (-1))) (shG ru ta) I J) : xm l (d + 2) 0 0 mX12_hour [.ref 67, .int v] (shG ru ta) I J Rp := by
  refine xm_ofK 0 (X := xxX12) (t := tX12_hour) (stop := []) (ini := false) xx12 pl12 rfl kX12_hour (fun h => by cases h) (Nat.le_of_ble_eq_true rfl) (fun K hK => ?_)
  refine m_in_f l _ _ _ _ _ _ _ _ hc ?_
  exact And.intro (fun _ => hR) (fun h => absurd (show (0 : Int32) = 0 from rfl) h)
set_option maxRecDepth 100000 in
set_option maxHeartbeats 4000000 in
theorem m_canPass_0 (l : Launch) (d T : Nat) (hT : T ≤ 9000) (ru ta : Nat) (I : XI) (J : XJ) (Rp : XR) (hd : I 93 65 = nI (T / 10)) (hR : Rp (some (.int 1)) (shG ru ta) I J) : xm l (d + 1) 0 0 mX12_canPass [.ref 67] (shG ru ta) I J Rp := by
  refine xm_ofK 0 (X := xxX12) (t := tX12_canPass) (stop := []) (ini := false) xx12 pl12 rfl kX12_canPass (fun h => by cases h) (Nat.le_of_ble_eq_true rfl) (fun K hK => ?_)
  refine And.intro (vp_b (by decide)) ?_
  refine And.intro (fun _ => And.intro (Or.inr rfl) hR) (fun h => absurd ?_ h)
  show I 93 65 < 999
  rw [hd]
  exact nI_lt (a := T / 10) (b := 999) (by omega) (by omega)
set_option maxRecDepth 100000 in
set_option maxHeartbeats 4000000 in
theorem m_unmetToday_0 (l : Launch) (d : Nat) (ru ta : Nat) (I : XI) (J : XJ) (Rp : XR) (h6 : I 68 6 = 0) (hR : Rp (some (.int (-1))) (shG ru ta) I J) : xm l (d + 1) 0 0 mX12_unmetToday [.ref 67] (shG ru ta) I J Rp := by
  refine xm_ofK 0 (X := xxX12) (t := tX12_unmetToday) (stop := []) (ini := false) xx12 pl12 rfl kX12_unmetToday (fun h => by cases h) (Nat.le_of_ble_eq_true rfl) (fun K hK => ?_)
  refine And.intro (vp_b (by decide)) ?_
  refine And.intro (fun _ => hR) (fun h => absurd ?_ h)
  show I 68 6 ≤ 0
  rw [h6]
  decide
set_option maxRecDepth 100000 in
set_option maxHeartbeats 4000000 in
theorem m_un18 (l : Launch) (d N : Nat) (hN : N ≤ 20) (ru ta : Nat) (I0 : XI) (J : XJ) (Rp : XR) (h0 : I0 68 0 = 0) (h6 : I0 68 6 = 0) (hR : ∀ I', Rp (some (.int (-1))) (shG ru ta) I' J) : ∀ (m i n : Nat) (I : XI) (o : Option Value), i + m = N * 10 → m < n → FW 93 I0 i I → xrun xxX12 (some .int) false false (shG ru ta).length 0 0 none l (d + 3) tX12_unmet [18] Rp n 18 [some (.ref 67), some (.int (nI N)), some (.int (nI (i / 10))), o] [] (shG ru ta) I J 0 0 := by
  intro m
  induction m with
  | zero =>
    intro i n I o hi hn hF
    obtain ⟨n, rfl⟩ : ∃ n', n = n' + 1 := ⟨n - 1, by omega⟩
    refine xrun_step fun K hK => ?_
    refine And.intro (fun _ => hR _) (fun h => absurd ?_ h)
    exact nI_le (a := N) (b := i / 10) (by omega) (by omega)
  | succ m ih =>
    intro i n I o hi hn hF
    obtain ⟨n, rfl⟩ : ∃ n', n = n' + 1 := ⟨n - 1, by omega⟩
    refine xrun_step fun K hK => ?_
    refine And.intro (fun h => absurd h (nI_ge (a := i / 10) (b := N) (by omega) (by omega))) (fun _ => ?_)
    refine m_canPass_0 l _ i (by omega) _ _ _ _ _ hF.2.2.2 ?_
    refine And.intro (fun h => absurd h (show ¬ ((1 : Int32) = 0) by decide)) (fun _ => ?_)
    refine m_hourPasses_0 l d i ru ta I0 J _ h0 I hF (fun I' hF' => ?_)
    refine And.intro (vp_b (by decide)) ?_
    have hc : I' 93 64 = nI ((i + 1) % 10) := hF'.2.2.1
    refine And.intro (fun h => ?_) (fun h => ?_)
    · have h' : ¬ I' 93 64 = 0 := h
      have h9 : ¬ (i + 1) % 10 = 0 := by
        intro z
        rw [hc, z] at h'
        exact h' rfl
      refine hK 18 [some (.ref 67), some (.int (nI N)), some (.int (nI (i / 10))), o] [] (shG ru ta) I' J 0 0 ?_
      rw [show i / 10 = (i + 1) / 10 by omega]
      exact ih (i + 1) n I' _ (by omega) (by omega) hF'
    · have h' : I' 93 64 = 0 := h
      have h9 : (i + 1) % 10 = 0 := by
        rw [hc] at h'
        exact (nI_eq (a := (i + 1) % 10) (b := 0) (by omega) (by omega)).mp h'
      refine m_unmetToday_0 l _ _ _ _ _ _ (hF'.at (by decide) h6) ?_
      refine And.intro (fun _ => ?_) (fun h => absurd (show (-1 : Int32) = -1 from rfl) h)
      refine hK 18 [some (.ref 67), some (.int (nI N)), some (.int (nI (i / 10) + 1)), some (.int (-1))] [] (shG ru ta) I' J 0 0 ?_
      rw [nI_1, show i / 10 + 1 = (i + 1) / 10 by omega]
      exact ih (i + 1) n I' _ (by omega) (by omega) hF'
set_option maxRecDepth 100000 in
set_option maxHeartbeats 4000000 in
theorem m_unmet_t (l : Launch) (d N : Nat) (hN : N ≤ 20) (h1 : 1 ≤ N) (ru ta : Nat) (I : XI) (J : XJ) (Rp : XR) (hW : MW 0 I) (h6 : I 68 6 = 0) (hR : ∀ I', Rp (some (.int (-1))) (shG ru ta) I' J) : xm l (d + 4) 0 0 mX12_unmet [.ref 67, .int (nI N)] (shG ru ta) I J Rp := by
  refine xm_ofK 202 (X := xxX12) (t := tX12_unmet) (stop := [18]) (ini := false) xx12 pl12 rfl kX12_unmet (fun h => by cases h) (Nat.le_of_ble_eq_true rfl) (fun K hK => ?_)
  refine m_in_t l _ _ _ _ _ _ _ _ (nI_le (a := 1) (b := N) h1 (by omega)) (nI_le (a := N) (b := 20) hN (by omega)) ?_
  refine And.intro (fun _ => ?_) (fun h => absurd h (show ¬ ((1 : Int32) = 0) by decide))
  refine m_laysNow_0 l _ _ _ _ _ _ ?_
  have hF : FW 93 I 0 (cI I 68 93 60 0 69) := FW.copy (q := 68) (p := 93) (s := 60) (T := 0) (by decide) (fun k hk => by rw [show 60 + 28 + k = 88 + k by omega]; exact hW.1 k hk) hW.2.1 hW.2.2.1
  exact hK 18 [some (.ref 67), some (.int (nI N)), some (.int (nI (0 / 10))), none] [] _ _ _ _ _ (m_un18 l d N hN ru ta I J Rp hW.2.2.2.1 h6 hR (N * 10) 0 202 _ none (by omega) (by omega) hF)
set_option maxRecDepth 100000 in
set_option maxHeartbeats 4000000 in
theorem m_unmet_f (l : Launch) (d : Nat) (v : Int32) (ru ta : Nat) (I : XI) (J : XJ) (Rp : XR) (hc : ¬ ((1 : Int32) ≤ v ∧ v ≤ 20)) (hR : Rp (some (.int (-1))) (shG ru ta) I J) : xm l (d + 2) 0 0 mX12_unmet [.ref 67, .int v] (shG ru ta) I J Rp := by
  refine xm_ofK 0 (X := xxX12) (t := tX12_unmet) (stop := []) (ini := false) xx12 pl12 rfl kX12_unmet (fun h => by cases h) (Nat.le_of_ble_eq_true rfl) (fun K hK => ?_)
  refine m_in_f l _ _ _ _ _ _ _ _ hc ?_
  exact And.intro (fun h => absurd (show (0 : Int32) = 0 from rfl) h) (fun _ => hR)
set_option maxRecDepth 100000 in
set_option maxHeartbeats 4000000 in
theorem m_pt2 (l : Launch) (d N : Nat) (hN : N ≤ 60) (ru ta : Nat) (I0 : XI) (J : XJ) (Rp : XR) (h0 : I0 68 0 = 0) (hR : ∀ I', FW 93 I0 N I' → Rp none (shG ru ta) I' J) : ∀ (m i n : Nat) (I : XI), i + m = N → m < n → FW 93 I0 i I → xrun xxX12 none false false (shG ru ta).length 0 0 none l (d + 3) tX12_passesThrough [2] Rp n 2 [some (.ref 67), some (.int (nI N)), some (.int (nI i))] [] (shG ru ta) I J 0 0 := by
  intro m
  induction m with
  | zero =>
    intro i n I hi hn hF
    obtain ⟨n, rfl⟩ : ∃ n', n = n' + 1 := ⟨n - 1, by omega⟩
    have : i = N := by omega
    subst this
    refine xrun_step fun K hK => ?_
    exact And.intro (fun _ => hR _ hF) (fun h => absurd (nI_le (a := i) (b := i) (by omega) (by omega)) h)
  | succ m ih =>
    intro i n I hi hn hF
    obtain ⟨n, rfl⟩ : ∃ n', n = n' + 1 := ⟨n - 1, by omega⟩
    refine xrun_step fun K hK => ?_
    refine And.intro (fun h => absurd h (nI_ge (a := i) (b := N) (by omega) (by omega))) (fun _ => ?_)
    refine m_canPass_0 l _ i (by omega) _ _ _ _ _ hF.2.2.2 ?_
    refine And.intro (fun h => absurd h (show ¬ ((1 : Int32) = 0) by decide)) (fun _ => ?_)
    refine m_hourPasses_0 l d i ru ta I0 J _ h0 I hF (fun I' hF' => ?_)
    refine hK 2 [some (.ref 67), some (.int (nI N)), some (.int (nI i + 1))] [] (shG ru ta) I' J 0 0 ?_
    rw [nI_1]
    exact ih (i + 1) n I' (by omega) (by omega) hF'
set_option maxRecDepth 100000 in
set_option maxHeartbeats 4000000 in
theorem m_en53 (l : Launch) (d0 : Nat) (ft v S : Int32) (hft : 0 < ft) (ru ta : Nat) (I : XI) (J : XJ) (Rp : XR) (d : Nat) (hd : d0 = d + 1) (hL : ∀ k, k < 12 → I 93 (28 + k) = 0) (n0 : Nat) (hc : ∀ (o5 o6 o7 : Option Value), xrun xxX12 (some .int) false false (shG ru ta).length 0 0 none l d0 tX12_enough [39, 53, 86, 122, 161] Rp n0 39 [some (.ref 67), some (.int ft), some (.int v), some (.int (-1)), some (.int (S + (-1))), o5, o6, o7] [] (shG ru ta) I J 0 0) : ∀ (m b : Nat) (are : Int32), b + m = 12 → xrun xxX12 (some .int) false false (shG ru ta).length 0 0 none l d0 tX12_enough [39, 53, 86, 122, 161] Rp (n0 + 3 * m + 2) 53 [some (.ref 67), some (.int ft), some (.int v), some (.int (-1)), some (.int S), some (.int 0), some (.int are), some (.int (nI b))] [] (shG ru ta) I J 0 0 := by
  subst hd
  intro m
  induction m with
  | zero =>
    intro b are hb
    have : b = 12 := by omega
    subst this
    have h161 : xrun xxX12 (some .int) false false (shG ru ta).length 0 0 none l (d + 1) tX12_enough [39, 53, 86, 122, 161] Rp (n0 + 1) 161 [some (.ref 67), some (.int ft), some (.int v), some (.int (-1)), some (.int S), some (.int 0), some (.int are), some (.int (nI 12))] [] (shG ru ta) I J 0 0 := by
      refine xrun_step fun K hK => ?_
      exact hK 39 _ _ _ _ _ _ _ (hc _ _ _)
    refine xrun_step fun K hK => ?_
    refine And.intro (fun _ => ?_) (fun h => absurd (show (12 : Int32) ≤ nI 12 by decide) h)
    refine And.intro (fun _ => hK _ _ _ _ _ _ _ _ h161) (fun _ => ?_)
    exact And.intro (fun _ => hK _ _ _ _ _ _ _ _ h161) (fun h => absurd hft h)
  | succ m ih =>
    intro b are hb
    have e : nI 28 + nI b = nI (28 + b) := nI_add 28 b
    have hv : vp_in (nI 28 + nI b) 69 := by
      rw [e]
      exact vp_in_nI (by omega) (by omega)
    have hz : I 93 (nI 28 + nI b).toNatClampNeg = 0 := by
      rw [e, nI_clamp (by omega), hL b (by omega)]
    rw [show n0 + 3 * (m + 1) + 2 = (n0 + 3 * m + 2) + 1 + 1 + 1 by omega]
    have h122 : ∀ w : Int32, xrun xxX12 (some .int) false false (shG ru ta).length 0 0 none l (d + 1) tX12_enough [39, 53, 86, 122, 161] Rp (n0 + 3 * m + 2 + 1) 122 [some (.ref 67), some (.int ft), some (.int v), some (.int (-1)), some (.int S), some (.int 0), some (.int are), some (.int (nI b))] [.int w] (shG ru ta) I J 0 0 := by
      intro w
      refine xrun_step fun K hK => ?_
      refine hK 53 [some (.ref 67), some (.int ft), some (.int v), some (.int (-1)), some (.int S), some (.int 0), some (.int w), some (.int (nI b + 1))] [] (shG ru ta) I J 0 0 ?_
      rw [nI_1]
      exact ih (b + 1) w (by omega)
    have h86 : xrun xxX12 (some .int) false false (shG ru ta).length 0 0 none l (d + 1) tX12_enough [39, 53, 86, 122, 161] Rp (n0 + 3 * m + 2 + 1 + 1) 86 [some (.ref 67), some (.int ft), some (.int v), some (.int (-1)), some (.int S), some (.int 0), some (.int are), some (.int (nI b))] [.int 0, .int 0] (shG ru ta) I J 0 0 := by
      refine xrun_step fun K hK => ?_
      refine And.intro (fun _ => hK _ _ _ _ _ _ _ _ (h122 0)) (fun _ => ?_)
      refine m_has_x l _ _ _ _ _ _ _ (fun _ => ?_) (fun _ => ?_)
      · refine And.intro (fun h => absurd h (show ¬ ((1 : Int32) = 0) by decide)) (fun _ => ?_)
        refine And.intro hv ?_
        refine And.intro (fun _ => hK _ _ _ _ _ _ _ _ (h122 0)) (fun h => absurd ?_ h)
        show I 93 (nI 28 + nI b).toNatClampNeg ≤ 0
        rw [hz]
        decide
      · refine And.intro (fun _ => hK _ _ _ _ _ _ _ _ (h122 1)) (fun h => absurd (show (0 : Int32) = 0 from rfl) h)
    refine xrun_step fun K hK => ?_
    refine And.intro (fun h => absurd h (nI_ge (a := b) (b := 12) (by omega) (by omega))) (fun _ => ?_)
    refine m_has_x l _ _ _ _ _ _ _ (fun _ => ?_) (fun _ => ?_)
    · refine And.intro (fun h => absurd h (show ¬ ((1 : Int32) = 0) by decide)) (fun _ => ?_)
      refine And.intro hv ?_
      refine hK 86 [some (.ref 67), some (.int ft), some (.int v), some (.int (-1)), some (.int S), some (.int 0), some (.int are), some (.int (nI b))] [.int (I 93 (nI 28 + nI b).toNatClampNeg), .int 0] (shG ru ta) I J 0 0 ?_
      rw [hz]
      exact h86
    · refine And.intro (fun _ => hK _ _ _ _ _ _ _ _ h86) (fun h => absurd (show (0 : Int32) = 0 from rfl) h)
set_option maxRecDepth 100000 in
set_option maxHeartbeats 4000000 in
theorem m_en39 (l : Launch) (d : Nat) (ft v : Int32) (hft : 0 < ft) (ru ta : Nat) (I : XI) (J : XJ) (Rp : XR) (hL : ∀ k, k < 12 → I 93 (28 + k) = 0) (hR : Rp (some (.int (-1))) (shG ru ta) I J) : ∀ (s : Nat) (o5 o6 o7 : Option Value), s ≤ 4095 → xrun xxX12 (some .int) false false (shG ru ta).length 0 0 none l (d + 1) tX12_enough [39, 53, 86, 122, 161] Rp (39 * s + 1) 39 [some (.ref 67), some (.int ft), some (.int v), some (.int (-1)), some (.int (nI s)), o5, o6, o7] [] (shG ru ta) I J 0 0 := by
  intro s
  induction s with
  | zero =>
    intro o5 o6 o7 hs
    refine xrun_step fun K hK => ?_
    exact And.intro (fun _ => hR) (fun h => absurd (show nI 0 ≤ 0 by decide) h)
  | succ s ih =>
    intro o5 o6 o7 hs
    rw [show 39 * (s + 1) + 1 = ((39 * s + 1) + 3 * 12 + 2) + 1 by omega]
    refine xrun_step fun K hK => ?_
    refine And.intro (fun h => absurd h (nI_nle (by omega) (by omega))) (fun _ => ?_)
    refine hK 53 [some (.ref 67), some (.int ft), some (.int v), some (.int (-1)), some (.int (nI (s + 1))), some (.int 0), some (.int 1), some (.int (nI 0))] [] (shG ru ta) I J 0 0 ?_
    refine m_en53 l (d + 1) ft v (nI (s + 1)) hft ru ta I J Rp d rfl hL (39 * s + 1) (fun o5 o6 o7 => ?_) 12 0 1 (by omega)
    rw [show nI (s + 1) + -1 = nI s by rw [← nI_pred s, Int32.sub_eq_add_neg]]
    exact ih o5 o6 o7 (by omega)
set_option maxRecDepth 100000 in
set_option maxHeartbeats 4000000 in
theorem m_enough_0 (l : Launch) (d : Nat) (ft v : Int32) (ru ta : Nat) (I : XI) (J : XJ) (Rp : XR) (hW : MW 0 I) (hR : ∀ I', Rp (some (.int (-1))) (shG ru ta) I' J) : xm l (d + 5) 0 0 mX12_enough [.ref 67, .int ft, .int v] (shG ru ta) I J Rp := by
  refine xm_ofK (39 * 4095 + 1) (X := xxX12) (t := tX12_enough) (stop := [39, 53, 86, 122, 161]) (ini := false) xx12 pl12 rfl kX12_enough (fun h => by cases h) (Nat.le_of_ble_eq_true rfl) (fun K hK => ?_)
  by_cases h1 : (1 : Int32) ≤ ft ∧ ft ≤ 9999
  · refine m_in_t l _ _ _ _ _ _ _ _ h1.1 h1.2 ?_
    refine And.intro (fun h => absurd h (show ¬ ((1 : Int32) = 0) by decide)) (fun _ => ?_)
    by_cases h2 : (0 : Int32) ≤ v ∧ v ≤ 60
    · refine m_in_t l _ _ _ _ _ _ _ _ h2.1 h2.2 ?_
      refine And.intro (fun _ => ?_) (fun h => absurd h (show ¬ ((1 : Int32) = 0) by decide))
      obtain ⟨N, _, hN, rfl⟩ := rng_of (m := 0) (n := 60) (by decide) (by decide) h2.1 h2.2
      refine m_laysNow_0 l _ _ _ _ _ _ ?_
      have hF : FW 93 I 0 (cI I 68 93 60 0 69) := FW.copy (q := 68) (p := 93) (s := 60) (T := 0) (by decide) (fun k hk => by rw [show 60 + 28 + k = 88 + k by omega]; exact hW.1 k hk) hW.2.1 hW.2.2.1
      have hft : 0 < ft := by
        obtain ⟨M, m1, m2, rfl⟩ := rng_of (m := 1) (n := 9999) (by decide) (by decide) h1.1 h1.2
        exact nI_lt (a := 0) (b := M) (by omega) (by omega)
      refine xm_ofK 62 (X := xxX12) (t := tX12_passesThrough) (stop := [2]) (ini := false) xx12 pl12 rfl kX12_passesThrough (fun h => by cases h) (Nat.le_of_ble_eq_true rfl) (fun K2 hK2 => ?_)
      refine hK2 2 [some (.ref 67), some (.int (nI N)), some (.int (nI 0))] [] _ _ _ _ _ (m_pt2 l d N hN ru ta I J _ hW.2.2.2.1 (fun I' hF' => ?_) N 0 62 _ (by omega) (by omega) hF)
      exact hK 39 [some (.ref 67), some (.int ft), some (.int (nI N)), some (.int (-1)), some (.int (nI 4095)), none, none, none] [] _ _ _ _ _ (m_en39 l _ ft (nI N) hft ru ta I' J _ hF'.2.1 (hR I') 4095 none none none (by omega))
    · refine m_in_f l _ _ _ _ _ _ _ _ h2 ?_
      exact And.intro (fun h => absurd (show (0 : Int32) = 0 from rfl) h) (fun _ => hR I)
  · refine m_in_f l _ _ _ _ _ _ _ _ h1 ?_
    exact And.intro (fun _ => hR I) (fun h => absurd (show (0 : Int32) = 0 from rfl) h)
theorem lI_h : lI 27 64 = 0 := by decide +kernel
theorem lI_d : lI 27 65 = 0 := by decide +kernel
theorem lI_5 : lI 12 5 = 0 := by decide +kernel
theorem lI_7 : lI 0 7 = 0 := by decide +kernel
theorem lI_f : lI 1 1 = nI 0 := by decide +kernel
theorem lI_s : lI 1 2 = nI 0 := by decide +kernel
theorem lI_mh : lI 68 124 = nI (0 % 10) := by decide +kernel
theorem lI_md : lI 68 125 = nI (0 / 10) := by decide +kernel
theorem lI_m0 : lI 68 0 = 0 := by decide +kernel
theorem lI_m5 : lI 68 5 = nI 0 := by decide +kernel
theorem lI_m6 : lI 68 6 = 0 := by decide +kernel
theorem lI_ST : ST lI := ⟨0, 0, by omega, by omega, lI_f, lI_s⟩
theorem lI_MW : MW 0 lI := ⟨lI_row, lI_mh, lI_md, lI_m0, 0, by omega, lI_m5⟩
theorem MW.keep {I I' : XI} {i : Nat} (h : MW i I) (e : I' 68 = I 68) : MW i I' := by
  unfold MW
  rw [e]
  exact h
set_option maxRecDepth 100000 in
set_option maxHeartbeats 4000000 in
theorem law_c8 (l : Launch) (xs : Nat → Int32) (n : Nat) : lrun l 6 xs (n + 2) 450 lloc [] shXM lI jM 99 18232 := by
  refine xrun_step fun K hK => ?_
  refine And.intro (show vp_in ((0 : Int32) + (1 : Int32)) 6 from vp_b (by decide)) ?_
  by_cases h1 : (1 : Int32) ≤ xs 1 ∧ xs 1 ≤ 60
  · obtain ⟨N, h1', hN, e⟩ := rng_of (m := 1) (n := 60) (by decide) (by decide) h1.1 h1.2
    have hc := c_hour_t l 1394 N hN h1' 18 18 lI jM
    have hm := fun I => m_hour_t l 1395 N hN h1' 18 18 I jM
    rw [← e] at hc hm
    refine hc _ lI_ST lI_5 lI_now lI_h lI_d (fun I' hI' => ?_)
    refine And.intro (show vp_in ((0 : Int32) + (1 : Int32)) 6 from vp_b (by decide)) ?_
    refine hm I' _ (lI_MW.keep (hI' 68 (by decide))) (fun I2 => ?_)
    refine And.intro (fun _ => ?_) (fun h => absurd (show nI (N % 10) = nI (N % 10) from rfl) h)
    exact hK _ _ _ _ _ _ _ _ (law_next l xs n _ _ _ 99 18232 (Nat.le_of_ble_eq_true rfl) (Nat.le_of_ble_eq_true rfl))
  · refine c_hour_f l _ _ _ _ _ _ _ h1 ?_
    refine And.intro (show vp_in ((0 : Int32) + (1 : Int32)) 6 from vp_b (by decide)) ?_
    refine m_hour_f l _ _ _ _ _ _ _ h1 ?_
    refine And.intro (fun _ => ?_) (fun h => absurd (show (-1 : Int32) = (-1 : Int32) from rfl) h)
    exact hK _ _ _ _ _ _ _ _ (law_next l xs n _ _ _ 99 18232 (Nat.le_of_ble_eq_true rfl) (Nat.le_of_ble_eq_true rfl))
set_option maxRecDepth 100000 in
set_option maxHeartbeats 4000000 in
theorem law_c25 (l : Launch) (xs : Nat → Int32) (n : Nat) : lrun l 6 xs (n + 2) 971 lloc [] shXM lI jM 99 18232 := by
  refine xrun_step fun K hK => ?_
  refine And.intro (show vp_in ((0 : Int32) + (1 : Int32)) 6 from vp_b (by decide)) ?_
  by_cases h1 : (1 : Int32) ≤ xs 1 ∧ xs 1 ≤ 20
  · obtain ⟨N, h1', hN, e⟩ := rng_of (m := 1) (n := 20) (by decide) (by decide) h1.1 h1.2
    have hc := c_unmet_t l 1395 N hN h1' 18 18 lI jM
    have hm := fun I => m_unmet_t l 1395 N hN h1' 18 18 I jM
    rw [← e] at hc hm
    refine hc _ lI_5 lI_7 lI_now lI_h lI_d (fun I' hI' => ?_)
    refine And.intro (show vp_in ((0 : Int32) + (1 : Int32)) 6 from vp_b (by decide)) ?_
    refine hm I' _ (lI_MW.keep (hI' 68 (by decide))) (by rw [hI' 68 (by decide)]; exact lI_m6) (fun I2 => ?_)
    refine And.intro (fun _ => ?_) (fun h => absurd (show (-1 : Int32) = (-1 : Int32) from rfl) h)
    exact hK _ _ _ _ _ _ _ _ (law_next l xs n _ _ _ 99 18232 (Nat.le_of_ble_eq_true rfl) (Nat.le_of_ble_eq_true rfl))
  · refine c_unmet_f l _ _ _ _ _ _ _ h1 ?_
    refine And.intro (show vp_in ((0 : Int32) + (1 : Int32)) 6 from vp_b (by decide)) ?_
    refine m_unmet_f l _ _ _ _ _ _ _ h1 ?_
    refine And.intro (fun _ => ?_) (fun h => absurd (show (-1 : Int32) = (-1 : Int32) from rfl) h)
    exact hK _ _ _ _ _ _ _ _ (law_next l xs n _ _ _ 99 18232 (Nat.le_of_ble_eq_true rfl) (Nat.le_of_ble_eq_true rfl))
set_option maxRecDepth 100000 in
set_option maxHeartbeats 4000000 in
theorem law_c26 (l : Launch) (xs : Nat → Int32) (n : Nat) : lrun l 6 xs (n + 2) 994 lloc [] shXM lI jM 99 18232 := by
  refine xrun_step fun K hK => ?_
  refine And.intro (show vp_in ((0 : Int32) + (1 : Int32)) 6 from vp_b (by decide)) ?_
  refine And.intro (show vp_in ((0 : Int32) + (2 : Int32)) 6 from vp_b (by decide)) ?_
  refine c_enough_0 l _ _ _ _ _ _ _ _ lI_5 lI_now lI_h lI_d (fun I' hI' => ?_)
  refine And.intro (show vp_in ((0 : Int32) + (1 : Int32)) 6 from vp_b (by decide)) ?_
  refine And.intro (show vp_in ((0 : Int32) + (2 : Int32)) 6 from vp_b (by decide)) ?_
  refine m_enough_0 l _ _ _ _ _ _ _ _ (lI_MW.keep (hI' 68 (by decide))) (fun I2 => ?_)
  refine And.intro (fun _ => ?_) (fun h => absurd (show (-1 : Int32) = (-1 : Int32) from rfl) h)
  exact hK _ _ _ _ _ _ _ _ (law_next l xs n _ _ _ 99 18232 (Nat.le_of_ble_eq_true rfl) (Nat.le_of_ble_eq_true rfl))
