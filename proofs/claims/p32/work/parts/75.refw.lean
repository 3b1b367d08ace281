-- ===== the reference: worlds, exactly =====
set_option maxRecDepth 100000 in
set_option maxHeartbeats 2000000 in
theorem rx_feetIn_loop (l : Launch) (d : Nat) (ru ta : Nat) (rs : List XO) (I : XI) (J : XJ) (Rp : XR) (bn : Int32) (hR : Rp (some (.int (feR (I 93) bn 12))) (shH ru ta rs) I J) : ∀ (m k n : Nat), k + m = 12 → m < n → xrun xxX12 (some .int) false false (shH ru ta rs).length 0 0 none l d tX12_feetIn [4] Rp n 4 [some (.ref 67), some (.int bn), some (.int (feR (I 93) bn k)), some (.int (nI k))] [] (shH ru ta rs) I J 0 0 := by
  intro m
  induction m with
  | zero =>
    intro k n hk hn
    obtain ⟨n, rfl⟩ : ∃ n', n = n' + 1 := ⟨n - 1, by omega⟩
    have hk : k = 12 := by omega
    refine xrun_step fun K hK => ?_
    refine And.intro (fun _ => ?_) (fun z => absurd (show nI 12 ≤ nI k from by subst hk; exact Int32.le_refl _) z)
    subst hk
    exact hR
  | succ m ih =>
    intro k n hk hn
    obtain ⟨n, rfl⟩ : ∃ n', n = n' + 1 := ⟨n - 1, by omega⟩
    have ix0 : ((nI 52) + (nI k)).toNatClampNeg = 52 + k := by rw [show (nI 52) + (nI k) = nI (52 + k) by simp only [nI_add, nI_mul, Nat.zero_add]]; exact nI_clamp (by omega)
    have ix1 : ((nI 28) + (nI k)).toNatClampNeg = 28 + k := by rw [show (nI 28) + (nI k) = nI (28 + k) by simp only [nI_add, nI_mul, Nat.zero_add]]; exact nI_clamp (by omega)
    refine xrun_step fun K hK => ?_
    refine And.intro (fun z => absurd (show nI 12 ≤ nI k from z) (nI_ge (by omega) (by omega))) (fun _ => ?_)
    refine And.intro (show vp_in ((nI 52) + (nI k)) 69 from vx_2 (by omega) (by omega)) ?_
    refine And.intro (fun (h21 : ¬ (I 93 ((nI 52) + (nI k)).toNatClampNeg = bn)) => ?_) (fun (h21 : I 93 ((nI 52) + (nI k)).toNatClampNeg = bn) => ?_)
    · replace h21 : ¬ (I 93 (52 + k) = bn) := by simpa only [ix0, ix1, uI_rd] using h21
      refine hK 4 [some (.ref 67), some (.int bn), some (.int ((feR (I 93) bn k) + (nI 0))), some (.int ((nI k) + 1))] [] (shH ru ta rs) I J 0 0 ?_
      rw [nI_1]
      have e : feR (I 93) bn (k + 1) = feR (I 93) bn k + (if I 93 (52 + k) = bn then I 93 (28 + k) else nI 0) := rfl
      rw [if_neg h21] at e
      rw [← e]
      exact ih (k + 1) n (by omega) (by omega)
    · replace h21 : I 93 (52 + k) = bn := by simpa only [ix0, ix1, uI_rd] using h21
      refine And.intro (show vp_in ((nI 28) + (nI k)) 69 from vx_2 (by omega) (by omega)) ?_
      refine hK 4 [some (.ref 67), some (.int bn), some (.int ((feR (I 93) bn k) + (I 93 ((nI 28) + (nI k)).toNatClampNeg))), some (.int ((nI k) + 1))] [] (shH ru ta rs) I J 0 0 ?_
      simp only [ix0, ix1, uI_rd]
      rw [nI_1]
      have e : feR (I 93) bn (k + 1) = feR (I 93) bn k + (if I 93 (52 + k) = bn then I 93 (28 + k) else nI 0) := rfl
      rw [if_pos h21] at e
      rw [← e]
      exact ih (k + 1) n (by omega) (by omega)
set_option maxRecDepth 100000 in
theorem rx_feetIn (l : Launch) (d : Nat) (ru ta : Nat) (rs : List XO) (I : XI) (J : XJ) (Rp : XR) (bn : Int32) (hR : Rp (some (.int (feR (I 93) bn 12))) (shH ru ta rs) I J) : xm l (d + 1) 0 0 mX12_feetIn [.ref 67, .int bn] (shH ru ta rs) I J Rp := by
  refine xm_ofK 14 (X := xxX12) (t := tX12_feetIn) (stop := [4]) (ini := false) xx12 pl12 rfl kX12_feetIn (fun h => by cases h) (Nat.le_of_ble_eq_true rfl) (fun K hK => ?_)
  exact hK 4 [some (.ref 67), some (.int bn), some (.int (nI 0)), some (.int (nI 0))] [] _ _ _ _ _ (rx_feetIn_loop l d ru ta rs I J Rp bn hR 12 0 14 (by omega) (by omega))
set_option maxRecDepth 100000 in
set_option maxHeartbeats 2000000 in
theorem rx_feetAll_loop (l : Launch) (d : Nat) (ru ta : Nat) (rs : List XO) (I : XI) (J : XJ) (Rp : XR)  (hR : Rp (some (.int (faR (I 93) 12))) (shH ru ta rs) I J) : ∀ (m k n : Nat), k + m = 12 → m < n → xrun xxX12 (some .int) false false (shH ru ta rs).length 0 0 none l d tX12_feetInAll [4] Rp n 4 [some (.ref 67), some (.int (faR (I 93) k)), some (.int (nI k))] [] (shH ru ta rs) I J 0 0 := by
  intro m
  induction m with
  | zero =>
    intro k n hk hn
    obtain ⟨n, rfl⟩ : ∃ n', n = n' + 1 := ⟨n - 1, by omega⟩
    have hk : k = 12 := by omega
    refine xrun_step fun K hK => ?_
    refine And.intro (fun _ => ?_) (fun z => absurd (show nI 12 ≤ nI k from by subst hk; exact Int32.le_refl _) z)
    subst hk
    exact hR
  | succ m ih =>
    intro k n hk hn
    obtain ⟨n, rfl⟩ : ∃ n', n = n' + 1 := ⟨n - 1, by omega⟩
    have ix0 : ((nI 28) + (nI k)).toNatClampNeg = 28 + k := by rw [show (nI 28) + (nI k) = nI (28 + k) by simp only [nI_add, nI_mul, Nat.zero_add]]; exact nI_clamp (by omega)
    refine xrun_step fun K hK => ?_
    refine And.intro (fun z => absurd (show nI 12 ≤ nI k from z) (nI_ge (by omega) (by omega))) (fun _ => ?_)
    refine And.intro (show vp_in ((nI 28) + (nI k)) 69 from vx_2 (by omega) (by omega)) ?_
    refine hK 4 [some (.ref 67), some (.int ((faR (I 93) k) + (I 93 ((nI 28) + (nI k)).toNatClampNeg))), some (.int ((nI k) + 1))] [] (shH ru ta rs) I J 0 0 ?_
    simp only [ix0, uI_rd]
    rw [nI_1]
    exact ih (k + 1) n (by omega) (by omega)
set_option maxRecDepth 100000 in
theorem rx_feetAll (l : Launch) (d : Nat) (ru ta : Nat) (rs : List XO) (I : XI) (J : XJ) (Rp : XR) (hR : Rp (some (.int (faR (I 93) 12))) (shH ru ta rs) I J) : xm l (d + 1) 0 0 mX12_feetInAll [.ref 67] (shH ru ta rs) I J Rp := by
  refine xm_ofK 14 (X := xxX12) (t := tX12_feetInAll) (stop := [4]) (ini := false) xx12 pl12 rfl kX12_feetInAll (fun h => by cases h) (Nat.le_of_ble_eq_true rfl) (fun K hK => ?_)
  exact hK 4 [some (.ref 67), some (.int (nI 0)), some (.int (nI 0))] [] _ _ _ _ _ (rx_feetAll_loop l d ru ta rs I J Rp hR 12 0 14 (by omega) (by omega))
set_option maxRecDepth 100000 in
set_option maxHeartbeats 2000000 in
theorem rx_free_loop (l : Launch) (d : Nat) (ru ta : Nat) (rs : List XO) (I : XI) (J : XJ) (Rp : XR)   : ∀ (m k n : Nat), k + m = 12 → m < n → Rp (some (.int (bI (frN (I 93) m k)))) (shH ru ta rs) I J → xrun xxX12 (some .int) false false (shH ru ta rs).length 0 0 none l d tX12_freeBale [2] Rp n 2 [some (.ref 67), some (.int (nI k))] [] (shH ru ta rs) I J 0 0 := by
  intro m
  induction m with
  | zero =>
    intro k n hk hn hI
    obtain ⟨n, rfl⟩ : ∃ n', n = n' + 1 := ⟨n - 1, by omega⟩
    have hk : k = 12 := by omega
    refine xrun_step fun K hK => ?_
    refine And.intro (fun _ => ?_) (fun z => absurd (show nI 12 ≤ nI k from by subst hk; exact Int32.le_refl _) z)
    subst hk
    exact hI
  | succ m ih =>
    intro k n hk hn hI
    obtain ⟨n, rfl⟩ : ∃ n', n = n' + 1 := ⟨n - 1, by omega⟩
    have ix0 : ((nI 28) + (nI k)).toNatClampNeg = 28 + k := by rw [show (nI 28) + (nI k) = nI (28 + k) by simp only [nI_add, nI_mul, Nat.zero_add]]; exact nI_clamp (by omega)
    refine xrun_step fun K hK => ?_
    refine And.intro (fun z => absurd (show nI 12 ≤ nI k from z) (nI_ge (by omega) (by omega))) (fun _ => ?_)
    refine And.intro (show vp_in ((nI 28) + (nI k)) 69 from vx_2 (by omega) (by omega)) ?_
    refine And.intro (fun (h17 : ¬ (I 93 ((nI 28) + (nI k)).toNatClampNeg = 0)) => ?_) (fun (h17 : I 93 ((nI 28) + (nI k)).toNatClampNeg = 0) => ?_)
    · replace h17 : ¬ (I 93 (28 + k) = 0) := by simpa only [ix0, uI_rd] using h17
      refine hK 2 [some (.ref 67), some (.int ((nI k) + 1))] [] (shH ru ta rs) I J 0 0 ?_
      rw [nI_1]
      unfold frN at hI
      rw [if_neg h17] at hI
      exact ih (k + 1) n (by omega) (by omega) hI
    · replace h17 : I 93 (28 + k) = 0 := by simpa only [ix0, uI_rd] using h17
      unfold frN at hI
      rw [if_pos h17, bI_b (by omega)] at hI
      exact hI
set_option maxRecDepth 100000 in
theorem rx_free (l : Launch) (d : Nat) (ru ta : Nat) (rs : List XO) (I : XI) (J : XJ) (Rp : XR) (hR : Rp (some (.int (bI (frB (I 93))))) (shH ru ta rs) I J) : xm l (d + 1) 0 0 mX12_freeBale [.ref 67] (shH ru ta rs) I J Rp := by
  refine xm_ofK 14 (X := xxX12) (t := tX12_freeBale) (stop := [2]) (ini := false) xx12 pl12 rfl kX12_freeBale (fun h => by cases h) (Nat.le_of_ble_eq_true rfl) (fun K hK => ?_)
  exact hK 2 [some (.ref 67), some (.int (nI 0))] [] _ _ _ _ _ (rx_free_loop l d ru ta rs I J Rp 12 0 14 (by omega) (by omega) hR)
set_option maxRecDepth 100000 in
set_option maxHeartbeats 4000000 in
theorem rx_bales (l : Launch) (d : Nat) (ru ta : Nat) (rs : List XO) (I : XI) (J : XJ) (Rp : XR) (b : Nat) (hb : b < 12) (kd len bn : Int32) (hR : ∀ I', F93 I I' → I' 93 = baI (I 93) b kd len bn → Rp none (shH ru ta rs) I' J) : xm l (d + 1) 0 0 mX12_bales [.ref 67, .int (nI b), .int kd, .int len, .int bn] (shH ru ta rs) I J Rp := by
  have ix0 : ((nI 16) + (nI b)).toNatClampNeg = 16 + b := by rw [show (nI 16) + (nI b) = nI (16 + b) by simp only [nI_add, nI_mul, Nat.zero_add]]; exact nI_clamp (by omega)
  have ix1 : ((nI 28) + (nI b)).toNatClampNeg = 28 + b := by rw [show (nI 28) + (nI b) = nI (28 + b) by simp only [nI_add, nI_mul, Nat.zero_add]]; exact nI_clamp (by omega)
  have ix2 : ((nI 40) + (nI b)).toNatClampNeg = 40 + b := by rw [show (nI 40) + (nI b) = nI (40 + b) by simp only [nI_add, nI_mul, Nat.zero_add]]; exact nI_clamp (by omega)
  have ix3 : ((nI 52) + (nI b)).toNatClampNeg = 52 + b := by rw [show (nI 52) + (nI b) = nI (52 + b) by simp only [nI_add, nI_mul, Nat.zero_add]]; exact nI_clamp (by omega)
  refine xm_ofK 0 (X := xxX12) (t := tX12_bales) (stop := []) (ini := false) xx12 pl12 rfl kX12_bales (fun h => by cases h) (Nat.le_of_ble_eq_true rfl) (fun K hK => ?_)
  refine And.intro (show vp_in ((nI 16) + (nI b)) 69 from vx_2 (by omega) (by omega)) ?_
  refine And.intro (show vp_in ((nI 28) + (nI b)) 69 from vx_2 (by omega) (by omega)) ?_
  refine And.intro (show vp_in ((nI 40) + (nI b)) 69 from vx_2 (by omega) (by omega)) ?_
  refine And.intro (show vp_in ((nI 52) + (nI b)) 69 from vx_2 (by omega) (by omega)) ?_
  refine hR (uI (uI (uI (uI I 93 ((nI 16) + (nI b)).toNatClampNeg kd) 93 ((nI 28) + (nI b)).toNatClampNeg len) 93 ((nI 40) + (nI b)).toNatClampNeg (nI 0)) 93 ((nI 52) + (nI b)).toNatClampNeg bn) F93.rf.u.u.u.u ?_
  simp only [ix0, ix1, ix2, ix3, uI_rd, uI_eq]
  rfl
set_option maxRecDepth 100000 in
set_option maxHeartbeats 4000000 in
theorem rx_short (l : Launch) (d : Nat) (ru ta : Nat) (rs : List XO) (I : XI) (J : XJ) (Rp : XR) (b : Nat) (hb : b < 12) (y : Int32) (hR : ∀ I', F93 I I' → I' 93 = shR (I 93) b y → Rp none (shH ru ta rs) I' J) : xm l (d + 2) 0 0 mX12_shortens [.ref 67, .int (nI b), .int y] (shH ru ta rs) I J Rp := by
  have ix0 : ((nI 28) + (nI b)).toNatClampNeg = 28 + b := by rw [show (nI 28) + (nI b) = nI (28 + b) by simp only [nI_add, nI_mul, Nat.zero_add]]; exact nI_clamp (by omega)
  refine xm_ofK 0 (X := xxX12) (t := tX12_shortens) (stop := []) (ini := false) xx12 pl12 rfl kX12_shortens (fun h => by cases h) (Nat.le_of_ble_eq_true rfl) (fun K hK => ?_)
  refine And.intro (show vp_in ((nI 28) + (nI b)) 69 from vx_2 (by omega) (by omega)) ?_
  refine And.intro (show vp_in ((nI 28) + (nI b)) 69 from vx_2 (by omega) (by omega)) ?_
  refine And.intro (show vp_in ((nI 28) + (nI b)) 69 from vx_2 (by omega) (by omega)) ?_
  refine And.intro (fun (h22 : 0 < (uI I 93 ((nI 28) + (nI b)).toNatClampNeg ((I 93 ((nI 28) + (nI b)).toNatClampNeg) - y)) 93 ((nI 28) + (nI b)).toNatClampNeg) => ?_) (fun (h22 : ¬ (0 < (uI I 93 ((nI 28) + (nI b)).toNatClampNeg ((I 93 ((nI 28) + (nI b)).toNatClampNeg) - y)) 93 ((nI 28) + (nI b)).toNatClampNeg)) => ?_)
  · replace h22 : 0 < (I 93 (28 + b)) - y := by simpa only [ix0, uI_rd] using h22
    refine hR (uI I 93 ((nI 28) + (nI b)).toNatClampNeg ((I 93 ((nI 28) + (nI b)).toNatClampNeg) - y)) F93.rf.u ?_
    simp only [ix0, uI_rd, uI_eq]
    unfold shR
    rw [if_pos h22]
  · replace h22 : ¬ (0 < (I 93 (28 + b)) - y) := by simpa only [ix0, uI_rd] using h22
    refine rx_bales l d ru ta rs (uI I 93 ((nI 28) + (nI b)).toNatClampNeg ((I 93 ((nI 28) + (nI b)).toNatClampNeg) - y)) J _ b (by omega) _ _ _ (fun Ib30 f30 e30 => ?_)
    refine hR Ib30 (F93.tr F93.rf.u f30) ?_
    rw [e30]
    simp only [ix0, uI_rd, uI_eq]
    unfold shR
    rw [if_neg h22]
    rfl
set_option maxRecDepth 100000 in
set_option maxHeartbeats 4000000 in
theorem rx_isRoom (l : Launch) (d : Nat) (ru ta : Nat) (rs : List XO) (I : XI) (J : XJ) (Rp : XR) (Q : Tld) (h : TDr I Q) (bn : Nat) (hb : bn < qB Q) (hB : qB Q ≤ 4) (len : Int32) (h1 : isR Q (I 93) bn len = true → Rp (some (.int 1)) (shH ru ta rs) I J) (h0 : isR Q (I 93) bn len = false → Rp (some (.int 0)) (shH ru ta rs) I J) : xm l (d + 2) 0 0 mX12_isRoom [.ref 67, .int (nI bn), .int len] (shH ru ta rs) I J Rp := by
  have hm := h.2.2.2.2.2 bn hb
  have ix0 : ((nI 38) + (nI bn)).toNatClampNeg = 38 + bn := by rw [show (nI 38) + (nI bn) = nI (38 + bn) by simp only [nI_add, nI_mul, Nat.zero_add]]; exact nI_clamp (by omega)
  refine xm_ofK 0 (X := xxX12) (t := tX12_isRoom) (stop := []) (ini := false) xx12 pl12 rfl kX12_isRoom (fun h => by cases h) (Nat.le_of_ble_eq_true rfl) (fun K hK => ?_)
  refine rx_feetIn l d ru ta rs I J _ _ ?_
  refine And.intro (show vp_in ((nI 38) + (nI bn)) 2200 from vx_2 (by omega) (by omega)) ?_
  refine And.intro (fun (h16 : I 68 ((nI 38) + (nI bn)).toNatClampNeg < (feR (I 93) (nI bn) 12) + len) => ?_) (fun (h16 : ¬ (I 68 ((nI 38) + (nI bn)).toNatClampNeg < (feR (I 93) (nI bn) 12) + len)) => ?_)
  · replace h16 : I 68 (38 + bn) < (feR (I 93) (nI bn) 12) + len := by simpa only [ix0, uI_rd] using h16
    refine And.intro (Or.inl rfl) ?_
    refine h0 ?_
    unfold isR
    rw [← hm]
    exact decide_eq_false (Int32.not_le.mpr h16)
  · replace h16 : ¬ (I 68 (38 + bn) < (feR (I 93) (nI bn) 12) + len) := by simpa only [ix0, uI_rd] using h16
    refine And.intro (Or.inr rfl) ?_
    refine h1 ?_
    unfold isR
    rw [← hm]
    exact decide_eq_true (Int32.not_lt.mp h16)
theorem nW_pos {w : Rw} (h : WR w) {k : Nat} (hk : k < 69) (h67 : k ≠ 67) : 0 < w k ↔ 0 < nW w k := by
  have e := h.c hk h67
  have b : nW w k < 2 ^ 31 := by
    have y : (nI (nW w k)).toNatClampNeg = nW w k := by
      rw [← e]
      rfl
    have := Int32.toInt_lt (w k)
    unfold nW
    unfold Int32.toNatClampNeg
    omega
  rw [e]
  constructor
  · intro z
    have z := Int32.lt_iff_toInt_lt.mp z
    rw [show (0 : Int32).toInt = 0 from rfl, nI_toInt b] at z
    omega
  · intro z
    rw [Int32.lt_iff_toInt_lt, show (0 : Int32).toInt = 0 from rfl, nI_toInt b]
    omega
theorem nW_eq {w : Rw} (h : WR w) {i j : Nat} (hi : i < 69) (h67 : i ≠ 67) (hj : j < 69) (j67 : j ≠ 67) : w i = w j ↔ nW w i = nW w j := by
  constructor
  · intro z
    unfold nW
    rw [z]
  · intro z
    rw [h.c hi h67, h.c hj j67, z]
set_option maxRecDepth 100000 in
set_option maxHeartbeats 2000000 in
theorem rx_balesIn_loop (l : Launch) (d : Nat) (ru ta : Nat) (rs : List XO) (I : XI) (J : XJ) (Rp : XR) (hw : WR (I 93)) (c : Nat) (hc : c < 64) (hR : Rp (some (.int (nI (blN (nW (I 93)) (nW (I 93) c) 12)))) (shH ru ta rs) I J) : ∀ (m k n : Nat), k + m = 12 → m < n → xrun xxX12 (some .int) false false (shH ru ta rs).length 0 0 none l d tX12_balesIn [4] Rp n 4 [some (.ref 67), some (.int (I 93 c)), some (.int (nI (blN (nW (I 93)) (nW (I 93) c) k))), some (.int (nI k))] [] (shH ru ta rs) I J 0 0 := by
  intro m
  induction m with
  | zero =>
    intro k n hk hn
    obtain ⟨n, rfl⟩ : ∃ n', n = n' + 1 := ⟨n - 1, by omega⟩
    have hk : k = 12 := by omega
    refine xrun_step fun K hK => ?_
    refine And.intro (fun _ => ?_) (fun z => absurd (show nI 12 ≤ nI k from by subst hk; exact Int32.le_refl _) z)
    subst hk
    exact hR
  | succ m ih =>
    intro k n hk hn
    obtain ⟨n, rfl⟩ : ∃ n', n = n' + 1 := ⟨n - 1, by omega⟩
    have ix0 : ((nI 28) + (nI k)).toNatClampNeg = 28 + k := by rw [show (nI 28) + (nI k) = nI (28 + k) by simp only [nI_add, nI_mul, Nat.zero_add]]; exact nI_clamp (by omega)
    have ix1 : ((nI 52) + (nI k)).toNatClampNeg = 52 + k := by rw [show (nI 52) + (nI k) = nI (52 + k) by simp only [nI_add, nI_mul, Nat.zero_add]]; exact nI_clamp (by omega)
    refine xrun_step fun K hK => ?_
    refine And.intro (fun z => absurd (show nI 12 ≤ nI k from z) (nI_ge (by omega) (by omega))) (fun _ => ?_)
    refine And.intro (show vp_in ((nI 28) + (nI k)) 69 from vx_2 (by omega) (by omega)) ?_
    refine And.intro (fun (h20 : I 93 ((nI 28) + (nI k)).toNatClampNeg ≤ 0) => ?_) (fun (h20 : ¬ (I 93 ((nI 28) + (nI k)).toNatClampNeg ≤ 0)) => ?_)
    · replace h20 : I 93 (28 + k) ≤ 0 := by simpa only [ix0, ix1, uI_rd] using h20
      replace h20 : ¬ 0 < I 93 (28 + k) := Int32.not_lt.mpr h20
      refine hK 4 [some (.ref 67), some (.int (I 93 c)), some (.int ((nI (blN (nW (I 93)) (nW (I 93) c) k)) + (nI 0))), some (.int ((nI k) + 1))] [] (shH ru ta rs) I J 0 0 ?_
      have e : blN (nW (I 93)) (nW (I 93) c) (k + 1) = blN (nW (I 93)) (nW (I 93) c) k + 0 := by
        show blN (nW (I 93)) (nW (I 93) c) k + (if 0 < nW (I 93) (28 + k) ∧ nW (I 93) (52 + k) = nW (I 93) c then 1 else 0) = _
        rw [if_neg (fun z => h20 ((nW_pos hw (by omega) (by omega)).mpr z.1))]
      rw [nI_add, nI_1, ← e]
      exact ih (k + 1) n (by omega) (by omega)
    · replace h20 : ¬ (I 93 (28 + k) ≤ 0) := by simpa only [ix0, ix1, uI_rd] using h20
      replace h20 : 0 < I 93 (28 + k) := Int32.not_le.mp h20
      refine And.intro (show vp_in ((nI 52) + (nI k)) 69 from vx_2 (by omega) (by omega)) ?_
      refine And.intro (fun (h33 : ¬ (I 93 ((nI 52) + (nI k)).toNatClampNeg = I 93 c)) => ?_) (fun (h33 : I 93 ((nI 52) + (nI k)).toNatClampNeg = I 93 c) => ?_)
      · replace h33 : ¬ (I 93 (52 + k) = I 93 c) := by simpa only [ix0, ix1, uI_rd] using h33
        refine hK 4 [some (.ref 67), some (.int (I 93 c)), some (.int ((nI (blN (nW (I 93)) (nW (I 93) c) k)) + (nI 0))), some (.int ((nI k) + 1))] [] (shH ru ta rs) I J 0 0 ?_
        have e : blN (nW (I 93)) (nW (I 93) c) (k + 1) = blN (nW (I 93)) (nW (I 93) c) k + 0 := by
          show blN (nW (I 93)) (nW (I 93) c) k + (if 0 < nW (I 93) (28 + k) ∧ nW (I 93) (52 + k) = nW (I 93) c then 1 else 0) = _
          rw [if_neg (fun z => h33 ((nW_eq hw (by omega) (by omega) (by omega) (by omega)).mpr z.2))]
        rw [nI_add, nI_1, ← e]
        exact ih (k + 1) n (by omega) (by omega)
      · replace h33 : I 93 (52 + k) = I 93 c := by simpa only [ix0, ix1, uI_rd] using h33
        refine hK 4 [some (.ref 67), some (.int (I 93 c)), some (.int ((nI (blN (nW (I 93)) (nW (I 93) c) k)) + (nI 1))), some (.int ((nI k) + 1))] [] (shH ru ta rs) I J 0 0 ?_
        have e : blN (nW (I 93)) (nW (I 93) c) (k + 1) = blN (nW (I 93)) (nW (I 93) c) k + 1 := by
          show blN (nW (I 93)) (nW (I 93) c) k + (if 0 < nW (I 93) (28 + k) ∧ nW (I 93) (52 + k) = nW (I 93) c then 1 else 0) = _
          rw [if_pos ⟨(nW_pos hw (by omega) (by omega)).mp h20, (nW_eq hw (by omega) (by omega) (by omega) (by omega)).mp h33⟩]
        rw [nI_add, nI_1, ← e]
        exact ih (k + 1) n (by omega) (by omega)
set_option maxRecDepth 100000 in
theorem rx_balesIn (l : Launch) (d : Nat) (ru ta : Nat) (rs : List XO) (I : XI) (J : XJ) (Rp : XR) (hw : WR (I 93)) (c : Nat) (hc : c < 64) (hR : Rp (some (.int (nI (blN (nW (I 93)) (nW (I 93) c) 12)))) (shH ru ta rs) I J) : xm l (d + 1) 0 0 mX12_balesIn [.ref 67, .int (I 93 c)] (shH ru ta rs) I J Rp := by
  refine xm_ofK 14 (X := xxX12) (t := tX12_balesIn) (stop := [4]) (ini := false) xx12 pl12 rfl kX12_balesIn (fun h => by cases h) (Nat.le_of_ble_eq_true rfl) (fun K hK => ?_)
  exact hK 4 [some (.ref 67), some (.int (I 93 c)), some (.int (nI 0)), some (.int (nI 0))] [] _ _ _ _ _ (rx_balesIn_loop l d ru ta rs I J Rp hw c hc hR 12 0 14 (by omega) (by omega))
set_option maxRecDepth 100000 in
set_option maxHeartbeats 4000000 in
theorem rx_namesB (l : Launch) (d : Nat) (ru ta : Nat) (rs : List XO) (I : XI) (J : XJ) (Rp : XR) (hw : WR (I 93)) (b : Nat) (hb : b < 12) (hR : ∀ I' : XI, (∀ q, q ≠ 91 → I' q = I q) → (∀ n, n = 0 ∨ n = 1 ∨ n = 4 ∨ n = 6 ∨ n = 7 ∨ n = 8 → I' 91 n = nI (nmL (nW (I 93)) b n)) → Rp none (shH ru ta rs) I' J) : xm l (d + 2) 0 0 mX12_namesOfBale [.ref 67, .int (nI b)] (shH ru ta rs) I J Rp := by
  have ix52 : (nI 52 + nI b).toNatClampNeg = 52 + b := ix_c (by omega)
  have ix0 : ((nI 16) + (nI b)).toNatClampNeg = 16 + b := by rw [show (nI 16) + (nI b) = nI (16 + b) by simp only [nI_add, nI_mul, Nat.zero_add]]; exact nI_clamp (by omega)
  have ix1 : ((nI 40) + (nI b)).toNatClampNeg = 40 + b := by rw [show (nI 40) + (nI b) = nI (40 + b) by simp only [nI_add, nI_mul, Nat.zero_add]]; exact nI_clamp (by omega)
  have ix2 : ((nI 28) + (nI b)).toNatClampNeg = 28 + b := by rw [show (nI 28) + (nI b) = nI (28 + b) by simp only [nI_add, nI_mul, Nat.zero_add]]; exact nI_clamp (by omega)
  refine xm_ofK 0 (X := xxX12) (t := tX12_namesOfBale) (stop := []) (ini := false) xx12 pl12 rfl kX12_namesOfBale (fun h => by cases h) (Nat.le_of_ble_eq_true rfl) (fun K hK => ?_)
  refine And.intro (show vp_in (nI 65) 69 from vp_b (by decide)) ?_
  refine And.intro (show vp_in (nI 0) 11 from vp_b (by decide)) ?_
  refine And.intro (show vp_in ((nI 16) + (nI b)) 69 from vx_2 (by omega) (by omega)) ?_
  refine And.intro (show vp_in (nI 1) 11 from vp_b (by decide)) ?_
  refine And.intro (show vp_in (nI 64) 69 from vp_b (by decide)) ?_
  refine And.intro (show vp_in (nI 4) 11 from vp_b (by decide)) ?_
  refine And.intro (show vp_in ((nI 40) + (nI b)) 69 from vx_2 (by omega) (by omega)) ?_
  refine And.intro (show vp_in (nI 6) 11 from vp_b (by decide)) ?_
  refine And.intro (show vp_in ((nI 28) + (nI b)) 69 from vx_2 (by omega) (by omega)) ?_
  refine And.intro (show vp_in (nI 7) 11 from vp_b (by decide)) ?_
  refine And.intro (show vp_in ((nI 52) + (nI b)) 69 from vx_2 (by omega) (by omega)) ?_
  refine (show xm l (d + 1) 0 0 mX12_balesIn [.ref 67, .int (I 93 (nI 52 + nI b).toNatClampNeg)] (shH ru ta rs) (uI (uI (uI (uI (uI I 91 0 (I 93 65)) 91 1 (I 93 ((nI 16) + (nI b)).toNatClampNeg)) 91 4 (I 93 64)) 91 6 (I 93 ((nI 40) + (nI b)).toNatClampNeg)) 91 7 (I 93 ((nI 28) + (nI b)).toNatClampNeg)) J _ from ?_)
  rw [ix52]
  refine rx_balesIn l d ru ta rs (uI (uI (uI (uI (uI I 91 0 (I 93 65)) 91 1 (I 93 ((nI 16) + (nI b)).toNatClampNeg)) 91 4 (I 93 64)) 91 6 (I 93 ((nI 40) + (nI b)).toNatClampNeg)) 91 7 (I 93 ((nI 28) + (nI b)).toNatClampNeg)) J _ hw (52 + b) (by omega) ?_
  refine And.intro (show vp_in (nI 8) 11 from vp_b (by decide)) ?_
  refine hR (uI (uI (uI (uI (uI (uI I 91 0 (I 93 65)) 91 1 (I 93 ((nI 16) + (nI b)).toNatClampNeg)) 91 4 (I 93 64)) 91 6 (I 93 ((nI 40) + (nI b)).toNatClampNeg)) 91 7 (I 93 ((nI 28) + (nI b)).toNatClampNeg)) 91 8 (nI (blN (nW (I 93)) (nW (I 93) (52 + b)) 12))) (fun q hq => by rw [uI_ne hq, uI_ne hq, uI_ne hq, uI_ne hq, uI_ne hq, uI_ne hq]) (fun n hn => ?_)
  simp only [ix0, ix1, ix2, uI_rd]
  rw [hw.c (show 65 < 69 by decide) (by decide), hw.c (show 16 + b < 69 by omega) (by omega), hw.c (show 64 < 69 by decide) (by decide), hw.c (show 40 + b < 69 by omega) (by omega), hw.c (show 28 + b < 69 by omega) (by omega)]
  rcases hn with rfl | rfl | rfl | rfl | rfl | rfl
  · rfl
  · rfl
  · rfl
  · rfl
  · rfl
  · rfl
set_option maxRecDepth 100000 in
set_option maxHeartbeats 4000000 in
theorem rx_spoils (l : Launch) (d : Nat) (ru ta : Nat) (rs : List XO) (I : XI) (J : XJ) (Rp : XR) (Q : Tld) (L : Lws) (h : RE I Q L) (hw : WR (I 93)) (b : Nat) (hb : b < 12) (hR : ∀ (I' : XI) (J' : XJ), (∀ q, q ≠ 91 → I' q = I q) → Rp (some (.int (nI (spR L (I 93) b)))) (shH ru ta rs) I' J') : xm l (d + 9) 0 0 mX12_spoilsOf [.ref 67, .int (nI b)] (shH ru ta rs) I J Rp := by
  refine xm_ofK 3 (X := xxX12) (t := tX12_spoilsOf) (stop := []) (ini := false) xx12 pl12 rfl kX12_spoilsOf (fun h => by cases h) (Nat.le_of_ble_eq_true rfl) (fun K hK => ?_)
  obtain ⟨r, h1, h2⟩ := h.2 2 (by decide)
  refine ex_orders l (d + 7) 2 (by decide) ru ta rs I J _ r h1 ?_
  refine rx_namesB l (d + 6) ru ta rs I J _ hw b hb (fun I1 f1 n1 => ?_)
  have h2 : LRw I1 2 r (L 2) := h2.keep (f1 77 (by decide)) (f1 78 (by decide))
  unfold spR spOf at hR
  cases e : L 2 with
  | none =>
    rw [e] at h2 hR
    have h2 : r = -1 := h2
    refine And.intro (fun z => absurd h2 z) (fun _ => ?_)
    exact hR I1 J f1
  | some es =>
    rw [e] at h2 hR
    obtain ⟨f, e1, hO, hk, hl, hT⟩ := h2
    subst e1
    have hf : ¬ nI f = -1 := nI_neg1 (by omega)
    refine And.intro (fun _ => ?_) (fun z => absurd z hf)
    refine ex_says_w l (d + 5) 2 f ru ta rs I1 J _ es hO hk hl hT (nmL (nW (I 93)) b) (fun n g1 g2 => ⟨n1 n (myN_B g1 (Or.inl rfl) g2), nmL_b hw.wok hb⟩) (fun v J' hv _ => ?_)
    refine ex_held l (d + 7) 999 (by decide) v _ _ _ _ ?_
    rw [hv]
    exact hR I1 J' f1
theorem seR_v {L : Lws} {w : Rw} {b : Nat} : seR L w b = match L 3 with
  | none => nW w (28 + b)
  | some e => (hld (wth (nmL (nW w) b) e) 0 (9999 : Nat)).toNat := rfl
set_option maxRecDepth 100000 in
set_option maxHeartbeats 4000000 in
theorem rx_sells (l : Launch) (d : Nat) (ru ta : Nat) (rs : List XO) (I : XI) (J : XJ) (Rp : XR) (Q : Tld) (L : Lws) (h : RE I Q L) (hw : WR (I 93)) (b : Nat) (hb : b < 12) (hR : ∀ (I' : XI) (J' : XJ), (∀ q, q ≠ 91 → I' q = I q) → Rp (some (.int (nI (seR L (I 93) b)))) (shH ru ta rs) I' J') : xm l (d + 9) 0 0 mX12_sellsOf [.ref 67, .int (nI b)] (shH ru ta rs) I J Rp := by
  refine xm_ofK 3 (X := xxX12) (t := tX12_sellsOf) (stop := []) (ini := false) xx12 pl12 rfl kX12_sellsOf (fun h => by cases h) (Nat.le_of_ble_eq_true rfl) (fun K hK => ?_)
  obtain ⟨r, h1, h2⟩ := h.2 3 (by decide)
  refine ex_orders l (d + 7) 3 (by decide) ru ta rs I J _ r h1 ?_
  refine rx_namesB l (d + 6) ru ta rs I J _ hw b hb (fun I1 f1 n1 => ?_)
  have h2 : LRw I1 3 r (L 3) := h2.keep (f1 77 (by decide)) (f1 78 (by decide))
  have ix28 : (nI 28 + nI b).toNatClampNeg = 28 + b := ix_c (by omega)
  have b9 : nW (I 93) (28 + b) ≤ 999 := (hw.wok.2.2.1 b hb).2.1
  have key := seR_v (L := L) (w := I 93) (b := b)
  cases e : L 3 with
  | none =>
    rw [e] at h2 key
    have h2 : r = -1 := h2
    refine And.intro (fun z => absurd h2 z) (fun _ => ?_)
    refine And.intro (show vp_in (nI 28 + nI b) 69 from vx_2 (by omega) (by omega)) ?_
    refine ex_held l (d + 7) 9999 (by decide) (I1 93 (nI 28 + nI b).toNatClampNeg).toInt64 _ _ _ _ ?_
    have ev : nI (hld (I1 93 (nI 28 + nI b).toNatClampNeg).toInt64.toInt 0 (9999 : Nat)).toNat = nI (seR L (I 93) b) := by
      rw [ix28, f1 93 (by decide), key, hw.c (show 28 + b < 69 by omega) (by omega), nI_i64 (by omega), hld_id (by omega)]
    have fin := hR I1 J f1
    rw [← ev] at fin
    exact fin
  | some es =>
    rw [e] at h2 key
    obtain ⟨f, e1, hO, hk, hl, hT⟩ := h2
    subst e1
    have hf : ¬ nI f = -1 := nI_neg1 (by omega)
    refine And.intro (fun _ => ?_) (fun z => absurd z hf)
    refine ex_says_w l (d + 5) 3 f ru ta rs I1 J _ es hO hk hl hT (nmL (nW (I 93)) b) (fun n g1 g2 => ⟨n1 n (myN_B g1 (Or.inr rfl) g2), nmL_b hw.wok hb⟩) (fun v J' hv _ => ?_)
    refine ex_held l (d + 7) 9999 (by decide) v _ _ _ _ ?_
    have ev : nI (hld v.toInt 0 (9999 : Nat)).toNat = nI (seR L (I 93) b) := by
      rw [hv, key]
    have fin := hR I1 J' f1
    rw [← ev] at fin
    exact fin
set_option maxRecDepth 100000 in
set_option maxHeartbeats 4000000 in
theorem rx_draw (l : Launch) (d : Nat) (ru ta : Nat) (rs : List XO) (I : XI) (J : XJ) (Rp : XR) (m : Nat) (h0 : 0 < m) (hm : m < 1000) (hR : ∀ I', F93 I I' → I' 93 = dr (I 93) → Rp (some (.int (drv (I 93) (nI m)))) (shH ru ta rs) I' J) : xm l (d + 1) 0 0 mX12_draw [.ref 67, .int (nI m)] (shH ru ta rs) I J Rp := by
  have nz : ¬ nI m = 0 := fun z => by
    have z := congrArg Int32.toInt z
    rw [nI_toInt (by omega), show (0 : Int32).toInt = 0 from rfl] at z
    omega
  refine xm_ofK 0 (X := xxX12) (t := tX12_draw) (stop := []) (ini := false) xx12 pl12 rfl kX12_draw (fun h => by cases h) (Nat.le_of_ble_eq_true rfl) (fun K hK => ?_)
  refine And.intro (show vp_in (nI 68) 69 from vp_b (by decide)) ?_
  refine And.intro (show ¬ (nI m = 0) from nz) ?_
  refine And.intro (show vp_in (nI 68) 69 from vp_b (by decide)) ?_
  refine And.intro (show ¬ (nI 30313 = 0) from by decide) ?_
  refine And.intro (show vp_in (nI 68) 69 from vp_b (by decide)) ?_
  exact hR (uI I 93 68 ((((I 93 68) * (nI 287)) + (nI 191)) - (((I 93 68) * (nI 287)) + (nI 191)) / (nI 30313) * (nI 30313))) F93.rf.u uI_eq
set_option maxRecDepth 100000 in
set_option maxHeartbeats 4000000 in
theorem rx_canPass (l : Launch) (d : Nat) (ru ta : Nat) (rs : List XO) (I : XI) (J : XJ) (Rp : XR) (h1 : cnP (I 93) = true → Rp (some (.int 1)) (shH ru ta rs) I J) (h0 : cnP (I 93) = false → Rp (some (.int 0)) (shH ru ta rs) I J) : xm l (d + 1) 0 0 mX12_canPass [.ref 67] (shH ru ta rs) I J Rp := by
  refine xm_ofK 0 (X := xxX12) (t := tX12_canPass) (stop := []) (ini := false) xx12 pl12 rfl kX12_canPass (fun h => by cases h) (Nat.le_of_ble_eq_true rfl) (fun K hK => ?_)
  refine And.intro (show vp_in (nI 65) 69 from vp_b (by decide)) ?_
  refine And.intro (fun (h10 : I 93 65 < nI 999) => ?_) (fun (h10 : ¬ (I 93 65 < nI 999)) => ?_)
  · refine And.intro (Or.inr rfl) ?_
    exact h1 (by unfold cnP; rw [decide_eq_true h10]; rfl)
  · refine And.intro (show vp_in (nI 64) 69 from vp_b (by decide)) ?_
    refine And.intro (fun (h22 : nI 9 ≤ I 93 64) => ?_) (fun (h22 : ¬ (nI 9 ≤ I 93 64)) => ?_)
    · refine And.intro (Or.inl rfl) ?_
      exact h0 (by unfold cnP; rw [decide_eq_false h10, decide_eq_false (Int32.not_lt.mpr h22)]; rfl)
    · refine And.intro (Or.inr rfl) ?_
      exact h1 (by unfold cnP; rw [decide_eq_true (Int32.not_le.mp h22), Bool.or_true])
theorem wLay_s {I I1 : XI} {k : Nat} (hk : k < 69) (hf : F93 I I1) (h : I1 93 = fun j => if j < k then I 68 (60 + j) else I 93 j) : uI I1 93 k (I1 68 (60 + k)) 93 = fun j => if j < k + 1 then I 68 (60 + j) else I 93 j := by
  rw [uI_eq, h, hf 68 (by decide) (by decide)]
  funext j
  unfold upd
  by_cases e : j = k
  · subst e
    rw [if_pos rfl, if_pos (by omega)]
  · rw [if_neg e]
    dsimp only
    by_cases z : j < k
    · rw [if_pos z, if_pos (by omega)]
    · rw [if_neg z, if_neg (by omega)]
set_option maxRecDepth 100000 in
set_option maxHeartbeats 2000000 in
theorem rx_lays_loop (l : Launch) (d : Nat) (ru ta : Nat) (rs : List XO) (I : XI) (J : XJ) (Rp : XR)  (hR : ∀ I', F93 I I' → I' 93 = wLay I → Rp none (shH ru ta rs) I' J) : ∀ (m k n : Nat) (I1 : XI), k + m = 69 → m < n → (F93 I I1 ∧ I1 93 = fun j => if j < k then I 68 (60 + j) else I 93 j) → xrun xxX12 none false false (shH ru ta rs).length 0 0 none l d tX12_laysNow [2] Rp n 2 [some (.ref 67), some (.int (nI k))] [] (shH ru ta rs) I1 J 0 0 := by
  intro m
  induction m with
  | zero =>
    intro k n I1 hk hn hI
    obtain ⟨n, rfl⟩ : ∃ n', n = n' + 1 := ⟨n - 1, by omega⟩
    have hk : k = 69 := by omega
    refine xrun_step fun K hK => ?_
    refine And.intro (fun _ => ?_) (fun z => absurd (show nI 69 ≤ nI k from by subst hk; exact Int32.le_refl _) z)
    subst hk
    exact hR I1 hI.1 hI.2
  | succ m ih =>
    intro k n I1 hk hn hI
    obtain ⟨n, rfl⟩ : ∃ n', n = n' + 1 := ⟨n - 1, by omega⟩
    have ix0 : (nI k).toNatClampNeg = k := nI_clamp (by omega)
    have ix1 : ((nI 60) + (nI k)).toNatClampNeg = 60 + k := by rw [show (nI 60) + (nI k) = nI (60 + k) by simp only [nI_add, nI_mul, Nat.zero_add]]; exact nI_clamp (by omega)
    refine xrun_step fun K hK => ?_
    refine And.intro (fun z => absurd (show nI 69 ≤ nI k from z) (nI_ge (by omega) (by omega))) (fun _ => ?_)
    refine And.intro (show vp_in ((nI 60) + (nI k)) 2200 from vx_2 (by omega) (by omega)) ?_
    refine And.intro (show vp_in (nI k) 69 from vp_in_nI (by omega) (by omega)) ?_
    refine hK 2 [some (.ref 67), some (.int ((nI k) + 1))] [] (shH ru ta rs) (uI I1 93 (nI k).toNatClampNeg (I1 68 ((nI 60) + (nI k)).toNatClampNeg)) J 0 0 ?_
    simp only [ix0, ix1, uI_rd]
    rw [nI_1]
    exact ih (k + 1) n _ (by omega) (by omega) ⟨hI.1.u, wLay_s (by omega) hI.1 hI.2⟩
set_option maxRecDepth 100000 in
theorem rx_lays (l : Launch) (d : Nat) (ru ta : Nat) (rs : List XO) (I : XI) (J : XJ) (Rp : XR) (hR : ∀ I', F93 I I' → I' 93 = wLay I → Rp none (shH ru ta rs) I' J) : xm l (d + 1) 0 0 mX12_laysNow [.ref 67] (shH ru ta rs) I J Rp := by
  refine xm_ofK 71 (X := xxX12) (t := tX12_laysNow) (stop := [2]) (ini := false) xx12 pl12 rfl kX12_laysNow (fun h => by cases h) (Nat.le_of_ble_eq_true rfl) (fun K hK => ?_)
  exact hK 2 [some (.ref 67), some (.int (nI 0))] [] _ _ _ _ _ (rx_lays_loop l d ru ta rs I J Rp hR 69 0 71 I (by omega) (by omega) ⟨F93.rf, by funext j; rw [if_neg (by omega)]⟩)
theorem kep_s {I I1 : XI} {k : Nat} (hk : k < 69) (hf : ∀ q, q ≠ 68 → I1 q = I q) (h : I1 68 = fun j => if 60 ≤ j ∧ j < 60 + k then I 93 (j - 60) else I 68 j) : (∀ q, q ≠ 68 → uI I1 68 (60 + k) (I1 93 k) q = I q) ∧ uI I1 68 (60 + k) (I1 93 k) 68 = fun j => if 60 ≤ j ∧ j < 60 + (k + 1) then I 93 (j - 60) else I 68 j := by
  refine ⟨fun q hq => (uI_ne hq).trans (hf q hq), ?_⟩
  rw [uI_eq, h, hf 93 (by decide)]
  funext j
  unfold upd
  by_cases e : j = 60 + k
  · subst e
    rw [if_pos rfl, if_pos (by omega), show 60 + k - 60 = k by omega]
  · rw [if_neg e]
    dsimp only
    by_cases z : 60 ≤ j ∧ j < 60 + k
    · rw [if_pos z, if_pos (by omega)]
    · rw [if_neg z, if_neg (by omega)]
set_option maxRecDepth 100000 in
set_option maxHeartbeats 2000000 in
theorem rx_keeps_loop (l : Launch) (d : Nat) (ru ta : Nat) (rs : List XO) (I : XI) (J : XJ) (Rp : XR)  (hR : ∀ I', (∀ q, q ≠ 68 → I' q = I q) → I' 68 = kep I → Rp none (shH ru ta rs) I' J) : ∀ (m k n : Nat) (I1 : XI), k + m = 69 → m < n → ((∀ q, q ≠ 68 → I1 q = I q) ∧ I1 68 = fun j => if 60 ≤ j ∧ j < 60 + k then I 93 (j - 60) else I 68 j) → xrun xxX12 none false false (shH ru ta rs).length 0 0 none l d tX12_keepsNow [2] Rp n 2 [some (.ref 67), some (.int (nI k))] [] (shH ru ta rs) I1 J 0 0 := by
  intro m
  induction m with
  | zero =>
    intro k n I1 hk hn hI
    obtain ⟨n, rfl⟩ : ∃ n', n = n' + 1 := ⟨n - 1, by omega⟩
    have hk : k = 69 := by omega
    refine xrun_step fun K hK => ?_
    refine And.intro (fun _ => ?_) (fun z => absurd (show nI 69 ≤ nI k from by subst hk; exact Int32.le_refl _) z)
    subst hk
    exact hR I1 hI.1 hI.2
  | succ m ih =>
    intro k n I1 hk hn hI
    obtain ⟨n, rfl⟩ : ∃ n', n = n' + 1 := ⟨n - 1, by omega⟩
    have ix0 : ((nI 60) + (nI k)).toNatClampNeg = 60 + k := by rw [show (nI 60) + (nI k) = nI (60 + k) by simp only [nI_add, nI_mul, Nat.zero_add]]; exact nI_clamp (by omega)
    have ix1 : (nI k).toNatClampNeg = k := nI_clamp (by omega)
    refine xrun_step fun K hK => ?_
    refine And.intro (fun z => absurd (show nI 69 ≤ nI k from z) (nI_ge (by omega) (by omega))) (fun _ => ?_)
    refine And.intro (show vp_in (nI k) 69 from vp_in_nI (by omega) (by omega)) ?_
    refine And.intro (show vp_in ((nI 60) + (nI k)) 2200 from vx_2 (by omega) (by omega)) ?_
    refine hK 2 [some (.ref 67), some (.int ((nI k) + 1))] [] (shH ru ta rs) (uI I1 68 ((nI 60) + (nI k)).toNatClampNeg (I1 93 (nI k).toNatClampNeg)) J 0 0 ?_
    simp only [ix0, ix1, uI_rd]
    rw [nI_1]
    exact ih (k + 1) n _ (by omega) (by omega) (kep_s (by omega) hI.1 hI.2)
set_option maxRecDepth 100000 in
theorem rx_keeps (l : Launch) (d : Nat) (ru ta : Nat) (rs : List XO) (I : XI) (J : XJ) (Rp : XR) (hR : ∀ I', (∀ q, q ≠ 68 → I' q = I q) → I' 68 = kep I → Rp none (shH ru ta rs) I' J) : xm l (d + 1) 0 0 mX12_keepsNow [.ref 67] (shH ru ta rs) I J Rp := by
  refine xm_ofK 71 (X := xxX12) (t := tX12_keepsNow) (stop := [2]) (ini := false) xx12 pl12 rfl kX12_keepsNow (fun h => by cases h) (Nat.le_of_ble_eq_true rfl) (fun K hK => ?_)
  exact hK 2 [some (.ref 67), some (.int (nI 0))] [] _ _ _ _ _ (rx_keeps_loop l d ru ta rs I J Rp hR 69 0 71 I (by omega) (by omega) ⟨fun _ _ => rfl, by funext j; rw [if_neg (by omega)]⟩)
