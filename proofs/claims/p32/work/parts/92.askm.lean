-- ===== the reference: what is asked =====
set_option maxRecDepth 100000 in
set_option maxHeartbeats 4000000 in
theorem md_of (l : Launch) (d : Nat) (ru ta : Nat) (rs : List XO) (I : XI) (J : XJ) (Rp : XR) (L : Lws) (A : Ast) (hA : AOK A) (h : MA I L A) (x y : Int32) (hR : ∀ (I' : XI) (J' : XJ), FMl I I' → MA I' L A → Rp (some (.int (ofS L A x y))) (shH ru ta rs) I' J') : xm l (d + 10) 0 0 mX12_of [.ref 67, .int x, .int y] (shH ru ta rs) I J Rp := by
  have h0 := h
  obtain ⟨hre, hlay, hs⟩ := h
  obtain ⟨hq, hw, hn, hf⟩ := hA
  have t8 := hq.1
  have r4 := hq.2.1
  have b4 := hq.2.2.1
  have eT : I 68 0 = nI (qT (oQ A)) := hre.1.1.1
  have eR : I 68 1 = nI (qR (oQ A)) := hre.1.1.2.1
  have eB : I 68 2 = nI (qB (oQ A)) := hre.1.1.2.2.1
  have e88 : ∀ k, k < 12 → I 68 (88 + k) = oW A (28 + k) := fun k hk => by
    rw [← h0.w (k := 28 + k) (by omega), show 60 + (28 + k) = 88 + k by omega]
  have none_ : ofS L A x y = -1 → Rp (some (.int (-1))) (shH ru ta rs) I J := fun e => by
    have z := hR I J FMl.rf h0
    rw [e] at z
    exact z
  refine xm_ofK 0 (X := xxX12) (t := tX12_of) (stop := []) (ini := false) xx12 pl12 rfl kX12_of (fun h => by cases h) (Nat.le_of_ble_eq_true rfl) (fun K hK => ?_)
  refine md_isT l (d + 7) ru ta rs I J _ _ eT (by omega) x (fun hx => ?_) (fun hx => ?_)
  · refine And.intro (fun _ => ?_) (fun z => absurd (show (1 : Int32) = 0 from z) (by decide))
    obtain ⟨b, hb, ex, ex2⟩ := vIn_t (by omega) hx
    have eS : ofS L A x y = ofT L A b y := by
      unfold ofS
      rw [hx, ex2]
      rfl
    subst ex
    refine rx_lays l (d + 8) ru ta rs I J _ (fun I1 f1 e1 => ?_)
    rw [hlay] at e1
    have fin : ∀ (v : Int32) (I' : XI) (J' : XJ), ofT L A b y = v → (∀ q, q ≠ 91 → I' q = I1 q) → Rp (some (.int v)) (shH ru ta rs) I' J' := fun v I' J' e f => by
      have z := hR I' J' (FMl.f (f1.tr (F93.n f)) (by rw [f 93 (by decide), e1]; exact hw)) (h0.n f1 e1 f)
      rw [eS, e] at z
      exact z
    have g68 : ∀ k, I1 68 k = I 68 k := fun k => congrFun (f1 68 (by decide) (by decide)) k
    refine And.intro (fun (z0 : y = nI 0) => ?_) (fun (z0 : ¬ y = nI 0) => ?_)
    · have e : I1 68 (10 + b) = nI (qH (oQ A) b) := (g68 _).trans (hre.1.1.2.2.2.1 b hb).1
      refine And.intro (show vp_in (nI 10 + nI b) 2200 from vx_2 (by omega) (by omega)) ?_
      have ib : (nI 10 + nI b).toNatClampNeg = 10 + b := ix_c (by omega)
      have z := fin _ I1 J (by unfold ofT; rw [sw_y z0]) (fun _ _ => rfl)
      rw [← e, ← ib] at z
      exact z
    refine And.intro (fun (z1 : y = nI 1) => ?_) (fun (z1 : ¬ y = nI 1) => ?_)
    · have e : I1 68 (18 + b) = nI (qK (oQ A) b) := (g68 _).trans (hre.1.1.2.2.2.1 b hb).2.1
      refine And.intro (show vp_in (nI 18 + nI b) 2200 from vx_2 (by omega) (by omega)) ?_
      have ib : (nI 18 + nI b).toNatClampNeg = 18 + b := ix_c (by omega)
      have z := fin _ I1 J (by unfold ofT; rw [sw_n z0, sw_y z1]) (fun _ _ => rfl)
      rw [← e, ← ib] at z
      exact z
    refine And.intro (fun (z2 : y = nI 2) => ?_) (fun (z2 : ¬ y = nI 2) => ?_)
    · have e : I1 68 (26 + b) = nI (qO (oQ A) b) := (g68 _).trans (hre.1.1.2.2.2.1 b hb).2.2
      refine And.intro (show vp_in (nI 26 + nI b) 2200 from vx_2 (by omega) (by omega)) ?_
      have ib : (nI 26 + nI b).toNatClampNeg = 26 + b := ix_c (by omega)
      have z := fin _ I1 J (by unfold ofT; rw [sw_n z0, sw_n z1, sw_y z2]) (fun _ _ => rfl)
      rw [← e, ← ib] at z
      exact z
    refine And.intro (fun (z3 : y = nI 3) => ?_) (fun (z3 : ¬ y = nI 3) => ?_)
    · have e : I1 93 (0 + b) = oW A b := by rw [e1, Nat.zero_add]
      refine And.intro (show vp_in (nI 0 + nI b) 69 from vx_2 (by omega) (by omega)) ?_
      have ib : (nI 0 + nI b).toNatClampNeg = 0 + b := ix_c (by omega)
      have z := fin _ I1 J (by unfold ofT; rw [sw_n z0, sw_n z1, sw_n z2, sw_y z3]) (fun _ _ => rfl)
      rw [← e, ← ib] at z
      exact z
    refine And.intro (fun (z4 : y = nI 4) => ?_) (fun (z4 : ¬ y = nI 4) => ?_)
    · refine ex_long l d ru ta rs I1 J _ (oQ A) L _ _ (h0.srm hw f1 e1) b hb (fun I2 J2 f2 => ?_)
      exact fin _ I2 J2 (by unfold ofT; rw [sw_n z0, sw_n z1, sw_n z2, sw_n z3, sw_y z4]; rfl) f2
    refine And.intro (fun (z5 : y = nI 5) => ?_) (fun (z5 : ¬ y = nI 5) => ?_)
    · refine ex_grows l d ru ta rs I1 J _ (oQ A) L _ _ (h0.srm hw f1 e1) b hb (fun I2 J2 f2 => ?_)
      exact fin _ I2 J2 (by unfold ofT; rw [sw_n z0, sw_n z1, sw_n z2, sw_n z3, sw_n z4, sw_y z5]; rfl) f2
    refine And.intro (fun (z6 : y = nI 6) => ?_) (fun (z6 : ¬ y = nI 6) => ?_)
    · refine ex_long l d ru ta rs I1 J _ (oQ A) L _ _ (h0.srm hw f1 e1) b hb (fun I2 J2 f2 => ?_)
      refine ex_may l d ru ta rs I2 J2 _ (oQ A) L _ _ ((h0.srm hw f1 e1).keep f2) b (lgR (oQ A) L (oW A) b) hb (lgR_le hq hw hb) (fun r I3 J3 er f3 => ?_)
      by_cases c : maR (oQ A) L (oW A) b (lgR (oQ A) L (oW A) b) = true
      · have er : r = 1 := er.trans (if_pos c)
        subst er
        refine And.intro (fun z => absurd (show (1 : Int32) = 0 from z) (by decide)) (fun _ => ?_)
        exact fin _ I3 J3 (by unfold ofT; rw [sw_n z0, sw_n z1, sw_n z2, sw_n z3, sw_n z4, sw_n z5, sw_y z6, if_pos c]; rfl) (fun q hq => (f3 q hq).trans (f2 q hq))
      · have er : r = 0 := er.trans (if_neg c)
        subst er
        refine And.intro (fun _ => ?_) (fun z => absurd rfl z)
        exact fin _ I3 J3 (by unfold ofT; rw [sw_n z0, sw_n z1, sw_n z2, sw_n z3, sw_n z4, sw_n z5, sw_y z6, if_neg c]; rfl) (fun q hq => (f3 q hq).trans (f2 q hq))
    exact fin _ I1 J (by unfold ofT; rw [sw_n z0, sw_n z1, sw_n z2, sw_n z3, sw_n z4, sw_n z5, sw_n z6]; rfl) (fun _ _ => rfl)
  · refine And.intro (fun z => absurd rfl z) (fun _ => ?_)
    exact none_ (by unfold ofS; rw [hx]; rfl)
set_option maxRecDepth 100000 in
set_option maxHeartbeats 4000000 in
theorem md_ofReaper (l : Launch) (d : Nat) (ru ta : Nat) (rs : List XO) (I : XI) (J : XJ) (Rp : XR) (L : Lws) (A : Ast) (hA : AOK A) (h : MA I L A) (x y : Int32) (hR : ∀ (I' : XI) (J' : XJ), FMl I I' → MA I' L A → Rp (some (.int (orS A x y))) (shH ru ta rs) I' J') : xm l (d + 3) 0 0 mX12_ofReaper [.ref 67, .int x, .int y] (shH ru ta rs) I J Rp := by
  have h0 := h
  obtain ⟨hre, hlay, hs⟩ := h
  obtain ⟨hq, hw, hn, hf⟩ := hA
  have t8 := hq.1
  have r4 := hq.2.1
  have b4 := hq.2.2.1
  have eT : I 68 0 = nI (qT (oQ A)) := hre.1.1.1
  have eR : I 68 1 = nI (qR (oQ A)) := hre.1.1.2.1
  have eB : I 68 2 = nI (qB (oQ A)) := hre.1.1.2.2.1
  have e88 : ∀ k, k < 12 → I 68 (88 + k) = oW A (28 + k) := fun k hk => by
    rw [← h0.w (k := 28 + k) (by omega), show 60 + (28 + k) = 88 + k by omega]
  have none_ : orS A x y = -1 → Rp (some (.int (-1))) (shH ru ta rs) I J := fun e => by
    have z := hR I J FMl.rf h0
    rw [e] at z
    exact z
  refine xm_ofK 0 (X := xxX12) (t := tX12_ofReaper) (stop := []) (ini := false) xx12 pl12 rfl kX12_ofReaper (fun h => by cases h) (Nat.le_of_ble_eq_true rfl) (fun K hK => ?_)
  refine md_isR l (d + 0) ru ta rs I J _ _ eR (by omega) x (fun hx => ?_) (fun hx => ?_)
  · refine And.intro (fun z => absurd (show (1 : Int32) = 0 from z) (by decide)) (fun _ => ?_)
    obtain ⟨b, hb, ex, ex2⟩ := vIn_t (by omega) hx
    have eS : orS A x y = orT A b y := by
      unfold orS
      rw [hx, ex2]
      rfl
    subst ex
    have fin : ∀ (v : Int32), orT A b y = v → Rp (some (.int v)) (shH ru ta rs) I J := fun v e => by
      have z := hR I J FMl.rf h0
      rw [eS, e] at z
      exact z
    refine md_inR l (d + 1) y 0 2 _ _ _ _ (fun hy => ?_) (fun hy => ?_)
    · refine And.intro (fun _ => ?_) (fun z => absurd (show (1 : Int32) = 0 from z) (by decide))
      obtain ⟨k, k1, k2, ey, _⟩ := rIn_t (by omega) (by omega) hy
      refine And.intro (fun (z0 : ¬ y = 0) => ?_) (fun (z0 : y = 0) => ?_)
      · have z0 : ¬ y = nI 0 := z0
        refine And.intro (fun (z1 : ¬ y = nI 1) => ?_) (fun (z1 : y = nI 1) => ?_)
        · have z2 : y = nI 2 := by
            have : k = 2 := by
              have a : k ≠ 0 := fun e => z0 (by rw [ey, e])
              have c : k ≠ 1 := fun e => z1 (by rw [ey, e])
              omega
            rw [ey, this]
          have e : I 68 (72 + b) = oW A (12 + b) := by
            rw [← h0.w (k := 12 + b) (by omega), show 60 + (12 + b) = 72 + b by omega]
          refine And.intro (show vp_in (nI 72 + nI b) 2200 from vx_2 (by omega) (by omega)) ?_
          have ib : (nI 72 + nI b).toNatClampNeg = 72 + b := ix_c (by omega)
          have z := fin _ (by unfold orT; rw [sw_n z0, sw_n z1, sw_y z2])
          rw [← e, ← ib] at z
          exact z
        · have e : I 68 (68 + b) = oW A (8 + b) := by
            rw [← h0.w (k := 8 + b) (by omega), show 60 + (8 + b) = 68 + b by omega]
          refine And.intro (show vp_in (nI 68 + nI b) 2200 from vx_2 (by omega) (by omega)) ?_
          have ib : (nI 68 + nI b).toNatClampNeg = 68 + b := ix_c (by omega)
          have z := fin _ (by unfold orT; rw [sw_n z0, sw_y z1])
          rw [← e, ← ib] at z
          exact z
      · have z0 : y = nI 0 := z0
        have e : I 68 (34 + b) = nI (qC (oQ A) b) := hre.1.1.2.2.2.2.1 b hb
        refine And.intro (show vp_in (nI 34 + nI b) 2200 from vx_2 (by omega) (by omega)) ?_
        have ib : (nI 34 + nI b).toNatClampNeg = 34 + b := ix_c (by omega)
        have z := fin _ (by unfold orT; rw [sw_y z0])
        rw [← e, ← ib] at z
        exact z
    · refine And.intro (fun z => absurd rfl z) (fun _ => ?_)
      have nk : ∀ k, k ≤ 2 → ¬ y = nI k := fun k hk e => by
        have := rIn_p.mpr (show nI 0 ≤ y ∧ y ≤ nI 2 from by rw [e]; exact ⟨(nle (by omega) (by omega)).mpr (by omega), (nle (by omega) (by omega)).mpr hk⟩)
        rw [hy] at this
        cases this
      exact fin _ (by unfold orT; rw [sw_n (nk 0 (by omega)), sw_n (nk 1 (by omega)), sw_n (nk 2 (by omega))]; rfl)
  · refine And.intro (fun _ => ?_) (fun z => absurd rfl z)
    exact none_ (by unfold orS; rw [hx]; rfl)
set_option maxRecDepth 100000 in
set_option maxHeartbeats 4000000 in
theorem md_bale (l : Launch) (d : Nat) (ru ta : Nat) (rs : List XO) (I : XI) (J : XJ) (Rp : XR) (L : Lws) (A : Ast) (hA : AOK A) (h : MA I L A) (x y : Int32) (hR : ∀ (I' : XI) (J' : XJ), FMl I I' → MA I' L A → Rp (some (.int (blS L A x y))) (shH ru ta rs) I' J') : xm l (d + 10) 0 0 mX12_bale [.ref 67, .int x, .int y] (shH ru ta rs) I J Rp := by
  have h0 := h
  obtain ⟨hre, hlay, hs⟩ := h
  obtain ⟨hq, hw, hn, hf⟩ := hA
  have t8 := hq.1
  have r4 := hq.2.1
  have b4 := hq.2.2.1
  have eT : I 68 0 = nI (qT (oQ A)) := hre.1.1.1
  have eR : I 68 1 = nI (qR (oQ A)) := hre.1.1.2.1
  have eB : I 68 2 = nI (qB (oQ A)) := hre.1.1.2.2.1
  have e88 : ∀ k, k < 12 → I 68 (88 + k) = oW A (28 + k) := fun k hk => by
    rw [← h0.w (k := 28 + k) (by omega), show 60 + (28 + k) = 88 + k by omega]
  have none_ : blS L A x y = -1 → Rp (some (.int (-1))) (shH ru ta rs) I J := fun e => by
    have z := hR I J FMl.rf h0
    rw [e] at z
    exact z
  refine xm_ofK 0 (X := xxX12) (t := tX12_bale) (stop := []) (ini := false) xx12 pl12 rfl kX12_bale (fun h => by cases h) (Nat.le_of_ble_eq_true rfl) (fun K hK => ?_)
  refine md_isBale l (d + 7) ru ta rs I J _ (oW A) e88 x (fun b hb ex hp => ?_) (fun hx => ?_)
  · refine And.intro (fun _ => ?_) (fun z => absurd (show (1 : Int32) = 0 from z) (by decide))
    have hx : vIn x 12 = true := by rw [ex]; exact vIn_n (by omega) hb
    have ex2 : x.toNatClampNeg = b := by rw [ex]; exact nI_clamp (by omega)
    have eS : blS L A x y = blT L A b y := by
      unfold blS
      rw [hx, ex2, decide_eq_true hp]
      rfl
    subst ex
    refine rx_lays l (d + 8) ru ta rs I J _ (fun I1 f1 e1 => ?_)
    rw [hlay] at e1
    have fin : ∀ (v : Int32) (I' : XI) (J' : XJ), blT L A b y = v → (∀ q, q ≠ 91 → I' q = I1 q) → Rp (some (.int v)) (shH ru ta rs) I' J' := fun v I' J' e f => by
      have z := hR I' J' (FMl.f (f1.tr (F93.n f)) (by rw [f 93 (by decide), e1]; exact hw)) (h0.n f1 e1 f)
      rw [eS, e] at z
      exact z
    have g68 : ∀ k, I1 68 k = I 68 k := fun k => congrFun (f1 68 (by decide) (by decide)) k
    refine And.intro (fun (z0 : y = nI 0) => ?_) (fun (z0 : ¬ y = nI 0) => ?_)
    · have e : I1 93 (16 + b) = oW A (16 + b) := by rw [e1]
      refine And.intro (show vp_in (nI 16 + nI b) 69 from vx_2 (by omega) (by omega)) ?_
      have ib : (nI 16 + nI b).toNatClampNeg = 16 + b := ix_c (by omega)
      have z := fin _ I1 J (by unfold blT; rw [sw_y z0]) (fun _ _ => rfl)
      rw [← e, ← ib] at z
      exact z
    refine And.intro (fun (z1 : y = nI 1) => ?_) (fun (z1 : ¬ y = nI 1) => ?_)
    · have e : I1 93 (28 + b) = oW A (28 + b) := by rw [e1]
      refine And.intro (show vp_in (nI 28 + nI b) 69 from vx_2 (by omega) (by omega)) ?_
      have ib : (nI 28 + nI b).toNatClampNeg = 28 + b := ix_c (by omega)
      have z := fin _ I1 J (by unfold blT; rw [sw_n z0, sw_y z1]) (fun _ _ => rfl)
      rw [← e, ← ib] at z
      exact z
    refine And.intro (fun (z2 : y = nI 2) => ?_) (fun (z2 : ¬ y = nI 2) => ?_)
    · have e : I1 93 (40 + b) = oW A (40 + b) := by rw [e1]
      refine And.intro (show vp_in (nI 40 + nI b) 69 from vx_2 (by omega) (by omega)) ?_
      have ib : (nI 40 + nI b).toNatClampNeg = 40 + b := ix_c (by omega)
      have z := fin _ I1 J (by unfold blT; rw [sw_n z0, sw_n z1, sw_y z2]) (fun _ _ => rfl)
      rw [← e, ← ib] at z
      exact z
    refine And.intro (fun (z3 : y = nI 3) => ?_) (fun (z3 : ¬ y = nI 3) => ?_)
    · have e : I1 93 (52 + b) = oW A (52 + b) := by rw [e1]
      refine And.intro (show vp_in (nI 52 + nI b) 69 from vx_2 (by omega) (by omega)) ?_
      have ib : (nI 52 + nI b).toNatClampNeg = 52 + b := ix_c (by omega)
      have z := fin _ I1 J (by unfold blT; rw [sw_n z0, sw_n z1, sw_n z2, sw_y z3]) (fun _ _ => rfl)
      rw [← e, ← ib] at z
      exact z
    refine And.intro (fun (z4 : y = nI 4) => ?_) (fun (z4 : ¬ y = nI 4) => ?_)
    · refine rx_spoils l d ru ta rs I1 J _ (oQ A) L (hre.keep f1) (by rw [e1]; exact hw) b hb (fun I2 J2 f2 => ?_)
      rw [e1]
      exact fin _ I2 J2 (by unfold blT; rw [sw_n z0, sw_n z1, sw_n z2, sw_n z3, sw_y z4]) f2
    refine And.intro (fun (z5 : y = nI 5) => ?_) (fun (z5 : ¬ y = nI 5) => ?_)
    · refine rx_sells l d ru ta rs I1 J _ (oQ A) L (hre.keep f1) (by rw [e1]; exact hw) b hb (fun I2 J2 f2 => ?_)
      rw [e1]
      exact fin _ I2 J2 (by unfold blT; rw [sw_n z0, sw_n z1, sw_n z2, sw_n z3, sw_n z4, sw_y z5]) f2
    exact fin _ I1 J (by unfold blT; rw [sw_n z0, sw_n z1, sw_n z2, sw_n z3, sw_n z4, sw_n z5]; rfl) (fun _ _ => rfl)
  · refine And.intro (fun z => absurd rfl z) (fun _ => ?_)
    exact none_ (by unfold blS; rw [hx]; rfl)
set_option maxRecDepth 100000 in
set_option maxHeartbeats 4000000 in
theorem md_ofBarn (l : Launch) (d : Nat) (ru ta : Nat) (rs : List XO) (I : XI) (J : XJ) (Rp : XR) (L : Lws) (A : Ast) (hA : AOK A) (h : MA I L A) (x y : Int32) (hR : ∀ (I' : XI) (J' : XJ), FMl I I' → MA I' L A → Rp (some (.int (obS A x y))) (shH ru ta rs) I' J') : xm l (d + 3) 0 0 mX12_ofBarn [.ref 67, .int x, .int y] (shH ru ta rs) I J Rp := by
  have h0 := h
  obtain ⟨hre, hlay, hs⟩ := h
  obtain ⟨hq, hw, hn, hf⟩ := hA
  have t8 := hq.1
  have r4 := hq.2.1
  have b4 := hq.2.2.1
  have eT : I 68 0 = nI (qT (oQ A)) := hre.1.1.1
  have eR : I 68 1 = nI (qR (oQ A)) := hre.1.1.2.1
  have eB : I 68 2 = nI (qB (oQ A)) := hre.1.1.2.2.1
  have e88 : ∀ k, k < 12 → I 68 (88 + k) = oW A (28 + k) := fun k hk => by
    rw [← h0.w (k := 28 + k) (by omega), show 60 + (28 + k) = 88 + k by omega]
  have none_ : obS A x y = -1 → Rp (some (.int (-1))) (shH ru ta rs) I J := fun e => by
    have z := hR I J FMl.rf h0
    rw [e] at z
    exact z
  refine xm_ofK 0 (X := xxX12) (t := tX12_ofBarn) (stop := []) (ini := false) xx12 pl12 rfl kX12_ofBarn (fun h => by cases h) (Nat.le_of_ble_eq_true rfl) (fun K hK => ?_)
  refine md_isB l (d + 0) ru ta rs I J _ _ eB (by omega) x (fun hx => ?_) (fun hx => ?_)
  · refine And.intro (fun z => absurd (show (1 : Int32) = 0 from z) (by decide)) (fun _ => ?_)
    obtain ⟨b, hb, ex, ex2⟩ := vIn_t (by omega) hx
    have eS : obS A x y = obT A b y := by
      unfold obS
      rw [hx, ex2]
      rfl
    subst ex
    refine md_inR l (d + 1) y 0 1 _ _ _ _ (fun hy => ?_) (fun hy => ?_)
    · refine And.intro (fun _ => ?_) (fun z => absurd (show (1 : Int32) = 0 from z) (by decide))
      obtain ⟨k, k1, k2, ey, _⟩ := rIn_t (by omega) (by omega) hy
      refine rx_lays l (d + 1) ru ta rs I J _ (fun I1 f1 e1 => ?_)
      rw [hlay] at e1
      have fin : ∀ (v : Int32) (I' : XI) (J' : XJ), obT A b y = v → (∀ q, q ≠ 91 → I' q = I1 q) → Rp (some (.int v)) (shH ru ta rs) I' J' := fun v I' J' e f => by
        have z := hR I' J' (FMl.f (f1.tr (F93.n f)) (by rw [f 93 (by decide), e1]; exact hw)) (h0.n f1 e1 f)
        rw [eS, e] at z
        exact z
      have g68 : ∀ k, I1 68 k = I 68 k := fun k => congrFun (f1 68 (by decide) (by decide)) k
      refine And.intro (fun (z0 : ¬ y = 0) => ?_) (fun (z0 : y = 0) => ?_)
      · have z0 : ¬ y = nI 0 := z0
        have z1 : y = nI 1 := by
          have : k = 1 := by
            have a : k ≠ 0 := fun e => z0 (by rw [ey, e])
            omega
          rw [ey, this]
        refine rx_feetIn l (d + 1) ru ta rs I1 J _ (nI b) ?_
        rw [e1]
        exact fin _ I1 J (by unfold obT; rw [sw_n z0, sw_y z1]) (fun _ _ => rfl)
      · have z0 : y = nI 0 := z0
        have e : I1 68 (38 + b) = nI (qM (oQ A) b) := (g68 _).trans (hre.1.1.2.2.2.2.2 b hb)
        refine And.intro (show vp_in (nI 38 + nI b) 2200 from vx_2 (by omega) (by omega)) ?_
        have ib : (nI 38 + nI b).toNatClampNeg = 38 + b := ix_c (by omega)
        have z := fin _ I1 J (by unfold obT; rw [sw_y z0]) (fun _ _ => rfl)
        rw [← e, ← ib] at z
        exact z
    · refine And.intro (fun z => absurd rfl z) (fun _ => ?_)
      have nk : ∀ k, k ≤ 1 → ¬ y = nI k := fun k hk e => by
        have := rIn_p.mpr (show nI 0 ≤ y ∧ y ≤ nI 1 from by rw [e]; exact ⟨(nle (by omega) (by omega)).mpr (by omega), (nle (by omega) (by omega)).mpr hk⟩)
        rw [hy] at this
        cases this
      have z := hR I J FMl.rf h0
      rw [eS, show obT A b y = -1 from by unfold obT; rw [sw_n (nk 0 (by omega)), sw_n (nk 1 (by omega))]; rfl] at z
      exact z
  · refine And.intro (fun _ => ?_) (fun z => absurd rfl z)
    exact none_ (by unfold obS; rw [hx]; rfl)
