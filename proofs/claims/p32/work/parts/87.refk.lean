-- ===== the reference: cuts, last cuts, uses, moves, sells =====
theorem MA.f {I I1 : XI} {L : Lws} {A : Ast} (h : MA I L A) (f : F93 I I1) (hl : ∀ k, ¬ k < 69 → I1 93 k = I 93 k) : MA I1 L A := by
  have e := f 68 (by decide) (by decide)
  refine ⟨h.1.keep f, ?_, h.2.2.c (congrFun e 5) (fun j _ _ => congrFun e j)⟩
  rw [← h.2.1]
  funext k
  unfold wLay
  by_cases c : k < 69
  · rw [if_pos c, if_pos c, e]
  · rw [if_neg c, if_neg c, hl k c]
theorem MA.f2 {I I1 I2 : XI} {L : Lws} {A : Ast} (h : MA I L A) (f : F93 I I1) (e1 : I1 93 = oW A) (g : F93 I1 I2) (e2 : I2 93 = I1 93) : MA I2 L A := h.f (f.tr g) (fun k hk => by rw [e2, e1]; exact (h.w93 hk).symm)
set_option maxRecDepth 100000 in
set_option maxHeartbeats 4000000 in
theorem md_cut (l : Launch) (d : Nat) (ru ta : Nat) (rs : List XO) (I : XI) (J : XJ) (Rp : XR) (L : Lws) (A : Ast) (hA : AOK A) (h : MA I L A) (x y z : Int32) (hR : ∀ (I' : XI) (J' : XJ), FMl I I' → MA I' L (cutS L A x y z).2 → Rp (some (.int (cutS L A x y z).1)) (shH ru ta rs) I' J') : xm l (d + 13) 0 0 mX12_cut [.ref 67, .int x, .int y, .int z] (shH ru ta rs) I J Rp := by
  have h0 := h
  obtain ⟨hre, hlay, hs⟩ := h
  have hA0 := hA
  obtain ⟨hq, hw, hn, hf⟩ := hA
  have t8 := hq.1
  have r4 := hq.2.1
  have b4 := hq.2.2.1
  have eT : I 68 0 = nI (qT (oQ A)) := hre.1.1.1
  have eR : I 68 1 = nI (qR (oQ A)) := hre.1.1.2.1
  have eB : I 68 2 = nI (qB (oQ A)) := hre.1.1.2.2.1
  have no : ∀ (I1 : XI) (J1 : XJ), FMl I I1 → MA I1 L A → cutS L A x y z = (-1, A) → Rp (some (.int (-1))) (shH ru ta rs) I1 J1 := fun I1 J1 f1 m1 e => by
    have z := hR I1 J1 f1 (by rw [e]; exact m1)
    rw [e] at z
    exact z
  refine xm_ofK 0 (X := xxX12) (t := tX12_cut) (stop := []) (ini := false) xx12 pl12 rfl kX12_cut (fun h => by cases h) (Nat.le_of_ble_eq_true rfl) (fun K hK => ?_)
  refine md_isT l (d + 10) ru ta rs I J _ _ eT (by omega) x (fun hx => ?_) (fun hx => ?_)
  · refine And.intro (fun z => absurd (show (1 : Int32) = 0 from z) (by decide)) (fun _ => ?_)
    refine md_isR l (d + 10) ru ta rs I J _ _ eR (by omega) y (fun hy => ?_) (fun hy => ?_)
    · refine And.intro (fun z => absurd (show (1 : Int32) = 0 from z) (by decide)) (fun _ => ?_)
      refine md_isB l (d + 10) ru ta rs I J _ _ eB (by omega) z (fun hz => ?_) (fun hz => ?_)
      · refine And.intro (fun _ => ?_) (fun z => absurd (show (1 : Int32) = 0 from z) (by decide))
        obtain ⟨t, ht, ex, ex2⟩ := vIn_t (by omega) hx
        obtain ⟨r, hr, ey, ey2⟩ := vIn_t (by omega) hy
        obtain ⟨b, hb, ez, ez2⟩ := vIn_t (by omega) hz
        refine rx_lays l (d + 11) ru ta rs I J _ (fun I1 f1 e1 => ?_)
        rw [hlay] at e1
        have fb := frB_le (oW A)
        subst ex ey ez
        refine rx_cuts l d ru ta rs I1 J _ (oQ A) L (hre.keep f1) (by rw [e1]; exact hw) t r b ht hr hb (fun I2 J2 f2 e2 => ?_)
        rw [e1] at e2 ⊢
        cases hok : cuOK (oQ A) L (oW A) t r b with
        | true =>
          have hfb : ¬ frB (oW A) = 12 := (cuOK_el hok).2.2.2.2.1
          have eS : cutS L A (nI t) (nI r) (nI b) = (nI (frB (oW A)), stp A (cuW (oQ A) L (oW A) t r b)) := by
            unfold cutS
            rw [ex2, ey2, ez2, hx, hy, hz, hok]
            rfl
          have eBv : bI (cuB (oQ A) L (oW A) t r b) = nI (frB (oW A)) := by
            unfold cuB
            rw [hok, if_pos rfl]
            exact bI_b (by omega)
          have eRv : cuR (oQ A) L (oW A) t r b = cuW (oQ A) L (oW A) t r b := by
            unfold cuR
            rw [hok, if_pos rfl]
          rw [eRv] at e2
          rw [eBv]
          refine And.intro (fun z => absurd (show nI (frB (oW A)) = -1 from z) (nI_ne1 (by omega))) (fun _ => ?_)
          refine md_kstep l (d + 11) ru ta rs I J2 _ L A h0 I2 (f1.tr f2) (fun I3 k3 e3 => ?_)
          refine md_keeps l (d + 11) ru ta rs I J2 _ L A h0 (cuW (oQ A) L (oW A) t r b) (hw.cW hq ht hr hb hok) I3 k3 (e3.trans e2) (fun I4 f4 m4 _ => ?_)
          have z := hR I4 J2 f4 (by rw [eS]; exact m4)
          rw [eS] at z
          exact z
        | false =>
          have eS : cutS L A (nI t) (nI r) (nI b) = (-1, A) := by
            unfold cutS
            rw [ex2, ey2, ez2, hok, Bool.and_false]
            rfl
          have eBv : bI (cuB (oQ A) L (oW A) t r b) = -1 := by
            unfold cuB
            rw [hok]
            rfl
          have eRv : cuR (oQ A) L (oW A) t r b = oW A := by
            unfold cuR
            rw [hok]
            rfl
          rw [eRv] at e2
          rw [eBv]
          refine And.intro (fun _ => ?_) (fun z => absurd rfl z)
          exact no I2 J2 (FMl.f (f1.tr f2) (by rw [e2]; exact hw)) (h0.f2 f1 e1 f2 (e2.trans e1.symm)) eS
      · refine And.intro (fun z => absurd rfl z) (fun _ => ?_)
        exact no I J FMl.rf h0 (by unfold cutS; rw [hz, Bool.and_false, Bool.false_and]; rfl)
    · refine And.intro (fun _ => ?_) (fun z => absurd rfl z)
      exact no I J FMl.rf h0 (by unfold cutS; rw [hy, Bool.and_false, Bool.false_and, Bool.false_and]; rfl)
  · refine And.intro (fun _ => ?_) (fun z => absurd rfl z)
    exact no I J FMl.rf h0 (by unfold cutS; rw [hx, Bool.false_and, Bool.false_and, Bool.false_and]; rfl)
set_option maxRecDepth 100000 in
set_option maxHeartbeats 4000000 in
theorem md_last (l : Launch) (d : Nat) (ru ta : Nat) (rs : List XO) (I : XI) (J : XJ) (Rp : XR) (L : Lws) (A : Ast) (hA : AOK A) (h : MA I L A) (x y : Int32) (hR : ∀ (I' : XI) (J' : XJ), FMl I I' → MA I' L (lastS A x y).2 → Rp (some (.int (lastS A x y).1)) (shH ru ta rs) I' J') : xm l (d + 4) 0 0 mX12_last [.ref 67, .int x, .int y] (shH ru ta rs) I J Rp := by
  have h0 := h
  obtain ⟨hre, hlay, hs⟩ := h
  have hA0 := hA
  obtain ⟨hq, hw, hn, hf⟩ := hA
  have t8 := hq.1
  have r4 := hq.2.1
  have b4 := hq.2.2.1
  have eT : I 68 0 = nI (qT (oQ A)) := hre.1.1.1
  have eR : I 68 1 = nI (qR (oQ A)) := hre.1.1.2.1
  have eB : I 68 2 = nI (qB (oQ A)) := hre.1.1.2.2.1
  have no : ∀ (I1 : XI) (J1 : XJ), FMl I I1 → MA I1 L A → lastS A x y = (-1, A) → Rp (some (.int (-1))) (shH ru ta rs) I1 J1 := fun I1 J1 f1 m1 e => by
    have z := hR I1 J1 f1 (by rw [e]; exact m1)
    rw [e] at z
    exact z
  refine xm_ofK 0 (X := xxX12) (t := tX12_last) (stop := []) (ini := false) xx12 pl12 rfl kX12_last (fun h => by cases h) (Nat.le_of_ble_eq_true rfl) (fun K hK => ?_)
  refine md_isR l (d + 1) ru ta rs I J _ _ eR (by omega) x (fun hx => ?_) (fun hx => ?_)
  · refine And.intro (fun z => absurd (show (1 : Int32) = 0 from z) (by decide)) (fun _ => ?_)
    refine md_isB l (d + 1) ru ta rs I J _ _ eB (by omega) y (fun hy => ?_) (fun hy => ?_)
    · refine And.intro (fun _ => ?_) (fun z => absurd (show (1 : Int32) = 0 from z) (by decide))
      obtain ⟨r, hr, ex, ex2⟩ := vIn_t (by omega) hx
      obtain ⟨b, hb, ey, ey2⟩ := vIn_t (by omega) hy
      refine rx_lays l (d + 2) ru ta rs I J _ (fun I1 f1 e1 => ?_)
      rw [hlay] at e1
      have g68 : I1 68 = I 68 := f1 68 (by decide) (by decide)
      have hre1 := hre.keep f1
      have eC : I1 68 (34 + r) = nI (qC (oQ A) r) := hre1.1.1.2.2.2.2.1 r hr
      have fb := frB_le (oW A)
      subst ex ey
      have i8 : (nI 8 + nI r).toNatClampNeg = 8 + r := ix_c (by omega)
      have i34 : (nI 34 + nI r).toNatClampNeg = 34 + r := ix_c (by omega)
      have noS : laOK (oQ A) (oW A) r b = false → Rp (some (.int (-1))) (shH ru ta rs) I1 J := fun e => by
        refine no I1 J (FMl.f f1 (by rw [e1]; exact hw)) (h0.f2 f1 e1 F93.rf rfl) ?_
        unfold lastS
        rw [ex2, ey2, e, Bool.and_false]
        rfl
      refine rx_free l (d + 2) ru ta rs I1 J _ ?_
      rw [e1]
      refine And.intro (show vp_in (nI 8 + nI r) 69 from vx_2 (by omega) (by omega)) ?_
      refine And.intro (fun (a : I1 93 (nI 8 + nI r).toNatClampNeg = nI 1) => ?_) (fun (a : ¬ I1 93 (nI 8 + nI r).toNatClampNeg = nI 1) => ?_)
      · rw [i8, e1] at a
        refine noS ?_
        unfold laOK
        rw [decide_eq_true a]
        rfl
      · rw [i8, e1] at a
        refine And.intro (fun (c : bI (frB (oW A)) = -1) => ?_) (fun (c : ¬ bI (frB (oW A)) = -1) => ?_)
        · rw [bI_n fb] at c
          refine noS ?_
          unfold laOK
          rw [decide_eq_true c]
          simp
        · have c : ¬ frB (oW A) = 12 := fun q => c ((bI_n fb).mpr q)
          have eb : bI (frB (oW A)) = nI (frB (oW A)) := bI_b (by omega)
          refine And.intro (show vp_in (nI 34 + nI r) 2200 from vx_2 (by omega) (by omega)) ?_
          refine rx_isRoom l (d + 1) ru ta rs I1 J _ (oQ A) hre1.1.1 b hb b4 (I1 68 (nI 34 + nI r).toNatClampNeg) (fun g => ?_) (fun g => ?_)
          · rw [i34, eC, e1] at g
            have hok : laOK (oQ A) (oW A) r b = true := by
              unfold laOK
              rw [decide_eq_false a, decide_eq_false c, g]
              rfl
            refine And.intro (fun _ => ?_) (fun z => absurd (show (1 : Int32) = 0 from z) (by decide))
            have eS : lastS A (nI r) (nI b) = (nI (frB (oW A)), stp A (laW (oQ A) (oW A) r b)) := by
              unfold lastS
              rw [ex2, ey2, hx, hy, hok]
              rfl
            refine md_kstep l (d + 2) ru ta rs I J _ L A h0 I1 f1 (fun I2 k2 e2 => ?_)
            have eC2 : I2 68 (34 + r) = nI (qC (oQ A) r) := (k2.re hre).1.1.2.2.2.2.1 r hr
            refine And.intro (show vp_in (nI 34 + nI r) 2200 from vx_2 (by omega) (by omega)) ?_
            refine rx_balesV l (d + 2) ru ta rs I2 J _ _ (frB (oW A)) eb (by omega) (nI 5) (I2 68 (nI 34 + nI r).toNatClampNeg) (nI b) (fun I3 f3 e3 => ?_)
            rw [i34, eC2, e2, e1] at e3
            refine And.intro (show vp_in (nI 8 + nI r) 69 from vx_2 (by omega) (by omega)) ?_
            refine md_keeps l (d + 2) ru ta rs I J _ L A h0 (laW (oQ A) (oW A) r b) (hw.la hq hr hb hok) (uI I3 93 (nI 8 + nI r).toNatClampNeg (nI 1)) ((k2.f f3).f F93.rf.u) (by rw [uI_eq, i8, e3]; rfl) (fun I4 f4 m4 _ => ?_)
            rw [eb]
            have z := hR I4 J f4 (by rw [eS]; exact m4)
            rw [eS] at z
            exact z
          · rw [i34, eC, e1] at g
            refine And.intro (fun z => absurd rfl z) (fun _ => ?_)
            refine noS ?_
            unfold laOK
            rw [g, Bool.and_false]
    · refine And.intro (fun z => absurd rfl z) (fun _ => ?_)
      exact no I J FMl.rf h0 (by unfold lastS; rw [hy, Bool.and_false, Bool.false_and]; rfl)
  · refine And.intro (fun _ => ?_) (fun z => absurd rfl z)
    exact no I J FMl.rf h0 (by unfold lastS; rw [hx, Bool.false_and, Bool.false_and]; rfl)
set_option maxRecDepth 100000 in
set_option maxHeartbeats 4000000 in
theorem md_use (l : Launch) (d : Nat) (ru ta : Nat) (rs : List XO) (I : XI) (J : XJ) (Rp : XR) (L : Lws) (A : Ast) (hA : AOK A) (h : MA I L A) (x y : Int32) (hR : ∀ (I' : XI) (J' : XJ), FMl I I' → MA I' L (useS A x y).2 → Rp (some (.int (useS A x y).1)) (shH ru ta rs) I' J') : xm l (d + 4) 0 0 mX12_use [.ref 67, .int x, .int y] (shH ru ta rs) I J Rp := by
  have h0 := h
  obtain ⟨hre, hlay, hs⟩ := h
  have hA0 := hA
  obtain ⟨hq, hw, hn, hf⟩ := hA
  have t8 := hq.1
  have r4 := hq.2.1
  have b4 := hq.2.2.1
  have eT : I 68 0 = nI (qT (oQ A)) := hre.1.1.1
  have eR : I 68 1 = nI (qR (oQ A)) := hre.1.1.2.1
  have eB : I 68 2 = nI (qB (oQ A)) := hre.1.1.2.2.1
  have no : ∀ (I1 : XI) (J1 : XJ), FMl I I1 → MA I1 L A → useS A x y = (-1, A) → Rp (some (.int (-1))) (shH ru ta rs) I1 J1 := fun I1 J1 f1 m1 e => by
    have z := hR I1 J1 f1 (by rw [e]; exact m1)
    rw [e] at z
    exact z
  refine xm_ofK 0 (X := xxX12) (t := tX12_use) (stop := []) (ini := false) xx12 pl12 rfl kX12_use (fun h => by cases h) (Nat.le_of_ble_eq_true rfl) (fun K hK => ?_)
  refine md_inR l (d + 2) x 1 999 _ _ _ _ (fun hx => ?_) (fun hx => ?_)
  · refine And.intro (fun z => absurd (show (1 : Int32) = 0 from z) (by decide)) (fun _ => ?_)
    refine md_isB l (d + 1) ru ta rs I J _ _ eB (by omega) y (fun hy => ?_) (fun hy => ?_)
    · refine And.intro (fun _ => ?_) (fun z => absurd (show (1 : Int32) = 0 from z) (by decide))
      obtain ⟨k, k1, k2, ex, ex2⟩ := rIn_t (by omega) (by omega) hx
      obtain ⟨b, hb, ey, ey2⟩ := vIn_t (by omega) hy
      have ny : ¬ y = -1 := by rw [ey]; exact nI_ne1 (by omega)
      have hsm := sm_le hw y
      refine rx_lays l (d + 2) ru ta rs I J _ (fun I1 f1 e1 => ?_)
      rw [hlay] at e1
      refine rx_feetIn l (d + 2) ru ta rs I1 J _ y ?_
      rw [e1, feR_n hw ny 12 (by omega), ex]
      refine And.intro (fun (z : nI k ≤ nI (smF (fjN (oW A) y) 12)) => ?_) (fun (z : ¬ nI k ≤ nI (smF (fjN (oW A) y) 12)) => ?_)
      · have hle := (nle (by omega) (by omega)).mp z
        have eS : useS A x y = (feR (usN y 12 (oW A) x) y 12, stp A (usN y 12 (oW A) x)) := by
          unfold useS
          rw [hx, hy, ex2, decide_eq_true hle]
          rfl
        rw [ex] at eS
        refine md_kstep l (d + 2) ru ta rs I J _ L A h0 I1 f1 (fun I2 k2' e2 => ?_)
        refine rx_uses l d ru ta rs I2 J _ (nI k) y (by rw [e2, e1]; exact us_12 hw hle) (fun I3 f3 e3 => ?_)
        rw [e2, e1] at e3
        refine md_keeps l (d + 2) ru ta rs I J _ L A h0 (usN y 12 (oW A) (nI k)) (WR.us 12 (oW A) k (by omega) hw (us_12 hw hle)) I3 (k2'.f f3) e3 (fun I4 f4 m4 e4 => ?_)
        refine rx_feetIn l (d + 2) ru ta rs I4 J _ y ?_
        rw [e4]
        rw [ex] at hR
        have z := hR I4 J f4 (by rw [eS]; exact m4)
        rw [eS] at z
        exact z
      · have hle : ¬ k ≤ smF (fjN (oW A) y) 12 := fun q => z ((nle (by omega) (by omega)).mpr q)
        refine no I1 J (FMl.f f1 (by rw [e1]; exact hw)) (h0.f2 f1 e1 F93.rf rfl) ?_
        unfold useS
        rw [ex2, decide_eq_false hle, Bool.and_false]
        rfl
    · refine And.intro (fun z => absurd rfl z) (fun _ => ?_)
      exact no I J FMl.rf h0 (by unfold useS; rw [hy, Bool.and_false, Bool.false_and]; rfl)
  · refine And.intro (fun _ => ?_) (fun z => absurd rfl z)
    exact no I J FMl.rf h0 (by unfold useS; rw [hx, Bool.false_and, Bool.false_and]; rfl)
set_option maxRecDepth 100000 in
set_option maxHeartbeats 4000000 in
theorem md_move (l : Launch) (d : Nat) (ru ta : Nat) (rs : List XO) (I : XI) (J : XJ) (Rp : XR) (L : Lws) (A : Ast) (hA : AOK A) (h : MA I L A) (x y : Int32) (hR : ∀ (I' : XI) (J' : XJ), FMl I I' → MA I' L (moveS A x y).2 → Rp (some (.int (moveS A x y).1)) (shH ru ta rs) I' J') : xm l (d + 4) 0 0 mX12_move [.ref 67, .int x, .int y] (shH ru ta rs) I J Rp := by
  have h0 := h
  obtain ⟨hre, hlay, hs⟩ := h
  have hA0 := hA
  obtain ⟨hq, hw, hn, hf⟩ := hA
  have t8 := hq.1
  have r4 := hq.2.1
  have b4 := hq.2.2.1
  have eT : I 68 0 = nI (qT (oQ A)) := hre.1.1.1
  have eR : I 68 1 = nI (qR (oQ A)) := hre.1.1.2.1
  have eB : I 68 2 = nI (qB (oQ A)) := hre.1.1.2.2.1
  have e88 : ∀ k, k < 12 → I 68 (88 + k) = oW A (28 + k) := fun k hk => by
    rw [← h0.w (k := 28 + k) (by omega), show 60 + (28 + k) = 88 + k by omega]
  have no : ∀ (I1 : XI) (J1 : XJ), FMl I I1 → MA I1 L A → moveS A x y = (0, A) → Rp (some (.int (0))) (shH ru ta rs) I1 J1 := fun I1 J1 f1 m1 e => by
    have z := hR I1 J1 f1 (by rw [e]; exact m1)
    rw [e] at z
    exact z
  refine xm_ofK 0 (X := xxX12) (t := tX12_move) (stop := []) (ini := false) xx12 pl12 rfl kX12_move (fun h => by cases h) (Nat.le_of_ble_eq_true rfl) (fun K hK => ?_)
  refine md_isBale l (d + 1) ru ta rs I J _ (oW A) e88 x (fun b hb ex h28 => ?_) (fun hx => ?_)
  · refine And.intro (fun z => absurd (show (1 : Int32) = 0 from z) (by decide)) (fun _ => ?_)
    have hx : vIn x 12 = true := by rw [ex]; exact vIn_n (by omega) hb
    have ex2 : x.toNatClampNeg = b := by rw [ex]; exact nI_clamp (by omega)
    refine md_isB l (d + 1) ru ta rs I J _ _ eB (by omega) y (fun hy => ?_) (fun hy => ?_)
    · refine And.intro (fun z => absurd (show (1 : Int32) = 0 from z) (by decide)) (fun _ => ?_)
      obtain ⟨n, hn', ey, ey2⟩ := vIn_t (by omega) hy
      subst ex
      have i112 : (nI 112 + nI b).toNatClampNeg = 60 + (52 + b) := by rw [ix_c (by omega)]; omega
      have i28 : (nI 28 + nI b).toNatClampNeg = 28 + b := ix_c (by omega)
      have v112 : vp_in (nI 112 + nI b) 2200 := vx_2 (by omega) (by omega)
      refine And.intro v112 ?_
      refine And.intro (fun (c : ¬ I 68 (nI 112 + nI b).toNatClampNeg = y) => ?_) (fun (c : I 68 (nI 112 + nI b).toNatClampNeg = y) => ?_)
      · rw [i112, h0.w (by omega), ey] at c
        refine rx_lays l (d + 2) ru ta rs I J _ (fun I1 f1 e1 => ?_)
        rw [hlay] at e1
        have hre1 := hre.keep f1
        refine And.intro (show vp_in (nI 28 + nI b) 69 from vx_2 (by omega) (by omega)) ?_
        rw [ey]
        refine rx_isRoom l (d + 1) ru ta rs I1 J _ (oQ A) hre1.1.1 n hn' b4 (I1 93 (nI 28 + nI b).toNatClampNeg) (fun g => ?_) (fun g => ?_)
        · rw [i28, e1] at g
          have hok : mvOK (oQ A) (oW A) b n = true := by
            unfold mvOK
            rw [decide_eq_true h28, decide_eq_false c, g]
            rfl
          have eS : moveS A (nI b) y = (1, stp A (upd (oW A) (52 + b) y)) := by
            unfold moveS
            rw [hx, hy, ex2, ey2, hok]
            rfl
          rw [ey] at eS
          refine And.intro (fun _ => ?_) (fun z => absurd (show (1 : Int32) = 0 from z) (by decide))
          refine md_kstep l (d + 2) ru ta rs I J _ L A h0 I1 f1 (fun I2 k2 e2 => ?_)
          refine And.intro v112 ?_
          refine And.intro (Or.inr rfl) ?_
          rw [ey] at hR
          have z := hR (uI I2 68 (nI 112 + nI b).toNatClampNeg (nI n)) J ⟨fun q a b' c' => (uI_ne a).trans (k2.1 q a b' c'), fun j hj => by
            rw [i112, uI_eq, upd_n (by omega)]
            exact k2.2.1 j (by omega) (by omega), fun r => ⟨fun j => by
              rw [i112, uI_eq]
              by_cases ej : j = 60 + (52 + b)
              · rw [ej]
                rcases cells_w.2 (52 + b) (by omega) with c | c
                · omega
                · rw [c]
                  exact inI_fr _
              · rw [upd_n ej]
                exact k2.2.2.2 r.1 j, fun j => by rw [uI_ne (by decide), e2, e1]; exact hw.r93 j⟩⟩ (by
            rw [eS, i112]
            refine ⟨hre.cells (fun q a b' c' => (uI_ne a).trans (k2.1 q a b' c')) (fun j hj h5 => by rw [uI_eq, upd_n (by omega)]; exact k2.2.1 j (by omega) h5), ?_, k2.2.2.1.c (by rw [uI_eq, upd_n (by omega)]) (fun j a _ => by rw [uI_eq, upd_n (by omega)])⟩
            funext j
            show wLay _ j = upd (oW A) (52 + b) (nI n) j
            unfold wLay
            by_cases cj : j < 69
            · rw [if_pos cj, uI_eq]
              by_cases ej : j = 52 + b
              · subst ej
                rw [upd_s, upd_s]
              · rw [upd_n (by omega), upd_n ej, k2.2.1 _ (by omega) (by omega)]
                exact h0.w cj
            · rw [if_neg cj, uI_ne (by decide), upd_n (by omega), e2, e1])
          rw [eS] at z
          exact z
        · rw [i28, e1] at g
          refine And.intro (fun z => absurd rfl z) (fun _ => ?_)
          refine And.intro (Or.inl rfl) ?_
          refine no I1 J (FMl.f f1 (by rw [e1]; exact hw)) (h0.f2 f1 e1 F93.rf rfl) ?_
          unfold moveS
          rw [ex2, ey2, show mvOK (oQ A) (oW A) b n = false from by unfold mvOK; rw [g, Bool.and_false], Bool.and_false]
          rfl
      · rw [i112, h0.w (by omega), ey] at c
        refine And.intro (Or.inl rfl) ?_
        refine no I J FMl.rf h0 ?_
        unfold moveS
        rw [ex2, ey2, show mvOK (oQ A) (oW A) b n = false from by unfold mvOK; rw [decide_eq_true c]; simp, Bool.and_false]
        rfl
    · refine And.intro (fun _ => ?_) (fun z => absurd rfl z)
      refine And.intro (Or.inl rfl) ?_
      exact no I J FMl.rf h0 (by unfold moveS; rw [hy, Bool.and_false, Bool.false_and]; rfl)
  · refine And.intro (fun _ => ?_) (fun z => absurd rfl z)
    refine And.intro (Or.inl rfl) ?_
    refine no I J FMl.rf h0 ?_
    unfold moveS
    cases hv : vIn x 12 with
    | false => rfl
    | true =>
      rw [hv, Bool.true_and, decide_eq_false_iff_not] at hx
      unfold mvOK
      rw [decide_eq_false hx, Bool.false_and, Bool.false_and, Bool.and_false]
      rfl
set_option maxRecDepth 100000 in
set_option maxHeartbeats 4000000 in
theorem md_sell (l : Launch) (d : Nat) (ru ta : Nat) (rs : List XO) (I : XI) (J : XJ) (Rp : XR) (L : Lws) (A : Ast) (hA : AOK A) (h : MA I L A) (x : Int32) (hR : ∀ (I' : XI) (J' : XJ), FMl I I' → MA I' L (sellS L A x).2 → Rp (some (.int (sellS L A x).1)) (shH ru ta rs) I' J') : xm l (d + 11) 0 0 mX12_sell [.ref 67, .int x] (shH ru ta rs) I J Rp := by
  have h0 := h
  obtain ⟨hre, hlay, hs⟩ := h
  have hA0 := hA
  obtain ⟨hq, hw, hn, hf⟩ := hA
  have t8 := hq.1
  have r4 := hq.2.1
  have b4 := hq.2.2.1
  have eT : I 68 0 = nI (qT (oQ A)) := hre.1.1.1
  have eR : I 68 1 = nI (qR (oQ A)) := hre.1.1.2.1
  have eB : I 68 2 = nI (qB (oQ A)) := hre.1.1.2.2.1
  have e88 : ∀ k, k < 12 → I 68 (88 + k) = oW A (28 + k) := fun k hk => by
    rw [← h0.w (k := 28 + k) (by omega), show 60 + (28 + k) = 88 + k by omega]
  have no : ∀ (I1 : XI) (J1 : XJ), FMl I I1 → MA I1 L A → sellS L A x = (-1, A) → Rp (some (.int (-1))) (shH ru ta rs) I1 J1 := fun I1 J1 f1 m1 e => by
    have z := hR I1 J1 f1 (by rw [e]; exact m1)
    rw [e] at z
    exact z
  refine xm_ofK 0 (X := xxX12) (t := tX12_sell) (stop := []) (ini := false) xx12 pl12 rfl kX12_sell (fun h => by cases h) (Nat.le_of_ble_eq_true rfl) (fun K hK => ?_)
  refine md_isBale l (d + 8) ru ta rs I J _ (oW A) e88 x (fun b hb ex h28 => ?_) (fun hx => ?_)
  · refine And.intro (fun _ => ?_) (fun z => absurd (show (1 : Int32) = 0 from z) (by decide))
    subst ex
    have eS : sellS L A (nI b) = (nI (seR L (oW A) b), stp A (seW L (oW A) b)) := by
      unfold sellS
      rw [nI_clamp (by omega), vIn_n (by omega) hb, decide_eq_true h28]
      rfl
    refine md_kstep l (d + 9) ru ta rs I J _ L A h0 I F93.rf (fun I1 k1 e1 => ?_)
    refine rx_lays l (d + 9) ru ta rs I1 J _ (fun I2 f2 e2 => ?_)
    rw [k1.lay h0 e1] at e2
    refine rx_sellsN l d ru ta rs I2 J _ (oQ A) L ((k1.f f2).re hre) (by rw [e2]; exact hw) b hb (fun I3 J3 f3 e3 => ?_)
    rw [e2] at e3
    refine md_keeps l (d + 9) ru ta rs I J3 _ L A h0 _ (hw.se hb) I3 ((k1.f f2).f f3) e3 (fun I4 f4 m4 e4 => ?_)
    rw [e2]
    have z := hR I4 J3 f4 (by rw [eS]; exact m4)
    rw [eS] at z
    exact z
  · refine And.intro (fun z => absurd rfl z) (fun _ => ?_)
    refine no I J FMl.rf h0 ?_
    unfold sellS
    rw [hx]
    rfl
