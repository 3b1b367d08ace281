-- ===== the guess: 99g4.clsf =====
set_option maxRecDepth 100000 in
theorem cwg_draw (l : Launch) (d : Nat) (ru ta : Nat) (rs : List XO) (I : XI) (J : XJ) (Rp : XR) (T : Nat) (w : Rw) (hr : RC T w (I 29)) (hw : WR w) (v : Int32) (m : Nat) (e : v = nI m) (h0 : 0 < m) (hm : m < 1000) (hR : ∀ I' : XI, F24 29 I I' → RC T (dr w) (I' 29) → Rp (some (.int (nI (dN w m)))) (shH ru ta rs) I' J) : xm l (d + 1) 0 0 mX10_draw [.ref 28, .int v] (shH ru ta rs) I J Rp := by
  subst e
  have e68 : I 29 68 = w 68 := hr.hi (by decide) (by decide)
  refine xm_ofK 0 (X := xxX10) (t := tX10_draw) (stop := []) (ini := false) xx10 pl10 rfl kX10_draw (fun h => by cases h) (Nat.le_of_ble_eq_true rfl) (fun K hK => ?_)
  refine And.intro (fun z => absurd (show nI m ≤ 0 from z) (fun q => by have := (nle0 (by omega)).mp q; omega)) (fun _ => ?_)
  refine And.intro (show vp_in (nI 68) 69 from vp_b (by decide)) ?_
  refine And.intro (show ¬ (nI m = 0) from fun q => by have := (neq0 (by omega)).mp q; omega) ?_
  refine And.intro (show vp_in (nI 68) 69 from vp_b (by decide)) ?_
  refine And.intro (show ¬ (nI 30313 = 0) by decide) ?_
  refine And.intro (show vp_in (nI 68) 69 from vp_b (by decide)) ?_
  have fin := hR (uI I 29 68 (w 68 * nI 287 + nI 191 - (w 68 * nI 287 + nI 191) / nI 30313 * nI 30313)) F24.rf.u (by
    rw [uI_eq]
    exact hr.uk (by decide) _)
  have ed : drv w (nI m) = nI (dN w m) := (hw.dv h0 hm).1
  unfold drv at ed
  rw [← ed, ← e68] at fin
  exact fin
set_option maxRecDepth 100000 in
theorem cwg_hoursLeft (l : Launch) (d : Nat) (ru ta : Nat) (rs : List XO) (I : XI) (J : XJ) (Rp : XR) (T : Nat) (w : Rw) (hr : RC T w (I 29)) (hw : WR w) (hR : Rp (some (.int (nI (hlN w)))) (shH ru ta rs) I J) : xm l (d + 1) 0 0 mX10_hoursLeft [.ref 28] (shH ru ta rs) I J Rp := by
  have k := hl_c hw
  refine xm_ofK 0 (X := xxX10) (t := tX10_hoursLeft) (stop := []) (ini := false) xx10 pl10 rfl kX10_hoursLeft (fun h => by cases h) (Nat.le_of_ble_eq_true rfl) (fun K hK => ?_)
  refine And.intro (show vp_in (nI 65) 69 from vp_b (by decide)) ?_
  refine And.intro (show vp_in (nI 64) 69 from vp_b (by decide)) ?_
  rw [← k.2.2.2, ← k.2.2.1, ← hr.hi (k := 65) (by decide) (by decide), ← hr.hi (k := 64) (by decide) (by decide)] at hR
  exact hR

