set_option maxRecDepth 100000 in
set_option maxHeartbeats 4000000 in
theorem rx_hourP (l : Launch) (d : Nat) (ru ta : Nat) (rs : List XO) (I : XI) (J : XJ) (Rp : XR) (Q : Tld) (L : Lws) (h : RE I Q L) (hwd : I 93 64 + nI 1 = nI 10 → WR (dw0 (hr0 (I 93)))) (hR : ∀ (I' : XI) (J' : XJ), F93 I I' → I' 93 = hrR Q L (I 93) → Rp none (shH ru ta rs) I' J') : xm l (d + 12) 0 0 mX12_hourPasses [.ref 67] (shH ru ta rs) I J Rp := by
  refine xm_ofK 0 (X := xxX12) (t := tX12_hourPasses) (stop := []) (ini := false) xx12 pl12 rfl kX12_hourPasses (fun h => by cases h) (Nat.le_of_ble_eq_true rfl) (fun K hK => ?_)
  refine And.intro (show vp_in (nI 64) 69 from vp_b (by decide)) ?_
  refine And.intro (show vp_in (nI 64) 69 from vp_b (by decide)) ?_
  refine And.intro (fun z => absurd (show nI 4 ≤ nI 0 from z) (by decide)) (fun _ => ?_)
  refine And.intro (show vp_in ((nI 12) + (nI 0)) 69 from vp_b (by decide)) ?_
  refine And.intro (fun z => absurd (show nI 4 ≤ (nI 0) + 1 from z) (by decide)) (fun _ => ?_)
  refine And.intro (show vp_in ((nI 12) + ((nI 0) + 1)) 69 from vp_b (by decide)) ?_
  refine And.intro (fun z => absurd (show nI 4 ≤ ((nI 0) + 1) + 1 from z) (by decide)) (fun _ => ?_)
  refine And.intro (show vp_in ((nI 12) + (((nI 0) + 1) + 1)) 69 from vp_b (by decide)) ?_
  refine And.intro (fun z => absurd (show nI 4 ≤ (((nI 0) + 1) + 1) + 1 from z) (by decide)) (fun _ => ?_)
  refine And.intro (show vp_in ((nI 12) + ((((nI 0) + 1) + 1) + 1)) 69 from vp_b (by decide)) ?_
  refine And.intro (fun _ => ?_) (fun z => absurd (show nI 4 ≤ ((((nI 0) + 1) + 1) + 1) + 1 from by decide) z)
  refine And.intro (show vp_in (nI 64) 69 from vp_b (by decide)) ?_
  refine And.intro (fun (h41 : ¬ ((I 93 64) + (nI 1) = nI 10)) => ?_) (fun (h41 : (I 93 64) + (nI 1) = nI 10) => ?_)
  · refine hR (uI (uI (uI (uI (uI I 93 64 ((I 93 64) + (nI 1))) 93 12 (nI 0)) 93 13 (nI 0)) 93 14 (nI 0)) 93 15 (nI 0)) J F93.rf.u.u.u.u.u ?_
    rw [uI_eq, uI_eq, uI_eq, uI_eq, uI_eq]
    unfold hrR
    rw [if_neg h41]
    rfl
  · have e1 : (uI (uI (uI (uI (uI I 93 64 ((I 93 64) + (nI 1))) 93 12 (nI 0)) 93 13 (nI 0)) 93 14 (nI 0)) 93 15 (nI 0)) 93 = hr0 (I 93) := by
      rw [uI_eq, uI_eq, uI_eq, uI_eq, uI_eq]
      rfl
    refine rx_dayB l d ru ta rs (uI (uI (uI (uI (uI I 93 64 ((I 93 64) + (nI 1))) 93 12 (nI 0)) 93 13 (nI 0)) 93 14 (nI 0)) 93 15 (nI 0)) J _ Q L (h.keep F93.rf.u.u.u.u.u) (by rw [e1]; exact hwd h41) (fun I2 J2 f2 e2 => ?_)
    refine hR I2 J2 (F93.rf.u.u.u.u.u.tr f2) ?_
    rw [e2, e1]
    unfold hrR
    rw [if_pos h41]
