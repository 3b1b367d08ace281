set_option maxRecDepth 100000 in
set_option maxHeartbeats 4000000 in
theorem rx_dayB (l : Launch) (d : Nat) (ru ta : Nat) (rs : List XO) (I : XI) (J : XJ) (Rp : XR) (Q : Tld) (L : Lws) (h : RE I Q L) (hw : WR (dw0 (I 93))) (hR : ∀ (I' : XI) (J' : XJ), F93 I I' → I' 93 = dayR Q L (I 93) → Rp none (shH ru ta rs) I' J') : xm l (d + 11) 0 0 mX12_dayBegins [.ref 67] (shH ru ta rs) I J Rp := by
  refine xm_ofK 40 (X := xxX12) (t := tX12_dayBegins) (stop := [34, 91]) (ini := false) xx12 pl12 rfl kX12_dayBegins (fun h => by cases h) (Nat.le_of_ble_eq_true rfl) (fun K hK => ?_)
  refine And.intro (show vp_in (nI 64) 69 from vp_b (by decide)) ?_
  refine And.intro (show vp_in (nI 65) 69 from vp_b (by decide)) ?_
  refine And.intro (show vp_in (nI 65) 69 from vp_b (by decide)) ?_
  refine rx_draw l (d + 9) ru ta rs (uI (uI I 93 64 (nI 0)) 93 65 ((I 93 65) + (nI 1))) J _ 10 (by decide) (by decide) (fun I1 f1 e1 => ?_)
  refine And.intro (show vp_in (nI 66) 69 from vp_b (by decide)) ?_
  refine hK 34 [some (.ref 67), some (.int (nI 0)), none] [] (shH ru ta rs) (uI I1 93 66 (drv ((uI (uI I 93 64 (nI 0)) 93 65 ((I 93 65) + (nI 1))) 93) (nI 10))) J 0 0 ?_
  have e0 : (uI I1 93 66 (drv ((uI (uI I 93 64 (nI 0)) 93 65 ((I 93 65) + (nI 1))) 93) (nI 10))) 93 = dw0 (I 93) := by
    rw [uI_eq, e1, uI_eq, uI_eq]
    rfl
  refine rx_day1 l d ru ta rs I J Rp Q L h _ hR (qT Q) 0 40 J _ none (by omega) (by have : qT Q ≤ 8 := h.1.2.1; omega) (F93.rf.u.u.tr f1.u) ?_ ?_
  · rw [e0]
    exact hw
  · rw [e0]
    rfl
