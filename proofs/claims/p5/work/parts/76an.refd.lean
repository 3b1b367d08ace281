set_option maxRecDepth 100000 in
set_option maxHeartbeats 4000000 in
theorem rx_sellsN (l : Launch) (d : Nat) (ru ta : Nat) (rs : List XO) (I : XI) (J : XJ) (Rp : XR) (Q : Tld) (L : Lws) (h : RE I Q L) (hw : WR (I 93)) (b : Nat) (hb : b < 12) (hR : ∀ (I' : XI) (J' : XJ), F93 I I' → I' 93 = seW L (I 93) b → Rp (some (.int (nI (seR L (I 93) b)))) (shH ru ta rs) I' J') : xm l (d + 10) 0 0 mX12_sellsNow [.ref 67, .int (nI b)] (shH ru ta rs) I J Rp := by
  refine xm_ofK 0 (X := xxX12) (t := tX12_sellsNow) (stop := []) (ini := false) xx12 pl12 rfl kX12_sellsNow (fun h => by cases h) (Nat.le_of_ble_eq_true rfl) (fun K hK => ?_)
  refine rx_sells l d ru ta rs I J _ Q L h hw b hb (fun I1 J1 f1 => ?_)
  have e93 : I1 93 = I 93 := f1 93 (by decide)
  refine And.intro (show vp_in (nI 67) 69 from vp_b (by decide)) ?_
  refine And.intro (show vp_in (nI 67) 69 from vp_b (by decide)) ?_
  refine rx_bales l (d + 8) ru ta rs (uI I1 93 67 ((I1 93 67) + (nI (seR L (I 93) b)))) J1 _ b hb (nI 0) (nI 0) (nI 0) (fun Ib fb eb => ?_)
  refine hR Ib J1 ((F93.n f1).u.tr fb) ?_
  rw [eb, uI_eq, e93]
  rfl
