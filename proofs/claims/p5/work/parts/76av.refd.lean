set_option maxRecDepth 100000 in
theorem rx_pt (l : Launch) (d : Nat) (ru ta : Nat) (rs : List XO) (I : XI) (J : XJ) (Rp : XR) (Q : Tld) (L : Lws) (h : RE I Q L) (hw : WR (I 93)) (a : Nat) (ha : a < 1000) (hR : ∀ (I' : XI) (J' : XJ), F93 I I' → I' 93 = ptR Q L a (I 93) → Rp none (shH ru ta rs) I' J') : xm l (d + 13) 0 0 mX12_passesThrough [.ref 67, .int (nI a)] (shH ru ta rs) I J Rp := by
  refine xm_ofK (a + 1) (X := xxX12) (t := tX12_passesThrough) (stop := [2]) (ini := false) xx12 pl12 rfl kX12_passesThrough (fun h => by cases h) (Nat.le_of_ble_eq_true rfl) (fun K hK => ?_)
  exact hK 2 [some (.ref 67), some (.int (nI a)), some (.int (nI 0))] [] _ _ _ _ _ (rx_pt_loop l d ru ta rs I J Rp Q L h a ha _ hR a 0 (a + 1) J I (by omega) (by omega) F93.rf hw rfl)
theorem rx_drawV (l : Launch) (d : Nat) (ru ta : Nat) (rs : List XO) (I : XI) (J : XJ) (Rp : XR) (v : Int32) (m : Nat) (e : v = nI m) (h0 : 0 < m) (hm : m < 1000) (hw : WR (I 93)) (hR : ∀ I', F93 I I' → I' 93 = dr (I 93) → WR (I' 93) → Rp (some (.int (nI (dN (I 93) m)))) (shH ru ta rs) I' J) : xm l (d + 1) 0 0 mX12_draw [.ref 67, .int v] (shH ru ta rs) I J Rp := by
  subst e
  refine rx_draw l d ru ta rs I J Rp m h0 hm (fun I1 f1 e1 => ?_)
  rw [(hw.dv h0 hm).1]
  exact hR I1 f1 e1 (by rw [e1]; exact hw.d)
