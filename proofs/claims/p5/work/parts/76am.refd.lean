set_option maxRecDepth 100000 in
theorem rx_uses (l : Launch) (d : Nat) (ru ta : Nat) (rs : List XO) (I : XI) (J : XJ) (Rp : XR) (x bn : Int32) (g : usG bn 12 (I 93) x) (hR : ∀ I', F93 I I' → I' 93 = usN bn 12 (I 93) x → Rp none (shH ru ta rs) I' J) : xm l (d + 3) 0 0 mX12_usesNow [.ref 67, .int x, .int bn] (shH ru ta rs) I J Rp := by
  refine xm_ofK 182 (X := xxX12) (t := tX12_usesNow) (stop := [2, 12, 90]) (ini := false) xx12 pl12 rfl kX12_usesNow (fun h => by cases h) (Nat.le_of_ble_eq_true rfl) (fun K hK => ?_)
  exact hK 2 [some (.ref 67), some (.int x), some (.int bn), some (.int x), none, none] [] _ _ _ _ _ (rx_uses_out l d ru ta rs I J Rp x bn hR 12 x I none none F93.rf g rfl)
