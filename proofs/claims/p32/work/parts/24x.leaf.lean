set_option maxRecDepth 100000 in
theorem c_within_t (l : Launch) (d : Nat) (v lo hi : Int32) (sh : List XO) (I : XI) (J : XJ) (Rp : XR) (h1 : lo ≤ v) (h2 : v ≤ hi) (hR : Rp (some (.int 1)) sh I J) : xm l (d + 1) 0 0 mX11_within [.int v, .int lo, .int hi] sh I J Rp := by
  refine xm_ofK 0 (X := xxX11) (t := tX11_within) (stop := []) (ini := false) xx11 pl11 rfl kX11_within (fun h => by cases h) (Nat.le_of_ble_eq_true rfl) (fun K hK => ?_)
  refine And.intro (fun h => absurd h (Int32.not_lt.mpr h1)) (fun _ => And.intro (fun h => absurd h (Int32.not_lt.mpr h2)) (fun _ => And.intro (Or.inr rfl) hR))
set_option maxRecDepth 100000 in
theorem c_within_f (l : Launch) (d : Nat) (v lo hi : Int32) (sh : List XO) (I : XI) (J : XJ) (Rp : XR) (h : ¬ (lo ≤ v ∧ v ≤ hi)) (hR : Rp (some (.int 0)) sh I J) : xm l (d + 1) 0 0 mX11_within [.int v, .int lo, .int hi] sh I J Rp := by
  refine xm_ofK 0 (X := xxX11) (t := tX11_within) (stop := []) (ini := false) xx11 pl11 rfl kX11_within (fun h => by cases h) (Nat.le_of_ble_eq_true rfl) (fun K hK => ?_)
  refine And.intro (fun _ => And.intro (Or.inl rfl) hR) (fun h1 => And.intro (fun _ => And.intro (Or.inl rfl) hR) (fun h2 => absurd ⟨Int32.not_lt.mp h1, Int32.not_lt.mp h2⟩ h))
set_option maxRecDepth 100000 in
theorem m_in_t (l : Launch) (d : Nat) (v lo hi : Int32) (sh : List XO) (I : XI) (J : XJ) (Rp : XR) (h1 : lo ≤ v) (h2 : v ≤ hi) (hR : Rp (some (.int 1)) sh I J) : xm l (d + 1) 0 0 mX12_in [.int v, .int lo, .int hi] sh I J Rp := by
  refine xm_ofK 0 (X := xxX12) (t := tX12_in) (stop := []) (ini := false) xx12 pl12 rfl kX12_in (fun h => by cases h) (Nat.le_of_ble_eq_true rfl) (fun K hK => ?_)
  refine And.intro (fun h => absurd h (Int32.not_lt.mpr h1)) (fun _ => And.intro (fun h => absurd h (Int32.not_lt.mpr h2)) (fun _ => And.intro (Or.inr rfl) hR))
set_option maxRecDepth 100000 in
theorem m_in_f (l : Launch) (d : Nat) (v lo hi : Int32) (sh : List XO) (I : XI) (J : XJ) (Rp : XR) (h : ¬ (lo ≤ v ∧ v ≤ hi)) (hR : Rp (some (.int 0)) sh I J) : xm l (d + 1) 0 0 mX12_in [.int v, .int lo, .int hi] sh I J Rp := by
  refine xm_ofK 0 (X := xxX12) (t := tX12_in) (stop := []) (ini := false) xx12 pl12 rfl kX12_in (fun h => by cases h) (Nat.le_of_ble_eq_true rfl) (fun K hK => ?_)
  refine And.intro (fun _ => And.intro (Or.inl rfl) hR) (fun h1 => And.intro (fun _ => And.intro (Or.inl rfl) hR) (fun h2 => absurd ⟨Int32.not_lt.mp h1, Int32.not_lt.mp h2⟩ h))
