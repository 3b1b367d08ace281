-- ===== the reference: cuts, uses, days =====
set_option maxRecDepth 100000 in
theorem rx_least (l : Launch) (d : Nat) (x y : Int32) (sh : List XO) (I : XI) (J : XJ) (Rp : XR) (hR : Rp (some (.int (ltR x y))) sh I J) : xm l (d + 1) 0 0 mX12_least [.int x, .int y] sh I J Rp := by
  refine xm_ofK 0 (X := xxX12) (t := tX12_least) (stop := []) (ini := false) xx12 pl12 rfl kX12_least (fun h => by cases h) (Nat.le_of_ble_eq_true rfl) (fun K hK => ?_)
  unfold ltR at hR
  refine And.intro (fun (z : y ≤ x) => ?_) (fun (z : ¬ y ≤ x) => ?_)
  · rw [if_neg (Int32.not_lt.mpr z)] at hR
    exact hR
  · rw [if_pos (Int32.not_le.mp z)] at hR
    exact hR
theorem rx_balesV (l : Launch) (d : Nat) (ru ta : Nat) (rs : List XO) (I : XI) (J : XJ) (Rp : XR) (vb : Int32) (b : Nat) (e : vb = nI b) (hb : b < 12) (kd len bn : Int32) (hR : ∀ I', F93 I I' → I' 93 = baI (I 93) b kd len bn → Rp none (shH ru ta rs) I' J) : xm l (d + 1) 0 0 mX12_bales [.ref 67, .int vb, .int kd, .int len, .int bn] (shH ru ta rs) I J Rp := by
  subst e
  exact rx_bales l d ru ta rs I J Rp b hb kd len bn hR
theorem rx_shortV (l : Launch) (d : Nat) (ru ta : Nat) (rs : List XO) (I : XI) (J : XJ) (Rp : XR) (vb : Int32) (b : Nat) (e : vb = nI b) (hb : b < 12) (y : Int32) (hR : ∀ I', F93 I I' → I' 93 = shR (I 93) b y → Rp none (shH ru ta rs) I' J) : xm l (d + 2) 0 0 mX12_shortens [.ref 67, .int vb, .int y] (shH ru ta rs) I J Rp := by
  subst e
  exact rx_short l d ru ta rs I J Rp b hb y hR
theorem and6 {a b c e f g : Bool} (h1 : a = true) (h2 : b = true) (h3 : c = true) (h4 : e = true) (h5 : f = true) (h6 : g = true) : (a && b && c && e && f && g) = true := by
  rw [h1, h2, h3, h4, h5, h6]
  rfl
theorem cu_no {Q : Tld} {L : Lws} {w : Rw} {t r bn : Nat} (hno : cuOK Q L w t r bn = false) : cuB Q L w t r bn = 12 ∧ cuR Q L w t r bn = w := by
  constructor
  · unfold cuB
    rw [hno]
    rfl
  · unfold cuR
    rw [hno]
    rfl
