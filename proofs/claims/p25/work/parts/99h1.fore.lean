-- ===== queries that look ahead: what they leave; hours to come (foretold, stored) =====
def FQ (I I' : XI) : Prop := F93 I I' ∧ (RG I → RG I')
theorem FQ.rf {I : XI} : FQ I I := ⟨F93.rf, fun h => h⟩
theorem FQ.w {I I1 : XI} (h : F93 I I1) (w : WR (I1 93)) : FQ I I1 := ⟨h, fun r => ⟨fun j => by rw [h 68 (by decide) (by decide)]; exact r.1 j, w.r93⟩⟩
theorem FQ.n {I I1 I2 : XI} (h : FQ I I1) (g : ∀ q, q ≠ 91 → I2 q = I1 q) : FQ I I2 := ⟨h.1.tr (F93.n g), fun r => ⟨fun j => by rw [g 68 (by decide)]; exact (h.2 r).1 j, fun j => by rw [g 93 (by decide)]; exact (h.2 r).2 j⟩⟩
theorem cd_in (l : Launch) (d : Nat) (v : Int32) (lo hi : Nat) (sh : List XO) (I : XI) (J : XJ) (Rp : XR) (h1 : rIn v lo hi = true → Rp (some (.int 1)) sh I J) (h0 : rIn v lo hi = false → Rp (some (.int 0)) sh I J) : xm l (d + 1) 0 0 mX11_within [.int v, .int (nI lo), .int (nI hi)] sh I J Rp := by
  cases e : rIn v lo hi with
  | true =>
    have := rIn_p.mp e
    exact c_within_t l d v (nI lo) (nI hi) _ _ _ _ this.1 this.2 (h1 e)
  | false =>
    exact c_within_f l d v (nI lo) (nI hi) _ _ _ _ (fun q => by
      have := rIn_p.mpr q
      rw [e] at this
      cases this) (h0 e)
set_option maxRecDepth 100000 in
theorem cwg_take (l : Launch) (d : Nat) (ru ta : Nat) (rs : List XO) (I : XI) (J : XJ) (Rp : XR) (hR : ∀ I' : XI, (∀ q, q ≠ 29 → I' q = I q) → (∀ j, j < 69 → I' 29 j = I 27 j) → Rp none (shH ru ta rs) I' J) : xm l (d + 1) 0 0 mX10_takeFrom [.ref 28, .ref 27] (shH ru ta rs) I J Rp := by
  refine xm_ofK 0 (X := xxX10) (t := tX10_takeFrom) (stop := []) (ini := false) xx10 pl10 rfl kX10_takeFrom (fun h => by cases h) (Nat.le_of_ble_eq_true rfl) (fun K hK => ?_)
  refine And.intro (fun z => absurd (show nI 69 = nI 69 from rfl) z) (fun _ => ?_)
  have z0 : (nI 0).toNatClampNeg = 0 := by decide
  have z69 : (nI 69).toNatClampNeg = 69 := by decide
  have q : ¬ nI 0 < 0 ∧ ¬ nI 0 < 0 ∧ ¬ nI 69 < 0 ∧ (nI 0).toNatClampNeg + (nI 69).toNatClampNeg ≤ 69 ∧ (nI 0).toNatClampNeg + (nI 69).toNatClampNeg ≤ 69 := ⟨by decide, by decide, by decide, by decide, by decide⟩
  refine And.intro q ?_
  show Rp none (shH ru ta rs) (cI I 27 29 (nI 0).toNatClampNeg (nI 0).toNatClampNeg (nI 69).toNatClampNeg) J
  rw [z0, z69]
  exact hR _ (fun q hq => cI_ne hq) (fun j hj => by rw [cI_eq]; exact cp_lo hj)
