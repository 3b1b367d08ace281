-- ===== queries that look ahead: what they leave; hours to come (foretold, stored) =====
def FQ (I I' : XI) : Prop := F93 I I' ∧ (RG I → RG I')
theorem FQ.rf {I : XI} : FQ I I := ⟨F93.rf, fun h => h⟩
theorem FQ.w {I I1 : XI} (h : F93 I I1) (w : WR (I1 93)) : FQ I I1 := ⟨h, fun r => ⟨fun j => by rw [h 68 (by decide) (by decide)]; exact r.1 j, w.r93⟩⟩
theorem FQ.n {I I1 I2 : XI} (h : FQ I I1) (g : ∀ q, q ≠ 91 → I2 q = I1 q) : FQ I I2 := ⟨h.1.tr (F93.n g), fun r => ⟨fun j => by rw [g 68 (by decide)]; exact (h.2 r).1 j, fun j => by rw [g 93 (by decide)]; exact (h.2 r).2 j⟩⟩
theorem cd_in (l : Launch) (d : Nat) (v : Int32) (lo hi : Nat) (sh : List XO) (I : XI) (J : XJ) (Rp : XR) (h1 : rIn v lo hi = true → Rp (some (.int 1)) sh I J) (h0 : rIn v lo hi = false → Rp (some (.int 0)) sh I J) : xm l (d + 1) 0 0 mX11_within [.int v, .int (nI lo), .int (nI hi)] sh I J Rp := by
  cases e : rIn v lo hi with
  | true =>
    have := rIn_p.mp e
    exact c_within_t l d v (nI lo) (nI hi) _ _ _ _ this.1 this.2 (h1 e)
  | false =>
    exact c_within_f l d v (nI lo) (nI hi) _ _ _ _ (fun q => by
      have := rIn_p.mpr q
      rw [e] at this
      cases this) (h0 e)
