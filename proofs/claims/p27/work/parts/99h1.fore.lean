-- ===== queries that look ahead: what they leave; hours to come (foretold, stored) =====
def FQ (I I' : XI) : Prop := F93 I I' ∧ (RG I → RG I')
theorem FQ.rf {I : XI} : FQ I I := ⟨F93.rf, fun h => h⟩
theorem FQ.w {I I1 : XI} (h : F93 I I1) (w : WR (I1 93)) : FQ I I1 := ⟨h, fun r => ⟨fun j => by rw [h 68 (by decide) (by decide)]; exact r.1 j, w.r93⟩⟩
theorem FQ.n {I I1 I2 : XI} (h : FQ I I1) (g : ∀ q, q ≠ 91 → I2 q = I1 q) : FQ I I2 := ⟨h.1.tr (F93.n g), fun r => ⟨fun j => by rw [g 68 (by decide)]; exact (h.2 r).1 j, fun j => by rw [g 93 (by decide)]; exact (h.2 r).2 j⟩⟩
theorem lin2.srch {I I1 I2 : XI} {TX : Nat → Txt} {H Hi : Hlf} {ta : Nat} {rs : List XO} (hta : ta ∈ txP) (hi : ivO CF [] I) (hq : QQ I) (hg : GRx I TX H Hi) (tp : TPr I) (fl : FLr I) (f1 : F24 29 I I1) (f2 : FQ I1 I2) : lin2 (shH (ruO (hvR H)) ta rs) I2 := by
  have k : ∀ q, q ≠ 24 → q ≠ 29 → q ≠ 91 → q ≠ 93 → I2 q = I q := fun q a b c d => (f2.1 q c d).trans (f1 q a b)
  have c24 : ∀ j, cellI CF 24 j = fr := fun j => cell_frC (by decide +kernel) (by decide +kernel)
  have c29 : ∀ j, cellI CF 29 j = fr := fun j => cell_frC (by decide +kernel) (by decide +kernel)
  have c91 : ∀ j, cellI CF 91 j = fr := fun j => cell_frC (by decide +kernel) (by decide +kernel)
  have rg : RG I1 := ⟨fun j => by rw [f1 68 (by decide) (by decide)]; exact hi 68 j rfl, fun j => by rw [f1 93 (by decide) (by decide)]; exact hi 93 j rfl⟩
  refine lin2.ask hta hg tp fl (P1 := [24, 29]) (P2 := [91, 93]) (I1 := I1) (I2 := I2) (fun q hq => f1 q (fun e => by subst e; exact absurd hq (by decide)) (fun e => by subst e; exact absurd hq (by decide))) (fun q hq => f2.1 q (fun e => by subst e; exact absurd hq (by decide)) (fun e => by subst e; exact absurd hq (by decide))) (by decide) (by decide) (fun p j hp => ?_) (qq_keep hq (k 71 (by decide) (by decide) (by decide) (by decide)) (k 72 (by decide) (by decide) (by decide) (by decide)) (k 73 (by decide) (by decide) (by decide) (by decide)) (k 77 (by decide) (by decide) (by decide) (by decide)) (k 78 (by decide) (by decide) (by decide) (by decide)))
  by_cases e93 : p = 93
  · subst e93
    exact (f2.2 rg).2 j
  by_cases e24 : p = 24
  · subst e24
    rw [c24 j]
    exact inI_fr _
  by_cases e29 : p = 29
  · subst e29
    rw [c29 j]
    exact inI_fr _
  by_cases e91 : p = 91
  · subst e91
    rw [c91 j]
    exact inI_fr _
  rw [k p e24 e29 e91 e93]
  exact hi p j rfl
theorem MA.fg {I I1 : XI} {L : Lws} {A : Ast} (h : MA I L A) (f : F24 29 I I1) : MA I1 L A := by
  have g : ∀ q, 29 < q → I1 q = I q := fun q hq => f q (by omega) (by omega)
  have e := g 68 (by decide)
  refine ⟨⟨⟨h.1.1.1.keep e, h.1.1.2⟩, h.1.2.keep (congrFun e 4) (g 71 (by decide)) (g 72 (by decide)) (g 73 (by decide)) (g 77 (by decide)) (g 78 (by decide))⟩, ?_, h.2.2.c (congrFun e 5) (fun j _ _ => congrFun e j)⟩
  rw [← h.2.1]
  exact wLay_cg (fun j _ _ => congrFun e j) (g 93 (by decide))
theorem cd_in (l : Launch) (d : Nat) (v : Int32) (lo hi : Nat) (sh : List XO) (I : XI) (J : XJ) (Rp : XR) (h1 : rIn v lo hi = true → Rp (some (.int 1)) sh I J) (h0 : rIn v lo hi = false → Rp (some (.int 0)) sh I J) : xm l (d + 1) 0 0 mX11_within [.int v, .int (nI lo), .int (nI hi)] sh I J Rp := by
  cases e : rIn v lo hi with
  | true =>
    have := rIn_p.mp e
    exact c_within_t l d v (nI lo) (nI hi) _ _ _ _ this.1 this.2 (h1 e)
  | false =>
    exact c_within_f l d v (nI lo) (nI hi) _ _ _ _ (fun q => by
      have := rIn_p.mpr q
      rw [e] at this
      cases this) (h0 e)
set_option maxRecDepth 100000 in
theorem cwg_take (l : Launch) (d : Nat) (ru ta : Nat) (rs : List XO) (I : XI) (J : XJ) (Rp : XR) (hR : ∀ I' : XI, (∀ q, q ≠ 29 → I' q = I q) → (∀ j, j < 69 → I' 29 j = I 27 j) → Rp none (shH ru ta rs) I' J) : xm l (d + 1) 0 0 mX10_takeFrom [.ref 28, .ref 27] (shH ru ta rs) I J Rp := by
  refine xm_ofK 0 (X := xxX10) (t := tX10_takeFrom) (stop := []) (ini := false) xx10 pl10 rfl kX10_takeFrom (fun h => by cases h) (Nat.le_of_ble_eq_true rfl) (fun K hK => ?_)
  refine And.intro (fun z => absurd (show nI 69 = nI 69 from rfl) z) (fun _ => ?_)
  have z0 : (nI 0).toNatClampNeg = 0 := by decide
  have z69 : (nI 69).toNatClampNeg = 69 := by decide
  have q : ¬ nI 0 < 0 ∧ ¬ nI 0 < 0 ∧ ¬ nI 69 < 0 ∧ (nI 0).toNatClampNeg + (nI 69).toNatClampNeg ≤ 69 ∧ (nI 0).toNatClampNeg + (nI 69).toNatClampNeg ≤ 69 := ⟨by decide, by decide, by decide, by decide, by decide⟩
  refine And.intro q ?_
  show Rp none (shH ru ta rs) (cI I 27 29 (nI 0).toNatClampNeg (nI 0).toNatClampNeg (nI 69).toNatClampNeg) J
  rw [z0, z69]
  exact hR _ (fun q hq => cI_ne hq) (fun j hj => by rw [cI_eq]; exact cp_lo hj)
