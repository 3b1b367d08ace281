set_option maxRecDepth 100000 in
set_option maxHeartbeats 4000000 in
theorem rx_uses_out (l : Launch) (d : Nat) (ru ta : Nat) (rs : List XO) (I : XI) (J : XJ) (Rp : XR) (x bn : Int32) (hR : ∀ I', F93 I I' → I' 93 = usN bn 12 (I 93) x → Rp none (shH ru ta rs) I' J) : ∀ (m : Nat) (y : Int32) (I1 : XI) (o4 o5 : Option Value), F93 I I1 → usG bn m (I1 93) y → usN bn m (I1 93) y = usN bn 12 (I 93) x → usr l d ru ta rs J Rp (15 * m + 2) 2 x bn y o4 o5 I1 := by
  intro m
  induction m with
  | zero =>
    intro y I1 o4 o5 f g e
    refine xrun_step fun K hK => ?_
    refine And.intro (fun _ => ?_) (fun z => absurd (Int32.not_lt.mp g) z)
    exact hR I1 f e
  | succ m ih =>
    intro y I1 o4 o5 f g e
    rw [show 15 * (m + 1) + 2 = (15 * m + 3 + 12 + 1) + 1 by omega]
    refine xrun_step fun K hK => ?_
    refine And.intro (fun (z : y ≤ 0) => ?_) (fun (z : ¬ y ≤ 0) => ?_)
    · refine hR I1 f ?_
      rw [← e]
      unfold usN
      rw [if_neg (Int32.not_lt.mpr z)]
    · have hy : 0 < y := Int32.not_le.mp z
      obtain ⟨g1, g2, g3⟩ := g hy
      have e2 : usN bn (m + 1) (I1 93) y = usN bn m (shR (I1 93) (dkN (I1 93) bn 12) (ltR y (I1 93 (28 + dkN (I1 93) bn 12)))) (y - ltR y (I1 93 (28 + dkN (I1 93) bn 12))) := if_pos hy
      have ed : bI (dkN (I1 93) bn 12) = nI (dkN (I1 93) bn 12) := bI_b g1
      have ixd : (nI 28 + bI (dkN (I1 93) bn 12)).toNatClampNeg = 28 + dkN (I1 93) bn 12 := by
        rw [ed]
        exact ix_c (by omega)
      have vd : vp_in (nI 28 + bI (dkN (I1 93) bn 12)) 69 := by
        rw [ed]
        exact vx_2 (by omega) (by omega)
      refine hK 12 [some (.ref 67), some (.int x), some (.int bn), some (.int y), some (.int (bI (dkN (I1 93) bn 0))), some (.int (nI 0))] [] (shH ru ta rs) I1 J 0 0 ?_
      refine rx_uses_in l d ru ta rs I1 J Rp x bn y (15 * m + 3) ?_ 12 0 (by omega)
      refine xrun_step fun K hK => ?_
      refine And.intro vd ?_
      refine rx_least l (d + 1) y (I1 93 (nI 28 + bI (dkN (I1 93) bn 12)).toNatClampNeg) _ _ _ _ ?_
      refine rx_shortV l d ru ta rs I1 J _ _ (dkN (I1 93) bn 12) ed g1 (ltR y (I1 93 (nI 28 + bI (dkN (I1 93) bn 12)).toNatClampNeg)) (fun I2 f2 e3 => ?_)
      rw [ixd] at e3
      refine hK 2 [some (.ref 67), some (.int x), some (.int bn), some (.int (y - ltR y (I1 93 (nI 28 + bI (dkN (I1 93) bn 12)).toNatClampNeg))), some (.int (bI (dkN (I1 93) bn 12))), some (.int (ltR y (I1 93 (nI 28 + bI (dkN (I1 93) bn 12)).toNatClampNeg)))] [] (shH ru ta rs) I2 J 0 0 ?_
      rw [ixd]
      refine ih _ I2 _ _ (f.tr f2) ?_ ?_
      · rw [e3]
        exact g3
      · rw [e3, ← e2]
        exact e
