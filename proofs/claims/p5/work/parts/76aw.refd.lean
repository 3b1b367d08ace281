set_option maxRecDepth 100000 in
set_option maxHeartbeats 8000000 in
theorem rx_happens (l : Launch) (d : Nat) (ru ta : Nat) (rs : List XO) (I : XI) (J : XJ) (Rp : XR) (Q : Tld) (L : Lws) (h : RE I Q L) (hw : WR (I 93)) (t0 : 0 < qT Q) (r0 : 0 < qR Q) (b0 : 0 < qB Q) (hR : ∀ (I' : XI) (J' : XJ), F93 I I' → I' 93 = hpR Q L (I 93) → Rp none (shH ru ta rs) I' J') : xm l (d + 14) 0 0 mX12_happens [.ref 67] (shH ru ta rs) I J Rp := by
  have t8 : qT Q ≤ 8 := h.1.2.1
  have r4 : qR Q ≤ 4 := h.1.2.2.1
  have b4 : qB Q ≤ 4 := h.1.2.2.2.1
  refine xm_ofK 0 (X := xxX12) (t := tX12_happens) (stop := []) (ini := false) xx12 pl12 rfl kX12_happens (fun h => by cases h) (Nat.le_of_ble_eq_true rfl) (fun K hK => ?_)
  refine rx_drawV l (d + 12) ru ta rs I J _ _ 6 rfl (by decide) (by decide) hw (fun I1 f1 e1 w1 => ?_)
  have n6 : dN (I 93) 6 < 6 := (hw.dv (m := 6) (by decide) (by decide)).2
  refine And.intro (fun (z : ¬ (nI (dN (I 93) 6) = 0)) => ?_) (fun (z : nI (dN (I 93) 6) = 0) => ?_)
  · have z0 : ¬ dN (I 93) 6 = 0 := fun y => z ((neq0 (by omega)).mpr y)
    refine And.intro (fun (y : nI 3 ≤ nI (dN (I 93) 6)) => ?_) (fun (y : ¬ nI 3 ≤ nI (dN (I 93) 6)) => ?_)
    · have y3 := (nle (by omega) (by omega)).mp y
      refine rx_pt l d ru ta rs I1 J _ Q L (h.keep f1) w1 1 (by decide) (fun I2 J2 f2 e2 => ?_)
      refine hR I2 J2 (f1.tr f2) ?_
      rw [e2, e1]
      unfold hpR
      rw [if_neg z0, if_neg (by omega), if_neg (by omega)]
    · have y3 : ¬ 3 ≤ dN (I 93) 6 := fun q => y ((nle (by omega) (by omega)).mpr q)
      refine rx_drawV l (d + 12) ru ta rs I1 J _ _ 12 rfl (by decide) (by decide) w1 (fun I2 f2 e2 w2 => ?_)
      have n12 : dN (I1 93) 12 < 12 := (w1.dv (m := 12) (by decide) (by decide)).2
      have ixb : (nI 28 + nI (dN (I1 93) 12)).toNatClampNeg = 28 + dN (I1 93) 12 := ix_c (by omega)
      refine And.intro (fun (q : ¬ (nI (dN (I 93) 6) = nI 2)) => ?_) (fun (q : nI (dN (I 93) 6) = nI 2) => ?_)
      · have q1 : dN (I 93) 6 = 1 := by
          have : ¬ dN (I 93) 6 = 2 := fun s => q (by rw [s])
          omega
        refine And.intro (show vp_in (nI 28 + nI (dN (I1 93) 12)) 69 from vx_2 (by omega) (by omega)) ?_
        refine And.intro (fun (s : I2 93 (nI 28 + nI (dN (I1 93) 12)).toNatClampNeg ≤ 0) => ?_) (fun (s : ¬ I2 93 (nI 28 + nI (dN (I1 93) 12)).toNatClampNeg ≤ 0) => ?_)
        · rw [ixb, e2] at s
          refine hR I2 J (f1.tr f2) ?_
          unfold hpR
          rw [if_neg z0, if_pos q1, ← e1]
          unfold hp1
          rw [if_neg (Int32.not_lt.mpr s), e2]
        · rw [ixb, e2] at s
          refine And.intro (fun _ => ?_) (fun s => absurd s q)
          refine rx_sellsN l (d + 3) ru ta rs I2 J _ Q L (h.keep (f1.tr f2)) w2 (dN (I1 93) 12) n12 (fun I3 J3 f3 e3 => ?_)
          refine hR I3 J3 ((f1.tr f2).tr f3) ?_
          unfold hpR
          rw [if_neg z0, if_pos q1, ← e1]
          unfold hp1
          rw [if_pos (Int32.not_le.mp s), e3, e2]
      · have q2 : dN (I 93) 6 = 2 := nI_small q (by omega) (by omega)
        refine rx_drawV l (d + 12) ru ta rs I2 J _ _ 20 rfl (by decide) (by decide) w2 (fun I3 f3 e3 w3 => ?_)
        have n20 := w2.dv (m := 20) (by decide) (by decide)
        refine And.intro (show vp_in (nI 28 + nI (dN (I1 93) 12)) 69 from vx_2 (by omega) (by omega)) ?_
        refine And.intro (fun (s : I3 93 (nI 28 + nI (dN (I1 93) 12)).toNatClampNeg ≤ 0) => ?_) (fun (s : ¬ I3 93 (nI 28 + nI (dN (I1 93) 12)).toNatClampNeg ≤ 0) => ?_)
        · rw [ixb, e3, e2] at s
          refine hR I3 J ((f1.tr f2).tr f3) ?_
          unfold hpR
          rw [if_neg z0, if_neg (by omega), if_pos q2, ← e1]
          unfold hp2
          rw [if_neg (Int32.not_lt.mpr s), e3, e2]
        · rw [ixb, e3, e2] at s
          refine And.intro (fun s => absurd q s) (fun _ => ?_)
          refine rx_short l (d + 11) ru ta rs I3 J _ (dN (I1 93) 12) n12 (nI 1 + nI (dN (I2 93) 20)) (fun I4 f4 e4 => ?_)
          refine hR I4 J (((f1.tr f2).tr f3).tr f4) ?_
          unfold hpR
          rw [if_neg z0, if_neg (by omega), if_pos q2, ← e1]
          unfold hp2
          rw [if_pos (Int32.not_le.mp s), e4, e3, e2, ← e2, ← n20.1]
  · have z0 : dN (I 93) 6 = 0 := (neq0 (by omega)).mp z
    refine And.intro (show vp_in (nI 0) 2200 from vp_b (by decide)) ?_
    refine rx_drawV l (d + 12) ru ta rs I1 J _ _ (qT Q) (h.keep f1).1.1.1 t0 (by omega) w1 (fun I2 f2 e2 w2 => ?_)
    have h2 := h.keep (f1.tr f2)
    refine And.intro (show vp_in (nI 1) 2200 from vp_b (by decide)) ?_
    refine rx_drawV l (d + 12) ru ta rs I2 J _ _ (qR Q) h2.1.1.2.1 r0 (by omega) w2 (fun I3 f3 e3 w3 => ?_)
    have h3 := h.keep ((f1.tr f2).tr f3)
    refine And.intro (show vp_in (nI 2) 2200 from vp_b (by decide)) ?_
    refine rx_drawV l (d + 12) ru ta rs I3 J _ _ (qB Q) h3.1.1.2.2.1 b0 (by omega) w3 (fun I4 f4 e4 w4 => ?_)
    have h4 := h.keep (((f1.tr f2).tr f3).tr f4)
    refine rx_cuts l (d + 1) ru ta rs I4 J _ Q L h4 w4 (dN (I1 93) (qT Q)) (dN (I2 93) (qR Q)) (dN (I3 93) (qB Q)) (w1.dv t0 (by omega)).2 (w2.dv r0 (by omega)).2 (w3.dv b0 (by omega)).2 (fun I5 J5 f5 e5 => ?_)
    refine hR I5 J5 ((((f1.tr f2).tr f3).tr f4).tr f5) ?_
    unfold hpR
    rw [if_pos z0, ← e1]
    unfold hp0
    rw [e5, e4, e3, e2]
