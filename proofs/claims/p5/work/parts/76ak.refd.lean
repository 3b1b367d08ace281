set_option maxRecDepth 100000 in
set_option maxHeartbeats 4000000 in
theorem rx_uses_in (l : Launch) (d : Nat) (ru ta : Nat) (rs : List XO) (I : XI) (J : XJ) (Rp : XR) (x bn y : Int32) (n0 : Nat) (H : usr l d ru ta rs J Rp n0 90 x bn y (some (.int (bI (dkN (I 93) bn 12)))) (some (.int (nI 12))) I) : ∀ (m k : Nat), k + m = 12 → usr l d ru ta rs J Rp (n0 + m + 1) 12 x bn y (some (.int (bI (dkN (I 93) bn k)))) (some (.int (nI k))) I := by
  intro m
  induction m with
  | zero =>
    intro k hk
    have hk : k = 12 := by omega
    subst hk
    refine xrun_step fun K hK => ?_
    refine And.intro (fun _ => ?_) (fun z => absurd (Int32.le_refl _) z)
    exact hK 90 _ [] _ I J 0 0 H
  | succ m ih =>
    intro k hk
    have hd := dkN_le (I 93) bn k (by omega)
    have ix0 : ((nI 28) + (nI k)).toNatClampNeg = 28 + k := by rw [show (nI 28) + (nI k) = nI (28 + k) by simp only [nI_add, nI_mul, Nat.zero_add]]; exact nI_clamp (by omega)
    have ix1 : ((nI 40) + (nI k)).toNatClampNeg = 40 + k := by rw [show (nI 40) + (nI k) = nI (40 + k) by simp only [nI_add, nI_mul, Nat.zero_add]]; exact nI_clamp (by omega)
    have ix2 : ((nI 52) + (nI k)).toNatClampNeg = 52 + k := by rw [show (nI 52) + (nI k) = nI (52 + k) by simp only [nI_add, nI_mul, Nat.zero_add]]; exact nI_clamp (by omega)
    refine xrun_step fun K hK => ?_
    refine And.intro (fun z => absurd (show nI 12 ≤ nI k from z) (nI_ge (by omega) (by omega))) (fun _ => ?_)
    refine And.intro (show vp_in ((nI 28) + (nI k)) 69 from vx_2 (by omega) (by omega)) ?_
    refine And.intro (fun (h29 : I 93 ((nI 28) + (nI k)).toNatClampNeg ≤ 0) => ?_) (fun (h29 : ¬ (I 93 ((nI 28) + (nI k)).toNatClampNeg ≤ 0)) => ?_)
    · replace h29 : I 93 (28 + k) ≤ 0 := by simpa only [ix0, ix1, ix2, uI_rd] using h29
      replace h29 : ¬ 0 < I 93 (28 + k) := Int32.not_lt.mpr h29
      refine hK 12 [some (.ref 67), some (.int x), some (.int bn), some (.int y), some (.int (bI (dkN (I 93) bn k))), some (.int ((nI k) + 1))] [] (shH ru ta rs) I J 0 0 ?_
      have e : dkN (I 93) bn (k + 1) = dkN (I 93) bn k := if_neg (fun z => h29 z.1)
      rw [nI_1, ← e]
      exact ih (k + 1) (by omega)
    · replace h29 : ¬ (I 93 (28 + k) ≤ 0) := by simpa only [ix0, ix1, ix2, uI_rd] using h29
      replace h29 : 0 < I 93 (28 + k) := Int32.not_le.mp h29
      refine And.intro (fun (h34 : bn = (-1)) => ?_) (fun (h34 : ¬ (bn = (-1))) => ?_)
      · refine And.intro (fun (h54 : bI (dkN (I 93) bn k) = (-1)) => ?_) (fun (h54 : ¬ (bI (dkN (I 93) bn k) = (-1))) => ?_)
        · replace h54 : dkN (I 93) bn k = 12 := (bI_n hd.1).mp h54
          refine hK 12 [some (.ref 67), some (.int x), some (.int bn), some (.int y), some (.int (nI k)), some (.int ((nI k) + 1))] [] (shH ru ta rs) I J 0 0 ?_
          have e : dkN (I 93) bn (k + 1) = k := if_pos ⟨h29, Or.inl h34, Or.inl h54⟩
          rw [nI_1, show nI k = bI (dkN (I 93) bn (k + 1)) from by rw [e, bI_b (by omega)]]
          exact ih (k + 1) (by omega)
        · replace h54 : ¬ dkN (I 93) bn k = 12 := fun z => h54 ((bI_n hd.1).mpr z)
          have ed : bI (dkN (I 93) bn k) = nI (dkN (I 93) bn k) := bI_b (by omega)
          have ixd : (nI 40 + bI (dkN (I 93) bn k)).toNatClampNeg = 40 + dkN (I 93) bn k := by rw [ed]; exact ix_c (by omega)
          have vd : vp_in (nI 40 + bI (dkN (I 93) bn k)) 69 := by rw [ed]; exact vx_2 (by omega) (by omega)
          refine And.intro (show vp_in ((nI 40) + (nI k)) 69 from vx_2 (by omega) (by omega)) ?_
          refine And.intro (show vp_in ((nI 40) + (bI (dkN (I 93) bn k))) 69 from vd) ?_
          refine And.intro (fun (h77 : I 93 ((nI 40) + (nI k)).toNatClampNeg ≤ I 93 ((nI 40) + (bI (dkN (I 93) bn k))).toNatClampNeg) => ?_) (fun (h77 : ¬ (I 93 ((nI 40) + (nI k)).toNatClampNeg ≤ I 93 ((nI 40) + (bI (dkN (I 93) bn k))).toNatClampNeg)) => ?_)
          · replace h77 : I 93 (40 + k) ≤ I 93 ((nI 40) + (bI (dkN (I 93) bn k))).toNatClampNeg := by simpa only [ix0, ix1, ix2, uI_rd] using h77
            rw [ixd] at h77
            replace h77 : ¬ I 93 (40 + dkN (I 93) bn k) < I 93 (40 + k) := Int32.not_lt.mpr h77
            refine hK 12 [some (.ref 67), some (.int x), some (.int bn), some (.int y), some (.int (bI (dkN (I 93) bn k))), some (.int ((nI k) + 1))] [] (shH ru ta rs) I J 0 0 ?_
            have e : dkN (I 93) bn (k + 1) = dkN (I 93) bn k := if_neg (fun z => z.2.2.elim h54 h77)
            rw [nI_1, ← e]
            exact ih (k + 1) (by omega)
          · replace h77 : ¬ (I 93 (40 + k) ≤ I 93 ((nI 40) + (bI (dkN (I 93) bn k))).toNatClampNeg) := by simpa only [ix0, ix1, ix2, uI_rd] using h77
            rw [ixd] at h77
            replace h77 : I 93 (40 + dkN (I 93) bn k) < I 93 (40 + k) := Int32.not_le.mp h77
            refine hK 12 [some (.ref 67), some (.int x), some (.int bn), some (.int y), some (.int (nI k)), some (.int ((nI k) + 1))] [] (shH ru ta rs) I J 0 0 ?_
            have e : dkN (I 93) bn (k + 1) = k := if_pos ⟨h29, Or.inl h34, Or.inr h77⟩
            rw [nI_1, show nI k = bI (dkN (I 93) bn (k + 1)) from by rw [e, bI_b (by omega)]]
            exact ih (k + 1) (by omega)
      · refine And.intro (show vp_in ((nI 52) + (nI k)) 69 from vx_2 (by omega) (by omega)) ?_
        refine And.intro (fun (h48 : ¬ (I 93 ((nI 52) + (nI k)).toNatClampNeg = bn)) => ?_) (fun (h48 : I 93 ((nI 52) + (nI k)).toNatClampNeg = bn) => ?_)
        · replace h48 : ¬ (I 93 (52 + k) = bn) := by simpa only [ix0, ix1, ix2, uI_rd] using h48
          refine hK 12 [some (.ref 67), some (.int x), some (.int bn), some (.int y), some (.int (bI (dkN (I 93) bn k))), some (.int ((nI k) + 1))] [] (shH ru ta rs) I J 0 0 ?_
          have e : dkN (I 93) bn (k + 1) = dkN (I 93) bn k := if_neg (fun z => z.2.1.elim h34 h48)
          rw [nI_1, ← e]
          exact ih (k + 1) (by omega)
        · replace h48 : I 93 (52 + k) = bn := by simpa only [ix0, ix1, ix2, uI_rd] using h48
          refine And.intro (fun (h54 : bI (dkN (I 93) bn k) = (-1)) => ?_) (fun (h54 : ¬ (bI (dkN (I 93) bn k) = (-1))) => ?_)
          · replace h54 : dkN (I 93) bn k = 12 := (bI_n hd.1).mp h54
            refine hK 12 [some (.ref 67), some (.int x), some (.int bn), some (.int y), some (.int (nI k)), some (.int ((nI k) + 1))] [] (shH ru ta rs) I J 0 0 ?_
            have e : dkN (I 93) bn (k + 1) = k := if_pos ⟨h29, Or.inr h48, Or.inl h54⟩
            rw [nI_1, show nI k = bI (dkN (I 93) bn (k + 1)) from by rw [e, bI_b (by omega)]]
            exact ih (k + 1) (by omega)
          · replace h54 : ¬ dkN (I 93) bn k = 12 := fun z => h54 ((bI_n hd.1).mpr z)
            have ed : bI (dkN (I 93) bn k) = nI (dkN (I 93) bn k) := bI_b (by omega)
            have ixd : (nI 40 + bI (dkN (I 93) bn k)).toNatClampNeg = 40 + dkN (I 93) bn k := by rw [ed]; exact ix_c (by omega)
            have vd : vp_in (nI 40 + bI (dkN (I 93) bn k)) 69 := by rw [ed]; exact vx_2 (by omega) (by omega)
            refine And.intro (show vp_in ((nI 40) + (nI k)) 69 from vx_2 (by omega) (by omega)) ?_
            refine And.intro (show vp_in ((nI 40) + (bI (dkN (I 93) bn k))) 69 from vd) ?_
            refine And.intro (fun (h77 : I 93 ((nI 40) + (nI k)).toNatClampNeg ≤ I 93 ((nI 40) + (bI (dkN (I 93) bn k))).toNatClampNeg) => ?_) (fun (h77 : ¬ (I 93 ((nI 40) + (nI k)).toNatClampNeg ≤ I 93 ((nI 40) + (bI (dkN (I 93) bn k))).toNatClampNeg)) => ?_)
            · replace h77 : I 93 (40 + k) ≤ I 93 ((nI 40) + (bI (dkN (I 93) bn k))).toNatClampNeg := by simpa only [ix0, ix1, ix2, uI_rd] using h77
              rw [ixd] at h77
              replace h77 : ¬ I 93 (40 + dkN (I 93) bn k) < I 93 (40 + k) := Int32.not_lt.mpr h77
              refine hK 12 [some (.ref 67), some (.int x), some (.int bn), some (.int y), some (.int (bI (dkN (I 93) bn k))), some (.int ((nI k) + 1))] [] (shH ru ta rs) I J 0 0 ?_
              have e : dkN (I 93) bn (k + 1) = dkN (I 93) bn k := if_neg (fun z => z.2.2.elim h54 h77)
              rw [nI_1, ← e]
              exact ih (k + 1) (by omega)
            · replace h77 : ¬ (I 93 (40 + k) ≤ I 93 ((nI 40) + (bI (dkN (I 93) bn k))).toNatClampNeg) := by simpa only [ix0, ix1, ix2, uI_rd] using h77
              rw [ixd] at h77
              replace h77 : I 93 (40 + dkN (I 93) bn k) < I 93 (40 + k) := Int32.not_le.mp h77
              refine hK 12 [some (.ref 67), some (.int x), some (.int bn), some (.int y), some (.int (nI k)), some (.int ((nI k) + 1))] [] (shH ru ta rs) I J 0 0 ?_
              have e : dkN (I 93) bn (k + 1) = k := if_pos ⟨h29, Or.inr h48, Or.inr h77⟩
              rw [nI_1, show nI k = bI (dkN (I 93) bn (k + 1)) from by rw [e, bI_b (by omega)]]
              exact ih (k + 1) (by omega)
