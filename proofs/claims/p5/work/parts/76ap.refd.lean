set_option maxRecDepth 100000 in
set_option maxHeartbeats 8000000 in
theorem rx_day2 (l : Launch) (d : Nat) (ru ta : Nat) (rs : List XO) (I : XI) (J : XJ) (Rp : XR) (Q : Tld) (L : Lws) (h : RE I Q L) (W : Rw) (hR : ∀ (I' : XI) (J' : XJ), F93 I I' → I' 93 = W → Rp none (shH ru ta rs) I' J') : ∀ (m b n : Nat) (J : XJ) (I1 : XI) (o2 : Option Value), b + m = 12 → m < n → F93 I I1 → WR (I1 93) → spN L m (I1 93) b = W → dyr l d ru ta rs J Rp n 91 (some (.int (nI b))) o2 I1 := by
  intro m
  induction m with
  | zero =>
    intro b n J I1 o2 hb hn hf hw hE
    obtain ⟨n, rfl⟩ : ∃ n', n = n' + 1 := ⟨n - 1, by omega⟩
    have hb : b = 12 := by omega
    subst hb
    refine xrun_step fun K hK => ?_
    refine And.intro (fun _ => ?_) (fun z => absurd (Int32.le_refl _) z)
    exact hR I1 J hf hE
  | succ m ih =>
    intro b n J I1 o2 hb hn hf hw hE
    obtain ⟨n, rfl⟩ : ∃ n', n = n' + 1 := ⟨n - 1, by omega⟩
    have ix0 : ((nI 28) + (nI b)).toNatClampNeg = 28 + b := by rw [show (nI 28) + (nI b) = nI (28 + b) by simp only [nI_add, nI_mul, Nat.zero_add]]; exact nI_clamp (by omega)
    have ix1 : ((nI 40) + (nI b)).toNatClampNeg = 40 + b := by rw [show (nI 40) + (nI b) = nI (40 + b) by simp only [nI_add, nI_mul, Nat.zero_add]]; exact nI_clamp (by omega)
    refine xrun_step fun K hK => ?_
    refine And.intro (fun z => absurd (show nI 12 ≤ nI b from z) (nI_ge (by omega) (by omega))) (fun _ => ?_)
    refine And.intro (show vp_in ((nI 28) + (nI b)) 69 from vx_2 (by omega) (by omega)) ?_
    refine And.intro (fun (h106 : I1 93 ((nI 28) + (nI b)).toNatClampNeg ≤ 0) => ?_) (fun (h106 : ¬ (I1 93 ((nI 28) + (nI b)).toNatClampNeg ≤ 0)) => ?_)
    · replace h106 : I1 93 (28 + b) ≤ 0 := by simpa only [ix0, ix1, uI_rd] using h106
      refine hK 91 [some (.ref 67), some (.int ((nI b) + 1)), o2] [] (shH ru ta rs) I1 J 0 0 ?_
      rw [nI_1]
      have e : spN L (m + 1) (I1 93) b = spN L m (I1 93) (b + 1) := if_neg (Int32.not_lt.mpr h106)
      exact ih (b + 1) n J I1 o2 (by omega) (by omega) hf hw (by rw [← e]; exact hE)
    · replace h106 : ¬ (I1 93 (28 + b) ≤ 0) := by simpa only [ix0, ix1, uI_rd] using h106
      refine rx_spoils l (d + 1) ru ta rs I1 J _ Q L (h.keep hf) hw b (by omega) (fun I2 J2 f2 => ?_)
      have e93 : I2 93 = I1 93 := f2 93 (by decide)
      refine And.intro (show vp_in ((nI 40) + (nI b)) 69 from vx_2 (by omega) (by omega)) ?_
      refine rx_least l (d + 9) (nI 99) ((I2 93 ((nI 40) + (nI b)).toNatClampNeg) + (nI 1)) _ _ _ _ ?_
      refine And.intro (show vp_in ((nI 40) + (nI b)) 69 from vx_2 (by omega) (by omega)) ?_
      refine rx_short l (d + 8) ru ta rs (uI I2 93 ((nI 40) + (nI b)).toNatClampNeg (ltR (nI 99) ((I2 93 ((nI 40) + (nI b)).toNatClampNeg) + (nI 1)))) J2 _ b (by omega) (nI (spR L (I1 93) b)) (fun I3 f3 e3 => ?_)
      refine hK 91 [some (.ref 67), some (.int ((nI b) + 1)), some (.int (nI (spR L (I1 93) b)))] [] (shH ru ta rs) I3 J2 0 0 ?_
      rw [nI_1]
      have hpos : 0 < I1 93 (28 + b) := Int32.not_le.mp h106
      have e : spN L (m + 1) (I1 93) b = spN L m (shR (upd (I1 93) (40 + b) (ltR (nI 99) (I1 93 (40 + b) + nI 1))) b (nI (spR L (I1 93) b))) (b + 1) := if_pos hpos
      have e4 : I3 93 = shR (upd (I1 93) (40 + b) (ltR (nI 99) (I1 93 (40 + b) + nI 1))) b (nI (spR L (I1 93) b)) := by
        rw [e3]
        simp only [ix0, ix1, uI_rd, uI_eq, e93]
      have w3 : WR (I3 93) := by
        have y := WR.sp (L := L) 1 (I1 93) b (by omega) hw
        have z : spN L 1 (I1 93) b = I3 93 := by
          rw [e4]
          exact if_pos hpos
        rw [z] at y
        exact y
      exact ih (b + 1) n J2 I3 _ (by omega) (by omega) (hf.tr ((F93.n f2).tr (F93.rf.u.tr f3))) w3 (by rw [e4, ← e]; exact hE)
