set_option maxRecDepth 100000 in
set_option maxHeartbeats 8000000 in
theorem rx_day1 (l : Launch) (d : Nat) (ru ta : Nat) (rs : List XO) (I : XI) (J : XJ) (Rp : XR) (Q : Tld) (L : Lws) (h : RE I Q L) (W : Rw) (hR : ∀ (I' : XI) (J' : XJ), F93 I I' → I' 93 = W → Rp none (shH ru ta rs) I' J') : ∀ (m t n : Nat) (J : XJ) (I1 : XI) (o2 : Option Value), t + m = qT Q → m + 14 < n → F93 I I1 → WR (I1 93) → spN L 12 (gwN Q L m (I1 93) t) 0 = W → dyr l d ru ta rs J Rp n 34 (some (.int (nI t))) o2 I1 := by
  have t8 : qT Q ≤ 8 := h.1.2.1
  intro m
  induction m with
  | zero =>
    intro t n J I1 o2 ht hn hf hw hE
    obtain ⟨n, rfl⟩ : ∃ n', n = n' + 1 := ⟨n - 1, by omega⟩
    have eT : I1 68 0 = nI (qT Q) := (h.keep hf).1.1.1
    have ht : t = qT Q := by omega
    subst ht
    refine xrun_step fun K hK => ?_
    refine And.intro (vp_b (by decide)) ?_
    refine And.intro (fun _ => ?_) (fun z => absurd (show I1 68 0 ≤ nI (qT Q) from by rw [eT]; exact Int32.le_refl _) z)
    exact hK 91 [some (.ref 67), some (.int (nI 0)), o2] [] _ I1 J 0 0 (rx_day2 l d ru ta rs I J Rp Q L h W hR 12 0 n J I1 o2 (by omega) (by omega) hf hw hE)
  | succ m ih =>
    intro t n J I1 o2 ht hn hf hw hE
    obtain ⟨n, rfl⟩ : ∃ n', n = n' + 1 := ⟨n - 1, by omega⟩
    have eT : I1 68 0 = nI (qT Q) := (h.keep hf).1.1.1
    have ix0 : ((nI 0) + (nI t)).toNatClampNeg = t := by rw [show (nI 0) + (nI t) = nI (t) by simp only [nI_add, nI_mul, Nat.zero_add]]; exact nI_clamp (by omega)
    refine xrun_step fun K hK => ?_
    refine And.intro (show vp_in (nI 0) 2200 from vp_b (by decide)) ?_
    refine And.intro (fun z => absurd (show I1 68 0 ≤ nI t from z) ((by rw [eT]; exact nI_ge (by omega) (by omega)))) (fun _ => ?_)
    refine And.intro (show vp_in (nI 66) 69 from vp_b (by decide)) ?_
    refine And.intro (fun (h53 : nI 8 ≤ I1 93 66) => ?_) (fun (h53 : ¬ (nI 8 ≤ I1 93 66)) => ?_)
    · refine hK 91 [some (.ref 67), some (.int (nI 0)), o2] [] (shH ru ta rs) I1 J 0 0 ?_
      have e : gwN Q L (m + 1) (I1 93) t = I1 93 := if_neg (Int32.not_lt.mpr h53)
      exact rx_day2 l d ru ta rs I J Rp Q L h W hR 12 0 n J I1 o2 (by omega) (by omega) hf hw (by rw [e] at hE; exact hE)
    · refine And.intro (show vp_in ((nI 0) + (nI t)) 69 from vx_2 (by omega) (by omega)) ?_
      refine ex_grows l (d + 1) ru ta rs I1 J _ Q L (nW (I1 93)) (I1 93 67) ((h.keep hf).srm hw) t (by omega) (fun I2 J2 f2 => ?_)
      have e93 : I2 93 = I1 93 := f2 93 (by decide)
      refine rx_least l (d + 9) (nI 100) ((I1 93 ((nI 0) + (nI t)).toNatClampNeg) + (nI (grR Q L (I1 93) t))) _ _ _ _ ?_
      refine And.intro (show vp_in ((nI 0) + (nI t)) 69 from vx_2 (by omega) (by omega)) ?_
      refine hK 34 [some (.ref 67), some (.int ((nI t) + 1)), o2] [] (shH ru ta rs) (uI I2 93 ((nI 0) + (nI t)).toNatClampNeg (ltR (nI 100) ((I1 93 ((nI 0) + (nI t)).toNatClampNeg) + (nI (grR Q L (I1 93) t))))) J2 0 0 ?_
      simp only [ix0, uI_rd]
      rw [nI_1]
      have hlt : I1 93 66 < nI 8 := Int32.not_le.mp h53
      have e : gwN Q L (m + 1) (I1 93) t = gwN Q L m (upd (I1 93) t (ltR (nI 100) (I1 93 t + nI (grR Q L (I1 93) t)))) (t + 1) := if_pos hlt
      refine ih (t + 1) n J2 _ o2 (by omega) (by omega) (hf.tr (F93.n f2).u) ?_ ?_
      · rw [uI_eq, e93]
        have y := WR.gw (Q := Q) (L := L) t8 1 (I1 93) t (by omega) hw
        have z : gwN Q L 1 (I1 93) t = upd (I1 93) t (ltR (nI 100) (I1 93 t + nI (grR Q L (I1 93) t))) := if_pos hlt
        rw [z] at y
        exact y
      · rw [uI_eq, e93, ← e]
        exact hE
