set_option maxRecDepth 100000 in
set_option maxHeartbeats 8000000 in
theorem rx_cuts (l : Launch) (d : Nat) (ru ta : Nat) (rs : List XO) (I : XI) (J : XJ) (Rp : XR) (Q : Tld) (L : Lws) (h : RE I Q L) (hw : WR (I 93)) (t r bn : Nat) (ht : t < qT Q) (hr : r < qR Q) (hb : bn < qB Q) (hR : ∀ (I' : XI) (J' : XJ), F93 I I' → I' 93 = cuR Q L (I 93) t r bn → Rp (some (.int (bI (cuB Q L (I 93) t r bn)))) (shH ru ta rs) I' J') : xm l (d + 12) 0 0 mX12_cutsNow [.ref 67, .int (nI t), .int (nI r), .int (nI bn)] (shH ru ta rs) I J Rp := by
  have t8 : qT Q ≤ 8 := h.1.2.1
  have r4 : qR Q ≤ 4 := h.1.2.2.1
  have b4 : qB Q ≤ 4 := h.1.2.2.2.1
  have t8' : t < 8 := Nat.lt_of_lt_of_le ht t8
  have r4' : r < 4 := Nat.lt_of_lt_of_le hr r4
  have p0 : vp_in ((nI 8) + (nI r)) 69 := vx_2 (by omega) (by omega)
  have p1 : vp_in ((nI 12) + (nI r)) 69 := vx_2 (by omega) (by omega)
  have p2 : vp_in ((nI 34) + (nI r)) 2200 := vx_2 (by omega) (by omega)
  have p3 : vp_in ((nI 18) + (nI t)) 2200 := vx_2 (by omega) (by omega)
  have p4 : vp_in ((nI 0) + (nI t)) 69 := vx_2 (by omega) (by omega)
  have eC : I 68 (34 + r) = nI (qC Q r) := h.1.1.2.2.2.2.1 r hr
  have eK : I 68 (18 + t) = nI (qK Q t) := (h.1.1.2.2.2.1 t ht).2.1
  have ix0 : ((nI 8) + (nI r)).toNatClampNeg = 8 + r := by rw [show (nI 8) + (nI r) = nI (8 + r) by simp only [nI_add, nI_mul, Nat.zero_add]]; exact nI_clamp (by omega)
  have ix1 : ((nI 12) + (nI r)).toNatClampNeg = 12 + r := by rw [show (nI 12) + (nI r) = nI (12 + r) by simp only [nI_add, nI_mul, Nat.zero_add]]; exact nI_clamp (by omega)
  have ix2 : ((nI 34) + (nI r)).toNatClampNeg = 34 + r := by rw [show (nI 34) + (nI r) = nI (34 + r) by simp only [nI_add, nI_mul, Nat.zero_add]]; exact nI_clamp (by omega)
  have ix3 : ((nI 18) + (nI t)).toNatClampNeg = 18 + t := by rw [show (nI 18) + (nI t) = nI (18 + t) by simp only [nI_add, nI_mul, Nat.zero_add]]; exact nI_clamp (by omega)
  have ix4 : ((nI 0) + (nI t)).toNatClampNeg = t := by rw [show (nI 0) + (nI t) = nI (t) by simp only [nI_add, nI_mul, Nat.zero_add]]; exact nI_clamp (by omega)
  have lgl : lgR Q L (I 93) t < 2 ^ 31 := Nat.lt_of_le_of_lt (lgR_le h.1.2 hw ht) (by decide)
  refine xm_ofK 0 (X := xxX12) (t := tX12_cutsNow) (stop := []) (ini := false) xx12 pl12 rfl kX12_cutsNow (fun h => by cases h) (Nat.le_of_ble_eq_true rfl) (fun K hK => ?_)
  refine And.intro p0 ?_
  refine And.intro (fun (h10 : I 93 ((nI 8) + (nI r)).toNatClampNeg = nI 1) => ?_) (fun (h10 : ¬ (I 93 ((nI 8) + (nI r)).toNatClampNeg = nI 1)) => ?_)
  · replace h10 : I 93 (8 + r) = nI 1 := by simpa only [ix0, ix1, ix2, ix3, ix4, uI_rd] using h10
    have hno : cuOK Q L (I 93) t r bn = false := cu_no1 h10
    rw [(cu_no hno).1, (cu_no hno).2] at hR
    exact hR I J F93.rf rfl
  · replace h10 : ¬ (I 93 (8 + r) = nI 1) := by simpa only [ix0, ix1, ix2, ix3, ix4, uI_rd] using h10
    refine And.intro p1 ?_
    refine And.intro (fun (h23 : ¬ (I 93 ((nI 12) + (nI r)).toNatClampNeg = nI 1)) => ?_) (fun (h23 : I 93 ((nI 12) + (nI r)).toNatClampNeg = nI 1) => ?_)
    · replace h23 : ¬ (I 93 (12 + r) = nI 1) := by simpa only [ix0, ix1, ix2, ix3, ix4, uI_rd] using h23
      refine ex_long l (d + 2) ru ta rs I J _ Q L (nW (I 93)) (I 93 67) (h.srm hw) t ht (fun I1 J1 f1 => ?_)
      have e93 : I1 93 = I 93 := f1 93 (by decide)
      have e68 : I1 68 = I 68 := f1 68 (by decide)
      refine rx_free l (d + 10) ru ta rs I1 J1 _ ?_
      refine And.intro p2 ?_
      refine rx_least l (d + 10) (nI (lgR Q L (I 93) t)) (I1 68 ((nI 34) + (nI r)).toNatClampNeg) _ _ _ _ ?_
      refine ex_may l (d + 2) ru ta rs I1 J1 _ Q L (nW (I 93)) (I 93 67) ((h.srm hw).keep f1) t (lgR Q L (I 93) t) ht (lgR_le h.1.2 hw ht) (fun r2 I2 J2 er f2 => ?_)
      have e93b : I2 93 = I 93 := (f2 93 (by decide)).trans e93
      have e68b : I2 68 = I 68 := (f2 68 (by decide)).trans e68
      have hc : (maR Q L (I 93) t (lgR Q L (I 93) t) = false ∧ r2 = 0) ∨ (maR Q L (I 93) t (lgR Q L (I 93) t) = true ∧ r2 = 1) := by
        show (maOf L (nmT Q (nW (I 93)) t (lgR Q L (I 93) t)) = false ∧ r2 = 0) ∨ (maOf L (nmT Q (nW (I 93)) t (lgR Q L (I 93) t)) = true ∧ r2 = 1)
        cases e : maOf L (nmT Q (nW (I 93)) t (lgR Q L (I 93) t)) with
        | false =>
          rw [e] at er
          exact Or.inl ⟨rfl, er⟩
        | true =>
          rw [e] at er
          exact Or.inr ⟨rfl, er⟩
      rcases hc with ⟨hma, rfl⟩ | ⟨hma, rfl⟩
      · refine And.intro (fun _ => ?_) (fun z => absurd (show (0 : Int32) = 0 from rfl) z)
        have hno : cuOK Q L (I 93) t r bn = false := cu_no3 hma
        rw [(cu_no hno).1, (cu_no hno).2] at hR
        exact hR I2 J2 ((F93.n f1).tr (F93.n f2)) e93b
      · refine And.intro (fun z => absurd (show (1 : Int32) = 0 from z) (by decide)) (fun _ => ?_)
        refine And.intro (fun (h69 : nI (lgR Q L (I 93) t) = 0) => ?_) (fun (h69 : ¬ (nI (lgR Q L (I 93) t) = 0)) => ?_)
        · have hl0 : lgR Q L (I 93) t = 0 := (neq0 lgl).mp h69
          have hno : cuOK Q L (I 93) t r bn = false := cu_no4 hl0
          rw [(cu_no hno).1, (cu_no hno).2] at hR
          exact hR I2 J2 ((F93.n f1).tr (F93.n f2)) e93b
        · refine And.intro (fun (h75 : bI (frB (I1 93)) = (-1)) => ?_) (fun (h75 : ¬ (bI (frB (I1 93)) = (-1))) => ?_)
          · replace h75 : bI (frB (I 93)) = (-1) := by simpa only [ix0, ix1, ix2, ix3, ix4, uI_rd, e93, e68, e93b, e68b] using h75
            have hf12 : frB (I 93) = 12 := (bI_n (frB_le _)).mp h75
            have hno : cuOK Q L (I 93) t r bn = false := cu_no5 hf12
            rw [(cu_no hno).1, (cu_no hno).2] at hR
            exact hR I2 J2 ((F93.n f1).tr (F93.n f2)) e93b
          · replace h75 : ¬ (bI (frB (I 93)) = (-1)) := by simpa only [ix0, ix1, ix2, ix3, ix4, uI_rd, e93, e68, e93b, e68b] using h75
            have hf12 : ¬ frB (I 93) = 12 := fun z => h75 ((bI_n (frB_le _)).mpr z)
            have hfb : frB (I 93) < 12 := Nat.lt_of_le_of_ne (frB_le _) hf12
            refine rx_isRoom l (d + 9) ru ta rs I2 J2 _ Q (h.keep ((F93.n f1).tr (F93.n f2))).1.1 bn hb h.1.2.2.2.1 (ltR (nI (lgR Q L (I 93) t)) (I1 68 ((nI 34) + (nI r)).toNatClampNeg)) (fun hr1 => ?_) (fun hr1 => ?_)
            · replace hr1 : isR Q (I 93) bn (ltR (nI (lgR Q L (I 93) t)) (nI (qC Q r))) = true := by
                rw [e93b, ix2, e68, eC] at hr1
                exact hr1
              refine And.intro (fun _ => ?_) (fun z => absurd (show nI 1 = 0 from z) (by decide))
              refine And.intro p3 ?_
              refine rx_balesV l (d + 10) ru ta rs I2 J2 _ _ (frB (I 93)) (by rw [e93]; exact bI_b hfb) hfb (I2 68 ((nI 18) + (nI t)).toNatClampNeg) (ltR (nI (lgR Q L (I 93) t)) (I1 68 ((nI 34) + (nI r)).toNatClampNeg)) (nI bn) (fun Ib fb eb => ?_)
              refine And.intro p4 ?_
              refine And.intro p4 ?_
              refine And.intro (show ¬ (nI (lgR Q L (I 93) t) = 0) from h69) ?_
              refine And.intro p4 ?_
              refine And.intro p1 ?_
              have hl : ¬ lgR Q L (I 93) t = 0 := fun z => h69 (by rw [z]; rfl)
              have hok : cuOK Q L (I 93) t r bn = true := and6 (by rw [decide_eq_false h10]; rfl) (by rw [decide_eq_false h23]; rfl) hma (by rw [decide_eq_false hl]; rfl) (by rw [decide_eq_false hf12]; rfl) hr1
              have eB : cuB Q L (I 93) t r bn = frB (I 93) := by
                unfold cuB
                rw [hok, if_pos rfl]
              have eR : cuR Q L (I 93) t r bn = cuW Q L (I 93) t r bn := by
                unfold cuR
                rw [hok, if_pos rfl]
              rw [eB, eR] at hR
              have erow := cu_erow Q L I Ib I1 I2 t r bn t8' r4' eb e68 e93b e68b eK eC
              have fin := hR (uI (uI Ib 93 ((nI 0) + (nI t)).toNatClampNeg ((Ib 93 ((nI 0) + (nI t)).toNatClampNeg) - (((Ib 93 ((nI 0) + (nI t)).toNatClampNeg) * (ltR (nI (lgR Q L (I 93) t)) (I1 68 ((nI 34) + (nI r)).toNatClampNeg))) / (nI (lgR Q L (I 93) t))))) 93 ((nI 12) + (nI r)).toNatClampNeg (nI 1)) J2 (((F93.n f1).tr (F93.n f2)).tr fb.u.u) erow
              have e9 : bI (frB (I1 93)) = bI (frB (I 93)) := by rw [e93]
              rw [← e9] at fin
              exact fin
            · replace hr1 : isR Q (I 93) bn (ltR (nI (lgR Q L (I 93) t)) (nI (qC Q r))) = false := by
                rw [e93b, ix2, e68, eC] at hr1
                exact hr1
              refine And.intro (fun z => absurd (show nI 0 = 0 from rfl) z) (fun _ => ?_)
              have hno : cuOK Q L (I 93) t r bn = false := cu_no6 hr1
              rw [(cu_no hno).1, (cu_no hno).2] at hR
              exact hR I2 J2 ((F93.n f1).tr (F93.n f2)) e93b
    · replace h23 : I 93 (12 + r) = nI 1 := by simpa only [ix0, ix1, ix2, ix3, ix4, uI_rd] using h23
      have hno : cuOK Q L (I 93) t r bn = false := cu_no2 h23
      rw [(cu_no hno).1, (cu_no hno).2] at hR
      exact hR I J F93.rf rfl
