-- ===== the guess: 99g2.clsd =====
set_option maxRecDepth 100000 in
theorem cwg_bind (l : Launch) (d : Nat) (ru ta : Nat) (rs : List XO) (I : XI) (J : XJ) (Rp : XR) (T : Nat) (w : Rw) (hr : RC T w (I 29)) (hw : WR w) (hf : frB w < 12) (kd len bn : Int32) (hR : ∀ I' : XI, F24 29 I I' → RC T (baI w (frB w) kd len bn) (I' 29) → Rp (some (.int (nI (frB w)))) (shH ru ta rs) I' J) : xm l (d + 2) 0 0 mX10_bind [.ref 28, .int kd, .int len, .int bn] (shH ru ta rs) I J Rp := by
  have eb : bI (frB w) = nI (frB w) := bI_b hf
  have nb : ¬ bI (frB w) = -1 := fun z => by
    have := (bI_n (frB_le w)).mp z
    omega
  have ix : ∀ c, c < 1000 → (nI c + bI (frB w)).toNatClampNeg = c + frB w := fun c hc => by
    rw [eb]
    exact ix_c (by omega)
  have vx : ∀ c, c + 12 < 70 → vp_in (nI c + bI (frB w)) 69 := fun c hc => by
    rw [eb]
    exact vx_2 (by omega) (by omega)
  refine xm_ofK 0 (X := xxX10) (t := tX10_bind) (stop := []) (ini := false) xx10 pl10 rfl kX10_bind (fun h => by cases h) (Nat.le_of_ble_eq_true rfl) (fun K hK => ?_)
  refine cwg_free l d ru ta rs I J _ T w hr hw ?_
  refine And.intro (fun z => absurd z nb) (fun _ => ?_)
  refine And.intro (vx 16 (by decide)) ?_
  refine And.intro (vx 28 (by decide)) ?_
  refine And.intro (vx 40 (by decide)) ?_
  refine And.intro (vx 52 (by decide)) ?_
  have fin := hR (uI (uI (uI (uI I 29 (16 + frB w) kd) 29 (28 + frB w) len) 29 (40 + frB w) (nI 0)) 29 (52 + frB w) bn) F24.rf.u.u.u.u (by
    rw [uI_eq, uI_eq, uI_eq, uI_eq]
    exact hr.ba hf kd len bn)
  rw [← ix 16 (by decide), ← ix 28 (by decide), ← ix 40 (by decide), ← ix 52 (by decide)] at fin
  rw [← eb] at fin
  exact fin
set_option maxRecDepth 100000 in
theorem cwg_shorten (l : Launch) (d : Nat) (ru ta : Nat) (rs : List XO) (I : XI) (J : XJ) (Rp : XR) (T : Nat) (w : Rw) (hr : RC T w (I 29)) (hw : WR w) (x : Int32) (y : Nat) (hy : y ≤ 9999) (h1 : ∀ b, b < 12 → x = nI b → 0 < w (28 + b) → ∀ I' : XI, F24 29 I I' → RC T (shR w b (nI y)) (I' 29) → Rp none (shH ru ta rs) I' J) (h0 : (∀ b, b < 12 → x = nI b → ¬ 0 < w (28 + b)) → Rp none (shH ru ta rs) I J) : xm l (d + 2) 0 0 mX10_shorten [.ref 28, .int x, .int (nI y)] (shH ru ta rs) I J Rp := by
  refine xm_ofK 0 (X := xxX10) (t := tX10_shorten) (stop := []) (ini := false) xx10 pl10 rfl kX10_shorten (fun h => by cases h) (Nat.le_of_ble_eq_true rfl) (fun K hK => ?_)
  refine cwg_hasBale l d ru ta rs I J _ T w hr hw x (fun b hb e hp => ?_) (fun hn => ?_)
  · subst e
    obtain ⟨a, ea, ha⟩ := hw.len hb
    have ix : (nI 28 + nI b).toNatClampNeg = 28 + b := ix_c (by omega)
    have ec : I 29 (nI 28 + nI b).toNatClampNeg = nI a := by rw [ix, hr.len hb, ea]
    have hp' : 0 < a := by rw [ea] at hp; exact (npos (by omega)).mp hp
    have ev : (if (0 : Int32) < I 29 (nI 28 + nI b).toNatClampNeg - nI y then I 29 (nI 28 + nI b).toNatClampNeg - nI y else nI 0) = nI (a - y) := by
      rw [ec]
      by_cases c : y < a
      · rw [nI_subI (by omega) (by omega), if_pos ((npos (by omega)).mpr (by omega))]
      · rw [if_neg (nsub_neg (by omega) (by omega)), show a - y = 0 by omega]
    refine And.intro (fun z => absurd (show (1 : Int32) = 0 from z) (by decide)) (fun _ => ?_)
    refine And.intro (show vp_in (nI 28 + nI b) 69 from vx_2 (by omega) (by omega)) ?_
    refine And.intro (show vp_in (nI 28 + nI b) 69 from vx_2 (by omega) (by omega)) ?_
    have fin := h1 b hb rfl hp (uI I 29 (28 + b) (nI (a - y))) F24.rf.u (by
      rw [uI_eq, shR_eq ea ha hy]
      by_cases c : y < a
      · rw [if_pos c]
        exact hr.ul hb hp _
      · rw [if_neg c, show a - y = 0 by omega]
        exact hr.z hb (fun k _ hk => upd_n hk) _ _)
    rw [← ix, ← ev] at fin
    exact fin
  · refine And.intro (fun _ => ?_) (fun z => absurd rfl z)
    exact h0 hn
set_option maxRecDepth 100000 in
set_option maxHeartbeats 8000000 in
theorem cwg_cutLen (l : Launch) (d : Nat) (ru ta : Nat) (rs : List XO) (I : XI) (J : XJ) (Rp : XR) (Q : Tld) (L : Lws) (h : CE I ru Q L) (w : Rw) (hr : RC (qT Q) w (I 29)) (hw : WR w) (t r bn : Nat) (ht : t < qT Q) (hrr : r < qR Q) (hb : bn < qB Q) (hR : ∀ (I' : XI) (J' : XJ), (∀ q, q ≠ 24 → I' q = I q) → Rp (some (.int (if cuOK Q L w t r bn = true then nI (cuL Q L w t r) else nI 0))) (shH ru ta rs) I' J') : xm l (d + 5) 0 0 mX10_cutLength [.ref 28, .int (nI t), .int (nI r), .int (nI bn)] (shH ru ta rs) I J Rp := by
  have t8 := h.2.1.1
  have r4 := h.2.1.2.1
  have b4 := h.2.1.2.2.1
  have ixt : (nI 0 + nI t).toNatClampNeg = t := by rw [nI_add, Nat.zero_add]; exact nI_clamp (by omega)
  have ix0 : ((nI 8) + (nI r)).toNatClampNeg = 8 + r := by rw [show (nI 8) + (nI r) = nI (8 + r) by simp only [nI_add, nI_mul, Nat.zero_add]]; exact nI_clamp (by omega)
  have ix1 : ((nI 12) + (nI r)).toNatClampNeg = 12 + r := by rw [show (nI 12) + (nI r) = nI (12 + r) by simp only [nI_add, nI_mul, Nat.zero_add]]; exact nI_clamp (by omega)
  have ix2 : ((nI 0) + (nI t)).toNatClampNeg = t := by rw [show (nI 0) + (nI t) = nI (t) by simp only [nI_add, nI_mul, Nat.zero_add]]; exact nI_clamp (by omega)
  have ix3 : (nI r).toNatClampNeg = r := nI_clamp (by omega)
  have ix4 : (nI bn).toNatClampNeg = bn := nI_clamp (by omega)
  have cl1 := cuL_c (L := L) h.2.1 hw ht hrr
  have cl2 := cuL_eq (L := L) h.2.1 hw ht hrr
  refine xm_ofK 0 (X := xxX10) (t := tX10_cutLength) (stop := []) (ini := false) xx10 pl10 rfl kX10_cutLength (fun h => by cases h) (Nat.le_of_ble_eq_true rfl) (fun K hK => ?_)
  refine cc_hasThing l (d + 3) ru ta rs I J _ Q L h (nI t) (fun _ _ _ => ?_) (fun hn => absurd rfl (hn t ht))
  refine And.intro (fun z => absurd (show (1 : Int32) = 0 from z) (by decide)) (fun _ => ?_)
  refine cc_hasReaper l (d + 3) ru ta rs I J _ Q L h (nI r) (fun _ _ _ => ?_) (fun hn => absurd rfl (hn r hrr))
  refine And.intro (fun z => absurd (show (1 : Int32) = 0 from z) (by decide)) (fun _ => ?_)
  refine cc_hasBarn l (d + 3) ru ta rs I J _ Q L h (nI bn) (fun _ _ _ => ?_) (fun hn => absurd rfl (hn bn hb))
  refine And.intro (fun _ => ?_) (fun z => absurd (show (1 : Int32) = 0 from z) (by decide))
  refine And.intro (show vp_in ((nI 8) + (nI r)) 69 from vx_2 (by clear cl1 cl2; omega) (by clear cl1 cl2; omega)) ?_
  refine And.intro (fun (h44 : I 29 ((nI 8) + (nI r)).toNatClampNeg = 0) => ?_) (fun (h44 : ¬ (I 29 ((nI 8) + (nI r)).toNatClampNeg = 0)) => ?_)
  · replace h44 : I 29 (8 + r) = 0 := by simpa only [ix0, ix1, ix2, ix3, ix4, uI_rd] using h44
    replace h44 : w (8 + r) = nI 1 := (hr.gone hw (by clear cl1 cl2; omega)).mp h44
    have hno : cuOK Q L w t r bn = false := by
      unfold cuOK
      rw [decide_eq_true h44]
      rfl
    rw [hno, if_neg (by decide)] at hR
    exact hR I J (fun _ _ => rfl)
  · replace h44 : ¬ (I 29 (8 + r) = 0) := by simpa only [ix0, ix1, ix2, ix3, ix4, uI_rd] using h44
    replace h44 : ¬ w (8 + r) = nI 1 := fun z => h44 ((hr.gone hw (by clear cl1 cl2; omega)).mpr z)
    refine And.intro (show vp_in ((nI 12) + (nI r)) 69 from vx_2 (by clear cl1 cl2; omega) (by clear cl1 cl2; omega)) ?_
    refine And.intro (fun (h57 : I 29 ((nI 12) + (nI r)).toNatClampNeg = nI 1) => ?_) (fun (h57 : ¬ (I 29 ((nI 12) + (nI r)).toNatClampNeg = nI 1)) => ?_)
    · replace h57 : I 29 (12 + r) = nI 1 := by simpa only [ix0, ix1, ix2, ix3, ix4, uI_rd] using h57
      rw [(hr.2.1 r (by clear cl1 cl2; omega)).2] at h57
      have hno : cuOK Q L w t r bn = false := by
        unfold cuOK
        rw [decide_eq_true h57]
        simp
      rw [hno, if_neg (by decide)] at hR
      exact hR I J (fun _ _ => rfl)
    · replace h57 : ¬ (I 29 (12 + r) = nI 1) := by simpa only [ix0, ix1, ix2, ix3, ix4, uI_rd] using h57
      rw [(hr.2.1 r (by clear cl1 cl2; omega)).2] at h57
      refine cwg_free l (d + 3) ru ta rs I J _ _ w hr hw ?_
      refine And.intro (fun (h65 : ¬ (bI (frB w) = (-1))) => ?_) (fun (h65 : bI (frB w) = (-1)) => ?_)
      · have hf12 : ¬ frB w = 12 := fun z => h65 ((bI_n (frB_le _)).mpr z)
        refine And.intro (show vp_in ((nI 0) + (nI t)) 69 from vx_2 (by clear cl1 cl2 hf12; omega) (by clear cl1 cl2 hf12; omega)) ?_
        refine And.intro (show vp_in (nI 64) 69 from vp_b (by decide)) ?_
        refine And.intro (show vp_in (nI 65) 69 from vp_b (by decide)) ?_
        refine And.intro (show vp_in (nI 66) 69 from vp_b (by decide)) ?_
        refine cx_shadowW l (d + 1) ru ta rs I J _ Q L h w hw t ht (I 29 ((nI 0) + (nI t)).toNatClampNeg) (I 29 64) (I 29 65) (I 29 66) (by rw [ixt]; exact hr.nt hw ht (by clear cl1 cl2 hf12; omega)) (hr.nk hw (by decide) (by decide)) (hr.nk hw (by decide) (by decide)) (hr.nk hw (by decide) (by decide)) (fun I1 J1 f1 => ?_)
        have e27 : I1 29 = I 29 := f1 29 (by decide)
        have e16 : I1 16 r = nI (qC Q r) := by rw [f1 16 (by decide)]; exact h.1.2.2.2.2.1 r hrr
        have e17 : I1 17 bn = nI (qM Q bn) := by rw [f1 17 (by decide)]; exact h.1.2.2.2.2.2 bn hb
        refine And.intro (show vp_in (nI r) 4 from vp_in_nI (by clear cl1 cl2 hf12; omega) (by clear cl1 cl2 hf12; omega)) ?_
        refine And.intro (fun (h131 : (if I1 16 (nI r).toNatClampNeg < nI (lgR Q L w t) then I1 16 (nI r).toNatClampNeg else nI (lgR Q L w t)) ≤ 0) => ?_) (fun (h131 : ¬ ((if I1 16 (nI r).toNatClampNeg < nI (lgR Q L w t) then I1 16 (nI r).toNatClampNeg else nI (lgR Q L w t)) ≤ 0)) => ?_)
        · replace h131 : (if I1 16 r < nI (lgR Q L w t) then I1 16 r else nI (lgR Q L w t)) ≤ 0 := by simpa only [ix0, ix1, ix2, ix3, ix4, uI_rd, e27] using h131
          have hl0 : lgR Q L w t = 0 := by
            rw [e16, cl1.1, nle0 (by omega)] at h131
            exact cl1.2.mp h131
          have hno : cuOK Q L w t r bn = false := by
            unfold cuOK
            rw [decide_eq_true hl0]
            simp
          rw [hno, if_neg (by decide)] at hR
          exact hR I1 J1 f1
        · replace h131 : ¬ ((if I1 16 r < nI (lgR Q L w t) then I1 16 r else nI (lgR Q L w t)) ≤ 0) := by simpa only [ix0, ix1, ix2, ix3, ix4, uI_rd, e27] using h131
          have hl0 : ¬ lgR Q L w t = 0 := by
            rw [e16, cl1.1, nle0 (by omega)] at h131
            exact fun z => h131 (cl1.2.mpr z)
          refine cwg_feetIn l (d + 3) ru ta rs I1 J1 _ _ w (by rw [e27]; exact hr) hw (nI bn) (nI_ne1 (by clear cl1 cl2 hf12 hl0; omega)) ?_
          refine And.intro (show vp_in (nI bn) 4 from vp_in_nI (by clear cl1 cl2 hf12 hl0; omega) (by clear cl1 cl2 hf12 hl0; omega)) ?_
          refine And.intro (fun (h151 : (feR w (nI bn) 12) + (if I1 16 (nI r).toNatClampNeg < nI (lgR Q L w t) then I1 16 (nI r).toNatClampNeg else nI (lgR Q L w t)) ≤ I1 17 (nI bn).toNatClampNeg) => ?_) (fun (h151 : ¬ ((feR w (nI bn) 12) + (if I1 16 (nI r).toNatClampNeg < nI (lgR Q L w t) then I1 16 (nI r).toNatClampNeg else nI (lgR Q L w t)) ≤ I1 17 (nI bn).toNatClampNeg)) => ?_)
          · replace h151 : (feR w (nI bn) 12) + (if I1 16 r < nI (lgR Q L w t) then I1 16 r else nI (lgR Q L w t)) ≤ I1 17 bn := by simpa only [ix0, ix1, ix2, ix3, ix4, uI_rd, e27] using h151
            rw [e16, e17, cl1.1] at h151
            have hro : isR Q w bn (ltR (nI (lgR Q L w t)) (nI (qC Q r))) = true := by
              rw [cl2.1]
              exact decide_eq_true h151
            refine And.intro (show vp_in (nI 64) 69 from vp_b (by decide)) ?_
            refine And.intro (show vp_in (nI 65) 69 from vp_b (by decide)) ?_
            refine cx_allowsW l (d + 1) ru ta rs I1 J1 _ Q L (h.k24 f1) w hw t (lgR Q L w t) ht (lgR_le h.2.1 hw ht) (I 29 ((nI 0) + (nI t)).toNatClampNeg) (I1 29 64) (I1 29 65) (nI (lgR Q L w t)) (by rw [ixt]; exact hr.nt hw ht (by clear cl1 cl2 hf12 hl0; omega)) (by rw [e27]; exact hr.nk hw (by decide) (by decide)) (by rw [e27]; exact hr.nk hw (by decide) (by decide)) rfl (fun I2 J2 hm f2 => ?_) (fun I2 J2 hm f2 => ?_)
            · refine And.intro (fun z => absurd (show (1 : Int32) = 0 from z) (by decide)) (fun _ => ?_)
              have hok : cuOK Q L w t r bn = true := and6 (by rw [decide_eq_false h44]; rfl) (by rw [decide_eq_false h57]; rfl) hm (by rw [decide_eq_false hl0]; rfl) (by rw [decide_eq_false hf12]; rfl) hro
              have elen : (if I1 16 (nI r).toNatClampNeg < nI (lgR Q L w t) then I1 16 (nI r).toNatClampNeg else nI (lgR Q L w t)) = nI (cuL Q L w t r) := by rw [show (nI r).toNatClampNeg = r from nI_clamp (by clear cl1 cl2 hf12 hl0; omega), e16]; exact cl1.1
              rw [hok, if_pos rfl, ← elen] at hR
              exact hR I2 J2 (fun q hq => (f2 q hq).trans (f1 q hq))
            · refine And.intro (fun _ => ?_) (fun z => absurd (show (0 : Int32) = 0 from rfl) z)
              have hno : cuOK Q L w t r bn = false := by
                unfold cuOK
                rw [hm]
                simp
              rw [hno, if_neg (by decide)] at hR
              exact hR I2 J2 (fun q hq => (f2 q hq).trans (f1 q hq))
          · replace h151 : ¬ ((feR w (nI bn) 12) + (if I1 16 r < nI (lgR Q L w t) then I1 16 r else nI (lgR Q L w t)) ≤ I1 17 bn) := by simpa only [ix0, ix1, ix2, ix3, ix4, uI_rd, e27] using h151
            rw [e16, e17, cl1.1] at h151
            have hro : isR Q w bn (ltR (nI (lgR Q L w t)) (nI (qC Q r))) = false := by
              rw [cl2.1]
              exact decide_eq_false h151
            have hno : cuOK Q L w t r bn = false := by
              unfold cuOK
              rw [hro]
              simp
            rw [hno, if_neg (by decide)] at hR
            exact hR I1 J1 f1
      · have hf12 : frB w = 12 := (bI_n (frB_le _)).mp h65
        have hno : cuOK Q L w t r bn = false := by
          unfold cuOK
          rw [decide_eq_true hf12]
          simp
        rw [hno, if_neg (by decide)] at hR
        exact hR I J (fun _ _ => rfl)

