-- ===== the class: cuts done, feet used, hours =====
theorem cw_cutLen2 (l : Launch) (d : Nat) (ru ta : Nat) (rs : List XO) (I : XI) (J : XJ) (Rp : XR) (Q : Tld) (L : Lws) (h : CE I ru Q L) (w : Rw) (hr : RC (qT Q) w (I 27)) (hw : WR w) (t r bn : Nat) (ht : t < qT Q) (hrr : r < qR Q) (hb : bn < qB Q) (h1 : ∀ (I' : XI) (J' : XJ), cuOK Q L w t r bn = true → (∀ q, q ≠ 24 → I' q = I q) → Rp (some (.int (nI (cuL Q L w t r)))) (shH ru ta rs) I' J') (h0 : ∀ (I' : XI) (J' : XJ), cuOK Q L w t r bn = false → (∀ q, q ≠ 24 → I' q = I q) → Rp (some (.int (nI 0))) (shH ru ta rs) I' J') : xm l (d + 5) 0 0 mX10_cutLength [.ref 26, .int (nI t), .int (nI r), .int (nI bn)] (shH ru ta rs) I J Rp := by
  refine cw_cutLen l d ru ta rs I J Rp Q L h w hr hw t r bn ht hrr hb (fun I' J' f => ?_)
  by_cases c : cuOK Q L w t r bn = true
  · rw [if_pos c]
    exact h1 I' J' c f
  · rw [if_neg c]
    exact h0 I' J' (Bool.eq_false_iff.mpr c) f
set_option maxRecDepth 100000 in
set_option maxHeartbeats 4000000 in
theorem cw_cutOff (l : Launch) (d : Nat) (ru ta : Nat) (rs : List XO) (I : XI) (J : XJ) (Rp : XR) (Q : Tld) (L : Lws) (h : CE I ru Q L) (w : Rw) (hr : RC (qT Q) w (I 27)) (hw : WR w) (t r bn : Nat) (ht : t < qT Q) (hrr : r < qR Q) (hb : bn < qB Q) (hR : ∀ (I' : XI) (J' : XJ), F24 27 I I' → RC (qT Q) (cuR Q L w t r bn) (I' 27) → Rp (some (.int (bI (cuB Q L w t r bn)))) (shH ru ta rs) I' J') : xm l (d + 6) 0 0 mX10_cutOff [.ref 26, .int (nI t), .int (nI r), .int (nI bn)] (shH ru ta rs) I J Rp := by
  have t8 := h.2.1.1
  have r4 := h.2.1.2.1
  have ls := lgR_le (L := L) h.2.1 hw ht
  have l1 := cuL_c (L := L) h.2.1 hw ht hrr
  have l2 := cuL_eq (L := L) h.2.1 hw ht hrr
  refine xm_ofK 0 (X := xxX10) (t := tX10_cutOff) (stop := []) (ini := false) xx10 pl10 rfl kX10_cutOff (fun h => by cases h) (Nat.le_of_ble_eq_true rfl) (fun K hK => ?_)
  refine cw_cutLen2 l d ru ta rs I J _ Q L h w hr hw t r bn ht hrr hb (fun I1 J1 hok f1 => ?_) (fun I1 J1 hok f1 => ?_)
  · have h1 := h.k24 f1
    obtain ⟨c1, c2, c3, c4, c5, c6⟩ := cuOK_el hok
    have fb : frB w < 12 := by
      have := frB_le w
      omega
    have nL : ¬ cuL Q L w t r = 0 := fun z => c4 (l1.2.mp z)
    refine cw_shadow l (d + 1) ru ta rs I1 J1 _ Q L h1 w (by rw [f1 27 (by decide)]; exact hr) hw t ht (fun I2 J2 f2 => ?_)
    have f12 : ∀ q, q ≠ 24 → I2 q = I q := fun q hq => (f2 q hq).trans (f1 q hq)
    have h2 := h.k24 f12
    have e27 : I2 27 = I 27 := f12 27 (by decide)
    refine And.intro (fun z => absurd (show nI (cuL Q L w t r) ≤ 0 from z) (fun z => nL ((nle0 (by omega)).mp z))) (fun _ => ?_)
    refine And.intro (fun z => absurd (show nI (lgR Q L w t) ≤ 0 from z) (fun z => c4 ((nle0 (by omega)).mp z))) (fun _ => ?_)
    refine cc_hasThing l (d + 4) ru ta rs I2 J2 _ Q L h2 (nI t) (fun _ _ _ => ?_) (fun hn => absurd rfl (hn t ht))
    refine And.intro (fun z => absurd (show (1 : Int32) = 0 from z) (by decide)) (fun _ => ?_)
    refine cc_hasReaper l (d + 4) ru ta rs I2 J2 _ Q L h2 (nI r) (fun _ _ _ => ?_) (fun hn => absurd rfl (hn r hrr))
    refine And.intro (fun _ => ?_) (fun z => absurd (show (1 : Int32) = 0 from z) (by decide))
    have ixt : (nI 0 + nI t).toNatClampNeg = t := by rw [nI_add, Nat.zero_add]; exact nI_clamp (by omega)
    have ix2 : (nI t).toNatClampNeg = t := nI_clamp (by omega)
    have ixr : (nI 12 + nI r).toNatClampNeg = 12 + r := ix_c (by omega)
    have vt : vp_in (nI 0 + nI t) 69 := vx_2 (by omega) (by omega)
    have nz : ¬ nI (lgR Q L w t) = 0 := fun z => c4 ((neq0 (by omega)).mp z)
    refine And.intro vt ?_
    refine And.intro vt ?_
    refine And.intro (show ¬ nI (lgR Q L w t) = 0 from nz) ?_
    refine And.intro vt ?_
    refine And.intro (show vp_in (nI 12 + nI r) 69 from vx_2 (by omega) (by omega)) ?_
    refine And.intro (show vp_in (nI t) 8 from vp_in_nI (by omega) (by omega)) ?_
    have g := (hw t (by omega) (by omega)).nw
    rw [bd_1 (by omega)] at g
    have cg := cut_g g.2 l2.2.2 (by omega) ls
    have er : RC (qT Q) (upd (upd w t (w t - w t * nI (cuL Q L w t r) / nI (lgR Q L w t))) (12 + r) (nI 1)) ((uI (uI I2 27 (nI 0 + nI t).toNatClampNeg (I2 27 (nI 0 + nI t).toNatClampNeg - I2 27 (nI 0 + nI t).toNatClampNeg * nI (cuL Q L w t r) / nI (lgR Q L w t))) 27 (nI 12 + nI r).toNatClampNeg (nI 1)) 27) := by
      rw [ixt, ixr, uI_eq, uI_eq, e27, hr.t ht (by omega)]
      exact (hr.ut ht (by omega) _).uh (by omega) _
    have ww : WR (upd (upd w t (w t - w t * nI (cuL Q L w t r) / nI (lgR Q L w t))) (12 + r) (nI 1)) := by
      refine (hw.u (fun _ _ => ?_)).u (fun _ _ => okC.mk (by rw [bd_2 (by omega) (by omega)]; omega))
      rw [g.1, cg.1]
      exact okC.mk (by rw [bd_1 (by omega)]; exact Nat.le_trans (Nat.sub_le _ _) g.2)
    have fq : frB (upd (upd w t (w t - w t * nI (cuL Q L w t r) / nI (lgR Q L w t))) (12 + r) (nI 1)) = frB w := frB_cg (fun b hb => by rw [upd_n (by omega), upd_n (by omega)])
    have ek : (uI (uI I2 27 (nI 0 + nI t).toNatClampNeg (I2 27 (nI 0 + nI t).toNatClampNeg - I2 27 (nI 0 + nI t).toNatClampNeg * nI (cuL Q L w t r) / nI (lgR Q L w t))) 27 (nI 12 + nI r).toNatClampNeg (nI 1)) 14 (nI t).toNatClampNeg = nI (qK Q t) := by
      rw [uI_ne (by decide), uI_ne (by decide), ix2]
      exact (h2.1.2.2.2.1 t ht).2.1
    refine (show xm l (d + 5) 0 0 mX10_bind [.ref 26, .int ((uI (uI I2 27 (nI 0 + nI t).toNatClampNeg (I2 27 (nI 0 + nI t).toNatClampNeg - I2 27 (nI 0 + nI t).toNatClampNeg * nI (cuL Q L w t r) / nI (lgR Q L w t))) 27 (nI 12 + nI r).toNatClampNeg (nI 1)) 14 (nI t).toNatClampNeg), .int (nI (cuL Q L w t r)), .int (nI bn)] (shH ru ta rs) (uI (uI I2 27 (nI 0 + nI t).toNatClampNeg (I2 27 (nI 0 + nI t).toNatClampNeg - I2 27 (nI 0 + nI t).toNatClampNeg * nI (cuL Q L w t r) / nI (lgR Q L w t))) 27 (nI 12 + nI r).toNatClampNeg (nI 1)) J2 _ from ?_)
    rw [ek]
    refine cw_bind l (d + 3) ru ta rs (uI (uI I2 27 (nI 0 + nI t).toNatClampNeg (I2 27 (nI 0 + nI t).toNatClampNeg - I2 27 (nI 0 + nI t).toNatClampNeg * nI (cuL Q L w t r) / nI (lgR Q L w t))) 27 (nI 12 + nI r).toNatClampNeg (nI 1)) J2 _ (qT Q) _ er ww (by rw [fq]; exact fb) (nI (qK Q t)) (nI (cuL Q L w t r)) (nI bn) (fun I3 f3 r3 => ?_)
    · rw [fq] at r3 ⊢
      have eB : cuB Q L w t r bn = frB w := by
        unfold cuB
        rw [hok, if_pos rfl]
      have eR : cuR Q L w t r bn = baI (upd (upd w t (w t - w t * nI (cuL Q L w t r) / nI (lgR Q L w t))) (12 + r) (nI 1)) (frB w) (nI (qK Q t)) (nI (cuL Q L w t r)) (nI bn) := by
        unfold cuR
        rw [hok, if_pos rfl, cu_comm w (by omega) (by omega) fb]
        unfold cuW
        rw [cuG_t (by omega), l2.1]
        unfold cuG
        rw [l2.1]
      have y := hR I3 J2 ((F24.n f12).tr (F24.rf.u.u.tr f3)) (by rw [eR]; exact r3)
      rw [eB, bI_b fb] at y
      exact y
  · have h1 := h.k24 f1
    refine cw_shadow l (d + 1) ru ta rs I1 J1 _ Q L h1 w (by rw [f1 27 (by decide)]; exact hr) hw t ht (fun I2 J2 f2 => ?_)
    have f12 : ∀ q, q ≠ 24 → I2 q = I q := fun q hq => (f2 q hq).trans (f1 q hq)
    refine And.intro (fun _ => ?_) (fun z => absurd (show nI 0 ≤ 0 from Int32.le_refl _) z)
    have eB : cuB Q L w t r bn = 12 := by
      unfold cuB
      rw [hok]
      rfl
    have eR : cuR Q L w t r bn = w := by
      unfold cuR
      rw [hok]
      rfl
    rw [eB, eR] at hR
    exact hR I2 J2 (F24.n f12) (by rw [f12 27 (by decide)]; exact hr)
set_option maxRecDepth 100000 in
set_option maxHeartbeats 4000000 in
theorem cw_hasRoom (l : Launch) (d : Nat) (ru ta : Nat) (rs : List XO) (I : XI) (J : XJ) (Rp : XR) (Q : Tld) (L : Lws) (h : CE I ru Q L) (w : Rw) (hr : RC (qT Q) w (I 27)) (hw : WR w) (x len : Int32) (h1 : ∀ bn, bn < qB Q → x = nI bn → isR Q w bn len = true → Rp (some (.int 1)) (shH ru ta rs) I J) (h0 : (∀ bn, bn < qB Q → x = nI bn → isR Q w bn len = false) → Rp (some (.int 0)) (shH ru ta rs) I J) : xm l (d + 2) 0 0 mX10_hasRoom [.ref 26, .int x, .int len] (shH ru ta rs) I J Rp := by
  have b4 := h.2.1.2.2.1
  refine xm_ofK 0 (X := xxX10) (t := tX10_hasRoom) (stop := []) (ini := false) xx10 pl10 rfl kX10_hasRoom (fun h => by cases h) (Nat.le_of_ble_eq_true rfl) (fun K hK => ?_)
  refine cc_hasBarn l d ru ta rs I J _ Q L h x (fun bn hb e => ?_) (fun hn => ?_)
  · subst e
    refine And.intro (fun z => absurd (show (1 : Int32) = 0 from z) (by decide)) (fun _ => ?_)
    refine cw_feetIn l d ru ta rs I J _ _ w hr hw (nI bn) (nI_ne1 (by omega)) ?_
    have ib : (nI bn).toNatClampNeg = bn := nI_clamp (by omega)
    have em := h.1.2.2.2.2.2 bn hb
    refine And.intro (show vp_in (nI bn) 4 from vp_in_nI (by omega) (by omega)) ?_
    refine And.intro (fun (z : I 17 (nI bn).toNatClampNeg < feR w (nI bn) 12 + len) => ?_) (fun (z : ¬ I 17 (nI bn).toNatClampNeg < feR w (nI bn) 12 + len) => ?_)
    · rw [ib, em] at z
      refine And.intro (Or.inl rfl) (h0 (fun b2 hb2 e2 => ?_))
      have := nI_inj e2 (by omega) (by omega)
      subst this
      exact decide_eq_false (Int32.not_le.mpr z)
    · rw [ib, em] at z
      exact And.intro (Or.inr rfl) (h1 bn hb rfl (decide_eq_true (Int32.not_lt.mp z)))
  · refine And.intro (fun _ => ?_) (fun z => absurd rfl z)
    exact And.intro (Or.inl rfl) (h0 (fun bn hb e => absurd e (hn bn hb)))
set_option maxRecDepth 100000 in
set_option maxHeartbeats 4000000 in
theorem cw_sendOff (l : Launch) (d : Nat) (ru ta : Nat) (rs : List XO) (I : XI) (J : XJ) (Rp : XR) (Q : Tld) (L : Lws) (h : CE I ru Q L) (w : Rw) (hr : RC (qT Q) w (I 27)) (hw : WR w) (x y : Int32) (h1 : ∀ r bn, r < qR Q → bn < qB Q → x = nI r → y = nI bn → laOK Q w r bn = true → ∀ I', F24 27 I I' → RC (qT Q) (laW Q w r bn) (I' 27) → Rp (some (.int (nI (frB w)))) (shH ru ta rs) I' J) (h0 : (∀ r bn, r < qR Q → bn < qB Q → x = nI r → y = nI bn → laOK Q w r bn = false) → Rp (some (.int (-1))) (shH ru ta rs) I J) : xm l (d + 3) 0 0 mX10_sendOff [.ref 26, .int x, .int y] (shH ru ta rs) I J Rp := by
  have r4 := h.2.1.2.1
  have b4 := h.2.1.2.2.1
  refine xm_ofK 0 (X := xxX10) (t := tX10_sendOff) (stop := []) (ini := false) xx10 pl10 rfl kX10_sendOff (fun h => by cases h) (Nat.le_of_ble_eq_true rfl) (fun K hK => ?_)
  refine cc_hasReaper l (d + 1) ru ta rs I J _ Q L h x (fun r hrr e => ?_) (fun hn => ?_)
  · subst e
    have ir : (nI r).toNatClampNeg = r := nI_clamp (by omega)
    have i8 : (nI 8 + nI r).toNatClampNeg = 8 + r := ix_c (by omega)
    have ec : I 16 (nI r).toNatClampNeg = nI (qC Q r) := by rw [ir]; exact h.1.2.2.2.2.1 r hrr
    refine And.intro (fun z => absurd (show (1 : Int32) = 0 from z) (by decide)) (fun _ => ?_)
    refine And.intro (show vp_in (nI r) 4 from vp_in_nI (by omega) (by omega)) ?_
    refine (show xm l (d + 2) 0 0 mX10_hasRoom [.ref 26, .int y, .int (I 16 (nI r).toNatClampNeg)] (shH ru ta rs) I J _ from ?_)
    rw [ec]
    refine cw_hasRoom l d ru ta rs I J _ Q L h w hr hw y (nI (qC Q r)) (fun bn hb e2 hro => ?_) (fun hn => ?_)
    · subst e2
      refine And.intro (fun _ => ?_) (fun z => absurd (show (1 : Int32) = 0 from z) (by decide))
      refine And.intro (show vp_in (nI 8 + nI r) 69 from vx_2 (by omega) (by omega)) ?_
      have no : ∀ b : Bool, laOK Q w r bn = b → b = false → (∀ r' bn', r' < qR Q → bn' < qB Q → nI r = nI r' → nI bn = nI bn' → laOK Q w r' bn' = false) := fun b e1 e2 r' bn' a1 a2 a3 a4 => by
        have y1 := nI_inj a3 (by omega) (by omega)
        have y2 := nI_inj a4 (by omega) (by omega)
        subst y1 y2
        rw [e1, e2]
      refine And.intro (fun (z : I 27 (nI 8 + nI r).toNatClampNeg = 0) => ?_) (fun (z : ¬ I 27 (nI 8 + nI r).toNatClampNeg = 0) => ?_)
      · rw [i8] at z
        have z2 := (hr.gone hw (by omega)).mp z
        refine h0 (no false ?_ rfl)
        unfold laOK
        rw [decide_eq_true z2]
        rfl
      · rw [i8] at z
        have z2 : ¬ w (8 + r) = nI 1 := fun q => z ((hr.gone hw (by omega)).mpr q)
        refine cw_free l (d + 1) ru ta rs I J _ _ w hr hw ?_
        refine And.intro (fun (v : ¬ bI (frB w) = -1) => ?_) (fun (v : bI (frB w) = -1) => ?_)
        · have fb : frB w < 12 := by
            have := frB_le w
            have : ¬ frB w = 12 := fun q => v ((bI_n (frB_le w)).mpr q)
            omega
          have hok : laOK Q w r bn = true := by
            unfold laOK
            rw [decide_eq_false z2, decide_eq_false (show ¬ frB w = 12 by omega), hro]
            rfl
          refine And.intro (show vp_in (nI 8 + nI r) 69 from vx_2 (by omega) (by omega)) ?_
          refine And.intro (show vp_in (nI r) 4 from vp_in_nI (by omega) (by omega)) ?_
          have er : RC (qT Q) (upd w (8 + r) (nI 1)) ((uI I 27 (nI 8 + nI r).toNatClampNeg (nI 0)) 27) := by
            rw [i8, uI_eq]
            exact hr.ug (by omega) (by decide)
          have fq : frB (upd w (8 + r) (nI 1)) = frB w := frB_cg (fun b hb => by rw [upd_n (by omega)])
          have ww : WR (upd w (8 + r) (nI 1)) := hw.u (fun _ _ => okC.mk (by rw [bd_2 (by omega) (by omega)]; omega))
          have ek : (uI I 27 (nI 8 + nI r).toNatClampNeg (nI 0)) 16 (nI r).toNatClampNeg = nI (qC Q r) := by
            rw [uI_ne (by decide)]
            exact ec
          refine (show xm l (d + 2) 0 0 mX10_bind [.ref 26, .int (nI 5), .int ((uI I 27 (nI 8 + nI r).toNatClampNeg (nI 0)) 16 (nI r).toNatClampNeg), .int (nI bn)] (shH ru ta rs) (uI I 27 (nI 8 + nI r).toNatClampNeg (nI 0)) J _ from ?_)
          rw [ek]
          refine cw_bind l d ru ta rs (uI I 27 (nI 8 + nI r).toNatClampNeg (nI 0)) J _ (qT Q) _ er ww (by rw [fq]; exact fb) (nI 5) (nI (qC Q r)) (nI bn) (fun I3 f3 r3 => ?_)
          · rw [fq] at r3 ⊢
            refine h1 r bn hrr hb rfl rfl hok I3 (F24.rf.u.tr f3) ?_
            unfold laW
            rw [← la_comm w (by omega) fb]
            exact r3
        · have z3 := (bI_n (frB_le w)).mp v
          refine h0 (no false ?_ rfl)
          unfold laOK
          rw [decide_eq_true z3]
          simp
    · refine And.intro (fun z => absurd rfl z) (fun _ => ?_)
      refine h0 (fun r' bn a1 a2 a3 a4 => ?_)
      have y1 := nI_inj a3 (by omega) (by omega)
      subst y1
      unfold laOK
      rw [hn bn a2 a4]
      simp
  · refine And.intro (fun _ => ?_) (fun z => absurd rfl z)
    exact h0 (fun r bn a1 a2 a3 a4 => absurd a3 (hn r a1))
