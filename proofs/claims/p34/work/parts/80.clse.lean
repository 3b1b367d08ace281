section
-- ===== the class: cuts done, feet used, hours =====
theorem cw_cutLen2 (l : Launch) (d : Nat) (ru ta : Nat) (rs : List XO) (I : XI) (J : XJ) (Rp : XR) (Q : Tld) (L : Lws) (h : CE I ru Q L) (w : Rw) (hr : RC (qT Q) w (I 27)) (hw : WR w) (t r bn : Nat) (ht : t < qT Q) (hrr : r < qR Q) (hb : bn < qB Q) (h1 : ∀ (I' : XI) (J' : XJ), cuOK Q L w t r bn = true → (∀ q, q ≠ 24 → I' q = I q) → Rp (some (.int (nI (cuL Q L w t r)))) (shH ru ta rs) I' J') (h0 : ∀ (I' : XI) (J' : XJ), cuOK Q L w t r bn = false → (∀ q, q ≠ 24 → I' q = I q) → Rp (some (.int (nI 0))) (shH ru ta rs) I' J') : xm l (d + 5) 0 0 mX10_cutLength [.ref 26, .int (nI t), .int (nI r), .int (nI bn)] (shH ru ta rs) I J Rp := by
  refine cw_cutLen l d ru ta rs I J Rp Q L h w hr hw t r bn ht hrr hb (fun I' J' f => ?_)
  by_cases c : cuOK Q L w t r bn = true
  · rw [if_pos c]
    exact h1 I' J' c f
  · rw [if_neg c]
    exact h0 I' J' (Bool.eq_false_iff.mpr c) f
set_option maxRecDepth 100000 in
set_option maxHeartbeats 4000000 in
theorem cw_cutOff (l : Launch) (d : Nat) (ru ta : Nat) (rs : List XO) (I : XI) (J : XJ) (Rp : XR) (Q : Tld) (L : Lws) (h : CE I ru Q L) (w : Rw) (hr : RC (qT Q) w (I 27)) (hw : WR w) (t r bn : Nat) (ht : t < qT Q) (hrr : r < qR Q) (hb : bn < qB Q) (hR : ∀ (I' : XI) (J' : XJ), F24 27 I I' → RC (qT Q) (cuR Q L w t r bn) (I' 27) → Rp (some (.int (bI (cuB Q L w t r bn)))) (shH ru ta rs) I' J') : xm l (d + 6) 0 0 mX10_cutOff [.ref 26, .int (nI t), .int (nI r), .int (nI bn)] (shH ru ta rs) I J Rp := by
  have t8 := h.2.1.1
  have r4 := h.2.1.2.1
  have ls := lgR_le (L := L) h.2.1 hw ht
  have l1 := cuL_c (L := L) h.2.1 hw ht hrr
  have l2 := cuL_eq (L := L) h.2.1 hw ht hrr
  refine xm_ofK 0 (X := xxX10) (t := tX10_cutOff) (stop := []) (ini := false) xx10 pl10 rfl kX10_cutOff (fun h => by cases h) (Nat.le_of_ble_eq_true rfl) (fun K hK => ?_)
  refine cw_cutLen2 l d ru ta rs I J _ Q L h w hr hw t r bn ht hrr hb (fun I1 J1 hok f1 => ?_) (fun I1 J1 hok f1 => ?_)
  · have h1 := h.k24 f1
    obtain ⟨c1, c2, c3, c4, c5, c6⟩ := cuOK_el hok
    have fb : frB w < 12 := by
      have := frB_le w
      omega
    have nL : ¬ cuL Q L w t r = 0 := fun z => c4 (l1.2.mp z)
    refine cw_shadow l (d + 1) ru ta rs I1 J1 _ Q L h1 w (by rw [f1 27 (by decide)]; exact hr) hw t ht (fun I2 J2 f2 => ?_)
    have f12 : ∀ q, q ≠ 24 → I2 q = I q := fun q hq => (f2 q hq).trans (f1 q hq)
    have h2 := h.k24 f12
    have e27 : I2 27 = I 27 := f12 27 (by decide)
    refine And.intro (fun z => absurd (show nI (cuL Q L w t r) ≤ 0 from z) (fun z => nL ((nle0 (by omega)).mp z))) (fun _ => ?_)
    refine And.intro (fun z => absurd (show nI (lgR Q L w t) ≤ 0 from z) (fun z => c4 ((nle0 (by omega)).mp z))) (fun _ => ?_)
    refine cc_hasThing l (d + 4) ru ta rs I2 J2 _ Q L h2 (nI t) (fun _ _ _ => ?_) (fun hn => absurd rfl (hn t ht))
    refine And.intro (fun z => absurd (show (1 : Int32) = 0 from z) (by decide)) (fun _ => ?_)
    refine cc_hasReaper l (d + 4) ru ta rs I2 J2 _ Q L h2 (nI r) (fun _ _ _ => ?_) (fun hn => absurd rfl (hn r hrr))
    refine And.intro (fun _ => ?_) (fun z => absurd (show (1 : Int32) = 0 from z) (by decide))
    have ixt : (nI 0 + nI t).toNatClampNeg = t := by rw [nI_add, Nat.zero_add]; exact nI_clamp (by omega)
    have ix2 : (nI t).toNatClampNeg = t := nI_clamp (by omega)
    have ixr : (nI 12 + nI r).toNatClampNeg = 12 + r := ix_c (by omega)
    have vt : vp_in (nI 0 + nI t) 69 := vx_2 (by omega) (by omega)
    have nz : ¬ nI (lgR Q L w t) = 0 := fun z => c4 ((neq0 (by omega)).mp z)
    refine And.intro vt ?_
    refine And.intro vt ?_
    refine And.intro (show ¬ nI (lgR Q L w t) = 0 from nz) ?_
    refine And.intro vt ?_
    refine And.intro (show vp_in (nI 12 + nI r) 69 from vx_2 (by omega) (by omega)) ?_
    refine And.intro (show vp_in (nI t) 8 from vp_in_nI (by omega) (by omega)) ?_
    have g := (hw t (by omega) (by omega)).nw
    rw [bd_1 (by omega)] at g
    have cg := cut_g g.2 l2.2.2 (by omega) ls
    have er : RC (qT Q) (upd (upd w t (w t - w t * nI (cuL Q L w t r) / nI (lgR Q L w t))) (12 + r) (nI 1)) ((uI (uI I2 27 (nI 0 + nI t).toNatClampNeg (I2 27 (nI 0 + nI t).toNatClampNeg - I2 27 (nI 0 + nI t).toNatClampNeg * nI (cuL Q L w t r) / nI (lgR Q L w t))) 27 (nI 12 + nI r).toNatClampNeg (nI 1)) 27) := by
      rw [ixt, ixr, uI_eq, uI_eq, e27, hr.t ht (by omega)]
      exact (hr.ut ht (by omega) _).uh (by omega) _
    have ww : WR (upd (upd w t (w t - w t * nI (cuL Q L w t r) / nI (lgR Q L w t))) (12 + r) (nI 1)) := by
      refine (hw.u (fun _ _ => ?_)).u (fun _ _ => okC.mk (by rw [bd_2 (by omega) (by omega)]; omega))
      rw [g.1, cg.1]
      exact okC.mk (by rw [bd_1 (by omega)]; exact Nat.le_trans (Nat.sub_le _ _) g.2)
    have fq : frB (upd (upd w t (w t - w t * nI (cuL Q L w t r) / nI (lgR Q L w t))) (12 + r) (nI 1)) = frB w := frB_cg (fun b hb => by rw [upd_n (by omega), upd_n (by omega)])
    have ek : (uI (uI I2 27 (nI 0 + nI t).toNatClampNeg (I2 27 (nI 0 + nI t).toNatClampNeg - I2 27 (nI 0 + nI t).toNatClampNeg * nI (cuL Q L w t r) / nI (lgR Q L w t))) 27 (nI 12 + nI r).toNatClampNeg (nI 1)) 14 (nI t).toNatClampNeg = nI (qK Q t) := by
      rw [uI_ne (by decide), uI_ne (by decide), ix2]
      exact (h2.1.2.2.2.1 t ht).2.1
    refine (show xm l (d + 5) 0 0 mX10_bind [.ref 26, .int ((uI (uI I2 27 (nI 0 + nI t).toNatClampNeg (I2 27 (nI 0 + nI t).toNatClampNeg - I2 27 (nI 0 + nI t).toNatClampNeg * nI (cuL Q L w t r) / nI (lgR Q L w t))) 27 (nI 12 + nI r).toNatClampNeg (nI 1)) 14 (nI t).toNatClampNeg), .int (nI (cuL Q L w t r)), .int (nI bn)] (shH ru ta rs) (uI (uI I2 27 (nI 0 + nI t).toNatClampNeg (I2 27 (nI 0 + nI t).toNatClampNeg - I2 27 (nI 0 + nI t).toNatClampNeg * nI (cuL Q L w t r) / nI (lgR Q L w t))) 27 (nI 12 + nI r).toNatClampNeg (nI 1)) J2 _ from ?_)
    rw [ek]
    refine cw_bind l (d + 3) ru ta rs (uI (uI I2 27 (nI 0 + nI t).toNatClampNeg (I2 27 (nI 0 + nI t).toNatClampNeg - I2 27 (nI 0 + nI t).toNatClampNeg * nI (cuL Q L w t r) / nI (lgR Q L w t))) 27 (nI 12 + nI r).toNatClampNeg (nI 1)) J2 _ (qT Q) _ er ww (by rw [fq]; exact fb) (nI (qK Q t)) (nI (cuL Q L w t r)) (nI bn) (fun I3 f3 r3 => ?_)
    · rw [fq] at r3 ⊢
      have eB : cuB Q L w t r bn = frB w := by
        unfold cuB
        rw [hok, if_pos rfl]
      have eR : cuR Q L w t r bn = baI (upd (upd w t (w t - w t * nI (cuL Q L w t r) / nI (lgR Q L w t))) (12 + r) (nI 1)) (frB w) (nI (qK Q t)) (nI (cuL Q L w t r)) (nI bn) := by
        unfold cuR
        rw [hok, if_pos rfl, cu_comm w (by omega) (by omega) fb]
        unfold cuW
        rw [cuG_t (by omega), l2.1]
        unfold cuG
        rw [l2.1]
      have y := hR I3 J2 ((F24.n f12).tr (F24.rf.u.u.tr f3)) (by rw [eR]; exact r3)
      rw [eB, bI_b fb] at y
      exact y
  · have h1 := h.k24 f1
    refine cw_shadow l (d + 1) ru ta rs I1 J1 _ Q L h1 w (by rw [f1 27 (by decide)]; exact hr) hw t ht (fun I2 J2 f2 => ?_)
    have f12 : ∀ q, q ≠ 24 → I2 q = I q := fun q hq => (f2 q hq).trans (f1 q hq)
    refine And.intro (fun _ => ?_) (fun z => absurd (show nI 0 ≤ 0 from Int32.le_refl _) z)
    have eB : cuB Q L w t r bn = 12 := by
      unfold cuB
      rw [hok]
      rfl
    have eR : cuR Q L w t r bn = w := by
      unfold cuR
      rw [hok]
      rfl
    rw [eB, eR] at hR
    exact hR I2 J2 (F24.n f12) (by rw [f12 27 (by decide)]; exact hr)
set_option maxRecDepth 100000 in
set_option maxHeartbeats 4000000 in
theorem cw_hasRoom (l : Launch) (d : Nat) (ru ta : Nat) (rs : List XO) (I : XI) (J : XJ) (Rp : XR) (Q : Tld) (L : Lws) (h : CE I ru Q L) (w : Rw) (hr : RC (qT Q) w (I 27)) (hw : WR w) (x len : Int32) (h1 : ∀ bn, bn < qB Q → x = nI bn → isR Q w bn len = true → Rp (some (.int 1)) (shH ru ta rs) I J) (h0 : (∀ bn, bn < qB Q → x = nI bn → isR Q w bn len = false) → Rp (some (.int 0)) (shH ru ta rs) I J) : xm l (d + 2) 0 0 mX10_hasRoom [.ref 26, .int x, .int len] (shH ru ta rs) I J Rp := by
  have b4 := h.2.1.2.2.1
  refine xm_ofK 0 (X := xxX10) (t := tX10_hasRoom) (stop := []) (ini := false) xx10 pl10 rfl kX10_hasRoom (fun h => by cases h) (Nat.le_of_ble_eq_true rfl) (fun K hK => ?_)
  refine cc_hasBarn l d ru ta rs I J _ Q L h x (fun bn hb e => ?_) (fun hn => ?_)
  · subst e
    refine And.intro (fun z => absurd (show (1 : Int32) = 0 from z) (by decide)) (fun _ => ?_)
    refine cw_feetIn l d ru ta rs I J _ _ w hr hw (nI bn) (nI_ne1 (by omega)) ?_
    have ib : (nI bn).toNatClampNeg = bn := nI_clamp (by omega)
    have em := h.1.2.2.2.2.2 bn hb
    refine And.intro (show vp_in (nI bn) 4 from vp_in_nI (by omega) (by omega)) ?_
    refine And.intro (fun (z : I 17 (nI bn).toNatClampNeg < feR w (nI bn) 12 + len) => ?_) (fun (z : ¬ I 17 (nI bn).toNatClampNeg < feR w (nI bn) 12 + len) => ?_)
    · rw [ib, em] at z
      refine And.intro (Or.inl rfl) (h0 (fun b2 hb2 e2 => ?_))
      have := nI_inj e2 (by omega) (by omega)
      subst this
      exact decide_eq_false (Int32.not_le.mpr z)
    · rw [ib, em] at z
      exact And.intro (Or.inr rfl) (h1 bn hb rfl (decide_eq_true (Int32.not_lt.mp z)))
  · refine And.intro (fun _ => ?_) (fun z => absurd rfl z)
    exact And.intro (Or.inl rfl) (h0 (fun bn hb e => absurd e (hn bn hb)))
set_option maxRecDepth 100000 in
set_option maxHeartbeats 4000000 in
theorem cw_sendOff (l : Launch) (d : Nat) (ru ta : Nat) (rs : List XO) (I : XI) (J : XJ) (Rp : XR) (Q : Tld) (L : Lws) (h : CE I ru Q L) (w : Rw) (hr : RC (qT Q) w (I 27)) (hw : WR w) (x y : Int32) (h1 : ∀ r bn, r < qR Q → bn < qB Q → x = nI r → y = nI bn → laOK Q w r bn = true → ∀ I', F24 27 I I' → RC (qT Q) (laW Q w r bn) (I' 27) → Rp (some (.int (nI (frB w)))) (shH ru ta rs) I' J) (h0 : (∀ r bn, r < qR Q → bn < qB Q → x = nI r → y = nI bn → laOK Q w r bn = false) → Rp (some (.int (-1))) (shH ru ta rs) I J) : xm l (d + 3) 0 0 mX10_sendOff [.ref 26, .int x, .int y] (shH ru ta rs) I J Rp := by
  have r4 := h.2.1.2.1
  have b4 := h.2.1.2.2.1
  refine xm_ofK 0 (X := xxX10) (t := tX10_sendOff) (stop := []) (ini := false) xx10 pl10 rfl kX10_sendOff (fun h => by cases h) (Nat.le_of_ble_eq_true rfl) (fun K hK => ?_)
  refine cc_hasReaper l (d + 1) ru ta rs I J _ Q L h x (fun r hrr e => ?_) (fun hn => ?_)
  · subst e
    have ir : (nI r).toNatClampNeg = r := nI_clamp (by omega)
    have i8 : (nI 8 + nI r).toNatClampNeg = 8 + r := ix_c (by omega)
    have ec : I 16 (nI r).toNatClampNeg = nI (qC Q r) := by rw [ir]; exact h.1.2.2.2.2.1 r hrr
    refine And.intro (fun z => absurd (show (1 : Int32) = 0 from z) (by decide)) (fun _ => ?_)
    refine And.intro (show vp_in (nI r) 4 from vp_in_nI (by omega) (by omega)) ?_
    refine (show xm l (d + 2) 0 0 mX10_hasRoom [.ref 26, .int y, .int (I 16 (nI r).toNatClampNeg)] (shH ru ta rs) I J _ from ?_)
    rw [ec]
    refine cw_hasRoom l d ru ta rs I J _ Q L h w hr hw y (nI (qC Q r)) (fun bn hb e2 hro => ?_) (fun hn => ?_)
    · subst e2
      refine And.intro (fun _ => ?_) (fun z => absurd (show (1 : Int32) = 0 from z) (by decide))
      refine And.intro (show vp_in (nI 8 + nI r) 69 from vx_2 (by omega) (by omega)) ?_
      have no : ∀ b : Bool, laOK Q w r bn = b → b = false → (∀ r' bn', r' < qR Q → bn' < qB Q → nI r = nI r' → nI bn = nI bn' → laOK Q w r' bn' = false) := fun b e1 e2 r' bn' a1 a2 a3 a4 => by
        have y1 := nI_inj a3 (by omega) (by omega)
        have y2 := nI_inj a4 (by omega) (by omega)
        subst y1 y2
        rw [e1, e2]
      refine And.intro (fun (z : I 27 (nI 8 + nI r).toNatClampNeg = 0) => ?_) (fun (z : ¬ I 27 (nI 8 + nI r).toNatClampNeg = 0) => ?_)
      · rw [i8] at z
        have z2 := (hr.gone hw (by omega)).mp z
        refine h0 (no false ?_ rfl)
        unfold laOK
        rw [decide_eq_true z2]
        rfl
      · rw [i8] at z
        have z2 : ¬ w (8 + r) = nI 1 := fun q => z ((hr.gone hw (by omega)).mpr q)
        refine cw_free l (d + 1) ru ta rs I J _ _ w hr hw ?_
        refine And.intro (fun (v : ¬ bI (frB w) = -1) => ?_) (fun (v : bI (frB w) = -1) => ?_)
        · have fb : frB w < 12 := by
            have := frB_le w
            have : ¬ frB w = 12 := fun q => v ((bI_n (frB_le w)).mpr q)
            omega
          have hok : laOK Q w r bn = true := by
            unfold laOK
            rw [decide_eq_false z2, decide_eq_false (show ¬ frB w = 12 by omega), hro]
            rfl
          refine And.intro (show vp_in (nI 8 + nI r) 69 from vx_2 (by omega) (by omega)) ?_
          refine And.intro (show vp_in (nI r) 4 from vp_in_nI (by omega) (by omega)) ?_
          have er : RC (qT Q) (upd w (8 + r) (nI 1)) ((uI I 27 (nI 8 + nI r).toNatClampNeg (nI 0)) 27) := by
            rw [i8, uI_eq]
            exact hr.ug (by omega) (by decide)
          have fq : frB (upd w (8 + r) (nI 1)) = frB w := frB_cg (fun b hb => by rw [upd_n (by omega)])
          have ww : WR (upd w (8 + r) (nI 1)) := hw.u (fun _ _ => okC.mk (by rw [bd_2 (by omega) (by omega)]; omega))
          have ek : (uI I 27 (nI 8 + nI r).toNatClampNeg (nI 0)) 16 (nI r).toNatClampNeg = nI (qC Q r) := by
            rw [uI_ne (by decide)]
            exact ec
          refine (show xm l (d + 2) 0 0 mX10_bind [.ref 26, .int (nI 5), .int ((uI I 27 (nI 8 + nI r).toNatClampNeg (nI 0)) 16 (nI r).toNatClampNeg), .int (nI bn)] (shH ru ta rs) (uI I 27 (nI 8 + nI r).toNatClampNeg (nI 0)) J _ from ?_)
          rw [ek]
          refine cw_bind l d ru ta rs (uI I 27 (nI 8 + nI r).toNatClampNeg (nI 0)) J _ (qT Q) _ er ww (by rw [fq]; exact fb) (nI 5) (nI (qC Q r)) (nI bn) (fun I3 f3 r3 => ?_)
          · rw [fq] at r3 ⊢
            refine h1 r bn hrr hb rfl rfl hok I3 (F24.rf.u.tr f3) ?_
            unfold laW
            rw [← la_comm w (by omega) fb]
            exact r3
        · have z3 := (bI_n (frB_le w)).mp v
          refine h0 (no false ?_ rfl)
          unfold laOK
          rw [decide_eq_true z3]
          simp
    · refine And.intro (fun z => absurd rfl z) (fun _ => ?_)
      refine h0 (fun r' bn a1 a2 a3 a4 => ?_)
      have y1 := nI_inj a3 (by omega) (by omega)
      subst y1
      unfold laOK
      rw [hn bn a2 a4]
      simp
  · refine And.intro (fun _ => ?_) (fun z => absurd rfl z)
    exact h0 (fun r bn a1 a2 a3 a4 => absurd a3 (hn r a1))
end
section
-- ===== the class: feet used, bales moved and sold, hours, decades =====
def mvOK (Q : Tld) (w : Rw) (b bn : Nat) : Bool := decide (0 < w (28 + b)) && !(decide (w (52 + b) = nI bn)) && isR Q w bn (w (28 + b))
theorem fe_n {w : Rw} (hw : WR w) (bn : Int32) : (¬ bn = -1 → feR w bn 12 = nI (smF (fjN w bn) 12)) ∧ (bn = -1 → faR w 12 = nI (smF (fjN w bn) 12)) := ⟨fun h => feR_n hw h 12 (Nat.le_refl _), fun h => by rw [h]; exact faR_n hw 12 (Nat.le_refl _)⟩
theorem mn_n {a b : Nat} (ha : a < 2 ^ 31) (hb : b < 2 ^ 31) : (if nI b < nI a then nI b else nI a) = nI (if a < b then a else b) := by
  by_cases c : b < a
  · rw [if_pos ((nlt hb ha).mpr c), if_neg (by omega)]
  · rw [if_neg (fun z => c ((nlt hb ha).mp z))]
    by_cases e : a < b
    · rw [if_pos e]
    · rw [if_neg e]
      congr 1
      omega
theorem hr0_c (w : Rw) : hr0 w = upd (upd (upd (upd (upd w 12 (nI 0)) 13 (nI 0)) 14 (nI 0)) 15 (nI 0)) 64 (w 64 + nI 1) := by
  funext k
  unfold hr0
  by_cases e1 : k = 64
  · subst e1
    rfl
  · rw [upd_n e1 (f := upd (upd (upd (upd w 12 (nI 0)) 13 (nI 0)) 14 (nI 0)) 15 (nI 0))]
    by_cases e2 : k = 15
    · subst e2
      rfl
    rw [upd_n e2, upd_n e2]
    by_cases e3 : k = 14
    · subst e3
      rfl
    rw [upd_n e3, upd_n e3]
    by_cases e4 : k = 13
    · subst e4
      rfl
    rw [upd_n e4, upd_n e4]
    by_cases e5 : k = 12
    · subst e5
      rfl
    rw [upd_n e5, upd_n e5, upd_n e1]
theorem RC.h0 {T : Nat} {w c : Rw} (h : RC T w c) {v : Int32} (e : v = w 64 + nI 1) : RC T (hr0 w) (upd (upd (upd (upd (upd c 12 (nI 0)) 13 (nI 0)) 14 (nI 0)) 15 (nI 0)) 64 v) := by
  rw [hr0_c, e]
  exact ((((h.uh (r := 0) (by decide) _).uh (r := 1) (by decide) _).uh (r := 2) (by decide) _).uh (r := 3) (by decide) _).uk (by decide) _
/-- a bale spoils: both orders -/
theorem RC.spo {T : Nat} {w c c1 : Rw} (hw : WR w) (h : RC T w c) {b s : Nat} (hb : b < 12) (hp : 0 < w (28 + b)) (hs : s ≤ 999) (h1 : RC T (shR w b (nI s)) c1) : RC T (shR (upd w (40 + b) (ltR (nI 99) (w (40 + b) + nI 1))) b (nI s)) (upd c1 (40 + b) (if c1 (40 + b) + nI 1 < nI 99 then c1 (40 + b) + nI 1 else nI 99)) := by
  obtain ⟨a, ea, ha⟩ := hw.len hb
  have e2 : upd w (40 + b) (ltR (nI 99) (w (40 + b) + nI 1)) (28 + b) = nI a := by
    rw [upd_n (by omega)]
    exact ea
  rw [shR_eq e2 ha (by omega)]
  rw [shR_eq ea ha (by omega)] at h1
  have d := (hw (40 + b) (by omega) (by omega)).nw
  rw [bd_5 (by omega) (by omega)] at d
  by_cases k : s < a
  · rw [if_pos k] at h1 ⊢
    have hl : 0 < upd w (28 + b) (nI (a - s)) (28 + b) := by
      rw [upd_s]
      exact (npos (by omega)).mpr (by omega)
    have e40 : c1 (40 + b) = w (40 + b) := by
      rw [((h1.2.2.1 b hb).2 hl).2.1, upd_n (by omega)]
    have ev : (if c1 (40 + b) + nI 1 < nI 99 then c1 (40 + b) + nI 1 else nI 99) = ltR (nI 99) (w (40 + b) + nI 1) := by
      rw [e40, d.1, nI_add, ltR_n (by omega) (by omega)]
      exact mn_n (by omega) (by omega)
    rw [ev]
    refine (h1.ud hb (ltR (nI 99) (w (40 + b) + nI 1))).cg (fun i _ => ?_) (fun _ _ => rfl)
    by_cases z : i = 28 + b
    · subst z
      rw [upd_s, upd_n (by omega), upd_s]
    · rw [upd_n z]
      by_cases y : i = 40 + b
      · subst y
        rw [upd_s, upd_s]
      · rw [upd_n y, upd_n y, upd_n z]
  · rw [if_neg k] at h1 ⊢
    have hz : ¬ 0 < baI (upd w (28 + b) (nI a - nI s)) b (nI 0) (nI 0) (nI 0) (28 + b) := by
      rw [(ba_v hb).2.1]
      decide
    refine (h1.ud0 hb hz _).cg (fun i _ => ?_) (fun _ _ => rfl)
    have v1 := ba_v (w := upd (upd w (40 + b) (ltR (nI 99) (w (40 + b) + nI 1))) (28 + b) (nI a - nI s)) (kd := nI 0) (len := nI 0) (bn := nI 0) hb
    have v2 := ba_v (w := upd w (28 + b) (nI a - nI s)) (kd := nI 0) (len := nI 0) (bn := nI 0) hb
    by_cases z1 : i = 16 + b
    · rw [z1, v1.1, v2.1]
    by_cases z2 : i = 28 + b
    · rw [z2, v1.2.1, v2.2.1]
    by_cases z3 : i = 40 + b
    · rw [z3, v1.2.2.1, v2.2.2.1]
    by_cases z4 : i = 52 + b
    · rw [z4, v1.2.2.2, v2.2.2.2]
    rw [ba_o z1 z2 z3 z4, ba_o z1 z2 z3 z4, upd_n z2, upd_n z3, upd_n z2]
def hlN (w : Rw) : Nat := (999 - nW w 65) * 10 + 9 - nW w 64
theorem hl_c {w : Rw} (hw : WR w) : (0 < hlN w ↔ cnP w = true) ∧ hlN w ≤ 9999 ∧ nI 999 - w 65 = nI (999 - nW w 65) ∧ (nI (999 - nW w 65) * nI 10 + nI 10 - nI 1 - w 64) = nI (hlN w) := by
  have a := (hw 65 (by decide) (by decide)).nw
  have b := (hw 64 (by decide) (by decide)).nw
  have b9 : bdW 64 = 9 := by decide
  have b99 : bdW 65 = 999 := by decide
  unfold hlN
  refine ⟨?_, by omega, ?_, ?_⟩
  · unfold cnP
    rw [a.1, b.1, Bool.or_eq_true, decide_eq_true_iff, decide_eq_true_iff, nlt (by omega) (by omega), nlt (by omega) (by omega)]
    omega
  · rw [a.1, nI_subI (by omega) (by omega)]
  · rw [b.1, nI_mul, nI_add, nI_subI (by omega) (by omega), nI_subI (by omega) (by omega)]
    congr 1
set_option maxRecDepth 100000 in
set_option maxHeartbeats 4000000 in
theorem cw_dark_loop (l : Launch) (d : Nat) (ru ta : Nat) (rs : List XO) (I : XI) (J : XJ) (Rp : XR) (T : Nat) (w : Rw) (hr : RC T w (I 27)) (hw : WR w) (bn : Int32) (hR : Rp (some (.int (bI (dkN w bn 12)))) (shH ru ta rs) I J) : ∀ (m k n : Nat) (o4 : Option Value), k + m = 12 → m < n → xrun xxX10 (some .int) false false (shH ru ta rs).length 0 0 none l (d + 1) tX10_darkest [4] Rp n 4 [some (.ref 26), some (.int bn), some (.int (bI (dkN w bn k))), some (.int (nI k)), o4] [] (shH ru ta rs) I J 0 0 := by
  intro m
  induction m with
  | zero =>
    intro k n o4 hk hn
    obtain ⟨n, rfl⟩ : ∃ n', n = n' + 1 := ⟨n - 1, by omega⟩
    have hk : k = 12 := by omega
    subst hk
    refine xrun_step fun K hK => ?_
    refine And.intro (fun _ => ?_) (fun z => absurd (Int32.le_refl _) z)
    exact hR
  | succ m ih =>
    intro k n o4 hk hn
    obtain ⟨n, rfl⟩ : ∃ n', n = n' + 1 := ⟨n - 1, by omega⟩
    have hd := dkN_le w bn k (by omega)
    have ix0 : ((nI 40) + (nI k)).toNatClampNeg = 40 + k := by rw [show (nI 40) + (nI k) = nI (40 + k) by simp only [nI_add, nI_mul, Nat.zero_add]]; exact nI_clamp (by omega)
    have ix1 : ((nI 52) + (nI k)).toNatClampNeg = 52 + k := by rw [show (nI 52) + (nI k) = nI (52 + k) by simp only [nI_add, nI_mul, Nat.zero_add]]; exact nI_clamp (by omega)
    refine xrun_step fun K hK => ?_
    refine And.intro (fun z => absurd (show nI 12 ≤ nI k from z) (nI_ge (by omega) (by omega))) (fun _ => ?_)
    refine cw_hasBale l d ru ta rs I J _ _ w hr hw (nI k) (fun b hb e hp => ?_) (fun hn => ?_)
    · have eb := nI_inj e (by omega) (by omega)
      subst eb
      have q := (hr.2.2.1 k hb).2 hp
      refine And.intro (fun z => absurd (show (1 : Int32) = 0 from z) (by decide)) (fun _ => ?_)
      refine And.intro (fun (h20 : bn = (-1)) => ?_) (fun (h20 : ¬ (bn = (-1))) => ?_)
      · refine And.intro (fun z => absurd (show nI 1 = 0 from z) (by decide)) (fun _ => ?_)
        refine And.intro (fun (h50 : bI (dkN w bn k) = (-1)) => ?_) (fun (h50 : ¬ (bI (dkN w bn k) = (-1))) => ?_)
        · replace h50 : dkN w bn k = 12 := (bI_n hd.1).mp h50
          refine hK 4 [some (.ref 26), some (.int bn), some (.int (nI k)), some (.int ((nI k) + 1)), some (.int (nI 1))] [] (shH ru ta rs) I J 0 0 ?_
          have e : dkN w bn (k + 1) = k := if_pos ⟨hp, Or.inl h20, Or.inl h50⟩
          rw [nI_1, show nI k = bI (dkN w bn (k + 1)) from by rw [e, bI_b (by omega)]]
          exact ih (k + 1) n _ (by omega) (by omega)
        · replace h50 : ¬ dkN w bn k = 12 := fun z => h50 ((bI_n hd.1).mpr z)
          have ed : bI (dkN w bn k) = nI (dkN w bn k) := bI_b (by omega)
          have ixd : (nI 40 + bI (dkN w bn k)).toNatClampNeg = 40 + dkN w bn k := by rw [ed]; exact ix_c (by omega)
          have vd : vp_in (nI 40 + bI (dkN w bn k)) 69 := by rw [ed]; exact vx_2 (by omega) (by omega)
          have sd := (dkN_s w bn k (by omega) (by omega)).1
          have qd := ((hr.2.2.1 (dkN w bn k) (by omega)).2 sd).2.1
          refine And.intro (show vp_in ((nI 40) + (nI k)) 69 from vx_2 (by omega) (by omega)) ?_
          refine And.intro (show vp_in ((nI 40) + (bI (dkN w bn k))) 69 from vd) ?_
          refine And.intro (fun (h71 : I 27 ((nI 40) + (nI k)).toNatClampNeg ≤ I 27 ((nI 40) + (bI (dkN w bn k))).toNatClampNeg) => ?_) (fun (h71 : ¬ (I 27 ((nI 40) + (nI k)).toNatClampNeg ≤ I 27 ((nI 40) + (bI (dkN w bn k))).toNatClampNeg)) => ?_)
          · replace h71 : I 27 (40 + k) ≤ I 27 ((nI 40) + (bI (dkN w bn k))).toNatClampNeg := by simpa only [ix0, ix1, uI_rd] using h71
            rw [ixd, qd, q.2.1] at h71
            replace h71 : ¬ w (40 + dkN w bn k) < w (40 + k) := Int32.not_lt.mpr h71
            refine hK 4 [some (.ref 26), some (.int bn), some (.int (bI (dkN w bn k))), some (.int ((nI k) + 1)), some (.int (nI 1))] [] (shH ru ta rs) I J 0 0 ?_
            have e : dkN w bn (k + 1) = dkN w bn k := if_neg (fun z => z.2.2.elim h50 h71)
            rw [nI_1, ← e]
            exact ih (k + 1) n _ (by omega) (by omega)
          · replace h71 : ¬ (I 27 (40 + k) ≤ I 27 ((nI 40) + (bI (dkN w bn k))).toNatClampNeg) := by simpa only [ix0, ix1, uI_rd] using h71
            rw [ixd, qd, q.2.1] at h71
            replace h71 : w (40 + dkN w bn k) < w (40 + k) := Int32.not_le.mp h71
            refine hK 4 [some (.ref 26), some (.int bn), some (.int (nI k)), some (.int ((nI k) + 1)), some (.int (nI 1))] [] (shH ru ta rs) I J 0 0 ?_
            have e : dkN w bn (k + 1) = k := if_pos ⟨hp, Or.inl h20, Or.inr h71⟩
            rw [nI_1, show nI k = bI (dkN w bn (k + 1)) from by rw [e, bI_b (by omega)]]
            exact ih (k + 1) n _ (by omega) (by omega)
      · refine And.intro (show vp_in ((nI 52) + (nI k)) 69 from vx_2 (by omega) (by omega)) ?_
        refine And.intro (fun (h33 : ¬ (I 27 ((nI 52) + (nI k)).toNatClampNeg = bn)) => ?_) (fun (h33 : I 27 ((nI 52) + (nI k)).toNatClampNeg = bn) => ?_)
        · replace h33 : ¬ (I 27 (52 + k) = bn) := by simpa only [ix0, ix1, uI_rd] using h33
          rw [q.2.2] at h33
          refine And.intro (fun _ => ?_) (fun z => absurd (show nI 0 = 0 from rfl) z)
          refine hK 4 [some (.ref 26), some (.int bn), some (.int (bI (dkN w bn k))), some (.int ((nI k) + 1)), some (.int (nI 0))] [] (shH ru ta rs) I J 0 0 ?_
          have e : dkN w bn (k + 1) = dkN w bn k := if_neg (fun z => z.2.1.elim h20 h33)
          rw [nI_1, ← e]
          exact ih (k + 1) n _ (by omega) (by omega)
        · replace h33 : I 27 (52 + k) = bn := by simpa only [ix0, ix1, uI_rd] using h33
          rw [q.2.2] at h33
          refine And.intro (fun z => absurd (show nI 1 = 0 from z) (by decide)) (fun _ => ?_)
          refine And.intro (fun (h50 : bI (dkN w bn k) = (-1)) => ?_) (fun (h50 : ¬ (bI (dkN w bn k) = (-1))) => ?_)
          · replace h50 : dkN w bn k = 12 := (bI_n hd.1).mp h50
            refine hK 4 [some (.ref 26), some (.int bn), some (.int (nI k)), some (.int ((nI k) + 1)), some (.int (nI 1))] [] (shH ru ta rs) I J 0 0 ?_
            have e : dkN w bn (k + 1) = k := if_pos ⟨hp, Or.inr h33, Or.inl h50⟩
            rw [nI_1, show nI k = bI (dkN w bn (k + 1)) from by rw [e, bI_b (by omega)]]
            exact ih (k + 1) n _ (by omega) (by omega)
          · replace h50 : ¬ dkN w bn k = 12 := fun z => h50 ((bI_n hd.1).mpr z)
            have ed : bI (dkN w bn k) = nI (dkN w bn k) := bI_b (by omega)
            have ixd : (nI 40 + bI (dkN w bn k)).toNatClampNeg = 40 + dkN w bn k := by rw [ed]; exact ix_c (by omega)
            have vd : vp_in (nI 40 + bI (dkN w bn k)) 69 := by rw [ed]; exact vx_2 (by omega) (by omega)
            have sd := (dkN_s w bn k (by omega) (by omega)).1
            have qd := ((hr.2.2.1 (dkN w bn k) (by omega)).2 sd).2.1
            refine And.intro (show vp_in ((nI 40) + (nI k)) 69 from vx_2 (by omega) (by omega)) ?_
            refine And.intro (show vp_in ((nI 40) + (bI (dkN w bn k))) 69 from vd) ?_
            refine And.intro (fun (h71 : I 27 ((nI 40) + (nI k)).toNatClampNeg ≤ I 27 ((nI 40) + (bI (dkN w bn k))).toNatClampNeg) => ?_) (fun (h71 : ¬ (I 27 ((nI 40) + (nI k)).toNatClampNeg ≤ I 27 ((nI 40) + (bI (dkN w bn k))).toNatClampNeg)) => ?_)
            · replace h71 : I 27 (40 + k) ≤ I 27 ((nI 40) + (bI (dkN w bn k))).toNatClampNeg := by simpa only [ix0, ix1, uI_rd] using h71
              rw [ixd, qd, q.2.1] at h71
              replace h71 : ¬ w (40 + dkN w bn k) < w (40 + k) := Int32.not_lt.mpr h71
              refine hK 4 [some (.ref 26), some (.int bn), some (.int (bI (dkN w bn k))), some (.int ((nI k) + 1)), some (.int (nI 1))] [] (shH ru ta rs) I J 0 0 ?_
              have e : dkN w bn (k + 1) = dkN w bn k := if_neg (fun z => z.2.2.elim h50 h71)
              rw [nI_1, ← e]
              exact ih (k + 1) n _ (by omega) (by omega)
            · replace h71 : ¬ (I 27 (40 + k) ≤ I 27 ((nI 40) + (bI (dkN w bn k))).toNatClampNeg) := by simpa only [ix0, ix1, uI_rd] using h71
              rw [ixd, qd, q.2.1] at h71
              replace h71 : w (40 + dkN w bn k) < w (40 + k) := Int32.not_le.mp h71
              refine hK 4 [some (.ref 26), some (.int bn), some (.int (nI k)), some (.int ((nI k) + 1)), some (.int (nI 1))] [] (shH ru ta rs) I J 0 0 ?_
              have e : dkN w bn (k + 1) = k := if_pos ⟨hp, Or.inr h33, Or.inr h71⟩
              rw [nI_1, show nI k = bI (dkN w bn (k + 1)) from by rw [e, bI_b (by omega)]]
              exact ih (k + 1) n _ (by omega) (by omega)
    · have hp : ¬ 0 < w (28 + k) := hn k (by omega) rfl
      refine And.intro (fun _ => ?_) (fun z => absurd (show (0 : Int32) = 0 from rfl) z)
      refine And.intro (fun _ => ?_) (fun z => absurd (show nI 0 = 0 from rfl) z)
      refine hK 4 [some (.ref 26), some (.int bn), some (.int (bI (dkN w bn k))), some (.int ((nI k) + 1)), some (.int (nI 0))] [] (shH ru ta rs) I J 0 0 ?_
      have e : dkN w bn (k + 1) = dkN w bn k := if_neg (fun z => hp z.1)
      rw [nI_1, ← e]
      exact ih (k + 1) n _ (by omega) (by omega)
set_option maxRecDepth 100000 in
theorem cw_dark (l : Launch) (d : Nat) (ru ta : Nat) (rs : List XO) (I : XI) (J : XJ) (Rp : XR) (T : Nat) (w : Rw) (hr : RC T w (I 27)) (hw : WR w) (bn : Int32) (hR : Rp (some (.int (bI (dkN w bn 12)))) (shH ru ta rs) I J) : xm l (d + 2) 0 0 mX10_darkest [.ref 26, .int bn] (shH ru ta rs) I J Rp := by
  refine xm_ofK 14 (X := xxX10) (t := tX10_darkest) (stop := [4]) (ini := false) xx10 pl10 rfl kX10_darkest (fun h => by cases h) (Nat.le_of_ble_eq_true rfl) (fun K hK => ?_)
  exact hK 4 [some (.ref 26), some (.int bn), some (.int (bI (dkN w bn 0))), some (.int (nI 0)), none] [] _ _ _ _ _ (cw_dark_loop l d ru ta rs I J Rp T w hr hw bn hR 12 0 14 none (by omega) (by omega))
/-- feet in a barn, in all -/
theorem cw_feetN (l : Launch) (d : Nat) (ru ta : Nat) (rs : List XO) (I : XI) (J : XJ) (Rp : XR) (T : Nat) (w : Rw) (hr : RC T w (I 27)) (hw : WR w) (bn : Int32) (hR : Rp (some (.int (nI (smF (fjN w bn) 12)))) (shH ru ta rs) I J) : xm l (d + 1) 0 0 mX10_feetIn [.ref 26, .int bn] (shH ru ta rs) I J Rp := by
  have e := fe_n hw bn
  by_cases c : bn = -1
  · rw [← e.2 c] at hR
    subst c
    exact cw_feetAll l d ru ta rs I J Rp T w hr hw hR
  · rw [← e.1 c] at hR
    exact cw_feetIn l d ru ta rs I J Rp T w hr hw bn c hR
abbrev tfr (l : Launch) (d : Nat) (ru ta : Nat) (rs : List XO) (J : XJ) (Rp : XR) (n : Nat) (x bn y i : Int32) (o5 o6 : Option Value) (I : XI) : Prop := xrun xxX10 (some .boolean) false false (shH ru ta rs).length 0 0 none l (d + 2) tX10_takeFeet [16] Rp n 16 [some (.ref 26), some (.int x), some (.int bn), some (.int y), some (.int i), o5, o6] [] (shH ru ta rs) I J 0 0
set_option maxRecDepth 100000 in
set_option maxHeartbeats 4000000 in
theorem cw_tf_loop (l : Launch) (d : Nat) (ru ta : Nat) (rs : List XO) (I : XI) (J : XJ) (Rp : XR) (T : Nat) (x bn : Int32) (W : Rw) (hR : ∀ I', F24 27 I I' → RC T W (I' 27) → Rp (some (.int 1)) (shH ru ta rs) I' J) : ∀ (m i n y : Nat) (w : Rw) (I1 : XI) (o5 o6 : Option Value), i + m = 12 → m < n → y ≤ 9999 → F24 27 I I1 → RC T w (I1 27) → WR w → usG bn m w (nI y) → usN bn m w (nI y) = W → tfr l d ru ta rs J Rp n x bn (nI y) (nI i) o5 o6 I1 := by
  intro m
  induction m with
  | zero =>
    intro i n y w I1 o5 o6 hi hn hy f hr hw g e
    obtain ⟨n, rfl⟩ : ∃ n', n = n' + 1 := ⟨n - 1, by omega⟩
    have hi : i = 12 := by omega
    subst hi
    refine xrun_step fun K hK => ?_
    refine And.intro (fun _ => ?_) (fun z => absurd (Int32.le_refl _) z)
    refine And.intro (Or.inr rfl) (hR I1 f ?_)
    rw [← e]
    exact hr
  | succ m ih =>
    intro i n y w I1 o5 o6 hi hn hy f hr hw g e
    obtain ⟨n, rfl⟩ : ∃ n', n = n' + 1 := ⟨n - 1, by omega⟩
    refine xrun_step fun K hK => ?_
    refine And.intro (fun z => absurd (show nI 12 ≤ nI i from z) (nI_ge (by omega) (by omega))) (fun _ => ?_)
    refine And.intro (fun (z : nI y ≤ 0) => ?_) (fun (z : ¬ nI y ≤ 0) => ?_)
    · refine And.intro (Or.inr rfl) (hR I1 f ?_)
      have e2 : usN bn (m + 1) w (nI y) = w := if_neg (Int32.not_lt.mpr z)
      rw [← e, e2]
      exact hr
    · have hpos : 0 < nI y := Int32.not_le.mp z
      obtain ⟨g1, g2, g3⟩ := g hpos
      have e2 : usN bn (m + 1) w (nI y) = usN bn m (shR w (dkN w bn 12) (ltR (nI y) (w (28 + dkN w bn 12)))) (nI y - ltR (nI y) (w (28 + dkN w bn 12))) := if_pos hpos
      obtain ⟨a, ea, ha⟩ := hw.len g1
      have ed : bI (dkN w bn 12) = nI (dkN w bn 12) := bI_b g1
      have ixd : (nI 28 + bI (dkN w bn 12)).toNatClampNeg = 28 + dkN w bn 12 := by
        rw [ed]
        exact ix_c (by omega)
      have vd : vp_in (nI 28 + bI (dkN w bn 12)) 69 := by
        rw [ed]
        exact vx_2 (by omega) (by omega)
      rw [ea, ltR_n (by omega) (by omega)] at e2 g3
      have hmn : (if y < a then y else a) ≤ y ∧ (if y < a then y else a) ≤ 999 := by
        split <;> omega
      have emn : (if I1 27 (nI 28 + bI (dkN w bn 12)).toNatClampNeg < nI y then I1 27 (nI 28 + bI (dkN w bn 12)).toNatClampNeg else nI y) = nI (if y < a then y else a) := by
        rw [ixd, hr.len g1, ea]
        exact mn_n (by omega) (by omega)
      rw [nI_subI hmn.1 (by omega)] at e2 g3
      refine cw_dark l d ru ta rs I1 J _ T w hr hw bn ?_
      refine cw_hasBale l (d + 1) ru ta rs I1 J _ T w hr hw (bI (dkN w bn 12)) (fun b hb eb hp => ?_) (fun hn => absurd g2 (hn _ g1 ed))
      refine And.intro (fun z => absurd (show (1 : Int32) = 0 from z) (by decide)) (fun _ => ?_)
      refine And.intro vd ?_
      refine (show xm l (d + 2) 0 0 mX10_shorten [.ref 26, .int (bI (dkN w bn 12)), .int (if I1 27 (nI 28 + bI (dkN w bn 12)).toNatClampNeg < nI y then I1 27 (nI 28 + bI (dkN w bn 12)).toNatClampNeg else nI y)] (shH ru ta rs) I1 J _ from ?_)
      rw [emn]
      refine cw_shorten l d ru ta rs I1 J _ T w hr hw (bI (dkN w bn 12)) (if y < a then y else a) (by omega) (fun b hb eb hp I2 f2 r2 => ?_) (fun hn => absurd g2 (hn _ g1 ed))
      have eb2 : b = dkN w bn 12 := nI_inj (eb.symm.trans ed) (by omega) (by omega)
      subst eb2
      refine hK 16 [some (.ref 26), some (.int x), some (.int bn), some (.int (nI y - (if I1 27 (nI 28 + bI (dkN w bn 12)).toNatClampNeg < nI y then I1 27 (nI 28 + bI (dkN w bn 12)).toNatClampNeg else nI y))), some (.int (nI i + 1)), some (.int (bI (dkN w bn 12))), some (.int (if I1 27 (nI 28 + bI (dkN w bn 12)).toNatClampNeg < nI y then I1 27 (nI 28 + bI (dkN w bn 12)).toNatClampNeg else nI y))] [] (shH ru ta rs) I2 J 0 0 ?_
      rw [emn, nI_1, nI_subI hmn.1 (by omega)]
      exact ih (i + 1) n (y - (if y < a then y else a)) _ I2 _ _ (by omega) (by omega) (by omega) (f.tr f2) r2 (hw.sh g1 (by omega)) g3 (by rw [← e2]; exact e)
set_option maxRecDepth 100000 in
theorem cw_takeFeet (l : Launch) (d : Nat) (ru ta : Nat) (rs : List XO) (I : XI) (J : XJ) (Rp : XR) (T : Nat) (w : Rw) (hr : RC T w (I 27)) (hw : WR w) (x : Nat) (hx : x ≤ 9999) (bn : Int32) (h1 : x ≤ smF (fjN w bn) 12 → ∀ I', F24 27 I I' → RC T (usN bn 12 w (nI x)) (I' 27) → Rp (some (.int 1)) (shH ru ta rs) I' J) (h0 : ¬ x ≤ smF (fjN w bn) 12 → Rp (some (.int 0)) (shH ru ta rs) I J) : xm l (d + 3) 0 0 mX10_takeFeet [.ref 26, .int (nI x), .int bn] (shH ru ta rs) I J Rp := by
  have sl := sm_le hw bn
  refine xm_ofK 14 (X := xxX10) (t := tX10_takeFeet) (stop := [16]) (ini := false) xx10 pl10 rfl kX10_takeFeet (fun h => by cases h) (Nat.le_of_ble_eq_true rfl) (fun K hK => ?_)
  refine cw_feetN l (d + 1) ru ta rs I J _ T w hr hw bn ?_
  refine And.intro (fun (z : nI x ≤ nI (smF (fjN w bn) 12)) => ?_) (fun (z : ¬ nI x ≤ nI (smF (fjN w bn) 12)) => ?_)
  · have z2 := (nle (by omega) (by omega)).mp z
    exact hK 16 [some (.ref 26), some (.int (nI x)), some (.int bn), some (.int (nI x)), some (.int (nI 0)), none, none] [] _ _ _ _ _ (cw_tf_loop l d ru ta rs I J Rp T (nI x) bn _ (h1 z2) 12 0 14 x w I none none (by omega) (by omega) hx F24.rf hr hw (us_12 hw z2) rfl)
  · exact And.intro (Or.inl rfl) (h0 (fun q => z ((nle (by omega) (by omega)).mpr q)))
set_option maxRecDepth 100000 in
set_option maxHeartbeats 4000000 in
theorem cw_carry (l : Launch) (d : Nat) (ru ta : Nat) (rs : List XO) (I : XI) (J : XJ) (Rp : XR) (Q : Tld) (L : Lws) (h : CE I ru Q L) (w : Rw) (hr : RC (qT Q) w (I 27)) (hw : WR w) (x y : Int32) (h1 : ∀ b bn, b < 12 → bn < qB Q → x = nI b → y = nI bn → mvOK Q w b bn = true → ∀ I', F24 27 I I' → RC (qT Q) (upd w (52 + b) (nI bn)) (I' 27) → Rp (some (.int 1)) (shH ru ta rs) I' J) (h0 : (∀ b bn, b < 12 → bn < qB Q → x = nI b → y = nI bn → mvOK Q w b bn = false) → Rp (some (.int 0)) (shH ru ta rs) I J) : xm l (d + 3) 0 0 mX10_carry [.ref 26, .int x, .int y] (shH ru ta rs) I J Rp := by
  have b4 := h.2.1.2.2.1
  refine xm_ofK 0 (X := xxX10) (t := tX10_carry) (stop := []) (ini := false) xx10 pl10 rfl kX10_carry (fun h => by cases h) (Nat.le_of_ble_eq_true rfl) (fun K hK => ?_)
  refine cw_hasBale l (d + 1) ru ta rs I J _ _ w hr hw x (fun b hb e hp => ?_) (fun hn => ?_)
  · subst e
    have q := (hr.2.2.1 b hb).2 hp
    have i52 : (nI 52 + nI b).toNatClampNeg = 52 + b := ix_c (by omega)
    have i28 : (nI 28 + nI b).toNatClampNeg = 28 + b := ix_c (by omega)
    refine And.intro (fun z => absurd (show (1 : Int32) = 0 from z) (by decide)) (fun _ => ?_)
    refine And.intro (show vp_in (nI 52 + nI b) 69 from vx_2 (by omega) (by omega)) ?_
    have no : ∀ bl : Bool, bl = false → (∀ bn, bn < qB Q → y = nI bn → mvOK Q w b bn = bl) → (∀ b' bn', b' < 12 → bn' < qB Q → nI b = nI b' → y = nI bn' → mvOK Q w b' bn' = false) := fun bl e1 e2 b' bn' a1 a2 a3 a4 => by
      have y1 := nI_inj a3 (by omega) (by omega)
      subst y1
      rw [e2 bn' a2 a4, e1]
    refine And.intro (fun (z : I 27 (nI 52 + nI b).toNatClampNeg = y) => ?_) (fun (z : ¬ I 27 (nI 52 + nI b).toNatClampNeg = y) => ?_)
    · rw [i52, q.2.2] at z
      refine And.intro (Or.inl rfl) (h0 (no _ rfl (fun bn hb e => ?_)))
      unfold mvOK
      rw [z, decide_eq_true e]
      simp
    · rw [i52, q.2.2] at z
      refine And.intro (show vp_in (nI 28 + nI b) 69 from vx_2 (by omega) (by omega)) ?_
      refine (show xm l (d + 2) 0 0 mX10_hasRoom [.ref 26, .int y, .int (I 27 (nI 28 + nI b).toNatClampNeg)] (shH ru ta rs) I J _ from ?_)
      rw [i28, hr.len hb]
      refine cw_hasRoom l d ru ta rs I J _ Q L h w hr hw y (w (28 + b)) (fun bn hbn e2 hro => ?_) (fun hn => ?_)
      · subst e2
        refine And.intro (fun _ => ?_) (fun z => absurd (show (1 : Int32) = 0 from z) (by decide))
        refine And.intro (show vp_in (nI 52 + nI b) 69 from vx_2 (by omega) (by omega)) ?_
        have hok : mvOK Q w b bn = true := by
          unfold mvOK
          rw [decide_eq_true hp, decide_eq_false z, hro]
          rfl
        refine And.intro (Or.inr rfl) (h1 b bn hb hbn rfl rfl hok (uI I 27 (nI 52 + nI b).toNatClampNeg (nI bn)) F24.rf.u ?_)
        rw [i52, uI_eq]
        exact hr.un hb _
      · refine And.intro (fun z => absurd rfl z) (fun _ => ?_)
        refine And.intro (Or.inl rfl) (h0 (no _ rfl (fun bn hb e => ?_)))
        unfold mvOK
        rw [hn bn hb e, Bool.and_false]
  · refine And.intro (fun _ => ?_) (fun z => absurd rfl z)
    refine And.intro (Or.inl rfl) (h0 (fun b bn hb _ e _ => ?_))
    unfold mvOK
    rw [decide_eq_false (hn b hb e)]
    rfl
set_option maxRecDepth 100000 in
set_option maxHeartbeats 4000000 in
theorem cw_sellOff (l : Launch) (d : Nat) (ru ta : Nat) (rs : List XO) (I : XI) (J : XJ) (Rp : XR) (Q : Tld) (L : Lws) (h : CE I ru Q L) (w : Rw) (hr : RC (qT Q) w (I 27)) (hw : WR w) (x : Int32) (h1 : ∀ b, b < 12 → x = nI b → 0 < w (28 + b) → ∀ (I' : XI) (J' : XJ), F24 27 I I' → RC (qT Q) (seW L w b) (I' 27) → Rp (some (.int (nI (seR L w b)))) (shH ru ta rs) I' J') (h0 : (∀ b, b < 12 → x = nI b → ¬ 0 < w (28 + b)) → Rp (some (.int (-1))) (shH ru ta rs) I J) : xm l (d + 5) 0 0 mX10_sellOff [.ref 26, .int x] (shH ru ta rs) I J Rp := by
  refine xm_ofK 0 (X := xxX10) (t := tX10_sellOff) (stop := []) (ini := false) xx10 pl10 rfl kX10_sellOff (fun h => by cases h) (Nat.le_of_ble_eq_true rfl) (fun K hK => ?_)
  refine cw_hasBale l (d + 3) ru ta rs I J _ _ w hr hw x (fun b hb e hp => ?_) (fun hn => ?_)
  · subst e
    have i28 : (nI 28 + nI b).toNatClampNeg = 28 + b := ix_c (by omega)
    refine And.intro (fun _ => ?_) (fun z => absurd (show (1 : Int32) = 0 from z) (by decide))
    refine cw_sells l d ru ta rs I J _ Q L h w hr hw b hb hp (fun I1 J1 f1 => ?_)
    refine And.intro (show vp_in (nI 67) 69 from vp_b (by decide)) ?_
    refine And.intro (show vp_in (nI 67) 69 from vp_b (by decide)) ?_
    refine And.intro (show vp_in (nI 28 + nI b) 69 from vx_2 (by omega) (by omega)) ?_
    refine h1 b hb rfl hp (uI (uI I1 27 67 (I1 27 67 + nI (seR L w b))) 27 (nI 28 + nI b).toNatClampNeg (nI 0)) J1 ((F24.n f1).tr F24.rf.u.u) ?_
    rw [i28, uI_eq, uI_eq, f1 27 (by decide), hr.hi (by decide) (by decide)]
    exact (hr.uk (i := 67) (by decide) _).z hb (fun _ _ _ => rfl) _ _
  · refine And.intro (fun z => absurd rfl z) (fun _ => ?_)
    exact h0 hn
set_option maxRecDepth 100000 in
theorem cw_draw (l : Launch) (d : Nat) (ru ta : Nat) (rs : List XO) (I : XI) (J : XJ) (Rp : XR) (T : Nat) (w : Rw) (hr : RC T w (I 27)) (hw : WR w) (v : Int32) (m : Nat) (e : v = nI m) (h0 : 0 < m) (hm : m < 1000) (hR : ∀ I' : XI, F24 27 I I' → RC T (dr w) (I' 27) → Rp (some (.int (nI (dN w m)))) (shH ru ta rs) I' J) : xm l (d + 1) 0 0 mX10_draw [.ref 26, .int v] (shH ru ta rs) I J Rp := by
  subst e
  have e68 : I 27 68 = w 68 := hr.hi (by decide) (by decide)
  refine xm_ofK 0 (X := xxX10) (t := tX10_draw) (stop := []) (ini := false) xx10 pl10 rfl kX10_draw (fun h => by cases h) (Nat.le_of_ble_eq_true rfl) (fun K hK => ?_)
  refine And.intro (fun z => absurd (show nI m ≤ 0 from z) (fun q => by have := (nle0 (by omega)).mp q; omega)) (fun _ => ?_)
  refine And.intro (show vp_in (nI 68) 69 from vp_b (by decide)) ?_
  refine And.intro (show ¬ (nI m = 0) from fun q => by have := (neq0 (by omega)).mp q; omega) ?_
  refine And.intro (show vp_in (nI 68) 69 from vp_b (by decide)) ?_
  refine And.intro (show ¬ (nI 30313 = 0) by decide) ?_
  refine And.intro (show vp_in (nI 68) 69 from vp_b (by decide)) ?_
  have fin := hR (uI I 27 68 (w 68 * nI 287 + nI 191 - (w 68 * nI 287 + nI 191) / nI 30313 * nI 30313)) F24.rf.u (by
    rw [uI_eq]
    exact hr.uk (by decide) _)
  have ed : drv w (nI m) = nI (dN w m) := (hw.dv h0 hm).1
  unfold drv at ed
  rw [← ed, ← e68] at fin
  exact fin
set_option maxRecDepth 100000 in
theorem cw_hoursLeft (l : Launch) (d : Nat) (ru ta : Nat) (rs : List XO) (I : XI) (J : XJ) (Rp : XR) (T : Nat) (w : Rw) (hr : RC T w (I 27)) (hw : WR w) (hR : Rp (some (.int (nI (hlN w)))) (shH ru ta rs) I J) : xm l (d + 1) 0 0 mX10_hoursLeft [.ref 26] (shH ru ta rs) I J Rp := by
  have k := hl_c hw
  refine xm_ofK 0 (X := xxX10) (t := tX10_hoursLeft) (stop := []) (ini := false) xx10 pl10 rfl kX10_hoursLeft (fun h => by cases h) (Nat.le_of_ble_eq_true rfl) (fun K hK => ?_)
  refine And.intro (show vp_in (nI 65) 69 from vp_b (by decide)) ?_
  refine And.intro (show vp_in (nI 64) 69 from vp_b (by decide)) ?_
  rw [← k.2.2.2, ← k.2.2.1, ← hr.hi (k := 65) (by decide) (by decide), ← hr.hi (k := 64) (by decide) (by decide)] at hR
  exact hR
end
section
-- ===== the class: an hour passes; a decade =====
theorem WR.w1 {w : Rw} (h : WR w) (hc : cnP w = true) (e : w 64 + nI 1 = nI 10) : WR (upd (upd (hr0 w) 64 (nI 0)) 65 (hr0 w 65 + nI 1)) := by
  obtain ⟨h1, h65⟩ := h.h0x hc e
  intro k hk h67
  by_cases e : k = 65
  · subst e
    rw [upd_s]
    obtain ⟨n, e, hn⟩ := h1 65 (by decide) (by decide) (by decide)
    have b9 : bdW 65 = 999 := by decide
    rw [e] at h65 ⊢
    have c := (nlt (by omega) (by omega)).mp h65
    rw [nI_add]
    exact okC.mk (by omega)
  · rw [upd_n e]
    by_cases e2 : k = 64
    · subst e2
      rw [upd_s]
      exact okC.mk (Nat.zero_le _)
    · rw [upd_n e2]
      exact h1 k hk h67 e2
theorem dw0_eq {w : Rw} (h : WR (upd (upd w 64 (nI 0)) 65 (w 65 + nI 1))) : upd (dr (upd (upd w 64 (nI 0)) 65 (w 65 + nI 1))) 66 (nI (dN (upd (upd w 64 (nI 0)) 65 (w 65 + nI 1)) 10)) = dw0 w := by
  rw [← (h.dv (m := 10) (by decide) (by decide)).1]
  rfl
theorem WR.sp1 {L : Lws} {w : Rw} (hw : WR w) {b : Nat} (hb : b < 12) (hp : 0 < w (28 + b)) : WR (shR (upd w (40 + b) (ltR (nI 99) (w (40 + b) + nI 1))) b (nI (spR L w b))) := by
  have y := WR.sp (L := L) 1 w b (by omega) hw
  have z : spN L 1 w b = shR (upd w (40 + b) (ltR (nI 99) (w (40 + b) + nI 1))) b (nI (spR L w b)) := if_pos hp
  rw [z] at y
  exact y
theorem WR.gw1 {Q : Tld} {L : Lws} {w : Rw} (hw : WR w) (t8 : qT Q ≤ 8) {t : Nat} (ht : t < 8) (h8 : w 66 < nI 8) : WR (upd w t (ltR (nI 100) (w t + nI (grR Q L w t)))) := by
  have y := WR.gw (Q := Q) (L := L) t8 1 w t (by omega) hw
  have z : gwN Q L 1 w t = upd w t (ltR (nI 100) (w t + nI (grR Q L w t))) := if_pos h8
  rw [z] at y
  exact y
theorem cw_spoils2 (l : Launch) (d : Nat) (ru ta : Nat) (rs : List XO) (I : XI) (J : XJ) (Rp : XR) (Q : Tld) (L : Lws) (h : CE I ru Q L) (w : Rw) (hr : RC (qT Q) w (I 27)) (hw : WR w) (b : Nat) (hb : b < 12) (h1 : 0 < w (28 + b) → ∀ (I' : XI) (J' : XJ), (∀ q, q ≠ 24 → I' q = I q) → Rp (some (.int (nI (spR L w b)))) (shH ru ta rs) I' J') (h0 : ¬ 0 < w (28 + b) → ∀ (I' : XI) (J' : XJ), (∀ q, q ≠ 24 → I' q = I q) → Rp (some (.int (nI 0))) (shH ru ta rs) I' J') : xm l (d + 4) 0 0 mX10_spoilsOf [.ref 26, .int (nI b)] (shH ru ta rs) I J Rp := by
  refine cw_spoils l d ru ta rs I J Rp Q L h w hr hw b hb (fun I' J' f => ?_)
  by_cases c : 0 < w (28 + b)
  · rw [if_pos c]
    exact h1 c I' J' f
  · rw [if_neg c]
    exact h0 c I' J' f
abbrev phr (l : Launch) (d : Nat) (ru ta : Nat) (rs : List XO) (J : XJ) (Rp : XR) (n pc : Nat) (k : Nat) (I : XI) : Prop := xrun xxX10 (some .boolean) false false (shH ru ta rs).length 0 0 none l (d + 4) tX10_passHour [91, 155] Rp n pc [some (.ref 26), some (.int (nI k))] [] (shH ru ta rs) I J 0 0
set_option maxRecDepth 100000 in
set_option maxHeartbeats 4000000 in
theorem cw_day2 (l : Launch) (d : Nat) (ru ta : Nat) (rs : List XO) (I : XI) (J : XJ) (Rp : XR) (Q : Tld) (L : Lws) (h : CE I ru Q L) (W : Rw) (hR : ∀ (I' : XI) (J' : XJ), F24 27 I I' → RC (qT Q) W (I' 27) → Rp (some (.int 1)) (shH ru ta rs) I' J') : ∀ (m b n : Nat) (J : XJ) (I1 : XI) (w : Rw), b + m = 12 → m < n → F24 27 I I1 → RC (qT Q) w (I1 27) → WR w → spN L m w b = W → phr l d ru ta rs J Rp n 155 b I1 := by
  intro m
  induction m with
  | zero =>
    intro b n J I1 w hb hn f hr hw e
    obtain ⟨n, rfl⟩ : ∃ n', n = n' + 1 := ⟨n - 1, by omega⟩
    have hb : b = 12 := by omega
    subst hb
    refine xrun_step fun K hK => ?_
    refine And.intro (fun _ => ?_) (fun z => absurd (Int32.le_refl _) z)
    refine And.intro (Or.inr rfl) (hR I1 J f ?_)
    rw [← e]
    exact hr
  | succ m ih =>
    intro b n J I1 w hb hn f hr hw e
    obtain ⟨n, rfl⟩ : ∃ n', n = n' + 1 := ⟨n - 1, by omega⟩
    have i40 : (nI 40 + nI b).toNatClampNeg = 40 + b := ix_c (by omega)
    have v40 : vp_in (nI 40 + nI b) 69 := vx_2 (by omega) (by omega)
    refine xrun_step fun K hK => ?_
    refine And.intro (fun z => absurd (show nI 12 ≤ nI b from z) (nI_ge (by omega) (by omega))) (fun _ => ?_)
    refine cw_spoils2 l d ru ta rs I1 J _ Q L (h.k27 f) w hr hw b (by omega) (fun hp I2 J2 f2 => ?_) (fun hp I2 J2 f2 => ?_)
    · have r2 : RC (qT Q) w (I2 27) := by rw [f2 27 (by decide)]; exact hr
      have sl := spR_le (L := L) (w := w) (b := b)
      have e2 : spN L (m + 1) w b = spN L m (shR (upd w (40 + b) (ltR (nI 99) (w (40 + b) + nI 1))) b (nI (spR L w b))) (b + 1) := if_pos hp
      refine cw_shorten l (d + 2) ru ta rs I2 J2 _ _ w r2 hw (nI b) (spR L w b) (by omega) (fun b' hb' eb _ I3 f3 r3 => ?_) (fun hn => absurd hp (hn b (by omega) rfl))
      refine And.intro v40 ?_
      refine And.intro v40 ?_
      refine hK 155 [some (.ref 26), some (.int (nI b + 1))] [] (shH ru ta rs) (uI I3 27 (nI 40 + nI b).toNatClampNeg (if I3 27 (nI 40 + nI b).toNatClampNeg + nI 1 < nI 99 then I3 27 (nI 40 + nI b).toNatClampNeg + nI 1 else nI 99)) J2 0 0 ?_
      rw [nI_1, i40]
      have eb := nI_inj eb (by omega) (by omega)
      subst eb
      refine ih (b + 1) n J2 _ _ (by omega) (by omega) (f.tr ((F24.n f2).tr (f3.tr F24.rf.u))) ?_ (WR.sp1 (L := L) hw (by omega) hp) (by rw [← e2]; exact e)
      rw [uI_eq]
      exact RC.spo hw hr (by omega) hp sl r3
    · have r2 : RC (qT Q) w (I2 27) := by rw [f2 27 (by decide)]; exact hr
      have e2 : spN L (m + 1) w b = spN L m w (b + 1) := if_neg hp
      refine cw_shorten l (d + 2) ru ta rs I2 J2 _ _ w r2 hw (nI b) 0 (by omega) (fun b' hb' eb hp' I3 f3 r3 => ?_) (fun hn => ?_)
      · have eb := nI_inj eb (by omega) (by omega)
        subst eb
        exact absurd hp' hp
      · refine And.intro v40 ?_
        refine And.intro v40 ?_
        refine hK 155 [some (.ref 26), some (.int (nI b + 1))] [] (shH ru ta rs) (uI I2 27 (nI 40 + nI b).toNatClampNeg (if I2 27 (nI 40 + nI b).toNatClampNeg + nI 1 < nI 99 then I2 27 (nI 40 + nI b).toNatClampNeg + nI 1 else nI 99)) J2 0 0 ?_
        rw [nI_1, i40]
        refine ih (b + 1) n J2 _ w (by omega) (by omega) (f.tr ((F24.n f2).tr F24.rf.u)) ?_ hw (by rw [← e2]; exact e)
        rw [uI_eq]
        exact r2.ud0 (by omega) hp _
set_option maxRecDepth 100000 in
set_option maxHeartbeats 4000000 in
theorem cw_day1 (l : Launch) (d : Nat) (ru ta : Nat) (rs : List XO) (I : XI) (J : XJ) (Rp : XR) (Q : Tld) (L : Lws) (h : CE I ru Q L) (W : Rw) (hR : ∀ (I' : XI) (J' : XJ), F24 27 I I' → RC (qT Q) W (I' 27) → Rp (some (.int 1)) (shH ru ta rs) I' J') : ∀ (m t n : Nat) (J : XJ) (I1 : XI) (w : Rw), t + m = qT Q → m + 14 < n → F24 27 I I1 → RC (qT Q) w (I1 27) → WR w → spN L 12 (gwN Q L m w t) 0 = W → phr l d ru ta rs J Rp n 91 t I1 := by
  have t8 := h.2.1.1
  intro m
  induction m with
  | zero =>
    intro t n J I1 w ht hn f hr hw e
    obtain ⟨n, rfl⟩ : ∃ n', n = n' + 1 := ⟨n - 1, by omega⟩
    have ht : t = qT Q := by omega
    subst ht
    have eT : I1 12 5 = nI (qT Q) := (h.k27 f).1.1
    refine xrun_step fun K hK => ?_
    refine And.intro (fun _ => ?_) (fun z => absurd (show I1 12 5 ≤ nI (qT Q) from by rw [eT]; exact Int32.le_refl _) z)
    exact hK 155 [some (.ref 26), some (.int (nI 0))] [] _ I1 J 0 0 (cw_day2 l d ru ta rs I J Rp Q L h W hR 12 0 n J I1 w (by omega) (by omega) f hr hw e)
  | succ m ih =>
    intro t n J I1 w ht hn f hr hw e
    obtain ⟨n, rfl⟩ : ∃ n', n = n' + 1 := ⟨n - 1, by omega⟩
    have eT : I1 12 5 = nI (qT Q) := (h.k27 f).1.1
    have e66 : I1 27 66 = w 66 := hr.hi (by decide) (by decide)
    have it : (nI 0 + nI t).toNatClampNeg = t := by rw [nI_add, Nat.zero_add]; exact nI_clamp (by omega)
    have vt : vp_in (nI 0 + nI t) 69 := vx_2 (by omega) (by omega)
    refine xrun_step fun K hK => ?_
    refine And.intro (fun z => absurd (show I1 12 5 ≤ nI t from z) (by rw [eT]; exact nI_ge (by omega) (by omega))) (fun _ => ?_)
    refine And.intro (fun z => absurd (show nI 8 ≤ nI t from z) (nI_ge (by omega) (by omega))) (fun _ => ?_)
    refine And.intro (show vp_in (nI 66) 69 from vp_b (by decide)) ?_
    refine And.intro (fun (z : nI 8 ≤ I1 27 66) => ?_) (fun (z : ¬ nI 8 ≤ I1 27 66) => ?_)
    · rw [e66] at z
      have e2 : gwN Q L (m + 1) w t = w := if_neg (Int32.not_lt.mpr z)
      exact hK 155 [some (.ref 26), some (.int (nI 0))] [] _ I1 J 0 0 (cw_day2 l d ru ta rs I J Rp Q L h W hR 12 0 n J I1 w (by omega) (by omega) f hr hw (by rw [e2] at e; exact e))
    · rw [e66] at z
      have z8 := Int32.not_le.mp z
      have e2 : gwN Q L (m + 1) w t = gwN Q L m (upd w t (ltR (nI 100) (w t + nI (grR Q L w t)))) (t + 1) := if_pos z8
      refine And.intro vt ?_
      refine cw_grows l d ru ta rs I1 J _ Q L (h.k27 f) w hr hw t (by omega) (fun I2 J2 f2 => ?_)
      refine And.intro vt ?_
      refine hK 91 [some (.ref 26), some (.int (nI t + 1))] [] (shH ru ta rs) (uI I2 27 (nI 0 + nI t).toNatClampNeg (if I1 27 (nI 0 + nI t).toNatClampNeg + nI (grR Q L w t) < nI 100 then I1 27 (nI 0 + nI t).toNatClampNeg + nI (grR Q L w t) else nI 100)) J2 0 0 ?_
      have g := (hw t (by omega) (by omega)).nw
      rw [bd_1 (by omega)] at g
      have gl := grR_le (Q := Q) (L := L) (w := w) (t := t)
      have ev : (if I1 27 t + nI (grR Q L w t) < nI 100 then I1 27 t + nI (grR Q L w t) else nI 100) = ltR (nI 100) (w t + nI (grR Q L w t)) := by
        rw [hr.t (by omega) (by omega), g.1, nI_add, ltR_n (by omega) (by omega)]
        exact mn_n (by omega) (by omega)
      rw [nI_1, it, ev]
      refine ih (t + 1) n J2 _ _ (by omega) (by omega) (f.tr ((F24.n f2).tr F24.rf.u)) ?_ (WR.gw1 (Q := Q) (L := L) (t := t) hw t8 (by omega) z8) (by rw [← e2]; exact e)
      rw [uI_eq, f2 27 (by decide)]
      exact hr.ut (by omega) (by omega) _
set_option maxRecDepth 100000 in
set_option maxHeartbeats 8000000 in
theorem cw_passHour (l : Launch) (d : Nat) (ru ta : Nat) (rs : List XO) (I : XI) (J : XJ) (Rp : XR) (Q : Tld) (L : Lws) (h : CE I ru Q L) (w : Rw) (hr : RC (qT Q) w (I 27)) (hw : WR w) (h1 : cnP w = true → ∀ (I' : XI) (J' : XJ), F24 27 I I' → RC (qT Q) (hrR Q L w) (I' 27) → Rp (some (.int 1)) (shH ru ta rs) I' J') (h0 : cnP w = false → Rp (some (.int 0)) (shH ru ta rs) I J) : xm l (d + 5) 0 0 mX10_passHour [.ref 26] (shH ru ta rs) I J Rp := by
  refine xm_ofK 40 (X := xxX10) (t := tX10_passHour) (stop := [91, 155]) (ini := false) xx10 pl10 rfl kX10_passHour (fun h => by cases h) (Nat.le_of_ble_eq_true rfl) (fun K hK => ?_)
  refine cw_hoursLeft l (d + 3) ru ta rs I J _ _ w hr hw ?_
  refine And.intro (fun (hh4 : 0 < nI (hlN w)) => ?_) (fun (hh4 : ¬ (0 < nI (hlN w))) => ?_)
  · have hc : cnP w = true := (hl_c hw).1.mp ((npos (by have := (hl_c hw).2.1; omega)).mp hh4)
    refine And.intro (fun z => absurd (show nI 4 ≤ nI 0 from z) (by decide)) (fun _ => ?_)
    refine And.intro (show vp_in ((nI 12) + (nI 0)) 69 from vp_b (by decide)) ?_
    refine And.intro (fun z => absurd (show nI 4 ≤ (nI 0) + 1 from z) (by decide)) (fun _ => ?_)
    refine And.intro (show vp_in ((nI 12) + ((nI 0) + 1)) 69 from vp_b (by decide)) ?_
    refine And.intro (fun z => absurd (show nI 4 ≤ ((nI 0) + 1) + 1 from z) (by decide)) (fun _ => ?_)
    refine And.intro (show vp_in ((nI 12) + (((nI 0) + 1) + 1)) 69 from vp_b (by decide)) ?_
    refine And.intro (fun z => absurd (show nI 4 ≤ (((nI 0) + 1) + 1) + 1 from z) (by decide)) (fun _ => ?_)
    refine And.intro (show vp_in ((nI 12) + ((((nI 0) + 1) + 1) + 1)) 69 from vp_b (by decide)) ?_
    refine And.intro (fun _ => ?_) (fun z => absurd (show nI 4 ≤ ((((nI 0) + 1) + 1) + 1) + 1 from by decide) z)
    refine And.intro (show vp_in (nI 64) 69 from vp_b (by decide)) ?_
    refine And.intro (show vp_in (nI 64) 69 from vp_b (by decide)) ?_
    refine And.intro (show vp_in (nI 64) 69 from vp_b (by decide)) ?_
    refine And.intro (fun (h52 : nI 10 ≤ (I 27 64) + (nI 1)) => ?_) (fun (h52 : ¬ (nI 10 ≤ (I 27 64) + (nI 1))) => ?_)
    · have rH : RC (qT Q) (hr0 w) ((uI (uI (uI (uI (uI I 27 12 (nI 0)) 27 13 (nI 0)) 27 14 (nI 0)) 27 15 (nI 0)) 27 64 ((I 27 64) + (nI 1))) 27) := by
        rw [uI_eq, uI_eq, uI_eq, uI_eq, uI_eq]
        exact hr.h0 (by rw [hr.hi (by decide) (by decide)])
      have e10 : w 64 + nI 1 = nI 10 := by
        rw [hr.hi (by decide) (by decide)] at h52
        have g := (hw 64 (by decide) (by decide)).nw
        have b9 : bdW 64 = 9 := by decide
        rw [g.1, nI_add] at h52 ⊢
        have := (nle (by omega) (by omega)).mp h52
        congr 1
        omega
      refine And.intro (show vp_in (nI 64) 69 from vp_b (by decide)) ?_
      refine And.intro (show vp_in (nI 65) 69 from vp_b (by decide)) ?_
      refine And.intro (show vp_in (nI 65) 69 from vp_b (by decide)) ?_
      refine cw_draw l (d + 3) ru ta rs (uI (uI (uI (uI (uI (uI (uI I 27 12 (nI 0)) 27 13 (nI 0)) 27 14 (nI 0)) 27 15 (nI 0)) 27 64 ((I 27 64) + (nI 1))) 27 64 (nI 0)) 27 65 ((I 27 65) + (nI 1))) J _ (qT Q) (upd (upd (hr0 w) 64 (nI 0)) 65 (hr0 w 65 + nI 1)) ?_ (hw.w1 hc e10) (nI 10) 10 rfl (by decide) (by decide) (fun I1 f1 r1 => ?_)
      · rw [uI_eq, uI_eq]
        have y := (rH.uk (i := 64) (by decide) (nI 0)).uk (i := 65) (by decide) (hr0 w 65 + nI 1)
        have e65 : I 27 65 = hr0 w 65 := hr.hi (by decide) (by decide)
        rw [← e65] at y
        rw [← e65]
        exact y
      refine And.intro (show vp_in (nI 66) 69 from vp_b (by decide)) ?_
      refine hK 91 [some (.ref 26), some (.int (nI 0))] [] (shH ru ta rs) (uI I1 27 66 (nI (dN (upd (upd (hr0 w) 64 (nI 0)) 65 (hr0 w 65 + nI 1)) 10))) J 0 0 ?_
      refine cw_day1 l d ru ta rs I J Rp Q L h (hrR Q L w) (h1 hc) (qT Q) 0 40 J _ (dw0 (hr0 w)) (by omega) (by have := h.2.1.1; omega) (F24.rf.u.u.u.u.u.u.u.tr f1.u) ?_ (hw.w0 hc e10) ?_
      · rw [uI_eq, ← dw0_eq (hw.w1 hc e10)]
        exact r1.uk (by decide) _
      · unfold hrR
        rw [if_pos e10]
        rfl
    · have rH : RC (qT Q) (hr0 w) ((uI (uI (uI (uI (uI I 27 12 (nI 0)) 27 13 (nI 0)) 27 14 (nI 0)) 27 15 (nI 0)) 27 64 ((I 27 64) + (nI 1))) 27) := by
        rw [uI_eq, uI_eq, uI_eq, uI_eq, uI_eq]
        exact hr.h0 (by rw [hr.hi (by decide) (by decide)])
      have e10 : ¬ w 64 + nI 1 = nI 10 := fun z => by
        rw [hr.hi (by decide) (by decide), z] at h52
        exact h52 (Int32.le_refl _)
      refine And.intro (Or.inr rfl) ?_
      refine h1 hc (uI (uI (uI (uI (uI I 27 12 (nI 0)) 27 13 (nI 0)) 27 14 (nI 0)) 27 15 (nI 0)) 27 64 ((I 27 64) + (nI 1))) J F24.rf.u.u.u.u.u ?_
      unfold hrR
      rw [if_neg e10]
      exact rH
  · have hc : cnP w = false := by
      cases e : cnP w with
      | false => rfl
      | true => exact absurd ((npos (by have := (hl_c hw).2.1; omega)).mpr ((hl_c hw).1.mpr e)) hh4
    refine And.intro (Or.inl rfl) ?_
    exact h0 hc
set_option maxRecDepth 100000 in
set_option maxHeartbeats 8000000 in
theorem cw_decade (l : Launch) (d : Nat) (ru ta : Nat) (rs : List XO) (I : XI) (J : XJ) (Rp : XR) (Q : Tld) (L : Lws) (h : CE I ru Q L) (w : Rw) (hr : RC (qT Q) w (I 27)) (hw : WR w) (t0 : 0 < qT Q) (r0 : 0 < qR Q) (b0 : 0 < qB Q) (hR : ∀ (I' : XI) (J' : XJ), F24 27 I I' → RC (qT Q) (hpR Q L w) (I' 27) → Rp none (shH ru ta rs) I' J') : xm l (d + 7) 0 0 mX10_passDecade [.ref 26] (shH ru ta rs) I J Rp := by
  have t8 := h.2.1.1
  have r4 := h.2.1.2.1
  have b4 := h.2.1.2.2.1
  refine xm_ofK 0 (X := xxX10) (t := tX10_passDecade) (stop := []) (ini := false) xx10 pl10 rfl kX10_passDecade (fun h => by cases h) (Nat.le_of_ble_eq_true rfl) (fun K hK => ?_)
  have n6 : dN w 6 < 6 := (hw.dv (m := 6) (by decide) (by decide)).2
  refine cw_draw l (d + 5) ru ta rs I J _ _ w hr hw (nI 6) 6 rfl (by decide) (by decide) (fun I1 f1 r1 => ?_)
  have w1 := hw.d
  have h1 := h.k27 f1
  refine And.intro (fun (z : ¬ nI (dN w 6) = 0) => ?_) (fun (z : nI (dN w 6) = 0) => ?_)
  · have z0 : ¬ dN w 6 = 0 := fun q => z ((neq0 (by omega)).mpr q)
    refine And.intro (fun (y : ¬ nI (dN w 6) = nI 1) => ?_) (fun (y : nI (dN w 6) = nI 1) => ?_)
    · have y1 : ¬ dN w 6 = 1 := fun q => y (by rw [q])
      refine And.intro (fun (v : ¬ nI (dN w 6) = nI 2) => ?_) (fun (v : nI (dN w 6) = nI 2) => ?_)
      · have y2 : ¬ dN w 6 = 2 := fun q => v (by rw [q])
        have eW : hpR Q L w = ptR Q L 1 (dr w) := by
          unfold hpR
          rw [if_neg z0, if_neg y1, if_neg y2]
        refine cw_passHour l (d + 1) ru ta rs I1 J _ Q L h1 (dr w) r1 w1 (fun hc I2 J2 f2 r2 => ?_) (fun hc => ?_)
        · refine hR I2 J2 (f1.tr f2) ?_
          have e : ptR Q L 1 (dr w) = hrR Q L (dr w) := if_pos hc
          rw [eW, e]
          exact r2
        · refine hR I1 J f1 ?_
          have e : ptR Q L 1 (dr w) = dr w := if_neg (by rw [hc]; decide)
          rw [eW, e]
          exact r1
      · have y2 : dN w 6 = 2 := nI_inj v (by omega) (by omega)
        have eW : hpR Q L w = hp2 (dr w) := by
          unfold hpR
          rw [if_neg z0, if_neg y1, if_pos y2]
        have n12 := (w1.dv (m := 12) (by decide) (by decide)).2
        refine cw_draw l (d + 5) ru ta rs I1 J _ _ _ r1 w1 (nI 12) 12 rfl (by decide) (by decide) (fun I2 f2 r2 => ?_)
        have n20 := w1.d.dv (m := 20) (by decide) (by decide)
        refine cw_draw l (d + 5) ru ta rs I2 J _ _ _ r2 w1.d (nI 20) 20 rfl (by decide) (by decide) (fun I3 f3 r3 => ?_)
        refine (show xm l (d + 6) 0 0 mX10_shorten [.ref 26, .int (nI (dN (dr w) 12)), .int (nI 1 + nI (dN (dr (dr w)) 20))] (shH ru ta rs) I3 J _ from ?_)
        rw [nI_add]
        refine cw_shorten l (d + 4) ru ta rs I3 J _ _ _ r3 w1.d.d (nI (dN (dr w) 12)) (1 + dN (dr (dr w)) 20) (by omega) (fun b hb e hp I4 f4 r4 => ?_) (fun hn => ?_)
        · have e := nI_inj e (by omega) (by omega)
          subst e
          refine hR I4 J (f1.tr (f2.tr (f3.tr f4))) ?_
          rw [eW]
          unfold hp2
          rw [if_pos hp, n20.1, nI_add]
          exact r4
        · refine hR I3 J (f1.tr (f2.tr f3)) ?_
          rw [eW]
          unfold hp2
          rw [if_neg (hn _ n12 rfl)]
          exact r3
    · have y1 : dN w 6 = 1 := nI_inj y (by omega) (by omega)
      have eW : hpR Q L w = hp1 L (dr w) := by
        unfold hpR
        rw [if_neg z0, if_pos y1]
      have n12 := (w1.dv (m := 12) (by decide) (by decide)).2
      refine cw_draw l (d + 5) ru ta rs I1 J _ _ _ r1 w1 (nI 12) 12 rfl (by decide) (by decide) (fun I2 f2 r2 => ?_)
      refine cw_sellOff l (d + 1) ru ta rs I2 J _ Q L (h.k27 (f1.tr f2)) _ r2 w1.d (nI (dN (dr w) 12)) (fun b hb e hp I3 J3 f3 r3 => ?_) (fun hn => ?_)
      · have e := nI_inj e (by omega) (by omega)
        subst e
        refine hR I3 J3 (f1.tr (f2.tr f3)) ?_
        rw [eW]
        unfold hp1
        rw [if_pos hp]
        exact r3
      · refine hR I2 J (f1.tr f2) ?_
        rw [eW]
        unfold hp1
        rw [if_neg (hn _ n12 rfl)]
        exact r2
  · have z0 : dN w 6 = 0 := (neq0 (by omega)).mp z
    have eW : hpR Q L w = hp0 Q L (dr w) := by
      unfold hpR
      rw [if_pos z0]
    refine cw_draw l (d + 5) ru ta rs I1 J _ _ _ r1 w1 _ (qT Q) h1.1.1 t0 (by omega) (fun I2 f2 r2 => ?_)
    have h2 := h1.k27 f2
    refine cw_draw l (d + 5) ru ta rs I2 J _ _ _ r2 w1.d _ (qR Q) h2.1.2.1 r0 (by omega) (fun I3 f3 r3 => ?_)
    have h3 := h2.k27 f3
    refine cw_draw l (d + 5) ru ta rs I3 J _ _ _ r3 w1.d.d _ (qB Q) h3.1.2.2.1 b0 (by omega) (fun I4 f4 r4 => ?_)
    have h4 := h3.k27 f4
    refine cw_cutOff l d ru ta rs I4 J _ Q L h4 _ r4 w1.d.d.d _ _ _ (w1.dv t0 (by omega)).2 (w1.d.dv r0 (by omega)).2 (w1.d.d.dv b0 (by omega)).2 (fun I5 J5 f5 r5 => ?_)
    refine hR I5 J5 (f1.tr (f2.tr (f3.tr (f4.tr f5)))) ?_
    rw [eW]
    exact r5
end
section
-- ===== all of a state that worlds hang on; what the doing calls make of it =====
/-- what is told; the world; how many steps; the worlds ahead of them -/
abbrev Ast : Type := Tld × Rw × Nat × (Nat → Rw)
abbrev oQ (A : Ast) : Tld := A.1
abbrev oW (A : Ast) : Rw := A.2.1
abbrev oN (A : Ast) : Nat := A.2.2.1
abbrev oF (A : Ast) : Nat → Rw := A.2.2.2
def pN (n : Nat) : Nat := if n = 30 then 30 else n + 1
def pF (n : Nat) (f : Nat → Rw) (w : Rw) : Nat → Rw := fun k => if n = 30 then (if k = 29 then w else f (k + 1)) else (if k = n then w else f k)
def stp (A : Ast) (w' : Rw) : Ast := (oQ A, w', pN (oN A), pF (oN A) (oF A) (oW A))
/-- everything in range -/
def AOK (A : Ast) : Prop := TOK (oQ A) ∧ WR (oW A) ∧ oN A ≤ 30 ∧ ∀ k, k < oN A → WR (oF A k)
theorem pN_le {n : Nat} (h : n ≤ 30) : pN n ≤ 30 := by
  unfold pN
  split <;> omega
theorem AOK.stp {A : Ast} {w' : Rw} (h : AOK A) (hw : WR w') : AOK (stp A w') := by
  obtain ⟨h1, h2, h3, h4⟩ := h
  refine ⟨h1, hw, pN_le h3, fun k hk => ?_⟩
  show WR (pF (oN A) (oF A) (oW A) k)
  have hk : k < pN (oN A) := hk
  unfold pN at hk
  unfold pF
  by_cases c : oN A = 30
  · rw [if_pos c] at hk ⊢
    by_cases e : k = 29
    · rw [if_pos e]
      exact h2
    · rw [if_neg e]
      exact h4 (k + 1) (by omega)
  · rw [if_neg c] at hk ⊢
    by_cases e : k = oN A
    · rw [if_pos e]
      exact h2
    · rw [if_neg e]
      exact h4 k (by omega)
-- the class's steps
def SC (T n : Nat) (f : Nat → Rw) (I : XI) : Prop := n ≤ 30 ∧ ∃ first, first < 31 ∧ I 1 1 = nI first ∧ I 1 2 = nI n ∧ ∀ k, k < n → RC T (f k) (fun j => I 2 ((first + k) % 31 * 69 + j))
/-- as a step is noted: a row that none of the steps has -/
theorem SC.note {T n first : Nat} {f : Nat → Rw} {I I1 : XI} (h : SC T n f I) (e1 : I 1 1 = nI first) (hf : first < 31) (g1 : I1 1 = I 1) (g2 : I1 2 = va_cpy (I 27) (I 2) 0 ((first + n) % 31 * 69) 69) : SC T n f I1 := by
  obtain ⟨hn, fi, hfi, a, b, c⟩ := h
  have : fi = first := nI_inj (a.symm.trans e1) (by omega) (by omega)
  subst this
  refine ⟨hn, fi, hf, by rw [g1]; exact a, by rw [g1]; exact b, fun k hk => ?_⟩
  refine (c k hk).cg (fun _ _ => rfl) (fun j hj => ?_)
  show I1 2 _ = I 2 _
  rw [g2]
  simp only [va_cpy]
  rw [if_neg (by omega)]
theorem SC.push {T n first : Nat} {f : Nat → Rw} {w : Rw} {I I1 : XI} (h : SC T n f I) (e1 : I 1 1 = nI first) (hf : first < 31) (g2 : I1 2 = va_cpy (I 27) (I 2) 0 ((first + n) % 31 * 69) 69) (hr : RC T w (I 27)) (hp : (n < 30 → I1 1 1 = nI first ∧ I1 1 2 = nI (n + 1)) ∧ (n = 30 → I1 1 1 = nI ((first + 1) % 31) ∧ I1 1 2 = nI 30)) : SC T (pN n) (pF n f w) I1 := by
  obtain ⟨hn, fi, hfi, a, b, c⟩ := h
  have : fi = first := nI_inj (a.symm.trans e1) (by omega) (by omega)
  subst this
  refine ⟨pN_le hn, ?_⟩
  unfold pN pF
  by_cases c30 : n = 30
  · obtain ⟨q1, q2⟩ := hp.2 c30
    refine ⟨(fi + 1) % 31, by omega, q1, by rw [if_pos c30]; exact q2, fun k hk => ?_⟩
    rw [if_pos c30] at hk
    show RC T (if n = 30 then _ else _) _
    rw [if_pos c30]
    by_cases e : k = 29
    · rw [if_pos e]
      refine hr.cg (fun _ _ => rfl) (fun j hj => ?_)
      show I1 2 _ = I 27 j
      rw [g2]
      simp only [va_cpy]
      rw [if_pos (by omega)]
      congr 1
      omega
    · rw [if_neg e]
      refine (c (k + 1) (by omega)).cg (fun _ _ => rfl) (fun j hj => ?_)
      show I1 2 _ = I 2 _
      rw [g2]
      simp only [va_cpy]
      rw [if_neg (by omega)]
      congr 1
      omega
  · obtain ⟨q1, q2⟩ := hp.1 (by omega)
    refine ⟨fi, hfi, q1, by rw [if_neg c30]; exact q2, fun k hk => ?_⟩
    rw [if_neg c30] at hk
    show RC T (if n = 30 then _ else _) _
    rw [if_neg c30]
    by_cases e : k = n
    · rw [if_pos e]
      refine hr.cg (fun _ _ => rfl) (fun j hj => ?_)
      show I1 2 _ = I 27 j
      rw [g2]
      simp only [va_cpy]
      rw [if_pos (by omega)]
      congr 1
      omega
    · rw [if_neg e]
      refine (c k (by omega)).cg (fun _ _ => rfl) (fun j hj => ?_)
      show I1 2 _ = I 2 _
      rw [g2]
      simp only [va_cpy]
      rw [if_neg (by omega)]
-- the reference's steps
def SM (n : Nat) (f : Nat → Rw) (I : XI) : Prop := n ≤ 30 ∧ I 68 5 = nI n ∧ ∀ k j, k < n → j < 69 → I 68 (130 + 69 * k + j) = f k j
-- both sides
def CA (I : XI) (ru : Nat) (L : Lws) (A : Ast) : Prop := CE I ru (oQ A) L ∧ RC (qT (oQ A)) (oW A) (I 27) ∧ SC (qT (oQ A)) (oN A) (oF A) I
def MA (I : XI) (L : Lws) (A : Ast) : Prop := RE I (oQ A) L ∧ wLay I = oW A ∧ SM (oN A) (oF A) I
def FCl (I I' : XI) : Prop := ∀ q, q ≠ 1 → q ≠ 2 → (q < 12 ∨ 17 < q) → q ≠ 24 → q ≠ 27 → I' q = I q
def R68 (I : XI) : Prop := ∀ j, inI (cellI CF 68 j) (I 68 j).toInt
/-- the ranges that rows 68 and 93 keep -/
def RG (I : XI) : Prop := R68 I ∧ ∀ j, inI (cellI CF 93 j) (I 93 j).toInt
def FMl (I I' : XI) : Prop := (∀ q, q ≠ 68 → q ≠ 91 → q ≠ 93 → I' q = I q) ∧ (∀ k, k = 3 ∨ k = 4 ∨ k = 6 ∨ (42 ≤ k ∧ k < 60) → I' 68 k = I 68 k) ∧ (RG I → RG I')
theorem FCl.rf {I : XI} : FCl I I := fun _ _ _ _ _ _ => rfl
theorem FCl.tr {I I1 I2 : XI} (h : FCl I I1) (g : FCl I1 I2) : FCl I I2 := fun q a b c d e => (g q a b c d e).trans (h q a b c d e)
theorem FCl.w {I I1 : XI} (h : F24 27 I I1) : FCl I I1 := fun q _ _ _ d e => h q d e
theorem cells_w : (∀ b, b < 12 → cellI CF 93 (28 + b) = (0, 999) ∧ cellI CF 68 (88 + b) = (0, 999)) ∧ ∀ k, k < 69 → (28 ≤ k ∧ k < 40) ∨ cellI CF 68 (60 + k) = fr := by decide +kernel
theorem WR.r93 {w : Rw} (h : WR w) (j : Nat) : inI (cellI CF 93 j) (w j).toInt := by
  by_cases c : 28 ≤ j ∧ j < 40
  · have e := (cells_w.1 (j - 28) (by omega)).1
    rw [show 28 + (j - 28) = j by omega] at e
    obtain ⟨n, en, hn⟩ := h j (by omega) (by omega)
    rw [bd_4 c.1 c.2] at hn
    rw [e, en, nI_toInt (by omega)]
    exact ⟨by dsimp only; omega, by dsimp only; omega⟩
  · rw [cell_93 j (by omega)]
    exact inI_fr _
theorem WR.r68 {w : Rw} (h : WR w) {k : Nat} (hk : k < 69) : inI (cellI CF 68 (60 + k)) (w k).toInt := by
  rcases cells_w.2 k hk with c | c
  · have e := (cells_w.1 (k - 28) (by omega)).2
    rw [show 88 + (k - 28) = 60 + k by omega] at e
    obtain ⟨n, en, hn⟩ := h k hk (by omega)
    rw [bd_4 c.1 c.2] at hn
    rw [e, en, nI_toInt (by omega)]
    exact ⟨by dsimp only; omega, by dsimp only; omega⟩
  · rw [c]
    exact inI_fr _
theorem FMl.rf {I : XI} : FMl I I := ⟨fun _ _ _ _ => rfl, fun _ _ => rfl, fun h => h⟩
theorem FMl.tr {I I1 I2 : XI} (h : FMl I I1) (g : FMl I1 I2) : FMl I I2 := ⟨fun q a b c => (g.1 q a b c).trans (h.1 q a b c), fun k hk => (g.2.1 k hk).trans (h.2.1 k hk), fun r => g.2.2 (h.2.2 r)⟩
theorem FMl.f {I I1 : XI} (h : F93 I I1) (w : WR (I1 93)) : FMl I I1 := ⟨fun q _ b c => h q b c, fun k _ => congrFun (h 68 (by decide) (by decide)) k, fun r => ⟨fun j => by rw [h 68 (by decide) (by decide)]; exact r.1 j, w.r93⟩⟩
-- what the calls make
def vIn (x : Int32) (n : Nat) : Bool := decide (0 ≤ x) && decide (x < nI n)
theorem vIn_t {x : Int32} {n : Nat} (hn : n < 2 ^ 31) (h : vIn x n = true) : ∃ k, k < n ∧ x = nI k ∧ x.toNatClampNeg = k := by
  unfold vIn at h
  rw [Bool.and_eq_true, decide_eq_true_iff, decide_eq_true_iff] at h
  obtain ⟨k, e, hk⟩ := nn_of (Int32.not_lt.mpr h.1)
  refine ⟨k, ?_, e, by rw [e]; exact nI_clamp hk⟩
  rw [e] at h
  exact (nlt hk hn).mp h.2
theorem vIn_n {k n : Nat} (hn : n < 2 ^ 31) (h : k < n) : vIn (nI k) n = true := by
  unfold vIn
  rw [decide_eq_true (show (0 : Int32) ≤ nI k from (nle (a := 0) (by omega) (by omega)).mpr (Nat.zero_le k)), decide_eq_true ((nlt (by omega) hn).mpr h)]
  rfl
theorem vIn_f {x : Int32} {n : Nat} (hn : n < 2 ^ 31) (h : vIn x n = false) : ∀ k, k < n → x ≠ nI k := fun k hk e => by
  rw [e, vIn_n hn hk] at h
  cases h
/-- a number from lo to hi -/
def rIn (x : Int32) (lo hi : Nat) : Bool := decide (nI lo ≤ x) && decide (x ≤ nI hi)
theorem rIn_t {x : Int32} {lo hi : Nat} (hi31 : hi < 2 ^ 31) (hl : lo ≤ hi) (h : rIn x lo hi = true) : ∃ k, lo ≤ k ∧ k ≤ hi ∧ x = nI k ∧ x.toNatClampNeg = k := by
  unfold rIn at h
  rw [Bool.and_eq_true, decide_eq_true_iff, decide_eq_true_iff] at h
  have h0 : ¬ x < 0 := by
    intro z
    have a := Int32.le_iff_toInt_le.mp h.1
    have b := Int32.lt_iff_toInt_lt.mp z
    rw [nI_toInt (by omega)] at a
    rw [show (0 : Int32).toInt = 0 from rfl] at b
    omega
  obtain ⟨k, e, hk⟩ := nn_of h0
  rw [e] at h
  exact ⟨k, (nle (by omega) hk).mp h.1, (nle hk hi31).mp h.2, e, by rw [e]; exact nI_clamp hk⟩
theorem rIn_p {x : Int32} {lo hi : Nat} : rIn x lo hi = true ↔ (nI lo ≤ x ∧ x ≤ nI hi) := by
  unfold rIn
  rw [Bool.and_eq_true, decide_eq_true_iff, decide_eq_true_iff]
def cutS (L : Lws) (A : Ast) (x y z : Int32) : Int32 × Ast := if (vIn x (qT (oQ A)) && vIn y (qR (oQ A)) && vIn z (qB (oQ A)) && cuOK (oQ A) L (oW A) x.toNatClampNeg y.toNatClampNeg z.toNatClampNeg) = true then (nI (frB (oW A)), stp A (cuW (oQ A) L (oW A) x.toNatClampNeg y.toNatClampNeg z.toNatClampNeg)) else (-1, A)
def lastS (A : Ast) (x y : Int32) : Int32 × Ast := if (vIn x (qR (oQ A)) && vIn y (qB (oQ A)) && laOK (oQ A) (oW A) x.toNatClampNeg y.toNatClampNeg) = true then (nI (frB (oW A)), stp A (laW (oQ A) (oW A) x.toNatClampNeg y.toNatClampNeg)) else (-1, A)
def useS (A : Ast) (x y : Int32) : Int32 × Ast := if (rIn x 1 999 && vIn y (qB (oQ A)) && decide (x.toNatClampNeg ≤ smF (fjN (oW A) y) 12)) = true then (feR (usN y 12 (oW A) x) y 12, stp A (usN y 12 (oW A) x)) else (-1, A)
def moveS (A : Ast) (x y : Int32) : Int32 × Ast := if (vIn x 12 && vIn y (qB (oQ A)) && mvOK (oQ A) (oW A) x.toNatClampNeg y.toNatClampNeg) = true then (1, stp A (upd (oW A) (52 + x.toNatClampNeg) y)) else (0, A)
def sellS (L : Lws) (A : Ast) (x : Int32) : Int32 × Ast := if (vIn x 12 && decide (0 < oW A (28 + x.toNatClampNeg))) = true then (nI (seR L (oW A) x.toNatClampNeg), stp A (seW L (oW A) x.toNatClampNeg)) else (-1, A)
/-- so many hours, those that can pass; how many did -/
def phS (L : Lws) : Nat → Ast → Ast
  | 0, A => A
  | k + 1, A => if cnP (oW A) = true then phS L k (stp A (hrR (oQ A) L (oW A))) else A
def phC (L : Lws) : Nat → Ast → Nat
  | 0, _ => 0
  | k + 1, A => if cnP (oW A) = true then phC L k (stp A (hrR (oQ A) L (oW A))) + 1 else 0
def hourS (L : Lws) (A : Ast) (x : Int32) : Int32 × Ast := if (rIn x 1 60 && decide (x.toNatClampNeg ≤ hlN (oW A))) = true then (oW (phS L x.toNatClampNeg A) 64, phS L x.toNatClampNeg A) else (-1, A)
def decS (L : Lws) (A : Ast) (x y : Int32) : Int32 × Ast := if (rIn x 0 9999 && rIn y 1 30 && !(decide (qT (oQ A) = 0)) && !(decide (qR (oQ A) = 0)) && !(decide (qB (oQ A) = 0))) = true then (hpN (oQ A) L y.toNatClampNeg (upd (oW A) 68 (x * nI 2 + nI 83)) 67, stp A (hpN (oQ A) L y.toNatClampNeg (upd (oW A) 68 (x * nI 2 + nI 83)))) else (-1, A)
def ptF (f : Nat → Nat) (t v : Nat) : Nat → Nat := fun s => if s = t then v else f s
def thQ (Q : Tld) (h k o : Nat) : Tld := ((qT Q + 1, qR Q, qB Q), ptF (qH Q) (qT Q) h, ptF (qK Q) (qT Q) k, ptF (qO Q) (qT Q) o, qC Q, qM Q)
def reQ (Q : Tld) (c : Nat) : Tld := ((qT Q, qR Q + 1, qB Q), qH Q, qK Q, qO Q, ptF (qC Q) (qR Q) c, qM Q)
def baQ (Q : Tld) (m : Nat) : Tld := ((qT Q, qR Q, qB Q + 1), qH Q, qK Q, qO Q, qC Q, ptF (qM Q) (qB Q) m)
def thS (A : Ast) (x y z : Int32) : Int32 × Ast := if (rIn x 1 99 && rIn y 0 5 && rIn z 0 4 && decide (qT (oQ A) < 8)) = true then (nI (qT (oQ A)), (thQ (oQ A) x.toNatClampNeg y.toNatClampNeg z.toNatClampNeg, upd (oW A) (qT (oQ A)) (nI 100), oN A, fun k => upd (oF A k) (qT (oQ A)) (nI 100))) else (-1, A)
def reS (A : Ast) (x : Int32) : Int32 × Ast := if (rIn x 1 99 && decide (qR (oQ A) < 4)) = true then (nI (qR (oQ A)), (reQ (oQ A) x.toNatClampNeg, oW A, oN A, oF A)) else (-1, A)
def baS (A : Ast) (x : Int32) : Int32 × Ast := if (rIn x 1 999 && decide (qB (oQ A) < 4)) = true then (nI (qB (oQ A)), (baQ (oQ A) x.toNatClampNeg, oW A, oN A, oF A)) else (-1, A)
-- they keep the ranges
theorem AOK.cut {L : Lws} {A : Ast} (h : AOK A) (x y z : Int32) : AOK (cutS L A x y z).2 := by
  unfold cutS
  split
  · rename_i c
    simp only [Bool.and_eq_true] at c
    obtain ⟨⟨⟨c1, c2⟩, c3⟩, c4⟩ := c
    have q := h.1
    obtain ⟨t, ht, _, e1⟩ := vIn_t (by have := q.1; omega) c1
    obtain ⟨r, hr, _, e2⟩ := vIn_t (by have := q.2.1; omega) c2
    obtain ⟨b, hb, _, e3⟩ := vIn_t (by have := q.2.2.1; omega) c3
    rw [e1, e2, e3] at c4 ⊢
    exact h.stp (h.2.1.cW q ht hr hb c4)
  · exact h
theorem AOK.last {A : Ast} (h : AOK A) (x y : Int32) : AOK (lastS A x y).2 := by
  unfold lastS
  split
  · rename_i c
    simp only [Bool.and_eq_true] at c
    obtain ⟨⟨c1, c2⟩, c3⟩ := c
    have q := h.1
    obtain ⟨r, hr, _, e1⟩ := vIn_t (by have := q.2.1; omega) c1
    obtain ⟨b, hb, _, e2⟩ := vIn_t (by have := q.2.2.1; omega) c2
    rw [e1, e2] at c3 ⊢
    exact h.stp (h.2.1.la q hr hb c3)
  · exact h
theorem WR.us {bn : Int32} : ∀ (n : Nat) (w : Rw) (x : Nat), x ≤ 9999 → WR w → usG bn n w (nI x) → WR (usN bn n w (nI x))
  | 0, w, x, _, h, _ => h
  | n + 1, w, x, hx, h, g => by
    unfold usN
    split
    · rename_i c
      obtain ⟨g1, g2, g3⟩ := g c
      obtain ⟨a, ea, ha⟩ := h.len g1
      rw [ea, ltR_n (by omega) (by omega)] at g3 ⊢
      have hm : (if x < a then x else a) ≤ x ∧ (if x < a then x else a) ≤ 999 := by split <;> omega
      rw [nI_subI hm.1 (by omega)] at g3 ⊢
      exact WR.us n _ _ (by omega) (h.sh g1 (by omega)) g3
    · exact h
theorem AOK.use {A : Ast} (h : AOK A) (x y : Int32) : AOK (useS A x y).2 := by
  unfold useS
  split
  · rename_i c
    simp only [Bool.and_eq_true, decide_eq_true_iff] at c
    obtain ⟨⟨c1, c2⟩, c3⟩ := c
    obtain ⟨k, k1, k2, e, e2⟩ := rIn_t (by omega) (by omega) c1
    rw [e2] at c3
    rw [e]
    exact h.stp (WR.us 12 _ k (by omega) h.2.1 (us_12 h.2.1 c3))
  · exact h
theorem AOK.move {A : Ast} (h : AOK A) (x y : Int32) : AOK (moveS A x y).2 := by
  unfold moveS
  split
  · rename_i c
    simp only [Bool.and_eq_true] at c
    obtain ⟨⟨c1, c2⟩, c3⟩ := c
    have q := h.1.2.2.1
    obtain ⟨b, hb, _, e1⟩ := vIn_t (by omega) c1
    obtain ⟨n, hn, e, e2⟩ := vIn_t (by omega) c2
    rw [e1, e]
    exact h.stp (h.2.1.u (fun _ _ => okC.mk (by rw [bd_6 (by omega) (by omega)]; omega)))
  · exact h
theorem AOK.sell {L : Lws} {A : Ast} (h : AOK A) (x : Int32) : AOK (sellS L A x).2 := by
  unfold sellS
  split
  · rename_i c
    simp only [Bool.and_eq_true] at c
    obtain ⟨b, hb, _, e1⟩ := vIn_t (by omega) c.1
    rw [e1]
    exact h.stp (h.2.1.se hb)
  · exact h
theorem AOK.ph {L : Lws} : ∀ (k : Nat) {A : Ast}, AOK A → AOK (phS L k A)
  | 0, _, h => h
  | k + 1, A, h => by
    unfold phS
    split
    · exact AOK.ph k (h.stp (h.2.1.hr h.1.1 (by assumption)))
    · exact h
theorem AOK.hour {L : Lws} {A : Ast} (h : AOK A) (x : Int32) : AOK (hourS L A x).2 := by
  unfold hourS
  split
  · exact AOK.ph _ h
  · exact h
theorem AOK.dec {L : Lws} {A : Ast} (h : AOK A) (x y : Int32) : AOK (decS L A x y).2 := by
  unfold decS
  split
  · rename_i c
    simp only [Bool.and_eq_true, Bool.not_eq_true', decide_eq_false_iff_not] at c
    obtain ⟨⟨⟨⟨c1, c2⟩, c3⟩, c4⟩, c5⟩ := c
    obtain ⟨k, k1, k2, e, e2⟩ := rIn_t (by omega) (by omega) c1
    rw [e]
    refine h.stp (WR.hN h.1 (by omega) (by omega) (by omega) _ _ (h.2.1.u (fun _ _ => ?_)))
    rw [nI_mul, nI_add]
    exact okC.mk (by have z : bdW 68 = 30312 := by decide
                     omega)
  · exact h
theorem AOK.re {A : Ast} (h : AOK A) (x : Int32) : AOK (reS A x).2 := by
  unfold reS
  split
  · rename_i c
    simp only [Bool.and_eq_true, decide_eq_true_iff] at c
    obtain ⟨k, k1, k2, e, e2⟩ := rIn_t (by omega) (by omega) c.1
    obtain ⟨⟨q1, q2, q3, q4, q5, q6⟩, h2, h3, h4⟩ := h
    refine ⟨⟨q1, ?_, q3, q4, fun r hr => ?_, q6⟩, h2, h3, h4⟩
    · show qR (oQ A) + 1 ≤ 4
      omega
    · show 1 ≤ ptF (qC (oQ A)) (qR (oQ A)) _ r ∧ ptF (qC (oQ A)) (qR (oQ A)) _ r ≤ 99
      have hr : r < qR (oQ A) + 1 := hr
      unfold ptF
      rw [e2]
      by_cases z : r = qR (oQ A)
      · rw [if_pos z]
        omega
      · rw [if_neg z]
        exact q5 r (by omega)
  · exact h
theorem AOK.ba {A : Ast} (h : AOK A) (x : Int32) : AOK (baS A x).2 := by
  unfold baS
  split
  · rename_i c
    simp only [Bool.and_eq_true, decide_eq_true_iff] at c
    obtain ⟨k, k1, k2, e, e2⟩ := rIn_t (by omega) (by omega) c.1
    obtain ⟨⟨q1, q2, q3, q4, q5, q6⟩, h2, h3, h4⟩ := h
    refine ⟨⟨q1, q2, ?_, q4, q5, fun r hr => ?_⟩, h2, h3, h4⟩
    · show qB (oQ A) + 1 ≤ 4
      omega
    · show 1 ≤ ptF (qM (oQ A)) (qB (oQ A)) _ r ∧ ptF (qM (oQ A)) (qB (oQ A)) _ r ≤ 999
      have hr : r < qB (oQ A) + 1 := hr
      unfold ptF
      rw [e2]
      by_cases z : r = qB (oQ A)
      · rw [if_pos z]
        omega
      · rw [if_neg z]
        exact q6 r (by omega)
  · exact h
theorem AOK.th {A : Ast} (h : AOK A) (x y z : Int32) : AOK (thS A x y z).2 := by
  unfold thS
  split
  · rename_i c
    simp only [Bool.and_eq_true, decide_eq_true_iff] at c
    obtain ⟨⟨⟨c1, c2⟩, c3⟩, c4⟩ := c
    obtain ⟨i, i1, i2, _, ei⟩ := rIn_t (by omega) (by omega) c1
    obtain ⟨j, j1, j2, _, ej⟩ := rIn_t (by omega) (by omega) c2
    obtain ⟨k, k1, k2, _, ek⟩ := rIn_t (by omega) (by omega) c3
    obtain ⟨⟨q1, q2, q3, q4, q5, q6⟩, h2, h3, h4⟩ := h
    have ok : okC (qT (oQ A)) (nI 100) := okC.mk (by rw [bd_1 c4]; omega)
    refine ⟨⟨?_, q2, q3, fun t ht => ?_, q5, q6⟩, h2.u (fun _ _ => ok), h3, fun m hm => (h4 m hm).u (fun _ _ => ok)⟩
    · show qT (oQ A) + 1 ≤ 8
      omega
    · have ht : t < qT (oQ A) + 1 := ht
      show 1 ≤ ptF (qH (oQ A)) (qT (oQ A)) _ t ∧ ptF (qH (oQ A)) (qT (oQ A)) _ t ≤ 99 ∧ ptF (qK (oQ A)) (qT (oQ A)) _ t ≤ 5 ∧ ptF (qO (oQ A)) (qT (oQ A)) _ t ≤ 4
      unfold ptF
      rw [ei, ej, ek]
      by_cases e : t = qT (oQ A)
      · rw [if_pos e, if_pos e, if_pos e]
        omega
      · rw [if_neg e, if_neg e, if_neg e]
        exact q4 t (by omega)
  · exact h
end
section
-- ===== the class: steps; the doing calls =====
theorem nmod {a b : Nat} (ha : a < 2 ^ 31) (h0 : 0 < b) (hb : b < 2 ^ 31) : nI a - nI a / nI b * nI b = nI (a % b) := by
  have h1 : a / b * b ≤ a := Nat.div_mul_le_self _ _
  rw [ndiv ha h0 hb, nI_mul, nI_subI h1 ha]
  congr 1
  have := Nat.div_add_mod a b
  rw [Nat.mul_comm] at this
  omega
set_option maxRecDepth 100000 in
theorem cs_place (l : Launch) (d : Nat) (ru ta : Nat) (rs : List XO) (I : XI) (J : XJ) (Rp : XR) (p : Nat) (hp : p = 1 ∨ p = 8) (first k : Nat) (e1 : I p 1 = nI first) (hf : first < 31) (hk : k ≤ 31) (hR : Rp (some (.int (nI ((first + k) % 31 * 69)))) (shH ru ta rs) I J) : xm l (d + 1) 0 0 mX6_placeOf [.ref p, .int (nI k)] (shH ru ta rs) I J Rp := by
  have ev : (I p 1 + nI k - (I p 1 + nI k) / nI 31 * nI 31) * nI 69 = nI ((first + k) % 31 * 69) := by
    rw [e1, nI_add, nmod (by omega) (by omega) (by omega), nI_mul]
  rw [← ev] at hR
  rcases hp with rfl | rfl
  all_goals
    refine xm_ofK 0 (X := xxX6) (t := tX6_placeOf) (stop := []) (ini := false) xx6 pl6 rfl kX6_placeOf (fun h => by cases h) (Nat.le_of_ble_eq_true rfl) (fun K hK => ?_)
    refine And.intro (show ¬ (nI 31 = 0) by decide) ?_
    exact hR
set_option maxRecDepth 100000 in
theorem cs_note (l : Launch) (d : Nat) (ru ta : Nat) (rs : List XO) (I : XI) (J : XJ) (Rp : XR) (T n : Nat) (f : Nat → Rw) (h : SC T n f I) (hR : ∀ first, first < 31 → I 1 1 = nI first → Rp none (shH ru ta rs) (cI I 27 2 0 ((first + n) % 31 * 69) 69) J) : xm l (d + 2) 0 0 mX6_note [.ref 1, .ref 27] (shH ru ta rs) I J Rp := by
  obtain ⟨hn, first, hf, e1, e2, _⟩ := h
  have hR := hR first hf e1
  have hs : (first + n) % 31 * 69 ≤ 2070 := by omega
  have z0 : (nI 0).toNatClampNeg = 0 := by decide
  have z69 : (nI 69).toNatClampNeg = 69 := by decide
  have zs : (nI ((first + n) % 31 * 69)).toNatClampNeg = (first + n) % 31 * 69 := nI_clamp (by omega)
  refine xm_ofK 0 (X := xxX6) (t := tX6_note) (stop := []) (ini := false) xx6 pl6 rfl kX6_note (fun h => by cases h) (Nat.le_of_ble_eq_true rfl) (fun K hK => ?_)
  refine (show xm l (d + 1) 0 0 mX6_placeOf [.ref 1, .int (I 1 2)] (shH ru ta rs) I J _ from ?_)
  rw [e2]
  refine cs_place l d ru ta rs I J _ 1 (Or.inl rfl) first n e1 hf (by omega) ?_
  refine And.intro (fun z => absurd (show nI 69 = nI 69 from rfl) z) (fun _ => ?_)
  refine And.intro (fun z => absurd (show nI ((first + n) % 31 * 69) < 0 from z) (nI_nn (by omega))) (fun _ => ?_)
  refine And.intro (fun z => absurd (show nI 2139 < nI ((first + n) % 31 * 69) + nI 69 from z) (by
    rw [nI_add, nlt (by omega) (by omega)]
    omega)) (fun _ => ?_)
  have q : ¬ nI 0 < 0 ∧ ¬ nI ((first + n) % 31 * 69) < 0 ∧ ¬ nI 69 < 0 ∧ (nI 0).toNatClampNeg + (nI 69).toNatClampNeg ≤ 69 ∧ (nI ((first + n) % 31 * 69)).toNatClampNeg + (nI 69).toNatClampNeg ≤ 2139 := ⟨by decide, nI_nn (by omega), by decide, by decide, by rw [zs, z69]; omega⟩
  refine And.intro q ?_
  rw [← zs, ← z69] at hR
  exact hR
set_option maxRecDepth 100000 in
theorem cs_count (l : Launch) (d : Nat) (ru ta : Nat) (rs : List XO) (I : XI) (J : XJ) (Rp : XR) (n first : Nat) (hn : n ≤ 30) (e1 : I 1 1 = nI first) (hf : first < 31) (e2 : I 1 2 = nI n) (hR : ∀ I', (∀ q, q ≠ 1 → I' q = I q) → (n < 30 → I' 1 1 = nI first ∧ I' 1 2 = nI (n + 1)) ∧ (n = 30 → I' 1 1 = nI ((first + 1) % 31) ∧ I' 1 2 = nI 30) → Rp none (shH ru ta rs) I' J) : xm l (d + 1) 0 0 mX6_count [.ref 1] (shH ru ta rs) I J Rp := by
  refine xm_ofK 0 (X := xxX6) (t := tX6_count) (stop := []) (ini := false) xx6 pl6 rfl kX6_count (fun h => by cases h) (Nat.le_of_ble_eq_true rfl) (fun K hK => ?_)
  refine And.intro (fun (z : nI 30 ≤ I 1 2) => ?_) (fun (z : ¬ nI 30 ≤ I 1 2) => ?_)
  · rw [e2, nle (by omega) (by omega)] at z
    refine And.intro (show ¬ (nI 31 = 0) by decide) ?_
    refine hR (uI I 1 1 (I 1 1 + nI 1 - (I 1 1 + nI 1) / nI 31 * nI 31)) (fun q hq => uI_ne hq) ⟨fun y => by omega, fun _ => ?_⟩
    rw [uI_atC, uI_atC, if_pos rfl, if_neg (by decide), e1, e2, nI_add, nmod (by omega) (by omega) (by omega), show n = 30 by omega]
    exact ⟨rfl, rfl⟩
  · rw [e2, nle (by omega) (by omega)] at z
    refine hR (uI I 1 2 (I 1 2 + nI 1)) (fun q hq => uI_ne hq) ⟨fun _ => ?_, fun y => by omega⟩
    rw [uI_atC, uI_atC, if_pos rfl, if_neg (by decide), e2, nI_add]
    exact ⟨e1, rfl⟩
theorem CE.fc {I I' : XI} {ru : Nat} {Q : Tld} {L : Lws} (f : ∀ q, q ≠ 1 → q ≠ 2 → q ≠ 24 → q ≠ 27 → I' q = I q) (h : CE I ru Q L) : CE I' ru Q L := h.keep (fun q hq => f q (by omega) (by omega) (by omega) (by omega))
/-- a call that notes a step, and counts it where it does something -/
theorem cs_done {T n first : Nat} {f : Nat → Rw} {w : Rw} {I I1 I2 : XI} (h : SC T n f I) (e1 : I 1 1 = nI first) (hf : first < 31) (hr : RC T w (I 27)) (k1 : F24 27 (cI I 27 2 0 ((first + n) % 31 * 69) 69) I1) : SC T n f I1 ∧ I1 1 1 = nI first ∧ I1 1 2 = nI n ∧ (∀ q, q ≠ 1 → q ≠ 2 → q ≠ 24 → q ≠ 27 → I1 q = I q) ∧ I1 2 = va_cpy (I 27) (I 2) 0 ((first + n) % 31 * 69) 69 := by
  have g2 : I1 2 = va_cpy (I 27) (I 2) 0 ((first + n) % 31 * 69) 69 := by rw [k1 2 (by decide) (by decide), cI_eq]
  have g1 : I1 1 = I 1 := by rw [k1 1 (by decide) (by decide), cI_ne (by decide)]
  refine ⟨h.note e1 hf g1 g2, by rw [g1]; exact e1, ?_, fun q a b c d => ?_, g2⟩
  · rw [g1]
    obtain ⟨_, fi, _, _, b, _⟩ := h
    exact b
  · rw [k1 q c d, cI_ne b]
theorem SC.psh {T n first : Nat} {f : Nat → Rw} {w : Rw} {I I1 I2 : XI} (h : SC T n f I) (e1 : I 1 1 = nI first) (hf : first < 31) (hr : RC T w (I 27)) (g2 : I1 2 = va_cpy (I 27) (I 2) 0 ((first + n) % 31 * 69) 69) (k2 : ∀ q, q ≠ 1 → I2 q = I1 q) (hp : (n < 30 → I2 1 1 = nI first ∧ I2 1 2 = nI (n + 1)) ∧ (n = 30 → I2 1 1 = nI ((first + 1) % 31) ∧ I2 1 2 = nI 30)) : SC T (pN n) (pF n f w) I2 := h.push e1 hf (by rw [k2 2 (by decide)]; exact g2) hr hp
set_option maxRecDepth 100000 in
set_option maxHeartbeats 4000000 in
/-- a cut that can't be asked for -/
theorem cw_cutOffX (l : Launch) (d : Nat) (ru ta : Nat) (rs : List XO) (I : XI) (J : XJ) (Rp : XR) (Q : Tld) (L : Lws) (h : CE I ru Q L) (w : Rw) (hr : RC (qT Q) w (I 27)) (hw : WR w) (x y z : Int32) (hv : (vIn x (qT Q) && vIn y (qR Q) && vIn z (qB Q)) = false) (hR : ∀ (I' : XI) (J' : XJ), (∀ q, q ≠ 24 → I' q = I q) → Rp (some (.int (-1))) (shH ru ta rs) I' J') : xm l (d + 6) 0 0 mX10_cutOff [.ref 26, .int x, .int y, .int z] (shH ru ta rs) I J Rp := by
  have t8 := h.2.1.1
  have r4 := h.2.1.2.1
  have b4 := h.2.1.2.2.1
  refine xm_ofK 0 (X := xxX10) (t := tX10_cutOff) (stop := []) (ini := false) xx10 pl10 rfl kX10_cutOff (fun h => by cases h) (Nat.le_of_ble_eq_true rfl) (fun K hK => ?_)
  -- its length is 0
  have len : ∀ Rq : XR, Rq (some (.int (nI 0))) (shH ru ta rs) I J → xm l (d + 5) 0 0 mX10_cutLength [.ref 26, .int x, .int y, .int z] (shH ru ta rs) I J Rq := by
    intro Rq hq
    refine xm_ofK 0 (X := xxX10) (t := tX10_cutLength) (stop := []) (ini := false) xx10 pl10 rfl kX10_cutLength (fun h => by cases h) (Nat.le_of_ble_eq_true rfl) (fun K hK => ?_)
    refine cc_hasThing l (d + 3) ru ta rs I J _ Q L h x (fun t ht e => ?_) (fun hn => ?_)
    · refine And.intro (fun z => absurd (show (1 : Int32) = 0 from z) (by decide)) (fun _ => ?_)
      refine cc_hasReaper l (d + 3) ru ta rs I J _ Q L h y (fun r hr e2 => ?_) (fun hn => ?_)
      · refine And.intro (fun z => absurd (show (1 : Int32) = 0 from z) (by decide)) (fun _ => ?_)
        refine cc_hasBarn l (d + 3) ru ta rs I J _ Q L h z (fun b hb e3 => ?_) (fun hn => ?_)
        · exfalso
          rw [e, e2, e3, vIn_n (by omega) ht, vIn_n (by omega) hr, vIn_n (by omega) hb] at hv
          exact absurd hv (by decide)
        · refine And.intro (fun z => absurd rfl z) (fun _ => hq)
      · refine And.intro (fun _ => hq) (fun z => absurd rfl z)
    · refine And.intro (fun _ => hq) (fun z => absurd rfl z)
  refine len _ ?_
  -- whatever its shadow
  have sha : ∀ Rq : XR, (∀ (v : Int32) (I' : XI) (J' : XJ), (∀ q, q ≠ 24 → I' q = I q) → Rq (some (.int v)) (shH ru ta rs) I' J') → xm l (d + 5) 0 0 mX10_shadowOf [.ref 26, .int x] (shH ru ta rs) I J Rq := by
    intro Rq hq
    cases e : vIn x (qT Q) with
    | true =>
      obtain ⟨t, ht, ex, _⟩ := vIn_t (by omega) e
      subst ex
      exact cw_shadow l (d + 1) ru ta rs I J Rq Q L h w hr hw t ht (fun I' J' f => hq _ I' J' f)
    | false =>
      refine xm_ofK 0 (X := xxX10) (t := tX10_shadowOf) (stop := []) (ini := false) xx10 pl10 rfl kX10_shadowOf (fun h => by cases h) (Nat.le_of_ble_eq_true rfl) (fun K hK => ?_)
      refine cc_hasThing l (d + 3) ru ta rs I J _ Q L h x (fun t ht e2 => absurd e2 (vIn_f (by omega) e t ht)) (fun hn => ?_)
      refine And.intro (fun _ => ?_) (fun z => absurd rfl z)
      exact hq _ I J (fun _ _ => rfl)
  refine sha _ (fun v I' J' f => ?_)
  refine And.intro (fun _ => ?_) (fun z => absurd (show nI 0 ≤ 0 from Int32.le_refl _) z)
  exact hR I' J' f
set_option maxRecDepth 100000 in
set_option maxHeartbeats 4000000 in
theorem cd_cut (l : Launch) (d : Nat) (ru ta : Nat) (rs : List XO) (I : XI) (J : XJ) (Rp : XR) (L : Lws) (A : Ast) (hA : AOK A) (h : CA I ru L A) (x y z : Int32) (hR : ∀ (I' : XI) (J' : XJ), FCl I I' → CA I' ru L (cutS L A x y z).2 → Rp (some (.int (cutS L A x y z).1)) (shH ru ta rs) I' J') : xm l (d + 9) 0 0 mX11_cut [.ref 0, .int x, .int y, .int z] (shH ru ta rs) I J Rp := by
  obtain ⟨hc, hr, hs⟩ := h
  obtain ⟨hq, hw, hn, hf⟩ := hA
  have t8 := hq.1
  have r4 := hq.2.1
  have b4 := hq.2.2.1
  refine xm_ofK 0 (X := xxX11) (t := tX11_cut) (stop := []) (ini := false) xx11 pl11 rfl kX11_cut (fun h => by cases h) (Nat.le_of_ble_eq_true rfl) (fun K hK => ?_)
  refine cs_note l (d + 6) ru ta rs I J _ _ _ _ hs (fun first hfi e1 => ?_)
  have n27 : (cI I 27 2 0 ((first + oN A) % 31 * 69) 69) 27 = I 27 := cI_ne (by decide)
  have cC : CE (cI I 27 2 0 ((first + oN A) % 31 * 69) 69) ru (oQ A) L := hc.fc (fun q a b c d => cI_ne b)
  -- it can't be
  have no : ∀ (I1 : XI) (J1 : XJ), F24 27 (cI I 27 2 0 ((first + oN A) % 31 * 69) 69) I1 → RC (qT (oQ A)) (oW A) (I1 27) → cutS L A x y z = (-1, A) → Rp (some (.int (-1))) (shH ru ta rs) I1 J1 := fun I1 J1 f1 r1 e => by
    obtain ⟨s1, s2, s3, s4, s5⟩ := cs_done (I2 := I1) hs e1 hfi hr f1
    have y := hR I1 J1 (fun q a b c d e => s4 q a b d e) (by rw [e]; exact ⟨hc.fc s4, r1, s1⟩)
    rw [e] at y
    exact y
  -- it is done
  have yes : ∀ (I1 : XI) (J1 : XJ) (v : Int32) (w' : Rw), F24 27 (cI I 27 2 0 ((first + oN A) % 31 * 69) 69) I1 → RC (qT (oQ A)) w' (I1 27) → cutS L A x y z = (v, stp A w') → ∀ (D : Nat) (Rq : XR), (∀ (I2 : XI), Rp (some (.int v)) (shH ru ta rs) I2 J1 → Rq none (shH ru ta rs) I2 J1) → xm l (D + 1) 0 0 mX6_count [.ref 1] (shH ru ta rs) I1 J1 Rq := fun I1 J1 v w' f1 r1 e D Rq hq => by
    obtain ⟨s1, s2, s3, s4, s5⟩ := cs_done (I2 := I1) hs e1 hfi hr f1
    refine cs_count l D ru ta rs I1 J1 Rq (oN A) first hn s2 hfi s3 (fun I2 k2 hp => hq I2 ?_)
    have y := hR I2 J1 (fun q a b c d e => (k2 q a).trans (s4 q a b d e)) (by
      rw [e]
      exact ⟨hc.fc (fun q a b c d => (k2 q a).trans (s4 q a b c d)), by show RC _ w' (I2 27); rw [k2 27 (by decide)]; exact r1, hs.psh e1 hfi hr s5 k2 hp⟩)
    rw [e] at y
    exact y
  cases hv : (vIn x (qT (oQ A)) && vIn y (qR (oQ A)) && vIn z (qB (oQ A))) with
  | false =>
    have eS : cutS L A x y z = (-1, A) := by
      unfold cutS
      rw [hv]
      rfl
    refine cw_cutOffX l (d + 2) ru ta rs _ J _ (oQ A) L cC (oW A) (by rw [n27]; exact hr) hw x y z hv (fun I1 J1 f1 => ?_)
    refine And.intro (fun _ => ?_) (fun z => absurd rfl z)
    exact no I1 J1 (F24.n f1) (by rw [f1 27 (by decide), n27]; exact hr) eS
  | true =>
    have hv' := hv
    simp only [Bool.and_eq_true] at hv
    obtain ⟨t, ht, ex, ex2⟩ := vIn_t (by omega) hv.1.1
    obtain ⟨r, hrr, ey, ey2⟩ := vIn_t (by omega) hv.1.2
    obtain ⟨bn, hb, ez, ez2⟩ := vIn_t (by omega) hv.2
    have eS : cutS L A x y z = if cuOK (oQ A) L (oW A) t r bn = true then (nI (frB (oW A)), stp A (cuW (oQ A) L (oW A) t r bn)) else (-1, A) := by
      unfold cutS
      rw [hv', Bool.true_and, ex2, ey2, ez2]
    subst ex ey ez
    refine cw_cutOff l (d + 2) ru ta rs _ J _ (oQ A) L cC (oW A) (by rw [n27]; exact hr) hw t r bn ht hrr hb (fun I1 J1 f1 r1 => ?_)
    cases hok : cuOK (oQ A) L (oW A) t r bn with
    | false =>
      rw [hok] at eS
      have eB : cuB (oQ A) L (oW A) t r bn = 12 := by
        unfold cuB
        rw [hok]
        rfl
      have eR : cuR (oQ A) L (oW A) t r bn = oW A := by
        unfold cuR
        rw [hok]
        rfl
      rw [eR] at r1
      rw [eB]
      refine And.intro (fun _ => ?_) (fun z => absurd (show bI 12 = -1 from rfl) z)
      exact no I1 J1 f1 r1 eS
    | true =>
      rw [hok] at eS
      have fb : frB (oW A) < 12 := by
        have := (cuOK_el hok).2.2.2.2.1
        have := frB_le (oW A)
        omega
      have eB : cuB (oQ A) L (oW A) t r bn = frB (oW A) := by
        unfold cuB
        rw [hok]
        rfl
      have eR : cuR (oQ A) L (oW A) t r bn = cuW (oQ A) L (oW A) t r bn := by
        unfold cuR
        rw [hok]
        rfl
      rw [eR] at r1
      rw [eB, bI_b fb]
      refine And.intro (fun z => absurd (show nI (frB (oW A)) = -1 from z) (nI_ne1 (by omega))) (fun _ => ?_)
      exact yes I1 J1 _ _ f1 r1 eS (d + 7) _ (fun I2 y => y)
set_option maxRecDepth 100000 in
set_option maxHeartbeats 4000000 in
theorem cd_last (l : Launch) (d : Nat) (ru ta : Nat) (rs : List XO) (I : XI) (J : XJ) (Rp : XR) (L : Lws) (A : Ast) (hA : AOK A) (h : CA I ru L A) (x y : Int32) (hR : ∀ (I' : XI) (J' : XJ), FCl I I' → CA I' ru L (lastS A x y).2 → Rp (some (.int (lastS A x y).1)) (shH ru ta rs) I' J') : xm l (d + 6) 0 0 mX11_last [.ref 0, .int x, .int y] (shH ru ta rs) I J Rp := by
  obtain ⟨hc, hr, hs⟩ := h
  obtain ⟨hq, hw, hn, hf⟩ := hA
  have t8 := hq.1
  have r4 := hq.2.1
  have b4 := hq.2.2.1
  refine xm_ofK 0 (X := xxX11) (t := tX11_last) (stop := []) (ini := false) xx11 pl11 rfl kX11_last (fun h => by cases h) (Nat.le_of_ble_eq_true rfl) (fun K hK => ?_)
  refine cs_note l (d + 3) ru ta rs I J _ _ _ _ hs (fun first hfi e1 => ?_)
  have n27 : (cI I 27 2 0 ((first + oN A) % 31 * 69) 69) 27 = I 27 := cI_ne (by decide)
  have cC : CE (cI I 27 2 0 ((first + oN A) % 31 * 69) 69) ru (oQ A) L := hc.fc (fun q a b c d => cI_ne b)
  -- it can't be
  have no : ∀ (I1 : XI) (J1 : XJ), F24 27 (cI I 27 2 0 ((first + oN A) % 31 * 69) 69) I1 → RC (qT (oQ A)) (oW A) (I1 27) → lastS A x y = (-1, A) → Rp (some (.int (-1))) (shH ru ta rs) I1 J1 := fun I1 J1 f1 r1 e => by
    obtain ⟨s1, s2, s3, s4, s5⟩ := cs_done (I2 := I1) hs e1 hfi hr f1
    have y := hR I1 J1 (fun q a b c d e => s4 q a b d e) (by rw [e]; exact ⟨hc.fc s4, r1, s1⟩)
    rw [e] at y
    exact y
  -- it is done
  have yes : ∀ (I1 : XI) (J1 : XJ) (v : Int32) (w' : Rw), F24 27 (cI I 27 2 0 ((first + oN A) % 31 * 69) 69) I1 → RC (qT (oQ A)) w' (I1 27) → lastS A x y = (v, stp A w') → ∀ (D : Nat) (Rq : XR), (∀ (I2 : XI), Rp (some (.int v)) (shH ru ta rs) I2 J1 → Rq none (shH ru ta rs) I2 J1) → xm l (D + 1) 0 0 mX6_count [.ref 1] (shH ru ta rs) I1 J1 Rq := fun I1 J1 v w' f1 r1 e D Rq hq => by
    obtain ⟨s1, s2, s3, s4, s5⟩ := cs_done (I2 := I1) hs e1 hfi hr f1
    refine cs_count l D ru ta rs I1 J1 Rq (oN A) first hn s2 hfi s3 (fun I2 k2 hp => hq I2 ?_)
    have y := hR I2 J1 (fun q a b c d e => (k2 q a).trans (s4 q a b d e)) (by
      rw [e]
      exact ⟨hc.fc (fun q a b c d => (k2 q a).trans (s4 q a b c d)), by show RC _ w' (I2 27); rw [k2 27 (by decide)]; exact r1, hs.psh e1 hfi hr s5 k2 hp⟩)
    rw [e] at y
    exact y
  refine cw_sendOff l (d + 2) ru ta rs _ J _ (oQ A) L cC (oW A) (by rw [n27]; exact hr) hw x y (fun r bn hrr hb ex ey hok I1 f1 r1 => ?_) (fun hn => ?_)
  · subst ex ey
    have eS : lastS A (nI r) (nI bn) = (nI (frB (oW A)), stp A (laW (oQ A) (oW A) r bn)) := by
      unfold lastS
      rw [nI_clamp (by omega), nI_clamp (by omega), vIn_n (by omega) hrr, vIn_n (by omega) hb, hok]
      rfl
    have fb := frB_le (oW A)
    refine And.intro (fun z => absurd (show nI (frB (oW A)) = -1 from z) (nI_ne1 (by omega))) (fun _ => ?_)
    exact yes I1 J _ _ f1 r1 eS (d + 4) _ (fun I2 y => y)
  · have eS : lastS A x y = (-1, A) := by
      unfold lastS
      cases hv : (vIn x (qR (oQ A)) && vIn y (qB (oQ A))) with
      | false => rfl
      | true =>
        rw [Bool.and_eq_true] at hv
        obtain ⟨r, hrr, ex, ex2⟩ := vIn_t (by omega) hv.1
        obtain ⟨bn, hb, ey, ey2⟩ := vIn_t (by omega) hv.2
        rw [ex2, ey2, hn r bn hrr hb ex ey]
        rfl
    refine And.intro (fun _ => ?_) (fun z => absurd rfl z)
    exact no _ J F24.rf (by rw [n27]; exact hr) eS
set_option maxRecDepth 100000 in
set_option maxHeartbeats 4000000 in
theorem cd_move (l : Launch) (d : Nat) (ru ta : Nat) (rs : List XO) (I : XI) (J : XJ) (Rp : XR) (L : Lws) (A : Ast) (hA : AOK A) (h : CA I ru L A) (x y : Int32) (hR : ∀ (I' : XI) (J' : XJ), FCl I I' → CA I' ru L (moveS A x y).2 → Rp (some (.int (moveS A x y).1)) (shH ru ta rs) I' J') : xm l (d + 6) 0 0 mX11_move [.ref 0, .int x, .int y] (shH ru ta rs) I J Rp := by
  obtain ⟨hc, hr, hs⟩ := h
  obtain ⟨hq, hw, hn, hf⟩ := hA
  have t8 := hq.1
  have r4 := hq.2.1
  have b4 := hq.2.2.1
  refine xm_ofK 0 (X := xxX11) (t := tX11_move) (stop := []) (ini := false) xx11 pl11 rfl kX11_move (fun h => by cases h) (Nat.le_of_ble_eq_true rfl) (fun K hK => ?_)
  refine cs_note l (d + 3) ru ta rs I J _ _ _ _ hs (fun first hfi e1 => ?_)
  have n27 : (cI I 27 2 0 ((first + oN A) % 31 * 69) 69) 27 = I 27 := cI_ne (by decide)
  have cC : CE (cI I 27 2 0 ((first + oN A) % 31 * 69) 69) ru (oQ A) L := hc.fc (fun q a b c d => cI_ne b)
  -- it can't be
  have no : ∀ (I1 : XI) (J1 : XJ), F24 27 (cI I 27 2 0 ((first + oN A) % 31 * 69) 69) I1 → RC (qT (oQ A)) (oW A) (I1 27) → moveS A x y = (0, A) → Rp (some (.int (0))) (shH ru ta rs) I1 J1 := fun I1 J1 f1 r1 e => by
    obtain ⟨s1, s2, s3, s4, s5⟩ := cs_done (I2 := I1) hs e1 hfi hr f1
    have y := hR I1 J1 (fun q a b c d e => s4 q a b d e) (by rw [e]; exact ⟨hc.fc s4, r1, s1⟩)
    rw [e] at y
    exact y
  -- it is done
  have yes : ∀ (I1 : XI) (J1 : XJ) (v : Int32) (w' : Rw), F24 27 (cI I 27 2 0 ((first + oN A) % 31 * 69) 69) I1 → RC (qT (oQ A)) w' (I1 27) → moveS A x y = (v, stp A w') → ∀ (D : Nat) (Rq : XR), (∀ (I2 : XI), Rp (some (.int v)) (shH ru ta rs) I2 J1 → Rq none (shH ru ta rs) I2 J1) → xm l (D + 1) 0 0 mX6_count [.ref 1] (shH ru ta rs) I1 J1 Rq := fun I1 J1 v w' f1 r1 e D Rq hq => by
    obtain ⟨s1, s2, s3, s4, s5⟩ := cs_done (I2 := I1) hs e1 hfi hr f1
    refine cs_count l D ru ta rs I1 J1 Rq (oN A) first hn s2 hfi s3 (fun I2 k2 hp => hq I2 ?_)
    have y := hR I2 J1 (fun q a b c d e => (k2 q a).trans (s4 q a b d e)) (by
      rw [e]
      exact ⟨hc.fc (fun q a b c d => (k2 q a).trans (s4 q a b c d)), by show RC _ w' (I2 27); rw [k2 27 (by decide)]; exact r1, hs.psh e1 hfi hr s5 k2 hp⟩)
    rw [e] at y
    exact y
  refine cw_carry l (d + 2) ru ta rs _ J _ (oQ A) L cC (oW A) (by rw [n27]; exact hr) hw x y (fun b bn hb hbn ex ey hok I1 f1 r1 => ?_) (fun hn => ?_)
  · subst ex ey
    have eS : moveS A (nI b) (nI bn) = (1, stp A (upd (oW A) (52 + b) (nI bn))) := by
      unfold moveS
      rw [nI_clamp (by omega), nI_clamp (by omega), vIn_n (by omega) hb, vIn_n (by omega) hbn, hok]
      rfl
    refine And.intro (fun z => absurd (show (1 : Int32) = 0 from z) (by decide)) (fun _ => ?_)
    exact yes I1 J _ _ f1 r1 eS (d + 4) _ (fun I2 y => And.intro (Or.inr rfl) y)
  · have eS : moveS A x y = (0, A) := by
      unfold moveS
      cases hv : (vIn x 12 && vIn y (qB (oQ A))) with
      | false => rfl
      | true =>
        rw [Bool.and_eq_true] at hv
        obtain ⟨b, hb, ex, ex2⟩ := vIn_t (by omega) hv.1
        obtain ⟨bn, hbn, ey, ey2⟩ := vIn_t (by omega) hv.2
        rw [ex2, ey2, hn b bn hb hbn ex ey]
        rfl
    refine And.intro (fun _ => ?_) (fun z => absurd rfl z)
    exact And.intro (Or.inl rfl) (no _ J F24.rf (by rw [n27]; exact hr) eS)
set_option maxRecDepth 100000 in
set_option maxHeartbeats 4000000 in
theorem cd_sell (l : Launch) (d : Nat) (ru ta : Nat) (rs : List XO) (I : XI) (J : XJ) (Rp : XR) (L : Lws) (A : Ast) (hA : AOK A) (h : CA I ru L A) (x : Int32) (hR : ∀ (I' : XI) (J' : XJ), FCl I I' → CA I' ru L (sellS L A x).2 → Rp (some (.int (sellS L A x).1)) (shH ru ta rs) I' J') : xm l (d + 8) 0 0 mX11_sell [.ref 0, .int x] (shH ru ta rs) I J Rp := by
  obtain ⟨hc, hr, hs⟩ := h
  obtain ⟨hq, hw, hn, hf⟩ := hA
  have t8 := hq.1
  have r4 := hq.2.1
  have b4 := hq.2.2.1
  refine xm_ofK 0 (X := xxX11) (t := tX11_sell) (stop := []) (ini := false) xx11 pl11 rfl kX11_sell (fun h => by cases h) (Nat.le_of_ble_eq_true rfl) (fun K hK => ?_)
  refine cs_note l (d + 5) ru ta rs I J _ _ _ _ hs (fun first hfi e1 => ?_)
  have n27 : (cI I 27 2 0 ((first + oN A) % 31 * 69) 69) 27 = I 27 := cI_ne (by decide)
  have cC : CE (cI I 27 2 0 ((first + oN A) % 31 * 69) 69) ru (oQ A) L := hc.fc (fun q a b c d => cI_ne b)
  -- it can't be
  have no : ∀ (I1 : XI) (J1 : XJ), F24 27 (cI I 27 2 0 ((first + oN A) % 31 * 69) 69) I1 → RC (qT (oQ A)) (oW A) (I1 27) → sellS L A x = (-1, A) → Rp (some (.int (-1))) (shH ru ta rs) I1 J1 := fun I1 J1 f1 r1 e => by
    obtain ⟨s1, s2, s3, s4, s5⟩ := cs_done (I2 := I1) hs e1 hfi hr f1
    have y := hR I1 J1 (fun q a b c d e => s4 q a b d e) (by rw [e]; exact ⟨hc.fc s4, r1, s1⟩)
    rw [e] at y
    exact y
  -- it is done
  have yes : ∀ (I1 : XI) (J1 : XJ) (v : Int32) (w' : Rw), F24 27 (cI I 27 2 0 ((first + oN A) % 31 * 69) 69) I1 → RC (qT (oQ A)) w' (I1 27) → sellS L A x = (v, stp A w') → ∀ (D : Nat) (Rq : XR), (∀ (I2 : XI), Rp (some (.int v)) (shH ru ta rs) I2 J1 → Rq none (shH ru ta rs) I2 J1) → xm l (D + 1) 0 0 mX6_count [.ref 1] (shH ru ta rs) I1 J1 Rq := fun I1 J1 v w' f1 r1 e D Rq hq => by
    obtain ⟨s1, s2, s3, s4, s5⟩ := cs_done (I2 := I1) hs e1 hfi hr f1
    refine cs_count l D ru ta rs I1 J1 Rq (oN A) first hn s2 hfi s3 (fun I2 k2 hp => hq I2 ?_)
    have y := hR I2 J1 (fun q a b c d e => (k2 q a).trans (s4 q a b d e)) (by
      rw [e]
      exact ⟨hc.fc (fun q a b c d => (k2 q a).trans (s4 q a b c d)), by show RC _ w' (I2 27); rw [k2 27 (by decide)]; exact r1, hs.psh e1 hfi hr s5 k2 hp⟩)
    rw [e] at y
    exact y
  refine cw_sellOff l (d + 2) ru ta rs _ J _ (oQ A) L cC (oW A) (by rw [n27]; exact hr) hw x (fun b hb ex hp I1 J1 f1 r1 => ?_) (fun hn => ?_)
  · subst ex
    have eS : sellS L A (nI b) = (nI (seR L (oW A) b), stp A (seW L (oW A) b)) := by
      unfold sellS
      rw [nI_clamp (by omega), vIn_n (by omega) hb, decide_eq_true hp]
      rfl
    have sl := seR_le (L := L) hw hb
    refine And.intro (fun z => absurd (show nI (seR L (oW A) b) = -1 from z) (nI_ne1 (by omega))) (fun _ => ?_)
    exact yes I1 J1 _ _ f1 r1 eS (d + 6) _ (fun I2 y => y)
  · have eS : sellS L A x = (-1, A) := by
      unfold sellS
      cases hv : vIn x 12 with
      | false => rfl
      | true =>
        obtain ⟨b, hb, ex, ex2⟩ := vIn_t (by omega) hv
        rw [ex2, decide_eq_false (hn b hb ex)]
        rfl
    refine And.intro (fun _ => ?_) (fun z => absurd rfl z)
    exact no _ J F24.rf (by rw [n27]; exact hr) eS
end
section
-- ===== the class: use, hours, decades; what is told =====
theorem RC.th {T : Nat} {w c : Rw} (h : RC T w c) (hT : T < 8) : RC (T + 1) (upd w T (nI 100)) c := by
  refine ⟨fun t ht => ?_, fun r hr => ?_, fun b hb => ?_, fun k h1 h2 => ?_⟩
  · rw [h.1 t ht]
    by_cases e : t = T
    · subst e
      rw [if_neg (Nat.lt_irrefl _), if_pos (Nat.lt_succ_self _), upd_s]
    · rw [upd_n e]
      by_cases c : t < T
      · rw [if_pos c, if_pos (by omega)]
      · rw [if_neg c, if_neg (by omega)]
  · rw [upd_n (by omega), upd_n (by omega)]
    exact h.2.1 r hr
  · rw [upd_n (by omega), upd_n (by omega), upd_n (by omega), upd_n (by omega)]
    exact h.2.2.1 b hb
  · rw [upd_n (by omega)]
    exact h.2.2.2 k h1 h2
set_option maxRecDepth 100000 in
set_option maxHeartbeats 4000000 in
theorem cd_use (l : Launch) (d : Nat) (ru ta : Nat) (rs : List XO) (I : XI) (J : XJ) (Rp : XR) (L : Lws) (A : Ast) (hA : AOK A) (h : CA I ru L A) (x y : Int32) (hR : ∀ (I' : XI) (J' : XJ), FCl I I' → CA I' ru L (useS A x y).2 → Rp (some (.int (useS A x y).1)) (shH ru ta rs) I' J') : xm l (d + 6) 0 0 mX11_use [.ref 0, .int x, .int y] (shH ru ta rs) I J Rp := by
  have h0 := h
  obtain ⟨hc, hr, hs⟩ := h
  obtain ⟨hq, hw, hn, hf⟩ := hA
  have b4 := hq.2.2.1
  refine xm_ofK 0 (X := xxX11) (t := tX11_use) (stop := []) (ini := false) xx11 pl11 rfl kX11_use (fun h => by cases h) (Nat.le_of_ble_eq_true rfl) (fun K hK => ?_)
  have none_ : useS A x y = (-1, A) → Rp (some (.int (-1))) (shH ru ta rs) I J := fun e => by
    have z := hR I J FCl.rf (by rw [e]; exact h0)
    rw [e] at z
    exact z
  cases hx : rIn x 1 999 with
  | false =>
    refine c_within_f l (d + 4) x 1 999 _ _ _ _ (fun z => by
      have := rIn_p.mpr (show nI 1 ≤ x ∧ x ≤ nI 999 from z)
      rw [hx] at this
      cases this) ?_
    refine And.intro (fun _ => ?_) (fun z => absurd rfl z)
    refine none_ ?_
    unfold useS
    rw [hx]
    rfl
  | true =>
    have hx2 := rIn_p.mp hx
    obtain ⟨k, k1, k2, ex, ex2⟩ := rIn_t (by omega) (by omega) hx
    refine c_within_t l (d + 4) x 1 999 _ _ _ _ hx2.1 hx2.2 ?_
    refine And.intro (fun z => absurd (show (1 : Int32) = 0 from z) (by decide)) (fun _ => ?_)
    refine cc_hasBarn l (d + 4) ru ta rs I J _ (oQ A) L hc y (fun bn hb ey => ?_) (fun hn => ?_)
    · refine And.intro (fun _ => ?_) (fun z => absurd (show (1 : Int32) = 0 from z) (by decide))
      have hy : vIn y (qB (oQ A)) = true := by rw [ey]; exact vIn_n (by omega) hb
      refine cs_note l (d + 3) ru ta rs I J _ _ _ _ hs (fun first hfi e1 => ?_)
      have n27 : (cI I 27 2 0 ((first + oN A) % 31 * 69) 69) 27 = I 27 := cI_ne (by decide)
      subst ex
      refine cw_takeFeet l (d + 2) ru ta rs _ J _ (qT (oQ A)) (oW A) (by rw [n27]; exact hr) hw k (by omega) y (fun hle I1 f1 r1 => ?_) (fun hle => ?_)
      · obtain ⟨s1, s2, s3, s4, s5⟩ := cs_done (I2 := I1) hs e1 hfi hr f1
        have eS : useS A (nI k) y = (feR (usN y 12 (oW A) (nI k)) y 12, stp A (usN y 12 (oW A) (nI k))) := by
          unfold useS
          rw [hx, hy, ex2, decide_eq_true hle]
          rfl
        refine And.intro (fun _ => ?_) (fun z => absurd (show (1 : Int32) = 0 from z) (by decide))
        refine cs_count l (d + 4) ru ta rs I1 J _ (oN A) first hn s2 hfi s3 (fun I2 k2 hp => ?_)
        have r2 : RC (qT (oQ A)) (usN y 12 (oW A) (nI k)) (I2 27) := by rw [k2 27 (by decide)]; exact r1
        have ww := WR.us 12 (oW A) k (by omega) hw (us_12 (bn := y) hw hle)
        have ny : ¬ y = -1 := by rw [ey]; exact nI_ne1 (by omega)
        refine cw_feetIn l (d + 4) ru ta rs I2 J _ _ _ r2 ww y ny ?_
        have z := hR I2 J (fun q a b c d e => (k2 q a).trans (s4 q a b d e)) (by
          rw [eS]
          exact ⟨hc.fc (fun q a b c d => (k2 q a).trans (s4 q a b c d)), r2, hs.psh e1 hfi hr s5 k2 hp⟩)
        rw [eS] at z
        exact z
      · have eS : useS A (nI k) y = (-1, A) := by
          unfold useS
          rw [ex2, decide_eq_false hle, Bool.and_false]
          rfl
        refine And.intro (fun z => absurd rfl z) (fun _ => ?_)
        obtain ⟨s1, s2, s3, s4, s5⟩ := cs_done (I1 := cI I 27 2 0 ((first + oN A) % 31 * 69) 69) (I2 := I) hs e1 hfi hr F24.rf
        have z := hR _ J (fun q a b c d e => s4 q a b d e) (by rw [eS]; exact ⟨hc.fc s4, by show RC _ _ ((cI I 27 2 0 ((first + oN A) % 31 * 69) 69) 27); rw [n27]; exact hr, s1⟩)
        rw [eS] at z
        exact z
    · refine And.intro (fun z => absurd rfl z) (fun _ => ?_)
      refine none_ ?_
      have hy : vIn y (qB (oQ A)) = false := by
        cases e : vIn y (qB (oQ A)) with
        | false => rfl
        | true =>
          obtain ⟨b, hb, ey, _⟩ := vIn_t (by omega) e
          exact absurd ey (hn b hb)
      unfold useS
      rw [hy, Bool.and_false, Bool.false_and]
      rfl
theorem phS_n {L : Lws} {k : Nat} {A : Ast} (h : cnP (oW A) = false) : phS L k A = A ∧ phC L k A = 0 := by
  cases k with
  | zero => exact ⟨rfl, rfl⟩
  | succ k => exact ⟨if_neg (by rw [h]; decide), if_neg (by rw [h]; decide)⟩
theorem phS_s {L : Lws} {k : Nat} {A : Ast} (h : cnP (oW A) = true) : phS L (k + 1) A = phS L k (stp A (hrR (oQ A) L (oW A))) ∧ phC L (k + 1) A = phC L k (stp A (hrR (oQ A) L (oW A))) + 1 := ⟨if_pos h, if_pos h⟩
abbrev phz (l : Launch) (d : Nat) (ru ta : Nat) (rs : List XO) (J : XJ) (Rp : XR) (n k p i : Nat) (I : XI) : Prop := xrun xxX11 (some .int) false false (shH ru ta rs).length 0 0 none l (d + 5) tX11_passHours [4] Rp n 4 [some (.ref 0), some (.int (nI k)), some (.int (nI p)), some (.int (nI i))] [] (shH ru ta rs) I J 0 0
set_option maxRecDepth 100000 in
set_option maxHeartbeats 4000000 in
theorem cd_ph_loop (l : Launch) (d : Nat) (ru ta : Nat) (rs : List XO) (I : XI) (J0 : XJ) (Rp : XR) (L : Lws) (k : Nat) (hk : k ≤ 10000) (B : Ast) (v : Nat) (hR : ∀ (I' : XI) (J' : XJ), FCl I I' → CA I' ru L B → Rp (some (.int (nI v))) (shH ru ta rs) I' J') : ∀ (m i n p : Nat) (J : XJ) (I1 : XI) (A : Ast), i + m = k → m < n → FCl I I1 → AOK A → CA I1 ru L A → phS L m A = B → p + phC L m A = v → phz l d ru ta rs J Rp n k p i I1 := by
  intro m
  induction m with
  | zero =>
    intro i n p J I1 A hi hn f hA h eB ev
    obtain ⟨n, rfl⟩ : ∃ n', n = n' + 1 := ⟨n - 1, by omega⟩
    have hi : i = k := by omega
    subst hi
    refine xrun_step fun K hK => ?_
    refine And.intro (fun _ => ?_) (fun z => absurd (Int32.le_refl _) z)
    have e2 : v = p := by rw [← ev]; rfl
    have e3 : B = A := by rw [← eB]; rfl
    rw [e2, e3] at hR
    exact hR I1 J f h
  | succ m ih =>
    intro i n p J I1 A hi hn f hA h eB ev
    obtain ⟨n, rfl⟩ : ∃ n', n = n' + 1 := ⟨n - 1, by omega⟩
    obtain ⟨hc, hr, hs⟩ := h
    have hA0 := hA
    obtain ⟨hq, hw, hn30, hf⟩ := hA
    refine xrun_step fun K hK => ?_
    refine And.intro (fun z => absurd (show nI k ≤ nI i from z) (nI_ge (by omega) (by omega))) (fun _ => ?_)
    refine cs_note l (d + 3) ru ta rs I1 J _ _ _ _ hs (fun first hfi e1 => ?_)
    have n27 : (cI I1 27 2 0 ((first + oN A) % 31 * 69) 69) 27 = I1 27 := cI_ne (by decide)
    have cC : CE (cI I1 27 2 0 ((first + oN A) % 31 * 69) 69) ru (oQ A) L := hc.fc (fun q a b c d => cI_ne b)
    refine cw_passHour l d ru ta rs _ J _ (oQ A) L cC (oW A) (by rw [n27]; exact hr) hw (fun hcn I2 J2 f2 r2 => ?_) (fun hcn => ?_)
    · obtain ⟨s1, s2, s3, s4, s5⟩ := cs_done (I2 := I2) hs e1 hfi hr f2
      refine And.intro (fun _ => ?_) (fun z => absurd (show (1 : Int32) = 0 from z) (by decide))
      refine cs_count l (d + 4) ru ta rs I2 J2 _ (oN A) first hn30 s2 hfi s3 (fun I3 k3 hp => ?_)
      refine hK 4 [some (.ref 0), some (.int (nI k)), some (.int (nI p + 1)), some (.int (nI i + 1))] [] (shH ru ta rs) I3 J2 0 0 ?_
      rw [nI_1, nI_1]
      have es := phS_s (L := L) (k := m) hcn
      refine ih (i + 1) n (p + 1) J2 I3 (stp A (hrR (oQ A) L (oW A))) (by omega) (by omega) (f.tr (fun q a b c d e => (k3 q a).trans (s4 q a b d e))) (hA0.stp (hw.hr hq.1 hcn)) ⟨hc.fc (fun q a b c d => (k3 q a).trans (s4 q a b c d)), by show RC _ _ (I3 27); rw [k3 27 (by decide)]; exact r2, hs.psh e1 hfi hr s5 k3 hp⟩ (by rw [← es.1]; exact eB) (by rw [es.2] at ev; omega)
    · have en := phS_n (L := L) (k := m + 1) hcn
      rw [en.1] at eB
      rw [en.2] at ev
      obtain ⟨s1, s2, s3, s4, s5⟩ := cs_done (I1 := cI I1 27 2 0 ((first + oN A) % 31 * 69) 69) (I2 := I) hs e1 hfi hr F24.rf
      refine And.intro (fun z => absurd rfl z) (fun _ => ?_)
      have e2 : v = p := by omega
      rw [e2, ← eB] at hR
      exact hR _ J (f.tr (fun q a b c d e => s4 q a b d e)) ⟨hc.fc s4, by show RC _ _ ((cI I1 27 2 0 ((first + oN A) % 31 * 69) 69) 27); rw [n27]; exact hr, s1⟩
set_option maxRecDepth 100000 in
theorem cd_ph (l : Launch) (d : Nat) (ru ta : Nat) (rs : List XO) (I : XI) (J : XJ) (Rp : XR) (L : Lws) (A : Ast) (hA : AOK A) (h : CA I ru L A) (k : Nat) (hk : k ≤ 10000) (hR : ∀ (I' : XI) (J' : XJ), FCl I I' → CA I' ru L (phS L k A) → Rp (some (.int (nI (phC L k A)))) (shH ru ta rs) I' J') : xm l (d + 6) 0 0 mX11_passHours [.ref 0, .int (nI k)] (shH ru ta rs) I J Rp := by
  refine xm_ofK (k + 1) (X := xxX11) (t := tX11_passHours) (stop := [4]) (ini := false) xx11 pl11 rfl kX11_passHours (fun h => by cases h) (Nat.le_of_ble_eq_true rfl) (fun K hK => ?_)
  exact hK 4 [some (.ref 0), some (.int (nI k)), some (.int (nI 0)), some (.int (nI 0))] [] _ _ _ _ _ (cd_ph_loop l d ru ta rs I J Rp L k hk _ _ hR k 0 (k + 1) 0 J I A (by omega) (by omega) FCl.rf hA h rfl (by omega))
set_option maxRecDepth 100000 in
set_option maxHeartbeats 4000000 in
theorem cd_hour (l : Launch) (d : Nat) (ru ta : Nat) (rs : List XO) (I : XI) (J : XJ) (Rp : XR) (L : Lws) (A : Ast) (hA : AOK A) (h : CA I ru L A) (x : Int32) (hR : ∀ (I' : XI) (J' : XJ), FCl I I' → CA I' ru L (hourS L A x).2 → Rp (some (.int (hourS L A x).1)) (shH ru ta rs) I' J') : xm l (d + 7) 0 0 mX11_hour [.ref 0, .int x] (shH ru ta rs) I J Rp := by
  have none_ : hourS L A x = (-1, A) → Rp (some (.int (-1))) (shH ru ta rs) I J := fun e => by
    have z := hR I J FCl.rf (by rw [e]; exact h)
    rw [e] at z
    exact z
  refine xm_ofK 0 (X := xxX11) (t := tX11_hour) (stop := []) (ini := false) xx11 pl11 rfl kX11_hour (fun h => by cases h) (Nat.le_of_ble_eq_true rfl) (fun K hK => ?_)
  cases hx : rIn x 1 60 with
  | false =>
    refine c_within_f l (d + 5) x 1 60 _ _ _ _ (fun z => by
      have := rIn_p.mpr (show nI 1 ≤ x ∧ x ≤ nI 60 from z)
      rw [hx] at this
      cases this) ?_
    refine And.intro (fun _ => ?_) (fun z => absurd rfl z)
    refine none_ ?_
    unfold hourS
    rw [hx]
    rfl
  | true =>
    have hx2 := rIn_p.mp hx
    obtain ⟨k, k1, k2, ex, ex2⟩ := rIn_t (by omega) (by omega) hx
    have hl := (hl_c hA.2.1).2.1
    refine c_within_t l (d + 5) x 1 60 _ _ _ _ hx2.1 hx2.2 ?_
    refine And.intro (fun z => absurd (show (1 : Int32) = 0 from z) (by decide)) (fun _ => ?_)
    refine cw_hoursLeft l (d + 5) ru ta rs I J _ _ (oW A) h.2.1 hA.2.1 ?_
    subst ex
    refine And.intro (fun (z : nI k ≤ nI (hlN (oW A))) => ?_) (fun (z : ¬ nI k ≤ nI (hlN (oW A))) => ?_)
    · have hle := (nle (by omega) (by omega)).mp z
      have eS : hourS L A (nI k) = (oW (phS L k A) 64, phS L k A) := by
        unfold hourS
        rw [hx, ex2, decide_eq_true hle]
        rfl
      refine cd_ph l d ru ta rs I J _ L A hA h k (by omega) (fun I1 J1 f1 h1 => ?_)
      refine And.intro (show vp_in (nI 64) 69 from vp_b (by decide)) ?_
      have z := hR I1 J1 f1 (by rw [eS]; exact h1)
      rw [eS] at z
      have e64 : I1 27 64 = oW (phS L k A) 64 := h1.2.1.hi (by decide) (by decide)
      rw [← e64] at z
      exact z
    · refine none_ ?_
      unfold hourS
      rw [ex2, decide_eq_false (fun q => z ((nle (by omega) (by omega)).mpr q)), Bool.and_false]
      rfl
abbrev dcz (l : Launch) (d : Nat) (ru ta : Nat) (rs : List XO) (J : XJ) (Rp : XR) (n : Nat) (x : Int32) (k i : Nat) (I : XI) : Prop := xrun xxX11 (some .int) false false (shH ru ta rs).length 0 0 none l (d + 7) tX11_decades [35, 96] Rp n 96 [some (.ref 0), some (.int x), some (.int (nI k)), some (.int (nI 0)), some (.int (nI i))] [] (shH ru ta rs) I J 0 0
set_option maxRecDepth 100000 in
set_option maxHeartbeats 4000000 in
theorem cd_dec_loop (l : Launch) (d : Nat) (ru ta : Nat) (rs : List XO) (I : XI) (J0 : XJ) (Rp : XR) (L : Lws) (Q : Tld) (hc : CE I ru Q L) (t0 : 0 < qT Q) (r0 : 0 < qR Q) (b0 : 0 < qB Q) (x : Int32) (k : Nat) (hk : k ≤ 1000) (first n0 : Nat) (hn0 : n0 ≤ 30) (e1 : I 1 1 = nI first) (hfi : first < 31) (e2 : I 1 2 = nI n0) (W : Rw) (hR : ∀ (I1 I2 : XI) (J' : XJ), F24 27 I I1 → RC (qT Q) W (I1 27) → (∀ q, q ≠ 1 → I2 q = I1 q) → ((n0 < 30 → I2 1 1 = nI first ∧ I2 1 2 = nI (n0 + 1)) ∧ (n0 = 30 → I2 1 1 = nI ((first + 1) % 31) ∧ I2 1 2 = nI 30)) → Rp (some (.int (W 67))) (shH ru ta rs) I2 J') : ∀ (m i n : Nat) (J : XJ) (I1 : XI) (w : Rw), i + m = k → m < n → F24 27 I I1 → RC (qT Q) w (I1 27) → WR w → hpN Q L m w = W → dcz l d ru ta rs J Rp n x k i I1 := by
  intro m
  induction m with
  | zero =>
    intro i n J I1 w hi hn f hr hw e
    obtain ⟨n, rfl⟩ : ∃ n', n = n' + 1 := ⟨n - 1, by omega⟩
    have hi : i = k := by omega
    subst hi
    have e : w = W := e
    subst e
    refine xrun_step fun K hK => ?_
    refine And.intro (fun _ => ?_) (fun z => absurd (Int32.le_refl _) z)
    have g1 : I1 1 = I 1 := f 1 (by decide) (by decide)
    refine cs_count l (d + 6) ru ta rs I1 J _ n0 first hn0 (by rw [g1]; exact e1) hfi (by rw [g1]; exact e2) (fun I2 k2 hp => ?_)
    refine And.intro (show vp_in (nI 67) 69 from vp_b (by decide)) ?_
    have y := hR I1 I2 J f hr k2 hp
    have e67 : I2 27 67 = w 67 := by rw [k2 27 (by decide)]; exact hr.hi (by decide) (by decide)
    rw [← e67] at y
    exact y
  | succ m ih =>
    intro i n J I1 w hi hn f hr hw e
    obtain ⟨n, rfl⟩ : ∃ n', n = n' + 1 := ⟨n - 1, by omega⟩
    refine xrun_step fun K hK => ?_
    refine And.intro (fun z => absurd (show nI k ≤ nI i from z) (nI_ge (by omega) (by omega))) (fun _ => ?_)
    refine cw_decade l d ru ta rs I1 J _ Q L (hc.k27 f) w hr hw t0 r0 b0 (fun I2 J2 f2 r2 => ?_)
    refine hK 96 [some (.ref 0), some (.int x), some (.int (nI k)), some (.int (nI 0)), some (.int (nI i + 1))] [] (shH ru ta rs) I2 J2 0 0 ?_
    rw [nI_1]
    exact ih (i + 1) n J2 I2 _ (by omega) (by omega) (f.tr f2) r2 (hw.hp hc.2.1 t0 r0 b0) e
set_option maxRecDepth 100000 in
set_option maxHeartbeats 8000000 in
theorem cd_dec (l : Launch) (d : Nat) (ru ta : Nat) (rs : List XO) (I : XI) (J : XJ) (Rp : XR) (L : Lws) (A : Ast) (hA : AOK A) (h : CA I ru L A) (x y : Int32) (hR : ∀ (I' : XI) (J' : XJ), FCl I I' → CA I' ru L (decS L A x y).2 → Rp (some (.int (decS L A x y).1)) (shH ru ta rs) I' J') : xm l (d + 8) 0 0 mX11_decades [.ref 0, .int x, .int y] (shH ru ta rs) I J Rp := by
  have h0 := h
  obtain ⟨hc, hr, hs⟩ := h
  obtain ⟨hq, hw, hn, hf⟩ := hA
  have none_ : decS L A x y = (-1, A) → Rp (some (.int (-1))) (shH ru ta rs) I J := fun e => by
    have z := hR I J FCl.rf (by rw [e]; exact h0)
    rw [e] at z
    exact z
  have t8 := hq.1
  have r4 := hq.2.1
  have b4 := hq.2.2.1
  have eT : I 12 5 = nI (qT (oQ A)) := hc.1.1
  have eR : I 12 6 = nI (qR (oQ A)) := hc.1.2.1
  have eB : I 12 7 = nI (qB (oQ A)) := hc.1.2.2.1
  -- behind the flag
  have go : ∀ (n : Nat) (bare : Bool), bare = (decide (qT (oQ A) = 0) || decide (qR (oQ A) = 0) || decide (qB (oQ A) = 0)) → 40 < n → xrun xxX11 (some .int) false false (shH ru ta rs).length 0 0 none l (d + 7) tX11_decades [35, 96] Rp n 35 [some (.ref 0), some (.int x), some (.int y), none, none] [.int (if bare then nI 1 else nI 0)] (shH ru ta rs) I J 0 0 := by
    intro n bare eb hn40
    obtain ⟨n, rfl⟩ : ∃ n', n = n' + 1 := ⟨n - 1, by omega⟩
    refine xrun_step fun K hK => ?_
    cases hx : rIn x 0 9999 with
    | false =>
      refine c_within_f l (d + 6) x 0 9999 _ _ _ _ (fun z => by
        have := rIn_p.mpr (show nI 0 ≤ x ∧ x ≤ nI 9999 from z)
        rw [hx] at this
        cases this) ?_
      refine And.intro (fun _ => ?_) (fun z => absurd rfl z)
      refine none_ ?_
      unfold decS
      rw [hx]
      rfl
    | true =>
      have hx2 := rIn_p.mp hx
      refine c_within_t l (d + 6) x 0 9999 _ _ _ _ hx2.1 hx2.2 ?_
      refine And.intro (fun z => absurd (show (1 : Int32) = 0 from z) (by decide)) (fun _ => ?_)
      cases hy : rIn y 1 30 with
      | false =>
        refine c_within_f l (d + 6) y 1 30 _ _ _ _ (fun z => by
          have := rIn_p.mpr (show nI 1 ≤ y ∧ y ≤ nI 30 from z)
          rw [hy] at this
          cases this) ?_
        refine And.intro (fun _ => ?_) (fun z => absurd rfl z)
        refine none_ ?_
        unfold decS
        rw [hy, Bool.and_false]
        rfl
      | true =>
        have hy2 := rIn_p.mp hy
        refine c_within_t l (d + 6) y 1 30 _ _ _ _ hy2.1 hy2.2 ?_
        refine And.intro (fun z => absurd (show (1 : Int32) = 0 from z) (by decide)) (fun _ => ?_)
        obtain ⟨i, i1, i2, ex, ex2⟩ := rIn_t (by omega) (by omega) hx
        obtain ⟨k, k1, k2, ey, ey2⟩ := rIn_t (by omega) (by omega) hy
        cases bare with
        | true =>
          refine And.intro (fun z => absurd (show nI 1 = 0 from z) (by decide)) (fun _ => ?_)
          refine none_ ?_
          unfold decS
          have e3 : (rIn x 0 9999 && rIn y 1 30 && !(decide (qT (oQ A) = 0)) && !(decide (qR (oQ A) = 0)) && !(decide (qB (oQ A) = 0))) = false := by
            have eb := eb.symm
            rw [Bool.or_eq_true, Bool.or_eq_true] at eb
            rcases eb with (e | e) | e
            · rw [e]
              simp
            · rw [e]
              simp
            · rw [e]
              simp
          rw [e3]
          rfl
        | false =>
          have eb := eb.symm
          rw [Bool.or_eq_false_iff, Bool.or_eq_false_iff, decide_eq_false_iff_not, decide_eq_false_iff_not, decide_eq_false_iff_not] at eb
          obtain ⟨⟨u1, u2⟩, u3⟩ := eb
          refine And.intro (fun _ => ?_) (fun z => absurd (show nI 0 = 0 from rfl) z)
          refine cs_note l (d + 5) ru ta rs I J _ _ _ _ hs (fun first hfi e1 => ?_)
          have n27 : (cI I 27 2 0 ((first + oN A) % 31 * 69) 69) 27 = I 27 := cI_ne (by decide)
          have n1 : (cI I 27 2 0 ((first + oN A) % 31 * 69) 69) 1 = I 1 := cI_ne (by decide)
          have cC : CE (cI I 27 2 0 ((first + oN A) % 31 * 69) 69) ru (oQ A) L := hc.fc (fun q a b c d => cI_ne b)
          have e12 : I 1 2 = nI (oN A) := by
            obtain ⟨_, fi, _, _, b, _⟩ := hs
            exact b
          have eS : decS L A x y = (hpN (oQ A) L k (upd (oW A) 68 (x * nI 2 + nI 83)) 67, stp A (hpN (oQ A) L k (upd (oW A) 68 (x * nI 2 + nI 83)))) := by
            unfold decS
            rw [hx, hy, decide_eq_false u1, decide_eq_false u2, decide_eq_false u3, ey2]
            rfl
          have ww : WR (upd (oW A) 68 (x * nI 2 + nI 83)) := hw.u (fun _ _ => by
            rw [ex, nI_mul, nI_add]
            exact okC.mk (by have z : bdW 68 = 30312 := by decide
                             omega))
          refine And.intro (show vp_in (nI 68) 69 from vp_b (by decide)) ?_
          refine hK 96 [some (.ref 0), some (.int x), some (.int y), some (.int (nI 0)), some (.int (nI 0))] [] (shH ru ta rs) (uI (cI I 27 2 0 ((first + oN A) % 31 * 69) 69) 27 68 (x * nI 2 + nI 83)) J 0 0 ?_
          rw [ey]
          refine cd_dec_loop l d ru ta rs (cI I 27 2 0 ((first + oN A) % 31 * 69) 69) J Rp L (oQ A) cC (by omega) (by omega) (by omega) x k (by omega) first (oN A) hn (by rw [n1]; exact e1) hfi (by rw [n1]; exact e12) _ (fun I1 I2 J' f1 r1 k2 hp => ?_) k 0 n J _ (upd (oW A) 68 (x * nI 2 + nI 83)) (by omega) (by omega) F24.rf.u ?_ ww rfl
          · obtain ⟨s1, s2, s3, s4, s5⟩ := cs_done (I2 := I2) hs e1 hfi hr f1
            have z := hR I2 J' (fun q a b c d e => (k2 q a).trans (s4 q a b d e)) (by
              rw [eS]
              exact ⟨hc.fc (fun q a b c d => (k2 q a).trans (s4 q a b c d)), by show RC _ _ (I2 27); rw [k2 27 (by decide)]; exact r1, hs.psh e1 hfi hr s5 k2 hp⟩)
            rw [eS] at z
            exact z
          · rw [uI_eq, n27]
            exact hr.uk (by decide) _
  refine xm_ofK 50 (X := xxX11) (t := tX11_decades) (stop := [35, 96]) (ini := false) xx11 pl11 rfl kX11_decades (fun h => by cases h) (Nat.le_of_ble_eq_true rfl) (fun K hK => ?_)
  have z0 : ∀ n, n < 100 → (nI n = 0 ↔ n = 0) := fun n hn => neq0 (by omega)
  have k35 : ∀ bare : Bool, bare = (decide (qT (oQ A) = 0) || decide (qR (oQ A) = 0) || decide (qB (oQ A) = 0)) → K 35 [some (.ref 0), some (.int x), some (.int y), none, none] [.int (if bare then nI 1 else nI 0)] (shH ru ta rs) I J 0 0 := fun bare eb => hK 35 _ _ _ _ _ _ _ (go 50 bare eb (by decide))
  refine And.intro (fun (z : I 12 5 = 0) => ?_) (fun (z : ¬ I 12 5 = 0) => ?_)
  · rw [eT, z0 _ (by omega)] at z
    exact k35 true (by rw [decide_eq_true z]; rfl)
  · rw [eT, z0 _ (by omega)] at z
    refine And.intro (fun (y' : I 12 6 = 0) => ?_) (fun (y' : ¬ I 12 6 = 0) => ?_)
    · rw [eR, z0 _ (by omega)] at y'
      exact k35 true (by rw [decide_eq_true y', Bool.or_true]; rfl)
    · rw [eR, z0 _ (by omega)] at y'
      refine And.intro (fun (v : ¬ I 12 7 = 0) => ?_) (fun (v : I 12 7 = 0) => ?_)
      · rw [eB, z0 _ (by omega)] at v
        exact k35 false (by rw [decide_eq_false z, decide_eq_false y', decide_eq_false v]; rfl)
      · rw [eB, z0 _ (by omega)] at v
        exact k35 true (by rw [decide_eq_true v, Bool.or_true])
-- what is told
theorem TDc.keep {I I' : XI} {Q : Tld} (e12 : I' 12 = I 12) (e13 : I' 13 = I 13) (e14 : I' 14 = I 14) (e15 : I' 15 = I 15) (e16 : I' 16 = I 16) (e17 : I' 17 = I 17) (h : TDc I Q) : TDc I' Q := by
  unfold TDc at h ⊢
  rw [e12, e13, e14, e15, e16, e17]
  exact h
theorem LC.keep {I I' : XI} {ru : Nat} {L : Lws} (hr : TSP ru) (f : ∀ q, (18 ≤ q ∧ q < 23) ∨ (46 < q ∧ q < 67) → I' q = I q) (h : LC I ru L) : LC I' ru L := fun w hw => by
  unfold TSP at hr
  exact (h w hw).keep (f _ (by omega)) (f _ (by omega)) (f _ (by omega))
set_option maxRecDepth 100000 in
set_option maxHeartbeats 4000000 in
theorem cd_thing (l : Launch) (d : Nat) (ru ta : Nat) (rs : List XO) (I : XI) (J : XJ) (Rp : XR) (L : Lws) (A : Ast) (hA : AOK A) (h : CA I ru L A) (x y z : Int32) (hR : ∀ (I' : XI) (J' : XJ), FCl I I' → CA I' ru L (thS A x y z).2 → Rp (some (.int (thS A x y z).1)) (shH ru ta rs) I' J') : xm l (d + 2) 0 0 mX11_thing [.ref 0, .int x, .int y, .int z] (shH ru ta rs) I J Rp := by
  have h0 := h
  obtain ⟨hc, hr, hs⟩ := h
  have hq := hA.1
  have t8 := hq.1
  have eT : I 12 5 = nI (qT (oQ A)) := hc.1.1
  have none_ : (rIn x 1 99 && rIn y 0 5 && rIn z 0 4 && decide (qT (oQ A) < 8)) = false → Rp (some (.int (-1))) (shH ru ta rs) I J := fun e => by
    have eS : thS A x y z = (-1, A) := by
      unfold thS
      rw [e]
      rfl
    have z := hR I J FCl.rf (by rw [eS]; exact h0)
    rw [eS] at z
    exact z
  have wit : ∀ (v : Int32) (lo hi : Nat) (Rq : XR), (rIn v lo hi = true → Rq (some (.int 1)) (shH ru ta rs) I J) → (rIn v lo hi = false → Rq (some (.int 0)) (shH ru ta rs) I J) → xm l (d + 1) 0 0 mX11_within [.int v, .int (nI lo), .int (nI hi)] (shH ru ta rs) I J Rq := fun v lo hi Rq a b => by
    cases e : rIn v lo hi with
    | true =>
      have := rIn_p.mp e
      exact c_within_t l d v (nI lo) (nI hi) _ _ _ _ this.1 this.2 (a e)
    | false =>
      exact c_within_f l d v (nI lo) (nI hi) _ _ _ _ (fun q => by
        have := rIn_p.mpr q
        rw [e] at this
        cases this) (b e)
  refine xm_ofK 0 (X := xxX11) (t := tX11_thing) (stop := []) (ini := false) xx11 pl11 rfl kX11_thing (fun h => by cases h) (Nat.le_of_ble_eq_true rfl) (fun K hK => ?_)
  refine wit x 1 99 _ (fun hx => ?_) (fun hx => ?_)
  · refine And.intro (fun z => absurd (show (1 : Int32) = 0 from z) (by decide)) (fun _ => ?_)
    refine wit y 0 5 _ (fun hy => ?_) (fun hy => ?_)
    · refine And.intro (fun z => absurd (show (1 : Int32) = 0 from z) (by decide)) (fun _ => ?_)
      refine wit z 0 4 _ (fun hz => ?_) (fun hz => ?_)
      · refine And.intro (fun _ => ?_) (fun z => absurd (show (1 : Int32) = 0 from z) (by decide))
        refine xm_ofK 0 (X := xxX9) (t := tX9_addThing) (stop := []) (ini := false) xx9 pl9 rfl kX9_addThing (fun h => by cases h) (Nat.le_of_ble_eq_true rfl) (fun K2 hK2 => ?_)
        refine And.intro (fun (v : I 12 5 < nI 8) => ?_) (fun (v : ¬ I 12 5 < nI 8) => ?_)
        · rw [eT, nlt (by omega) (by omega)] at v
          have it : (I 12 5).toNatClampNeg = qT (oQ A) := by rw [eT]; exact nI_clamp (by omega)
          have vt : vp_in (I 12 5) 8 := by rw [eT]; exact vp_in_nI (by omega) (by omega)
          obtain ⟨i, i1, i2, ex, ex2⟩ := rIn_t (by omega) (by omega) hx
          obtain ⟨j, j1, j2, ey, ey2⟩ := rIn_t (by omega) (by omega) hy
          obtain ⟨k, k1, k2, ez, ez2⟩ := rIn_t (by omega) (by omega) hz
          have eS : thS A x y z = (nI (qT (oQ A)), (thQ (oQ A) i j k, upd (oW A) (qT (oQ A)) (nI 100), oN A, fun k => upd (oF A k) (qT (oQ A)) (nI 100))) := by
            unfold thS
            rw [hx, hy, hz, decide_eq_true v, ex2, ey2, ez2]
            rfl
          refine And.intro vt ?_
          refine And.intro vt ?_
          refine And.intro vt ?_
          have fin := hR (uI (uI (uI (uI I 13 (qT (oQ A)) x) 14 (qT (oQ A)) y) 15 (qT (oQ A)) z) 12 5 (I 12 5 + nI 1)) J (fun q a b c d e => by rw [uI_ne (by omega), uI_ne (by omega), uI_ne (by omega), uI_ne (by omega)]) (by
            rw [eS]
            refine ⟨⟨⟨?_, hc.1.2.1, hc.1.2.2.1, fun t ht => ?_, hc.1.2.2.2.2.1, hc.1.2.2.2.2.2⟩, ?_, ?_, hc.2.2.2⟩, ?_, ?_⟩
            · rw [uI_atC, if_pos rfl, eT, nI_add]
              rfl
            · have ht : t < qT (oQ A) + 1 := ht
              show (uI (uI (uI (uI I 13 (qT (oQ A)) x) 14 (qT (oQ A)) y) 15 (qT (oQ A)) z) 12 5 (I 12 5 + nI 1)) 13 t = nI (ptF (qH (oQ A)) (qT (oQ A)) i t) ∧ (uI (uI (uI (uI I 13 (qT (oQ A)) x) 14 (qT (oQ A)) y) 15 (qT (oQ A)) z) 12 5 (I 12 5 + nI 1)) 14 t = nI (ptF (qK (oQ A)) (qT (oQ A)) j t) ∧ (uI (uI (uI (uI I 13 (qT (oQ A)) x) 14 (qT (oQ A)) y) 15 (qT (oQ A)) z) 12 5 (I 12 5 + nI 1)) 15 t = nI (ptF (qO (oQ A)) (qT (oQ A)) k t)
              rw [uI_ne (show 13 ≠ 12 by decide), uI_ne (show 13 ≠ 15 by decide), uI_ne (show 13 ≠ 14 by decide), uI_atC, uI_ne (show 14 ≠ 12 by decide), uI_ne (show 14 ≠ 15 by decide), uI_atC, uI_ne (show 14 ≠ 13 by decide), uI_ne (show 15 ≠ 12 by decide), uI_atC, uI_ne (show 15 ≠ 14 by decide), uI_ne (show 15 ≠ 13 by decide)]
              unfold ptF
              by_cases e : t = qT (oQ A)
              · rw [if_pos e, if_pos e, if_pos e, if_pos e, if_pos e, if_pos e]
                exact ⟨ex, ey, ez⟩
              · rw [if_neg e, if_neg e, if_neg e, if_neg e, if_neg e, if_neg e]
                exact hc.1.2.2.2.1 t (by omega)
            · have y := (hA.th x y z).1
              rw [eS] at y
              exact y
            · exact hc.2.2.1.keep hc.2.2.2 (fun q hq => by rw [uI_ne (by omega), uI_ne (by omega), uI_ne (by omega), uI_ne (by omega)])
            · show RC (qT (oQ A) + 1) _ _
              rw [uI_ne (by decide), uI_ne (by decide), uI_ne (by decide), uI_ne (by decide)]
              exact hr.th v
            · obtain ⟨a, fi, b, c, d', e⟩ := hs
              refine ⟨a, fi, b, c, d', fun k hk => ?_⟩
              exact (e k hk).th v)
          rw [eS, ← eT] at fin
          have e1 : I 12 5 + nI 1 - nI 1 = I 12 5 := by
            rw [eT, nI_add, nI_subI (by omega) (by omega), Nat.add_sub_cancel]
          rw [← it] at fin
          have fin3 : Rp (some (.int (I 12 5 + nI 1 - nI 1))) (shH ru ta rs) (uI (uI (uI (uI I 13 (I 12 5).toNatClampNeg x) 14 (I 12 5).toNatClampNeg y) 15 (I 12 5).toNatClampNeg z) 12 5 (I 12 5 + nI 1)) J := by
            rw [e1]
            exact fin
          exact fin3
        · rw [eT, nlt (by omega) (by omega)] at v
          exact none_ (by rw [decide_eq_false v, Bool.and_false])
      · refine And.intro (fun z => absurd rfl z) (fun _ => ?_)
        exact none_ (by rw [hz, Bool.and_false]; rfl)
    · refine And.intro (fun _ => ?_) (fun z => absurd rfl z)
      exact none_ (by rw [hy, Bool.and_false]; rfl)
  · refine And.intro (fun _ => ?_) (fun z => absurd rfl z)
    exact none_ (by rw [hx]; rfl)
set_option maxRecDepth 100000 in
set_option maxHeartbeats 4000000 in
theorem cd_reaper (l : Launch) (d : Nat) (ru ta : Nat) (rs : List XO) (I : XI) (J : XJ) (Rp : XR) (L : Lws) (A : Ast) (hA : AOK A) (h : CA I ru L A) (x : Int32) (hR : ∀ (I' : XI) (J' : XJ), FCl I I' → CA I' ru L (reS A x).2 → Rp (some (.int (reS A x).1)) (shH ru ta rs) I' J') : xm l (d + 2) 0 0 mX11_reaper [.ref 0, .int x] (shH ru ta rs) I J Rp := by
  have h0 := h
  obtain ⟨hc, hr, hs⟩ := h
  have hq := hA.1
  have r4 : qR (oQ A) ≤ 4 := hq.2.1
  have eT : I 12 6 = nI (qR (oQ A)) := hc.1.2.1
  have none_ : (rIn x 1 99 && decide (qR (oQ A) < 4)) = false → Rp (some (.int (-1))) (shH ru ta rs) I J := fun e => by
    have eS : reS A x = (-1, A) := by
      unfold reS
      rw [e]
      rfl
    have z := hR I J FCl.rf (by rw [eS]; exact h0)
    rw [eS] at z
    exact z
  refine xm_ofK 0 (X := xxX11) (t := tX11_reaper) (stop := []) (ini := false) xx11 pl11 rfl kX11_reaper (fun h => by cases h) (Nat.le_of_ble_eq_true rfl) (fun K hK => ?_)
  cases hx : rIn x 1 99 with
  | false =>
    refine c_within_f l d x 1 99 _ _ _ _ (fun q => by
      have := rIn_p.mpr (show nI 1 ≤ x ∧ x ≤ nI 99 from q)
      rw [hx] at this
      cases this) ?_
    refine And.intro (fun _ => ?_) (fun z => absurd rfl z)
    exact none_ (by rw [hx]; rfl)
  | true =>
    have hx2 := rIn_p.mp hx
    refine c_within_t l d x 1 99 _ _ _ _ hx2.1 hx2.2 ?_
    refine And.intro (fun z => absurd (show (1 : Int32) = 0 from z) (by decide)) (fun _ => ?_)
    refine xm_ofK 0 (X := xxX9) (t := tX9_addReaper) (stop := []) (ini := false) xx9 pl9 rfl kX9_addReaper (fun h => by cases h) (Nat.le_of_ble_eq_true rfl) (fun K2 hK2 => ?_)
    refine And.intro (fun (v : I 12 6 < nI 4) => ?_) (fun (v : ¬ I 12 6 < nI 4) => ?_)
    · rw [eT, nlt (by omega) (by omega)] at v
      have it : (I 12 6).toNatClampNeg = qR (oQ A) := by rw [eT]; exact nI_clamp (by omega)
      have vt : vp_in (I 12 6) 4 := by rw [eT]; exact vp_in_nI (by omega) (by omega)
      obtain ⟨i, i1, i2, ex, ex2⟩ := rIn_t (by omega) (by omega) hx
      have eS : reS A x = (nI (qR (oQ A)), (reQ (oQ A) i, oW A, oN A, oF A)) := by
        unfold reS
        rw [hx, decide_eq_true v, ex2]
        rfl
      refine And.intro vt ?_
      have fin := hR (uI (uI I 16 (qR (oQ A)) x) 12 6 (I 12 6 + nI 1)) J (fun q a b c d e => by rw [uI_ne (by omega), uI_ne (by omega)]) (by
        rw [eS]
        refine ⟨⟨⟨hc.1.1, ?_, hc.1.2.2.1, hc.1.2.2.2.1, fun t ht => ?_, hc.1.2.2.2.2.2⟩, ?_, ?_, hc.2.2.2⟩, ?_, ?_⟩
        · rw [uI_atC, if_pos rfl, eT, nI_add]
          rfl
        · have ht : t < qR (oQ A) + 1 := ht
          show (uI (uI I 16 (qR (oQ A)) x) 12 6 (I 12 6 + nI 1)) 16 t = nI (ptF (qC (oQ A)) (qR (oQ A)) i t)
          rw [uI_ne (by decide), uI_atC]
          unfold ptF
          by_cases e : t = qR (oQ A)
          · rw [if_pos e, if_pos e]
            exact ex
          · rw [if_neg e, if_neg e]
            exact hc.1.2.2.2.2.1 t (by omega)
        · have y := (hA.re x).1
          rw [eS] at y
          exact y
        · exact hc.2.2.1.keep hc.2.2.2 (fun q hq => by rw [uI_ne (by omega), uI_ne (by omega)])
        · show RC (qT (oQ A)) _ _
          rw [uI_ne (by decide), uI_ne (by decide)]
          exact hr
        · exact hs)
      rw [eS, ← eT] at fin
      have e1 : I 12 6 + nI 1 - nI 1 = I 12 6 := by
        rw [eT, nI_add, nI_subI (by omega) (by omega), Nat.add_sub_cancel]
      rw [← it] at fin
      have fin3 : Rp (some (.int (I 12 6 + nI 1 - nI 1))) (shH ru ta rs) (uI (uI I 16 (I 12 6).toNatClampNeg x) 12 6 (I 12 6 + nI 1)) J := by
        rw [e1]
        exact fin
      exact fin3
    · rw [eT, nlt (by omega) (by omega)] at v
      exact none_ (by rw [decide_eq_false v, Bool.and_false])
set_option maxRecDepth 100000 in
set_option maxHeartbeats 4000000 in
theorem cd_barn (l : Launch) (d : Nat) (ru ta : Nat) (rs : List XO) (I : XI) (J : XJ) (Rp : XR) (L : Lws) (A : Ast) (hA : AOK A) (h : CA I ru L A) (x : Int32) (hR : ∀ (I' : XI) (J' : XJ), FCl I I' → CA I' ru L (baS A x).2 → Rp (some (.int (baS A x).1)) (shH ru ta rs) I' J') : xm l (d + 2) 0 0 mX11_barn [.ref 0, .int x] (shH ru ta rs) I J Rp := by
  have h0 := h
  obtain ⟨hc, hr, hs⟩ := h
  have hq := hA.1
  have r4 : qB (oQ A) ≤ 4 := hq.2.2.1
  have eT : I 12 7 = nI (qB (oQ A)) := hc.1.2.2.1
  have none_ : (rIn x 1 999 && decide (qB (oQ A) < 4)) = false → Rp (some (.int (-1))) (shH ru ta rs) I J := fun e => by
    have eS : baS A x = (-1, A) := by
      unfold baS
      rw [e]
      rfl
    have z := hR I J FCl.rf (by rw [eS]; exact h0)
    rw [eS] at z
    exact z
  refine xm_ofK 0 (X := xxX11) (t := tX11_barn) (stop := []) (ini := false) xx11 pl11 rfl kX11_barn (fun h => by cases h) (Nat.le_of_ble_eq_true rfl) (fun K hK => ?_)
  cases hx : rIn x 1 999 with
  | false =>
    refine c_within_f l d x 1 999 _ _ _ _ (fun q => by
      have := rIn_p.mpr (show nI 1 ≤ x ∧ x ≤ nI 999 from q)
      rw [hx] at this
      cases this) ?_
    refine And.intro (fun _ => ?_) (fun z => absurd rfl z)
    exact none_ (by rw [hx]; rfl)
  | true =>
    have hx2 := rIn_p.mp hx
    refine c_within_t l d x 1 999 _ _ _ _ hx2.1 hx2.2 ?_
    refine And.intro (fun z => absurd (show (1 : Int32) = 0 from z) (by decide)) (fun _ => ?_)
    refine xm_ofK 0 (X := xxX9) (t := tX9_addBarn) (stop := []) (ini := false) xx9 pl9 rfl kX9_addBarn (fun h => by cases h) (Nat.le_of_ble_eq_true rfl) (fun K2 hK2 => ?_)
    refine And.intro (fun (v : I 12 7 < nI 4) => ?_) (fun (v : ¬ I 12 7 < nI 4) => ?_)
    · rw [eT, nlt (by omega) (by omega)] at v
      have it : (I 12 7).toNatClampNeg = qB (oQ A) := by rw [eT]; exact nI_clamp (by omega)
      have vt : vp_in (I 12 7) 4 := by rw [eT]; exact vp_in_nI (by omega) (by omega)
      obtain ⟨i, i1, i2, ex, ex2⟩ := rIn_t (by omega) (by omega) hx
      have eS : baS A x = (nI (qB (oQ A)), (baQ (oQ A) i, oW A, oN A, oF A)) := by
        unfold baS
        rw [hx, decide_eq_true v, ex2]
        rfl
      refine And.intro vt ?_
      have fin := hR (uI (uI I 17 (qB (oQ A)) x) 12 7 (I 12 7 + nI 1)) J (fun q a b c d e => by rw [uI_ne (by omega), uI_ne (by omega)]) (by
        rw [eS]
        refine ⟨⟨⟨hc.1.1, hc.1.2.1, ?_, hc.1.2.2.2.1, hc.1.2.2.2.2.1, fun t ht => ?_⟩, ?_, ?_, hc.2.2.2⟩, ?_, ?_⟩
        · rw [uI_atC, if_pos rfl, eT, nI_add]
          rfl
        · have ht : t < qB (oQ A) + 1 := ht
          show (uI (uI I 17 (qB (oQ A)) x) 12 7 (I 12 7 + nI 1)) 17 t = nI (ptF (qM (oQ A)) (qB (oQ A)) i t)
          rw [uI_ne (by decide), uI_atC]
          unfold ptF
          by_cases e : t = qB (oQ A)
          · rw [if_pos e, if_pos e]
            exact ex
          · rw [if_neg e, if_neg e]
            exact hc.1.2.2.2.2.2 t (by omega)
        · have y := (hA.ba x).1
          rw [eS] at y
          exact y
        · exact hc.2.2.1.keep hc.2.2.2 (fun q hq => by rw [uI_ne (by omega), uI_ne (by omega)])
        · show RC (qT (oQ A)) _ _
          rw [uI_ne (by decide), uI_ne (by decide)]
          exact hr
        · exact hs)
      rw [eS, ← eT] at fin
      have e1 : I 12 7 + nI 1 - nI 1 = I 12 7 := by
        rw [eT, nI_add, nI_subI (by omega) (by omega), Nat.add_sub_cancel]
      rw [← it] at fin
      have fin3 : Rp (some (.int (I 12 7 + nI 1 - nI 1))) (shH ru ta rs) (uI (uI I 17 (I 12 7).toNatClampNeg x) 12 7 (I 12 7 + nI 1)) J := by
        rw [e1]
        exact fin
      exact fin3
    · rw [eT, nlt (by omega) (by omega)] at v
      exact none_ (by rw [decide_eq_false v, Bool.and_false])
end
section
-- ===== the reference: a step is kept; its calls =====
theorem inI_n {n : Nat} {b : Int} (h : (n : Int) ≤ b) (h2 : n < 2 ^ 31) : inI (0, b) (nI n).toInt := by
  rw [nI_toInt h2]
  exact ⟨by dsimp only; omega, h⟩
def cpS (I : XI) (S k : Nat) : Rw := fun j => if 130 + 69 * S ≤ j ∧ j < 130 + 69 * S + k then I 68 (60 + (j - (130 + 69 * S))) else I 68 j
def sfS (I : XI) (k : Nat) : Rw := fun j => if 130 ≤ j ∧ j < k then I 68 (j + 69) else I 68 j
theorem cpS_s {I I1 : XI} {S k : Nat} (hk : k < 69) (hf : ∀ q, q ≠ 68 → I1 q = I q) (h : I1 68 = cpS I S k) : (∀ q, q ≠ 68 → uI I1 68 (130 + 69 * S + k) (I1 68 (60 + k)) q = I q) ∧ uI I1 68 (130 + 69 * S + k) (I1 68 (60 + k)) 68 = cpS I S (k + 1) := by
  refine ⟨fun q hq => (uI_ne hq).trans (hf q hq), ?_⟩
  rw [uI_eq, h]
  funext j
  show (if j = 130 + 69 * S + k then cpS I S k (60 + k) else cpS I S k j) = cpS I S (k + 1) j
  unfold cpS
  by_cases e : j = 130 + 69 * S + k
  · subst e
    rw [if_pos rfl, if_neg (by omega), if_pos (by omega), show 130 + 69 * S + k - (130 + 69 * S) = k by omega]
  · rw [if_neg e]
    by_cases z : 130 + 69 * S ≤ j ∧ j < 130 + 69 * S + k
    · rw [if_pos z, if_pos (by omega)]
    · rw [if_neg z, if_neg (by omega)]
theorem sfS_s {I I1 : XI} {k : Nat} (hk : 130 ≤ k) (hf : ∀ q, q ≠ 68 → I1 q = I q) (h : I1 68 = sfS I k) : (∀ q, q ≠ 68 → uI I1 68 k (I1 68 (k + 69)) q = I q) ∧ uI I1 68 k (I1 68 (k + 69)) 68 = sfS I (k + 1) := by
  refine ⟨fun q hq => (uI_ne hq).trans (hf q hq), ?_⟩
  rw [uI_eq, h]
  funext j
  show (if j = k then sfS I k (k + 69) else sfS I k j) = sfS I (k + 1) j
  unfold sfS
  by_cases e : j = k
  · subst e
    rw [if_pos rfl, if_neg (by omega), if_pos (by omega)]
  · rw [if_neg e]
    by_cases z : 130 ≤ j ∧ j < k
    · rw [if_pos z, if_pos (by omega)]
    · rw [if_neg z, if_neg (by omega)]
abbrev ksz (l : Launch) (d : Nat) (ru ta : Nat) (rs : List XO) (J : XJ) (Rp : XR) (n pc k : Nat) (I : XI) : Prop := xrun xxX12 none false false (shH ru ta rs).length 0 0 none l d tX12_keepsStep [15, 53] Rp n pc [some (.ref 67), some (.int (nI k))] [] (shH ru ta rs) I J 0 0
set_option maxRecDepth 100000 in
set_option maxHeartbeats 2000000 in
theorem rs_copy (l : Launch) (d : Nat) (ru ta : Nat) (rs : List XO) (J : XJ) (Rp : XR) (S : Nat) (hS : S ≤ 29) (I0 : XI) (e5 : I0 68 5 = nI S) (hR : ∀ I', (∀ q, q ≠ 68 → I' q = I0 q) → I' 68 = upd (cpS I0 S 69) 5 (nI (S + 1)) → Rp none (shH ru ta rs) I' J) : ∀ (m k n : Nat) (I1 : XI), k + m = 69 → m < n → ((∀ q, q ≠ 68 → I1 q = I0 q) ∧ I1 68 = cpS I0 S k) → ksz l d ru ta rs J Rp n 53 k I1 := by
  intro m
  induction m with
  | zero =>
    intro k n I1 hk hn hI
    obtain ⟨n, rfl⟩ : ∃ n', n = n' + 1 := ⟨n - 1, by omega⟩
    have hk : k = 69 := by omega
    have e : I1 68 5 = nI S := by
      rw [hI.2]
      exact (if_neg (by omega)).trans e5
    refine xrun_step fun K hK => ?_
    refine And.intro (fun _ => ?_) (fun z => absurd (show nI 69 ≤ nI k from by subst hk; exact Int32.le_refl _) z)
    subst hk
    refine And.intro (show vp_in (nI 5) 2200 from vp_b (by decide)) ?_
    refine And.intro (show vp_in (nI 5) 2200 from vp_b (by decide)) ?_
    refine hR (uI I1 68 5 (I1 68 5 + nI 1)) (fun q hq => (uI_ne hq).trans (hI.1 q hq)) ?_
    rw [uI_eq, e, nI_add, hI.2]
  | succ m ih =>
    intro k n I1 hk hn hI
    obtain ⟨n, rfl⟩ : ∃ n', n = n' + 1 := ⟨n - 1, by omega⟩
    have e : I1 68 5 = nI S := by
      rw [hI.2]
      exact (if_neg (by omega)).trans e5
    have c := ix_col hS (show k < 69 by omega)
    have r := ix_row (show k < 69 by omega)
    refine xrun_step fun K hK => ?_
    refine And.intro (fun z => absurd (show nI 69 ≤ nI k from z) (nI_ge (by omega) (by omega))) (fun _ => ?_)
    refine And.intro (show vp_in (nI 5) 2200 from vp_b (by decide)) ?_
    refine And.intro (show vp_in (nI 60 + nI k) 2200 from r.2) ?_
    refine And.intro (show vp_in (nI 130 + nI 69 * (I1 68 5) + nI k) 2200 from by rw [e]; exact c.2) ?_
    refine hK 53 [some (.ref 67), some (.int (nI k + 1))] [] (shH ru ta rs) (uI I1 68 (nI 130 + nI 69 * (I1 68 5) + nI k).toNatClampNeg (I1 68 (nI 60 + nI k).toNatClampNeg)) J 0 0 ?_
    rw [e, c.1, r.1, nI_1]
    exact ih (k + 1) n _ (by omega) (by omega) (cpS_s (by omega) hI.1 hI.2)
set_option maxRecDepth 100000 in
set_option maxHeartbeats 2000000 in
theorem rs_shift (l : Launch) (d : Nat) (ru ta : Nat) (rs : List XO) (J : XJ) (Rp : XR) (I0 : XI) (hR : ∀ I', (∀ q, q ≠ 68 → I' q = I0 q) → I' 68 = upd (sfS I0 2131) 5 (nI 29) → ∀ n, 69 < n → ksz l d ru ta rs J Rp n 53 0 I') : ∀ (m k n : Nat) (I1 : XI), k + m = 2131 → 130 ≤ k → m + 70 < n → ((∀ q, q ≠ 68 → I1 q = I0 q) ∧ I1 68 = sfS I0 k) → ksz l d ru ta rs J Rp n 15 k I1 := by
  intro m
  induction m with
  | zero =>
    intro k n I1 hk h130 hn hI
    obtain ⟨n, rfl⟩ : ∃ n', n = n' + 1 := ⟨n - 1, by omega⟩
    have hk : k = 2131 := by omega
    refine xrun_step fun K hK => ?_
    refine And.intro (fun _ => ?_) (fun z => absurd (show nI 2131 ≤ nI k from by subst hk; exact Int32.le_refl _) z)
    subst hk
    refine And.intro (show vp_in (nI 5) 2200 from vp_b (by decide)) ?_
    refine hK 53 [some (.ref 67), some (.int (nI 0))] [] (shH ru ta rs) (uI I1 68 5 (nI 29)) J 0 0 ?_
    exact hR _ (fun q hq => (uI_ne hq).trans (hI.1 q hq)) (by rw [uI_eq, hI.2]) n (by omega)
  | succ m ih =>
    intro k n I1 hk h130 hn hI
    obtain ⟨n, rfl⟩ : ∃ n', n = n' + 1 := ⟨n - 1, by omega⟩
    have r : (nI k + nI 69).toNatClampNeg = k + 69 := ix_c (by omega)
    have k1 : (nI k).toNatClampNeg = k := nI_clamp (by omega)
    refine xrun_step fun K hK => ?_
    refine And.intro (fun z => absurd (show nI 2131 ≤ nI k from z) (nI_ge (by omega) (by omega))) (fun _ => ?_)
    refine And.intro (show vp_in (nI k + nI 69) 2200 from vx_2 (by omega) (by omega)) ?_
    refine And.intro (show vp_in (nI k) 2200 from vp_in_nI (by omega) (by omega)) ?_
    refine hK 15 [some (.ref 67), some (.int (nI k + 1))] [] (shH ru ta rs) (uI I1 68 (nI k).toNatClampNeg (I1 68 (nI k + nI 69).toNatClampNeg)) J 0 0 ?_
    rw [k1, r, nI_1]
    exact ih (k + 1) n _ (by omega) (by omega) (by omega) (sfS_s h130 hI.1 hI.2)
set_option maxRecDepth 100000 in
set_option maxHeartbeats 4000000 in
theorem rs_step (l : Launch) (d : Nat) (ru ta : Nat) (rs : List XO) (I : XI) (J : XJ) (Rp : XR) (n : Nat) (f : Nat → Rw) (w : Rw) (h : SM n f I) (hw : ∀ j, j < 69 → I 68 (60 + j) = w j) (hR : ∀ I', (∀ q, q ≠ 68 → I' q = I q) → (∀ j, j < 130 → j ≠ 5 → I' 68 j = I 68 j) → SM (pN n) (pF n f w) I' → (R68 I → R68 I') → Rp none (shH ru ta rs) I' J) : xm l (d + 1) 0 0 mX12_keepsStep [.ref 67] (shH ru ta rs) I J Rp := by
  obtain ⟨hn, e5, hc⟩ := h
  have cp : ∀ (S : Nat) (I0 : XI), S ≤ 29 → I0 68 5 = nI S → (∀ q, q ≠ 68 → I0 q = I q) → (∀ j, j < 130 → j ≠ 5 → I0 68 j = I 68 j) → pN n = S + 1 → (∀ j, pF n f w S j = w j) → (∀ k j, k < S → j < 69 → I0 68 (130 + 69 * k + j) = pF n f w k j) → (R68 I → R68 I0) → ∀ m, 69 < m → ksz l d ru ta rs J Rp m 53 0 I0 := by
    intro S I0 hS e f0 f1 p1 p2 p3 p4 m hm
    refine rs_copy l d ru ta rs J Rp S hS I0 e (fun I' g1 g2 => ?_) 69 0 m I0 (by omega) (by omega) ⟨fun _ _ => rfl, ?_⟩
    · refine hR I' (fun q hq => (g1 q hq).trans (f0 q hq)) (fun j hj h5 => ?_) ⟨pN_le hn, ?_, fun k j hk hj => ?_⟩ (fun r j => ?_)
      · rw [g2, upd_n h5]
        exact (if_neg (by omega)).trans (f1 j hj h5)
      · rw [g2, upd_s, p1]
      · rw [p1] at hk
        rw [g2, upd_n (by omega)]
        by_cases ek : k = S
        · subst ek
          rw [p2 j]
          refine Eq.trans (if_pos (by omega)) ?_
          rw [show 60 + (130 + 69 * k + j - (130 + 69 * k)) = 60 + j by omega, f1 (60 + j) (by omega) (by omega)]
          exact hw j hj
        · exact (if_neg (by omega)).trans (p3 k j (by omega) hj)
      · rw [g2]
        by_cases e5' : j = 5
        · subst e5'
          rw [upd_s, show cellI CF 68 5 = (0, 30) from by decide +kernel]
          exact inI_n (by omega) (by omega)
        · rw [upd_n e5']
          unfold cpS
          by_cases c : 130 + 69 * S ≤ j ∧ j < 130 + 69 * S + 69
          · rw [if_pos c, show cellI CF 68 j = cellI CF 68 (130 + 69 * S + (j - (130 + 69 * S))) from by rw [show 130 + 69 * S + (j - (130 + 69 * S)) = j by omega], cell_col (by omega)]
            exact p4 r _
          · rw [if_neg c]
            exact p4 r j
    · funext j
      exact (if_neg (by omega)).symm
  refine xm_ofK 2200 (X := xxX12) (t := tX12_keepsStep) (stop := [15, 53]) (ini := false) xx12 pl12 rfl kX12_keepsStep (fun h => by cases h) (Nat.le_of_ble_eq_true rfl) (fun K hK => ?_)
  refine And.intro (show vp_in (nI 5) 2200 from vp_b (by decide)) ?_
  refine And.intro (fun (z : ¬ I 68 5 = nI 30) => ?_) (fun (z : I 68 5 = nI 30) => ?_)
  · refine hK 53 [some (.ref 67), some (.int (nI 0))] [] (shH ru ta rs) I J 0 0 ?_
    have n30 : ¬ n = 30 := fun e => z (by rw [e5, e])
    refine cp n I (by omega) e5 (fun _ _ => rfl) (fun _ _ _ => rfl) (if_neg n30) (fun j => ?_) (fun k j hk hj => ?_) (fun r => r) 2200 (by decide)
    · unfold pF
      rw [if_neg n30, if_pos rfl]
    · unfold pF
      rw [if_neg n30, if_neg (by omega)]
      exact hc k j hk hj
  · have n30 : n = 30 := nI_inj (e5.symm.trans z) (by omega) (by omega)
    refine hK 15 [some (.ref 67), some (.int (nI 130))] [] (shH ru ta rs) I J 0 0 ?_
    refine rs_shift l d ru ta rs J Rp I (fun I' g1 g2 m hm => ?_) 2001 130 2200 I (by omega) (by omega) (by decide) ⟨fun _ _ => rfl, ?_⟩
    · refine cp 29 I' (by omega) (by rw [g2, upd_s]) g1 (fun j hj h5 => ?_) (if_pos n30) (fun j => ?_) (fun k j hk hj => ?_) (fun r j => ?_) m hm
      · rw [g2, upd_n h5]
        exact if_neg (by omega)
      · unfold pF
        rw [if_pos n30, if_pos rfl]
      · unfold pF
        rw [if_pos n30, if_neg (by omega), g2, upd_n (by omega)]
        refine Eq.trans (if_pos (by omega)) ?_
        rw [show 130 + 69 * k + j + 69 = 130 + 69 * (k + 1) + j by omega]
        exact hc (k + 1) j (by omega) hj
      · rw [g2]
        by_cases e5' : j = 5
        · subst e5'
          rw [upd_s, show cellI CF 68 5 = (0, 30) from by decide +kernel]
          exact inI_n (by omega) (by omega)
        · rw [upd_n e5']
          unfold sfS
          by_cases c : 130 ≤ j ∧ j < 2131
          · rw [if_pos c, cell_next c.1]
            exact r _
          · rw [if_neg c]
            exact r j
    · funext j
      exact (if_neg (by omega)).symm
-- between a step's keeping and the end of its call
def KSd (I I' : XI) (A : Ast) : Prop := (∀ q, q ≠ 68 → q ≠ 91 → q ≠ 93 → I' q = I q) ∧ (∀ j, j < 130 → j ≠ 5 → I' 68 j = I 68 j) ∧ SM (pN (oN A)) (pF (oN A) (oF A) (oW A)) I' ∧ (R68 I → R68 I')
theorem SM.c {n : Nat} {f : Nat → Rw} {I I' : XI} (h : SM n f I) (e5 : I' 68 5 = I 68 5) (e : ∀ j, 130 ≤ j → j < 2200 → I' 68 j = I 68 j) : SM n f I' := ⟨h.1, e5.trans h.2.1, fun k j hk hj => (e _ (by omega) (by have := h.1; omega)).trans (h.2.2 k j hk hj)⟩
theorem KSd.f {I I1 I2 : XI} {A : Ast} (h : KSd I I1 A) (f : F93 I1 I2) : KSd I I2 A := by
  have e := f 68 (by decide) (by decide)
  exact ⟨fun q a b c => (f q b c).trans (h.1 q a b c), fun j a b => (congrFun e j).trans (h.2.1 j a b), h.2.2.1.c (congrFun e 5) (fun j _ _ => congrFun e j), fun r j => by rw [e]; exact h.2.2.2 r j⟩
theorem RE.cells {I I' : XI} {Q : Tld} {L : Lws} (h : RE I Q L) (f : ∀ q, q ≠ 68 → q ≠ 91 → q ≠ 93 → I' q = I q) (g : ∀ j, j < 42 → j ≠ 5 → I' 68 j = I 68 j) : RE I' Q L := by
  obtain ⟨⟨⟨a0, a1, a2, a3, a4, a5⟩, hq⟩, hl⟩ := h
  have q := hq
  obtain ⟨q1, q2, q3, _⟩ := q
  refine ⟨⟨⟨(g 0 (by decide) (by decide)).trans a0, (g 1 (by decide) (by decide)).trans a1, (g 2 (by decide) (by decide)).trans a2, fun t ht => ?_, fun r hr => ?_, fun b hb => ?_⟩, hq⟩, hl.keep (g 4 (by decide) (by decide)) (f 71 (by decide) (by decide) (by decide)) (f 72 (by decide) (by decide) (by decide)) (f 73 (by decide) (by decide) (by decide)) (f 77 (by decide) (by decide) (by decide)) (f 78 (by decide) (by decide) (by decide))⟩
  · rw [g (10 + t) (by omega) (by omega), g (18 + t) (by omega) (by omega), g (26 + t) (by omega) (by omega)]
    exact a3 t ht
  · rw [g (34 + r) (by omega) (by omega)]
    exact a4 r hr
  · rw [g (38 + b) (by omega) (by omega)]
    exact a5 b hb
theorem KSd.re {I I' : XI} {A : Ast} {Q : Tld} {L : Lws} (h : KSd I I' A) (hr : RE I Q L) : RE I' Q L := hr.cells h.1 (fun j a b => h.2.1 j (by omega) b)
theorem MA.w {I : XI} {L : Lws} {A : Ast} (h : MA I L A) {k : Nat} (hk : k < 69) : I 68 (60 + k) = oW A k := by
  have e := congrFun h.2.1 k
  unfold wLay at e
  rw [if_pos hk] at e
  exact e
theorem MA.w93 {I : XI} {L : Lws} {A : Ast} (h : MA I L A) {k : Nat} (hk : ¬ k < 69) : I 93 k = oW A k := by
  have e := congrFun h.2.1 k
  unfold wLay at e
  rw [if_neg hk] at e
  exact e
theorem MA.lay {I I1 : XI} {L : Lws} {A : Ast} (h : MA I L A) (f : F93 I I1) (e : I1 93 = I 93) : wLay I1 = oW A := by
  rw [← h.2.1]
  unfold wLay
  rw [e, f 68 (by decide) (by decide)]
theorem KSd.lay {I I1 : XI} {L : Lws} {A : Ast} (h : MA I L A) (f : KSd I I1 A) (e : I1 93 = I 93) : wLay I1 = oW A := by
  rw [← h.2.1]
  unfold wLay
  funext k
  by_cases c : k < 69
  · rw [if_pos c, if_pos c]
    exact f.2.1 _ (by omega) (by omega)
  · rw [if_neg c, if_neg c, e]
theorem md_kstep (l : Launch) (d : Nat) (ru ta : Nat) (rs : List XO) (I : XI) (J : XJ) (Rp : XR) (L : Lws) (A : Ast) (h : MA I L A) (I1 : XI) (f : F93 I I1) (hR : ∀ I2, KSd I I2 A → I2 93 = I1 93 → Rp none (shH ru ta rs) I2 J) : xm l (d + 1) 0 0 mX12_keepsStep [.ref 67] (shH ru ta rs) I1 J Rp := by
  have e := f 68 (by decide) (by decide)
  refine rs_step l d ru ta rs I1 J Rp (oN A) (oF A) (oW A) (h.2.2.c (congrFun e 5) (fun j _ _ => congrFun e j)) (fun j hj => (congrFun e _).trans (h.w hj)) (fun I2 g1 g2 s r => ?_)
  exact hR I2 ⟨fun q a b c => (g1 q a).trans (f q b c), fun j a b => (g2 j a b).trans (congrFun e j), s, fun r0 => r (fun j => by rw [e]; exact r0 j)⟩ (g1 93 (by decide))
theorem md_keeps (l : Launch) (d : Nat) (ru ta : Nat) (rs : List XO) (I : XI) (J : XJ) (Rp : XR) (L : Lws) (A : Ast) (h : MA I L A) (w' : Rw) (hw' : WR w') (I2 : XI) (k : KSd I I2 A) (e : I2 93 = w') (hR : ∀ I3, FMl I I3 → MA I3 L (stp A w') → I3 93 = w' → Rp none (shH ru ta rs) I3 J) : xm l (d + 1) 0 0 mX12_keepsNow [.ref 67] (shH ru ta rs) I2 J Rp := by
  refine rx_keeps l d ru ta rs I2 J Rp (fun I3 g1 g2 => ?_)
  have e3 : I3 93 = w' := (g1 93 (by decide)).trans e
  have lo : ∀ j, j < 60 ∨ 129 ≤ j → I3 68 j = I2 68 j := fun j hj => by
    rw [g2]
    exact if_neg (by omega)
  refine hR I3 ⟨fun q a b c => (g1 q a).trans (k.1 q a b c), fun j hj => (lo j (by omega)).trans (k.2.1 j (by omega) (by omega)), fun r => ⟨fun j => ?_, fun j => by rw [e3]; exact hw'.r93 j⟩⟩ ⟨h.1.cells (fun q a b c => (g1 q a).trans (k.1 q a b c)) (fun j a b => (lo j (by omega)).trans (k.2.1 j (by omega) b)), ?_, ?_⟩ e3
  · rw [g2]
    unfold kep
    by_cases c : 60 ≤ j ∧ j < 129
    · rw [if_pos c, e, show cellI CF 68 j = cellI CF 68 (60 + (j - 60)) from by rw [show 60 + (j - 60) = j by omega]]
      exact hw'.r68 (by omega)
    · rw [if_neg c]
      exact k.2.2.2 r.1 j
  · funext j
    unfold wLay
    by_cases c : j < 69
    · rw [if_pos c, g2]
      refine Eq.trans (if_pos (by omega)) ?_
      rw [show 60 + j - 60 = j by omega, e]
      rfl
    · rw [if_neg c, e3]
      rfl
  · exact k.2.2.1.c (lo 5 (by decide)) (fun j a _ => lo j (by omega))
-- which
theorem in_v {x : Int32} {n : Nat} (hn : n < 1000) : (nI 0 ≤ x ∧ x ≤ nI n - nI 1) ↔ vIn x n = true := by
  unfold vIn
  rw [Bool.and_eq_true, decide_eq_true_iff, decide_eq_true_iff]
  have key : nI 0 ≤ x → (x ≤ nI n - nI 1 ↔ x < nI n) := fun h => by
    obtain ⟨k, e, hk⟩ := nn_of (Int32.not_lt.mpr h)
    rw [e, nlt hk (by omega)]
    cases n with
    | zero =>
      refine ⟨fun z => ?_, fun z => absurd z (Nat.not_lt_zero _)⟩
      have z := Int32.le_iff_toInt_le.mp z
      rw [nI_toInt hk, show (nI 0 - nI 1).toInt = -1 from by decide] at z
      omega
    | succ n =>
      rw [nI_subI (by omega) (by omega), nle hk (by omega)]
      omega
  exact ⟨fun z => ⟨z.1, (key z.1).mp z.2⟩, fun z => ⟨z.1, (key z.1).mpr z.2⟩⟩
theorem md_in (l : Launch) (d : Nat) (v lo hi : Int32) (sh : List XO) (I : XI) (J : XJ) (Rp : XR) (h1 : (lo ≤ v ∧ v ≤ hi) → Rp (some (.int 1)) sh I J) (h0 : ¬ (lo ≤ v ∧ v ≤ hi) → Rp (some (.int 0)) sh I J) : xm l (d + 1) 0 0 mX12_in [.int v, .int lo, .int hi] sh I J Rp := by
  by_cases c : lo ≤ v ∧ v ≤ hi
  · exact m_in_t l d v lo hi sh I J Rp c.1 c.2 (h1 c)
  · exact m_in_f l d v lo hi sh I J Rp c (h0 c)
theorem md_inR (l : Launch) (d : Nat) (v : Int32) (lo hi : Nat) (sh : List XO) (I : XI) (J : XJ) (Rp : XR) (h1 : rIn v lo hi = true → Rp (some (.int 1)) sh I J) (h0 : rIn v lo hi = false → Rp (some (.int 0)) sh I J) : xm l (d + 1) 0 0 mX12_in [.int v, .int (nI lo), .int (nI hi)] sh I J Rp := by
  refine md_in l d v _ _ sh I J Rp (fun z => h1 (rIn_p.mpr z)) (fun z => h0 ?_)
  cases e : rIn v lo hi with
  | true => exact absurd (rIn_p.mp e) z
  | false => rfl
set_option maxRecDepth 100000 in
theorem md_isT (l : Launch) (d : Nat) (ru ta : Nat) (rs : List XO) (I : XI) (J : XJ) (Rp : XR) (n : Nat) (e : I 68 0 = nI n) (hn : n < 100) (x : Int32) (h1 : vIn x n = true → Rp (some (.int 1)) (shH ru ta rs) I J) (h0 : vIn x n = false → Rp (some (.int 0)) (shH ru ta rs) I J) : xm l (d + 2) 0 0 mX12_isThing [.ref 67, .int x] (shH ru ta rs) I J Rp := by
  refine xm_ofK 0 (X := xxX12) (t := tX12_isThing) (stop := []) (ini := false) xx12 pl12 rfl kX12_isThing (fun h => by cases h) (Nat.le_of_ble_eq_true rfl) (fun K hK => ?_)
  refine And.intro (show vp_in (nI 0) 2200 from vp_b (by decide)) ?_
  refine md_in l d x (nI 0) (I 68 0 - nI 1) _ _ _ _ (fun z => ?_) (fun z => ?_)
  · rw [e] at z
    exact And.intro (Or.inr rfl) (h1 ((in_v (by omega)).mp z))
  · rw [e] at z
    refine And.intro (Or.inl rfl) (h0 ?_)
    cases c : vIn x n with
    | true => exact absurd ((in_v (by omega)).mpr c) z
    | false => rfl
set_option maxRecDepth 100000 in
theorem md_isR (l : Launch) (d : Nat) (ru ta : Nat) (rs : List XO) (I : XI) (J : XJ) (Rp : XR) (n : Nat) (e : I 68 1 = nI n) (hn : n < 100) (x : Int32) (h1 : vIn x n = true → Rp (some (.int 1)) (shH ru ta rs) I J) (h0 : vIn x n = false → Rp (some (.int 0)) (shH ru ta rs) I J) : xm l (d + 2) 0 0 mX12_isReaper [.ref 67, .int x] (shH ru ta rs) I J Rp := by
  refine xm_ofK 0 (X := xxX12) (t := tX12_isReaper) (stop := []) (ini := false) xx12 pl12 rfl kX12_isReaper (fun h => by cases h) (Nat.le_of_ble_eq_true rfl) (fun K hK => ?_)
  refine And.intro (show vp_in (nI 1) 2200 from vp_b (by decide)) ?_
  refine md_in l d x (nI 0) (I 68 1 - nI 1) _ _ _ _ (fun z => ?_) (fun z => ?_)
  · rw [e] at z
    exact And.intro (Or.inr rfl) (h1 ((in_v (by omega)).mp z))
  · rw [e] at z
    refine And.intro (Or.inl rfl) (h0 ?_)
    cases c : vIn x n with
    | true => exact absurd ((in_v (by omega)).mpr c) z
    | false => rfl
set_option maxRecDepth 100000 in
theorem md_isB (l : Launch) (d : Nat) (ru ta : Nat) (rs : List XO) (I : XI) (J : XJ) (Rp : XR) (n : Nat) (e : I 68 2 = nI n) (hn : n < 100) (x : Int32) (h1 : vIn x n = true → Rp (some (.int 1)) (shH ru ta rs) I J) (h0 : vIn x n = false → Rp (some (.int 0)) (shH ru ta rs) I J) : xm l (d + 2) 0 0 mX12_isBarn [.ref 67, .int x] (shH ru ta rs) I J Rp := by
  refine xm_ofK 0 (X := xxX12) (t := tX12_isBarn) (stop := []) (ini := false) xx12 pl12 rfl kX12_isBarn (fun h => by cases h) (Nat.le_of_ble_eq_true rfl) (fun K hK => ?_)
  refine And.intro (show vp_in (nI 2) 2200 from vp_b (by decide)) ?_
  refine md_in l d x (nI 0) (I 68 2 - nI 1) _ _ _ _ (fun z => ?_) (fun z => ?_)
  · rw [e] at z
    exact And.intro (Or.inr rfl) (h1 ((in_v (by omega)).mp z))
  · rw [e] at z
    refine And.intro (Or.inl rfl) (h0 ?_)
    cases c : vIn x n with
    | true => exact absurd ((in_v (by omega)).mpr c) z
    | false => rfl
set_option maxRecDepth 100000 in
set_option maxHeartbeats 1000000 in
theorem md_isBale (l : Launch) (d : Nat) (ru ta : Nat) (rs : List XO) (I : XI) (J : XJ) (Rp : XR) (w : Rw) (e : ∀ k, k < 12 → I 68 (88 + k) = w (28 + k)) (x : Int32) (h1 : ∀ b, b < 12 → x = nI b → 0 < w (28 + b) → Rp (some (.int 1)) (shH ru ta rs) I J) (h0 : (vIn x 12 && decide (0 < w (28 + x.toNatClampNeg))) = false → Rp (some (.int 0)) (shH ru ta rs) I J) : xm l (d + 2) 0 0 mX12_isBale [.ref 67, .int x] (shH ru ta rs) I J Rp := by
  refine xm_ofK 0 (X := xxX12) (t := tX12_isBale) (stop := []) (ini := false) xx12 pl12 rfl kX12_isBale (fun h => by cases h) (Nat.le_of_ble_eq_true rfl) (fun K hK => ?_)
  refine md_inR l d x 0 11 _ _ _ _ (fun z => ?_) (fun z => ?_)
  · refine And.intro (fun z => absurd (show (1 : Int32) = 0 from z) (by decide)) (fun _ => ?_)
    obtain ⟨b, _, hb, ex, ex2⟩ := rIn_t (by omega) (by omega) z
    have hv : vIn x 12 = true := by rw [ex]; exact vIn_n (by omega) (by omega)
    subst ex
    have ix : (nI 88 + nI b).toNatClampNeg = 88 + b := ix_c (by omega)
    refine And.intro (show vp_in (nI 88 + nI b) 2200 from vx_2 (by omega) (by omega)) ?_
    refine And.intro (fun (y : I 68 (nI 88 + nI b).toNatClampNeg ≤ 0) => ?_) (fun (y : ¬ I 68 (nI 88 + nI b).toNatClampNeg ≤ 0) => ?_)
    · rw [ix, e b (by omega)] at y
      refine And.intro (Or.inl rfl) (h0 ?_)
      rw [ex2, decide_eq_false (Int32.not_lt.mpr y), Bool.and_false]
    · rw [ix, e b (by omega)] at y
      exact And.intro (Or.inr rfl) (h1 b (by omega) rfl (Int32.not_le.mp y))
  · refine And.intro (fun _ => ?_) (fun z => absurd rfl z)
    refine And.intro (Or.inl rfl) (h0 ?_)
    cases c : vIn x 12 with
    | true =>
      obtain ⟨b, hb, ex, _⟩ := vIn_t (by omega) c
      rw [ex] at z
      have := rIn_p.mpr (show nI 0 ≤ nI b ∧ nI b ≤ nI 11 from ⟨(nle (by omega) (by omega)).mpr (by omega), (nle (by omega) (by omega)).mpr (by omega)⟩)
      rw [z] at this
      cases this
    | false => rfl
end
section
-- ===== the reference: cuts, last cuts, uses, moves, sells =====
theorem MA.f {I I1 : XI} {L : Lws} {A : Ast} (h : MA I L A) (f : F93 I I1) (hl : ∀ k, ¬ k < 69 → I1 93 k = I 93 k) : MA I1 L A := by
  have e := f 68 (by decide) (by decide)
  refine ⟨h.1.keep f, ?_, h.2.2.c (congrFun e 5) (fun j _ _ => congrFun e j)⟩
  rw [← h.2.1]
  funext k
  unfold wLay
  by_cases c : k < 69
  · rw [if_pos c, if_pos c, e]
  · rw [if_neg c, if_neg c, hl k c]
theorem MA.f2 {I I1 I2 : XI} {L : Lws} {A : Ast} (h : MA I L A) (f : F93 I I1) (e1 : I1 93 = oW A) (g : F93 I1 I2) (e2 : I2 93 = I1 93) : MA I2 L A := h.f (f.tr g) (fun k hk => by rw [e2, e1]; exact (h.w93 hk).symm)
set_option maxRecDepth 100000 in
set_option maxHeartbeats 4000000 in
theorem md_cut (l : Launch) (d : Nat) (ru ta : Nat) (rs : List XO) (I : XI) (J : XJ) (Rp : XR) (L : Lws) (A : Ast) (hA : AOK A) (h : MA I L A) (x y z : Int32) (hR : ∀ (I' : XI) (J' : XJ), FMl I I' → MA I' L (cutS L A x y z).2 → Rp (some (.int (cutS L A x y z).1)) (shH ru ta rs) I' J') : xm l (d + 13) 0 0 mX12_cut [.ref 67, .int x, .int y, .int z] (shH ru ta rs) I J Rp := by
  have h0 := h
  obtain ⟨hre, hlay, hs⟩ := h
  have hA0 := hA
  obtain ⟨hq, hw, hn, hf⟩ := hA
  have t8 := hq.1
  have r4 := hq.2.1
  have b4 := hq.2.2.1
  have eT : I 68 0 = nI (qT (oQ A)) := hre.1.1.1
  have eR : I 68 1 = nI (qR (oQ A)) := hre.1.1.2.1
  have eB : I 68 2 = nI (qB (oQ A)) := hre.1.1.2.2.1
  have no : ∀ (I1 : XI) (J1 : XJ), FMl I I1 → MA I1 L A → cutS L A x y z = (-1, A) → Rp (some (.int (-1))) (shH ru ta rs) I1 J1 := fun I1 J1 f1 m1 e => by
    have z := hR I1 J1 f1 (by rw [e]; exact m1)
    rw [e] at z
    exact z
  refine xm_ofK 0 (X := xxX12) (t := tX12_cut) (stop := []) (ini := false) xx12 pl12 rfl kX12_cut (fun h => by cases h) (Nat.le_of_ble_eq_true rfl) (fun K hK => ?_)
  refine md_isT l (d + 10) ru ta rs I J _ _ eT (by omega) x (fun hx => ?_) (fun hx => ?_)
  · refine And.intro (fun z => absurd (show (1 : Int32) = 0 from z) (by decide)) (fun _ => ?_)
    refine md_isR l (d + 10) ru ta rs I J _ _ eR (by omega) y (fun hy => ?_) (fun hy => ?_)
    · refine And.intro (fun z => absurd (show (1 : Int32) = 0 from z) (by decide)) (fun _ => ?_)
      refine md_isB l (d + 10) ru ta rs I J _ _ eB (by omega) z (fun hz => ?_) (fun hz => ?_)
      · refine And.intro (fun _ => ?_) (fun z => absurd (show (1 : Int32) = 0 from z) (by decide))
        obtain ⟨t, ht, ex, ex2⟩ := vIn_t (by omega) hx
        obtain ⟨r, hr, ey, ey2⟩ := vIn_t (by omega) hy
        obtain ⟨b, hb, ez, ez2⟩ := vIn_t (by omega) hz
        refine rx_lays l (d + 11) ru ta rs I J _ (fun I1 f1 e1 => ?_)
        rw [hlay] at e1
        have fb := frB_le (oW A)
        subst ex ey ez
        refine rx_cuts l d ru ta rs I1 J _ (oQ A) L (hre.keep f1) (by rw [e1]; exact hw) t r b ht hr hb (fun I2 J2 f2 e2 => ?_)
        rw [e1] at e2 ⊢
        cases hok : cuOK (oQ A) L (oW A) t r b with
        | true =>
          have hfb : ¬ frB (oW A) = 12 := (cuOK_el hok).2.2.2.2.1
          have eS : cutS L A (nI t) (nI r) (nI b) = (nI (frB (oW A)), stp A (cuW (oQ A) L (oW A) t r b)) := by
            unfold cutS
            rw [ex2, ey2, ez2, hx, hy, hz, hok]
            rfl
          have eBv : bI (cuB (oQ A) L (oW A) t r b) = nI (frB (oW A)) := by
            unfold cuB
            rw [hok, if_pos rfl]
            exact bI_b (by omega)
          have eRv : cuR (oQ A) L (oW A) t r b = cuW (oQ A) L (oW A) t r b := by
            unfold cuR
            rw [hok, if_pos rfl]
          rw [eRv] at e2
          rw [eBv]
          refine And.intro (fun z => absurd (show nI (frB (oW A)) = -1 from z) (nI_ne1 (by omega))) (fun _ => ?_)
          refine md_kstep l (d + 11) ru ta rs I J2 _ L A h0 I2 (f1.tr f2) (fun I3 k3 e3 => ?_)
          refine md_keeps l (d + 11) ru ta rs I J2 _ L A h0 (cuW (oQ A) L (oW A) t r b) (hw.cW hq ht hr hb hok) I3 k3 (e3.trans e2) (fun I4 f4 m4 _ => ?_)
          have z := hR I4 J2 f4 (by rw [eS]; exact m4)
          rw [eS] at z
          exact z
        | false =>
          have eS : cutS L A (nI t) (nI r) (nI b) = (-1, A) := by
            unfold cutS
            rw [ex2, ey2, ez2, hok, Bool.and_false]
            rfl
          have eBv : bI (cuB (oQ A) L (oW A) t r b) = -1 := by
            unfold cuB
            rw [hok]
            rfl
          have eRv : cuR (oQ A) L (oW A) t r b = oW A := by
            unfold cuR
            rw [hok]
            rfl
          rw [eRv] at e2
          rw [eBv]
          refine And.intro (fun _ => ?_) (fun z => absurd rfl z)
          exact no I2 J2 (FMl.f (f1.tr f2) (by rw [e2]; exact hw)) (h0.f2 f1 e1 f2 (e2.trans e1.symm)) eS
      · refine And.intro (fun z => absurd rfl z) (fun _ => ?_)
        exact no I J FMl.rf h0 (by unfold cutS; rw [hz, Bool.and_false, Bool.false_and]; rfl)
    · refine And.intro (fun _ => ?_) (fun z => absurd rfl z)
      exact no I J FMl.rf h0 (by unfold cutS; rw [hy, Bool.and_false, Bool.false_and, Bool.false_and]; rfl)
  · refine And.intro (fun _ => ?_) (fun z => absurd rfl z)
    exact no I J FMl.rf h0 (by unfold cutS; rw [hx, Bool.false_and, Bool.false_and, Bool.false_and]; rfl)
set_option maxRecDepth 100000 in
set_option maxHeartbeats 4000000 in
theorem md_last (l : Launch) (d : Nat) (ru ta : Nat) (rs : List XO) (I : XI) (J : XJ) (Rp : XR) (L : Lws) (A : Ast) (hA : AOK A) (h : MA I L A) (x y : Int32) (hR : ∀ (I' : XI) (J' : XJ), FMl I I' → MA I' L (lastS A x y).2 → Rp (some (.int (lastS A x y).1)) (shH ru ta rs) I' J') : xm l (d + 4) 0 0 mX12_last [.ref 67, .int x, .int y] (shH ru ta rs) I J Rp := by
  have h0 := h
  obtain ⟨hre, hlay, hs⟩ := h
  have hA0 := hA
  obtain ⟨hq, hw, hn, hf⟩ := hA
  have t8 := hq.1
  have r4 := hq.2.1
  have b4 := hq.2.2.1
  have eT : I 68 0 = nI (qT (oQ A)) := hre.1.1.1
  have eR : I 68 1 = nI (qR (oQ A)) := hre.1.1.2.1
  have eB : I 68 2 = nI (qB (oQ A)) := hre.1.1.2.2.1
  have no : ∀ (I1 : XI) (J1 : XJ), FMl I I1 → MA I1 L A → lastS A x y = (-1, A) → Rp (some (.int (-1))) (shH ru ta rs) I1 J1 := fun I1 J1 f1 m1 e => by
    have z := hR I1 J1 f1 (by rw [e]; exact m1)
    rw [e] at z
    exact z
  refine xm_ofK 0 (X := xxX12) (t := tX12_last) (stop := []) (ini := false) xx12 pl12 rfl kX12_last (fun h => by cases h) (Nat.le_of_ble_eq_true rfl) (fun K hK => ?_)
  refine md_isR l (d + 1) ru ta rs I J _ _ eR (by omega) x (fun hx => ?_) (fun hx => ?_)
  · refine And.intro (fun z => absurd (show (1 : Int32) = 0 from z) (by decide)) (fun _ => ?_)
    refine md_isB l (d + 1) ru ta rs I J _ _ eB (by omega) y (fun hy => ?_) (fun hy => ?_)
    · refine And.intro (fun _ => ?_) (fun z => absurd (show (1 : Int32) = 0 from z) (by decide))
      obtain ⟨r, hr, ex, ex2⟩ := vIn_t (by omega) hx
      obtain ⟨b, hb, ey, ey2⟩ := vIn_t (by omega) hy
      refine rx_lays l (d + 2) ru ta rs I J _ (fun I1 f1 e1 => ?_)
      rw [hlay] at e1
      have g68 : I1 68 = I 68 := f1 68 (by decide) (by decide)
      have hre1 := hre.keep f1
      have eC : I1 68 (34 + r) = nI (qC (oQ A) r) := hre1.1.1.2.2.2.2.1 r hr
      have fb := frB_le (oW A)
      subst ex ey
      have i8 : (nI 8 + nI r).toNatClampNeg = 8 + r := ix_c (by omega)
      have i34 : (nI 34 + nI r).toNatClampNeg = 34 + r := ix_c (by omega)
      have noS : laOK (oQ A) (oW A) r b = false → Rp (some (.int (-1))) (shH ru ta rs) I1 J := fun e => by
        refine no I1 J (FMl.f f1 (by rw [e1]; exact hw)) (h0.f2 f1 e1 F93.rf rfl) ?_
        unfold lastS
        rw [ex2, ey2, e, Bool.and_false]
        rfl
      refine rx_free l (d + 2) ru ta rs I1 J _ ?_
      rw [e1]
      refine And.intro (show vp_in (nI 8 + nI r) 69 from vx_2 (by omega) (by omega)) ?_
      refine And.intro (fun (a : I1 93 (nI 8 + nI r).toNatClampNeg = nI 1) => ?_) (fun (a : ¬ I1 93 (nI 8 + nI r).toNatClampNeg = nI 1) => ?_)
      · rw [i8, e1] at a
        refine noS ?_
        unfold laOK
        rw [decide_eq_true a]
        rfl
      · rw [i8, e1] at a
        refine And.intro (fun (c : bI (frB (oW A)) = -1) => ?_) (fun (c : ¬ bI (frB (oW A)) = -1) => ?_)
        · rw [bI_n fb] at c
          refine noS ?_
          unfold laOK
          rw [decide_eq_true c]
          simp
        · have c : ¬ frB (oW A) = 12 := fun q => c ((bI_n fb).mpr q)
          have eb : bI (frB (oW A)) = nI (frB (oW A)) := bI_b (by omega)
          refine And.intro (show vp_in (nI 34 + nI r) 2200 from vx_2 (by omega) (by omega)) ?_
          refine rx_isRoom l (d + 1) ru ta rs I1 J _ (oQ A) hre1.1.1 b hb b4 (I1 68 (nI 34 + nI r).toNatClampNeg) (fun g => ?_) (fun g => ?_)
          · rw [i34, eC, e1] at g
            have hok : laOK (oQ A) (oW A) r b = true := by
              unfold laOK
              rw [decide_eq_false a, decide_eq_false c, g]
              rfl
            refine And.intro (fun _ => ?_) (fun z => absurd (show (1 : Int32) = 0 from z) (by decide))
            have eS : lastS A (nI r) (nI b) = (nI (frB (oW A)), stp A (laW (oQ A) (oW A) r b)) := by
              unfold lastS
              rw [ex2, ey2, hx, hy, hok]
              rfl
            refine md_kstep l (d + 2) ru ta rs I J _ L A h0 I1 f1 (fun I2 k2 e2 => ?_)
            have eC2 : I2 68 (34 + r) = nI (qC (oQ A) r) := (k2.re hre).1.1.2.2.2.2.1 r hr
            refine And.intro (show vp_in (nI 34 + nI r) 2200 from vx_2 (by omega) (by omega)) ?_
            refine rx_balesV l (d + 2) ru ta rs I2 J _ _ (frB (oW A)) eb (by omega) (nI 5) (I2 68 (nI 34 + nI r).toNatClampNeg) (nI b) (fun I3 f3 e3 => ?_)
            rw [i34, eC2, e2, e1] at e3
            refine And.intro (show vp_in (nI 8 + nI r) 69 from vx_2 (by omega) (by omega)) ?_
            refine md_keeps l (d + 2) ru ta rs I J _ L A h0 (laW (oQ A) (oW A) r b) (hw.la hq hr hb hok) (uI I3 93 (nI 8 + nI r).toNatClampNeg (nI 1)) ((k2.f f3).f F93.rf.u) (by rw [uI_eq, i8, e3]; rfl) (fun I4 f4 m4 _ => ?_)
            rw [eb]
            have z := hR I4 J f4 (by rw [eS]; exact m4)
            rw [eS] at z
            exact z
          · rw [i34, eC, e1] at g
            refine And.intro (fun z => absurd rfl z) (fun _ => ?_)
            refine noS ?_
            unfold laOK
            rw [g, Bool.and_false]
    · refine And.intro (fun z => absurd rfl z) (fun _ => ?_)
      exact no I J FMl.rf h0 (by unfold lastS; rw [hy, Bool.and_false, Bool.false_and]; rfl)
  · refine And.intro (fun _ => ?_) (fun z => absurd rfl z)
    exact no I J FMl.rf h0 (by unfold lastS; rw [hx, Bool.false_and, Bool.false_and]; rfl)
set_option maxRecDepth 100000 in
set_option maxHeartbeats 4000000 in
theorem md_use (l : Launch) (d : Nat) (ru ta : Nat) (rs : List XO) (I : XI) (J : XJ) (Rp : XR) (L : Lws) (A : Ast) (hA : AOK A) (h : MA I L A) (x y : Int32) (hR : ∀ (I' : XI) (J' : XJ), FMl I I' → MA I' L (useS A x y).2 → Rp (some (.int (useS A x y).1)) (shH ru ta rs) I' J') : xm l (d + 4) 0 0 mX12_use [.ref 67, .int x, .int y] (shH ru ta rs) I J Rp := by
  have h0 := h
  obtain ⟨hre, hlay, hs⟩ := h
  have hA0 := hA
  obtain ⟨hq, hw, hn, hf⟩ := hA
  have t8 := hq.1
  have r4 := hq.2.1
  have b4 := hq.2.2.1
  have eT : I 68 0 = nI (qT (oQ A)) := hre.1.1.1
  have eR : I 68 1 = nI (qR (oQ A)) := hre.1.1.2.1
  have eB : I 68 2 = nI (qB (oQ A)) := hre.1.1.2.2.1
  have no : ∀ (I1 : XI) (J1 : XJ), FMl I I1 → MA I1 L A → useS A x y = (-1, A) → Rp (some (.int (-1))) (shH ru ta rs) I1 J1 := fun I1 J1 f1 m1 e => by
    have z := hR I1 J1 f1 (by rw [e]; exact m1)
    rw [e] at z
    exact z
  refine xm_ofK 0 (X := xxX12) (t := tX12_use) (stop := []) (ini := false) xx12 pl12 rfl kX12_use (fun h => by cases h) (Nat.le_of_ble_eq_true rfl) (fun K hK => ?_)
  refine md_inR l (d + 2) x 1 999 _ _ _ _ (fun hx => ?_) (fun hx => ?_)
  · refine And.intro (fun z => absurd (show (1 : Int32) = 0 from z) (by decide)) (fun _ => ?_)
    refine md_isB l (d + 1) ru ta rs I J _ _ eB (by omega) y (fun hy => ?_) (fun hy => ?_)
    · refine And.intro (fun _ => ?_) (fun z => absurd (show (1 : Int32) = 0 from z) (by decide))
      obtain ⟨k, k1, k2, ex, ex2⟩ := rIn_t (by omega) (by omega) hx
      obtain ⟨b, hb, ey, ey2⟩ := vIn_t (by omega) hy
      have ny : ¬ y = -1 := by rw [ey]; exact nI_ne1 (by omega)
      have hsm := sm_le hw y
      refine rx_lays l (d + 2) ru ta rs I J _ (fun I1 f1 e1 => ?_)
      rw [hlay] at e1
      refine rx_feetIn l (d + 2) ru ta rs I1 J _ y ?_
      rw [e1, feR_n hw ny 12 (by omega), ex]
      refine And.intro (fun (z : nI k ≤ nI (smF (fjN (oW A) y) 12)) => ?_) (fun (z : ¬ nI k ≤ nI (smF (fjN (oW A) y) 12)) => ?_)
      · have hle := (nle (by omega) (by omega)).mp z
        have eS : useS A x y = (feR (usN y 12 (oW A) x) y 12, stp A (usN y 12 (oW A) x)) := by
          unfold useS
          rw [hx, hy, ex2, decide_eq_true hle]
          rfl
        rw [ex] at eS
        refine md_kstep l (d + 2) ru ta rs I J _ L A h0 I1 f1 (fun I2 k2' e2 => ?_)
        refine rx_uses l d ru ta rs I2 J _ (nI k) y (by rw [e2, e1]; exact us_12 hw hle) (fun I3 f3 e3 => ?_)
        rw [e2, e1] at e3
        refine md_keeps l (d + 2) ru ta rs I J _ L A h0 (usN y 12 (oW A) (nI k)) (WR.us 12 (oW A) k (by omega) hw (us_12 hw hle)) I3 (k2'.f f3) e3 (fun I4 f4 m4 e4 => ?_)
        refine rx_feetIn l (d + 2) ru ta rs I4 J _ y ?_
        rw [e4]
        rw [ex] at hR
        have z := hR I4 J f4 (by rw [eS]; exact m4)
        rw [eS] at z
        exact z
      · have hle : ¬ k ≤ smF (fjN (oW A) y) 12 := fun q => z ((nle (by omega) (by omega)).mpr q)
        refine no I1 J (FMl.f f1 (by rw [e1]; exact hw)) (h0.f2 f1 e1 F93.rf rfl) ?_
        unfold useS
        rw [ex2, decide_eq_false hle, Bool.and_false]
        rfl
    · refine And.intro (fun z => absurd rfl z) (fun _ => ?_)
      exact no I J FMl.rf h0 (by unfold useS; rw [hy, Bool.and_false, Bool.false_and]; rfl)
  · refine And.intro (fun _ => ?_) (fun z => absurd rfl z)
    exact no I J FMl.rf h0 (by unfold useS; rw [hx, Bool.false_and, Bool.false_and]; rfl)
set_option maxRecDepth 100000 in
set_option maxHeartbeats 4000000 in
theorem md_move (l : Launch) (d : Nat) (ru ta : Nat) (rs : List XO) (I : XI) (J : XJ) (Rp : XR) (L : Lws) (A : Ast) (hA : AOK A) (h : MA I L A) (x y : Int32) (hR : ∀ (I' : XI) (J' : XJ), FMl I I' → MA I' L (moveS A x y).2 → Rp (some (.int (moveS A x y).1)) (shH ru ta rs) I' J') : xm l (d + 4) 0 0 mX12_move [.ref 67, .int x, .int y] (shH ru ta rs) I J Rp := by
  have h0 := h
  obtain ⟨hre, hlay, hs⟩ := h
  have hA0 := hA
  obtain ⟨hq, hw, hn, hf⟩ := hA
  have t8 := hq.1
  have r4 := hq.2.1
  have b4 := hq.2.2.1
  have eT : I 68 0 = nI (qT (oQ A)) := hre.1.1.1
  have eR : I 68 1 = nI (qR (oQ A)) := hre.1.1.2.1
  have eB : I 68 2 = nI (qB (oQ A)) := hre.1.1.2.2.1
  have e88 : ∀ k, k < 12 → I 68 (88 + k) = oW A (28 + k) := fun k hk => by
    rw [← h0.w (k := 28 + k) (by omega), show 60 + (28 + k) = 88 + k by omega]
  have no : ∀ (I1 : XI) (J1 : XJ), FMl I I1 → MA I1 L A → moveS A x y = (0, A) → Rp (some (.int (0))) (shH ru ta rs) I1 J1 := fun I1 J1 f1 m1 e => by
    have z := hR I1 J1 f1 (by rw [e]; exact m1)
    rw [e] at z
    exact z
  refine xm_ofK 0 (X := xxX12) (t := tX12_move) (stop := []) (ini := false) xx12 pl12 rfl kX12_move (fun h => by cases h) (Nat.le_of_ble_eq_true rfl) (fun K hK => ?_)
  refine md_isBale l (d + 1) ru ta rs I J _ (oW A) e88 x (fun b hb ex h28 => ?_) (fun hx => ?_)
  · refine And.intro (fun z => absurd (show (1 : Int32) = 0 from z) (by decide)) (fun _ => ?_)
    have hx : vIn x 12 = true := by rw [ex]; exact vIn_n (by omega) hb
    have ex2 : x.toNatClampNeg = b := by rw [ex]; exact nI_clamp (by omega)
    refine md_isB l (d + 1) ru ta rs I J _ _ eB (by omega) y (fun hy => ?_) (fun hy => ?_)
    · refine And.intro (fun z => absurd (show (1 : Int32) = 0 from z) (by decide)) (fun _ => ?_)
      obtain ⟨n, hn', ey, ey2⟩ := vIn_t (by omega) hy
      subst ex
      have i112 : (nI 112 + nI b).toNatClampNeg = 60 + (52 + b) := by rw [ix_c (by omega)]; omega
      have i28 : (nI 28 + nI b).toNatClampNeg = 28 + b := ix_c (by omega)
      have v112 : vp_in (nI 112 + nI b) 2200 := vx_2 (by omega) (by omega)
      refine And.intro v112 ?_
      refine And.intro (fun (c : ¬ I 68 (nI 112 + nI b).toNatClampNeg = y) => ?_) (fun (c : I 68 (nI 112 + nI b).toNatClampNeg = y) => ?_)
      · rw [i112, h0.w (by omega), ey] at c
        refine rx_lays l (d + 2) ru ta rs I J _ (fun I1 f1 e1 => ?_)
        rw [hlay] at e1
        have hre1 := hre.keep f1
        refine And.intro (show vp_in (nI 28 + nI b) 69 from vx_2 (by omega) (by omega)) ?_
        rw [ey]
        refine rx_isRoom l (d + 1) ru ta rs I1 J _ (oQ A) hre1.1.1 n hn' b4 (I1 93 (nI 28 + nI b).toNatClampNeg) (fun g => ?_) (fun g => ?_)
        · rw [i28, e1] at g
          have hok : mvOK (oQ A) (oW A) b n = true := by
            unfold mvOK
            rw [decide_eq_true h28, decide_eq_false c, g]
            rfl
          have eS : moveS A (nI b) y = (1, stp A (upd (oW A) (52 + b) y)) := by
            unfold moveS
            rw [hx, hy, ex2, ey2, hok]
            rfl
          rw [ey] at eS
          refine And.intro (fun _ => ?_) (fun z => absurd (show (1 : Int32) = 0 from z) (by decide))
          refine md_kstep l (d + 2) ru ta rs I J _ L A h0 I1 f1 (fun I2 k2 e2 => ?_)
          refine And.intro v112 ?_
          refine And.intro (Or.inr rfl) ?_
          rw [ey] at hR
          have z := hR (uI I2 68 (nI 112 + nI b).toNatClampNeg (nI n)) J ⟨fun q a b' c' => (uI_ne a).trans (k2.1 q a b' c'), fun j hj => by
            rw [i112, uI_eq, upd_n (by omega)]
            exact k2.2.1 j (by omega) (by omega), fun r => ⟨fun j => by
              rw [i112, uI_eq]
              by_cases ej : j = 60 + (52 + b)
              · rw [ej]
                rcases cells_w.2 (52 + b) (by omega) with c | c
                · omega
                · rw [c]
                  exact inI_fr _
              · rw [upd_n ej]
                exact k2.2.2.2 r.1 j, fun j => by rw [uI_ne (by decide), e2, e1]; exact hw.r93 j⟩⟩ (by
            rw [eS, i112]
            refine ⟨hre.cells (fun q a b' c' => (uI_ne a).trans (k2.1 q a b' c')) (fun j hj h5 => by rw [uI_eq, upd_n (by omega)]; exact k2.2.1 j (by omega) h5), ?_, k2.2.2.1.c (by rw [uI_eq, upd_n (by omega)]) (fun j a _ => by rw [uI_eq, upd_n (by omega)])⟩
            funext j
            show wLay _ j = upd (oW A) (52 + b) (nI n) j
            unfold wLay
            by_cases cj : j < 69
            · rw [if_pos cj, uI_eq]
              by_cases ej : j = 52 + b
              · subst ej
                rw [upd_s, upd_s]
              · rw [upd_n (by omega), upd_n ej, k2.2.1 _ (by omega) (by omega)]
                exact h0.w cj
            · rw [if_neg cj, uI_ne (by decide), upd_n (by omega), e2, e1])
          rw [eS] at z
          exact z
        · rw [i28, e1] at g
          refine And.intro (fun z => absurd rfl z) (fun _ => ?_)
          refine And.intro (Or.inl rfl) ?_
          refine no I1 J (FMl.f f1 (by rw [e1]; exact hw)) (h0.f2 f1 e1 F93.rf rfl) ?_
          unfold moveS
          rw [ex2, ey2, show mvOK (oQ A) (oW A) b n = false from by unfold mvOK; rw [g, Bool.and_false], Bool.and_false]
          rfl
      · rw [i112, h0.w (by omega), ey] at c
        refine And.intro (Or.inl rfl) ?_
        refine no I J FMl.rf h0 ?_
        unfold moveS
        rw [ex2, ey2, show mvOK (oQ A) (oW A) b n = false from by unfold mvOK; rw [decide_eq_true c]; simp, Bool.and_false]
        rfl
    · refine And.intro (fun _ => ?_) (fun z => absurd rfl z)
      refine And.intro (Or.inl rfl) ?_
      exact no I J FMl.rf h0 (by unfold moveS; rw [hy, Bool.and_false, Bool.false_and]; rfl)
  · refine And.intro (fun _ => ?_) (fun z => absurd rfl z)
    refine And.intro (Or.inl rfl) ?_
    refine no I J FMl.rf h0 ?_
    unfold moveS
    cases hv : vIn x 12 with
    | false => rfl
    | true =>
      rw [hv, Bool.true_and, decide_eq_false_iff_not] at hx
      unfold mvOK
      rw [decide_eq_false hx, Bool.false_and, Bool.false_and, Bool.and_false]
      rfl
set_option maxRecDepth 100000 in
set_option maxHeartbeats 4000000 in
theorem md_sell (l : Launch) (d : Nat) (ru ta : Nat) (rs : List XO) (I : XI) (J : XJ) (Rp : XR) (L : Lws) (A : Ast) (hA : AOK A) (h : MA I L A) (x : Int32) (hR : ∀ (I' : XI) (J' : XJ), FMl I I' → MA I' L (sellS L A x).2 → Rp (some (.int (sellS L A x).1)) (shH ru ta rs) I' J') : xm l (d + 11) 0 0 mX12_sell [.ref 67, .int x] (shH ru ta rs) I J Rp := by
  have h0 := h
  obtain ⟨hre, hlay, hs⟩ := h
  have hA0 := hA
  obtain ⟨hq, hw, hn, hf⟩ := hA
  have t8 := hq.1
  have r4 := hq.2.1
  have b4 := hq.2.2.1
  have eT : I 68 0 = nI (qT (oQ A)) := hre.1.1.1
  have eR : I 68 1 = nI (qR (oQ A)) := hre.1.1.2.1
  have eB : I 68 2 = nI (qB (oQ A)) := hre.1.1.2.2.1
  have e88 : ∀ k, k < 12 → I 68 (88 + k) = oW A (28 + k) := fun k hk => by
    rw [← h0.w (k := 28 + k) (by omega), show 60 + (28 + k) = 88 + k by omega]
  have no : ∀ (I1 : XI) (J1 : XJ), FMl I I1 → MA I1 L A → sellS L A x = (-1, A) → Rp (some (.int (-1))) (shH ru ta rs) I1 J1 := fun I1 J1 f1 m1 e => by
    have z := hR I1 J1 f1 (by rw [e]; exact m1)
    rw [e] at z
    exact z
  refine xm_ofK 0 (X := xxX12) (t := tX12_sell) (stop := []) (ini := false) xx12 pl12 rfl kX12_sell (fun h => by cases h) (Nat.le_of_ble_eq_true rfl) (fun K hK => ?_)
  refine md_isBale l (d + 8) ru ta rs I J _ (oW A) e88 x (fun b hb ex h28 => ?_) (fun hx => ?_)
  · refine And.intro (fun _ => ?_) (fun z => absurd (show (1 : Int32) = 0 from z) (by decide))
    subst ex
    have eS : sellS L A (nI b) = (nI (seR L (oW A) b), stp A (seW L (oW A) b)) := by
      unfold sellS
      rw [nI_clamp (by omega), vIn_n (by omega) hb, decide_eq_true h28]
      rfl
    refine md_kstep l (d + 9) ru ta rs I J _ L A h0 I F93.rf (fun I1 k1 e1 => ?_)
    refine rx_lays l (d + 9) ru ta rs I1 J _ (fun I2 f2 e2 => ?_)
    rw [k1.lay h0 e1] at e2
    refine rx_sellsN l d ru ta rs I2 J _ (oQ A) L ((k1.f f2).re hre) (by rw [e2]; exact hw) b hb (fun I3 J3 f3 e3 => ?_)
    rw [e2] at e3
    refine md_keeps l (d + 9) ru ta rs I J3 _ L A h0 _ (hw.se hb) I3 ((k1.f f2).f f3) e3 (fun I4 f4 m4 e4 => ?_)
    rw [e2]
    have z := hR I4 J3 f4 (by rw [eS]; exact m4)
    rw [eS] at z
    exact z
  · refine And.intro (fun z => absurd rfl z) (fun _ => ?_)
    refine no I J FMl.rf h0 ?_
    unfold sellS
    rw [hx]
    rfl
end
