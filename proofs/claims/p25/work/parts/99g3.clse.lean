-- ===== the guess: 99g3.clse =====
theorem cwg_cutLen2 (l : Launch) (d : Nat) (ru ta : Nat) (rs : List XO) (I : XI) (J : XJ) (Rp : XR) (Q : Tld) (L : Lws) (h : CE I ru Q L) (w : Rw) (hr : RC (qT Q) w (I 29)) (hw : WR w) (t r bn : Nat) (ht : t < qT Q) (hrr : r < qR Q) (hb : bn < qB Q) (h1 : ∀ (I' : XI) (J' : XJ), cuOK Q L w t r bn = true → (∀ q, q ≠ 24 → I' q = I q) → Rp (some (.int (nI (cuL Q L w t r)))) (shH ru ta rs) I' J') (h0 : ∀ (I' : XI) (J' : XJ), cuOK Q L w t r bn = false → (∀ q, q ≠ 24 → I' q = I q) → Rp (some (.int (nI 0))) (shH ru ta rs) I' J') : xm l (d + 5) 0 0 mX10_cutLength [.ref 28, .int (nI t), .int (nI r), .int (nI bn)] (shH ru ta rs) I J Rp := by
  refine cwg_cutLen l d ru ta rs I J Rp Q L h w hr hw t r bn ht hrr hb (fun I' J' f => ?_)
  by_cases c : cuOK Q L w t r bn = true
  · rw [if_pos c]
    exact h1 I' J' c f
  · rw [if_neg c]
    exact h0 I' J' (Bool.eq_false_iff.mpr c) f
set_option maxRecDepth 100000 in
set_option maxHeartbeats 4000000 in
theorem cwg_cutOff (l : Launch) (d : Nat) (ru ta : Nat) (rs : List XO) (I : XI) (J : XJ) (Rp : XR) (Q : Tld) (L : Lws) (h : CE I ru Q L) (w : Rw) (hr : RC (qT Q) w (I 29)) (hw : WR w) (t r bn : Nat) (ht : t < qT Q) (hrr : r < qR Q) (hb : bn < qB Q) (hR : ∀ (I' : XI) (J' : XJ), F24 29 I I' → RC (qT Q) (cuR Q L w t r bn) (I' 29) → Rp (some (.int (bI (cuB Q L w t r bn)))) (shH ru ta rs) I' J') : xm l (d + 6) 0 0 mX10_cutOff [.ref 28, .int (nI t), .int (nI r), .int (nI bn)] (shH ru ta rs) I J Rp := by
  have t8 := h.2.1.1
  have r4 := h.2.1.2.1
  have ls := lgR_le (L := L) h.2.1 hw ht
  have l1 := cuL_c (L := L) h.2.1 hw ht hrr
  have l2 := cuL_eq (L := L) h.2.1 hw ht hrr
  refine xm_ofK 0 (X := xxX10) (t := tX10_cutOff) (stop := []) (ini := false) xx10 pl10 rfl kX10_cutOff (fun h => by cases h) (Nat.le_of_ble_eq_true rfl) (fun K hK => ?_)
  refine cwg_cutLen2 l d ru ta rs I J _ Q L h w hr hw t r bn ht hrr hb (fun I1 J1 hok f1 => ?_) (fun I1 J1 hok f1 => ?_)
  · have h1 := h.k24 f1
    obtain ⟨c1, c2, c3, c4, c5, c6⟩ := cuOK_el hok
    have fb : frB w < 12 := by
      have := frB_le w
      omega
    have nL : ¬ cuL Q L w t r = 0 := fun z => c4 (l1.2.mp z)
    refine cwg_shadow l (d + 1) ru ta rs I1 J1 _ Q L h1 w (by rw [f1 29 (by decide)]; exact hr) hw t ht (fun I2 J2 f2 => ?_)
    have f12 : ∀ q, q ≠ 24 → I2 q = I q := fun q hq => (f2 q hq).trans (f1 q hq)
    have h2 := h.k24 f12
    have e27 : I2 29 = I 29 := f12 29 (by decide)
    refine And.intro (fun z => absurd (show nI (cuL Q L w t r) ≤ 0 from z) (fun z => nL ((nle0 (by omega)).mp z))) (fun _ => ?_)
    refine And.intro (fun z => absurd (show nI (lgR Q L w t) ≤ 0 from z) (fun z => c4 ((nle0 (by omega)).mp z))) (fun _ => ?_)
    refine cc_hasThing l (d + 4) ru ta rs I2 J2 _ Q L h2 (nI t) (fun _ _ _ => ?_) (fun hn => absurd rfl (hn t ht))
    refine And.intro (fun z => absurd (show (1 : Int32) = 0 from z) (by decide)) (fun _ => ?_)
    refine cc_hasReaper l (d + 4) ru ta rs I2 J2 _ Q L h2 (nI r) (fun _ _ _ => ?_) (fun hn => absurd rfl (hn r hrr))
    refine And.intro (fun _ => ?_) (fun z => absurd (show (1 : Int32) = 0 from z) (by decide))
    have ixt : (nI 0 + nI t).toNatClampNeg = t := by rw [nI_add, Nat.zero_add]; exact nI_clamp (by omega)
    have ix2 : (nI t).toNatClampNeg = t := nI_clamp (by omega)
    have ixr : (nI 12 + nI r).toNatClampNeg = 12 + r := ix_c (by omega)
    have vt : vp_in (nI 0 + nI t) 69 := vx_2 (by omega) (by omega)
    have nz : ¬ nI (lgR Q L w t) = 0 := fun z => c4 ((neq0 (by omega)).mp z)
    refine And.intro vt ?_
    refine And.intro vt ?_
    refine And.intro (show ¬ nI (lgR Q L w t) = 0 from nz) ?_
    refine And.intro vt ?_
    refine And.intro (show vp_in (nI 12 + nI r) 69 from vx_2 (by omega) (by omega)) ?_
    refine And.intro (show vp_in (nI t) 8 from vp_in_nI (by omega) (by omega)) ?_
    have g := (hw t (by omega) (by omega)).nw
    rw [bd_1 (by omega)] at g
    have cg := cut_g g.2 l2.2.2 (by omega) ls
    have er : RC (qT Q) (upd (upd w t (w t - w t * nI (cuL Q L w t r) / nI (lgR Q L w t))) (12 + r) (nI 1)) ((uI (uI I2 29 (nI 0 + nI t).toNatClampNeg (I2 29 (nI 0 + nI t).toNatClampNeg - I2 29 (nI 0 + nI t).toNatClampNeg * nI (cuL Q L w t r) / nI (lgR Q L w t))) 29 (nI 12 + nI r).toNatClampNeg (nI 1)) 29) := by
      rw [ixt, ixr, uI_eq, uI_eq, e27, hr.t ht (by omega)]
      exact (hr.ut ht (by omega) _).uh (by omega) _
    have ww : WR (upd (upd w t (w t - w t * nI (cuL Q L w t r) / nI (lgR Q L w t))) (12 + r) (nI 1)) := by
      refine (hw.u (fun _ _ => ?_)).u (fun _ _ => okC.mk (by rw [bd_2 (by omega) (by omega)]; omega))
      rw [g.1, cg.1]
      exact okC.mk (by rw [bd_1 (by omega)]; exact Nat.le_trans (Nat.sub_le _ _) g.2)
    have fq : frB (upd (upd w t (w t - w t * nI (cuL Q L w t r) / nI (lgR Q L w t))) (12 + r) (nI 1)) = frB w := frB_cg (fun b hb => by rw [upd_n (by omega), upd_n (by omega)])
    have ek : (uI (uI I2 29 (nI 0 + nI t).toNatClampNeg (I2 29 (nI 0 + nI t).toNatClampNeg - I2 29 (nI 0 + nI t).toNatClampNeg * nI (cuL Q L w t r) / nI (lgR Q L w t))) 29 (nI 12 + nI r).toNatClampNeg (nI 1)) 14 (nI t).toNatClampNeg = nI (qK Q t) := by
      rw [uI_ne (by decide), uI_ne (by decide), ix2]
      exact (h2.1.2.2.2.1 t ht).2.1
    refine (show xm l (d + 5) 0 0 mX10_bind [.ref 28, .int ((uI (uI I2 29 (nI 0 + nI t).toNatClampNeg (I2 29 (nI 0 + nI t).toNatClampNeg - I2 29 (nI 0 + nI t).toNatClampNeg * nI (cuL Q L w t r) / nI (lgR Q L w t))) 29 (nI 12 + nI r).toNatClampNeg (nI 1)) 14 (nI t).toNatClampNeg), .int (nI (cuL Q L w t r)), .int (nI bn)] (shH ru ta rs) (uI (uI I2 29 (nI 0 + nI t).toNatClampNeg (I2 29 (nI 0 + nI t).toNatClampNeg - I2 29 (nI 0 + nI t).toNatClampNeg * nI (cuL Q L w t r) / nI (lgR Q L w t))) 29 (nI 12 + nI r).toNatClampNeg (nI 1)) J2 _ from ?_)
    rw [ek]
    refine cwg_bind l (d + 3) ru ta rs (uI (uI I2 29 (nI 0 + nI t).toNatClampNeg (I2 29 (nI 0 + nI t).toNatClampNeg - I2 29 (nI 0 + nI t).toNatClampNeg * nI (cuL Q L w t r) / nI (lgR Q L w t))) 29 (nI 12 + nI r).toNatClampNeg (nI 1)) J2 _ (qT Q) _ er ww (by rw [fq]; exact fb) (nI (qK Q t)) (nI (cuL Q L w t r)) (nI bn) (fun I3 f3 r3 => ?_)
    · rw [fq] at r3 ⊢
      have eB : cuB Q L w t r bn = frB w := by
        unfold cuB
        rw [hok, if_pos rfl]
      have eR : cuR Q L w t r bn = baI (upd (upd w t (w t - w t * nI (cuL Q L w t r) / nI (lgR Q L w t))) (12 + r) (nI 1)) (frB w) (nI (qK Q t)) (nI (cuL Q L w t r)) (nI bn) := by
        unfold cuR
        rw [hok, if_pos rfl, cu_comm w (by omega) (by omega) fb]
        unfold cuW
        rw [cuG_t (by omega), l2.1]
        unfold cuG
        rw [l2.1]
      have y := hR I3 J2 ((F24.n f12).tr (F24.rf.u.u.tr f3)) (by rw [eR]; exact r3)
      rw [eB, bI_b fb] at y
      exact y
  · have h1 := h.k24 f1
    refine cwg_shadow l (d + 1) ru ta rs I1 J1 _ Q L h1 w (by rw [f1 29 (by decide)]; exact hr) hw t ht (fun I2 J2 f2 => ?_)
    have f12 : ∀ q, q ≠ 24 → I2 q = I q := fun q hq => (f2 q hq).trans (f1 q hq)
    refine And.intro (fun _ => ?_) (fun z => absurd (show nI 0 ≤ 0 from Int32.le_refl _) z)
    have eB : cuB Q L w t r bn = 12 := by
      unfold cuB
      rw [hok]
      rfl
    have eR : cuR Q L w t r bn = w := by
      unfold cuR
      rw [hok]
      rfl
    rw [eB, eR] at hR
    exact hR I2 J2 (F24.n f12) (by rw [f12 29 (by decide)]; exact hr)
