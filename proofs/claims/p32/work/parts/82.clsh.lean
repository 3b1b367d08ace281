-- ===== the class: an hour passes; a decade =====
theorem WR.w1 {w : Rw} (h : WR w) (hc : cnP w = true) (e : w 64 + nI 1 = nI 10) : WR (upd (upd (hr0 w) 64 (nI 0)) 65 (hr0 w 65 + nI 1)) := by
  obtain ⟨h1, h65⟩ := h.h0x hc e
  intro k hk h67
  by_cases e : k = 65
  · subst e
    rw [upd_s]
    obtain ⟨n, e, hn⟩ := h1 65 (by decide) (by decide) (by decide)
    have b9 : bdW 65 = 999 := by decide
    rw [e] at h65 ⊢
    have c := (nlt (by omega) (by omega)).mp h65
    rw [nI_add]
    exact okC.mk (by omega)
  · rw [upd_n e]
    by_cases e2 : k = 64
    · subst e2
      rw [upd_s]
      exact okC.mk (Nat.zero_le _)
    · rw [upd_n e2]
      exact h1 k hk h67 e2
theorem dw0_eq {w : Rw} (h : WR (upd (upd w 64 (nI 0)) 65 (w 65 + nI 1))) : upd (dr (upd (upd w 64 (nI 0)) 65 (w 65 + nI 1))) 66 (nI (dN (upd (upd w 64 (nI 0)) 65 (w 65 + nI 1)) 10)) = dw0 w := by
  rw [← (h.dv (m := 10) (by decide) (by decide)).1]
  rfl
theorem WR.sp1 {L : Lws} {w : Rw} (hw : WR w) {b : Nat} (hb : b < 12) (hp : 0 < w (28 + b)) : WR (shR (upd w (40 + b) (ltR (nI 99) (w (40 + b) + nI 1))) b (nI (spR L w b))) := by
  have y := WR.sp (L := L) 1 w b (by omega) hw
  have z : spN L 1 w b = shR (upd w (40 + b) (ltR (nI 99) (w (40 + b) + nI 1))) b (nI (spR L w b)) := if_pos hp
  rw [z] at y
  exact y
theorem WR.gw1 {Q : Tld} {L : Lws} {w : Rw} (hw : WR w) (t8 : qT Q ≤ 8) {t : Nat} (ht : t < 8) (h8 : w 66 < nI 8) : WR (upd w t (ltR (nI 100) (w t + nI (grR Q L w t)))) := by
  have y := WR.gw (Q := Q) (L := L) t8 1 w t (by omega) hw
  have z : gwN Q L 1 w t = upd w t (ltR (nI 100) (w t + nI (grR Q L w t))) := if_pos h8
  rw [z] at y
  exact y
theorem cw_spoils2 (l : Launch) (d : Nat) (ru ta : Nat) (rs : List XO) (I : XI) (J : XJ) (Rp : XR) (Q : Tld) (L : Lws) (h : CE I ru Q L) (w : Rw) (hr : RC (qT Q) w (I 27)) (hw : WR w) (b : Nat) (hb : b < 12) (h1 : 0 < w (28 + b) → ∀ (I' : XI) (J' : XJ), (∀ q, q ≠ 24 → I' q = I q) → Rp (some (.int (nI (spR L w b)))) (shH ru ta rs) I' J') (h0 : ¬ 0 < w (28 + b) → ∀ (I' : XI) (J' : XJ), (∀ q, q ≠ 24 → I' q = I q) → Rp (some (.int (nI 0))) (shH ru ta rs) I' J') : xm l (d + 4) 0 0 mX10_spoilsOf [.ref 26, .int (nI b)] (shH ru ta rs) I J Rp := by
  refine cw_spoils l d ru ta rs I J Rp Q L h w hr hw b hb (fun I' J' f => ?_)
  by_cases c : 0 < w (28 + b)
  · rw [if_pos c]
    exact h1 c I' J' f
  · rw [if_neg c]
    exact h0 c I' J' f
abbrev phr (l : Launch) (d : Nat) (ru ta : Nat) (rs : List XO) (J : XJ) (Rp : XR) (n pc : Nat) (k : Nat) (I : XI) : Prop := xrun xxX10 (some .boolean) false false (shH ru ta rs).length 0 0 none l (d + 4) tX10_passHour [91, 155] Rp n pc [some (.ref 26), some (.int (nI k))] [] (shH ru ta rs) I J 0 0
set_option maxRecDepth 100000 in
set_option maxHeartbeats 4000000 in
theorem cw_day2 (l : Launch) (d : Nat) (ru ta : Nat) (rs : List XO) (I : XI) (J : XJ) (Rp : XR) (Q : Tld) (L : Lws) (h : CE I ru Q L) (W : Rw) (hR : ∀ (I' : XI) (J' : XJ), F24 27 I I' → RC (qT Q) W (I' 27) → Rp (some (.int 1)) (shH ru ta rs) I' J') : ∀ (m b n : Nat) (J : XJ) (I1 : XI) (w : Rw), b + m = 12 → m < n → F24 27 I I1 → RC (qT Q) w (I1 27) → WR w → spN L m w b = W → phr l d ru ta rs J Rp n 155 b I1 := by
  intro m
  induction m with
  | zero =>
    intro b n J I1 w hb hn f hr hw e
    obtain ⟨n, rfl⟩ : ∃ n', n = n' + 1 := ⟨n - 1, by omega⟩
    have hb : b = 12 := by omega
    subst hb
    refine xrun_step fun K hK => ?_
    refine And.intro (fun _ => ?_) (fun z => absurd (Int32.le_refl _) z)
    refine And.intro (Or.inr rfl) (hR I1 J f ?_)
    rw [← e]
    exact hr
  | succ m ih =>
    intro b n J I1 w hb hn f hr hw e
    obtain ⟨n, rfl⟩ : ∃ n', n = n' + 1 := ⟨n - 1, by omega⟩
    have i40 : (nI 40 + nI b).toNatClampNeg = 40 + b := ix_c (by omega)
    have v40 : vp_in (nI 40 + nI b) 69 := vx_2 (by omega) (by omega)
    refine xrun_step fun K hK => ?_
    refine And.intro (fun z => absurd (show nI 12 ≤ nI b from z) (nI_ge (by omega) (by omega))) (fun _ => ?_)
    refine cw_spoils2 l d ru ta rs I1 J _ Q L (h.k27 f) w hr hw b (by omega) (fun hp I2 J2 f2 => ?_) (fun hp I2 J2 f2 => ?_)
    · have r2 : RC (qT Q) w (I2 27) := by rw [f2 27 (by decide)]; exact hr
      have sl := spR_le (L := L) (w := w) (b := b)
      have e2 : spN L (m + 1) w b = spN L m (shR (upd w (40 + b) (ltR (nI 99) (w (40 + b) + nI 1))) b (nI (spR L w b))) (b + 1) := if_pos hp
      refine cw_shorten l (d + 2) ru ta rs I2 J2 _ _ w r2 hw (nI b) (spR L w b) (by omega) (fun b' hb' eb _ I3 f3 r3 => ?_) (fun hn => absurd hp (hn b (by omega) rfl))
      refine And.intro v40 ?_
      refine And.intro v40 ?_
      refine hK 155 [some (.ref 26), some (.int (nI b + 1))] [] (shH ru ta rs) (uI I3 27 (nI 40 + nI b).toNatClampNeg (if I3 27 (nI 40 + nI b).toNatClampNeg + nI 1 < nI 99 then I3 27 (nI 40 + nI b).toNatClampNeg + nI 1 else nI 99)) J2 0 0 ?_
      rw [nI_1, i40]
      have eb := nI_inj eb (by omega) (by omega)
      subst eb
      refine ih (b + 1) n J2 _ _ (by omega) (by omega) (f.tr ((F24.n f2).tr (f3.tr F24.rf.u))) ?_ (WR.sp1 (L := L) hw (by omega) hp) (by rw [← e2]; exact e)
      rw [uI_eq]
      exact RC.spo hw hr (by omega) hp sl r3
    · have r2 : RC (qT Q) w (I2 27) := by rw [f2 27 (by decide)]; exact hr
      have e2 : spN L (m + 1) w b = spN L m w (b + 1) := if_neg hp
      refine cw_shorten l (d + 2) ru ta rs I2 J2 _ _ w r2 hw (nI b) 0 (by omega) (fun b' hb' eb hp' I3 f3 r3 => ?_) (fun hn => ?_)
      · have eb := nI_inj eb (by omega) (by omega)
        subst eb
        exact absurd hp' hp
      · refine And.intro v40 ?_
        refine And.intro v40 ?_
        refine hK 155 [some (.ref 26), some (.int (nI b + 1))] [] (shH ru ta rs) (uI I2 27 (nI 40 + nI b).toNatClampNeg (if I2 27 (nI 40 + nI b).toNatClampNeg + nI 1 < nI 99 then I2 27 (nI 40 + nI b).toNatClampNeg + nI 1 else nI 99)) J2 0 0 ?_
        rw [nI_1, i40]
        refine ih (b + 1) n J2 _ w (by omega) (by omega) (f.tr ((F24.n f2).tr F24.rf.u)) ?_ hw (by rw [← e2]; exact e)
        rw [uI_eq]
        exact r2.ud0 (by omega) hp _
set_option maxRecDepth 100000 in
set_option maxHeartbeats 4000000 in
theorem cw_day1 (l : Launch) (d : Nat) (ru ta : Nat) (rs : List XO) (I : XI) (J : XJ) (Rp : XR) (Q : Tld) (L : Lws) (h : CE I ru Q L) (W : Rw) (hR : ∀ (I' : XI) (J' : XJ), F24 27 I I' → RC (qT Q) W (I' 27) → Rp (some (.int 1)) (shH ru ta rs) I' J') : ∀ (m t n : Nat) (J : XJ) (I1 : XI) (w : Rw), t + m = qT Q → m + 14 < n → F24 27 I I1 → RC (qT Q) w (I1 27) → WR w → spN L 12 (gwN Q L m w t) 0 = W → phr l d ru ta rs J Rp n 91 t I1 := by
  have t8 := h.2.1.1
  intro m
  induction m with
  | zero =>
    intro t n J I1 w ht hn f hr hw e
    obtain ⟨n, rfl⟩ : ∃ n', n = n' + 1 := ⟨n - 1, by omega⟩
    have ht : t = qT Q := by omega
    subst ht
    have eT : I1 12 5 = nI (qT Q) := (h.k27 f).1.1
    refine xrun_step fun K hK => ?_
    refine And.intro (fun _ => ?_) (fun z => absurd (show I1 12 5 ≤ nI (qT Q) from by rw [eT]; exact Int32.le_refl _) z)
    exact hK 155 [some (.ref 26), some (.int (nI 0))] [] _ I1 J 0 0 (cw_day2 l d ru ta rs I J Rp Q L h W hR 12 0 n J I1 w (by omega) (by omega) f hr hw e)
  | succ m ih =>
    intro t n J I1 w ht hn f hr hw e
    obtain ⟨n, rfl⟩ : ∃ n', n = n' + 1 := ⟨n - 1, by omega⟩
    have eT : I1 12 5 = nI (qT Q) := (h.k27 f).1.1
    have e66 : I1 27 66 = w 66 := hr.hi (by decide) (by decide)
    have it : (nI 0 + nI t).toNatClampNeg = t := by rw [nI_add, Nat.zero_add]; exact nI_clamp (by omega)
    have vt : vp_in (nI 0 + nI t) 69 := vx_2 (by omega) (by omega)
    refine xrun_step fun K hK => ?_
    refine And.intro (fun z => absurd (show I1 12 5 ≤ nI t from z) (by rw [eT]; exact nI_ge (by omega) (by omega))) (fun _ => ?_)
    refine And.intro (fun z => absurd (show nI 8 ≤ nI t from z) (nI_ge (by omega) (by omega))) (fun _ => ?_)
    refine And.intro (show vp_in (nI 66) 69 from vp_b (by decide)) ?_
    refine And.intro (fun (z : nI 8 ≤ I1 27 66) => ?_) (fun (z : ¬ nI 8 ≤ I1 27 66) => ?_)
    · rw [e66] at z
      have e2 : gwN Q L (m + 1) w t = w := if_neg (Int32.not_lt.mpr z)
      exact hK 155 [some (.ref 26), some (.int (nI 0))] [] _ I1 J 0 0 (cw_day2 l d ru ta rs I J Rp Q L h W hR 12 0 n J I1 w (by omega) (by omega) f hr hw (by rw [e2] at e; exact e))
    · rw [e66] at z
      have z8 := Int32.not_le.mp z
      have e2 : gwN Q L (m + 1) w t = gwN Q L m (upd w t (ltR (nI 100) (w t + nI (grR Q L w t)))) (t + 1) := if_pos z8
      refine And.intro vt ?_
      refine cw_grows l d ru ta rs I1 J _ Q L (h.k27 f) w hr hw t (by omega) (fun I2 J2 f2 => ?_)
      refine And.intro vt ?_
      refine hK 91 [some (.ref 26), some (.int (nI t + 1))] [] (shH ru ta rs) (uI I2 27 (nI 0 + nI t).toNatClampNeg (if I1 27 (nI 0 + nI t).toNatClampNeg + nI (grR Q L w t) < nI 100 then I1 27 (nI 0 + nI t).toNatClampNeg + nI (grR Q L w t) else nI 100)) J2 0 0 ?_
      have g := (hw t (by omega) (by omega)).nw
      rw [bd_1 (by omega)] at g
      have gl := grR_le (Q := Q) (L := L) (w := w) (t := t)
      have ev : (if I1 27 t + nI (grR Q L w t) < nI 100 then I1 27 t + nI (grR Q L w t) else nI 100) = ltR (nI 100) (w t + nI (grR Q L w t)) := by
        rw [hr.t (by omega) (by omega), g.1, nI_add, ltR_n (by omega) (by omega)]
        exact mn_n (by omega) (by omega)
      rw [nI_1, it, ev]
      refine ih (t + 1) n J2 _ _ (by omega) (by omega) (f.tr ((F24.n f2).tr F24.rf.u)) ?_ (WR.gw1 (Q := Q) (L := L) (t := t) hw t8 (by omega) z8) (by rw [← e2]; exact e)
      rw [uI_eq, f2 27 (by decide)]
      exact hr.ut (by omega) (by omega) _
set_option maxRecDepth 100000 in
set_option maxHeartbeats 8000000 in
theorem cw_passHour (l : Launch) (d : Nat) (ru ta : Nat) (rs : List XO) (I : XI) (J : XJ) (Rp : XR) (Q : Tld) (L : Lws) (h : CE I ru Q L) (w : Rw) (hr : RC (qT Q) w (I 27)) (hw : WR w) (h1 : cnP w = true → ∀ (I' : XI) (J' : XJ), F24 27 I I' → RC (qT Q) (hrR Q L w) (I' 27) → Rp (some (.int 1)) (shH ru ta rs) I' J') (h0 : cnP w = false → Rp (some (.int 0)) (shH ru ta rs) I J) : xm l (d + 5) 0 0 mX10_passHour [.ref 26] (shH ru ta rs) I J Rp := by
  refine xm_ofK 40 (X := xxX10) (t := tX10_passHour) (stop := [91, 155]) (ini := false) xx10 pl10 rfl kX10_passHour (fun h => by cases h) (Nat.le_of_ble_eq_true rfl) (fun K hK => ?_)
  refine cw_hoursLeft l (d + 3) ru ta rs I J _ _ w hr hw ?_
  refine And.intro (fun (hh4 : 0 < nI (hlN w)) => ?_) (fun (hh4 : ¬ (0 < nI (hlN w))) => ?_)
  · have hc : cnP w = true := (hl_c hw).1.mp ((npos (by have := (hl_c hw).2.1; omega)).mp hh4)
    refine And.intro (fun z => absurd (show nI 4 ≤ nI 0 from z) (by decide)) (fun _ => ?_)
    refine And.intro (show vp_in ((nI 12) + (nI 0)) 69 from vp_b (by decide)) ?_
    refine And.intro (fun z => absurd (show nI 4 ≤ (nI 0) + 1 from z) (by decide)) (fun _ => ?_)
    refine And.intro (show vp_in ((nI 12) + ((nI 0) + 1)) 69 from vp_b (by decide)) ?_
    refine And.intro (fun z => absurd (show nI 4 ≤ ((nI 0) + 1) + 1 from z) (by decide)) (fun _ => ?_)
    refine And.intro (show vp_in ((nI 12) + (((nI 0) + 1) + 1)) 69 from vp_b (by decide)) ?_
    refine And.intro (fun z => absurd (show nI 4 ≤ (((nI 0) + 1) + 1) + 1 from z) (by decide)) (fun _ => ?_)
    refine And.intro (show vp_in ((nI 12) + ((((nI 0) + 1) + 1) + 1)) 69 from vp_b (by decide)) ?_
    refine And.intro (fun _ => ?_) (fun z => absurd (show nI 4 ≤ ((((nI 0) + 1) + 1) + 1) + 1 from by decide) z)
    refine And.intro (show vp_in (nI 64) 69 from vp_b (by decide)) ?_
    refine And.intro (show vp_in (nI 64) 69 from vp_b (by decide)) ?_
    refine And.intro (show vp_in (nI 64) 69 from vp_b (by decide)) ?_
    refine And.intro (fun (h52 : nI 10 ≤ (I 27 64) + (nI 1)) => ?_) (fun (h52 : ¬ (nI 10 ≤ (I 27 64) + (nI 1))) => ?_)
    · have rH : RC (qT Q) (hr0 w) ((uI (uI (uI (uI (uI I 27 12 (nI 0)) 27 13 (nI 0)) 27 14 (nI 0)) 27 15 (nI 0)) 27 64 ((I 27 64) + (nI 1))) 27) := by
        rw [uI_eq, uI_eq, uI_eq, uI_eq, uI_eq]
        exact hr.h0 (by rw [hr.hi (by decide) (by decide)])
      have e10 : w 64 + nI 1 = nI 10 := by
        rw [hr.hi (by decide) (by decide)] at h52
        have g := (hw 64 (by decide) (by decide)).nw
        have b9 : bdW 64 = 9 := by decide
        rw [g.1, nI_add] at h52 ⊢
        have := (nle (by omega) (by omega)).mp h52
        congr 1
        omega
      refine And.intro (show vp_in (nI 64) 69 from vp_b (by decide)) ?_
      refine And.intro (show vp_in (nI 65) 69 from vp_b (by decide)) ?_
      refine And.intro (show vp_in (nI 65) 69 from vp_b (by decide)) ?_
      refine cw_draw l (d + 3) ru ta rs (uI (uI (uI (uI (uI (uI (uI I 27 12 (nI 0)) 27 13 (nI 0)) 27 14 (nI 0)) 27 15 (nI 0)) 27 64 ((I 27 64) + (nI 1))) 27 64 (nI 0)) 27 65 ((I 27 65) + (nI 1))) J _ (qT Q) (upd (upd (hr0 w) 64 (nI 0)) 65 (hr0 w 65 + nI 1)) ?_ (hw.w1 hc e10) (nI 10) 10 rfl (by decide) (by decide) (fun I1 f1 r1 => ?_)
      · rw [uI_eq, uI_eq]
        have y := (rH.uk (i := 64) (by decide) (nI 0)).uk (i := 65) (by decide) (hr0 w 65 + nI 1)
        have e65 : I 27 65 = hr0 w 65 := hr.hi (by decide) (by decide)
        rw [← e65] at y
        rw [← e65]
        exact y
      refine And.intro (show vp_in (nI 66) 69 from vp_b (by decide)) ?_
      refine hK 91 [some (.ref 26), some (.int (nI 0))] [] (shH ru ta rs) (uI I1 27 66 (nI (dN (upd (upd (hr0 w) 64 (nI 0)) 65 (hr0 w 65 + nI 1)) 10))) J 0 0 ?_
      refine cw_day1 l d ru ta rs I J Rp Q L h (hrR Q L w) (h1 hc) (qT Q) 0 40 J _ (dw0 (hr0 w)) (by omega) (by have := h.2.1.1; omega) (F24.rf.u.u.u.u.u.u.u.tr f1.u) ?_ (hw.w0 hc e10) ?_
      · rw [uI_eq, ← dw0_eq (hw.w1 hc e10)]
        exact r1.uk (by decide) _
      · unfold hrR
        rw [if_pos e10]
        rfl
    · have rH : RC (qT Q) (hr0 w) ((uI (uI (uI (uI (uI I 27 12 (nI 0)) 27 13 (nI 0)) 27 14 (nI 0)) 27 15 (nI 0)) 27 64 ((I 27 64) + (nI 1))) 27) := by
        rw [uI_eq, uI_eq, uI_eq, uI_eq, uI_eq]
        exact hr.h0 (by rw [hr.hi (by decide) (by decide)])
      have e10 : ¬ w 64 + nI 1 = nI 10 := fun z => by
        rw [hr.hi (by decide) (by decide), z] at h52
        exact h52 (Int32.le_refl _)
      refine And.intro (Or.inr rfl) ?_
      refine h1 hc (uI (uI (uI (uI (uI I 27 12 (nI 0)) 27 13 (nI 0)) 27 14 (nI 0)) 27 15 (nI 0)) 27 64 ((I 27 64) + (nI 1))) J F24.rf.u.u.u.u.u ?_
      unfold hrR
      rw [if_neg e10]
      exact rH
  · have hc : cnP w = false := by
      cases e : cnP w with
      | false => rfl
      | true => exact absurd ((npos (by have := (hl_c hw).2.1; omega)).mpr ((hl_c hw).1.mpr e)) hh4
    refine And.intro (Or.inl rfl) ?_
    exact h0 hc
set_option maxRecDepth 100000 in
set_option maxHeartbeats 8000000 in
theorem cw_decade (l : Launch) (d : Nat) (ru ta : Nat) (rs : List XO) (I : XI) (J : XJ) (Rp : XR) (Q : Tld) (L : Lws) (h : CE I ru Q L) (w : Rw) (hr : RC (qT Q) w (I 27)) (hw : WR w) (t0 : 0 < qT Q) (r0 : 0 < qR Q) (b0 : 0 < qB Q) (hR : ∀ (I' : XI) (J' : XJ), F24 27 I I' → RC (qT Q) (hpR Q L w) (I' 27) → Rp none (shH ru ta rs) I' J') : xm l (d + 7) 0 0 mX10_passDecade [.ref 26] (shH ru ta rs) I J Rp := by
  have t8 := h.2.1.1
  have r4 := h.2.1.2.1
  have b4 := h.2.1.2.2.1
  refine xm_ofK 0 (X := xxX10) (t := tX10_passDecade) (stop := []) (ini := false) xx10 pl10 rfl kX10_passDecade (fun h => by cases h) (Nat.le_of_ble_eq_true rfl) (fun K hK => ?_)
  have n6 : dN w 6 < 6 := (hw.dv (m := 6) (by decide) (by decide)).2
  refine cw_draw l (d + 5) ru ta rs I J _ _ w hr hw (nI 6) 6 rfl (by decide) (by decide) (fun I1 f1 r1 => ?_)
  have w1 := hw.d
  have h1 := h.k27 f1
  refine And.intro (fun (z : ¬ nI (dN w 6) = 0) => ?_) (fun (z : nI (dN w 6) = 0) => ?_)
  · have z0 : ¬ dN w 6 = 0 := fun q => z ((neq0 (by omega)).mpr q)
    refine And.intro (fun (y : ¬ nI (dN w 6) = nI 1) => ?_) (fun (y : nI (dN w 6) = nI 1) => ?_)
    · have y1 : ¬ dN w 6 = 1 := fun q => y (by rw [q])
      refine And.intro (fun (v : ¬ nI (dN w 6) = nI 2) => ?_) (fun (v : nI (dN w 6) = nI 2) => ?_)
      · have y2 : ¬ dN w 6 = 2 := fun q => v (by rw [q])
        have eW : hpR Q L w = ptR Q L 1 (dr w) := by
          unfold hpR
          rw [if_neg z0, if_neg y1, if_neg y2]
        refine cw_passHour l (d + 1) ru ta rs I1 J _ Q L h1 (dr w) r1 w1 (fun hc I2 J2 f2 r2 => ?_) (fun hc => ?_)
        · refine hR I2 J2 (f1.tr f2) ?_
          have e : ptR Q L 1 (dr w) = hrR Q L (dr w) := if_pos hc
          rw [eW, e]
          exact r2
        · refine hR I1 J f1 ?_
          have e : ptR Q L 1 (dr w) = dr w := if_neg (by rw [hc]; decide)
          rw [eW, e]
          exact r1
      · have y2 : dN w 6 = 2 := nI_inj v (by omega) (by omega)
        have eW : hpR Q L w = hp2 (dr w) := by
          unfold hpR
          rw [if_neg z0, if_neg y1, if_pos y2]
        have n12 := (w1.dv (m := 12) (by decide) (by decide)).2
        refine cw_draw l (d + 5) ru ta rs I1 J _ _ _ r1 w1 (nI 12) 12 rfl (by decide) (by decide) (fun I2 f2 r2 => ?_)
        have n20 := w1.d.dv (m := 20) (by decide) (by decide)
        refine cw_draw l (d + 5) ru ta rs I2 J _ _ _ r2 w1.d (nI 20) 20 rfl (by decide) (by decide) (fun I3 f3 r3 => ?_)
        refine (show xm l (d + 6) 0 0 mX10_shorten [.ref 26, .int (nI (dN (dr w) 12)), .int (nI 1 + nI (dN (dr (dr w)) 20))] (shH ru ta rs) I3 J _ from ?_)
        rw [nI_add]
        refine cw_shorten l (d + 4) ru ta rs I3 J _ _ _ r3 w1.d.d (nI (dN (dr w) 12)) (1 + dN (dr (dr w)) 20) (by omega) (fun b hb e hp I4 f4 r4 => ?_) (fun hn => ?_)
        · have e := nI_inj e (by omega) (by omega)
          subst e
          refine hR I4 J (f1.tr (f2.tr (f3.tr f4))) ?_
          rw [eW]
          unfold hp2
          rw [if_pos hp, n20.1, nI_add]
          exact r4
        · refine hR I3 J (f1.tr (f2.tr f3)) ?_
          rw [eW]
          unfold hp2
          rw [if_neg (hn _ n12 rfl)]
          exact r3
    · have y1 : dN w 6 = 1 := nI_inj y (by omega) (by omega)
      have eW : hpR Q L w = hp1 L (dr w) := by
        unfold hpR
        rw [if_neg z0, if_pos y1]
      have n12 := (w1.dv (m := 12) (by decide) (by decide)).2
      refine cw_draw l (d + 5) ru ta rs I1 J _ _ _ r1 w1 (nI 12) 12 rfl (by decide) (by decide) (fun I2 f2 r2 => ?_)
      refine cw_sellOff l (d + 1) ru ta rs I2 J _ Q L (h.k27 (f1.tr f2)) _ r2 w1.d (nI (dN (dr w) 12)) (fun b hb e hp I3 J3 f3 r3 => ?_) (fun hn => ?_)
      · have e := nI_inj e (by omega) (by omega)
        subst e
        refine hR I3 J3 (f1.tr (f2.tr f3)) ?_
        rw [eW]
        unfold hp1
        rw [if_pos hp]
        exact r3
      · refine hR I2 J (f1.tr f2) ?_
        rw [eW]
        unfold hp1
        rw [if_neg (hn _ n12 rfl)]
        exact r2
  · have z0 : dN w 6 = 0 := (neq0 (by omega)).mp z
    have eW : hpR Q L w = hp0 Q L (dr w) := by
      unfold hpR
      rw [if_pos z0]
    refine cw_draw l (d + 5) ru ta rs I1 J _ _ _ r1 w1 _ (qT Q) h1.1.1 t0 (by omega) (fun I2 f2 r2 => ?_)
    have h2 := h1.k27 f2
    refine cw_draw l (d + 5) ru ta rs I2 J _ _ _ r2 w1.d _ (qR Q) h2.1.2.1 r0 (by omega) (fun I3 f3 r3 => ?_)
    have h3 := h2.k27 f3
    refine cw_draw l (d + 5) ru ta rs I3 J _ _ _ r3 w1.d.d _ (qB Q) h3.1.2.2.1 b0 (by omega) (fun I4 f4 r4 => ?_)
    have h4 := h3.k27 f4
    refine cw_cutOff l d ru ta rs I4 J _ Q L h4 _ r4 w1.d.d.d _ _ _ (w1.dv t0 (by omega)).2 (w1.d.dv r0 (by omega)).2 (w1.d.d.dv b0 (by omega)).2 (fun I5 J5 f5 r5 => ?_)
    refine hR I5 J5 (f1.tr (f2.tr (f3.tr (f4.tr f5)))) ?_
    rw [eW]
    exact r5
