-- ===== the guess: 99g5.clsh =====
theorem cwg_spoils2 (l : Launch) (d : Nat) (ru ta : Nat) (rs : List XO) (I : XI) (J : XJ) (Rp : XR) (Q : Tld) (L : Lws) (h : CE I ru Q L) (w : Rw) (hr : RC (qT Q) w (I 29)) (hw : WR w) (b : Nat) (hb : b < 12) (h1 : 0 < w (28 + b) → ∀ (I' : XI) (J' : XJ), (∀ q, q ≠ 24 → I' q = I q) → Rp (some (.int (nI (spR L w b)))) (shH ru ta rs) I' J') (h0 : ¬ 0 < w (28 + b) → ∀ (I' : XI) (J' : XJ), (∀ q, q ≠ 24 → I' q = I q) → Rp (some (.int (nI 0))) (shH ru ta rs) I' J') : xm l (d + 4) 0 0 mX10_spoilsOf [.ref 28, .int (nI b)] (shH ru ta rs) I J Rp := by
  refine cwg_spoils l d ru ta rs I J Rp Q L h w hr hw b hb (fun I' J' f => ?_)
  by_cases c : 0 < w (28 + b)
  · rw [if_pos c]
    exact h1 c I' J' f
  · rw [if_neg c]
    exact h0 c I' J' f
abbrev phrg (l : Launch) (d : Nat) (ru ta : Nat) (rs : List XO) (J : XJ) (Rp : XR) (n pc : Nat) (k : Nat) (I : XI) : Prop := xrun xxX10 (some .boolean) false false (shH ru ta rs).length 0 0 none l (d + 4) tX10_passHour [91, 155] Rp n pc [some (.ref 28), some (.int (nI k))] [] (shH ru ta rs) I J 0 0
set_option maxRecDepth 100000 in
set_option maxHeartbeats 4000000 in
theorem cwg_day2 (l : Launch) (d : Nat) (ru ta : Nat) (rs : List XO) (I : XI) (J : XJ) (Rp : XR) (Q : Tld) (L : Lws) (h : CE I ru Q L) (W : Rw) (hR : ∀ (I' : XI) (J' : XJ), F24 29 I I' → RC (qT Q) W (I' 29) → Rp (some (.int 1)) (shH ru ta rs) I' J') : ∀ (m b n : Nat) (J : XJ) (I1 : XI) (w : Rw), b + m = 12 → m < n → F24 29 I I1 → RC (qT Q) w (I1 29) → WR w → spN L m w b = W → phrg l d ru ta rs J Rp n 155 b I1 := by
  intro m
  induction m with
  | zero =>
    intro b n J I1 w hb hn f hr hw e
    obtain ⟨n, rfl⟩ : ∃ n', n = n' + 1 := ⟨n - 1, by omega⟩
    have hb : b = 12 := by omega
    subst hb
    refine xrun_step fun K hK => ?_
    refine And.intro (fun _ => ?_) (fun z => absurd (Int32.le_refl _) z)
    refine And.intro (Or.inr rfl) (hR I1 J f ?_)
    rw [← e]
    exact hr
  | succ m ih =>
    intro b n J I1 w hb hn f hr hw e
    obtain ⟨n, rfl⟩ : ∃ n', n = n' + 1 := ⟨n - 1, by omega⟩
    have i40 : (nI 40 + nI b).toNatClampNeg = 40 + b := ix_c (by omega)
    have v40 : vp_in (nI 40 + nI b) 69 := vx_2 (by omega) (by omega)
    refine xrun_step fun K hK => ?_
    refine And.intro (fun z => absurd (show nI 12 ≤ nI b from z) (nI_ge (by omega) (by omega))) (fun _ => ?_)
    refine cwg_spoils2 l d ru ta rs I1 J _ Q L (h.k29 f) w hr hw b (by omega) (fun hp I2 J2 f2 => ?_) (fun hp I2 J2 f2 => ?_)
    · have r2 : RC (qT Q) w (I2 29) := by rw [f2 29 (by decide)]; exact hr
      have sl := spR_le (L := L) (w := w) (b := b)
      have e2 : spN L (m + 1) w b = spN L m (shR (upd w (40 + b) (ltR (nI 99) (w (40 + b) + nI 1))) b (nI (spR L w b))) (b + 1) := if_pos hp
      refine cwg_shorten l (d + 2) ru ta rs I2 J2 _ _ w r2 hw (nI b) (spR L w b) (by omega) (fun b' hb' eb _ I3 f3 r3 => ?_) (fun hn => absurd hp (hn b (by omega) rfl))
      refine And.intro v40 ?_
      refine And.intro v40 ?_
      refine hK 155 [some (.ref 28), some (.int (nI b + 1))] [] (shH ru ta rs) (uI I3 29 (nI 40 + nI b).toNatClampNeg (if I3 29 (nI 40 + nI b).toNatClampNeg + nI 1 < nI 99 then I3 29 (nI 40 + nI b).toNatClampNeg + nI 1 else nI 99)) J2 0 0 ?_
      rw [nI_1, i40]
      have eb := nI_inj eb (by omega) (by omega)
      subst eb
      refine ih (b + 1) n J2 _ _ (by omega) (by omega) (f.tr ((F24.n f2).tr (f3.tr F24.rf.u))) ?_ (WR.sp1 (L := L) hw (by omega) hp) (by rw [← e2]; exact e)
      rw [uI_eq]
      exact RC.spo hw hr (by omega) hp sl r3
    · have r2 : RC (qT Q) w (I2 29) := by rw [f2 29 (by decide)]; exact hr
      have e2 : spN L (m + 1) w b = spN L m w (b + 1) := if_neg hp
      refine cwg_shorten l (d + 2) ru ta rs I2 J2 _ _ w r2 hw (nI b) 0 (by omega) (fun b' hb' eb hp' I3 f3 r3 => ?_) (fun hn => ?_)
      · have eb := nI_inj eb (by omega) (by omega)
        subst eb
        exact absurd hp' hp
      · refine And.intro v40 ?_
        refine And.intro v40 ?_
        refine hK 155 [some (.ref 28), some (.int (nI b + 1))] [] (shH ru ta rs) (uI I2 29 (nI 40 + nI b).toNatClampNeg (if I2 29 (nI 40 + nI b).toNatClampNeg + nI 1 < nI 99 then I2 29 (nI 40 + nI b).toNatClampNeg + nI 1 else nI 99)) J2 0 0 ?_
        rw [nI_1, i40]
        refine ih (b + 1) n J2 _ w (by omega) (by omega) (f.tr ((F24.n f2).tr F24.rf.u)) ?_ hw (by rw [← e2]; exact e)
        rw [uI_eq]
        exact r2.ud0 (by omega) hp _
set_option maxRecDepth 100000 in
set_option maxHeartbeats 4000000 in
theorem cwg_day1 (l : Launch) (d : Nat) (ru ta : Nat) (rs : List XO) (I : XI) (J : XJ) (Rp : XR) (Q : Tld) (L : Lws) (h : CE I ru Q L) (W : Rw) (hR : ∀ (I' : XI) (J' : XJ), F24 29 I I' → RC (qT Q) W (I' 29) → Rp (some (.int 1)) (shH ru ta rs) I' J') : ∀ (m t n : Nat) (J : XJ) (I1 : XI) (w : Rw), t + m = qT Q → m + 14 < n → F24 29 I I1 → RC (qT Q) w (I1 29) → WR w → spN L 12 (gwN Q L m w t) 0 = W → phrg l d ru ta rs J Rp n 91 t I1 := by
  have t8 := h.2.1.1
  intro m
  induction m with
  | zero =>
    intro t n J I1 w ht hn f hr hw e
    obtain ⟨n, rfl⟩ : ∃ n', n = n' + 1 := ⟨n - 1, by omega⟩
    have ht : t = qT Q := by omega
    subst ht
    have eT : I1 12 5 = nI (qT Q) := (h.k29 f).1.1
    refine xrun_step fun K hK => ?_
    refine And.intro (fun _ => ?_) (fun z => absurd (show I1 12 5 ≤ nI (qT Q) from by rw [eT]; exact Int32.le_refl _) z)
    exact hK 155 [some (.ref 28), some (.int (nI 0))] [] _ I1 J 0 0 (cwg_day2 l d ru ta rs I J Rp Q L h W hR 12 0 n J I1 w (by omega) (by omega) f hr hw e)
  | succ m ih =>
    intro t n J I1 w ht hn f hr hw e
    obtain ⟨n, rfl⟩ : ∃ n', n = n' + 1 := ⟨n - 1, by omega⟩
    have eT : I1 12 5 = nI (qT Q) := (h.k29 f).1.1
    have e66 : I1 29 66 = w 66 := hr.hi (by decide) (by decide)
    have it : (nI 0 + nI t).toNatClampNeg = t := by rw [nI_add, Nat.zero_add]; exact nI_clamp (by omega)
    have vt : vp_in (nI 0 + nI t) 69 := vx_2 (by omega) (by omega)
    refine xrun_step fun K hK => ?_
    refine And.intro (fun z => absurd (show I1 12 5 ≤ nI t from z) (by rw [eT]; exact nI_ge (by omega) (by omega))) (fun _ => ?_)
    refine And.intro (fun z => absurd (show nI 8 ≤ nI t from z) (nI_ge (by omega) (by omega))) (fun _ => ?_)
    refine And.intro (show vp_in (nI 66) 69 from vp_b (by decide)) ?_
    refine And.intro (fun (z : nI 8 ≤ I1 29 66) => ?_) (fun (z : ¬ nI 8 ≤ I1 29 66) => ?_)
    · rw [e66] at z
      have e2 : gwN Q L (m + 1) w t = w := if_neg (Int32.not_lt.mpr z)
      exact hK 155 [some (.ref 28), some (.int (nI 0))] [] _ I1 J 0 0 (cwg_day2 l d ru ta rs I J Rp Q L h W hR 12 0 n J I1 w (by omega) (by omega) f hr hw (by rw [e2] at e; exact e))
    · rw [e66] at z
      have z8 := Int32.not_le.mp z
      have e2 : gwN Q L (m + 1) w t = gwN Q L m (upd w t (ltR (nI 100) (w t + nI (grR Q L w t)))) (t + 1) := if_pos z8
      refine And.intro vt ?_
      refine cwg_grows l d ru ta rs I1 J _ Q L (h.k29 f) w hr hw t (by omega) (fun I2 J2 f2 => ?_)
      refine And.intro vt ?_
      refine hK 91 [some (.ref 28), some (.int (nI t + 1))] [] (shH ru ta rs) (uI I2 29 (nI 0 + nI t).toNatClampNeg (if I1 29 (nI 0 + nI t).toNatClampNeg + nI (grR Q L w t) < nI 100 then I1 29 (nI 0 + nI t).toNatClampNeg + nI (grR Q L w t) else nI 100)) J2 0 0 ?_
      have g := (hw t (by omega) (by omega)).nw
      rw [bd_1 (by omega)] at g
      have gl := grR_le (Q := Q) (L := L) (w := w) (t := t)
      have ev : (if I1 29 t + nI (grR Q L w t) < nI 100 then I1 29 t + nI (grR Q L w t) else nI 100) = ltR (nI 100) (w t + nI (grR Q L w t)) := by
        rw [hr.t (by omega) (by omega), g.1, nI_add, ltR_n (by omega) (by omega)]
        exact mn_n (by omega) (by omega)
      rw [nI_1, it, ev]
      refine ih (t + 1) n J2 _ _ (by omega) (by omega) (f.tr ((F24.n f2).tr F24.rf.u)) ?_ (WR.gw1 (Q := Q) (L := L) (t := t) hw t8 (by omega) z8) (by rw [← e2]; exact e)
      rw [uI_eq, f2 29 (by decide)]
      exact hr.ut (by omega) (by omega) _
set_option maxRecDepth 100000 in
set_option maxHeartbeats 8000000 in
theorem cwg_passHour (l : Launch) (d : Nat) (ru ta : Nat) (rs : List XO) (I : XI) (J : XJ) (Rp : XR) (Q : Tld) (L : Lws) (h : CE I ru Q L) (w : Rw) (hr : RC (qT Q) w (I 29)) (hw : WR w) (h1 : cnP w = true → ∀ (I' : XI) (J' : XJ), F24 29 I I' → RC (qT Q) (hrR Q L w) (I' 29) → Rp (some (.int 1)) (shH ru ta rs) I' J') (h0 : cnP w = false → Rp (some (.int 0)) (shH ru ta rs) I J) : xm l (d + 5) 0 0 mX10_passHour [.ref 28] (shH ru ta rs) I J Rp := by
  refine xm_ofK 40 (X := xxX10) (t := tX10_passHour) (stop := [91, 155]) (ini := false) xx10 pl10 rfl kX10_passHour (fun h => by cases h) (Nat.le_of_ble_eq_true rfl) (fun K hK => ?_)
  refine cwg_hoursLeft l (d + 3) ru ta rs I J _ _ w hr hw ?_
  refine And.intro (fun (hh4 : 0 < nI (hlN w)) => ?_) (fun (hh4 : ¬ (0 < nI (hlN w))) => ?_)
  · have hc : cnP w = true := (hl_c hw).1.mp ((npos (by have := (hl_c hw).2.1; omega)).mp hh4)
    refine And.intro (fun z => absurd (show nI 4 ≤ nI 0 from z) (by decide)) (fun _ => ?_)
    refine And.intro (show vp_in ((nI 12) + (nI 0)) 69 from vp_b (by decide)) ?_
    refine And.intro (fun z => absurd (show nI 4 ≤ (nI 0) + 1 from z) (by decide)) (fun _ => ?_)
    refine And.intro (show vp_in ((nI 12) + ((nI 0) + 1)) 69 from vp_b (by decide)) ?_
    refine And.intro (fun z => absurd (show nI 4 ≤ ((nI 0) + 1) + 1 from z) (by decide)) (fun _ => ?_)
    refine And.intro (show vp_in ((nI 12) + (((nI 0) + 1) + 1)) 69 from vp_b (by decide)) ?_
    refine And.intro (fun z => absurd (show nI 4 ≤ (((nI 0) + 1) + 1) + 1 from z) (by decide)) (fun _ => ?_)
    refine And.intro (show vp_in ((nI 12) + ((((nI 0) + 1) + 1) + 1)) 69 from vp_b (by decide)) ?_
    refine And.intro (fun _ => ?_) (fun z => absurd (show nI 4 ≤ ((((nI 0) + 1) + 1) + 1) + 1 from by decide) z)
    refine And.intro (show vp_in (nI 64) 69 from vp_b (by decide)) ?_
    refine And.intro (show vp_in (nI 64) 69 from vp_b (by decide)) ?_
    refine And.intro (show vp_in (nI 64) 69 from vp_b (by decide)) ?_
    refine And.intro (fun (h52 : nI 10 ≤ (I 29 64) + (nI 1)) => ?_) (fun (h52 : ¬ (nI 10 ≤ (I 29 64) + (nI 1))) => ?_)
    · have rH : RC (qT Q) (hr0 w) ((uI (uI (uI (uI (uI I 29 12 (nI 0)) 29 13 (nI 0)) 29 14 (nI 0)) 29 15 (nI 0)) 29 64 ((I 29 64) + (nI 1))) 29) := by
        rw [uI_eq, uI_eq, uI_eq, uI_eq, uI_eq]
        exact hr.h0 (by rw [hr.hi (by decide) (by decide)])
      have e10 : w 64 + nI 1 = nI 10 := by
        rw [hr.hi (by decide) (by decide)] at h52
        have g := (hw 64 (by decide) (by decide)).nw
        have b9 : bdW 64 = 9 := by decide
        rw [g.1, nI_add] at h52 ⊢
        have := (nle (by omega) (by omega)).mp h52
        congr 1
        omega
      refine And.intro (show vp_in (nI 64) 69 from vp_b (by decide)) ?_
      refine And.intro (show vp_in (nI 65) 69 from vp_b (by decide)) ?_
      refine And.intro (show vp_in (nI 65) 69 from vp_b (by decide)) ?_
      refine cwg_draw l (d + 3) ru ta rs (uI (uI (uI (uI (uI (uI (uI I 29 12 (nI 0)) 29 13 (nI 0)) 29 14 (nI 0)) 29 15 (nI 0)) 29 64 ((I 29 64) + (nI 1))) 29 64 (nI 0)) 29 65 ((I 29 65) + (nI 1))) J _ (qT Q) (upd (upd (hr0 w) 64 (nI 0)) 65 (hr0 w 65 + nI 1)) ?_ (hw.w1 hc e10) (nI 10) 10 rfl (by decide) (by decide) (fun I1 f1 r1 => ?_)
      · rw [uI_eq, uI_eq]
        have y := (rH.uk (i := 64) (by decide) (nI 0)).uk (i := 65) (by decide) (hr0 w 65 + nI 1)
        have e65 : I 29 65 = hr0 w 65 := hr.hi (by decide) (by decide)
        rw [← e65] at y
        rw [← e65]
        exact y
      refine And.intro (show vp_in (nI 66) 69 from vp_b (by decide)) ?_
      refine hK 91 [some (.ref 28), some (.int (nI 0))] [] (shH ru ta rs) (uI I1 29 66 (nI (dN (upd (upd (hr0 w) 64 (nI 0)) 65 (hr0 w 65 + nI 1)) 10))) J 0 0 ?_
      refine cwg_day1 l d ru ta rs I J Rp Q L h (hrR Q L w) (h1 hc) (qT Q) 0 40 J _ (dw0 (hr0 w)) (by omega) (by have := h.2.1.1; omega) (F24.rf.u.u.u.u.u.u.u.tr f1.u) ?_ (hw.w0 hc e10) ?_
      · rw [uI_eq, ← dw0_eq (hw.w1 hc e10)]
        exact r1.uk (by decide) _
      · unfold hrR
        rw [if_pos e10]
        rfl
    · have rH : RC (qT Q) (hr0 w) ((uI (uI (uI (uI (uI I 29 12 (nI 0)) 29 13 (nI 0)) 29 14 (nI 0)) 29 15 (nI 0)) 29 64 ((I 29 64) + (nI 1))) 29) := by
        rw [uI_eq, uI_eq, uI_eq, uI_eq, uI_eq]
        exact hr.h0 (by rw [hr.hi (by decide) (by decide)])
      have e10 : ¬ w 64 + nI 1 = nI 10 := fun z => by
        rw [hr.hi (by decide) (by decide), z] at h52
        exact h52 (Int32.le_refl _)
      refine And.intro (Or.inr rfl) ?_
      refine h1 hc (uI (uI (uI (uI (uI I 29 12 (nI 0)) 29 13 (nI 0)) 29 14 (nI 0)) 29 15 (nI 0)) 29 64 ((I 29 64) + (nI 1))) J F24.rf.u.u.u.u.u ?_
      unfold hrR
      rw [if_neg e10]
      exact rH
  · have hc : cnP w = false := by
      cases e : cnP w with
      | false => rfl
      | true => exact absurd ((npos (by have := (hl_c hw).2.1; omega)).mpr ((hl_c hw).1.mpr e)) hh4
    refine And.intro (Or.inl rfl) ?_
    exact h0 hc
