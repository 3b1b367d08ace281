-- ===== the class: cuts, bales, feet =====
theorem frN_cg {w w' : Rw} : ∀ (m k : Nat), (∀ b, b < k + m → w' (28 + b) = w (28 + b)) → frN w' m k = frN w m k
  | 0, k, _ => rfl
  | m + 1, k, h => by
    unfold frN
    rw [h k (by omega), frN_cg m (k + 1) (fun b hb => h b (by omega))]
theorem frB_cg {w w' : Rw} (h : ∀ b, b < 12 → w' (28 + b) = w (28 + b)) : frB w' = frB w := frN_cg 12 0 (fun b hb => h b (by omega))
theorem feR_cg {w w' : Rw} {bn : Int32} : ∀ k, k ≤ 12 → (∀ b, b < 12 → w' (28 + b) = w (28 + b) ∧ w' (52 + b) = w (52 + b)) → feR w' bn k = feR w bn k
  | 0, _, _ => rfl
  | k + 1, hk, h => by
    show feR w' bn k + _ = feR w bn k + _
    rw [feR_cg k (by omega) h, (h k (by omega)).1, (h k (by omega)).2]
theorem WR.z28 {w : Rw} (h : WR w) {b : Nat} (hb : b < 12) (hn : ¬ 0 < w (28 + b)) : w (28 + b) = nI 0 := by
  obtain ⟨a, e, ha⟩ := h.len hb
  rw [e] at hn ⊢
  rw [npos (by omega)] at hn
  rw [show a = 0 by omega]
/-- the shorter of shadow and reach, as the class has it -/
theorem cuL_c {Q : Tld} {L : Lws} {w : Rw} {t r : Nat} (hQ : TOK Q) (hw : WR w) (ht : t < qT Q) (hr : r < qR Q) : (if nI (qC Q r) < nI (lgR Q L w t) then nI (qC Q r) else nI (lgR Q L w t)) = nI (cuL Q L w t r) ∧ (cuL Q L w t r = 0 ↔ lgR Q L w t = 0) := by
  have a := lgR_le (L := L) hQ hw ht
  have b := hQ.2.2.2.2.1 r hr
  unfold cuL
  constructor
  · by_cases c : qC Q r < lgR Q L w t
    · rw [if_pos ((nlt (by omega) (by omega)).mpr c), if_neg (by omega)]
    · rw [if_neg (fun z => c ((nlt (by omega) (by omega)).mp z))]
      by_cases e : lgR Q L w t < qC Q r
      · rw [if_pos e]
      · rw [if_neg e]
        congr 1
        omega
  · split <;> omega
theorem nle0 {a : Nat} (ha : a < 2 ^ 31) : nI a ≤ 0 ↔ a = 0 := by
  have y := nle (a := a) (b := 0) ha (by omega)
  constructor
  · intro z
    have := y.mp z
    omega
  · intro z
    exact y.mpr (by omega)
theorem cu_comm (w : Rw) {t r b : Nat} (ht : t < 8) (hr : r < 4) (hb : b < 12) (g kd len bn : Int32) : baI (upd (upd w t g) (12 + r) (nI 1)) b kd len bn = upd (upd (baI w b kd len bn) t g) (12 + r) (nI 1) := by
  funext k
  unfold baI
  by_cases e1 : k = 52 + b
  · subst e1
    rw [upd_s, upd_n (by omega), upd_n (by omega), upd_s]
  rw [upd_n e1]
  by_cases e2 : k = 40 + b
  · subst e2
    rw [upd_s, upd_n (by omega), upd_n (by omega), upd_n (by omega), upd_s]
  rw [upd_n e2]
  by_cases e3 : k = 28 + b
  · subst e3
    rw [upd_s, upd_n (by omega), upd_n (by omega), upd_n (by omega), upd_n (by omega), upd_s]
  rw [upd_n e3]
  by_cases e4 : k = 16 + b
  · subst e4
    rw [upd_s, upd_n (by omega), upd_n (by omega), upd_n (by omega), upd_n (by omega), upd_n (by omega), upd_s]
  rw [upd_n e4]
  by_cases e5 : k = 12 + r
  · subst e5
    rw [upd_s, upd_s]
  rw [upd_n e5, upd_n e5]
  by_cases e6 : k = t
  · subst e6
    rw [upd_s, upd_s]
  rw [upd_n e6, upd_n e6, upd_n e1, upd_n e2, upd_n e3, upd_n e4]
theorem la_comm (w : Rw) {r b : Nat} (hr : r < 4) (hb : b < 12) (kd len bn : Int32) : baI (upd w (8 + r) (nI 1)) b kd len bn = upd (baI w b kd len bn) (8 + r) (nI 1) := by
  funext k
  unfold baI
  by_cases e1 : k = 52 + b
  · subst e1
    rw [upd_s, upd_n (by omega), upd_s]
  rw [upd_n e1]
  by_cases e2 : k = 40 + b
  · subst e2
    rw [upd_s, upd_n (by omega), upd_n (by omega), upd_s]
  rw [upd_n e2]
  by_cases e3 : k = 28 + b
  · subst e3
    rw [upd_s, upd_n (by omega), upd_n (by omega), upd_n (by omega), upd_s]
  rw [upd_n e3]
  by_cases e4 : k = 16 + b
  · subst e4
    rw [upd_s, upd_n (by omega), upd_n (by omega), upd_n (by omega), upd_n (by omega), upd_s]
  rw [upd_n e4]
  by_cases e5 : k = 8 + r
  · subst e5
    rw [upd_s, upd_s]
  rw [upd_n e5, upd_n e5, upd_n e1, upd_n e2, upd_n e3, upd_n e4]
theorem nI_ne1 {a : Nat} (h : a < 2 ^ 31) : ¬ nI a = -1 := fun z => by
  have z := congrArg Int32.toInt z
  rw [nI_toInt h, show (-1 : Int32).toInt = -1 by decide] at z
  omega
set_option maxRecDepth 100000 in
theorem cw_bind (l : Launch) (d : Nat) (ru ta : Nat) (rs : List XO) (I : XI) (J : XJ) (Rp : XR) (T : Nat) (w : Rw) (hr : RC T w (I 27)) (hw : WR w) (hf : frB w < 12) (kd len bn : Int32) (hR : ∀ I' : XI, F24 27 I I' → RC T (baI w (frB w) kd len bn) (I' 27) → Rp (some (.int (nI (frB w)))) (shH ru ta rs) I' J) : xm l (d + 2) 0 0 mX10_bind [.ref 26, .int kd, .int len, .int bn] (shH ru ta rs) I J Rp := by
  have eb : bI (frB w) = nI (frB w) := bI_b hf
  have nb : ¬ bI (frB w) = -1 := fun z => by
    have := (bI_n (frB_le w)).mp z
    omega
  have ix : ∀ c, c < 1000 → (nI c + bI (frB w)).toNatClampNeg = c + frB w := fun c hc => by
    rw [eb]
    exact ix_c (by omega)
  have vx : ∀ c, c + 12 < 70 → vp_in (nI c + bI (frB w)) 69 := fun c hc => by
    rw [eb]
    exact vx_2 (by omega) (by omega)
  refine xm_ofK 0 (X := xxX10) (t := tX10_bind) (stop := []) (ini := false) xx10 pl10 rfl kX10_bind (fun h => by cases h) (Nat.le_of_ble_eq_true rfl) (fun K hK => ?_)
  refine cw_free l d ru ta rs I J _ T w hr hw ?_
  refine And.intro (fun z => absurd z nb) (fun _ => ?_)
  refine And.intro (vx 16 (by decide)) ?_
  refine And.intro (vx 28 (by decide)) ?_
  refine And.intro (vx 40 (by decide)) ?_
  refine And.intro (vx 52 (by decide)) ?_
  have fin := hR (uI (uI (uI (uI I 27 (16 + frB w) kd) 27 (28 + frB w) len) 27 (40 + frB w) (nI 0)) 27 (52 + frB w) bn) F24.rf.u.u.u.u (by
    rw [uI_eq, uI_eq, uI_eq, uI_eq]
    exact hr.ba hf kd len bn)
  rw [← ix 16 (by decide), ← ix 28 (by decide), ← ix 40 (by decide), ← ix 52 (by decide)] at fin
  rw [← eb] at fin
  exact fin
set_option maxRecDepth 100000 in
theorem cw_shorten (l : Launch) (d : Nat) (ru ta : Nat) (rs : List XO) (I : XI) (J : XJ) (Rp : XR) (T : Nat) (w : Rw) (hr : RC T w (I 27)) (hw : WR w) (x : Int32) (y : Nat) (hy : y ≤ 9999) (h1 : ∀ b, b < 12 → x = nI b → 0 < w (28 + b) → ∀ I' : XI, F24 27 I I' → RC T (shR w b (nI y)) (I' 27) → Rp none (shH ru ta rs) I' J) (h0 : (∀ b, b < 12 → x = nI b → ¬ 0 < w (28 + b)) → Rp none (shH ru ta rs) I J) : xm l (d + 2) 0 0 mX10_shorten [.ref 26, .int x, .int (nI y)] (shH ru ta rs) I J Rp := by
  refine xm_ofK 0 (X := xxX10) (t := tX10_shorten) (stop := []) (ini := false) xx10 pl10 rfl kX10_shorten (fun h => by cases h) (Nat.le_of_ble_eq_true rfl) (fun K hK => ?_)
  refine cw_hasBale l d ru ta rs I J _ T w hr hw x (fun b hb e hp => ?_) (fun hn => ?_)
  · subst e
    obtain ⟨a, ea, ha⟩ := hw.len hb
    have ix : (nI 28 + nI b).toNatClampNeg = 28 + b := ix_c (by omega)
    have ec : I 27 (nI 28 + nI b).toNatClampNeg = nI a := by rw [ix, hr.len hb, ea]
    have hp' : 0 < a := by rw [ea] at hp; exact (npos (by omega)).mp hp
    have ev : (if (0 : Int32) < I 27 (nI 28 + nI b).toNatClampNeg - nI y then I 27 (nI 28 + nI b).toNatClampNeg - nI y else nI 0) = nI (a - y) := by
      rw [ec]
      by_cases c : y < a
      · rw [nI_subI (by omega) (by omega), if_pos ((npos (by omega)).mpr (by omega))]
      · rw [if_neg (nsub_neg (by omega) (by omega)), show a - y = 0 by omega]
    refine And.intro (fun z => absurd (show (1 : Int32) = 0 from z) (by decide)) (fun _ => ?_)
    refine And.intro (show vp_in (nI 28 + nI b) 69 from vx_2 (by omega) (by omega)) ?_
    refine And.intro (show vp_in (nI 28 + nI b) 69 from vx_2 (by omega) (by omega)) ?_
    have fin := h1 b hb rfl hp (uI I 27 (28 + b) (nI (a - y))) F24.rf.u (by
      rw [uI_eq, shR_eq ea ha hy]
      by_cases c : y < a
      · rw [if_pos c]
        exact hr.ul hb hp _
      · rw [if_neg c, show a - y = 0 by omega]
        exact hr.z hb (fun k _ hk => upd_n hk) _ _)
    rw [← ix, ← ev] at fin
    exact fin
  · refine And.intro (fun _ => ?_) (fun z => absurd rfl z)
    exact h0 hn
set_option maxRecDepth 100000 in
set_option maxHeartbeats 8000000 in
theorem cw_cutLen (l : Launch) (d : Nat) (ru ta : Nat) (rs : List XO) (I : XI) (J : XJ) (Rp : XR) (Q : Tld) (L : Lws) (h : CE I ru Q L) (w : Rw) (hr : RC (qT Q) w (I 27)) (hw : WR w) (t r bn : Nat) (ht : t < qT Q) (hrr : r < qR Q) (hb : bn < qB Q) (hR : ∀ (I' : XI) (J' : XJ), (∀ q, q ≠ 24 → I' q = I q) → Rp (some (.int (if cuOK Q L w t r bn = true then nI (cuL Q L w t r) else nI 0))) (shH ru ta rs) I' J') : xm l (d + 5) 0 0 mX10_cutLength [.ref 26, .int (nI t), .int (nI r), .int (nI bn)] (shH ru ta rs) I J Rp := by
  have t8 := h.2.1.1
  have r4 := h.2.1.2.1
  have b4 := h.2.1.2.2.1
  have ixt : (nI 0 + nI t).toNatClampNeg = t := by rw [nI_add, Nat.zero_add]; exact nI_clamp (by omega)
  have ix0 : ((nI 8) + (nI r)).toNatClampNeg = 8 + r := by rw [show (nI 8) + (nI r) = nI (8 + r) by simp only [nI_add, nI_mul, Nat.zero_add]]; exact nI_clamp (by omega)
  have ix1 : ((nI 12) + (nI r)).toNatClampNeg = 12 + r := by rw [show (nI 12) + (nI r) = nI (12 + r) by simp only [nI_add, nI_mul, Nat.zero_add]]; exact nI_clamp (by omega)
  have ix2 : ((nI 0) + (nI t)).toNatClampNeg = t := by rw [show (nI 0) + (nI t) = nI (t) by simp only [nI_add, nI_mul, Nat.zero_add]]; exact nI_clamp (by omega)
  have ix3 : (nI r).toNatClampNeg = r := nI_clamp (by omega)
  have ix4 : (nI bn).toNatClampNeg = bn := nI_clamp (by omega)
  have cl1 := cuL_c (L := L) h.2.1 hw ht hrr
  have cl2 := cuL_eq (L := L) h.2.1 hw ht hrr
  refine xm_ofK 0 (X := xxX10) (t := tX10_cutLength) (stop := []) (ini := false) xx10 pl10 rfl kX10_cutLength (fun h => by cases h) (Nat.le_of_ble_eq_true rfl) (fun K hK => ?_)
  refine cc_hasThing l (d + 3) ru ta rs I J _ Q L h (nI t) (fun _ _ _ => ?_) (fun hn => absurd rfl (hn t ht))
  refine And.intro (fun z => absurd (show (1 : Int32) = 0 from z) (by decide)) (fun _ => ?_)
  refine cc_hasReaper l (d + 3) ru ta rs I J _ Q L h (nI r) (fun _ _ _ => ?_) (fun hn => absurd rfl (hn r hrr))
  refine And.intro (fun z => absurd (show (1 : Int32) = 0 from z) (by decide)) (fun _ => ?_)
  refine cc_hasBarn l (d + 3) ru ta rs I J _ Q L h (nI bn) (fun _ _ _ => ?_) (fun hn => absurd rfl (hn bn hb))
  refine And.intro (fun _ => ?_) (fun z => absurd (show (1 : Int32) = 0 from z) (by decide))
  refine And.intro (show vp_in ((nI 8) + (nI r)) 69 from vx_2 (by clear cl1 cl2; omega) (by clear cl1 cl2; omega)) ?_
  refine And.intro (fun (h44 : I 27 ((nI 8) + (nI r)).toNatClampNeg = 0) => ?_) (fun (h44 : ¬ (I 27 ((nI 8) + (nI r)).toNatClampNeg = 0)) => ?_)
  · replace h44 : I 27 (8 + r) = 0 := by simpa only [ix0, ix1, ix2, ix3, ix4, uI_rd] using h44
    replace h44 : w (8 + r) = nI 1 := (hr.gone hw (by clear cl1 cl2; omega)).mp h44
    have hno : cuOK Q L w t r bn = false := by
      unfold cuOK
      rw [decide_eq_true h44]
      rfl
    rw [hno, if_neg (by decide)] at hR
    exact hR I J (fun _ _ => rfl)
  · replace h44 : ¬ (I 27 (8 + r) = 0) := by simpa only [ix0, ix1, ix2, ix3, ix4, uI_rd] using h44
    replace h44 : ¬ w (8 + r) = nI 1 := fun z => h44 ((hr.gone hw (by clear cl1 cl2; omega)).mpr z)
    refine And.intro (show vp_in ((nI 12) + (nI r)) 69 from vx_2 (by clear cl1 cl2; omega) (by clear cl1 cl2; omega)) ?_
    refine And.intro (fun (h57 : I 27 ((nI 12) + (nI r)).toNatClampNeg = nI 1) => ?_) (fun (h57 : ¬ (I 27 ((nI 12) + (nI r)).toNatClampNeg = nI 1)) => ?_)
    · replace h57 : I 27 (12 + r) = nI 1 := by simpa only [ix0, ix1, ix2, ix3, ix4, uI_rd] using h57
      rw [(hr.2.1 r (by clear cl1 cl2; omega)).2] at h57
      have hno : cuOK Q L w t r bn = false := by
        unfold cuOK
        rw [decide_eq_true h57]
        simp
      rw [hno, if_neg (by decide)] at hR
      exact hR I J (fun _ _ => rfl)
    · replace h57 : ¬ (I 27 (12 + r) = nI 1) := by simpa only [ix0, ix1, ix2, ix3, ix4, uI_rd] using h57
      rw [(hr.2.1 r (by clear cl1 cl2; omega)).2] at h57
      refine cw_free l (d + 3) ru ta rs I J _ _ w hr hw ?_
      refine And.intro (fun (h65 : ¬ (bI (frB w) = (-1))) => ?_) (fun (h65 : bI (frB w) = (-1)) => ?_)
      · have hf12 : ¬ frB w = 12 := fun z => h65 ((bI_n (frB_le _)).mpr z)
        refine And.intro (show vp_in ((nI 0) + (nI t)) 69 from vx_2 (by clear cl1 cl2 hf12; omega) (by clear cl1 cl2 hf12; omega)) ?_
        refine And.intro (show vp_in (nI 64) 69 from vp_b (by decide)) ?_
        refine And.intro (show vp_in (nI 65) 69 from vp_b (by decide)) ?_
        refine And.intro (show vp_in (nI 66) 69 from vp_b (by decide)) ?_
        refine cx_shadowW l (d + 1) ru ta rs I J _ Q L h w hw t ht (I 27 ((nI 0) + (nI t)).toNatClampNeg) (I 27 64) (I 27 65) (I 27 66) (by rw [ixt]; exact hr.nt hw ht (by clear cl1 cl2 hf12; omega)) (hr.nk hw (by decide) (by decide)) (hr.nk hw (by decide) (by decide)) (hr.nk hw (by decide) (by decide)) (fun I1 J1 f1 => ?_)
        have e27 : I1 27 = I 27 := f1 27 (by decide)
        have e16 : I1 16 r = nI (qC Q r) := by rw [f1 16 (by decide)]; exact h.1.2.2.2.2.1 r hrr
        have e17 : I1 17 bn = nI (qM Q bn) := by rw [f1 17 (by decide)]; exact h.1.2.2.2.2.2 bn hb
        refine And.intro (show vp_in (nI r) 4 from vp_in_nI (by clear cl1 cl2 hf12; omega) (by clear cl1 cl2 hf12; omega)) ?_
        refine And.intro (fun (h131 : (if I1 16 (nI r).toNatClampNeg < nI (lgR Q L w t) then I1 16 (nI r).toNatClampNeg else nI (lgR Q L w t)) ≤ 0) => ?_) (fun (h131 : ¬ ((if I1 16 (nI r).toNatClampNeg < nI (lgR Q L w t) then I1 16 (nI r).toNatClampNeg else nI (lgR Q L w t)) ≤ 0)) => ?_)
        · replace h131 : (if I1 16 r < nI (lgR Q L w t) then I1 16 r else nI (lgR Q L w t)) ≤ 0 := by simpa only [ix0, ix1, ix2, ix3, ix4, uI_rd, e27] using h131
          have hl0 : lgR Q L w t = 0 := by
            rw [e16, cl1.1, nle0 (by omega)] at h131
            exact cl1.2.mp h131
          have hno : cuOK Q L w t r bn = false := by
            unfold cuOK
            rw [decide_eq_true hl0]
            simp
          rw [hno, if_neg (by decide)] at hR
          exact hR I1 J1 f1
        · replace h131 : ¬ ((if I1 16 r < nI (lgR Q L w t) then I1 16 r else nI (lgR Q L w t)) ≤ 0) := by simpa only [ix0, ix1, ix2, ix3, ix4, uI_rd, e27] using h131
          have hl0 : ¬ lgR Q L w t = 0 := by
            rw [e16, cl1.1, nle0 (by omega)] at h131
            exact fun z => h131 (cl1.2.mpr z)
          refine cw_feetIn l (d + 3) ru ta rs I1 J1 _ _ w (by rw [e27]; exact hr) hw (nI bn) (nI_ne1 (by clear cl1 cl2 hf12 hl0; omega)) ?_
          refine And.intro (show vp_in (nI bn) 4 from vp_in_nI (by clear cl1 cl2 hf12 hl0; omega) (by clear cl1 cl2 hf12 hl0; omega)) ?_
          refine And.intro (fun (h151 : (feR w (nI bn) 12) + (if I1 16 (nI r).toNatClampNeg < nI (lgR Q L w t) then I1 16 (nI r).toNatClampNeg else nI (lgR Q L w t)) ≤ I1 17 (nI bn).toNatClampNeg) => ?_) (fun (h151 : ¬ ((feR w (nI bn) 12) + (if I1 16 (nI r).toNatClampNeg < nI (lgR Q L w t) then I1 16 (nI r).toNatClampNeg else nI (lgR Q L w t)) ≤ I1 17 (nI bn).toNatClampNeg)) => ?_)
          · replace h151 : (feR w (nI bn) 12) + (if I1 16 r < nI (lgR Q L w t) then I1 16 r else nI (lgR Q L w t)) ≤ I1 17 bn := by simpa only [ix0, ix1, ix2, ix3, ix4, uI_rd, e27] using h151
            rw [e16, e17, cl1.1] at h151
            have hro : isR Q w bn (ltR (nI (lgR Q L w t)) (nI (qC Q r))) = true := by
              rw [cl2.1]
              exact decide_eq_true h151
            refine And.intro (show vp_in (nI 64) 69 from vp_b (by decide)) ?_
            refine And.intro (show vp_in (nI 65) 69 from vp_b (by decide)) ?_
            refine cx_allowsW l (d + 1) ru ta rs I1 J1 _ Q L (h.k24 f1) w hw t (lgR Q L w t) ht (lgR_le h.2.1 hw ht) (I 27 ((nI 0) + (nI t)).toNatClampNeg) (I1 27 64) (I1 27 65) (nI (lgR Q L w t)) (by rw [ixt]; exact hr.nt hw ht (by clear cl1 cl2 hf12 hl0; omega)) (by rw [e27]; exact hr.nk hw (by decide) (by decide)) (by rw [e27]; exact hr.nk hw (by decide) (by decide)) rfl (fun I2 J2 hm f2 => ?_) (fun I2 J2 hm f2 => ?_)
            · refine And.intro (fun z => absurd (show (1 : Int32) = 0 from z) (by decide)) (fun _ => ?_)
              have hok : cuOK Q L w t r bn = true := and6 (by rw [decide_eq_false h44]; rfl) (by rw [decide_eq_false h57]; rfl) hm (by rw [decide_eq_false hl0]; rfl) (by rw [decide_eq_false hf12]; rfl) hro
              have elen : (if I1 16 (nI r).toNatClampNeg < nI (lgR Q L w t) then I1 16 (nI r).toNatClampNeg else nI (lgR Q L w t)) = nI (cuL Q L w t r) := by rw [show (nI r).toNatClampNeg = r from nI_clamp (by clear cl1 cl2 hf12 hl0; omega), e16]; exact cl1.1
              rw [hok, if_pos rfl, ← elen] at hR
              exact hR I2 J2 (fun q hq => (f2 q hq).trans (f1 q hq))
            · refine And.intro (fun _ => ?_) (fun z => absurd (show (0 : Int32) = 0 from rfl) z)
              have hno : cuOK Q L w t r bn = false := by
                unfold cuOK
                rw [hm]
                simp
              rw [hno, if_neg (by decide)] at hR
              exact hR I2 J2 (fun q hq => (f2 q hq).trans (f1 q hq))
          · replace h151 : ¬ ((feR w (nI bn) 12) + (if I1 16 r < nI (lgR Q L w t) then I1 16 r else nI (lgR Q L w t)) ≤ I1 17 bn) := by simpa only [ix0, ix1, ix2, ix3, ix4, uI_rd, e27] using h151
            rw [e16, e17, cl1.1] at h151
            have hro : isR Q w bn (ltR (nI (lgR Q L w t)) (nI (qC Q r))) = false := by
              rw [cl2.1]
              exact decide_eq_false h151
            have hno : cuOK Q L w t r bn = false := by
              unfold cuOK
              rw [hro]
              simp
            rw [hno, if_neg (by decide)] at hR
            exact hR I1 J1 f1
      · have hf12 : frB w = 12 := (bI_n (frB_le _)).mp h65
        have hno : cuOK Q L w t r bn = false := by
          unfold cuOK
          rw [decide_eq_true hf12]
          simp
        rw [hno, if_neg (by decide)] at hR
        exact hR I J (fun _ _ => rfl)
