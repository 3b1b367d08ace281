-- ===== the reference: cuts, uses, days =====
set_option maxRecDepth 100000 in
theorem rx_least (l : Launch) (d : Nat) (x y : Int32) (sh : List XO) (I : XI) (J : XJ) (Rp : XR) (hR : Rp (some (.int (ltR x y))) sh I J) : xm l (d + 1) 0 0 mX12_least [.int x, .int y] sh I J Rp := by
  refine xm_ofK 0 (X := xxX12) (t := tX12_least) (stop := []) (ini := false) xx12 pl12 rfl kX12_least (fun h => by cases h) (Nat.le_of_ble_eq_true rfl) (fun K hK => ?_)
  unfold ltR at hR
  refine And.intro (fun (z : y ≤ x) => ?_) (fun (z : ¬ y ≤ x) => ?_)
  · rw [if_neg (Int32.not_lt.mpr z)] at hR
    exact hR
  · rw [if_pos (Int32.not_le.mp z)] at hR
    exact hR
theorem rx_balesV (l : Launch) (d : Nat) (ru ta : Nat) (rs : List XO) (I : XI) (J : XJ) (Rp : XR) (vb : Int32) (b : Nat) (e : vb = nI b) (hb : b < 12) (kd len bn : Int32) (hR : ∀ I', F93 I I' → I' 93 = baI (I 93) b kd len bn → Rp none (shH ru ta rs) I' J) : xm l (d + 1) 0 0 mX12_bales [.ref 67, .int vb, .int kd, .int len, .int bn] (shH ru ta rs) I J Rp := by
  subst e
  exact rx_bales l d ru ta rs I J Rp b hb kd len bn hR
theorem rx_shortV (l : Launch) (d : Nat) (ru ta : Nat) (rs : List XO) (I : XI) (J : XJ) (Rp : XR) (vb : Int32) (b : Nat) (e : vb = nI b) (hb : b < 12) (y : Int32) (hR : ∀ I', F93 I I' → I' 93 = shR (I 93) b y → Rp none (shH ru ta rs) I' J) : xm l (d + 2) 0 0 mX12_shortens [.ref 67, .int vb, .int y] (shH ru ta rs) I J Rp := by
  subst e
  exact rx_short l d ru ta rs I J Rp b hb y hR
theorem and6 {a b c e f g : Bool} (h1 : a = true) (h2 : b = true) (h3 : c = true) (h4 : e = true) (h5 : f = true) (h6 : g = true) : (a && b && c && e && f && g) = true := by
  rw [h1, h2, h3, h4, h5, h6]
  rfl
theorem cu_no {Q : Tld} {L : Lws} {w : Rw} {t r bn : Nat} (hno : cuOK Q L w t r bn = false) : cuB Q L w t r bn = 12 ∧ cuR Q L w t r bn = w := by
  constructor
  · unfold cuB
    rw [hno]
    rfl
  · unfold cuR
    rw [hno]
    rfl
set_option maxHeartbeats 1000000 in
theorem cu_no1 {Q : Tld} {L : Lws} {w : Rw} {t r bn : Nat} (h : w (8 + r) = nI 1) : cuOK Q L w t r bn = false := by
  unfold cuOK
  rw [decide_eq_true h]
  rfl
set_option maxHeartbeats 1000000 in
theorem cu_no2 {Q : Tld} {L : Lws} {w : Rw} {t r bn : Nat} (h : w (12 + r) = nI 1) : cuOK Q L w t r bn = false := by
  unfold cuOK
  rw [decide_eq_true h]
  simp
set_option maxHeartbeats 1000000 in
theorem cu_no3 {Q : Tld} {L : Lws} {w : Rw} {t r bn : Nat} (h : maR Q L w t (lgR Q L w t) = false) : cuOK Q L w t r bn = false := by
  unfold cuOK
  rw [h]
  simp
set_option maxHeartbeats 1000000 in
theorem cu_no4 {Q : Tld} {L : Lws} {w : Rw} {t r bn : Nat} (h : lgR Q L w t = 0) : cuOK Q L w t r bn = false := by
  unfold cuOK
  rw [decide_eq_true h]
  simp
set_option maxHeartbeats 1000000 in
theorem cu_no5 {Q : Tld} {L : Lws} {w : Rw} {t r bn : Nat} (h : frB w = 12) : cuOK Q L w t r bn = false := by
  unfold cuOK
  rw [decide_eq_true h]
  simp
set_option maxHeartbeats 1000000 in
theorem cu_no6 {Q : Tld} {L : Lws} {w : Rw} {t r bn : Nat} (h : isR Q w bn (ltR (nI (lgR Q L w t)) (nI (qC Q r))) = false) : cuOK Q L w t r bn = false := by
  unfold cuOK
  rw [h]
  simp
set_option maxRecDepth 100000 in
set_option maxHeartbeats 8000000 in
theorem cu_erow (Q : Tld) (L : Lws) (I Ib I1 I2 : XI) (t r bn : Nat) (ht : t < 8) (hr : r < 4) (eb : Ib 93 = baI (I2 93) (frB (I 93)) (I2 68 ((nI 18) + (nI t)).toNatClampNeg) (ltR (nI (lgR Q L (I 93) t)) (I1 68 ((nI 34) + (nI r)).toNatClampNeg)) (nI bn)) (e68 : I1 68 = I 68) (e93b : I2 93 = I 93) (e68b : I2 68 = I 68) (eK : I 68 (18 + t) = nI (qK Q t)) (eC : I 68 (34 + r) = nI (qC Q r)) : (uI (uI Ib 93 ((nI 0) + (nI t)).toNatClampNeg ((Ib 93 ((nI 0) + (nI t)).toNatClampNeg) - (((Ib 93 ((nI 0) + (nI t)).toNatClampNeg) * (ltR (nI (lgR Q L (I 93) t)) (I1 68 ((nI 34) + (nI r)).toNatClampNeg))) / (nI (lgR Q L (I 93) t))))) 93 ((nI 12) + (nI r)).toNatClampNeg (nI 1)) 93 = cuW Q L (I 93) t r bn := by
  have ix0 : ((nI 8) + (nI r)).toNatClampNeg = 8 + r := by rw [show (nI 8) + (nI r) = nI (8 + r) by simp only [nI_add, nI_mul, Nat.zero_add]]; exact nI_clamp (by omega)
  have ix1 : ((nI 12) + (nI r)).toNatClampNeg = 12 + r := by rw [show (nI 12) + (nI r) = nI (12 + r) by simp only [nI_add, nI_mul, Nat.zero_add]]; exact nI_clamp (by omega)
  have ix2 : ((nI 34) + (nI r)).toNatClampNeg = 34 + r := by rw [show (nI 34) + (nI r) = nI (34 + r) by simp only [nI_add, nI_mul, Nat.zero_add]]; exact nI_clamp (by omega)
  have ix3 : ((nI 18) + (nI t)).toNatClampNeg = 18 + t := by rw [show (nI 18) + (nI t) = nI (18 + t) by simp only [nI_add, nI_mul, Nat.zero_add]]; exact nI_clamp (by omega)
  have ix4 : ((nI 0) + (nI t)).toNatClampNeg = t := by rw [show (nI 0) + (nI t) = nI (t) by simp only [nI_add, nI_mul, Nat.zero_add]]; exact nI_clamp (by omega)
  simp only [ix0, ix1, ix2, ix3, ix4, uI_rd, uI_eq, eb, e68, e93b, e68b, eK, eC]
  rfl
set_option maxRecDepth 100000 in
set_option maxHeartbeats 8000000 in
theorem rx_cuts (l : Launch) (d : Nat) (ru ta : Nat) (rs : List XO) (I : XI) (J : XJ) (Rp : XR) (Q : Tld) (L : Lws) (h : RE I Q L) (hw : WR (I 93)) (t r bn : Nat) (ht : t < qT Q) (hr : r < qR Q) (hb : bn < qB Q) (hR : ∀ (I' : XI) (J' : XJ), F93 I I' → I' 93 = cuR Q L (I 93) t r bn → Rp (some (.int (bI (cuB Q L (I 93) t r bn)))) (shH ru ta rs) I' J') : xm l (d + 12) 0 0 mX12_cutsNow [.ref 67, .int (nI t), .int (nI r), .int (nI bn)] (shH ru ta rs) I J Rp := by
  have t8 : qT Q ≤ 8 := h.1.2.1
  have r4 : qR Q ≤ 4 := h.1.2.2.1
  have b4 : qB Q ≤ 4 := h.1.2.2.2.1
  have t8' : t < 8 := Nat.lt_of_lt_of_le ht t8
  have r4' : r < 4 := Nat.lt_of_lt_of_le hr r4
  have p0 : vp_in ((nI 8) + (nI r)) 69 := vx_2 (by omega) (by omega)
  have p1 : vp_in ((nI 12) + (nI r)) 69 := vx_2 (by omega) (by omega)
  have p2 : vp_in ((nI 34) + (nI r)) 2200 := vx_2 (by omega) (by omega)
  have p3 : vp_in ((nI 18) + (nI t)) 2200 := vx_2 (by omega) (by omega)
  have p4 : vp_in ((nI 0) + (nI t)) 69 := vx_2 (by omega) (by omega)
  have eC : I 68 (34 + r) = nI (qC Q r) := h.1.1.2.2.2.2.1 r hr
  have eK : I 68 (18 + t) = nI (qK Q t) := (h.1.1.2.2.2.1 t ht).2.1
  have ix0 : ((nI 8) + (nI r)).toNatClampNeg = 8 + r := by rw [show (nI 8) + (nI r) = nI (8 + r) by simp only [nI_add, nI_mul, Nat.zero_add]]; exact nI_clamp (by omega)
  have ix1 : ((nI 12) + (nI r)).toNatClampNeg = 12 + r := by rw [show (nI 12) + (nI r) = nI (12 + r) by simp only [nI_add, nI_mul, Nat.zero_add]]; exact nI_clamp (by omega)
  have ix2 : ((nI 34) + (nI r)).toNatClampNeg = 34 + r := by rw [show (nI 34) + (nI r) = nI (34 + r) by simp only [nI_add, nI_mul, Nat.zero_add]]; exact nI_clamp (by omega)
  have ix3 : ((nI 18) + (nI t)).toNatClampNeg = 18 + t := by rw [show (nI 18) + (nI t) = nI (18 + t) by simp only [nI_add, nI_mul, Nat.zero_add]]; exact nI_clamp (by omega)
  have ix4 : ((nI 0) + (nI t)).toNatClampNeg = t := by rw [show (nI 0) + (nI t) = nI (t) by simp only [nI_add, nI_mul, Nat.zero_add]]; exact nI_clamp (by omega)
  have lgl : lgR Q L (I 93) t < 2 ^ 31 := Nat.lt_of_le_of_lt (lgR_le h.1.2 hw ht) (by decide)
  refine xm_ofK 0 (X := xxX12) (t := tX12_cutsNow) (stop := []) (ini := false) xx12 pl12 rfl kX12_cutsNow (fun h => by cases h) (Nat.le_of_ble_eq_true rfl) (fun K hK => ?_)
  refine And.intro p0 ?_
  refine And.intro (fun (h10 : I 93 ((nI 8) + (nI r)).toNatClampNeg = nI 1) => ?_) (fun (h10 : ¬ (I 93 ((nI 8) + (nI r)).toNatClampNeg = nI 1)) => ?_)
  · replace h10 : I 93 (8 + r) = nI 1 := by simpa only [ix0, ix1, ix2, ix3, ix4, uI_rd] using h10
    have hno : cuOK Q L (I 93) t r bn = false := cu_no1 h10
    rw [(cu_no hno).1, (cu_no hno).2, bI_12] at hR
    exact hR I J F93.rf rfl
  · replace h10 : ¬ (I 93 (8 + r) = nI 1) := by simpa only [ix0, ix1, ix2, ix3, ix4, uI_rd] using h10
    refine And.intro p1 ?_
    refine And.intro (fun (h23 : ¬ (I 93 ((nI 12) + (nI r)).toNatClampNeg = nI 1)) => ?_) (fun (h23 : I 93 ((nI 12) + (nI r)).toNatClampNeg = nI 1) => ?_)
    · replace h23 : ¬ (I 93 (12 + r) = nI 1) := by simpa only [ix0, ix1, ix2, ix3, ix4, uI_rd] using h23
      refine ex_long l (d + 2) ru ta rs I J _ Q L (nW (I 93)) (I 93 67) (h.srm hw) t ht (fun I1 J1 f1 => ?_)
      have e93 : I1 93 = I 93 := f1 93 (by decide)
      have e68 : I1 68 = I 68 := f1 68 (by decide)
      refine rx_free l (d + 10) ru ta rs I1 J1 _ ?_
      refine And.intro p2 ?_
      refine rx_least l (d + 10) (nI (lgR Q L (I 93) t)) (I1 68 ((nI 34) + (nI r)).toNatClampNeg) _ _ _ _ ?_
      refine ex_may l (d + 2) ru ta rs I1 J1 _ Q L (nW (I 93)) (I 93 67) ((h.srm hw).keep f1) t (lgR Q L (I 93) t) ht (lgR_le h.1.2 hw ht) (fun r2 I2 J2 er f2 => ?_)
      have e93b : I2 93 = I 93 := (f2 93 (by decide)).trans e93
      have e68b : I2 68 = I 68 := (f2 68 (by decide)).trans e68
      have hc : (maR Q L (I 93) t (lgR Q L (I 93) t) = false ∧ r2 = 0) ∨ (maR Q L (I 93) t (lgR Q L (I 93) t) = true ∧ r2 = 1) := by
        show (maOf L (nmT Q (nW (I 93)) t (lgR Q L (I 93) t)) = false ∧ r2 = 0) ∨ (maOf L (nmT Q (nW (I 93)) t (lgR Q L (I 93) t)) = true ∧ r2 = 1)
        cases e : maOf L (nmT Q (nW (I 93)) t (lgR Q L (I 93) t)) with
        | false =>
          rw [e] at er
          exact Or.inl ⟨rfl, er⟩
        | true =>
          rw [e] at er
          exact Or.inr ⟨rfl, er⟩
      rcases hc with ⟨hma, rfl⟩ | ⟨hma, rfl⟩
      · refine And.intro (fun _ => ?_) (fun z => absurd (show (0 : Int32) = 0 from rfl) z)
        have hno : cuOK Q L (I 93) t r bn = false := cu_no3 hma
        rw [(cu_no hno).1, (cu_no hno).2, bI_12] at hR
        exact hR I2 J2 ((F93.n f1).tr (F93.n f2)) e93b
      · refine And.intro (fun z => absurd (show (1 : Int32) = 0 from z) (by decide)) (fun _ => ?_)
        refine And.intro (fun (h69 : nI (lgR Q L (I 93) t) = 0) => ?_) (fun (h69 : ¬ (nI (lgR Q L (I 93) t) = 0)) => ?_)
        · have hl0 : lgR Q L (I 93) t = 0 := (neq0 lgl).mp h69
          have hno : cuOK Q L (I 93) t r bn = false := cu_no4 hl0
          rw [(cu_no hno).1, (cu_no hno).2, bI_12] at hR
          exact hR I2 J2 ((F93.n f1).tr (F93.n f2)) e93b
        · refine And.intro (fun (h75 : bI (frB (I1 93)) = (-1)) => ?_) (fun (h75 : ¬ (bI (frB (I1 93)) = (-1))) => ?_)
          · replace h75 : bI (frB (I 93)) = (-1) := by simpa only [ix0, ix1, ix2, ix3, ix4, uI_rd, e93, e68, e93b, e68b] using h75
            have hf12 : frB (I 93) = 12 := (bI_n (frB_le _)).mp h75
            have hno : cuOK Q L (I 93) t r bn = false := cu_no5 hf12
            rw [(cu_no hno).1, (cu_no hno).2, bI_12] at hR
            exact hR I2 J2 ((F93.n f1).tr (F93.n f2)) e93b
          · replace h75 : ¬ (bI (frB (I 93)) = (-1)) := by simpa only [ix0, ix1, ix2, ix3, ix4, uI_rd, e93, e68, e93b, e68b] using h75
            have hf12 : ¬ frB (I 93) = 12 := fun z => h75 ((bI_n (frB_le _)).mpr z)
            have hfb : frB (I 93) < 12 := Nat.lt_of_le_of_ne (frB_le _) hf12
            refine rx_isRoom l (d + 9) ru ta rs I2 J2 _ Q (h.keep ((F93.n f1).tr (F93.n f2))).1.1 bn hb h.1.2.2.2.1 (ltR (nI (lgR Q L (I 93) t)) (I1 68 ((nI 34) + (nI r)).toNatClampNeg)) (fun hr1 => ?_) (fun hr1 => ?_)
            · replace hr1 : isR Q (I 93) bn (ltR (nI (lgR Q L (I 93) t)) (nI (qC Q r))) = true := by
                rw [e93b, ix2, e68, eC] at hr1
                exact hr1
              refine And.intro (fun _ => ?_) (fun z => absurd (show nI 1 = 0 from z) (by decide))
              refine And.intro p3 ?_
              refine rx_balesV l (d + 10) ru ta rs I2 J2 _ _ (frB (I 93)) (by rw [e93]; exact bI_b hfb) hfb (I2 68 ((nI 18) + (nI t)).toNatClampNeg) (ltR (nI (lgR Q L (I 93) t)) (I1 68 ((nI 34) + (nI r)).toNatClampNeg)) (nI bn) (fun Ib fb eb => ?_)
              refine And.intro p4 ?_
              refine And.intro p4 ?_
              refine And.intro (show ¬ (nI (lgR Q L (I 93) t) = 0) from h69) ?_
              refine And.intro p4 ?_
              refine And.intro p1 ?_
              have hl : ¬ lgR Q L (I 93) t = 0 := fun z => h69 (by rw [z]; rfl)
              have hok : cuOK Q L (I 93) t r bn = true := and6 (by rw [decide_eq_false h10]; rfl) (by rw [decide_eq_false h23]; rfl) hma (by rw [decide_eq_false hl]; rfl) (by rw [decide_eq_false hf12]; rfl) hr1
              have eB : cuB Q L (I 93) t r bn = frB (I 93) := by
                unfold cuB
                rw [hok, if_pos rfl]
              have eR : cuR Q L (I 93) t r bn = cuW Q L (I 93) t r bn := by
                unfold cuR
                rw [hok, if_pos rfl]
              rw [eB, eR] at hR
              have erow := cu_erow Q L I Ib I1 I2 t r bn t8' r4' eb e68 e93b e68b eK eC
              have fin := hR (uI (uI Ib 93 ((nI 0) + (nI t)).toNatClampNeg ((Ib 93 ((nI 0) + (nI t)).toNatClampNeg) - (((Ib 93 ((nI 0) + (nI t)).toNatClampNeg) * (ltR (nI (lgR Q L (I 93) t)) (I1 68 ((nI 34) + (nI r)).toNatClampNeg))) / (nI (lgR Q L (I 93) t))))) 93 ((nI 12) + (nI r)).toNatClampNeg (nI 1)) J2 (((F93.n f1).tr (F93.n f2)).tr fb.u.u) erow
              have e9 : bI (frB (I1 93)) = bI (frB (I 93)) := by rw [e93]
              rw [← e9] at fin
              exact fin
            · replace hr1 : isR Q (I 93) bn (ltR (nI (lgR Q L (I 93) t)) (nI (qC Q r))) = false := by
                rw [e93b, ix2, e68, eC] at hr1
                exact hr1
              refine And.intro (fun z => absurd (show nI 0 = 0 from rfl) z) (fun _ => ?_)
              have hno : cuOK Q L (I 93) t r bn = false := cu_no6 hr1
              rw [(cu_no hno).1, (cu_no hno).2, bI_12] at hR
              exact hR I2 J2 ((F93.n f1).tr (F93.n f2)) e93b
    · replace h23 : I 93 (12 + r) = nI 1 := by simpa only [ix0, ix1, ix2, ix3, ix4, uI_rd] using h23
      have hno : cuOK Q L (I 93) t r bn = false := cu_no2 h23
      rw [(cu_no hno).1, (cu_no hno).2, bI_12] at hR
      exact hR I J F93.rf rfl
abbrev usr (l : Launch) (d : Nat) (ru ta : Nat) (rs : List XO) (J : XJ) (Rp : XR) (n pc : Nat) (x bn y : Int32) (o4 o5 : Option Value) (I : XI) : Prop := xrun xxX12 none false false (shH ru ta rs).length 0 0 none l (d + 2) tX12_usesNow [2, 12, 90] Rp n pc [some (.ref 67), some (.int x), some (.int bn), some (.int y), o4, o5] [] (shH ru ta rs) I J 0 0
set_option maxRecDepth 100000 in
set_option maxHeartbeats 4000000 in
theorem rx_uses_in (l : Launch) (d : Nat) (ru ta : Nat) (rs : List XO) (I : XI) (J : XJ) (Rp : XR) (x bn y : Int32) (n0 : Nat) (H : usr l d ru ta rs J Rp n0 90 x bn y (some (.int (bI (dkN (I 93) bn 12)))) (some (.int (nI 12))) I) : ∀ (m k : Nat), k + m = 12 → usr l d ru ta rs J Rp (n0 + m + 1) 12 x bn y (some (.int (bI (dkN (I 93) bn k)))) (some (.int (nI k))) I := by
  intro m
  induction m with
  | zero =>
    intro k hk
    have hk : k = 12 := by omega
    subst hk
    refine xrun_step fun K hK => ?_
    refine And.intro (fun _ => ?_) (fun z => absurd (Int32.le_refl _) z)
    exact hK 90 _ [] _ I J 0 0 H
  | succ m ih =>
    intro k hk
    have hd := dkN_le (I 93) bn k (by omega)
    have ix0 : ((nI 28) + (nI k)).toNatClampNeg = 28 + k := by rw [show (nI 28) + (nI k) = nI (28 + k) by simp only [nI_add, nI_mul, Nat.zero_add]]; exact nI_clamp (by omega)
    have ix1 : ((nI 40) + (nI k)).toNatClampNeg = 40 + k := by rw [show (nI 40) + (nI k) = nI (40 + k) by simp only [nI_add, nI_mul, Nat.zero_add]]; exact nI_clamp (by omega)
    have ix2 : ((nI 52) + (nI k)).toNatClampNeg = 52 + k := by rw [show (nI 52) + (nI k) = nI (52 + k) by simp only [nI_add, nI_mul, Nat.zero_add]]; exact nI_clamp (by omega)
    refine xrun_step fun K hK => ?_
    refine And.intro (fun z => absurd (show nI 12 ≤ nI k from z) (nI_ge (by omega) (by omega))) (fun _ => ?_)
    refine And.intro (show vp_in ((nI 28) + (nI k)) 69 from vx_2 (by omega) (by omega)) ?_
    refine And.intro (fun (h29 : I 93 ((nI 28) + (nI k)).toNatClampNeg ≤ 0) => ?_) (fun (h29 : ¬ (I 93 ((nI 28) + (nI k)).toNatClampNeg ≤ 0)) => ?_)
    · replace h29 : I 93 (28 + k) ≤ 0 := by simpa only [ix0, ix1, ix2, uI_rd] using h29
      replace h29 : ¬ 0 < I 93 (28 + k) := Int32.not_lt.mpr h29
      refine hK 12 [some (.ref 67), some (.int x), some (.int bn), some (.int y), some (.int (bI (dkN (I 93) bn k))), some (.int ((nI k) + 1))] [] (shH ru ta rs) I J 0 0 ?_
      have e : dkN (I 93) bn (k + 1) = dkN (I 93) bn k := if_neg (fun z => h29 z.1)
      rw [nI_1, ← e]
      exact ih (k + 1) (by omega)
    · replace h29 : ¬ (I 93 (28 + k) ≤ 0) := by simpa only [ix0, ix1, ix2, uI_rd] using h29
      replace h29 : 0 < I 93 (28 + k) := Int32.not_le.mp h29
      refine And.intro (fun (h34 : bn = (-1)) => ?_) (fun (h34 : ¬ (bn = (-1))) => ?_)
      · refine And.intro (fun (h54 : bI (dkN (I 93) bn k) = (-1)) => ?_) (fun (h54 : ¬ (bI (dkN (I 93) bn k) = (-1))) => ?_)
        · replace h54 : dkN (I 93) bn k = 12 := (bI_n hd.1).mp h54
          refine hK 12 [some (.ref 67), some (.int x), some (.int bn), some (.int y), some (.int (nI k)), some (.int ((nI k) + 1))] [] (shH ru ta rs) I J 0 0 ?_
          have e : dkN (I 93) bn (k + 1) = k := if_pos ⟨h29, Or.inl h34, Or.inl h54⟩
          rw [nI_1, show nI k = bI (dkN (I 93) bn (k + 1)) from by rw [e, bI_b (by omega)]]
          exact ih (k + 1) (by omega)
        · replace h54 : ¬ dkN (I 93) bn k = 12 := fun z => h54 ((bI_n hd.1).mpr z)
          have ed : bI (dkN (I 93) bn k) = nI (dkN (I 93) bn k) := bI_b (by omega)
          have ixd : (nI 40 + bI (dkN (I 93) bn k)).toNatClampNeg = 40 + dkN (I 93) bn k := by rw [ed]; exact ix_c (by omega)
          have vd : vp_in (nI 40 + bI (dkN (I 93) bn k)) 69 := by rw [ed]; exact vx_2 (by omega) (by omega)
          refine And.intro (show vp_in ((nI 40) + (nI k)) 69 from vx_2 (by omega) (by omega)) ?_
          refine And.intro (show vp_in ((nI 40) + (bI (dkN (I 93) bn k))) 69 from vd) ?_
          refine And.intro (fun (h77 : I 93 ((nI 40) + (nI k)).toNatClampNeg ≤ I 93 ((nI 40) + (bI (dkN (I 93) bn k))).toNatClampNeg) => ?_) (fun (h77 : ¬ (I 93 ((nI 40) + (nI k)).toNatClampNeg ≤ I 93 ((nI 40) + (bI (dkN (I 93) bn k))).toNatClampNeg)) => ?_)
          · replace h77 : I 93 (40 + k) ≤ I 93 ((nI 40) + (bI (dkN (I 93) bn k))).toNatClampNeg := by simpa only [ix0, ix1, ix2, uI_rd] using h77
            rw [ixd] at h77
            replace h77 : ¬ I 93 (40 + dkN (I 93) bn k) < I 93 (40 + k) := Int32.not_lt.mpr h77
            refine hK 12 [some (.ref 67), some (.int x), some (.int bn), some (.int y), some (.int (bI (dkN (I 93) bn k))), some (.int ((nI k) + 1))] [] (shH ru ta rs) I J 0 0 ?_
            have e : dkN (I 93) bn (k + 1) = dkN (I 93) bn k := if_neg (fun z => z.2.2.elim h54 h77)
            rw [nI_1, ← e]
            exact ih (k + 1) (by omega)
          · replace h77 : ¬ (I 93 (40 + k) ≤ I 93 ((nI 40) + (bI (dkN (I 93) bn k))).toNatClampNeg) := by simpa only [ix0, ix1, ix2, uI_rd] using h77
            rw [ixd] at h77
            replace h77 : I 93 (40 + dkN (I 93) bn k) < I 93 (40 + k) := Int32.not_le.mp h77
            refine hK 12 [some (.ref 67), some (.int x), some (.int bn), some (.int y), some (.int (nI k)), some (.int ((nI k) + 1))] [] (shH ru ta rs) I J 0 0 ?_
            have e : dkN (I 93) bn (k + 1) = k := if_pos ⟨h29, Or.inl h34, Or.inr h77⟩
            rw [nI_1, show nI k = bI (dkN (I 93) bn (k + 1)) from by rw [e, bI_b (by omega)]]
            exact ih (k + 1) (by omega)
      · refine And.intro (show vp_in ((nI 52) + (nI k)) 69 from vx_2 (by omega) (by omega)) ?_
        refine And.intro (fun (h48 : ¬ (I 93 ((nI 52) + (nI k)).toNatClampNeg = bn)) => ?_) (fun (h48 : I 93 ((nI 52) + (nI k)).toNatClampNeg = bn) => ?_)
        · replace h48 : ¬ (I 93 (52 + k) = bn) := by simpa only [ix0, ix1, ix2, uI_rd] using h48
          refine hK 12 [some (.ref 67), some (.int x), some (.int bn), some (.int y), some (.int (bI (dkN (I 93) bn k))), some (.int ((nI k) + 1))] [] (shH ru ta rs) I J 0 0 ?_
          have e : dkN (I 93) bn (k + 1) = dkN (I 93) bn k := if_neg (fun z => z.2.1.elim h34 h48)
          rw [nI_1, ← e]
          exact ih (k + 1) (by omega)
        · replace h48 : I 93 (52 + k) = bn := by simpa only [ix0, ix1, ix2, uI_rd] using h48
          refine And.intro (fun (h54 : bI (dkN (I 93) bn k) = (-1)) => ?_) (fun (h54 : ¬ (bI (dkN (I 93) bn k) = (-1))) => ?_)
          · replace h54 : dkN (I 93) bn k = 12 := (bI_n hd.1).mp h54
            refine hK 12 [some (.ref 67), some (.int x), some (.int bn), some (.int y), some (.int (nI k)), some (.int ((nI k) + 1))] [] (shH ru ta rs) I J 0 0 ?_
            have e : dkN (I 93) bn (k + 1) = k := if_pos ⟨h29, Or.inr h48, Or.inl h54⟩
            rw [nI_1, show nI k = bI (dkN (I 93) bn (k + 1)) from by rw [e, bI_b (by omega)]]
            exact ih (k + 1) (by omega)
          · replace h54 : ¬ dkN (I 93) bn k = 12 := fun z => h54 ((bI_n hd.1).mpr z)
            have ed : bI (dkN (I 93) bn k) = nI (dkN (I 93) bn k) := bI_b (by omega)
            have ixd : (nI 40 + bI (dkN (I 93) bn k)).toNatClampNeg = 40 + dkN (I 93) bn k := by rw [ed]; exact ix_c (by omega)
            have vd : vp_in (nI 40 + bI (dkN (I 93) bn k)) 69 := by rw [ed]; exact vx_2 (by omega) (by omega)
            refine And.intro (show vp_in ((nI 40) + (nI k)) 69 from vx_2 (by omega) (by omega)) ?_
            refine And.intro (show vp_in ((nI 40) + (bI (dkN (I 93) bn k))) 69 from vd) ?_
            refine And.intro (fun (h77 : I 93 ((nI 40) + (nI k)).toNatClampNeg ≤ I 93 ((nI 40) + (bI (dkN (I 93) bn k))).toNatClampNeg) => ?_) (fun (h77 : ¬ (I 93 ((nI 40) + (nI k)).toNatClampNeg ≤ I 93 ((nI 40) + (bI (dkN (I 93) bn k))).toNatClampNeg)) => ?_)
            · replace h77 : I 93 (40 + k) ≤ I 93 ((nI 40) + (bI (dkN (I 93) bn k))).toNatClampNeg := by simpa only [ix0, ix1, ix2, uI_rd] using h77
              rw [ixd] at h77
              replace h77 : ¬ I 93 (40 + dkN (I 93) bn k) < I 93 (40 + k) := Int32.not_lt.mpr h77
              refine hK 12 [some (.ref 67), some (.int x), some (.int bn), some (.int y), some (.int (bI (dkN (I 93) bn k))), some (.int ((nI k) + 1))] [] (shH ru ta rs) I J 0 0 ?_
              have e : dkN (I 93) bn (k + 1) = dkN (I 93) bn k := if_neg (fun z => z.2.2.elim h54 h77)
              rw [nI_1, ← e]
              exact ih (k + 1) (by omega)
            · replace h77 : ¬ (I 93 (40 + k) ≤ I 93 ((nI 40) + (bI (dkN (I 93) bn k))).toNatClampNeg) := by simpa only [ix0, ix1, ix2, uI_rd] using h77
              rw [ixd] at h77
              replace h77 : I 93 (40 + dkN (I 93) bn k) < I 93 (40 + k) := Int32.not_le.mp h77
              refine hK 12 [some (.ref 67), some (.int x), some (.int bn), some (.int y), some (.int (nI k)), some (.int ((nI k) + 1))] [] (shH ru ta rs) I J 0 0 ?_
              have e : dkN (I 93) bn (k + 1) = k := if_pos ⟨h29, Or.inr h48, Or.inr h77⟩
              rw [nI_1, show nI k = bI (dkN (I 93) bn (k + 1)) from by rw [e, bI_b (by omega)]]
              exact ih (k + 1) (by omega)
set_option maxRecDepth 100000 in
set_option maxHeartbeats 4000000 in
theorem rx_uses_out (l : Launch) (d : Nat) (ru ta : Nat) (rs : List XO) (I : XI) (J : XJ) (Rp : XR) (x bn : Int32) (hR : ∀ I', F93 I I' → I' 93 = usN bn 12 (I 93) x → Rp none (shH ru ta rs) I' J) : ∀ (m : Nat) (y : Int32) (I1 : XI) (o4 o5 : Option Value), F93 I I1 → usG bn m (I1 93) y → usN bn m (I1 93) y = usN bn 12 (I 93) x → usr l d ru ta rs J Rp (15 * m + 2) 2 x bn y o4 o5 I1 := by
  intro m
  induction m with
  | zero =>
    intro y I1 o4 o5 f g e
    refine xrun_step fun K hK => ?_
    refine And.intro (fun _ => ?_) (fun z => absurd (Int32.not_lt.mp g) z)
    exact hR I1 f e
  | succ m ih =>
    intro y I1 o4 o5 f g e
    rw [show 15 * (m + 1) + 2 = (15 * m + 3 + 12 + 1) + 1 by omega]
    refine xrun_step fun K hK => ?_
    refine And.intro (fun (z : y ≤ 0) => ?_) (fun (z : ¬ y ≤ 0) => ?_)
    · refine hR I1 f ?_
      rw [← e]
      unfold usN
      rw [if_neg (Int32.not_lt.mpr z)]
    · have hy : 0 < y := Int32.not_le.mp z
      obtain ⟨g1, g2, g3⟩ := g hy
      have e2 : usN bn (m + 1) (I1 93) y = usN bn m (shR (I1 93) (dkN (I1 93) bn 12) (ltR y (I1 93 (28 + dkN (I1 93) bn 12)))) (y - ltR y (I1 93 (28 + dkN (I1 93) bn 12))) := if_pos hy
      have ed : bI (dkN (I1 93) bn 12) = nI (dkN (I1 93) bn 12) := bI_b g1
      have ixd : (nI 28 + bI (dkN (I1 93) bn 12)).toNatClampNeg = 28 + dkN (I1 93) bn 12 := by
        rw [ed]
        exact ix_c (by omega)
      have vd : vp_in (nI 28 + bI (dkN (I1 93) bn 12)) 69 := by
        rw [ed]
        exact vx_2 (by omega) (by omega)
      refine hK 12 [some (.ref 67), some (.int x), some (.int bn), some (.int y), some (.int (bI (dkN (I1 93) bn 0))), some (.int (nI 0))] [] (shH ru ta rs) I1 J 0 0 ?_
      refine rx_uses_in l d ru ta rs I1 J Rp x bn y (15 * m + 3) ?_ 12 0 (by omega)
      refine xrun_step fun K hK => ?_
      refine And.intro vd ?_
      refine rx_least l (d + 1) y (I1 93 (nI 28 + bI (dkN (I1 93) bn 12)).toNatClampNeg) _ _ _ _ ?_
      refine rx_shortV l d ru ta rs I1 J _ _ (dkN (I1 93) bn 12) ed g1 (ltR y (I1 93 (nI 28 + bI (dkN (I1 93) bn 12)).toNatClampNeg)) (fun I2 f2 e3 => ?_)
      rw [ixd] at e3
      refine hK 2 [some (.ref 67), some (.int x), some (.int bn), some (.int (y - ltR y (I1 93 (nI 28 + bI (dkN (I1 93) bn 12)).toNatClampNeg))), some (.int (bI (dkN (I1 93) bn 12))), some (.int (ltR y (I1 93 (nI 28 + bI (dkN (I1 93) bn 12)).toNatClampNeg)))] [] (shH ru ta rs) I2 J 0 0 ?_
      rw [ixd]
      refine ih _ I2 _ _ (f.tr f2) ?_ ?_
      · rw [e3]
        exact g3
      · rw [e3, ← e2]
        exact e
set_option maxRecDepth 100000 in
theorem rx_uses (l : Launch) (d : Nat) (ru ta : Nat) (rs : List XO) (I : XI) (J : XJ) (Rp : XR) (x bn : Int32) (g : usG bn 12 (I 93) x) (hR : ∀ I', F93 I I' → I' 93 = usN bn 12 (I 93) x → Rp none (shH ru ta rs) I' J) : xm l (d + 3) 0 0 mX12_usesNow [.ref 67, .int x, .int bn] (shH ru ta rs) I J Rp := by
  refine xm_ofK 182 (X := xxX12) (t := tX12_usesNow) (stop := [2, 12, 90]) (ini := false) xx12 pl12 rfl kX12_usesNow (fun h => by cases h) (Nat.le_of_ble_eq_true rfl) (fun K hK => ?_)
  exact hK 2 [some (.ref 67), some (.int x), some (.int bn), some (.int x), none, none] [] _ _ _ _ _ (rx_uses_out l d ru ta rs I J Rp x bn hR 12 x I none none F93.rf g rfl)
set_option maxRecDepth 100000 in
set_option maxHeartbeats 4000000 in
theorem rx_sellsN (l : Launch) (d : Nat) (ru ta : Nat) (rs : List XO) (I : XI) (J : XJ) (Rp : XR) (Q : Tld) (L : Lws) (h : RE I Q L) (hw : WR (I 93)) (b : Nat) (hb : b < 12) (hR : ∀ (I' : XI) (J' : XJ), F93 I I' → I' 93 = seW L (I 93) b → Rp (some (.int (nI (seR L (I 93) b)))) (shH ru ta rs) I' J') : xm l (d + 10) 0 0 mX12_sellsNow [.ref 67, .int (nI b)] (shH ru ta rs) I J Rp := by
  refine xm_ofK 0 (X := xxX12) (t := tX12_sellsNow) (stop := []) (ini := false) xx12 pl12 rfl kX12_sellsNow (fun h => by cases h) (Nat.le_of_ble_eq_true rfl) (fun K hK => ?_)
  refine rx_sells l d ru ta rs I J _ Q L h hw b hb (fun I1 J1 f1 => ?_)
  have e93 : I1 93 = I 93 := f1 93 (by decide)
  refine And.intro (show vp_in (nI 67) 69 from vp_b (by decide)) ?_
  refine And.intro (show vp_in (nI 67) 69 from vp_b (by decide)) ?_
  refine rx_bales l (d + 8) ru ta rs (uI I1 93 67 ((I1 93 67) + (nI (seR L (I 93) b)))) J1 _ b hb (nI 0) (nI 0) (nI 0) (fun Ib fb eb => ?_)
  refine hR Ib J1 ((F93.n f1).u.tr fb) ?_
  rw [eb, uI_eq, e93]
  rfl
abbrev dyr (l : Launch) (d : Nat) (ru ta : Nat) (rs : List XO) (J : XJ) (Rp : XR) (n pc : Nat) (o1 o2 : Option Value) (I : XI) : Prop := xrun xxX12 none false false (shH ru ta rs).length 0 0 none l (d + 10) tX12_dayBegins [34, 91] Rp n pc [some (.ref 67), o1, o2] [] (shH ru ta rs) I J 0 0
set_option maxRecDepth 100000 in
set_option maxHeartbeats 8000000 in
theorem rx_day2 (l : Launch) (d : Nat) (ru ta : Nat) (rs : List XO) (I : XI) (J : XJ) (Rp : XR) (Q : Tld) (L : Lws) (h : RE I Q L) (W : Rw) (hR : ∀ (I' : XI) (J' : XJ), F93 I I' → I' 93 = W → Rp none (shH ru ta rs) I' J') : ∀ (m b n : Nat) (J : XJ) (I1 : XI) (o2 : Option Value), b + m = 12 → m < n → F93 I I1 → WR (I1 93) → spN L m (I1 93) b = W → dyr l d ru ta rs J Rp n 91 (some (.int (nI b))) o2 I1 := by
  intro m
  induction m with
  | zero =>
    intro b n J I1 o2 hb hn hf hw hE
    obtain ⟨n, rfl⟩ : ∃ n', n = n' + 1 := ⟨n - 1, by omega⟩
    have hb : b = 12 := by omega
    subst hb
    refine xrun_step fun K hK => ?_
    refine And.intro (fun _ => ?_) (fun z => absurd (Int32.le_refl _) z)
    exact hR I1 J hf hE
  | succ m ih =>
    intro b n J I1 o2 hb hn hf hw hE
    obtain ⟨n, rfl⟩ : ∃ n', n = n' + 1 := ⟨n - 1, by omega⟩
    have ix0 : ((nI 28) + (nI b)).toNatClampNeg = 28 + b := by rw [show (nI 28) + (nI b) = nI (28 + b) by simp only [nI_add, nI_mul, Nat.zero_add]]; exact nI_clamp (by omega)
    have ix1 : ((nI 40) + (nI b)).toNatClampNeg = 40 + b := by rw [show (nI 40) + (nI b) = nI (40 + b) by simp only [nI_add, nI_mul, Nat.zero_add]]; exact nI_clamp (by omega)
    refine xrun_step fun K hK => ?_
    refine And.intro (fun z => absurd (show nI 12 ≤ nI b from z) (nI_ge (by omega) (by omega))) (fun _ => ?_)
    refine And.intro (show vp_in ((nI 28) + (nI b)) 69 from vx_2 (by omega) (by omega)) ?_
    refine And.intro (fun (h106 : I1 93 ((nI 28) + (nI b)).toNatClampNeg ≤ 0) => ?_) (fun (h106 : ¬ (I1 93 ((nI 28) + (nI b)).toNatClampNeg ≤ 0)) => ?_)
    · replace h106 : I1 93 (28 + b) ≤ 0 := by simpa only [ix0, ix1, uI_rd] using h106
      refine hK 91 [some (.ref 67), some (.int ((nI b) + 1)), o2] [] (shH ru ta rs) I1 J 0 0 ?_
      rw [nI_1]
      have e : spN L (m + 1) (I1 93) b = spN L m (I1 93) (b + 1) := if_neg (Int32.not_lt.mpr h106)
      exact ih (b + 1) n J I1 o2 (by omega) (by omega) hf hw (by rw [← e]; exact hE)
    · replace h106 : ¬ (I1 93 (28 + b) ≤ 0) := by simpa only [ix0, ix1, uI_rd] using h106
      refine rx_spoils l (d + 1) ru ta rs I1 J _ Q L (h.keep hf) hw b (by omega) (fun I2 J2 f2 => ?_)
      have e93 : I2 93 = I1 93 := f2 93 (by decide)
      refine And.intro (show vp_in ((nI 40) + (nI b)) 69 from vx_2 (by omega) (by omega)) ?_
      refine rx_least l (d + 9) (nI 99) ((I2 93 ((nI 40) + (nI b)).toNatClampNeg) + (nI 1)) _ _ _ _ ?_
      refine And.intro (show vp_in ((nI 40) + (nI b)) 69 from vx_2 (by omega) (by omega)) ?_
      refine rx_short l (d + 8) ru ta rs (uI I2 93 ((nI 40) + (nI b)).toNatClampNeg (ltR (nI 99) ((I2 93 ((nI 40) + (nI b)).toNatClampNeg) + (nI 1)))) J2 _ b (by omega) (nI (spR L (I1 93) b)) (fun I3 f3 e3 => ?_)
      refine hK 91 [some (.ref 67), some (.int ((nI b) + 1)), some (.int (nI (spR L (I1 93) b)))] [] (shH ru ta rs) I3 J2 0 0 ?_
      rw [nI_1]
      have hpos : 0 < I1 93 (28 + b) := Int32.not_le.mp h106
      have e : spN L (m + 1) (I1 93) b = spN L m (shR (upd (I1 93) (40 + b) (ltR (nI 99) (I1 93 (40 + b) + nI 1))) b (nI (spR L (I1 93) b))) (b + 1) := if_pos hpos
      have e4 : I3 93 = shR (upd (I1 93) (40 + b) (ltR (nI 99) (I1 93 (40 + b) + nI 1))) b (nI (spR L (I1 93) b)) := by
        rw [e3]
        simp only [ix0, ix1, uI_rd, uI_eq, e93]
      have w3 : WR (I3 93) := by
        have y := WR.sp (L := L) 1 (I1 93) b (by omega) hw
        have z : spN L 1 (I1 93) b = I3 93 := by
          rw [e4]
          exact if_pos hpos
        rw [z] at y
        exact y
      exact ih (b + 1) n J2 I3 _ (by omega) (by omega) (hf.tr ((F93.n f2).tr (F93.rf.u.tr f3))) w3 (by rw [e4, ← e]; exact hE)
set_option maxRecDepth 100000 in
set_option maxHeartbeats 8000000 in
theorem rx_day1 (l : Launch) (d : Nat) (ru ta : Nat) (rs : List XO) (I : XI) (J : XJ) (Rp : XR) (Q : Tld) (L : Lws) (h : RE I Q L) (W : Rw) (hR : ∀ (I' : XI) (J' : XJ), F93 I I' → I' 93 = W → Rp none (shH ru ta rs) I' J') : ∀ (m t n : Nat) (J : XJ) (I1 : XI) (o2 : Option Value), t + m = qT Q → m + 14 < n → F93 I I1 → WR (I1 93) → spN L 12 (gwN Q L m (I1 93) t) 0 = W → dyr l d ru ta rs J Rp n 34 (some (.int (nI t))) o2 I1 := by
  have t8 : qT Q ≤ 8 := h.1.2.1
  intro m
  induction m with
  | zero =>
    intro t n J I1 o2 ht hn hf hw hE
    obtain ⟨n, rfl⟩ : ∃ n', n = n' + 1 := ⟨n - 1, by omega⟩
    have eT : I1 68 0 = nI (qT Q) := (h.keep hf).1.1.1
    have ht : t = qT Q := by omega
    subst ht
    refine xrun_step fun K hK => ?_
    refine And.intro (vp_b (by decide)) ?_
    refine And.intro (fun _ => ?_) (fun z => absurd (show I1 68 0 ≤ nI (qT Q) from by rw [eT]; exact Int32.le_refl _) z)
    exact hK 91 [some (.ref 67), some (.int (nI 0)), o2] [] _ I1 J 0 0 (rx_day2 l d ru ta rs I J Rp Q L h W hR 12 0 n J I1 o2 (by omega) (by omega) hf hw hE)
  | succ m ih =>
    intro t n J I1 o2 ht hn hf hw hE
    obtain ⟨n, rfl⟩ : ∃ n', n = n' + 1 := ⟨n - 1, by omega⟩
    have eT : I1 68 0 = nI (qT Q) := (h.keep hf).1.1.1
    have ix0 : ((nI 0) + (nI t)).toNatClampNeg = t := by rw [show (nI 0) + (nI t) = nI (t) by simp only [nI_add, nI_mul, Nat.zero_add]]; exact nI_clamp (by omega)
    refine xrun_step fun K hK => ?_
    refine And.intro (show vp_in (nI 0) 2200 from vp_b (by decide)) ?_
    refine And.intro (fun z => absurd (show I1 68 0 ≤ nI t from z) ((by rw [eT]; exact nI_ge (by omega) (by omega)))) (fun _ => ?_)
    refine And.intro (show vp_in (nI 66) 69 from vp_b (by decide)) ?_
    refine And.intro (fun (h53 : nI 8 ≤ I1 93 66) => ?_) (fun (h53 : ¬ (nI 8 ≤ I1 93 66)) => ?_)
    · refine hK 91 [some (.ref 67), some (.int (nI 0)), o2] [] (shH ru ta rs) I1 J 0 0 ?_
      have e : gwN Q L (m + 1) (I1 93) t = I1 93 := if_neg (Int32.not_lt.mpr h53)
      exact rx_day2 l d ru ta rs I J Rp Q L h W hR 12 0 n J I1 o2 (by omega) (by omega) hf hw (by rw [e] at hE; exact hE)
    · refine And.intro (show vp_in ((nI 0) + (nI t)) 69 from vx_2 (by omega) (by omega)) ?_
      refine ex_grows l (d + 1) ru ta rs I1 J _ Q L (nW (I1 93)) (I1 93 67) ((h.keep hf).srm hw) t (by omega) (fun I2 J2 f2 => ?_)
      have e93 : I2 93 = I1 93 := f2 93 (by decide)
      refine rx_least l (d + 9) (nI 100) ((I1 93 ((nI 0) + (nI t)).toNatClampNeg) + (nI (grR Q L (I1 93) t))) _ _ _ _ ?_
      refine And.intro (show vp_in ((nI 0) + (nI t)) 69 from vx_2 (by omega) (by omega)) ?_
      refine hK 34 [some (.ref 67), some (.int ((nI t) + 1)), o2] [] (shH ru ta rs) (uI I2 93 ((nI 0) + (nI t)).toNatClampNeg (ltR (nI 100) ((I1 93 ((nI 0) + (nI t)).toNatClampNeg) + (nI (grR Q L (I1 93) t))))) J2 0 0 ?_
      simp only [ix0, uI_rd]
      rw [nI_1]
      have hlt : I1 93 66 < nI 8 := Int32.not_le.mp h53
      have e : gwN Q L (m + 1) (I1 93) t = gwN Q L m (upd (I1 93) t (ltR (nI 100) (I1 93 t + nI (grR Q L (I1 93) t)))) (t + 1) := if_pos hlt
      refine ih (t + 1) n J2 _ o2 (by omega) (by omega) (hf.tr (F93.n f2).u) ?_ ?_
      · rw [uI_eq, e93]
        have y := WR.gw (Q := Q) (L := L) t8 1 (I1 93) t (by omega) hw
        have z : gwN Q L 1 (I1 93) t = upd (I1 93) t (ltR (nI 100) (I1 93 t + nI (grR Q L (I1 93) t))) := if_pos hlt
        rw [z] at y
        exact y
      · rw [uI_eq, e93, ← e]
        exact hE
set_option maxRecDepth 100000 in
set_option maxHeartbeats 4000000 in
theorem rx_dayB (l : Launch) (d : Nat) (ru ta : Nat) (rs : List XO) (I : XI) (J : XJ) (Rp : XR) (Q : Tld) (L : Lws) (h : RE I Q L) (hw : WR (dw0 (I 93))) (hR : ∀ (I' : XI) (J' : XJ), F93 I I' → I' 93 = dayR Q L (I 93) → Rp none (shH ru ta rs) I' J') : xm l (d + 11) 0 0 mX12_dayBegins [.ref 67] (shH ru ta rs) I J Rp := by
  refine xm_ofK 40 (X := xxX12) (t := tX12_dayBegins) (stop := [34, 91]) (ini := false) xx12 pl12 rfl kX12_dayBegins (fun h => by cases h) (Nat.le_of_ble_eq_true rfl) (fun K hK => ?_)
  refine And.intro (show vp_in (nI 64) 69 from vp_b (by decide)) ?_
  refine And.intro (show vp_in (nI 65) 69 from vp_b (by decide)) ?_
  refine And.intro (show vp_in (nI 65) 69 from vp_b (by decide)) ?_
  refine rx_draw l (d + 9) ru ta rs (uI (uI I 93 64 (nI 0)) 93 65 ((I 93 65) + (nI 1))) J _ 10 (by decide) (by decide) (fun I1 f1 e1 => ?_)
  refine And.intro (show vp_in (nI 66) 69 from vp_b (by decide)) ?_
  refine hK 34 [some (.ref 67), some (.int (nI 0)), none] [] (shH ru ta rs) (uI I1 93 66 (drv ((uI (uI I 93 64 (nI 0)) 93 65 ((I 93 65) + (nI 1))) 93) (nI 10))) J 0 0 ?_
  have e0 : (uI I1 93 66 (drv ((uI (uI I 93 64 (nI 0)) 93 65 ((I 93 65) + (nI 1))) 93) (nI 10))) 93 = dw0 (I 93) := by
    rw [uI_eq, e1, uI_eq, uI_eq]
    rfl
  refine rx_day1 l d ru ta rs I J Rp Q L h _ hR (qT Q) 0 40 J _ none (by omega) (by have : qT Q ≤ 8 := h.1.2.1; omega) (F93.rf.u.u.tr f1.u) ?_ ?_
  · rw [e0]
    exact hw
  · rw [e0]
    rfl
set_option maxRecDepth 100000 in
set_option maxHeartbeats 4000000 in
theorem rx_hourP (l : Launch) (d : Nat) (ru ta : Nat) (rs : List XO) (I : XI) (J : XJ) (Rp : XR) (Q : Tld) (L : Lws) (h : RE I Q L) (hwd : I 93 64 + nI 1 = nI 10 → WR (dw0 (hr0 (I 93)))) (hR : ∀ (I' : XI) (J' : XJ), F93 I I' → I' 93 = hrR Q L (I 93) → Rp none (shH ru ta rs) I' J') : xm l (d + 12) 0 0 mX12_hourPasses [.ref 67] (shH ru ta rs) I J Rp := by
  refine xm_ofK 0 (X := xxX12) (t := tX12_hourPasses) (stop := []) (ini := false) xx12 pl12 rfl kX12_hourPasses (fun h => by cases h) (Nat.le_of_ble_eq_true rfl) (fun K hK => ?_)
  refine And.intro (show vp_in (nI 64) 69 from vp_b (by decide)) ?_
  refine And.intro (show vp_in (nI 64) 69 from vp_b (by decide)) ?_
  refine And.intro (fun z => absurd (show nI 4 ≤ nI 0 from z) (by decide)) (fun _ => ?_)
  refine And.intro (show vp_in ((nI 12) + (nI 0)) 69 from vp_b (by decide)) ?_
  refine And.intro (fun z => absurd (show nI 4 ≤ (nI 0) + 1 from z) (by decide)) (fun _ => ?_)
  refine And.intro (show vp_in ((nI 12) + ((nI 0) + 1)) 69 from vp_b (by decide)) ?_
  refine And.intro (fun z => absurd (show nI 4 ≤ ((nI 0) + 1) + 1 from z) (by decide)) (fun _ => ?_)
  refine And.intro (show vp_in ((nI 12) + (((nI 0) + 1) + 1)) 69 from vp_b (by decide)) ?_
  refine And.intro (fun z => absurd (show nI 4 ≤ (((nI 0) + 1) + 1) + 1 from z) (by decide)) (fun _ => ?_)
  refine And.intro (show vp_in ((nI 12) + ((((nI 0) + 1) + 1) + 1)) 69 from vp_b (by decide)) ?_
  refine And.intro (fun _ => ?_) (fun z => absurd (show nI 4 ≤ ((((nI 0) + 1) + 1) + 1) + 1 from by decide) z)
  refine And.intro (show vp_in (nI 64) 69 from vp_b (by decide)) ?_
  refine And.intro (fun (h41 : ¬ ((I 93 64) + (nI 1) = nI 10)) => ?_) (fun (h41 : (I 93 64) + (nI 1) = nI 10) => ?_)
  · refine hR (uI (uI (uI (uI (uI I 93 64 ((I 93 64) + (nI 1))) 93 12 (nI 0)) 93 13 (nI 0)) 93 14 (nI 0)) 93 15 (nI 0)) J F93.rf.u.u.u.u.u ?_
    rw [uI_eq, uI_eq, uI_eq, uI_eq, uI_eq]
    unfold hrR
    rw [if_neg h41]
    rfl
  · have e1 : (uI (uI (uI (uI (uI I 93 64 ((I 93 64) + (nI 1))) 93 12 (nI 0)) 93 13 (nI 0)) 93 14 (nI 0)) 93 15 (nI 0)) 93 = hr0 (I 93) := by
      rw [uI_eq, uI_eq, uI_eq, uI_eq, uI_eq]
      rfl
    refine rx_dayB l d ru ta rs (uI (uI (uI (uI (uI I 93 64 ((I 93 64) + (nI 1))) 93 12 (nI 0)) 93 13 (nI 0)) 93 14 (nI 0)) 93 15 (nI 0)) J _ Q L (h.keep F93.rf.u.u.u.u.u) (by rw [e1]; exact hwd h41) (fun I2 J2 f2 e2 => ?_)
    refine hR I2 J2 (F93.rf.u.u.u.u.u.tr f2) ?_
    rw [e2, e1]
    unfold hrR
    rw [if_pos h41]
abbrev ptr_ (l : Launch) (d : Nat) (ru ta : Nat) (rs : List XO) (J : XJ) (Rp : XR) (n : Nat) (a b : Nat) (I : XI) : Prop := xrun xxX12 none false false (shH ru ta rs).length 0 0 none l (d + 12) tX12_passesThrough [2] Rp n 2 [some (.ref 67), some (.int (nI a)), some (.int (nI b))] [] (shH ru ta rs) I J 0 0
set_option maxRecDepth 100000 in
set_option maxHeartbeats 4000000 in
theorem rx_pt_loop (l : Launch) (d : Nat) (ru ta : Nat) (rs : List XO) (I : XI) (J : XJ) (Rp : XR) (Q : Tld) (L : Lws) (h : RE I Q L) (a : Nat) (ha : a < 1000) (W : Rw) (hR : ∀ (I' : XI) (J' : XJ), F93 I I' → I' 93 = W → Rp none (shH ru ta rs) I' J') : ∀ (m k n : Nat) (J : XJ) (I1 : XI), k + m = a → m < n → F93 I I1 → WR (I1 93) → ptR Q L m (I1 93) = W → ptr_ l d ru ta rs J Rp n a k I1 := by
  intro m
  induction m with
  | zero =>
    intro k n J I1 hk hn hf hw hE
    obtain ⟨n, rfl⟩ : ∃ n', n = n' + 1 := ⟨n - 1, by omega⟩
    have hk : k = a := by omega
    subst hk
    refine xrun_step fun K hK => ?_
    refine And.intro (fun _ => ?_) (fun z => absurd (Int32.le_refl _) z)
    exact hR I1 J hf hE
  | succ m ih =>
    intro k n J I1 hk hn hf hw hE
    obtain ⟨n, rfl⟩ : ∃ n', n = n' + 1 := ⟨n - 1, by omega⟩
    refine xrun_step fun K hK => ?_
    refine And.intro (fun z => absurd (show nI a ≤ nI k from z) (nI_ge (by omega) (by omega))) (fun _ => ?_)
    refine rx_canPass l (d + 11) ru ta rs I1 J _ (fun hc => ?_) (fun hc => ?_)
    · refine And.intro (fun z => absurd z (by decide)) (fun _ => ?_)
      have e : ptR Q L (m + 1) (I1 93) = ptR Q L m (hrR Q L (I1 93)) := if_pos hc
      refine rx_hourP l d ru ta rs I1 J _ Q L (h.keep hf) (fun e => hw.w0 hc e) (fun I2 J2 f2 e2 => ?_)
      refine hK 2 [some (.ref 67), some (.int (nI a)), some (.int (nI k + 1))] [] _ I2 J2 0 0 ?_
      rw [nI_1]
      refine ih (k + 1) n J2 I2 (by omega) (by omega) (hf.tr f2) ?_ ?_
      · rw [e2]
        exact hw.hr h.1.2.1 hc
      · rw [e2, ← e]
        exact hE
    · refine And.intro (fun _ => ?_) (fun z => absurd rfl z)
      have e : ptR Q L (m + 1) (I1 93) = I1 93 := if_neg (by rw [hc]; decide)
      exact hR I1 J hf (by rw [← e]; exact hE)
set_option maxRecDepth 100000 in
theorem rx_pt (l : Launch) (d : Nat) (ru ta : Nat) (rs : List XO) (I : XI) (J : XJ) (Rp : XR) (Q : Tld) (L : Lws) (h : RE I Q L) (hw : WR (I 93)) (a : Nat) (ha : a < 1000) (hR : ∀ (I' : XI) (J' : XJ), F93 I I' → I' 93 = ptR Q L a (I 93) → Rp none (shH ru ta rs) I' J') : xm l (d + 13) 0 0 mX12_passesThrough [.ref 67, .int (nI a)] (shH ru ta rs) I J Rp := by
  refine xm_ofK (a + 1) (X := xxX12) (t := tX12_passesThrough) (stop := [2]) (ini := false) xx12 pl12 rfl kX12_passesThrough (fun h => by cases h) (Nat.le_of_ble_eq_true rfl) (fun K hK => ?_)
  exact hK 2 [some (.ref 67), some (.int (nI a)), some (.int (nI 0))] [] _ _ _ _ _ (rx_pt_loop l d ru ta rs I J Rp Q L h a ha _ hR a 0 (a + 1) J I (by omega) (by omega) F93.rf hw rfl)
theorem rx_drawV (l : Launch) (d : Nat) (ru ta : Nat) (rs : List XO) (I : XI) (J : XJ) (Rp : XR) (v : Int32) (m : Nat) (e : v = nI m) (h0 : 0 < m) (hm : m < 1000) (hw : WR (I 93)) (hR : ∀ I', F93 I I' → I' 93 = dr (I 93) → WR (I' 93) → Rp (some (.int (nI (dN (I 93) m)))) (shH ru ta rs) I' J) : xm l (d + 1) 0 0 mX12_draw [.ref 67, .int v] (shH ru ta rs) I J Rp := by
  subst e
  refine rx_draw l d ru ta rs I J Rp m h0 hm (fun I1 f1 e1 => ?_)
  rw [(hw.dv h0 hm).1]
  exact hR I1 f1 e1 (by rw [e1]; exact hw.d)
set_option maxRecDepth 100000 in
set_option maxHeartbeats 8000000 in
theorem rx_happens (l : Launch) (d : Nat) (ru ta : Nat) (rs : List XO) (I : XI) (J : XJ) (Rp : XR) (Q : Tld) (L : Lws) (h : RE I Q L) (hw : WR (I 93)) (t0 : 0 < qT Q) (r0 : 0 < qR Q) (b0 : 0 < qB Q) (hR : ∀ (I' : XI) (J' : XJ), F93 I I' → I' 93 = hpR Q L (I 93) → Rp none (shH ru ta rs) I' J') : xm l (d + 14) 0 0 mX12_happens [.ref 67] (shH ru ta rs) I J Rp := by
  have t8 : qT Q ≤ 8 := h.1.2.1
  have r4 : qR Q ≤ 4 := h.1.2.2.1
  have b4 : qB Q ≤ 4 := h.1.2.2.2.1
  refine xm_ofK 0 (X := xxX12) (t := tX12_happens) (stop := []) (ini := false) xx12 pl12 rfl kX12_happens (fun h => by cases h) (Nat.le_of_ble_eq_true rfl) (fun K hK => ?_)
  refine rx_drawV l (d + 12) ru ta rs I J _ _ 6 rfl (by decide) (by decide) hw (fun I1 f1 e1 w1 => ?_)
  have n6 : dN (I 93) 6 < 6 := (hw.dv (m := 6) (by decide) (by decide)).2
  refine And.intro (fun (z : ¬ (nI (dN (I 93) 6) = 0)) => ?_) (fun (z : nI (dN (I 93) 6) = 0) => ?_)
  · have z0 : ¬ dN (I 93) 6 = 0 := fun y => z ((neq0 (by omega)).mpr y)
    refine And.intro (fun (y : nI 3 ≤ nI (dN (I 93) 6)) => ?_) (fun (y : ¬ nI 3 ≤ nI (dN (I 93) 6)) => ?_)
    · have y3 := (nle (by omega) (by omega)).mp y
      refine rx_pt l d ru ta rs I1 J _ Q L (h.keep f1) w1 1 (by decide) (fun I2 J2 f2 e2 => ?_)
      refine hR I2 J2 (f1.tr f2) ?_
      rw [e2, e1]
      unfold hpR
      rw [if_neg z0, if_neg (by omega), if_neg (by omega)]
    · have y3 : ¬ 3 ≤ dN (I 93) 6 := fun q => y ((nle (by omega) (by omega)).mpr q)
      refine rx_drawV l (d + 12) ru ta rs I1 J _ _ 12 rfl (by decide) (by decide) w1 (fun I2 f2 e2 w2 => ?_)
      have n12 : dN (I1 93) 12 < 12 := (w1.dv (m := 12) (by decide) (by decide)).2
      have ixb : (nI 28 + nI (dN (I1 93) 12)).toNatClampNeg = 28 + dN (I1 93) 12 := ix_c (by omega)
      refine And.intro (fun (q : ¬ (nI (dN (I 93) 6) = nI 2)) => ?_) (fun (q : nI (dN (I 93) 6) = nI 2) => ?_)
      · have q1 : dN (I 93) 6 = 1 := by
          have : ¬ dN (I 93) 6 = 2 := fun s => q (by rw [s])
          omega
        refine And.intro (show vp_in (nI 28 + nI (dN (I1 93) 12)) 69 from vx_2 (by omega) (by omega)) ?_
        refine And.intro (fun (s : I2 93 (nI 28 + nI (dN (I1 93) 12)).toNatClampNeg ≤ 0) => ?_) (fun (s : ¬ I2 93 (nI 28 + nI (dN (I1 93) 12)).toNatClampNeg ≤ 0) => ?_)
        · rw [ixb, e2] at s
          refine hR I2 J (f1.tr f2) ?_
          unfold hpR
          rw [if_neg z0, if_pos q1, ← e1]
          unfold hp1
          rw [if_neg (Int32.not_lt.mpr s), e2]
        · rw [ixb, e2] at s
          refine And.intro (fun _ => ?_) (fun s => absurd s q)
          refine rx_sellsN l (d + 3) ru ta rs I2 J _ Q L (h.keep (f1.tr f2)) w2 (dN (I1 93) 12) n12 (fun I3 J3 f3 e3 => ?_)
          refine hR I3 J3 ((f1.tr f2).tr f3) ?_
          unfold hpR
          rw [if_neg z0, if_pos q1, ← e1]
          unfold hp1
          rw [if_pos (Int32.not_le.mp s), e3, e2]
      · have q2 : dN (I 93) 6 = 2 := nI_small q (by omega) (by omega)
        refine rx_drawV l (d + 12) ru ta rs I2 J _ _ 20 rfl (by decide) (by decide) w2 (fun I3 f3 e3 w3 => ?_)
        have n20 := w2.dv (m := 20) (by decide) (by decide)
        refine And.intro (show vp_in (nI 28 + nI (dN (I1 93) 12)) 69 from vx_2 (by omega) (by omega)) ?_
        refine And.intro (fun (s : I3 93 (nI 28 + nI (dN (I1 93) 12)).toNatClampNeg ≤ 0) => ?_) (fun (s : ¬ I3 93 (nI 28 + nI (dN (I1 93) 12)).toNatClampNeg ≤ 0) => ?_)
        · rw [ixb, e3, e2] at s
          refine hR I3 J ((f1.tr f2).tr f3) ?_
          unfold hpR
          rw [if_neg z0, if_neg (by omega), if_pos q2, ← e1]
          unfold hp2
          rw [if_neg (Int32.not_lt.mpr s), e3, e2]
        · rw [ixb, e3, e2] at s
          refine And.intro (fun s => absurd q s) (fun _ => ?_)
          refine rx_short l (d + 11) ru ta rs I3 J _ (dN (I1 93) 12) n12 (nI 1 + nI (dN (I2 93) 20)) (fun I4 f4 e4 => ?_)
          refine hR I4 J (((f1.tr f2).tr f3).tr f4) ?_
          unfold hpR
          rw [if_neg z0, if_neg (by omega), if_pos q2, ← e1]
          unfold hp2
          rw [if_pos (Int32.not_le.mp s), e4, e3, e2, ← e2, ← n20.1]
  · have z0 : dN (I 93) 6 = 0 := (neq0 (by omega)).mp z
    refine And.intro (show vp_in (nI 0) 2200 from vp_b (by decide)) ?_
    refine rx_drawV l (d + 12) ru ta rs I1 J _ _ (qT Q) (h.keep f1).1.1.1 t0 (by omega) w1 (fun I2 f2 e2 w2 => ?_)
    have h2 := h.keep (f1.tr f2)
    refine And.intro (show vp_in (nI 1) 2200 from vp_b (by decide)) ?_
    refine rx_drawV l (d + 12) ru ta rs I2 J _ _ (qR Q) h2.1.1.2.1 r0 (by omega) w2 (fun I3 f3 e3 w3 => ?_)
    have h3 := h.keep ((f1.tr f2).tr f3)
    refine And.intro (show vp_in (nI 2) 2200 from vp_b (by decide)) ?_
    refine rx_drawV l (d + 12) ru ta rs I3 J _ _ (qB Q) h3.1.1.2.2.1 b0 (by omega) w3 (fun I4 f4 e4 w4 => ?_)
    have h4 := h.keep (((f1.tr f2).tr f3).tr f4)
    refine rx_cuts l (d + 1) ru ta rs I4 J _ Q L h4 w4 (dN (I1 93) (qT Q)) (dN (I2 93) (qR Q)) (dN (I3 93) (qB Q)) (w1.dv t0 (by omega)).2 (w2.dv r0 (by omega)).2 (w3.dv b0 (by omega)).2 (fun I5 J5 f5 e5 => ?_)
    refine hR I5 J5 ((((f1.tr f2).tr f3).tr f4).tr f5) ?_
    unfold hpR
    rw [if_pos z0, ← e1]
    unfold hp0
    rw [e5, e4, e3, e2]
