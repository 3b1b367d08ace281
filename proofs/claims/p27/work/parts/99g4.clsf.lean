-- ===== the guess: 99g4.clsf =====
set_option maxRecDepth 100000 in
set_option maxHeartbeats 4000000 in
theorem cwg_dark_loop (l : Launch) (d : Nat) (ru ta : Nat) (rs : List XO) (I : XI) (J : XJ) (Rp : XR) (T : Nat) (w : Rw) (hr : RC T w (I 29)) (hw : WR w) (bn : Int32) (hR : Rp (some (.int (bI (dkN w bn 12)))) (shH ru ta rs) I J) : ∀ (m k n : Nat) (o4 : Option Value), k + m = 12 → m < n → xrun xxX10 (some .int) false false (shH ru ta rs).length 0 0 none l (d + 1) tX10_darkest [4] Rp n 4 [some (.ref 28), some (.int bn), some (.int (bI (dkN w bn k))), some (.int (nI k)), o4] [] (shH ru ta rs) I J 0 0 := by
  intro m
  induction m with
  | zero =>
    intro k n o4 hk hn
    obtain ⟨n, rfl⟩ : ∃ n', n = n' + 1 := ⟨n - 1, by omega⟩
    have hk : k = 12 := by omega
    subst hk
    refine xrun_step fun K hK => ?_
    refine And.intro (fun _ => ?_) (fun z => absurd (Int32.le_refl _) z)
    exact hR
  | succ m ih =>
    intro k n o4 hk hn
    obtain ⟨n, rfl⟩ : ∃ n', n = n' + 1 := ⟨n - 1, by omega⟩
    have hd := dkN_le w bn k (by omega)
    have ix0 : ((nI 40) + (nI k)).toNatClampNeg = 40 + k := by rw [show (nI 40) + (nI k) = nI (40 + k) by simp only [nI_add, nI_mul, Nat.zero_add]]; exact nI_clamp (by omega)
    have ix1 : ((nI 52) + (nI k)).toNatClampNeg = 52 + k := by rw [show (nI 52) + (nI k) = nI (52 + k) by simp only [nI_add, nI_mul, Nat.zero_add]]; exact nI_clamp (by omega)
    refine xrun_step fun K hK => ?_
    refine And.intro (fun z => absurd (show nI 12 ≤ nI k from z) (nI_ge (by omega) (by omega))) (fun _ => ?_)
    refine cwg_hasBale l d ru ta rs I J _ _ w hr hw (nI k) (fun b hb e hp => ?_) (fun hn => ?_)
    · have eb := nI_inj e (by omega) (by omega)
      subst eb
      have q := (hr.2.2.1 k hb).2 hp
      refine And.intro (fun z => absurd (show (1 : Int32) = 0 from z) (by decide)) (fun _ => ?_)
      refine And.intro (fun (h20 : bn = (-1)) => ?_) (fun (h20 : ¬ (bn = (-1))) => ?_)
      · refine And.intro (fun z => absurd (show nI 1 = 0 from z) (by decide)) (fun _ => ?_)
        refine And.intro (fun (h50 : bI (dkN w bn k) = (-1)) => ?_) (fun (h50 : ¬ (bI (dkN w bn k) = (-1))) => ?_)
        · replace h50 : dkN w bn k = 12 := (bI_n hd.1).mp h50
          refine hK 4 [some (.ref 28), some (.int bn), some (.int (nI k)), some (.int ((nI k) + 1)), some (.int (nI 1))] [] (shH ru ta rs) I J 0 0 ?_
          have e : dkN w bn (k + 1) = k := if_pos ⟨hp, Or.inl h20, Or.inl h50⟩
          rw [nI_1, show nI k = bI (dkN w bn (k + 1)) from by rw [e, bI_b (by omega)]]
          exact ih (k + 1) n _ (by omega) (by omega)
        · replace h50 : ¬ dkN w bn k = 12 := fun z => h50 ((bI_n hd.1).mpr z)
          have ed : bI (dkN w bn k) = nI (dkN w bn k) := bI_b (by omega)
          have ixd : (nI 40 + bI (dkN w bn k)).toNatClampNeg = 40 + dkN w bn k := by rw [ed]; exact ix_c (by omega)
          have vd : vp_in (nI 40 + bI (dkN w bn k)) 69 := by rw [ed]; exact vx_2 (by omega) (by omega)
          have sd := (dkN_s w bn k (by omega) (by omega)).1
          have qd := ((hr.2.2.1 (dkN w bn k) (by omega)).2 sd).2.1
          refine And.intro (show vp_in ((nI 40) + (nI k)) 69 from vx_2 (by omega) (by omega)) ?_
          refine And.intro (show vp_in ((nI 40) + (bI (dkN w bn k))) 69 from vd) ?_
          refine And.intro (fun (h71 : I 29 ((nI 40) + (nI k)).toNatClampNeg ≤ I 29 ((nI 40) + (bI (dkN w bn k))).toNatClampNeg) => ?_) (fun (h71 : ¬ (I 29 ((nI 40) + (nI k)).toNatClampNeg ≤ I 29 ((nI 40) + (bI (dkN w bn k))).toNatClampNeg)) => ?_)
          · replace h71 : I 29 (40 + k) ≤ I 29 ((nI 40) + (bI (dkN w bn k))).toNatClampNeg := by simpa only [ix0, ix1, uI_rd] using h71
            rw [ixd, qd, q.2.1] at h71
            replace h71 : ¬ w (40 + dkN w bn k) < w (40 + k) := Int32.not_lt.mpr h71
            refine hK 4 [some (.ref 28), some (.int bn), some (.int (bI (dkN w bn k))), some (.int ((nI k) + 1)), some (.int (nI 1))] [] (shH ru ta rs) I J 0 0 ?_
            have e : dkN w bn (k + 1) = dkN w bn k := if_neg (fun z => z.2.2.elim h50 h71)
            rw [nI_1, ← e]
            exact ih (k + 1) n _ (by omega) (by omega)
          · replace h71 : ¬ (I 29 (40 + k) ≤ I 29 ((nI 40) + (bI (dkN w bn k))).toNatClampNeg) := by simpa only [ix0, ix1, uI_rd] using h71
            rw [ixd, qd, q.2.1] at h71
            replace h71 : w (40 + dkN w bn k) < w (40 + k) := Int32.not_le.mp h71
            refine hK 4 [some (.ref 28), some (.int bn), some (.int (nI k)), some (.int ((nI k) + 1)), some (.int (nI 1))] [] (shH ru ta rs) I J 0 0 ?_
            have e : dkN w bn (k + 1) = k := if_pos ⟨hp, Or.inl h20, Or.inr h71⟩
            rw [nI_1, show nI k = bI (dkN w bn (k + 1)) from by rw [e, bI_b (by omega)]]
            exact ih (k + 1) n _ (by omega) (by omega)
      · refine And.intro (show vp_in ((nI 52) + (nI k)) 69 from vx_2 (by omega) (by omega)) ?_
        refine And.intro (fun (h33 : ¬ (I 29 ((nI 52) + (nI k)).toNatClampNeg = bn)) => ?_) (fun (h33 : I 29 ((nI 52) + (nI k)).toNatClampNeg = bn) => ?_)
        · replace h33 : ¬ (I 29 (52 + k) = bn) := by simpa only [ix0, ix1, uI_rd] using h33
          rw [q.2.2] at h33
          refine And.intro (fun _ => ?_) (fun z => absurd (show nI 0 = 0 from rfl) z)
          refine hK 4 [some (.ref 28), some (.int bn), some (.int (bI (dkN w bn k))), some (.int ((nI k) + 1)), some (.int (nI 0))] [] (shH ru ta rs) I J 0 0 ?_
          have e : dkN w bn (k + 1) = dkN w bn k := if_neg (fun z => z.2.1.elim h20 h33)
          rw [nI_1, ← e]
          exact ih (k + 1) n _ (by omega) (by omega)
        · replace h33 : I 29 (52 + k) = bn := by simpa only [ix0, ix1, uI_rd] using h33
          rw [q.2.2] at h33
          refine And.intro (fun z => absurd (show nI 1 = 0 from z) (by decide)) (fun _ => ?_)
          refine And.intro (fun (h50 : bI (dkN w bn k) = (-1)) => ?_) (fun (h50 : ¬ (bI (dkN w bn k) = (-1))) => ?_)
          · replace h50 : dkN w bn k = 12 := (bI_n hd.1).mp h50
            refine hK 4 [some (.ref 28), some (.int bn), some (.int (nI k)), some (.int ((nI k) + 1)), some (.int (nI 1))] [] (shH ru ta rs) I J 0 0 ?_
            have e : dkN w bn (k + 1) = k := if_pos ⟨hp, Or.inr h33, Or.inl h50⟩
            rw [nI_1, show nI k = bI (dkN w bn (k + 1)) from by rw [e, bI_b (by omega)]]
            exact ih (k + 1) n _ (by omega) (by omega)
          · replace h50 : ¬ dkN w bn k = 12 := fun z => h50 ((bI_n hd.1).mpr z)
            have ed : bI (dkN w bn k) = nI (dkN w bn k) := bI_b (by omega)
            have ixd : (nI 40 + bI (dkN w bn k)).toNatClampNeg = 40 + dkN w bn k := by rw [ed]; exact ix_c (by omega)
            have vd : vp_in (nI 40 + bI (dkN w bn k)) 69 := by rw [ed]; exact vx_2 (by omega) (by omega)
            have sd := (dkN_s w bn k (by omega) (by omega)).1
            have qd := ((hr.2.2.1 (dkN w bn k) (by omega)).2 sd).2.1
            refine And.intro (show vp_in ((nI 40) + (nI k)) 69 from vx_2 (by omega) (by omega)) ?_
            refine And.intro (show vp_in ((nI 40) + (bI (dkN w bn k))) 69 from vd) ?_
            refine And.intro (fun (h71 : I 29 ((nI 40) + (nI k)).toNatClampNeg ≤ I 29 ((nI 40) + (bI (dkN w bn k))).toNatClampNeg) => ?_) (fun (h71 : ¬ (I 29 ((nI 40) + (nI k)).toNatClampNeg ≤ I 29 ((nI 40) + (bI (dkN w bn k))).toNatClampNeg)) => ?_)
            · replace h71 : I 29 (40 + k) ≤ I 29 ((nI 40) + (bI (dkN w bn k))).toNatClampNeg := by simpa only [ix0, ix1, uI_rd] using h71
              rw [ixd, qd, q.2.1] at h71
              replace h71 : ¬ w (40 + dkN w bn k) < w (40 + k) := Int32.not_lt.mpr h71
              refine hK 4 [some (.ref 28), some (.int bn), some (.int (bI (dkN w bn k))), some (.int ((nI k) + 1)), some (.int (nI 1))] [] (shH ru ta rs) I J 0 0 ?_
              have e : dkN w bn (k + 1) = dkN w bn k := if_neg (fun z => z.2.2.elim h50 h71)
              rw [nI_1, ← e]
              exact ih (k + 1) n _ (by omega) (by omega)
            · replace h71 : ¬ (I 29 (40 + k) ≤ I 29 ((nI 40) + (bI (dkN w bn k))).toNatClampNeg) := by simpa only [ix0, ix1, uI_rd] using h71
              rw [ixd, qd, q.2.1] at h71
              replace h71 : w (40 + dkN w bn k) < w (40 + k) := Int32.not_le.mp h71
              refine hK 4 [some (.ref 28), some (.int bn), some (.int (nI k)), some (.int ((nI k) + 1)), some (.int (nI 1))] [] (shH ru ta rs) I J 0 0 ?_
              have e : dkN w bn (k + 1) = k := if_pos ⟨hp, Or.inr h33, Or.inr h71⟩
              rw [nI_1, show nI k = bI (dkN w bn (k + 1)) from by rw [e, bI_b (by omega)]]
              exact ih (k + 1) n _ (by omega) (by omega)
    · have hp : ¬ 0 < w (28 + k) := hn k (by omega) rfl
      refine And.intro (fun _ => ?_) (fun z => absurd (show (0 : Int32) = 0 from rfl) z)
      refine And.intro (fun _ => ?_) (fun z => absurd (show nI 0 = 0 from rfl) z)
      refine hK 4 [some (.ref 28), some (.int bn), some (.int (bI (dkN w bn k))), some (.int ((nI k) + 1)), some (.int (nI 0))] [] (shH ru ta rs) I J 0 0 ?_
      have e : dkN w bn (k + 1) = dkN w bn k := if_neg (fun z => hp z.1)
      rw [nI_1, ← e]
      exact ih (k + 1) n _ (by omega) (by omega)
set_option maxRecDepth 100000 in
theorem cwg_dark (l : Launch) (d : Nat) (ru ta : Nat) (rs : List XO) (I : XI) (J : XJ) (Rp : XR) (T : Nat) (w : Rw) (hr : RC T w (I 29)) (hw : WR w) (bn : Int32) (hR : Rp (some (.int (bI (dkN w bn 12)))) (shH ru ta rs) I J) : xm l (d + 2) 0 0 mX10_darkest [.ref 28, .int bn] (shH ru ta rs) I J Rp := by
  refine xm_ofK 14 (X := xxX10) (t := tX10_darkest) (stop := [4]) (ini := false) xx10 pl10 rfl kX10_darkest (fun h => by cases h) (Nat.le_of_ble_eq_true rfl) (fun K hK => ?_)
  exact hK 4 [some (.ref 28), some (.int bn), some (.int (bI (dkN w bn 0))), some (.int (nI 0)), none] [] _ _ _ _ _ (cwg_dark_loop l d ru ta rs I J Rp T w hr hw bn hR 12 0 14 none (by omega) (by omega))
/-- feet in a barn, in all -/
theorem cwg_feetN (l : Launch) (d : Nat) (ru ta : Nat) (rs : List XO) (I : XI) (J : XJ) (Rp : XR) (T : Nat) (w : Rw) (hr : RC T w (I 29)) (hw : WR w) (bn : Int32) (hR : Rp (some (.int (nI (smF (fjN w bn) 12)))) (shH ru ta rs) I J) : xm l (d + 1) 0 0 mX10_feetIn [.ref 28, .int bn] (shH ru ta rs) I J Rp := by
  have e := fe_n hw bn
  by_cases c : bn = -1
  · rw [← e.2 c] at hR
    subst c
    exact cwg_feetAll l d ru ta rs I J Rp T w hr hw hR
  · rw [← e.1 c] at hR
    exact cwg_feetIn l d ru ta rs I J Rp T w hr hw bn c hR
abbrev tfgr (l : Launch) (d : Nat) (ru ta : Nat) (rs : List XO) (J : XJ) (Rp : XR) (n : Nat) (x bn y i : Int32) (o5 o6 : Option Value) (I : XI) : Prop := xrun xxX10 (some .boolean) false false (shH ru ta rs).length 0 0 none l (d + 2) tX10_takeFeet [16] Rp n 16 [some (.ref 28), some (.int x), some (.int bn), some (.int y), some (.int i), o5, o6] [] (shH ru ta rs) I J 0 0
set_option maxRecDepth 100000 in
set_option maxHeartbeats 4000000 in
theorem cwg_tf_loop (l : Launch) (d : Nat) (ru ta : Nat) (rs : List XO) (I : XI) (J : XJ) (Rp : XR) (T : Nat) (x bn : Int32) (W : Rw) (hR : ∀ I', F24 29 I I' → RC T W (I' 29) → Rp (some (.int 1)) (shH ru ta rs) I' J) : ∀ (m i n y : Nat) (w : Rw) (I1 : XI) (o5 o6 : Option Value), i + m = 12 → m < n → y ≤ 99999 → F24 29 I I1 → RC T w (I1 29) → WR w → usG bn m w (nI y) → usN bn m w (nI y) = W → tfgr l d ru ta rs J Rp n x bn (nI y) (nI i) o5 o6 I1 := by
  intro m
  induction m with
  | zero =>
    intro i n y w I1 o5 o6 hi hn hy f hr hw g e
    obtain ⟨n, rfl⟩ : ∃ n', n = n' + 1 := ⟨n - 1, by omega⟩
    have hi : i = 12 := by omega
    subst hi
    refine xrun_step fun K hK => ?_
    refine And.intro (fun _ => ?_) (fun z => absurd (Int32.le_refl _) z)
    refine And.intro (Or.inr rfl) (hR I1 f ?_)
    rw [← e]
    exact hr
  | succ m ih =>
    intro i n y w I1 o5 o6 hi hn hy f hr hw g e
    obtain ⟨n, rfl⟩ : ∃ n', n = n' + 1 := ⟨n - 1, by omega⟩
    refine xrun_step fun K hK => ?_
    refine And.intro (fun z => absurd (show nI 12 ≤ nI i from z) (nI_ge (by omega) (by omega))) (fun _ => ?_)
    refine And.intro (fun (z : nI y ≤ 0) => ?_) (fun (z : ¬ nI y ≤ 0) => ?_)
    · refine And.intro (Or.inr rfl) (hR I1 f ?_)
      have e2 : usN bn (m + 1) w (nI y) = w := if_neg (Int32.not_lt.mpr z)
      rw [← e, e2]
      exact hr
    · have hpos : 0 < nI y := Int32.not_le.mp z
      obtain ⟨g1, g2, g3⟩ := g hpos
      have e2 : usN bn (m + 1) w (nI y) = usN bn m (shR w (dkN w bn 12) (ltR (nI y) (w (28 + dkN w bn 12)))) (nI y - ltR (nI y) (w (28 + dkN w bn 12))) := if_pos hpos
      obtain ⟨a, ea, ha⟩ := hw.len g1
      have ed : bI (dkN w bn 12) = nI (dkN w bn 12) := bI_b g1
      have ixd : (nI 28 + bI (dkN w bn 12)).toNatClampNeg = 28 + dkN w bn 12 := by
        rw [ed]
        exact ix_c (by omega)
      have vd : vp_in (nI 28 + bI (dkN w bn 12)) 69 := by
        rw [ed]
        exact vx_2 (by omega) (by omega)
      rw [ea, ltR_n (by omega) (by omega)] at e2 g3
      have hmn : (if y < a then y else a) ≤ y ∧ (if y < a then y else a) ≤ 999 := by
        split <;> omega
      have emn : (if I1 29 (nI 28 + bI (dkN w bn 12)).toNatClampNeg < nI y then I1 29 (nI 28 + bI (dkN w bn 12)).toNatClampNeg else nI y) = nI (if y < a then y else a) := by
        rw [ixd, hr.len g1, ea]
        exact mn_n (by omega) (by omega)
      rw [nI_subI hmn.1 (by omega)] at e2 g3
      refine cwg_dark l d ru ta rs I1 J _ T w hr hw bn ?_
      refine cwg_hasBale l (d + 1) ru ta rs I1 J _ T w hr hw (bI (dkN w bn 12)) (fun b hb eb hp => ?_) (fun hn => absurd g2 (hn _ g1 ed))
      refine And.intro (fun z => absurd (show (1 : Int32) = 0 from z) (by decide)) (fun _ => ?_)
      refine And.intro vd ?_
      refine (show xm l (d + 2) 0 0 mX10_shorten [.ref 28, .int (bI (dkN w bn 12)), .int (if I1 29 (nI 28 + bI (dkN w bn 12)).toNatClampNeg < nI y then I1 29 (nI 28 + bI (dkN w bn 12)).toNatClampNeg else nI y)] (shH ru ta rs) I1 J _ from ?_)
      rw [emn]
      refine cwg_shorten l d ru ta rs I1 J _ T w hr hw (bI (dkN w bn 12)) (if y < a then y else a) (by omega) (fun b hb eb hp I2 f2 r2 => ?_) (fun hn => absurd g2 (hn _ g1 ed))
      have eb2 : b = dkN w bn 12 := nI_inj (eb.symm.trans ed) (by omega) (by omega)
      subst eb2
      refine hK 16 [some (.ref 28), some (.int x), some (.int bn), some (.int (nI y - (if I1 29 (nI 28 + bI (dkN w bn 12)).toNatClampNeg < nI y then I1 29 (nI 28 + bI (dkN w bn 12)).toNatClampNeg else nI y))), some (.int (nI i + 1)), some (.int (bI (dkN w bn 12))), some (.int (if I1 29 (nI 28 + bI (dkN w bn 12)).toNatClampNeg < nI y then I1 29 (nI 28 + bI (dkN w bn 12)).toNatClampNeg else nI y))] [] (shH ru ta rs) I2 J 0 0 ?_
      rw [emn, nI_1, nI_subI hmn.1 (by omega)]
      exact ih (i + 1) n (y - (if y < a then y else a)) _ I2 _ _ (by omega) (by omega) (by omega) (f.tr f2) r2 (hw.sh g1 (by omega)) g3 (by rw [← e2]; exact e)
set_option maxRecDepth 100000 in
theorem cwg_draw (l : Launch) (d : Nat) (ru ta : Nat) (rs : List XO) (I : XI) (J : XJ) (Rp : XR) (T : Nat) (w : Rw) (hr : RC T w (I 29)) (hw : WR w) (v : Int32) (m : Nat) (e : v = nI m) (h0 : 0 < m) (hm : m < 1000) (hR : ∀ I' : XI, F24 29 I I' → RC T (dr w) (I' 29) → Rp (some (.int (nI (dN w m)))) (shH ru ta rs) I' J) : xm l (d + 1) 0 0 mX10_draw [.ref 28, .int v] (shH ru ta rs) I J Rp := by
  subst e
  have e68 : I 29 68 = w 68 := hr.hi (by decide) (by decide)
  refine xm_ofK 0 (X := xxX10) (t := tX10_draw) (stop := []) (ini := false) xx10 pl10 rfl kX10_draw (fun h => by cases h) (Nat.le_of_ble_eq_true rfl) (fun K hK => ?_)
  refine And.intro (fun z => absurd (show nI m ≤ 0 from z) (fun q => by have := (nle0 (by omega)).mp q; omega)) (fun _ => ?_)
  refine And.intro (show vp_in (nI 68) 69 from vp_b (by decide)) ?_
  refine And.intro (show ¬ (nI m = 0) from fun q => by have := (neq0 (by omega)).mp q; omega) ?_
  refine And.intro (show vp_in (nI 68) 69 from vp_b (by decide)) ?_
  refine And.intro (show ¬ (nI 30313 = 0) by decide) ?_
  refine And.intro (show vp_in (nI 68) 69 from vp_b (by decide)) ?_
  have fin := hR (uI I 29 68 (w 68 * nI 287 + nI 191 - (w 68 * nI 287 + nI 191) / nI 30313 * nI 30313)) F24.rf.u (by
    rw [uI_eq]
    exact hr.uk (by decide) _)
  have ed : drv w (nI m) = nI (dN w m) := (hw.dv h0 hm).1
  unfold drv at ed
  rw [← ed, ← e68] at fin
  exact fin
set_option maxRecDepth 100000 in
theorem cwg_hoursLeft (l : Launch) (d : Nat) (ru ta : Nat) (rs : List XO) (I : XI) (J : XJ) (Rp : XR) (T : Nat) (w : Rw) (hr : RC T w (I 29)) (hw : WR w) (hR : Rp (some (.int (nI (hlN w)))) (shH ru ta rs) I J) : xm l (d + 1) 0 0 mX10_hoursLeft [.ref 28] (shH ru ta rs) I J Rp := by
  have k := hl_c hw
  refine xm_ofK 0 (X := xxX10) (t := tX10_hoursLeft) (stop := []) (ini := false) xx10 pl10 rfl kX10_hoursLeft (fun h => by cases h) (Nat.le_of_ble_eq_true rfl) (fun K hK => ?_)
  refine And.intro (show vp_in (nI 65) 69 from vp_b (by decide)) ?_
  refine And.intro (show vp_in (nI 64) 69 from vp_b (by decide)) ?_
  rw [← k.2.2.2, ← k.2.2.1, ← hr.hi (k := 65) (by decide) (by decide), ← hr.hi (k := 64) (by decide) (by decide)] at hR
  exact hR

