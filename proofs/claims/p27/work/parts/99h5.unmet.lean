-- ===== which need is first unmet: unmet =====
theorem spN_o {L : Lws} {j : Nat} (hj : 64 ≤ j) : ∀ (m : Nat) (w : Rw) (k : Nat), k + m ≤ 12 → spN L m w k j = w j
  | 0, _, _, _ => rfl
  | m + 1, w, k, hk => by
    unfold spN
    split
    · rw [spN_o hj m _ (k + 1) (by omega)]
      unfold shR
      split
      · rw [upd_n (by omega), upd_n (by omega)]
      · unfold baI
        rw [upd_n (by omega), upd_n (by omega), upd_n (by omega), upd_n (by omega), upd_n (by omega), upd_n (by omega)]
    · exact spN_o hj m w (k + 1) (by omega)
theorem usN_o {bn : Int32} {j : Nat} (hj : 64 ≤ j) : ∀ (n : Nat) (w : Rw) (x : Int32), usG bn n w x → usN bn n w x j = w j
  | 0, _, _, _ => rfl
  | n + 1, w, x, g => by
    unfold usN
    split
    · rename_i c
      obtain ⟨g1, g2, g3⟩ := g c
      rw [usN_o hj n _ _ g3]
      unfold shR
      split
      · rw [upd_n (by omega)]
      · unfold baI
        rw [upd_n (by omega), upd_n (by omega), upd_n (by omega), upd_n (by omega), upd_n (by omega)]
    · rfl
theorem WR.usB {bn : Int32} : ∀ (n : Nat) (w : Rw) (x : Nat), x ≤ 99999 → WR w → usG bn n w (nI x) → WR (usN bn n w (nI x))
  | 0, w, x, _, h, _ => h
  | n + 1, w, x, hx, h, g => by
    unfold usN
    split
    · rename_i c
      obtain ⟨g1, g2, g3⟩ := g c
      obtain ⟨a, ea, ha⟩ := h.len g1
      rw [ea, ltR_n (by omega) (by omega)] at g3 ⊢
      have hm : (if x < a then x else a) ≤ x ∧ (if x < a then x else a) ≤ 999 := by split <;> omega
      rw [nI_subI hm.1 (by omega)] at g3 ⊢
      exact WR.usB n _ _ (by omega) (h.sh g1 (by omega)) g3
    · exact h
/-- feet, whatever number, used of all bales -/
theorem us_V {w : Rw} (hw : WR w) {v : Int32} (h : v ≤ faR w 12) : usG (-1) 12 w v ∧ WR (usN (-1) 12 w v) ∧ ∀ j, 64 ≤ j → usN (-1) 12 w v j = w j := by
  have sl := sm_le hw (-1)
  by_cases c : v < 0
  · have n0 : ¬ 0 < v := Int32.not_lt.mpr (Int32.le_of_lt c)
    have e : usN (-1) 12 w v = w := if_neg n0
    refine ⟨fun z => absurd z n0, by rw [e]; exact hw, fun j _ => by rw [e]⟩
  · obtain ⟨x, ex, hx⟩ := nn_of c
    subst ex
    rw [faR_n hw 12 (Nat.le_refl _), nle hx (by omega)] at h
    have g := us_12 hw h
    exact ⟨g, WR.usB 12 w x (by omega) hw g, fun j hj => usN_o hj 12 w _ g⟩
theorem hrR_64 {Q : Tld} {L : Lws} (t8 : qT Q ≤ 8) {w : Rw} : (w 64 + nI 1 = nI 10 → hrR Q L w 64 = nI 0) ∧ (¬ w 64 + nI 1 = nI 10 → hrR Q L w 64 = w 64 + nI 1) := by
  have e0 : hr0 w 64 = w 64 + nI 1 := by
    unfold hr0
    rw [upd_n (by decide), upd_n (by decide), upd_n (by decide), upd_n (by decide), upd_s]
  refine ⟨fun h => ?_, fun h => ?_⟩
  · unfold hrR
    rw [if_pos h]
    unfold dayR
    rw [spN_o (by decide) 12 _ 0 (by decide), gwN_n (by decide) (qT Q) _ 0 (by omega)]
    unfold dw0 dr
    rw [upd_n (by decide), upd_n (by decide), upd_n (by decide), upd_s]
  · unfold hrR
    rw [if_neg h]
    exact e0
/-- the needs of a day: the first unmet (-1: none), the world then -/
def unD (dy fe : Nat → Int32) (day : Int32) : Nat → Nat → Rw → Int32 × Rw
  | 0, _, w => (-1, w)
  | m + 1, i, w => if dy i = day then (if fe i ≤ faR w 12 then unD dy fe day m (i + 1) (usN (-1) 12 w (fe i)) else (nI i, w)) else unD dy fe day m (i + 1) w
def unH (Q : Tld) (L : Lws) (dy fe : Nat → Int32) (u : Nat) (w : Rw) : Int32 × Rw := unD dy fe (hrR Q L w 65) u 0 (hrR Q L w)
def unC (Q : Tld) (L : Lws) (dy fe : Nat → Int32) (u : Nat) : Nat → Rw → Int32
  | 0, _ => -1
  | m + 1, w => if cnP w = true then (if hrR Q L w 64 = 0 then (if (unH Q L dy fe u w).1 = -1 then unC Q L dy fe u m (unH Q L dy fe u w).2 else (unH Q L dy fe u w).1) else unC Q L dy fe u m (hrR Q L w)) else -1
theorem unD_ok {dy fe : Nat → Int32} {day : Int32} : ∀ (m i : Nat) (w : Rw), WR w → WR (unD dy fe day m i w).2 ∧ ∀ j, 64 ≤ j → (unD dy fe day m i w).2 j = w j
  | 0, _, w, h => ⟨h, fun _ _ => rfl⟩
  | m + 1, i, w, h => by
    unfold unD
    split
    · split
      · rename_i c
        obtain ⟨_, g2, g3⟩ := us_V h c
        have y := unD_ok (dy := dy) (fe := fe) (day := day) m (i + 1) _ g2
        exact ⟨y.1, fun j hj => (y.2 j hj).trans (g3 j hj)⟩
      · exact ⟨h, fun _ _ => rfl⟩
    · exact unD_ok m (i + 1) w h
theorem unC_0 {Q : Tld} {L : Lws} {dy fe : Nat → Int32} {u : Nat} (t8 : qT Q ≤ 8) : ∀ (m : Nat) (w : Rw), WR w → nW w 64 + m ≤ 9 → unC Q L dy fe u m w = -1
  | 0, _, _, _ => rfl
  | m + 1, w, hw, h => by
    unfold unC
    split
    · rename_i hc
      have e := (hw 64 (by decide) (by decide)).nw
      have ne : ¬ w 64 + nI 1 = nI 10 := fun z => by
        rw [e.1, nI_add] at z
        have := nI_inj z (by omega) (by omega)
        omega
      have e2 := (hrR_64 (L := L) t8).2 ne
      have w1 := hw.hr (L := L) t8 hc
      have e3 : hrR Q L w 64 = nI (nW w 64 + 1) := by rw [e2, e.1, nI_add]
      have e4 : nW (hrR Q L w) 64 = nW w 64 + 1 := by
        show (hrR Q L w 64).toNatClampNeg = _
        rw [e3, nI_clamp (by omega)]
      have n0 : ¬ hrR Q L w 64 = 0 := by
        rw [e3]
        exact fun z => by
          have := nI_inj (b := 0) z (by omega) (by omega)
          omega
      rw [if_neg n0]
      exact unC_0 t8 m _ w1 (by rw [e4]; omega)
    · rfl
def unS (L : Lws) (A : Ast) (dy fe : Nat → Int32) (u : Nat) (x : Int32) : Int32 := if rIn x 1 20 = true then unC (oQ A) L dy fe u (10 * x.toNatClampNeg) (oW A) else -1
-- the class
set_option maxRecDepth 100000 in
set_option maxHeartbeats 2000000 in
theorem cwg_tfV (l : Launch) (d : Nat) (ru ta : Nat) (rs : List XO) (I : XI) (J : XJ) (Rp : XR) (T : Nat) (w : Rw) (hr : RC T w (I 29)) (hw : WR w) (v : Int32) (h1 : v ≤ faR w 12 → ∀ I', F24 29 I I' → RC T (usN (-1) 12 w v) (I' 29) → Rp (some (.int 1)) (shH ru ta rs) I' J) (h0 : ¬ v ≤ faR w 12 → Rp (some (.int 0)) (shH ru ta rs) I J) : xm l (d + 3) 0 0 mX10_takeFeet [.ref 28, .int v, .int (-1)] (shH ru ta rs) I J Rp := by
  have sl := sm_le hw (-1)
  have ef := faR_n hw 12 (Nat.le_refl _)
  refine xm_ofK 14 (X := xxX10) (t := tX10_takeFeet) (stop := [16]) (ini := false) xx10 pl10 rfl kX10_takeFeet (fun h => by cases h) (Nat.le_of_ble_eq_true rfl) (fun K hK => ?_)
  refine cwg_feetN l (d + 1) ru ta rs I J _ T w hr hw (-1) ?_
  rw [← ef]
  refine And.intro (fun (z : v ≤ faR w 12) => ?_) (fun (z : ¬ v ≤ faR w 12) => ?_)
  · refine hK 16 [some (.ref 28), some (.int v), some (.int (-1)), some (.int v), some (.int (nI 0)), none, none] [] (shH ru ta rs) I J 0 0 ?_
    by_cases c : v < 0
    · have n0 : ¬ 0 < v := Int32.not_lt.mpr (Int32.le_of_lt c)
      have e : usN (-1) 12 w v = w := if_neg n0
      have y := h1 z I F24.rf (by rw [e]; exact hr)
      refine xrun_step fun K2 hK2 => ?_
      refine And.intro (fun z => absurd (show nI 12 ≤ nI 0 from z) (by decide)) (fun _ => ?_)
      refine And.intro (fun _ => ?_) (fun z => absurd (show v ≤ 0 from Int32.le_of_lt c) z)
      exact And.intro (Or.inr rfl) y
    · obtain ⟨x, ex, hx⟩ := nn_of c
      subst ex
      have z2 := z
      rw [ef, nle hx (by omega)] at z2
      exact cwg_tf_loop l d ru ta rs I J Rp T (nI x) (-1) _ (h1 z) 12 0 14 x w I none none (by omega) (by omega) (by omega) F24.rf hr hw (us_12 hw z2) rfl
  · exact And.intro (Or.inl rfl) (h0 z)
abbrev fuz (l : Launch) (d : Nat) (ru ta : Nat) (rs : List XO) (J : XJ) (Rp : XR) (n : Nat) (day : Int32) (i : Nat) (I : XI) : Prop := xrun xxX11 (some .int) false false (shH ru ta rs).length 0 0 none l (d + 3) tX11_firstUnmet [2] Rp n 2 [some (.ref 0), some (.int day), some (.int (nI i))] [] (shH ru ta rs) I J 0 0
set_option maxRecDepth 100000 in
set_option maxHeartbeats 2000000 in
theorem cd_fu_loop (l : Launch) (d : Nat) (ru ta : Nat) (rs : List XO) (I : XI) (J : XJ) (Rp : XR) (T : Nat) (dy fe : Nat → Int32) (u : Nat) (hu : u ≤ 8) (eu : I 0 7 = nI u) (en : ∀ i, i < u → I 3 i = dy i ∧ I 4 i = fe i) (day : Int32) (V : Int32 × Rw) (hR : ∀ I' : XI, F24 29 I I' → RC T V.2 (I' 29) → Rp (some (.int V.1)) (shH ru ta rs) I' J) : ∀ (m i n : Nat) (I1 : XI) (w : Rw), i + m = u → m < n → F24 29 I I1 → RC T w (I1 29) → WR w → unD dy fe day m i w = V → fuz l d ru ta rs J Rp n day i I1 := by
  intro m
  induction m with
  | zero =>
    intro i n I1 w hi hn f hr hw eV
    obtain ⟨n, rfl⟩ : ∃ n', n = n' + 1 := ⟨n - 1, by omega⟩
    have hi : i = u := by omega
    have eV : (-1, w) = V := eV
    subst eV
    have e7 : I1 0 7 = nI i := by rw [f 0 (by decide) (by decide), hi]; exact eu
    refine xrun_step fun K hK => ?_
    refine And.intro (fun _ => ?_) (fun z => absurd (show I1 0 7 ≤ nI i from by rw [e7]; exact Int32.le_refl _) z)
    exact hR I1 f hr
  | succ m ih =>
    intro i n I1 w hi hn f hr hw eV
    obtain ⟨n, rfl⟩ : ∃ n', n = n' + 1 := ⟨n - 1, by omega⟩
    have e7 : I1 0 7 = nI u := by rw [f 0 (by decide) (by decide)]; exact eu
    have ib : (nI i).toNatClampNeg = i := nI_clamp (by omega)
    obtain ⟨q3, q4⟩ := en i (by omega)
    have e3 : I1 3 (nI i).toNatClampNeg = dy i := by rw [ib, f 3 (by decide) (by decide)]; exact q3
    have e4 : I1 4 (nI i).toNatClampNeg = fe i := by rw [ib, f 4 (by decide) (by decide)]; exact q4
    have eV2 : (if dy i = day then (if fe i ≤ faR w 12 then unD dy fe day m (i + 1) (usN (-1) 12 w (fe i)) else (nI i, w)) else unD dy fe day m (i + 1) w) = V := eV
    refine xrun_step fun K hK => ?_
    refine And.intro (fun z => absurd (show I1 0 7 ≤ nI i from z) (by rw [e7]; exact nI_ge (by omega) (by omega))) (fun _ => ?_)
    refine And.intro (fun z => absurd (show nI 8 ≤ nI i from z) (nI_ge (by omega) (by omega))) (fun _ => ?_)
    refine And.intro (show vp_in (nI i) 8 from vp_in_nI (by omega) (by omega)) ?_
    refine And.intro (fun (z : ¬ I1 3 (nI i).toNatClampNeg = day) => ?_) (fun (z : I1 3 (nI i).toNatClampNeg = day) => ?_)
    · rw [e3] at z
      rw [if_neg z] at eV2
      refine hK 2 [some (.ref 0), some (.int day), some (.int (nI i + 1))] [] (shH ru ta rs) I1 J 0 0 ?_
      rw [nI_1]
      exact ih (i + 1) n I1 w (by omega) (by omega) f hr hw eV2
    · rw [e3] at z
      rw [if_pos z] at eV2
      refine And.intro (show vp_in (nI i) 8 from vp_in_nI (by omega) (by omega)) ?_
      refine (show xm l (d + 3) 0 0 mX10_takeFeet [.ref 28, .int (I1 4 (nI i).toNatClampNeg), .int (-1)] (shH ru ta rs) I1 J _ from ?_)
      rw [e4]
      refine cwg_tfV l d ru ta rs I1 J _ T w hr hw (fe i) (fun y I2 f2 r2 => ?_) (fun y => ?_)
      · rw [if_pos y] at eV2
        refine And.intro (fun _ => ?_) (fun z => absurd (show (1 : Int32) = 0 from z) (by decide))
        refine hK 2 [some (.ref 0), some (.int day), some (.int (nI i + 1))] [] (shH ru ta rs) I2 J 0 0 ?_
        rw [nI_1]
        exact ih (i + 1) n I2 _ (by omega) (by omega) (f.tr f2) r2 (us_V hw y).2.1 eV2
      · rw [if_neg y] at eV2
        subst eV2
        refine And.intro (fun z => absurd rfl z) (fun _ => ?_)
        exact hR I1 f hr
set_option maxRecDepth 100000 in
theorem cd_fu (l : Launch) (d : Nat) (ru ta : Nat) (rs : List XO) (I : XI) (J : XJ) (Rp : XR) (T : Nat) (dy fe : Nat → Int32) (u : Nat) (hu : u ≤ 8) (eu : I 0 7 = nI u) (en : ∀ i, i < u → I 3 i = dy i ∧ I 4 i = fe i) (w : Rw) (hr : RC T w (I 29)) (hw : WR w) (day : Int32) (hR : ∀ I' : XI, F24 29 I I' → RC T (unD dy fe day u 0 w).2 (I' 29) → Rp (some (.int (unD dy fe day u 0 w).1)) (shH ru ta rs) I' J) : xm l (d + 4) 0 0 mX11_firstUnmet [.ref 0, .int day] (shH ru ta rs) I J Rp := by
  refine xm_ofK 9 (X := xxX11) (t := tX11_firstUnmet) (stop := [2]) (ini := false) xx11 pl11 rfl kX11_firstUnmet (fun h => by cases h) (Nat.le_of_ble_eq_true rfl) (fun K hK => ?_)
  exact hK 2 [some (.ref 0), some (.int day), some (.int (nI 0))] [] _ _ _ _ _ (cd_fu_loop l d ru ta rs I J Rp T dy fe u hu eu en day _ hR u 0 9 I w (by omega) (by omega) F24.rf hr hw rfl)
abbrev unz (l : Launch) (d : Nat) (ru ta : Nat) (rs : List XO) (J : XJ) (Rp : XR) (n N i : Nat) (o : Option Value) (I : XI) : Prop := xrun xxX11 (some .int) false false (shH ru ta rs).length 0 0 none l (d + 5) tX11_unmet [28] Rp n 28 [some (.ref 0), some (.int (nI N)), some (.int (nI i)), o] [] (shH ru ta rs) I J 0 0
set_option maxRecDepth 100000 in
set_option maxHeartbeats 4000000 in
theorem cd_un_loop (l : Launch) (d : Nat) (ru ta : Nat) (rs : List XO) (I : XI) (Rp : XR) (Q : Tld) (L : Lws) (h : CE I ru Q L) (dy fe : Nat → Int32) (u : Nat) (hu : u ≤ 8) (eu : I 0 7 = nI u) (en : ∀ i, i < u → I 3 i = dy i ∧ I 4 i = fe i) (N : Nat) (hN : N ≤ 20) (V : Int32) (hR : ∀ (I' : XI) (J' : XJ), F24 29 I I' → Rp (some (.int V)) (shH ru ta rs) I' J') : ∀ (m i n : Nat) (J : XJ) (I1 : XI) (w : Rw) (o : Option Value), i + m = 10 * N → m < n → F24 29 I I1 → RC (qT Q) w (I1 29) → WR w → unC Q L dy fe u m w = V → unz l d ru ta rs J Rp n N i o I1 := by
  have t8 := h.2.1.1
  have em : nI N * nI 10 = nI (10 * N) := by rw [nI_mul, Nat.mul_comm]
  intro m
  induction m with
  | zero =>
    intro i n J I1 w o hi hn f hr hw eV
    obtain ⟨n, rfl⟩ : ∃ n', n = n' + 1 := ⟨n - 1, by omega⟩
    have eV : -1 = V := eV
    subst eV
    refine xrun_step fun K hK => ?_
    refine And.intro (fun _ => ?_) (fun z => absurd (show nI N * nI 10 ≤ nI i from by rw [em, show i = 10 * N by omega]; exact Int32.le_refl _) z)
    exact hR I1 J f
  | succ m ih =>
    intro i n J I1 w o hi hn f hr hw eV
    obtain ⟨n, rfl⟩ : ∃ n', n = n' + 1 := ⟨n - 1, by omega⟩
    have eV2 : (if cnP w = true then (if hrR Q L w 64 = 0 then (if (unH Q L dy fe u w).1 = -1 then unC Q L dy fe u m (unH Q L dy fe u w).2 else (unH Q L dy fe u w).1) else unC Q L dy fe u m (hrR Q L w)) else -1) = V := eV
    refine xrun_step fun K hK => ?_
    refine And.intro (fun z => absurd (show nI N * nI 10 ≤ nI i from z) (by rw [em]; exact nI_ge (by omega) (by omega))) (fun _ => ?_)
    refine cwg_passHour l d ru ta rs I1 J _ Q L (h.k29 f) w hr hw (fun hc I2 J2 f2 r2 => ?_) (fun hc => ?_)
    · rw [if_pos hc] at eV2
      have g2 := f.tr f2
      have w2 := hw.hr (L := L) t8 hc
      have e64 : I2 29 64 = hrR Q L w 64 := r2.hi (by decide) (by decide)
      have e65 : I2 29 65 = hrR Q L w 65 := r2.hi (by decide) (by decide)
      refine And.intro (fun _ => ?_) (fun z => absurd (show (1 : Int32) = 0 from z) (by decide))
      refine And.intro (show vp_in (nI 64) 69 from vp_b (by decide)) ?_
      refine And.intro (fun (z : ¬ I2 29 64 = 0) => ?_) (fun (z : I2 29 64 = 0) => ?_)
      · rw [e64] at z
        rw [if_neg z] at eV2
        refine And.intro (fun _ => ?_) (fun z => absurd rfl z)
        refine hK 28 [some (.ref 0), some (.int (nI N)), some (.int (nI i + 1)), some (.int (-1))] [] (shH ru ta rs) I2 J2 0 0 ?_
        rw [nI_1]
        exact ih (i + 1) n J2 I2 _ _ (by omega) (by omega) g2 r2 w2 eV2
      · rw [e64] at z
        rw [if_pos z] at eV2
        refine And.intro (show vp_in (nI 65) 69 from vp_b (by decide)) ?_
        refine (show xm l (d + 5) 0 0 mX11_firstUnmet [.ref 0, .int (I2 29 65)] (shH ru ta rs) I2 J2 _ from ?_)
        rw [e65]
        refine cd_fu l (d + 1) ru ta rs I2 J2 _ (qT Q) dy fe u hu (by rw [g2 0 (by decide) (by decide)]; exact eu) (fun q hq => by rw [g2 3 (by decide) (by decide), g2 4 (by decide) (by decide)]; exact en q hq) _ r2 w2 (hrR Q L w 65) (fun I3 f3 r3 => ?_)
        refine And.intro (fun (y : (unH Q L dy fe u w).1 = -1) => ?_) (fun (y : ¬ (unH Q L dy fe u w).1 = -1) => ?_)
        · rw [if_pos y] at eV2
          refine hK 28 [some (.ref 0), some (.int (nI N)), some (.int (nI i + 1)), some (.int (unH Q L dy fe u w).1)] [] (shH ru ta rs) I3 J2 0 0 ?_
          rw [nI_1]
          exact ih (i + 1) n J2 I3 _ _ (by omega) (by omega) (g2.tr f3) r3 (unD_ok u 0 _ w2).1 eV2
        · rw [if_neg y] at eV2
          have z := hR I3 J2 (g2.tr f3)
          rw [← eV2] at z
          exact z
    · rw [if_neg (by rw [hc]; decide)] at eV2
      subst eV2
      refine And.intro (fun z => absurd rfl z) (fun _ => ?_)
      exact hR I1 J f
set_option maxRecDepth 100000 in
set_option maxHeartbeats 2000000 in
theorem cd_unmet (l : Launch) (d : Nat) (ru ta : Nat) (rs : List XO) (I : XI) (J : XJ) (Rp : XR) (L : Lws) (A : Ast) (hA : AOK A) (h : CA I ru L A) (dy fe : Nat → Int32) (u : Nat) (hu : u ≤ 8) (eu : I 0 7 = nI u) (en : ∀ i, i < u → I 3 i = dy i ∧ I 4 i = fe i) (x : Int32) (hR : ∀ (I' : XI) (J' : XJ), F24 29 I I' → Rp (some (.int (unS L A dy fe u x))) (shH ru ta rs) I' J') : xm l (d + 6) 0 0 mX11_unmet [.ref 0, .int x] (shH ru ta rs) I J Rp := by
  refine xm_ofK 201 (X := xxX11) (t := tX11_unmet) (stop := [28]) (ini := false) xx11 pl11 rfl kX11_unmet (fun h => by cases h) (Nat.le_of_ble_eq_true rfl) (fun K hK => ?_)
  refine cd_in l (d + 4) x 1 20 _ _ _ _ (fun hx => ?_) (fun hx => ?_)
  · refine And.intro (fun _ => ?_) (fun z => absurd (show (1 : Int32) = 0 from z) (by decide))
    obtain ⟨k, _, k9, ex, ex2⟩ := rIn_t (by omega) (by omega) hx
    have eS : unS L A dy fe u x = unC (oQ A) L dy fe u (10 * k) (oW A) := by
      unfold unS
      rw [hx, ex2]
      rfl
    rw [eS] at hR
    subst ex
    refine cwg_take l (d + 4) ru ta rs I J _ (fun I1 f1 e1 => ?_)
    have f : F24 29 I I1 := fun q _ b => f1 q b
    exact hK 28 [some (.ref 0), some (.int (nI k)), some (.int (nI 0)), none] [] _ _ _ _ _ (cd_un_loop l d ru ta rs I Rp (oQ A) L h.1 dy fe u hu eu en k k9 _ hR (10 * k) 0 201 J I1 (oW A) none (by omega) (by omega) f (h.2.1.cg (fun _ _ => rfl) e1) hA.2.1 rfl)
  · refine And.intro (fun z => absurd rfl z) (fun _ => ?_)
    have z := hR I J F24.rf
    unfold unS at z
    rw [hx] at z
    exact z
-- the reference
abbrev fuq (l : Launch) (d : Nat) (ru ta : Nat) (rs : List XO) (J : XJ) (Rp : XR) (n i : Nat) (o : Option Value) (I : XI) : Prop := xrun xxX12 (some .int) false false (shH ru ta rs).length 0 0 none l (d + 3) tX12_unmetToday [2] Rp n 2 [some (.ref 67), some (.int (nI i)), o] [] (shH ru ta rs) I J 0 0
set_option maxRecDepth 100000 in
set_option maxHeartbeats 2000000 in
theorem md_fu_loop (l : Launch) (d : Nat) (ru ta : Nat) (rs : List XO) (I : XI) (J : XJ) (Rp : XR) (dy fe : Nat → Int32) (u : Nat) (hu : u ≤ 8) (eu : I 68 6 = nI u) (en : ∀ i, i < u → I 68 (42 + 2 * i) = dy i ∧ I 68 (43 + 2 * i) = fe i) (day : Int32) (V : Int32 × Rw) (hR : ∀ I' : XI, F93 I I' → I' 93 = V.2 → Rp (some (.int V.1)) (shH ru ta rs) I' J) : ∀ (m i n : Nat) (I1 : XI) (w : Rw) (o : Option Value), i + m = u → m < n → F93 I I1 → I1 93 = w → w 65 = day → WR w → unD dy fe day m i w = V → fuq l d ru ta rs J Rp n i o I1 := by
  intro m
  induction m with
  | zero =>
    intro i n I1 w o hi hn f ew ed hw eV
    obtain ⟨n, rfl⟩ : ∃ n', n = n' + 1 := ⟨n - 1, by omega⟩
    have hi : i = u := by omega
    have eV : (-1, w) = V := eV
    subst eV
    have e7 : I1 68 6 = nI i := by rw [f 68 (by decide) (by decide), hi]; exact eu
    refine xrun_step fun K hK => ?_
    refine And.intro (show vp_in (nI 6) 2200 from vp_b (by decide)) ?_
    refine And.intro (fun _ => ?_) (fun z => absurd (show I1 68 6 ≤ nI i from by rw [e7]; exact Int32.le_refl _) z)
    exact hR I1 f ew
  | succ m ih =>
    intro i n I1 w o hi hn f ew ed hw eV
    obtain ⟨n, rfl⟩ : ∃ n', n = n' + 1 := ⟨n - 1, by omega⟩
    have e7 : I1 68 6 = nI u := by rw [f 68 (by decide) (by decide)]; exact eu
    have a1 : nI 42 + nI 2 * nI i = nI (42 + 2 * i) := by rw [nI_mul, nI_add]
    have a2 : nI 42 + nI 2 * nI i + nI 1 = nI (43 + 2 * i) := by rw [a1, nI_add, show 42 + 2 * i + 1 = 43 + 2 * i by omega]
    obtain ⟨q3, q4⟩ := en i (by omega)
    have e3 : I1 68 (nI 42 + nI 2 * nI i).toNatClampNeg = dy i := by rw [a1, nI_clamp (by omega), f 68 (by decide) (by decide)]; exact q3
    have e4 : I1 68 (nI 42 + nI 2 * nI i + nI 1).toNatClampNeg = fe i := by rw [a2, nI_clamp (by omega), f 68 (by decide) (by decide)]; exact q4
    have e65 : I1 93 65 = day := by rw [ew]; exact ed
    have eV2 : (if dy i = day then (if fe i ≤ faR w 12 then unD dy fe day m (i + 1) (usN (-1) 12 w (fe i)) else (nI i, w)) else unD dy fe day m (i + 1) w) = V := eV
    refine xrun_step fun K hK => ?_
    refine And.intro (show vp_in (nI 6) 2200 from vp_b (by decide)) ?_
    refine And.intro (fun z => absurd (show I1 68 6 ≤ nI i from z) (by rw [e7]; exact nI_ge (by omega) (by omega))) (fun _ => ?_)
    refine And.intro (show vp_in (nI 42 + nI 2 * nI i) 2200 from vp_k a1 (by omega) (by omega)) ?_
    refine And.intro (show vp_in (nI 65) 69 from vp_b (by decide)) ?_
    refine And.intro (fun (z : ¬ I1 68 (nI 42 + nI 2 * nI i).toNatClampNeg = I1 93 65) => ?_) (fun (z : I1 68 (nI 42 + nI 2 * nI i).toNatClampNeg = I1 93 65) => ?_)
    · rw [e3, e65] at z
      rw [if_neg z] at eV2
      refine hK 2 [some (.ref 67), some (.int (nI i + 1)), o] [] (shH ru ta rs) I1 J 0 0 ?_
      rw [nI_1]
      exact ih (i + 1) n I1 w _ (by omega) (by omega) f ew ed hw eV2
    · rw [e3, e65] at z
      rw [if_pos z] at eV2
      refine And.intro (show vp_in (nI 42 + nI 2 * nI i + nI 1) 2200 from vp_k a2 (by omega) (by omega)) ?_
      refine rx_feetAll l (d + 2) ru ta rs I1 J _ ?_
      refine And.intro (fun (y : I1 68 (nI 42 + nI 2 * nI i + nI 1).toNatClampNeg ≤ faR (I1 93) 12) => ?_) (fun (y : ¬ I1 68 (nI 42 + nI 2 * nI i + nI 1).toNatClampNeg ≤ faR (I1 93) 12) => ?_)
      · rw [e4, ew] at y
        rw [if_pos y] at eV2
        obtain ⟨g1, g2, g3⟩ := us_V hw y
        have nx : ∀ I2 : XI, F93 I1 I2 → I2 93 = usN (-1) 12 w (fe i) → ∀ o : Option Value, fuq l d ru ta rs J Rp n (i + 1) o I2 := fun I2 f2 e2 o => ih (i + 1) n I2 _ o (by omega) (by omega) (f.tr f2) e2 ((g3 65 (by decide)).trans ed) g2 eV2
        refine (show xm l (d + 3) 0 0 mX12_usesNow [.ref 67, .int (I1 68 (nI 42 + nI 2 * nI i + nI 1).toNatClampNeg), .int (-1)] (shH ru ta rs) I1 J _ from ?_)
        refine rx_uses l d ru ta rs I1 J _ _ (-1) (by rw [e4, ew]; exact g1) (fun I2 f2 e2 => ?_)
        rw [e4, ew] at e2
        refine hK 2 [some (.ref 67), some (.int (nI i + 1)), some (.int (I1 68 (nI 42 + nI 2 * nI i + nI 1).toNatClampNeg))] [] (shH ru ta rs) I2 J 0 0 ?_
        rw [nI_1]
        exact nx I2 f2 e2 _
      · rw [e4, ew] at y
        rw [if_neg y] at eV2
        subst eV2
        exact hR I1 f ew
set_option maxRecDepth 100000 in
theorem md_fu (l : Launch) (d : Nat) (ru ta : Nat) (rs : List XO) (I : XI) (J : XJ) (Rp : XR) (dy fe : Nat → Int32) (u : Nat) (hu : u ≤ 8) (eu : I 68 6 = nI u) (en : ∀ i, i < u → I 68 (42 + 2 * i) = dy i ∧ I 68 (43 + 2 * i) = fe i) (w : Rw) (ew : I 93 = w) (hw : WR w) (hR : ∀ I' : XI, F93 I I' → I' 93 = (unD dy fe (w 65) u 0 w).2 → Rp (some (.int (unD dy fe (w 65) u 0 w).1)) (shH ru ta rs) I' J) : xm l (d + 4) 0 0 mX12_unmetToday [.ref 67] (shH ru ta rs) I J Rp := by
  refine xm_ofK 9 (X := xxX12) (t := tX12_unmetToday) (stop := [2]) (ini := false) xx12 pl12 rfl kX12_unmetToday (fun h => by cases h) (Nat.le_of_ble_eq_true rfl) (fun K hK => ?_)
  exact hK 2 [some (.ref 67), some (.int (nI 0)), none] [] _ _ _ _ _ (md_fu_loop l d ru ta rs I J Rp dy fe u hu eu en (w 65) _ hR u 0 9 I w none (by omega) (by omega) F93.rf ew rfl hw rfl)
abbrev unq (l : Launch) (d : Nat) (ru ta : Nat) (rs : List XO) (J : XJ) (Rp : XR) (n N i : Nat) (o : Option Value) (I : XI) : Prop := xrun xxX12 (some .int) false false (shH ru ta rs).length 0 0 none l (d + 12) tX12_unmet [18] Rp n 18 [some (.ref 67), some (.int (nI N)), some (.int (nI i)), o] [] (shH ru ta rs) I J 0 0
set_option maxRecDepth 100000 in
set_option maxHeartbeats 4000000 in
theorem md_un_loop (l : Launch) (d : Nat) (ru ta : Nat) (rs : List XO) (I : XI) (Rp : XR) (Q : Tld) (L : Lws) (h : RE I Q L) (dy fe : Nat → Int32) (u : Nat) (hu : u ≤ 8) (eu : I 68 6 = nI u) (en : ∀ i, i < u → I 68 (42 + 2 * i) = dy i ∧ I 68 (43 + 2 * i) = fe i) (N : Nat) (hN : N ≤ 20) (V : Int32) (hR : ∀ (I' : XI) (J' : XJ), F93 I I' → WR (I' 93) → Rp (some (.int V)) (shH ru ta rs) I' J') : ∀ (m r i n : Nat) (J : XJ) (I1 : XI) (w : Rw) (o : Option Value), i + r = N → m < n → 10 * r ≤ m + nW w 64 → m + nW w 64 ≤ 10 * r + 9 → F93 I I1 → I1 93 = w → WR w → unC Q L dy fe u m w = V → unq l d ru ta rs J Rp n N i o I1 := by
  have t8 := h.1.2.1
  intro m
  induction m with
  | zero =>
    intro r i n J I1 w o hi hn h1 h2 f ew hw eV
    obtain ⟨n, rfl⟩ : ∃ n', n = n' + 1 := ⟨n - 1, by omega⟩
    have k9 := (hw 64 (by decide) (by decide)).nw.2
    have b9 : bdW 64 = 9 := by decide
    have k9 : nW w 64 ≤ 9 := by rw [← b9]; exact k9
    have eV : -1 = V := eV
    subst eV
    refine xrun_step fun K hK => ?_
    refine And.intro (fun _ => ?_) (fun z => absurd (show nI N ≤ nI i from by rw [show i = N by omega]; exact Int32.le_refl _) z)
    exact hR I1 J f (by rw [ew]; exact hw)
  | succ m ih =>
    intro r i n J I1 w o hi hn h1 h2 f ew hw eV
    obtain ⟨n, rfl⟩ : ∃ n', n = n' + 1 := ⟨n - 1, by omega⟩
    have e := (hw 64 (by decide) (by decide)).nw
    have b9 : bdW 64 = 9 := by decide
    have k9 : nW w 64 ≤ 9 := by rw [← b9]; exact e.2
    have wr1 : WR (I1 93) := by rw [ew]; exact hw
    rcases Nat.eq_zero_or_pos r with r0 | rp
    · have eV : -1 = V := (unC_0 t8 (m + 1) w hw (by omega)).symm.trans eV
      subst eV
      refine xrun_step fun K hK => ?_
      refine And.intro (fun _ => ?_) (fun z => absurd (show nI N ≤ nI i from by rw [show i = N by omega]; exact Int32.le_refl _) z)
      exact hR I1 J f wr1
    · have eV2 : (if cnP w = true then (if hrR Q L w 64 = 0 then (if (unH Q L dy fe u w).1 = -1 then unC Q L dy fe u m (unH Q L dy fe u w).2 else (unH Q L dy fe u w).1) else unC Q L dy fe u m (hrR Q L w)) else -1) = V := eV
      refine xrun_step fun K hK => ?_
      refine And.intro (fun z => absurd (show nI N ≤ nI i from z) (nI_ge (by omega) (by omega))) (fun _ => ?_)
      refine rx_canPass l (d + 11) ru ta rs I1 J _ (fun hc => ?_) (fun hc => ?_)
      · have hc1 := hc
        rw [ew] at hc
        rw [if_pos hc] at eV2
        have w2 := hw.hr (L := L) t8 hc
        refine And.intro (fun z => absurd (show (1 : Int32) = 0 from z) (by decide)) (fun _ => ?_)
        refine rx_hourP l d ru ta rs I1 J _ Q L (h.keep f) (fun e => wr1.w0 hc1 e) (fun I2 J2 f2 e2 => ?_)
        rw [ew] at e2
        have g2 := f.tr f2
        have e64 : I2 93 64 = hrR Q L w 64 := by rw [e2]
        refine And.intro (show vp_in (nI 64) 69 from vp_b (by decide)) ?_
        refine And.intro (fun (z : ¬ I2 93 64 = 0) => ?_) (fun (z : I2 93 64 = 0) => ?_)
        · rw [e64] at z
          rw [if_neg z] at eV2
          have ne : ¬ w 64 + nI 1 = nI 10 := fun q => z ((hrR_64 t8).1 q)
          have e3 : hrR Q L w 64 = nI (nW w 64 + 1) := by
            rw [(hrR_64 t8).2 ne, e.1, nI_add]
          have e4 : nW (hrR Q L w) 64 = nW w 64 + 1 := by
            show (hrR Q L w 64).toNatClampNeg = _
            rw [e3, nI_clamp (by omega)]
          refine hK 18 [some (.ref 67), some (.int (nI N)), some (.int (nI i)), o] [] (shH ru ta rs) I2 J2 0 0 ?_
          exact ih r i n J2 I2 _ _ hi (by omega) (by rw [e4]; omega) (by rw [e4]; omega) g2 e2 w2 eV2
        · rw [e64] at z
          rw [if_pos z] at eV2
          have h9 : nW w 64 = 9 := by
            by_cases c : w 64 + nI 1 = nI 10
            · rw [e.1, nI_add] at c
              have := nI_inj c (by have := e.2; omega) (by omega)
              unfold nW at this ⊢
              omega
            · have y := (hrR_64 (L := L) t8).2 c
              rw [z, e.1, nI_add] at y
              have := nI_inj (a := 0) y (by omega) (by have := e.2; omega)
              omega
          obtain ⟨u1, u2⟩ := unD_ok (dy := dy) (fe := fe) (day := hrR Q L w 65) u 0 _ w2
          have e4 : nW (unH Q L dy fe u w).2 64 = 0 := by
            show ((unH Q L dy fe u w).2 64).toNatClampNeg = 0
            have y : (unH Q L dy fe u w).2 64 = 0 := (u2 64 (by decide)).trans z
            rw [y]
            rfl
          refine md_fu l (d + 8) ru ta rs I2 J2 _ dy fe u hu (by rw [g2 68 (by decide) (by decide)]; exact eu) (fun q hq => by rw [g2 68 (by decide) (by decide)]; exact en q hq) _ e2 w2 (fun I3 f3 e3 => ?_)
          refine And.intro (fun (y : (unH Q L dy fe u w).1 = -1) => ?_) (fun (y : ¬ (unH Q L dy fe u w).1 = -1) => ?_)
          · rw [if_pos y] at eV2
            refine hK 18 [some (.ref 67), some (.int (nI N)), some (.int (nI i + 1)), some (.int (unH Q L dy fe u w).1)] [] (shH ru ta rs) I3 J2 0 0 ?_
            rw [nI_1]
            exact ih (r - 1) (i + 1) n J2 I3 _ _ (by omega) (by omega) (by have y : nW (unD dy fe (hrR Q L w 65) u 0 (hrR Q L w)).2 64 = 0 := e4; rw [y]; omega) (by have y : nW (unD dy fe (hrR Q L w 65) u 0 (hrR Q L w)).2 64 = 0 := e4; rw [y]; omega) (g2.tr f3) e3 u1 eV2
          · rw [if_neg y] at eV2
            have z := hR I3 J2 (g2.tr f3) (by rw [e3]; exact u1)
            rw [← eV2] at z
            exact z
      · rw [ew] at hc
        rw [if_neg (by rw [hc]; decide)] at eV2
        subst eV2
        refine And.intro (fun _ => ?_) (fun z => absurd rfl z)
        exact hR I1 J f wr1
set_option maxRecDepth 100000 in
set_option maxHeartbeats 2000000 in
theorem md_unmet (l : Launch) (d : Nat) (ru ta : Nat) (rs : List XO) (I : XI) (J : XJ) (Rp : XR) (L : Lws) (A : Ast) (hA : AOK A) (h : MA I L A) (dy fe : Nat → Int32) (u : Nat) (hu : u ≤ 8) (eu : I 68 6 = nI u) (en : ∀ i, i < u → I 68 (42 + 2 * i) = dy i ∧ I 68 (43 + 2 * i) = fe i) (x : Int32) (hR : ∀ (I' : XI) (J' : XJ), FQ I I' → Rp (some (.int (unS L A dy fe u x))) (shH ru ta rs) I' J') : xm l (d + 13) 0 0 mX12_unmet [.ref 67, .int x] (shH ru ta rs) I J Rp := by
  obtain ⟨hre, hlay, hs⟩ := h
  have e := (hA.2.1 64 (by decide) (by decide)).nw
  have b9 : bdW 64 = 9 := by decide
  have k9 : nW (oW A) 64 ≤ 9 := by rw [← b9]; exact e.2
  refine xm_ofK 201 (X := xxX12) (t := tX12_unmet) (stop := [18]) (ini := false) xx12 pl12 rfl kX12_unmet (fun h => by cases h) (Nat.le_of_ble_eq_true rfl) (fun K hK => ?_)
  refine md_inR l (d + 11) x 1 20 _ _ _ _ (fun hx => ?_) (fun hx => ?_)
  · refine And.intro (fun _ => ?_) (fun z => absurd (show (1 : Int32) = 0 from z) (by decide))
    obtain ⟨k, _, k20, ex, ex2⟩ := rIn_t (by omega) (by omega) hx
    have eS : unS L A dy fe u x = unC (oQ A) L dy fe u (10 * k) (oW A) := by
      unfold unS
      rw [hx, ex2]
      rfl
    rw [eS] at hR
    subst ex
    refine rx_lays l (d + 11) ru ta rs I J _ (fun I1 f1 e1 => ?_)
    rw [hlay] at e1
    exact hK 18 [some (.ref 67), some (.int (nI k)), some (.int (nI 0)), none] [] _ _ _ _ _ (md_un_loop l d ru ta rs I Rp (oQ A) L hre dy fe u hu eu en k k20 _ (fun I2 J2 f2 w2 => hR I2 J2 (FQ.w f2 w2)) (10 * k) k 0 201 J I1 (oW A) none (by omega) (by omega) (by omega) (by omega) f1 e1 hA.2.1 rfl)
  · refine And.intro (fun z => absurd rfl z) (fun _ => ?_)
    have z := hR I J FQ.rf
    unfold unS at z
    rw [hx] at z
    exact z

