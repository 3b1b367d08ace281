-- ===== the class: feet used, bales moved and sold, hours, decades =====
def mvOK (Q : Tld) (w : Rw) (b bn : Nat) : Bool := decide (0 < w (28 + b)) && !(decide (w (52 + b) = nI bn)) && isR Q w bn (w (28 + b))
theorem fe_n {w : Rw} (hw : WR w) (bn : Int32) : (¬ bn = -1 → feR w bn 12 = nI (smF (fjN w bn) 12)) ∧ (bn = -1 → faR w 12 = nI (smF (fjN w bn) 12)) := ⟨fun h => feR_n hw h 12 (Nat.le_refl _), fun h => by rw [h]; exact faR_n hw 12 (Nat.le_refl _)⟩
theorem mn_n {a b : Nat} (ha : a < 2 ^ 31) (hb : b < 2 ^ 31) : (if nI b < nI a then nI b else nI a) = nI (if a < b then a else b) := by
  by_cases c : b < a
  · rw [if_pos ((nlt hb ha).mpr c), if_neg (by omega)]
  · rw [if_neg (fun z => c ((nlt hb ha).mp z))]
    by_cases e : a < b
    · rw [if_pos e]
    · rw [if_neg e]
      congr 1
      omega
theorem hr0_c (w : Rw) : hr0 w = upd (upd (upd (upd (upd w 12 (nI 0)) 13 (nI 0)) 14 (nI 0)) 15 (nI 0)) 64 (w 64 + nI 1) := by
  funext k
  unfold hr0
  by_cases e1 : k = 64
  · subst e1
    rfl
  · rw [upd_n e1 (f := upd (upd (upd (upd w 12 (nI 0)) 13 (nI 0)) 14 (nI 0)) 15 (nI 0))]
    by_cases e2 : k = 15
    · subst e2
      rfl
    rw [upd_n e2, upd_n e2]
    by_cases e3 : k = 14
    · subst e3
      rfl
    rw [upd_n e3, upd_n e3]
    by_cases e4 : k = 13
    · subst e4
      rfl
    rw [upd_n e4, upd_n e4]
    by_cases e5 : k = 12
    · subst e5
      rfl
    rw [upd_n e5, upd_n e5, upd_n e1]
theorem RC.h0 {T : Nat} {w c : Rw} (h : RC T w c) {v : Int32} (e : v = w 64 + nI 1) : RC T (hr0 w) (upd (upd (upd (upd (upd c 12 (nI 0)) 13 (nI 0)) 14 (nI 0)) 15 (nI 0)) 64 v) := by
  rw [hr0_c, e]
  exact ((((h.uh (r := 0) (by decide) _).uh (r := 1) (by decide) _).uh (r := 2) (by decide) _).uh (r := 3) (by decide) _).uk (by decide) _
/-- a bale spoils: both orders -/
theorem RC.spo {T : Nat} {w c c1 : Rw} (hw : WR w) (h : RC T w c) {b s : Nat} (hb : b < 12) (hp : 0 < w (28 + b)) (hs : s ≤ 999) (h1 : RC T (shR w b (nI s)) c1) : RC T (shR (upd w (40 + b) (ltR (nI 99) (w (40 + b) + nI 1))) b (nI s)) (upd c1 (40 + b) (if c1 (40 + b) + nI 1 < nI 99 then c1 (40 + b) + nI 1 else nI 99)) := by
  obtain ⟨a, ea, ha⟩ := hw.len hb
  have e2 : upd w (40 + b) (ltR (nI 99) (w (40 + b) + nI 1)) (28 + b) = nI a := by
    rw [upd_n (by omega)]
    exact ea
  rw [shR_eq e2 ha (by omega)]
  rw [shR_eq ea ha (by omega)] at h1
  have d := (hw (40 + b) (by omega) (by omega)).nw
  rw [bd_5 (by omega) (by omega)] at d
  by_cases k : s < a
  · rw [if_pos k] at h1 ⊢
    have hl : 0 < upd w (28 + b) (nI (a - s)) (28 + b) := by
      rw [upd_s]
      exact (npos (by omega)).mpr (by omega)
    have e40 : c1 (40 + b) = w (40 + b) := by
      rw [((h1.2.2.1 b hb).2 hl).2.1, upd_n (by omega)]
    have ev : (if c1 (40 + b) + nI 1 < nI 99 then c1 (40 + b) + nI 1 else nI 99) = ltR (nI 99) (w (40 + b) + nI 1) := by
      rw [e40, d.1, nI_add, ltR_n (by omega) (by omega)]
      exact mn_n (by omega) (by omega)
    rw [ev]
    refine (h1.ud hb (ltR (nI 99) (w (40 + b) + nI 1))).cg (fun i _ => ?_) (fun _ _ => rfl)
    by_cases z : i = 28 + b
    · subst z
      rw [upd_s, upd_n (by omega), upd_s]
    · rw [upd_n z]
      by_cases y : i = 40 + b
      · subst y
        rw [upd_s, upd_s]
      · rw [upd_n y, upd_n y, upd_n z]
  · rw [if_neg k] at h1 ⊢
    have hz : ¬ 0 < baI (upd w (28 + b) (nI a - nI s)) b (nI 0) (nI 0) (nI 0) (28 + b) := by
      rw [(ba_v hb).2.1]
      decide
    refine (h1.ud0 hb hz _).cg (fun i _ => ?_) (fun _ _ => rfl)
    have v1 := ba_v (w := upd (upd w (40 + b) (ltR (nI 99) (w (40 + b) + nI 1))) (28 + b) (nI a - nI s)) (kd := nI 0) (len := nI 0) (bn := nI 0) hb
    have v2 := ba_v (w := upd w (28 + b) (nI a - nI s)) (kd := nI 0) (len := nI 0) (bn := nI 0) hb
    by_cases z1 : i = 16 + b
    · rw [z1, v1.1, v2.1]
    by_cases z2 : i = 28 + b
    · rw [z2, v1.2.1, v2.2.1]
    by_cases z3 : i = 40 + b
    · rw [z3, v1.2.2.1, v2.2.2.1]
    by_cases z4 : i = 52 + b
    · rw [z4, v1.2.2.2, v2.2.2.2]
    rw [ba_o z1 z2 z3 z4, ba_o z1 z2 z3 z4, upd_n z2, upd_n z3, upd_n z2]
def hlN (w : Rw) : Nat := (999 - nW w 65) * 10 + 9 - nW w 64
theorem hl_c {w : Rw} (hw : WR w) : (0 < hlN w ↔ cnP w = true) ∧ hlN w ≤ 9999 ∧ nI 999 - w 65 = nI (999 - nW w 65) ∧ (nI (999 - nW w 65) * nI 10 + nI 10 - nI 1 - w 64) = nI (hlN w) := by
  have a := (hw 65 (by decide) (by decide)).nw
  have b := (hw 64 (by decide) (by decide)).nw
  have b9 : bdW 64 = 9 := by decide
  have b99 : bdW 65 = 999 := by decide
  unfold hlN
  refine ⟨?_, by omega, ?_, ?_⟩
  · unfold cnP
    rw [a.1, b.1, Bool.or_eq_true, decide_eq_true_iff, decide_eq_true_iff, nlt (by omega) (by omega), nlt (by omega) (by omega)]
    omega
  · rw [a.1, nI_subI (by omega) (by omega)]
  · rw [b.1, nI_mul, nI_add, nI_subI (by omega) (by omega), nI_subI (by omega) (by omega)]
    congr 1
set_option maxRecDepth 100000 in
set_option maxHeartbeats 4000000 in
theorem cw_dark_loop (l : Launch) (d : Nat) (ru ta : Nat) (rs : List XO) (I : XI) (J : XJ) (Rp : XR) (T : Nat) (w : Rw) (hr : RC T w (I 27)) (hw : WR w) (bn : Int32) (hR : Rp (some (.int (bI (dkN w bn 12)))) (shH ru ta rs) I J) : ∀ (m k n : Nat) (o4 : Option Value), k + m = 12 → m < n → xrun xxX10 (some .int) false false (shH ru ta rs).length 0 0 none l (d + 1) tX10_darkest [4] Rp n 4 [some (.ref 26), some (.int bn), some (.int (bI (dkN w bn k))), some (.int (nI k)), o4] [] (shH ru ta rs) I J 0 0 := by
  intro m
  induction m with
  | zero =>
    intro k n o4 hk hn
    obtain ⟨n, rfl⟩ : ∃ n', n = n' + 1 := ⟨n - 1, by omega⟩
    have hk : k = 12 := by omega
    subst hk
    refine xrun_step fun K hK => ?_
    refine And.intro (fun _ => ?_) (fun z => absurd (Int32.le_refl _) z)
    exact hR
  | succ m ih =>
    intro k n o4 hk hn
    obtain ⟨n, rfl⟩ : ∃ n', n = n' + 1 := ⟨n - 1, by omega⟩
    have hd := dkN_le w bn k (by omega)
    have ix0 : ((nI 40) + (nI k)).toNatClampNeg = 40 + k := by rw [show (nI 40) + (nI k) = nI (40 + k) by simp only [nI_add, nI_mul, Nat.zero_add]]; exact nI_clamp (by omega)
    have ix1 : ((nI 52) + (nI k)).toNatClampNeg = 52 + k := by rw [show (nI 52) + (nI k) = nI (52 + k) by simp only [nI_add, nI_mul, Nat.zero_add]]; exact nI_clamp (by omega)
    refine xrun_step fun K hK => ?_
    refine And.intro (fun z => absurd (show nI 12 ≤ nI k from z) (nI_ge (by omega) (by omega))) (fun _ => ?_)
    refine cw_hasBale l d ru ta rs I J _ _ w hr hw (nI k) (fun b hb e hp => ?_) (fun hn => ?_)
    · have eb := nI_inj e (by omega) (by omega)
      subst eb
      have q := (hr.2.2.1 k hb).2 hp
      refine And.intro (fun z => absurd (show (1 : Int32) = 0 from z) (by decide)) (fun _ => ?_)
      refine And.intro (fun (h20 : bn = (-1)) => ?_) (fun (h20 : ¬ (bn = (-1))) => ?_)
      · refine And.intro (fun z => absurd (show nI 1 = 0 from z) (by decide)) (fun _ => ?_)
        refine And.intro (fun (h50 : bI (dkN w bn k) = (-1)) => ?_) (fun (h50 : ¬ (bI (dkN w bn k) = (-1))) => ?_)
        · replace h50 : dkN w bn k = 12 := (bI_n hd.1).mp h50
          refine hK 4 [some (.ref 26), some (.int bn), some (.int (nI k)), some (.int ((nI k) + 1)), some (.int (nI 1))] [] (shH ru ta rs) I J 0 0 ?_
          have e : dkN w bn (k + 1) = k := if_pos ⟨hp, Or.inl h20, Or.inl h50⟩
          rw [nI_1, show nI k = bI (dkN w bn (k + 1)) from by rw [e, bI_b (by omega)]]
          exact ih (k + 1) n _ (by omega) (by omega)
        · replace h50 : ¬ dkN w bn k = 12 := fun z => h50 ((bI_n hd.1).mpr z)
          have ed : bI (dkN w bn k) = nI (dkN w bn k) := bI_b (by omega)
          have ixd : (nI 40 + bI (dkN w bn k)).toNatClampNeg = 40 + dkN w bn k := by rw [ed]; exact ix_c (by omega)
          have vd : vp_in (nI 40 + bI (dkN w bn k)) 69 := by rw [ed]; exact vx_2 (by omega) (by omega)
          have sd := (dkN_s w bn k (by omega) (by omega)).1
          have qd := ((hr.2.2.1 (dkN w bn k) (by omega)).2 sd).2.1
          refine And.intro (show vp_in ((nI 40) + (nI k)) 69 from vx_2 (by omega) (by omega)) ?_
          refine And.intro (show vp_in ((nI 40) + (bI (dkN w bn k))) 69 from vd) ?_
          refine And.intro (fun (h71 : I 27 ((nI 40) + (nI k)).toNatClampNeg ≤ I 27 ((nI 40) + (bI (dkN w bn k))).toNatClampNeg) => ?_) (fun (h71 : ¬ (I 27 ((nI 40) + (nI k)).toNatClampNeg ≤ I 27 ((nI 40) + (bI (dkN w bn k))).toNatClampNeg)) => ?_)
          · replace h71 : I 27 (40 + k) ≤ I 27 ((nI 40) + (bI (dkN w bn k))).toNatClampNeg := by simpa only [ix0, ix1, uI_rd] using h71
            rw [ixd, qd, q.2.1] at h71
            replace h71 : ¬ w (40 + dkN w bn k) < w (40 + k) := Int32.not_lt.mpr h71
            refine hK 4 [some (.ref 26), some (.int bn), some (.int (bI (dkN w bn k))), some (.int ((nI k) + 1)), some (.int (nI 1))] [] (shH ru ta rs) I J 0 0 ?_
            have e : dkN w bn (k + 1) = dkN w bn k := if_neg (fun z => z.2.2.elim h50 h71)
            rw [nI_1, ← e]
            exact ih (k + 1) n _ (by omega) (by omega)
          · replace h71 : ¬ (I 27 (40 + k) ≤ I 27 ((nI 40) + (bI (dkN w bn k))).toNatClampNeg) := by simpa only [ix0, ix1, uI_rd] using h71
            rw [ixd, qd, q.2.1] at h71
            replace h71 : w (40 + dkN w bn k) < w (40 + k) := Int32.not_le.mp h71
            refine hK 4 [some (.ref 26), some (.int bn), some (.int (nI k)), some (.int ((nI k) + 1)), some (.int (nI 1))] [] (shH ru ta rs) I J 0 0 ?_
            have e : dkN w bn (k + 1) = k := if_pos ⟨hp, Or.inl h20, Or.inr h71⟩
            rw [nI_1, show nI k = bI (dkN w bn (k + 1)) from by rw [e, bI_b (by omega)]]
            exact ih (k + 1) n _ (by omega) (by omega)
      · refine And.intro (show vp_in ((nI 52) + (nI k)) 69 from vx_2 (by omega) (by omega)) ?_
        refine And.intro (fun (h33 : ¬ (I 27 ((nI 52) + (nI k)).toNatClampNeg = bn)) => ?_) (fun (h33 : I 27 ((nI 52) + (nI k)).toNatClampNeg = bn) => ?_)
        · replace h33 : ¬ (I 27 (52 + k) = bn) := by simpa only [ix0, ix1, uI_rd] using h33
          rw [q.2.2] at h33
          refine And.intro (fun _ => ?_) (fun z => absurd (show nI 0 = 0 from rfl) z)
          refine hK 4 [some (.ref 26), some (.int bn), some (.int (bI (dkN w bn k))), some (.int ((nI k) + 1)), some (.int (nI 0))] [] (shH ru ta rs) I J 0 0 ?_
          have e : dkN w bn (k + 1) = dkN w bn k := if_neg (fun z => z.2.1.elim h20 h33)
          rw [nI_1, ← e]
          exact ih (k + 1) n _ (by omega) (by omega)
        · replace h33 : I 27 (52 + k) = bn := by simpa only [ix0, ix1, uI_rd] using h33
          rw [q.2.2] at h33
          refine And.intro (fun z => absurd (show nI 1 = 0 from z) (by decide)) (fun _ => ?_)
          refine And.intro (fun (h50 : bI (dkN w bn k) = (-1)) => ?_) (fun (h50 : ¬ (bI (dkN w bn k) = (-1))) => ?_)
          · replace h50 : dkN w bn k = 12 := (bI_n hd.1).mp h50
            refine hK 4 [some (.ref 26), some (.int bn), some (.int (nI k)), some (.int ((nI k) + 1)), some (.int (nI 1))] [] (shH ru ta rs) I J 0 0 ?_
            have e : dkN w bn (k + 1) = k := if_pos ⟨hp, Or.inr h33, Or.inl h50⟩
            rw [nI_1, show nI k = bI (dkN w bn (k + 1)) from by rw [e, bI_b (by omega)]]
            exact ih (k + 1) n _ (by omega) (by omega)
          · replace h50 : ¬ dkN w bn k = 12 := fun z => h50 ((bI_n hd.1).mpr z)
            have ed : bI (dkN w bn k) = nI (dkN w bn k) := bI_b (by omega)
            have ixd : (nI 40 + bI (dkN w bn k)).toNatClampNeg = 40 + dkN w bn k := by rw [ed]; exact ix_c (by omega)
            have vd : vp_in (nI 40 + bI (dkN w bn k)) 69 := by rw [ed]; exact vx_2 (by omega) (by omega)
            have sd := (dkN_s w bn k (by omega) (by omega)).1
            have qd := ((hr.2.2.1 (dkN w bn k) (by omega)).2 sd).2.1
            refine And.intro (show vp_in ((nI 40) + (nI k)) 69 from vx_2 (by omega) (by omega)) ?_
            refine And.intro (show vp_in ((nI 40) + (bI (dkN w bn k))) 69 from vd) ?_
            refine And.intro (fun (h71 : I 27 ((nI 40) + (nI k)).toNatClampNeg ≤ I 27 ((nI 40) + (bI (dkN w bn k))).toNatClampNeg) => ?_) (fun (h71 : ¬ (I 27 ((nI 40) + (nI k)).toNatClampNeg ≤ I 27 ((nI 40) + (bI (dkN w bn k))).toNatClampNeg)) => ?_)
            · replace h71 : I 27 (40 + k) ≤ I 27 ((nI 40) + (bI (dkN w bn k))).toNatClampNeg := by simpa only [ix0, ix1, uI_rd] using h71
              rw [ixd, qd, q.2.1] at h71
              replace h71 : ¬ w (40 + dkN w bn k) < w (40 + k) := Int32.not_lt.mpr h71
              refine hK 4 [some (.ref 26), some (.int bn), some (.int (bI (dkN w bn k))), some (.int ((nI k) + 1)), some (.int (nI 1))] [] (shH ru ta rs) I J 0 0 ?_
              have e : dkN w bn (k + 1) = dkN w bn k := if_neg (fun z => z.2.2.elim h50 h71)
              rw [nI_1, ← e]
              exact ih (k + 1) n _ (by omega) (by omega)
            · replace h71 : ¬ (I 27 (40 + k) ≤ I 27 ((nI 40) + (bI (dkN w bn k))).toNatClampNeg) := by simpa only [ix0, ix1, uI_rd] using h71
              rw [ixd, qd, q.2.1] at h71
              replace h71 : w (40 + dkN w bn k) < w (40 + k) := Int32.not_le.mp h71
              refine hK 4 [some (.ref 26), some (.int bn), some (.int (nI k)), some (.int ((nI k) + 1)), some (.int (nI 1))] [] (shH ru ta rs) I J 0 0 ?_
              have e : dkN w bn (k + 1) = k := if_pos ⟨hp, Or.inr h33, Or.inr h71⟩
              rw [nI_1, show nI k = bI (dkN w bn (k + 1)) from by rw [e, bI_b (by omega)]]
              exact ih (k + 1) n _ (by omega) (by omega)
    · have hp : ¬ 0 < w (28 + k) := hn k (by omega) rfl
      refine And.intro (fun _ => ?_) (fun z => absurd (show (0 : Int32) = 0 from rfl) z)
      refine And.intro (fun _ => ?_) (fun z => absurd (show nI 0 = 0 from rfl) z)
      refine hK 4 [some (.ref 26), some (.int bn), some (.int (bI (dkN w bn k))), some (.int ((nI k) + 1)), some (.int (nI 0))] [] (shH ru ta rs) I J 0 0 ?_
      have e : dkN w bn (k + 1) = dkN w bn k := if_neg (fun z => hp z.1)
      rw [nI_1, ← e]
      exact ih (k + 1) n _ (by omega) (by omega)
set_option maxRecDepth 100000 in
theorem cw_dark (l : Launch) (d : Nat) (ru ta : Nat) (rs : List XO) (I : XI) (J : XJ) (Rp : XR) (T : Nat) (w : Rw) (hr : RC T w (I 27)) (hw : WR w) (bn : Int32) (hR : Rp (some (.int (bI (dkN w bn 12)))) (shH ru ta rs) I J) : xm l (d + 2) 0 0 mX10_darkest [.ref 26, .int bn] (shH ru ta rs) I J Rp := by
  refine xm_ofK 14 (X := xxX10) (t := tX10_darkest) (stop := [4]) (ini := false) xx10 pl10 rfl kX10_darkest (fun h => by cases h) (Nat.le_of_ble_eq_true rfl) (fun K hK => ?_)
  exact hK 4 [some (.ref 26), some (.int bn), some (.int (bI (dkN w bn 0))), some (.int (nI 0)), none] [] _ _ _ _ _ (cw_dark_loop l d ru ta rs I J Rp T w hr hw bn hR 12 0 14 none (by omega) (by omega))
/-- feet in a barn, in all -/
theorem cw_feetN (l : Launch) (d : Nat) (ru ta : Nat) (rs : List XO) (I : XI) (J : XJ) (Rp : XR) (T : Nat) (w : Rw) (hr : RC T w (I 27)) (hw : WR w) (bn : Int32) (hR : Rp (some (.int (nI (smF (fjN w bn) 12)))) (shH ru ta rs) I J) : xm l (d + 1) 0 0 mX10_feetIn [.ref 26, .int bn] (shH ru ta rs) I J Rp := by
  have e := fe_n hw bn
  by_cases c : bn = -1
  · rw [← e.2 c] at hR
    subst c
    exact cw_feetAll l d ru ta rs I J Rp T w hr hw hR
  · rw [← e.1 c] at hR
    exact cw_feetIn l d ru ta rs I J Rp T w hr hw bn c hR
abbrev tfr (l : Launch) (d : Nat) (ru ta : Nat) (rs : List XO) (J : XJ) (Rp : XR) (n : Nat) (x bn y i : Int32) (o5 o6 : Option Value) (I : XI) : Prop := xrun xxX10 (some .boolean) false false (shH ru ta rs).length 0 0 none l (d + 2) tX10_takeFeet [16] Rp n 16 [some (.ref 26), some (.int x), some (.int bn), some (.int y), some (.int i), o5, o6] [] (shH ru ta rs) I J 0 0
set_option maxRecDepth 100000 in
set_option maxHeartbeats 4000000 in
theorem cw_tf_loop (l : Launch) (d : Nat) (ru ta : Nat) (rs : List XO) (I : XI) (J : XJ) (Rp : XR) (T : Nat) (x bn : Int32) (W : Rw) (hR : ∀ I', F24 27 I I' → RC T W (I' 27) → Rp (some (.int 1)) (shH ru ta rs) I' J) : ∀ (m i n y : Nat) (w : Rw) (I1 : XI) (o5 o6 : Option Value), i + m = 12 → m < n → y ≤ 9999 → F24 27 I I1 → RC T w (I1 27) → WR w → usG bn m w (nI y) → usN bn m w (nI y) = W → tfr l d ru ta rs J Rp n x bn (nI y) (nI i) o5 o6 I1 := by
  intro m
  induction m with
  | zero =>
    intro i n y w I1 o5 o6 hi hn hy f hr hw g e
    obtain ⟨n, rfl⟩ : ∃ n', n = n' + 1 := ⟨n - 1, by omega⟩
    have hi : i = 12 := by omega
    subst hi
    refine xrun_step fun K hK => ?_
    refine And.intro (fun _ => ?_) (fun z => absurd (Int32.le_refl _) z)
    refine And.intro (Or.inr rfl) (hR I1 f ?_)
    rw [← e]
    exact hr
  | succ m ih =>
    intro i n y w I1 o5 o6 hi hn hy f hr hw g e
    obtain ⟨n, rfl⟩ : ∃ n', n = n' + 1 := ⟨n - 1, by omega⟩
    refine xrun_step fun K hK => ?_
    refine And.intro (fun z => absurd (show nI 12 ≤ nI i from z) (nI_ge (by omega) (by omega))) (fun _ => ?_)
    refine And.intro (fun (z : nI y ≤ 0) => ?_) (fun (z : ¬ nI y ≤ 0) => ?_)
    · refine And.intro (Or.inr rfl) (hR I1 f ?_)
      have e2 : usN bn (m + 1) w (nI y) = w := if_neg (Int32.not_lt.mpr z)
      rw [← e, e2]
      exact hr
    · have hpos : 0 < nI y := Int32.not_le.mp z
      obtain ⟨g1, g2, g3⟩ := g hpos
      have e2 : usN bn (m + 1) w (nI y) = usN bn m (shR w (dkN w bn 12) (ltR (nI y) (w (28 + dkN w bn 12)))) (nI y - ltR (nI y) (w (28 + dkN w bn 12))) := if_pos hpos
      obtain ⟨a, ea, ha⟩ := hw.len g1
      have ed : bI (dkN w bn 12) = nI (dkN w bn 12) := bI_b g1
      have ixd : (nI 28 + bI (dkN w bn 12)).toNatClampNeg = 28 + dkN w bn 12 := by
        rw [ed]
        exact ix_c (by omega)
      have vd : vp_in (nI 28 + bI (dkN w bn 12)) 69 := by
        rw [ed]
        exact vx_2 (by omega) (by omega)
      rw [ea, ltR_n (by omega) (by omega)] at e2 g3
      have hmn : (if y < a then y else a) ≤ y ∧ (if y < a then y else a) ≤ 999 := by
        split <;> omega
      have emn : (if I1 27 (nI 28 + bI (dkN w bn 12)).toNatClampNeg < nI y then I1 27 (nI 28 + bI (dkN w bn 12)).toNatClampNeg else nI y) = nI (if y < a then y else a) := by
        rw [ixd, hr.len g1, ea]
        exact mn_n (by omega) (by omega)
      rw [nI_subI hmn.1 (by omega)] at e2 g3
      refine cw_dark l d ru ta rs I1 J _ T w hr hw bn ?_
      refine cw_hasBale l (d + 1) ru ta rs I1 J _ T w hr hw (bI (dkN w bn 12)) (fun b hb eb hp => ?_) (fun hn => absurd g2 (hn _ g1 ed))
      refine And.intro (fun z => absurd (show (1 : Int32) = 0 from z) (by decide)) (fun _ => ?_)
      refine And.intro vd ?_
      refine (show xm l (d + 2) 0 0 mX10_shorten [.ref 26, .int (bI (dkN w bn 12)), .int (if I1 27 (nI 28 + bI (dkN w bn 12)).toNatClampNeg < nI y then I1 27 (nI 28 + bI (dkN w bn 12)).toNatClampNeg else nI y)] (shH ru ta rs) I1 J _ from ?_)
      rw [emn]
      refine cw_shorten l d ru ta rs I1 J _ T w hr hw (bI (dkN w bn 12)) (if y < a then y else a) (by omega) (fun b hb eb hp I2 f2 r2 => ?_) (fun hn => absurd g2 (hn _ g1 ed))
      have eb2 : b = dkN w bn 12 := nI_inj (eb.symm.trans ed) (by omega) (by omega)
      subst eb2
      refine hK 16 [some (.ref 26), some (.int x), some (.int bn), some (.int (nI y - (if I1 27 (nI 28 + bI (dkN w bn 12)).toNatClampNeg < nI y then I1 27 (nI 28 + bI (dkN w bn 12)).toNatClampNeg else nI y))), some (.int (nI i + 1)), some (.int (bI (dkN w bn 12))), some (.int (if I1 27 (nI 28 + bI (dkN w bn 12)).toNatClampNeg < nI y then I1 27 (nI 28 + bI (dkN w bn 12)).toNatClampNeg else nI y))] [] (shH ru ta rs) I2 J 0 0 ?_
      rw [emn, nI_1, nI_subI hmn.1 (by omega)]
      exact ih (i + 1) n (y - (if y < a then y else a)) _ I2 _ _ (by omega) (by omega) (by omega) (f.tr f2) r2 (hw.sh g1 (by omega)) g3 (by rw [← e2]; exact e)
set_option maxRecDepth 100000 in
theorem cw_takeFeet (l : Launch) (d : Nat) (ru ta : Nat) (rs : List XO) (I : XI) (J : XJ) (Rp : XR) (T : Nat) (w : Rw) (hr : RC T w (I 27)) (hw : WR w) (x : Nat) (hx : x ≤ 9999) (bn : Int32) (h1 : x ≤ smF (fjN w bn) 12 → ∀ I', F24 27 I I' → RC T (usN bn 12 w (nI x)) (I' 27) → Rp (some (.int 1)) (shH ru ta rs) I' J) (h0 : ¬ x ≤ smF (fjN w bn) 12 → Rp (some (.int 0)) (shH ru ta rs) I J) : xm l (d + 3) 0 0 mX10_takeFeet [.ref 26, .int (nI x), .int bn] (shH ru ta rs) I J Rp := by
  have sl := sm_le hw bn
  refine xm_ofK 14 (X := xxX10) (t := tX10_takeFeet) (stop := [16]) (ini := false) xx10 pl10 rfl kX10_takeFeet (fun h => by cases h) (Nat.le_of_ble_eq_true rfl) (fun K hK => ?_)
  refine cw_feetN l (d + 1) ru ta rs I J _ T w hr hw bn ?_
  refine And.intro (fun (z : nI x ≤ nI (smF (fjN w bn) 12)) => ?_) (fun (z : ¬ nI x ≤ nI (smF (fjN w bn) 12)) => ?_)
  · have z2 := (nle (by omega) (by omega)).mp z
    exact hK 16 [some (.ref 26), some (.int (nI x)), some (.int bn), some (.int (nI x)), some (.int (nI 0)), none, none] [] _ _ _ _ _ (cw_tf_loop l d ru ta rs I J Rp T (nI x) bn _ (h1 z2) 12 0 14 x w I none none (by omega) (by omega) hx F24.rf hr hw (us_12 hw z2) rfl)
  · exact And.intro (Or.inl rfl) (h0 (fun q => z ((nle (by omega) (by omega)).mpr q)))
set_option maxRecDepth 100000 in
set_option maxHeartbeats 4000000 in
theorem cw_carry (l : Launch) (d : Nat) (ru ta : Nat) (rs : List XO) (I : XI) (J : XJ) (Rp : XR) (Q : Tld) (L : Lws) (h : CE I ru Q L) (w : Rw) (hr : RC (qT Q) w (I 27)) (hw : WR w) (x y : Int32) (h1 : ∀ b bn, b < 12 → bn < qB Q → x = nI b → y = nI bn → mvOK Q w b bn = true → ∀ I', F24 27 I I' → RC (qT Q) (upd w (52 + b) (nI bn)) (I' 27) → Rp (some (.int 1)) (shH ru ta rs) I' J) (h0 : (∀ b bn, b < 12 → bn < qB Q → x = nI b → y = nI bn → mvOK Q w b bn = false) → Rp (some (.int 0)) (shH ru ta rs) I J) : xm l (d + 3) 0 0 mX10_carry [.ref 26, .int x, .int y] (shH ru ta rs) I J Rp := by
  have b4 := h.2.1.2.2.1
  refine xm_ofK 0 (X := xxX10) (t := tX10_carry) (stop := []) (ini := false) xx10 pl10 rfl kX10_carry (fun h => by cases h) (Nat.le_of_ble_eq_true rfl) (fun K hK => ?_)
  refine cw_hasBale l (d + 1) ru ta rs I J _ _ w hr hw x (fun b hb e hp => ?_) (fun hn => ?_)
  · subst e
    have q := (hr.2.2.1 b hb).2 hp
    have i52 : (nI 52 + nI b).toNatClampNeg = 52 + b := ix_c (by omega)
    have i28 : (nI 28 + nI b).toNatClampNeg = 28 + b := ix_c (by omega)
    refine And.intro (fun z => absurd (show (1 : Int32) = 0 from z) (by decide)) (fun _ => ?_)
    refine And.intro (show vp_in (nI 52 + nI b) 69 from vx_2 (by omega) (by omega)) ?_
    have no : ∀ bl : Bool, bl = false → (∀ bn, bn < qB Q → y = nI bn → mvOK Q w b bn = bl) → (∀ b' bn', b' < 12 → bn' < qB Q → nI b = nI b' → y = nI bn' → mvOK Q w b' bn' = false) := fun bl e1 e2 b' bn' a1 a2 a3 a4 => by
      have y1 := nI_inj a3 (by omega) (by omega)
      subst y1
      rw [e2 bn' a2 a4, e1]
    refine And.intro (fun (z : I 27 (nI 52 + nI b).toNatClampNeg = y) => ?_) (fun (z : ¬ I 27 (nI 52 + nI b).toNatClampNeg = y) => ?_)
    · rw [i52, q.2.2] at z
      refine And.intro (Or.inl rfl) (h0 (no _ rfl (fun bn hb e => ?_)))
      unfold mvOK
      rw [z, decide_eq_true e]
      simp
    · rw [i52, q.2.2] at z
      refine And.intro (show vp_in (nI 28 + nI b) 69 from vx_2 (by omega) (by omega)) ?_
      refine (show xm l (d + 2) 0 0 mX10_hasRoom [.ref 26, .int y, .int (I 27 (nI 28 + nI b).toNatClampNeg)] (shH ru ta rs) I J _ from ?_)
      rw [i28, hr.len hb]
      refine cw_hasRoom l d ru ta rs I J _ Q L h w hr hw y (w (28 + b)) (fun bn hbn e2 hro => ?_) (fun hn => ?_)
      · subst e2
        refine And.intro (fun _ => ?_) (fun z => absurd (show (1 : Int32) = 0 from z) (by decide))
        refine And.intro (show vp_in (nI 52 + nI b) 69 from vx_2 (by omega) (by omega)) ?_
        have hok : mvOK Q w b bn = true := by
          unfold mvOK
          rw [decide_eq_true hp, decide_eq_false z, hro]
          rfl
        refine And.intro (Or.inr rfl) (h1 b bn hb hbn rfl rfl hok (uI I 27 (nI 52 + nI b).toNatClampNeg (nI bn)) F24.rf.u ?_)
        rw [i52, uI_eq]
        exact hr.un hb _
      · refine And.intro (fun z => absurd rfl z) (fun _ => ?_)
        refine And.intro (Or.inl rfl) (h0 (no _ rfl (fun bn hb e => ?_)))
        unfold mvOK
        rw [hn bn hb e, Bool.and_false]
  · refine And.intro (fun _ => ?_) (fun z => absurd rfl z)
    refine And.intro (Or.inl rfl) (h0 (fun b bn hb _ e _ => ?_))
    unfold mvOK
    rw [decide_eq_false (hn b hb e)]
    rfl
set_option maxRecDepth 100000 in
set_option maxHeartbeats 4000000 in
theorem cw_sellOff (l : Launch) (d : Nat) (ru ta : Nat) (rs : List XO) (I : XI) (J : XJ) (Rp : XR) (Q : Tld) (L : Lws) (h : CE I ru Q L) (w : Rw) (hr : RC (qT Q) w (I 27)) (hw : WR w) (x : Int32) (h1 : ∀ b, b < 12 → x = nI b → 0 < w (28 + b) → ∀ (I' : XI) (J' : XJ), F24 27 I I' → RC (qT Q) (seW L w b) (I' 27) → Rp (some (.int (nI (seR L w b)))) (shH ru ta rs) I' J') (h0 : (∀ b, b < 12 → x = nI b → ¬ 0 < w (28 + b)) → Rp (some (.int (-1))) (shH ru ta rs) I J) : xm l (d + 5) 0 0 mX10_sellOff [.ref 26, .int x] (shH ru ta rs) I J Rp := by
  refine xm_ofK 0 (X := xxX10) (t := tX10_sellOff) (stop := []) (ini := false) xx10 pl10 rfl kX10_sellOff (fun h => by cases h) (Nat.le_of_ble_eq_true rfl) (fun K hK => ?_)
  refine cw_hasBale l (d + 3) ru ta rs I J _ _ w hr hw x (fun b hb e hp => ?_) (fun hn => ?_)
  · subst e
    have i28 : (nI 28 + nI b).toNatClampNeg = 28 + b := ix_c (by omega)
    refine And.intro (fun _ => ?_) (fun z => absurd (show (1 : Int32) = 0 from z) (by decide))
    refine cw_sells l d ru ta rs I J _ Q L h w hr hw b hb hp (fun I1 J1 f1 => ?_)
    refine And.intro (show vp_in (nI 67) 69 from vp_b (by decide)) ?_
    refine And.intro (show vp_in (nI 67) 69 from vp_b (by decide)) ?_
    refine And.intro (show vp_in (nI 28 + nI b) 69 from vx_2 (by omega) (by omega)) ?_
    refine h1 b hb rfl hp (uI (uI I1 27 67 (I1 27 67 + nI (seR L w b))) 27 (nI 28 + nI b).toNatClampNeg (nI 0)) J1 ((F24.n f1).tr F24.rf.u.u) ?_
    rw [i28, uI_eq, uI_eq, f1 27 (by decide), hr.hi (by decide) (by decide)]
    exact (hr.uk (i := 67) (by decide) _).z hb (fun _ _ _ => rfl) _ _
  · refine And.intro (fun z => absurd rfl z) (fun _ => ?_)
    exact h0 hn
set_option maxRecDepth 100000 in
theorem cw_draw (l : Launch) (d : Nat) (ru ta : Nat) (rs : List XO) (I : XI) (J : XJ) (Rp : XR) (T : Nat) (w : Rw) (hr : RC T w (I 27)) (hw : WR w) (v : Int32) (m : Nat) (e : v = nI m) (h0 : 0 < m) (hm : m < 1000) (hR : ∀ I' : XI, F24 27 I I' → RC T (dr w) (I' 27) → Rp (some (.int (nI (dN w m)))) (shH ru ta rs) I' J) : xm l (d + 1) 0 0 mX10_draw [.ref 26, .int v] (shH ru ta rs) I J Rp := by
  subst e
  have e68 : I 27 68 = w 68 := hr.hi (by decide) (by decide)
  refine xm_ofK 0 (X := xxX10) (t := tX10_draw) (stop := []) (ini := false) xx10 pl10 rfl kX10_draw (fun h => by cases h) (Nat.le_of_ble_eq_true rfl) (fun K hK => ?_)
  refine And.intro (fun z => absurd (show nI m ≤ 0 from z) (fun q => by have := (nle0 (by omega)).mp q; omega)) (fun _ => ?_)
  refine And.intro (show vp_in (nI 68) 69 from vp_b (by decide)) ?_
  refine And.intro (show ¬ (nI m = 0) from fun q => by have := (neq0 (by omega)).mp q; omega) ?_
  refine And.intro (show vp_in (nI 68) 69 from vp_b (by decide)) ?_
  refine And.intro (show ¬ (nI 30313 = 0) by decide) ?_
  refine And.intro (show vp_in (nI 68) 69 from vp_b (by decide)) ?_
  have fin := hR (uI I 27 68 (w 68 * nI 287 + nI 191 - (w 68 * nI 287 + nI 191) / nI 30313 * nI 30313)) F24.rf.u (by
    rw [uI_eq]
    exact hr.uk (by decide) _)
  have ed : drv w (nI m) = nI (dN w m) := (hw.dv h0 hm).1
  unfold drv at ed
  rw [← ed, ← e68] at fin
  exact fin
set_option maxRecDepth 100000 in
theorem cw_hoursLeft (l : Launch) (d : Nat) (ru ta : Nat) (rs : List XO) (I : XI) (J : XJ) (Rp : XR) (T : Nat) (w : Rw) (hr : RC T w (I 27)) (hw : WR w) (hR : Rp (some (.int (nI (hlN w)))) (shH ru ta rs) I J) : xm l (d + 1) 0 0 mX10_hoursLeft [.ref 26] (shH ru ta rs) I J Rp := by
  have k := hl_c hw
  refine xm_ofK 0 (X := xxX10) (t := tX10_hoursLeft) (stop := []) (ini := false) xx10 pl10 rfl kX10_hoursLeft (fun h => by cases h) (Nat.le_of_ble_eq_true rfl) (fun K hK => ?_)
  refine And.intro (show vp_in (nI 65) 69 from vp_b (by decide)) ?_
  refine And.intro (show vp_in (nI 64) 69 from vp_b (by decide)) ?_
  rw [← k.2.2.2, ← k.2.2.1, ← hr.hi (k := 65) (by decide) (by decide), ← hr.hi (k := 64) (by decide) (by decide)] at hR
  exact hR
