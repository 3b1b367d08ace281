-- ===== a need more; what about() tells =====
theorem need_more {I : XI} {TX : Nat → Txt} {H Hi : Hlf} {ta : Nat} {rs : List XO} (hta : ta ∈ txP) (hi : ivO CF [] I) (hq : QQ I) (hg : GRx I TX H Hi) (tp : TPr I) (fl : FLr I) (hu8 : hvU H < 8) (x y : Int32) : lin2 (shH (ruO (hvR H)) ta rs) (uI (uI (uI (uI (uI (uI I 3 (hvU H) x) 4 (hvU H) y) 0 7 (nI (hvU H + 1))) 68 (42 + 2 * hvU H) x) 68 (43 + 2 * hvU H) y) 68 6 (nI (hvU H + 1))) := by
  have n1 := hg.2.2.1.2.2.2.2
  have n2 := hg.2.2.2.2.1.1.2.2.2.2
  refine lin2.need_ (u := hvU H + 1) (x := fun i => if i = hvU H then x else hvX H i) (y := fun i => if i = hvU H then y else hvY H i) hta hi hq hg tp fl (by omega) (fun q a b c e => by rw [uI_ne e, uI_ne e, uI_ne e, uI_ne a, uI_ne c, uI_ne b]) (fun j hj => by rw [uI_ne (by decide), uI_ne (by decide), uI_ne (by decide), uI_eq, upd_n hj, uI_ne (by decide), uI_ne (by decide)]) (fun j hj h2 => by rw [uI_eq, upd_n hj, uI_eq, upd_n (by omega), uI_eq, upd_n (by omega), uI_ne (by decide), uI_ne (by decide), uI_ne (by decide)]) (by rw [uI_ne (by decide), uI_ne (by decide), uI_ne (by decide), uI_rd]) (by rw [uI_rd]) (fun i hi => ?_) (fun i hi => ?_)
  · rw [uI_ne (by decide), uI_ne (by decide), uI_ne (by decide), uI_ne (by decide), uI_ne (by decide), uI_eq, uI_ne (by decide), uI_ne (by decide), uI_ne (by decide), uI_ne (by decide), uI_eq, uI_ne (by decide)]
    by_cases e : i = hvU H
    · subst e
      rw [upd_s, upd_s, if_pos rfl, if_pos rfl]
      exact ⟨rfl, rfl⟩
    · rw [upd_n e, upd_n e, if_neg e, if_neg e]
      exact n1 i (by omega)
  · rw [uI_eq, upd_n (by omega), upd_n (by omega), uI_eq, uI_eq]
    by_cases e : i = hvU H
    · subst e
      rw [upd_n (by omega), upd_s, upd_s, if_pos rfl, if_pos rfl]
      exact ⟨rfl, rfl⟩
    · rw [upd_n (by omega), upd_n (by omega), upd_n (by omega), upd_n (by omega), if_neg e, if_neg e, uI_ne (by decide), uI_ne (by decide), uI_ne (by decide)]
      exact n2 i (by omega)
def abC (I : XI) (x : Int32) : Int32 := if x = nI 0 then I 12 5 else if x = nI 1 then I 12 6 else if x = nI 2 then I 12 7 else if x = nI 3 then I 27 64 else if x = nI 4 then I 27 65 else if x = nI 5 then I 27 66 else if x = nI 6 then I 27 67 else if x = nI 7 then I 27 68 else if x = nI 8 then I 0 12 else if x = nI 9 then I 0 13 else if x = nI 10 then I 1 2 else if x = nI 11 then I 0 7 else if x = nI 12 then I 30 1 else nI 0 - nI 2
def abM (I : XI) (x : Int32) : Int32 := if x = nI 0 then I 68 0 else if x = nI 1 then I 68 1 else if x = nI 2 then I 68 2 else if x = nI 3 then I 68 124 else if x = nI 4 then I 68 125 else if x = nI 5 then I 68 126 else if x = nI 6 then I 68 127 else if x = nI 7 then I 68 128 else if x = nI 8 then I 68 3 else if x = nI 9 then I 68 4 else if x = nI 10 then I 68 5 else if x = nI 11 then I 68 6 else if x = nI 12 then I 67 3 else nI 0 - nI 2
set_option maxRecDepth 100000 in
set_option maxHeartbeats 4000000 in
theorem cd_about (l : Launch) (d : Nat) (ru ta : Nat) (rs : List XO) (I : XI) (J : XJ) (Rp : XR) (x : Int32) (hR : Rp (some (.int (abC I x))) (shH ru ta rs) I J) : xm l (d + 1) 0 0 mX11_about [.ref 0, .int x] (shH ru ta rs) I J Rp := by
  refine xm_ofK 0 (X := xxX11) (t := tX11_about) (stop := []) (ini := false) xx11 pl11 rfl kX11_about (fun h => by cases h) (Nat.le_of_ble_eq_true rfl) (fun K hK => ?_)
  unfold abC at hR
  refine And.intro (fun (z0 : x = nI 0) => ?_) (fun (z0 : ¬ x = nI 0) => ?_)
  · rw [if_pos z0] at hR
    exact hR
  refine And.intro (fun (z1 : x = nI 1) => ?_) (fun (z1 : ¬ x = nI 1) => ?_)
  · rw [if_neg z0, if_pos z1] at hR
    exact hR
  refine And.intro (fun (z2 : x = nI 2) => ?_) (fun (z2 : ¬ x = nI 2) => ?_)
  · rw [if_neg z0, if_neg z1, if_pos z2] at hR
    exact hR
  refine And.intro (fun (z3 : x = nI 3) => ?_) (fun (z3 : ¬ x = nI 3) => ?_)
  · rw [if_neg z0, if_neg z1, if_neg z2, if_pos z3] at hR
    exact And.intro (show vp_in (nI 64) 69 from vp_b (by decide)) hR
  refine And.intro (fun (z4 : x = nI 4) => ?_) (fun (z4 : ¬ x = nI 4) => ?_)
  · rw [if_neg z0, if_neg z1, if_neg z2, if_neg z3, if_pos z4] at hR
    exact And.intro (show vp_in (nI 65) 69 from vp_b (by decide)) hR
  refine And.intro (fun (z5 : x = nI 5) => ?_) (fun (z5 : ¬ x = nI 5) => ?_)
  · rw [if_neg z0, if_neg z1, if_neg z2, if_neg z3, if_neg z4, if_pos z5] at hR
    exact And.intro (show vp_in (nI 66) 69 from vp_b (by decide)) hR
  refine And.intro (fun (z6 : x = nI 6) => ?_) (fun (z6 : ¬ x = nI 6) => ?_)
  · rw [if_neg z0, if_neg z1, if_neg z2, if_neg z3, if_neg z4, if_neg z5, if_pos z6] at hR
    exact And.intro (show vp_in (nI 67) 69 from vp_b (by decide)) hR
  refine And.intro (fun (z7 : x = nI 7) => ?_) (fun (z7 : ¬ x = nI 7) => ?_)
  · rw [if_neg z0, if_neg z1, if_neg z2, if_neg z3, if_neg z4, if_neg z5, if_neg z6, if_pos z7] at hR
    exact And.intro (show vp_in (nI 68) 69 from vp_b (by decide)) hR
  refine And.intro (fun (z8 : x = nI 8) => ?_) (fun (z8 : ¬ x = nI 8) => ?_)
  · rw [if_neg z0, if_neg z1, if_neg z2, if_neg z3, if_neg z4, if_neg z5, if_neg z6, if_neg z7, if_pos z8] at hR
    exact hR
  refine And.intro (fun (z9 : x = nI 9) => ?_) (fun (z9 : ¬ x = nI 9) => ?_)
  · rw [if_neg z0, if_neg z1, if_neg z2, if_neg z3, if_neg z4, if_neg z5, if_neg z6, if_neg z7, if_neg z8, if_pos z9] at hR
    exact hR
  refine And.intro (fun (z10 : x = nI 10) => ?_) (fun (z10 : ¬ x = nI 10) => ?_)
  · rw [if_neg z0, if_neg z1, if_neg z2, if_neg z3, if_neg z4, if_neg z5, if_neg z6, if_neg z7, if_neg z8, if_neg z9, if_pos z10] at hR
    exact hR
  refine And.intro (fun (z11 : x = nI 11) => ?_) (fun (z11 : ¬ x = nI 11) => ?_)
  · rw [if_neg z0, if_neg z1, if_neg z2, if_neg z3, if_neg z4, if_neg z5, if_neg z6, if_neg z7, if_neg z8, if_neg z9, if_neg z10, if_pos z11] at hR
    exact hR
  refine And.intro (fun (z12 : x = nI 12) => ?_) (fun (z12 : ¬ x = nI 12) => ?_)
  · rw [if_neg z0, if_neg z1, if_neg z2, if_neg z3, if_neg z4, if_neg z5, if_neg z6, if_neg z7, if_neg z8, if_neg z9, if_neg z10, if_neg z11, if_pos z12] at hR
    exact hR
  rw [if_neg z0, if_neg z1, if_neg z2, if_neg z3, if_neg z4, if_neg z5, if_neg z6, if_neg z7, if_neg z8, if_neg z9, if_neg z10, if_neg z11, if_neg z12] at hR
  exact hR
set_option maxRecDepth 100000 in
set_option maxHeartbeats 4000000 in
theorem md_about (l : Launch) (d : Nat) (ru ta : Nat) (rs : List XO) (I : XI) (J : XJ) (Rp : XR) (x : Int32) (hR : Rp (some (.int (abM I x))) (shH ru ta rs) I J) : xm l (d + 1) 0 0 mX12_about [.ref 67, .int x] (shH ru ta rs) I J Rp := by
  refine xm_ofK 0 (X := xxX12) (t := tX12_about) (stop := []) (ini := false) xx12 pl12 rfl kX12_about (fun h => by cases h) (Nat.le_of_ble_eq_true rfl) (fun K hK => ?_)
  unfold abM at hR
  refine And.intro (fun (z0 : x = nI 0) => ?_) (fun (z0 : ¬ x = nI 0) => ?_)
  · rw [if_pos z0] at hR
    exact And.intro (show vp_in (nI 0) 2200 from vp_b (by decide)) hR
  refine And.intro (fun (z1 : x = nI 1) => ?_) (fun (z1 : ¬ x = nI 1) => ?_)
  · rw [if_neg z0, if_pos z1] at hR
    exact And.intro (show vp_in (nI 1) 2200 from vp_b (by decide)) hR
  refine And.intro (fun (z2 : x = nI 2) => ?_) (fun (z2 : ¬ x = nI 2) => ?_)
  · rw [if_neg z0, if_neg z1, if_pos z2] at hR
    exact And.intro (show vp_in (nI 2) 2200 from vp_b (by decide)) hR
  refine And.intro (fun (z3 : x = nI 3) => ?_) (fun (z3 : ¬ x = nI 3) => ?_)
  · rw [if_neg z0, if_neg z1, if_neg z2, if_pos z3] at hR
    exact And.intro (show vp_in (nI 124) 2200 from vp_b (by decide)) hR
  refine And.intro (fun (z4 : x = nI 4) => ?_) (fun (z4 : ¬ x = nI 4) => ?_)
  · rw [if_neg z0, if_neg z1, if_neg z2, if_neg z3, if_pos z4] at hR
    exact And.intro (show vp_in (nI 125) 2200 from vp_b (by decide)) hR
  refine And.intro (fun (z5 : x = nI 5) => ?_) (fun (z5 : ¬ x = nI 5) => ?_)
  · rw [if_neg z0, if_neg z1, if_neg z2, if_neg z3, if_neg z4, if_pos z5] at hR
    exact And.intro (show vp_in (nI 126) 2200 from vp_b (by decide)) hR
  refine And.intro (fun (z6 : x = nI 6) => ?_) (fun (z6 : ¬ x = nI 6) => ?_)
  · rw [if_neg z0, if_neg z1, if_neg z2, if_neg z3, if_neg z4, if_neg z5, if_pos z6] at hR
    exact And.intro (show vp_in (nI 127) 2200 from vp_b (by decide)) hR
  refine And.intro (fun (z7 : x = nI 7) => ?_) (fun (z7 : ¬ x = nI 7) => ?_)
  · rw [if_neg z0, if_neg z1, if_neg z2, if_neg z3, if_neg z4, if_neg z5, if_neg z6, if_pos z7] at hR
    exact And.intro (show vp_in (nI 128) 2200 from vp_b (by decide)) hR
  refine And.intro (fun (z8 : x = nI 8) => ?_) (fun (z8 : ¬ x = nI 8) => ?_)
  · rw [if_neg z0, if_neg z1, if_neg z2, if_neg z3, if_neg z4, if_neg z5, if_neg z6, if_neg z7, if_pos z8] at hR
    exact And.intro (show vp_in (nI 3) 2200 from vp_b (by decide)) hR
  refine And.intro (fun (z9 : x = nI 9) => ?_) (fun (z9 : ¬ x = nI 9) => ?_)
  · rw [if_neg z0, if_neg z1, if_neg z2, if_neg z3, if_neg z4, if_neg z5, if_neg z6, if_neg z7, if_neg z8, if_pos z9] at hR
    exact And.intro (show vp_in (nI 4) 2200 from vp_b (by decide)) hR
  refine And.intro (fun (z10 : x = nI 10) => ?_) (fun (z10 : ¬ x = nI 10) => ?_)
  · rw [if_neg z0, if_neg z1, if_neg z2, if_neg z3, if_neg z4, if_neg z5, if_neg z6, if_neg z7, if_neg z8, if_neg z9, if_pos z10] at hR
    exact And.intro (show vp_in (nI 5) 2200 from vp_b (by decide)) hR
  refine And.intro (fun (z11 : x = nI 11) => ?_) (fun (z11 : ¬ x = nI 11) => ?_)
  · rw [if_neg z0, if_neg z1, if_neg z2, if_neg z3, if_neg z4, if_neg z5, if_neg z6, if_neg z7, if_neg z8, if_neg z9, if_neg z10, if_pos z11] at hR
    exact And.intro (show vp_in (nI 6) 2200 from vp_b (by decide)) hR
  refine And.intro (fun (z12 : x = nI 12) => ?_) (fun (z12 : ¬ x = nI 12) => ?_)
  · rw [if_neg z0, if_neg z1, if_neg z2, if_neg z3, if_neg z4, if_neg z5, if_neg z6, if_neg z7, if_neg z8, if_neg z9, if_neg z10, if_neg z11, if_pos z12] at hR
    exact hR
  rw [if_neg z0, if_neg z1, if_neg z2, if_neg z3, if_neg z4, if_neg z5, if_neg z6, if_neg z7, if_neg z8, if_neg z9, if_neg z10, if_neg z11, if_neg z12] at hR
  exact hR
theorem about_two {I : XI} {TX : Nat → Txt} {H Hi : Hlf} (hg : GRx I TX H Hi) (tp : TPr I) (x : Int32) : ∃ r : Int32, (∀ (l : Launch) (d : Nat) (ru ta : Nat) (rs : List XO) (J : XJ) (Rp : XR), Rp (some (.int r)) (shH ru ta rs) I J → xm l (d + 1) 0 0 mX11_about [.ref 0, .int x] (shH ru ta rs) I J Rp) ∧ ∀ (l : Launch) (d : Nat) (ru ta : Nat) (rs : List XO) (J : XJ) (Rp : XR), Rp (some (.int r)) (shH ru ta rs) I J → xm l (d + 1) 0 0 mX12_about [.ref 67, .int x] (shH ru ta rs) I J Rp := by
  have e : abC I x = abM I x := by
    obtain ⟨_, _, ⟨⟨htd, hrc, hn, first, hf, s1, s2, _⟩, e13, e12, e7, _⟩, _, ⟨⟨⟨hm, hww, hsm⟩, m4, m3, m6, _⟩, _⟩, _⟩ := hg
    obtain ⟨T, _, t1, t2, _⟩ := tp
    have w : ∀ k, 64 ≤ k → k < 69 → I 27 k = I 68 (60 + k) := fun k a b => (hrc.hi a b).trans (hww k b).symm
    have q0 : I 68 0 = _ := hm.1
    have q1 : I 68 1 = _ := hm.2.1
    have q2 : I 68 2 = _ := hm.2.2.1
    have q5 : I 68 5 = _ := hsm.2.1
    unfold abC abM
    rw [htd.1.trans q0.symm, htd.2.1.trans q1.symm, htd.2.2.1.trans q2.symm, w 64 (by decide) (by decide), w 65 (by decide) (by decide), w 66 (by decide) (by decide), w 67 (by decide) (by decide), w 68 (by decide) (by decide), e12.trans m3.symm, e13.trans m4.symm, s2.trans q5.symm, e7.trans m6.symm, t1.trans t2.symm]
  exact ⟨abC I x, fun l d ru ta rs J Rp h => cd_about l d ru ta rs I J Rp x h, fun l d ru ta rs J Rp h => md_about l d ru ta rs I J Rp x (by rw [← e]; exact h)⟩
