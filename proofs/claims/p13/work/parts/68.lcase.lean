-- ===== the law's calls, one by one; its loop =====
def intP (P : AP) : Bool := match P.2.1 with
  | .inl _ => true
  | _ => false
theorem int_post {posts : List AP} {as : List Value} {v : Option Value} {I : XI} (h : posts.all intP = true) (hp : ∃ P, P ∈ posts ∧ pstO as P v I) : ∃ r, v = some (.int r) := by
  obtain ⟨P, hP, hp⟩ := hp
  have y := List.all_eq_true.mp h P hP
  have z := hp.2.1
  unfold intP at y
  split at y
  · rename_i w e
    rw [e] at z
    obtain ⟨x, hx, _⟩ := z
    exact ⟨x, hx⟩
  · cases y
def voidP (P : AP) : Bool := match P.2.1 with
  | .inr (.inr 9) => true
  | _ => false
theorem void_post {posts : List AP} {as : List Value} {v : Option Value} {I : XI} (h : posts.all voidP = true) (hp : ∃ P, P ∈ posts ∧ pstO as P v I) : v = none := by
  obtain ⟨P, hP, hp⟩ := hp
  have y := List.all_eq_true.mp h P hP
  have z := hp.2.1
  unfold voidP at y
  split at y
  · rename_i e
    rw [e] at z
    exact z
  · cases y
def lst : List Nat := [18, 196, 239, 262, 285, 328, 361, 394, 427, 450, 473, 506, 569, 592, 605, 628, 651, 674, 687, 720, 753, 786, 819, 852, 885, 938, 971, 994, 1027, 1080, 1123, 1166, 1219, 1252, 1295, 1354, 1367, 1380, 1403]
abbrev lrun (l : Launch) (L : Nat) (xs : Nat → Int32) (n : Nat) (pc : Nat) : XP := xrun xxL (some .boolean) false true 0 600000 7302249 (some (L, xs)) l 1399 tL_law lst (fun v _ _ _ => v = some (.int 1)) n pc
def lloc (c : Nat) : List (Option Value) := [some (.ref 900000), some (.ref 0), some (.ref 67), some (.int (nI (6 * c)))]
theorem hail_two (n k w : Int32) (hw : w = 0 ∨ w = 1) : ∃ r : Int32, (∀ (l : Launch) (d : Nat) (sh : List XO) (I : XI) (J : XJ) (Rp : XR), Rp (some (.int r)) sh I J → xm l (d + 2) 0 0 mX11_hail [.ref 0, .int n, .int k, .int w] sh I J Rp) ∧ ∀ (l : Launch) (d : Nat) (sh : List XO) (I : XI) (J : XJ) (Rp : XR), Rp (some (.int r)) sh I J → xm l (d + 2) 0 0 mX12_hail [.ref 67, .int n, .int k, .int w] sh I J Rp := by
  by_cases hc : (1 ≤ n ∧ n ≤ 9) ∧ (0 ≤ k ∧ k ≤ 9)
  · have hb := hB_all hc.1.1 hc.1.2 hc.2.1 hc.2.2
    have hbw : hB n k w = true := by
      rcases hw with e | e <;> rw [e]
      · exact hb.1
      · exact hb.2
    obtain ⟨r, lc1, lc2, x, y, lc3, g, lc4, q1, q2, q3, q4⟩ := hB_el hbw
    exact ⟨r, fun l d sh I J Rp hR => c_hail_t l d n k w r lc1 sh I J Rp hc.1.1 hc.1.2 hc.2.1 hc.2.2 q1 hR, fun l d sh I J Rp hR => m_hail_t l d n k w r x y g lc2 lc3 lc4 sh I J Rp hc.1.1 hc.1.2 hc.2.1 hc.2.2 q2 q3 q4 hR⟩
  · exact ⟨-1, fun l d sh I J Rp hR => c_hail_f l d n k w sh I J Rp hc hR, fun l d sh I J Rp hR => m_hail_f l d n k w sh I J Rp hc hR⟩
set_option maxRecDepth 100000 in
set_option maxHeartbeats 1000000 in
theorem law_c0 (l : Launch) (L : Nat) (xs : Nat → Int32) (n c : Nat) (hc : 6 * c + 6 ≤ L) (hL : L ≤ 3072) (sh : List XO) (I : XI) (J : XJ) (hv : linv sh I) (hn : ∀ (sh' : List XO) (I' : XI) (J' : XJ), linv sh' I' → lrun l L xs n 1403 (lloc c) [] sh' I' J' 99 18232) : lrun l L xs (n + 1) 196 (lloc c) [] sh I J 99 18232 := by
  obtain ⟨⟨hs, hi, hq⟩, hr⟩ := hv
  obtain ⟨ru, ta, rs, hru, hta, rfl⟩ := shX hs
  obtain ⟨⟨T, hT, eT, eT2, hB⟩, hf, ⟨m, hm, em, e68⟩, ⟨u, hu, e6, e69⟩⟩ := id hr
  have hxA : ivO (CNr 0 12 m) [] I := cnr_up nc_A hi (by rw [em]; exact nI_toInt (by omega))
  have v : ∀ j, j < 6 → vp_in (nI (6 * c) + nI j) L := fun j hj => by rw [nI_add]; exact vp_in_nI (by omega) (by omega)
  refine xrun_step fun K hK => ?_
  refine And.intro (v 1 (by omega)) ?_
  refine And.intro (v 2 (by omega)) ?_
  refine And.intro (v 3 (by omega)) ?_
  refine ctr_at (cnr_lift nc_A hm ct_X11_thing_0 rfl) (by decide) l _ I J [.ref 0, .int _, .int _, .int _] _ ⟨by decide, inI_fr _, inI_fr _, inI_fr _, trivial⟩ (fun e he => by cases he) hs hxA hq ?_
  intro v1 sh1 I1 J1 g1 w1 i1 q1 f1 p1
  obtain ⟨r1, rfl⟩ := int_post (by decide) p1
  obtain ⟨ru1, ta1, rs1, _, _, rfl⟩ := shX g1
  have hxB : ivO (CNr 68 3 m) [] I1 := cnr_up nc_B (cnr_dn nc_A hm i1) (by rw [f1 68 rfl, e68]; exact nI_toInt (by omega))
  refine And.intro (v 1 (by omega)) ?_
  refine And.intro (v 2 (by omega)) ?_
  refine And.intro (v 3 (by omega)) ?_
  refine ctr_at (cv_X12_thing_0 hm) (by decide) l _ I1 J1 [.ref 67, .int _, .int _, .int _] _ ⟨by decide, inI_fr _, inI_fr _, inI_fr _, trivial⟩ (fun e he => by cases he) g1 hxB q1 ?_
  intro v2 sh2 I2 J2 g2 w2 i2 q2 f2 p2
  obtain ⟨r2, rfl⟩ := int_post (by decide) p2
  exact hK 1403 (lloc c) [] _ I2 J2 99 18232 (hn _ I2 J2 ⟨⟨g2, cnr_dn nc_B hm i2, q2⟩, ra_mk hr ((f2 30 rfl).trans (f1 30 rfl)) ((f2 31 rfl).trans (f1 31 rfl)) ((f2 35 rfl).trans (f1 35 rfl)) ((f2 67 rfl).trans (f1 67 rfl)) ((f2 70 rfl).trans (f1 70 rfl)) hm hu ((congrFun (f2 0 rfl) 12).trans (cnr_n nc_A hm i1)) (cnr_n nc_B hm i2) ((congrFun ((f2 6 rfl).trans (f1 6 rfl)) 8).trans e6) ((congrFun ((f2 69 rfl).trans (f1 69 rfl)) 3).trans e69)⟩)
set_option maxRecDepth 100000 in
set_option maxHeartbeats 1000000 in
theorem law_c1 (l : Launch) (L : Nat) (xs : Nat → Int32) (n c : Nat) (hc : 6 * c + 6 ≤ L) (hL : L ≤ 3072) (sh : List XO) (I : XI) (J : XJ) (hv : linv sh I) (hn : ∀ (sh' : List XO) (I' : XI) (J' : XJ), linv sh' I' → lrun l L xs n 1403 (lloc c) [] sh' I' J' 99 18232) : lrun l L xs (n + 1) 239 (lloc c) [] sh I J 99 18232 := by
  obtain ⟨⟨hs, hi, hq⟩, hr⟩ := hv
  obtain ⟨ru, ta, rs, hru, hta, rfl⟩ := shX hs
  obtain ⟨⟨T, hT, eT, eT2, hB⟩, hf, ⟨m, hm, em, e68⟩, ⟨u, hu, e6, e69⟩⟩ := id hr
  have hxA : ivO (CNr 0 12 m) [] I := cnr_up nc_A hi (by rw [em]; exact nI_toInt (by omega))
  have v : ∀ j, j < 6 → vp_in (nI (6 * c) + nI j) L := fun j hj => by rw [nI_add]; exact vp_in_nI (by omega) (by omega)
  refine xrun_step fun K hK => ?_
  refine And.intro (v 1 (by omega)) ?_
  refine ctr_at (cnr_lift nc_A hm ct_X11_reaper_0 rfl) (by decide) l _ I J [.ref 0, .int _] _ ⟨by decide, inI_fr _, trivial⟩ (fun e he => by cases he) hs hxA hq ?_
  intro v1 sh1 I1 J1 g1 w1 i1 q1 f1 p1
  obtain ⟨r1, rfl⟩ := int_post (by decide) p1
  obtain ⟨ru1, ta1, rs1, _, _, rfl⟩ := shX g1
  have hxB : ivO (CNr 68 3 m) [] I1 := cnr_up nc_B (cnr_dn nc_A hm i1) (by rw [f1 68 rfl, e68]; exact nI_toInt (by omega))
  refine And.intro (v 1 (by omega)) ?_
  refine ctr_at (cv_X12_reaper_0 hm) (by decide) l _ I1 J1 [.ref 67, .int _] _ ⟨by decide, inI_fr _, trivial⟩ (fun e he => by cases he) g1 hxB q1 ?_
  intro v2 sh2 I2 J2 g2 w2 i2 q2 f2 p2
  obtain ⟨r2, rfl⟩ := int_post (by decide) p2
  exact hK 1403 (lloc c) [] _ I2 J2 99 18232 (hn _ I2 J2 ⟨⟨g2, cnr_dn nc_B hm i2, q2⟩, ra_mk hr ((f2 30 rfl).trans (f1 30 rfl)) ((f2 31 rfl).trans (f1 31 rfl)) ((f2 35 rfl).trans (f1 35 rfl)) ((f2 67 rfl).trans (f1 67 rfl)) ((f2 70 rfl).trans (f1 70 rfl)) hm hu ((congrFun (f2 0 rfl) 12).trans (cnr_n nc_A hm i1)) (cnr_n nc_B hm i2) ((congrFun ((f2 6 rfl).trans (f1 6 rfl)) 8).trans e6) ((congrFun ((f2 69 rfl).trans (f1 69 rfl)) 3).trans e69)⟩)
set_option maxRecDepth 100000 in
set_option maxHeartbeats 1000000 in
theorem law_c2 (l : Launch) (L : Nat) (xs : Nat → Int32) (n c : Nat) (hc : 6 * c + 6 ≤ L) (hL : L ≤ 3072) (sh : List XO) (I : XI) (J : XJ) (hv : linv sh I) (hn : ∀ (sh' : List XO) (I' : XI) (J' : XJ), linv sh' I' → lrun l L xs n 1403 (lloc c) [] sh' I' J' 99 18232) : lrun l L xs (n + 1) 262 (lloc c) [] sh I J 99 18232 := by
  obtain ⟨⟨hs, hi, hq⟩, hr⟩ := hv
  obtain ⟨ru, ta, rs, hru, hta, rfl⟩ := shX hs
  obtain ⟨⟨T, hT, eT, eT2, hB⟩, hf, ⟨m, hm, em, e68⟩, ⟨u, hu, e6, e69⟩⟩ := id hr
  have hxA : ivO (CNr 0 12 m) [] I := cnr_up nc_A hi (by rw [em]; exact nI_toInt (by omega))
  have v : ∀ j, j < 6 → vp_in (nI (6 * c) + nI j) L := fun j hj => by rw [nI_add]; exact vp_in_nI (by omega) (by omega)
  refine xrun_step fun K hK => ?_
  refine And.intro (v 1 (by omega)) ?_
  refine ctr_at (cnr_lift nc_A hm ct_X11_barn_0 rfl) (by decide) l _ I J [.ref 0, .int _] _ ⟨by decide, inI_fr _, trivial⟩ (fun e he => by cases he) hs hxA hq ?_
  intro v1 sh1 I1 J1 g1 w1 i1 q1 f1 p1
  obtain ⟨r1, rfl⟩ := int_post (by decide) p1
  obtain ⟨ru1, ta1, rs1, _, _, rfl⟩ := shX g1
  have hxB : ivO (CNr 68 3 m) [] I1 := cnr_up nc_B (cnr_dn nc_A hm i1) (by rw [f1 68 rfl, e68]; exact nI_toInt (by omega))
  refine And.intro (v 1 (by omega)) ?_
  refine ctr_at (cv_X12_barn_0 hm) (by decide) l _ I1 J1 [.ref 67, .int _] _ ⟨by decide, inI_fr _, trivial⟩ (fun e he => by cases he) g1 hxB q1 ?_
  intro v2 sh2 I2 J2 g2 w2 i2 q2 f2 p2
  obtain ⟨r2, rfl⟩ := int_post (by decide) p2
  exact hK 1403 (lloc c) [] _ I2 J2 99 18232 (hn _ I2 J2 ⟨⟨g2, cnr_dn nc_B hm i2, q2⟩, ra_mk hr ((f2 30 rfl).trans (f1 30 rfl)) ((f2 31 rfl).trans (f1 31 rfl)) ((f2 35 rfl).trans (f1 35 rfl)) ((f2 67 rfl).trans (f1 67 rfl)) ((f2 70 rfl).trans (f1 70 rfl)) hm hu ((congrFun (f2 0 rfl) 12).trans (cnr_n nc_A hm i1)) (cnr_n nc_B hm i2) ((congrFun ((f2 6 rfl).trans (f1 6 rfl)) 8).trans e6) ((congrFun ((f2 69 rfl).trans (f1 69 rfl)) 3).trans e69)⟩)
set_option maxRecDepth 100000 in
set_option maxHeartbeats 1000000 in
theorem law_c3 (l : Launch) (L : Nat) (xs : Nat → Int32) (n c : Nat) (hc : 6 * c + 6 ≤ L) (hL : L ≤ 3072) (sh : List XO) (I : XI) (J : XJ) (hv : linv sh I) (hn : ∀ (sh' : List XO) (I' : XI) (J' : XJ), linv sh' I' → lrun l L xs n 1403 (lloc c) [] sh' I' J' 99 18232) : lrun l L xs (n + 1) 285 (lloc c) [] sh I J 99 18232 := by
  obtain ⟨⟨hs, hi, hq⟩, hr⟩ := hv
  obtain ⟨ru, ta, rs, hru, hta, rfl⟩ := shX hs
  obtain ⟨⟨T, hT, eT, eT2, hB⟩, hf, ⟨m, hm, em, e68⟩, ⟨u, hu, e6, e69⟩⟩ := id hr
  have hxA : ivO (CNr 0 12 m) [] I := cnr_up nc_A hi (by rw [em]; exact nI_toInt (by omega))
  have v : ∀ j, j < 6 → vp_in (nI (6 * c) + nI j) L := fun j hj => by rw [nI_add]; exact vp_in_nI (by omega) (by omega)
  refine xrun_step fun K hK => ?_
  refine And.intro (v 1 (by omega)) ?_
  refine And.intro (v 2 (by omega)) ?_
  refine And.intro (v 3 (by omega)) ?_
  refine ctr_at (cnr_lift nc_A hm ct_X11_cut_0 rfl) (by decide) l _ I J [.ref 0, .int _, .int _, .int _] _ ⟨by decide, inI_fr _, inI_fr _, inI_fr _, trivial⟩ (fun e he => by cases he) hs hxA hq ?_
  intro v1 sh1 I1 J1 g1 w1 i1 q1 f1 p1
  obtain ⟨r1, rfl⟩ := int_post (by decide) p1
  obtain ⟨ru1, ta1, rs1, _, _, rfl⟩ := shX g1
  have hxB : ivO (CNr 68 3 m) [] I1 := cnr_up nc_B (cnr_dn nc_A hm i1) (by rw [f1 68 rfl, e68]; exact nI_toInt (by omega))
  refine And.intro (v 1 (by omega)) ?_
  refine And.intro (v 2 (by omega)) ?_
  refine And.intro (v 3 (by omega)) ?_
  refine ctr_at (cv_X12_cut_0 hm) (by decide) l _ I1 J1 [.ref 67, .int _, .int _, .int _] _ ⟨by decide, inI_fr _, inI_fr _, inI_fr _, trivial⟩ (fun e he => by cases he) g1 hxB q1 ?_
  intro v2 sh2 I2 J2 g2 w2 i2 q2 f2 p2
  obtain ⟨r2, rfl⟩ := int_post (by decide) p2
  exact hK 1403 (lloc c) [] _ I2 J2 99 18232 (hn _ I2 J2 ⟨⟨g2, cnr_dn nc_B hm i2, q2⟩, ra_mk hr ((f2 30 rfl).trans (f1 30 rfl)) ((f2 31 rfl).trans (f1 31 rfl)) ((f2 35 rfl).trans (f1 35 rfl)) ((f2 67 rfl).trans (f1 67 rfl)) ((f2 70 rfl).trans (f1 70 rfl)) hm hu ((congrFun (f2 0 rfl) 12).trans (cnr_n nc_A hm i1)) (cnr_n nc_B hm i2) ((congrFun ((f2 6 rfl).trans (f1 6 rfl)) 8).trans e6) ((congrFun ((f2 69 rfl).trans (f1 69 rfl)) 3).trans e69)⟩)
set_option maxRecDepth 100000 in
set_option maxHeartbeats 1000000 in
theorem law_c4 (l : Launch) (L : Nat) (xs : Nat → Int32) (n c : Nat) (hc : 6 * c + 6 ≤ L) (hL : L ≤ 3072) (sh : List XO) (I : XI) (J : XJ) (hv : linv sh I) (hn : ∀ (sh' : List XO) (I' : XI) (J' : XJ), linv sh' I' → lrun l L xs n 1403 (lloc c) [] sh' I' J' 99 18232) : lrun l L xs (n + 1) 328 (lloc c) [] sh I J 99 18232 := by
  obtain ⟨⟨hs, hi, hq⟩, hr⟩ := hv
  obtain ⟨ru, ta, rs, hru, hta, rfl⟩ := shX hs
  obtain ⟨⟨T, hT, eT, eT2, hB⟩, hf, ⟨m, hm, em, e68⟩, ⟨u, hu, e6, e69⟩⟩ := id hr
  have hxA : ivO (CNr 0 12 m) [] I := cnr_up nc_A hi (by rw [em]; exact nI_toInt (by omega))
  have v : ∀ j, j < 6 → vp_in (nI (6 * c) + nI j) L := fun j hj => by rw [nI_add]; exact vp_in_nI (by omega) (by omega)
  refine xrun_step fun K hK => ?_
  refine And.intro (v 1 (by omega)) ?_
  refine And.intro (v 2 (by omega)) ?_
  refine ctr_at (cnr_lift nc_A hm ct_X11_last_0 rfl) (by decide) l _ I J [.ref 0, .int _, .int _] _ ⟨by decide, inI_fr _, inI_fr _, trivial⟩ (fun e he => by cases he) hs hxA hq ?_
  intro v1 sh1 I1 J1 g1 w1 i1 q1 f1 p1
  obtain ⟨r1, rfl⟩ := int_post (by decide) p1
  obtain ⟨ru1, ta1, rs1, _, _, rfl⟩ := shX g1
  have hxB : ivO (CNr 68 3 m) [] I1 := cnr_up nc_B (cnr_dn nc_A hm i1) (by rw [f1 68 rfl, e68]; exact nI_toInt (by omega))
  refine And.intro (v 1 (by omega)) ?_
  refine And.intro (v 2 (by omega)) ?_
  refine ctr_at (cv_X12_last_0 hm) (by decide) l _ I1 J1 [.ref 67, .int _, .int _] _ ⟨by decide, inI_fr _, inI_fr _, trivial⟩ (fun e he => by cases he) g1 hxB q1 ?_
  intro v2 sh2 I2 J2 g2 w2 i2 q2 f2 p2
  obtain ⟨r2, rfl⟩ := int_post (by decide) p2
  exact hK 1403 (lloc c) [] _ I2 J2 99 18232 (hn _ I2 J2 ⟨⟨g2, cnr_dn nc_B hm i2, q2⟩, ra_mk hr ((f2 30 rfl).trans (f1 30 rfl)) ((f2 31 rfl).trans (f1 31 rfl)) ((f2 35 rfl).trans (f1 35 rfl)) ((f2 67 rfl).trans (f1 67 rfl)) ((f2 70 rfl).trans (f1 70 rfl)) hm hu ((congrFun (f2 0 rfl) 12).trans (cnr_n nc_A hm i1)) (cnr_n nc_B hm i2) ((congrFun ((f2 6 rfl).trans (f1 6 rfl)) 8).trans e6) ((congrFun ((f2 69 rfl).trans (f1 69 rfl)) 3).trans e69)⟩)
set_option maxRecDepth 100000 in
set_option maxHeartbeats 1000000 in
theorem law_c5 (l : Launch) (L : Nat) (xs : Nat → Int32) (n c : Nat) (hc : 6 * c + 6 ≤ L) (hL : L ≤ 3072) (sh : List XO) (I : XI) (J : XJ) (hv : linv sh I) (hn : ∀ (sh' : List XO) (I' : XI) (J' : XJ), linv sh' I' → lrun l L xs n 1403 (lloc c) [] sh' I' J' 99 18232) : lrun l L xs (n + 1) 361 (lloc c) [] sh I J 99 18232 := by
  obtain ⟨⟨hs, hi, hq⟩, hr⟩ := hv
  obtain ⟨ru, ta, rs, hru, hta, rfl⟩ := shX hs
  obtain ⟨⟨T, hT, eT, eT2, hB⟩, hf, ⟨m, hm, em, e68⟩, ⟨u, hu, e6, e69⟩⟩ := id hr
  have hxA : ivO (CNr 0 12 m) [] I := cnr_up nc_A hi (by rw [em]; exact nI_toInt (by omega))
  have v : ∀ j, j < 6 → vp_in (nI (6 * c) + nI j) L := fun j hj => by rw [nI_add]; exact vp_in_nI (by omega) (by omega)
  refine xrun_step fun K hK => ?_
  refine And.intro (v 1 (by omega)) ?_
  refine And.intro (v 2 (by omega)) ?_
  refine ctr_at (cnr_lift nc_A hm ct_X11_use_0 rfl) (by decide) l _ I J [.ref 0, .int _, .int _] _ ⟨by decide, inI_fr _, inI_fr _, trivial⟩ (fun e he => by cases he) hs hxA hq ?_
  intro v1 sh1 I1 J1 g1 w1 i1 q1 f1 p1
  obtain ⟨r1, rfl⟩ := int_post (by decide) p1
  obtain ⟨ru1, ta1, rs1, _, _, rfl⟩ := shX g1
  have hxB : ivO (CNr 68 3 m) [] I1 := cnr_up nc_B (cnr_dn nc_A hm i1) (by rw [f1 68 rfl, e68]; exact nI_toInt (by omega))
  refine And.intro (v 1 (by omega)) ?_
  refine And.intro (v 2 (by omega)) ?_
  refine ctr_at (cv_X12_use_0 hm) (by decide) l _ I1 J1 [.ref 67, .int _, .int _] _ ⟨by decide, inI_fr _, inI_fr _, trivial⟩ (fun e he => by cases he) g1 hxB q1 ?_
  intro v2 sh2 I2 J2 g2 w2 i2 q2 f2 p2
  obtain ⟨r2, rfl⟩ := int_post (by decide) p2
  exact hK 1403 (lloc c) [] _ I2 J2 99 18232 (hn _ I2 J2 ⟨⟨g2, cnr_dn nc_B hm i2, q2⟩, ra_mk hr ((f2 30 rfl).trans (f1 30 rfl)) ((f2 31 rfl).trans (f1 31 rfl)) ((f2 35 rfl).trans (f1 35 rfl)) ((f2 67 rfl).trans (f1 67 rfl)) ((f2 70 rfl).trans (f1 70 rfl)) hm hu ((congrFun (f2 0 rfl) 12).trans (cnr_n nc_A hm i1)) (cnr_n nc_B hm i2) ((congrFun ((f2 6 rfl).trans (f1 6 rfl)) 8).trans e6) ((congrFun ((f2 69 rfl).trans (f1 69 rfl)) 3).trans e69)⟩)
set_option maxRecDepth 100000 in
set_option maxHeartbeats 1000000 in
theorem law_c6 (l : Launch) (L : Nat) (xs : Nat → Int32) (n c : Nat) (hc : 6 * c + 6 ≤ L) (hL : L ≤ 3072) (sh : List XO) (I : XI) (J : XJ) (hv : linv sh I) (hn : ∀ (sh' : List XO) (I' : XI) (J' : XJ), linv sh' I' → lrun l L xs n 1403 (lloc c) [] sh' I' J' 99 18232) : lrun l L xs (n + 1) 394 (lloc c) [] sh I J 99 18232 := by
  obtain ⟨⟨hs, hi, hq⟩, hr⟩ := hv
  obtain ⟨ru, ta, rs, hru, hta, rfl⟩ := shX hs
  obtain ⟨⟨T, hT, eT, eT2, hB⟩, hf, ⟨m, hm, em, e68⟩, ⟨u, hu, e6, e69⟩⟩ := id hr
  have hxA : ivO (CNr 0 12 m) [] I := cnr_up nc_A hi (by rw [em]; exact nI_toInt (by omega))
  have v : ∀ j, j < 6 → vp_in (nI (6 * c) + nI j) L := fun j hj => by rw [nI_add]; exact vp_in_nI (by omega) (by omega)
  refine xrun_step fun K hK => ?_
  refine And.intro (v 1 (by omega)) ?_
  refine And.intro (v 2 (by omega)) ?_
  refine ctr_at (cnr_lift nc_A hm ct_X11_move_0 rfl) (by decide) l _ I J [.ref 0, .int _, .int _] _ ⟨by decide, inI_fr _, inI_fr _, trivial⟩ (fun e he => by cases he) hs hxA hq ?_
  intro v1 sh1 I1 J1 g1 w1 i1 q1 f1 p1
  obtain ⟨r1, rfl⟩ := int_post (by decide) p1
  obtain ⟨ru1, ta1, rs1, _, _, rfl⟩ := shX g1
  have hxB : ivO (CNr 68 3 m) [] I1 := cnr_up nc_B (cnr_dn nc_A hm i1) (by rw [f1 68 rfl, e68]; exact nI_toInt (by omega))
  refine And.intro (v 1 (by omega)) ?_
  refine And.intro (v 2 (by omega)) ?_
  refine ctr_at (cv_X12_move_0 hm) (by decide) l _ I1 J1 [.ref 67, .int _, .int _] _ ⟨by decide, inI_fr _, inI_fr _, trivial⟩ (fun e he => by cases he) g1 hxB q1 ?_
  intro v2 sh2 I2 J2 g2 w2 i2 q2 f2 p2
  obtain ⟨r2, rfl⟩ := int_post (by decide) p2
  exact hK 1403 (lloc c) [] _ I2 J2 99 18232 (hn _ I2 J2 ⟨⟨g2, cnr_dn nc_B hm i2, q2⟩, ra_mk hr ((f2 30 rfl).trans (f1 30 rfl)) ((f2 31 rfl).trans (f1 31 rfl)) ((f2 35 rfl).trans (f1 35 rfl)) ((f2 67 rfl).trans (f1 67 rfl)) ((f2 70 rfl).trans (f1 70 rfl)) hm hu ((congrFun (f2 0 rfl) 12).trans (cnr_n nc_A hm i1)) (cnr_n nc_B hm i2) ((congrFun ((f2 6 rfl).trans (f1 6 rfl)) 8).trans e6) ((congrFun ((f2 69 rfl).trans (f1 69 rfl)) 3).trans e69)⟩)
set_option maxRecDepth 100000 in
set_option maxHeartbeats 1000000 in
theorem law_c7 (l : Launch) (L : Nat) (xs : Nat → Int32) (n c : Nat) (hc : 6 * c + 6 ≤ L) (hL : L ≤ 3072) (sh : List XO) (I : XI) (J : XJ) (hv : linv sh I) (hn : ∀ (sh' : List XO) (I' : XI) (J' : XJ), linv sh' I' → lrun l L xs n 1403 (lloc c) [] sh' I' J' 99 18232) : lrun l L xs (n + 1) 427 (lloc c) [] sh I J 99 18232 := by
  obtain ⟨⟨hs, hi, hq⟩, hr⟩ := hv
  obtain ⟨ru, ta, rs, hru, hta, rfl⟩ := shX hs
  obtain ⟨⟨T, hT, eT, eT2, hB⟩, hf, ⟨m, hm, em, e68⟩, ⟨u, hu, e6, e69⟩⟩ := id hr
  have hxA : ivO (CNr 0 12 m) [] I := cnr_up nc_A hi (by rw [em]; exact nI_toInt (by omega))
  have v : ∀ j, j < 6 → vp_in (nI (6 * c) + nI j) L := fun j hj => by rw [nI_add]; exact vp_in_nI (by omega) (by omega)
  refine xrun_step fun K hK => ?_
  refine And.intro (v 1 (by omega)) ?_
  refine ctr_at (cnr_lift nc_A hm ct_X11_sell_0 rfl) (by decide) l _ I J [.ref 0, .int _] _ ⟨by decide, inI_fr _, trivial⟩ (fun e he => by cases he) hs hxA hq ?_
  intro v1 sh1 I1 J1 g1 w1 i1 q1 f1 p1
  obtain ⟨r1, rfl⟩ := int_post (by decide) p1
  obtain ⟨ru1, ta1, rs1, _, _, rfl⟩ := shX g1
  have hxB : ivO (CNr 68 3 m) [] I1 := cnr_up nc_B (cnr_dn nc_A hm i1) (by rw [f1 68 rfl, e68]; exact nI_toInt (by omega))
  refine And.intro (v 1 (by omega)) ?_
  refine ctr_at (cv_X12_sell_0 hm) (by decide) l _ I1 J1 [.ref 67, .int _] _ ⟨by decide, inI_fr _, trivial⟩ (fun e he => by cases he) g1 hxB q1 ?_
  intro v2 sh2 I2 J2 g2 w2 i2 q2 f2 p2
  obtain ⟨r2, rfl⟩ := int_post (by decide) p2
  exact hK 1403 (lloc c) [] _ I2 J2 99 18232 (hn _ I2 J2 ⟨⟨g2, cnr_dn nc_B hm i2, q2⟩, ra_mk hr ((f2 30 rfl).trans (f1 30 rfl)) ((f2 31 rfl).trans (f1 31 rfl)) ((f2 35 rfl).trans (f1 35 rfl)) ((f2 67 rfl).trans (f1 67 rfl)) ((f2 70 rfl).trans (f1 70 rfl)) hm hu ((congrFun (f2 0 rfl) 12).trans (cnr_n nc_A hm i1)) (cnr_n nc_B hm i2) ((congrFun ((f2 6 rfl).trans (f1 6 rfl)) 8).trans e6) ((congrFun ((f2 69 rfl).trans (f1 69 rfl)) 3).trans e69)⟩)
set_option maxRecDepth 100000 in
set_option maxHeartbeats 1000000 in
theorem law_c8 (l : Launch) (L : Nat) (xs : Nat → Int32) (n c : Nat) (hc : 6 * c + 6 ≤ L) (hL : L ≤ 3072) (sh : List XO) (I : XI) (J : XJ) (hv : linv sh I) (hn : ∀ (sh' : List XO) (I' : XI) (J' : XJ), linv sh' I' → lrun l L xs n 1403 (lloc c) [] sh' I' J' 99 18232) : lrun l L xs (n + 1) 450 (lloc c) [] sh I J 99 18232 := by
  obtain ⟨⟨hs, hi, hq⟩, hr⟩ := hv
  obtain ⟨ru, ta, rs, hru, hta, rfl⟩ := shX hs
  obtain ⟨⟨T, hT, eT, eT2, hB⟩, hf, ⟨m, hm, em, e68⟩, ⟨u, hu, e6, e69⟩⟩ := id hr
  have hxA : ivO (CNr 0 12 m) [] I := cnr_up nc_A hi (by rw [em]; exact nI_toInt (by omega))
  have v : ∀ j, j < 6 → vp_in (nI (6 * c) + nI j) L := fun j hj => by rw [nI_add]; exact vp_in_nI (by omega) (by omega)
  refine xrun_step fun K hK => ?_
  refine And.intro (v 1 (by omega)) ?_
  refine ctr_at (cnr_lift nc_A hm ct_X11_hour_0 rfl) (by decide) l _ I J [.ref 0, .int _] _ ⟨by decide, inI_fr _, trivial⟩ (fun e he => by cases he) hs hxA hq ?_
  intro v1 sh1 I1 J1 g1 w1 i1 q1 f1 p1
  obtain ⟨r1, rfl⟩ := int_post (by decide) p1
  obtain ⟨ru1, ta1, rs1, _, _, rfl⟩ := shX g1
  have hxB : ivO (CNr 68 3 m) [] I1 := cnr_up nc_B (cnr_dn nc_A hm i1) (by rw [f1 68 rfl, e68]; exact nI_toInt (by omega))
  refine And.intro (v 1 (by omega)) ?_
  refine ctr_at (cv_X12_hour_0 hm) (by decide) l _ I1 J1 [.ref 67, .int _] _ ⟨by decide, inI_fr _, trivial⟩ (fun e he => by cases he) g1 hxB q1 ?_
  intro v2 sh2 I2 J2 g2 w2 i2 q2 f2 p2
  obtain ⟨r2, rfl⟩ := int_post (by decide) p2
  exact hK 1403 (lloc c) [] _ I2 J2 99 18232 (hn _ I2 J2 ⟨⟨g2, cnr_dn nc_B hm i2, q2⟩, ra_mk hr ((f2 30 rfl).trans (f1 30 rfl)) ((f2 31 rfl).trans (f1 31 rfl)) ((f2 35 rfl).trans (f1 35 rfl)) ((f2 67 rfl).trans (f1 67 rfl)) ((f2 70 rfl).trans (f1 70 rfl)) hm hu ((congrFun (f2 0 rfl) 12).trans (cnr_n nc_A hm i1)) (cnr_n nc_B hm i2) ((congrFun ((f2 6 rfl).trans (f1 6 rfl)) 8).trans e6) ((congrFun ((f2 69 rfl).trans (f1 69 rfl)) 3).trans e69)⟩)
set_option maxRecDepth 100000 in
set_option maxHeartbeats 1000000 in
theorem law_c9 (l : Launch) (L : Nat) (xs : Nat → Int32) (n c : Nat) (hc : 6 * c + 6 ≤ L) (hL : L ≤ 3072) (sh : List XO) (I : XI) (J : XJ) (hv : linv sh I) (hn : ∀ (sh' : List XO) (I' : XI) (J' : XJ), linv sh' I' → lrun l L xs n 1403 (lloc c) [] sh' I' J' 99 18232) : lrun l L xs (n + 1) 473 (lloc c) [] sh I J 99 18232 := by
  obtain ⟨⟨hs, hi, hq⟩, hr⟩ := hv
  obtain ⟨ru, ta, rs, hru, hta, rfl⟩ := shX hs
  obtain ⟨⟨T, hT, eT, eT2, hB⟩, hf, ⟨m, hm, em, e68⟩, ⟨u, hu, e6, e69⟩⟩ := id hr
  have hxA : ivO (CNr 0 12 m) [] I := cnr_up nc_A hi (by rw [em]; exact nI_toInt (by omega))
  have v : ∀ j, j < 6 → vp_in (nI (6 * c) + nI j) L := fun j hj => by rw [nI_add]; exact vp_in_nI (by omega) (by omega)
  refine xrun_step fun K hK => ?_
  refine And.intro (v 1 (by omega)) ?_
  refine And.intro (v 2 (by omega)) ?_
  refine ctr_at (cnr_lift nc_A hm ct_X11_decades_0 rfl) (by decide) l _ I J [.ref 0, .int _, .int _] _ ⟨by decide, inI_fr _, inI_fr _, trivial⟩ (fun e he => by cases he) hs hxA hq ?_
  intro v1 sh1 I1 J1 g1 w1 i1 q1 f1 p1
  obtain ⟨r1, rfl⟩ := int_post (by decide) p1
  obtain ⟨ru1, ta1, rs1, _, _, rfl⟩ := shX g1
  have hxB : ivO (CNr 68 3 m) [] I1 := cnr_up nc_B (cnr_dn nc_A hm i1) (by rw [f1 68 rfl, e68]; exact nI_toInt (by omega))
  refine And.intro (v 1 (by omega)) ?_
  refine And.intro (v 2 (by omega)) ?_
  refine ctr_at (cv_X12_decades_0 hm) (by decide) l _ I1 J1 [.ref 67, .int _, .int _] _ ⟨by decide, inI_fr _, inI_fr _, trivial⟩ (fun e he => by cases he) g1 hxB q1 ?_
  intro v2 sh2 I2 J2 g2 w2 i2 q2 f2 p2
  obtain ⟨r2, rfl⟩ := int_post (by decide) p2
  exact hK 1403 (lloc c) [] _ I2 J2 99 18232 (hn _ I2 J2 ⟨⟨g2, cnr_dn nc_B hm i2, q2⟩, ra_mk hr ((f2 30 rfl).trans (f1 30 rfl)) ((f2 31 rfl).trans (f1 31 rfl)) ((f2 35 rfl).trans (f1 35 rfl)) ((f2 67 rfl).trans (f1 67 rfl)) ((f2 70 rfl).trans (f1 70 rfl)) hm hu ((congrFun (f2 0 rfl) 12).trans (cnr_n nc_A hm i1)) (cnr_n nc_B hm i2) ((congrFun ((f2 6 rfl).trans (f1 6 rfl)) 8).trans e6) ((congrFun ((f2 69 rfl).trans (f1 69 rfl)) 3).trans e69)⟩)
set_option maxRecDepth 100000 in
set_option maxHeartbeats 1000000 in
theorem law_c10 (l : Launch) (L : Nat) (xs : Nat → Int32) (n c : Nat) (hc : 6 * c + 6 ≤ L) (hL : L ≤ 3072) (sh : List XO) (I : XI) (J : XJ) (hv : linv sh I) (hn : ∀ (sh' : List XO) (I' : XI) (J' : XJ), linv sh' I' → lrun l L xs n 1403 (lloc c) [] sh' I' J' 99 18232) : lrun l L xs (n + 1) 506 (lloc c) [] sh I J 99 18232 := by
  obtain ⟨⟨hs, hi, hq⟩, hr⟩ := hv
  obtain ⟨ru, ta, rs, hru, hta, rfl⟩ := shX hs
  obtain ⟨⟨T, hT, eT, eT2, hB⟩, hf, ⟨m, hm, em, e68⟩, ⟨u, hu, e6, e69⟩⟩ := id hr
  have hxA : ivO (CNr 0 12 m) [] I := cnr_up nc_A hi (by rw [em]; exact nI_toInt (by omega))
  have v : ∀ j, j < 6 → vp_in (nI (6 * c) + nI j) L := fun j hj => by rw [nI_add]; exact vp_in_nI (by omega) (by omega)
  refine xrun_step fun K hK => ?_
  refine And.intro (v 1 (by omega)) ?_
  refine And.intro (v 2 (by omega)) ?_
  refine And.intro (v 3 (by omega)) ?_
  refine And.intro (v 4 (by omega)) ?_
  refine And.intro (v 5 (by omega)) ?_
  refine c_feed l 1397 ru ta rs (xs (nI (6 * c) + nI 1).toNatClampNeg) (xs (nI (6 * c) + nI 2).toNatClampNeg) (xs (nI (6 * c) + nI 3).toNatClampNeg) (xs (nI (6 * c) + nI 4).toNatClampNeg) (xs (nI (6 * c) + nI 5).toNatClampNeg) T hT I J _ eT (fun h I1 fd => ?_) (fun h => ?_)
  · have e67 : I1 67 3 = nI T := by
      rw [fd.1.1 67 (by decide) (by decide)]
      exact eT2
    refine And.intro (v 1 (by omega)) ?_
    refine And.intro (v 2 (by omega)) ?_
    refine And.intro (v 3 (by omega)) ?_
    refine And.intro (v 4 (by omega)) ?_
    refine And.intro (v 5 (by omega)) ?_
    refine m_feed l 1397 ru ta rs (xs (nI (6 * c) + nI 1).toNatClampNeg) (xs (nI (6 * c) + nI 2).toNatClampNeg) (xs (nI (6 * c) + nI 3).toNatClampNeg) (xs (nI (6 * c) + nI 4).toNatClampNeg) (xs (nI (6 * c) + nI 5).toNatClampNeg) T hT I1 J _ e67 (fun _ I2 pd => ?_) (fun g => absurd h g)
    exact hK 1403 (lloc c) [] _ I2 J 99 18232 (hn _ I2 J ⟨⟨hs, pd.2.2.1 (fd.2.2.1 hi), pd.2.2.2 (fd.2.2.2 hq)⟩, ra_feed hr h hB fd pd⟩)
  · refine And.intro (v 1 (by omega)) ?_
    refine And.intro (v 2 (by omega)) ?_
    refine And.intro (v 3 (by omega)) ?_
    refine And.intro (v 4 (by omega)) ?_
    refine And.intro (v 5 (by omega)) ?_
    refine m_feed l 1397 ru ta rs (xs (nI (6 * c) + nI 1).toNatClampNeg) (xs (nI (6 * c) + nI 2).toNatClampNeg) (xs (nI (6 * c) + nI 3).toNatClampNeg) (xs (nI (6 * c) + nI 4).toNatClampNeg) (xs (nI (6 * c) + nI 5).toNatClampNeg) T hT I J _ eT2 (fun g => absurd g h) (fun _ => ?_)
    exact hK 1403 (lloc c) [] _ I J 99 18232 (hn _ I J ⟨⟨hs, hi, hq⟩, hr⟩)
set_option maxRecDepth 100000 in
set_option maxHeartbeats 1000000 in
theorem law_c11 (l : Launch) (L : Nat) (xs : Nat → Int32) (n c : Nat) (hc : 6 * c + 6 ≤ L) (hL : L ≤ 3072) (sh : List XO) (I : XI) (J : XJ) (hv : linv sh I) (hn : ∀ (sh' : List XO) (I' : XI) (J' : XJ), linv sh' I' → lrun l L xs n 1403 (lloc c) [] sh' I' J' 99 18232) : lrun l L xs (n + 1) 569 (lloc c) [] sh I J 99 18232 := by
  obtain ⟨⟨hs, hi, hq⟩, hr⟩ := hv
  obtain ⟨ru, ta, rs, hru, hta, rfl⟩ := shX hs
  obtain ⟨⟨T, hT, eT, eT2, hB⟩, hf, ⟨m, hm, em, e68⟩, ⟨u, hu, e6, e69⟩⟩ := id hr
  have hxA : ivO (CNr 0 12 m) [] I := cnr_up nc_A hi (by rw [em]; exact nI_toInt (by omega))
  have v : ∀ j, j < 6 → vp_in (nI (6 * c) + nI j) L := fun j hj => by rw [nI_add]; exact vp_in_nI (by omega) (by omega)
  refine xrun_step fun K hK => ?_
  refine And.intro (v 1 (by omega)) ?_
  refine c_end l 1397 (xs (nI (6 * c) + nI 1).toNatClampNeg) ru ta rs I J _ (fun b => ?_) (fun b => ?_)
  · rw [eT] at b
    refine And.intro (v 1 (by omega)) ?_
    have b2 : 0 ≤ (xs (nI (6 * c) + nI 1).toNatClampNeg) ∧ (xs (nI (6 * c) + nI 1).toNatClampNeg) ≤ (uI I 30 1 (xs (nI (6 * c) + nI 1).toNatClampNeg)) 67 3 := ⟨b.1, by rw [show (uI I 30 1 (xs (nI (6 * c) + nI 1).toNatClampNeg)) 67 3 = nI T from eT2]; exact b.2⟩
    refine m_end l 1397 (xs (nI (6 * c) + nI 1).toNatClampNeg) ru ta rs (uI I 30 1 (xs (nI (6 * c) + nI 1).toNatClampNeg)) J _ (fun _ => ?_) (fun g => absurd b2 g)
    exact And.intro (fun _ => hK 1403 (lloc c) [] _ (uI (uI I 30 1 (xs (nI (6 * c) + nI 1).toNatClampNeg)) 67 3 (xs (nI (6 * c) + nI 1).toNatClampNeg)) J 99 18232 (hn _ (uI (uI I 30 1 (xs (nI (6 * c) + nI 1).toNatClampNeg)) 67 3 (xs (nI (6 * c) + nI 1).toNatClampNeg)) J ⟨⟨hs, iv_end hi hT b, qq_u (by decide) (qq_u (by decide) hq)⟩, ra_end hr hB hT b⟩)) (fun g => absurd rfl g)
  · rw [eT] at b
    refine And.intro (v 1 (by omega)) ?_
    refine m_end l 1397 (xs (nI (6 * c) + nI 1).toNatClampNeg) ru ta rs I J _ (fun g => absurd (by rw [eT2] at g; exact g) b) (fun _ => ?_)
    exact And.intro (fun _ => hK 1403 (lloc c) [] _ I J 99 18232 (hn _ I J ⟨⟨hs, hi, hq⟩, hr⟩)) (fun g => absurd rfl g)
set_option maxRecDepth 100000 in
set_option maxHeartbeats 1000000 in
theorem law_c12 (l : Launch) (L : Nat) (xs : Nat → Int32) (n c : Nat) (hc : 6 * c + 6 ≤ L) (hL : L ≤ 3072) (sh : List XO) (I : XI) (J : XJ) (hv : linv sh I) (hn : ∀ (sh' : List XO) (I' : XI) (J' : XJ), linv sh' I' → lrun l L xs n 1403 (lloc c) [] sh' I' J' 99 18232) : lrun l L xs (n + 1) 592 (lloc c) [] sh I J 99 18232 := by
  obtain ⟨⟨hs, hi, hq⟩, hr⟩ := hv
  obtain ⟨ru, ta, rs, hru, hta, rfl⟩ := shX hs
  obtain ⟨⟨T, hT, eT, eT2, hB⟩, hf, ⟨m, hm, em, e68⟩, ⟨u, hu, e6, e69⟩⟩ := id hr
  have hxA : ivO (CNr 0 12 m) [] I := cnr_up nc_A hi (by rw [em]; exact nI_toInt (by omega))
  have v : ∀ j, j < 6 → vp_in (nI (6 * c) + nI j) L := fun j hj => by rw [nI_add]; exact vp_in_nI (by omega) (by omega)
  refine xrun_step fun K hK => ?_
  refine c_text l 1365 ru ta rs (I 70) T m hT (by omega) I J _ em eT hB (fun h4 => ?_) (fun h4 I1 ok => ?_) (fun h4 I1 no => ?_)
  · refine ue_text l 1389 ru ta rs hs I J _ hi hq T m eT2 hT e68 (by omega) (fun _ => ?_) (fun g => absurd h4 (by omega))
    exact hK 1403 (lloc c) [] _ I J 99 18232 (hn _ I J ⟨⟨hs, hi, hq⟩, hr⟩)
  · have tt := TSP_t h4
    have gs : shO CF (shH ru (47 + 5 * m) rs) := sh_ok hru (txP_in h4) rs
    have ib : ivO CF [] (uI (uI I1 30 1 0) 0 12 (nI (m + 1))) := iv_put (iv_put (iv_rdf tt ok.1 hi) (by rw [cell_012.2]; exact ⟨by decide, by decide⟩)) (by rw [cell_012.1]; exact inI_nI (by omega) (by omega))
    have qb : QQ (uI (uI I1 30 1 0) 0 12 (nI (m + 1))) := qq_u (by decide) (qq_u (by decide) (qq_rdf tt ok.1 hq))
    have hh : ∀ p, 67 ≤ p → I1 p = I p := fun p hp => rdf_hi tt ok.1 (Or.inr (Or.inr (Or.inr hp)))
    have e70 : (uI (uI I1 30 1 0) 0 12 (nI (m + 1))) 70 = I 70 := hh 70 (by omega)
    have e67 : (uI (uI I1 30 1 0) 0 12 (nI (m + 1))) 67 3 = nI T := (congrFun (hh 67 (by omega)) 3).trans eT2
    have e683 : (uI (uI I1 30 1 0) 0 12 (nI (m + 1))) 68 3 = nI m := (congrFun (hh 68 (by omega)) 3).trans e68
    refine ue_text l 1389 ru (47 + 5 * m) rs gs (uI (uI I1 30 1 0) 0 12 (nI (m + 1))) J _ ib qb T m e67 hT e683 (by omega) (fun g => absurd g (by omega)) (fun _ r I2 J2 a1 a2 a3 a4 a5 a6 => ?_)
    obtain ⟨z1, z2, z3⟩ := a6
    rw [e70] at z3
    rcases z3 with ⟨_, ⟨f, p, en, f1, _⟩, _⟩ | ⟨rr, en, y4, y5, y3⟩
    · have dd := congrArg Prod.fst (Ends.det ok.2.2.2 en)
      dsimp only at dd
      omega
    · subst rr
      have G7 : I2 35 7 = I2 67 4 := by
        rw [y4, a4 35 rfl]
        exact ok.2.1
      have G8 : I2 35 8 = I2 67 5 := by
        rw [y5, a4 35 rfl]
        exact ok.2.2.1
      exact hK 1403 (lloc c) [] _ I2 J2 99 18232 (hn _ I2 J2 ⟨⟨gs, a2, a3⟩, ra_text hr (Ib := (uI (uI I1 30 1 0) 0 12 (nI (m + 1)))) (m := (m + 1)) tt (by omega) ok.1 rfl rfl rfl rfl rfl a4 a5.2 z1 ⟨G7, G8⟩ y3⟩)
  · have tt := TSP_t h4
    have gs : shO CF (shH ru (47 + 5 * m) rs) := sh_ok hru (txP_in h4) rs
    have ib : ivO CF [] (uI I1 30 1 0) := iv_put (iv_rdf tt no.1 hi) (by rw [cell_012.2]; exact ⟨by decide, by decide⟩)
    have qb : QQ (uI I1 30 1 0) := qq_u (by decide) (qq_rdf tt no.1 hq)
    have hh : ∀ p, 67 ≤ p → I1 p = I p := fun p hp => rdf_hi tt no.1 (Or.inr (Or.inr (Or.inr hp)))
    have e70 : (uI I1 30 1 0) 70 = I 70 := hh 70 (by omega)
    have e67 : (uI I1 30 1 0) 67 3 = nI T := (congrFun (hh 67 (by omega)) 3).trans eT2
    have e683 : (uI I1 30 1 0) 68 3 = nI m := (congrFun (hh 68 (by omega)) 3).trans e68
    refine ue_text l 1389 ru (47 + 5 * m) rs gs (uI I1 30 1 0) J _ ib qb T m e67 hT e683 (by omega) (fun g => absurd g (by omega)) (fun _ r I2 J2 a1 a2 a3 a4 a5 a6 => ?_)
    obtain ⟨z1, z2, z3⟩ := a6
    rw [e70] at z3
    obtain ⟨rd, f0, p0, w7, w8, w1, we⟩ := no
    rcases z3 with ⟨rr, ⟨f, p, en, f1, y4, y5⟩, y3⟩ | ⟨_, en, _⟩
    · subst rr
      have dd := Ends.det we en
      have d1 : f0 = f := congrArg Prod.fst dd
      have d2 : p0 = p := congrArg Prod.snd dd
      have G7 : I2 35 7 = I2 67 4 := by
        rw [y4, a4 35 rfl, ← d1]
        exact w7
      have G8 : I2 35 8 = I2 67 5 := by
        rw [y5, a4 35 rfl, ← d2]
        exact w8
      exact hK 1403 (lloc c) [] _ I2 J2 99 18232 (hn _ I2 J2 ⟨⟨gs, a2, a3⟩, ra_text hr (Ib := (uI I1 30 1 0)) (m := m) tt (by omega) rd rfl rfl ((congrFun (rdf_hi tt rd (Or.inl rfl)) 12).trans em) rfl rfl a4 a5.2 z1 ⟨G7, G8⟩ y3⟩)
    · have dd := congrArg Prod.fst (Ends.det we en)
      dsimp only at dd
      omega
set_option maxRecDepth 100000 in
set_option maxHeartbeats 1000000 in
theorem law_c13 (l : Launch) (L : Nat) (xs : Nat → Int32) (n c : Nat) (hc : 6 * c + 6 ≤ L) (hL : L ≤ 3072) (sh : List XO) (I : XI) (J : XJ) (hv : linv sh I) (hn : ∀ (sh' : List XO) (I' : XI) (J' : XJ), linv sh' I' → lrun l L xs n 1403 (lloc c) [] sh' I' J' 99 18232) : lrun l L xs (n + 1) 605 (lloc c) [] sh I J 99 18232 := by
  obtain ⟨⟨hs, hi, hq⟩, hr⟩ := hv
  obtain ⟨ru, ta, rs, hru, hta, rfl⟩ := shX hs
  obtain ⟨⟨T, hT, eT, eT2, hB⟩, hf, ⟨m, hm, em, e68⟩, ⟨u, hu, e6, e69⟩⟩ := id hr
  have hxA : ivO (CNr 0 12 m) [] I := cnr_up nc_A hi (by rw [em]; exact nI_toInt (by omega))
  have v : ∀ j, j < 6 → vp_in (nI (6 * c) + nI j) L := fun j hj => by rw [nI_add]; exact vp_in_nI (by omega) (by omega)
  refine xrun_step fun K hK => ?_
  refine And.intro (v 1 (by omega)) ?_
  refine c_fault l 1398 (xs (nI (6 * c) + nI 1).toNatClampNeg) ru ta rs I J _ (fun a => ?_) (fun a b => ?_) (fun a b => ?_) (fun a b0 b1 => ?_)
  · refine And.intro (v 1 (by omega)) ?_
    refine m_fault l 1398 (xs (nI (6 * c) + nI 1).toNatClampNeg) ru ta rs I J _ (fun z => ?_) (fun z => ?_) (fun z0 z1 => ?_)
    · exact hK 1403 (lloc c) [] _ I J 99 18232 (hn _ I J ⟨⟨hs, hi, hq⟩, hr⟩)
    · exact hK 1403 (lloc c) [] _ I J 99 18232 (hn _ I J ⟨⟨hs, hi, hq⟩, hr⟩)
    · exact hK 1403 (lloc c) [] _ I J 99 18232 (hn _ I J ⟨⟨hs, hi, hq⟩, hr⟩)
  · refine And.intro (v 1 (by omega)) ?_
    refine m_fault l 1398 (xs (nI (6 * c) + nI 1).toNatClampNeg) ru ta rs I J _ (fun z => ?_) (fun z => absurd (b.symm.trans z) (by decide)) (fun z0 z1 => absurd b z0)
    exact hK 1403 (lloc c) [] _ I J 99 18232 (hn _ I J ⟨⟨hs, hi, hq⟩, hr⟩)
  · refine And.intro (v 1 (by omega)) ?_
    refine m_fault l 1398 (xs (nI (6 * c) + nI 1).toNatClampNeg) ru ta rs I J _ (fun z => absurd (b.symm.trans z) (by decide)) (fun z => ?_) (fun z0 z1 => absurd b z1)
    exact hK 1403 (lloc c) [] _ I J 99 18232 (hn _ I J ⟨⟨hs, hi, hq⟩, hr⟩)
  · refine And.intro (v 1 (by omega)) ?_
    refine m_fault l 1398 (xs (nI (6 * c) + nI 1).toNatClampNeg) ru ta rs I J _ (fun z => absurd z b0) (fun z => absurd z b1) (fun z0 z1 => ?_)
    exact hK 1403 (lloc c) [] _ I J 99 18232 (hn _ I J ⟨⟨hs, hi, hq⟩, hr⟩)
set_option maxRecDepth 100000 in
set_option maxHeartbeats 1000000 in
theorem law_c14 (l : Launch) (L : Nat) (xs : Nat → Int32) (n c : Nat) (hc : 6 * c + 6 ≤ L) (hL : L ≤ 3072) (sh : List XO) (I : XI) (J : XJ) (hv : linv sh I) (hn : ∀ (sh' : List XO) (I' : XI) (J' : XJ), linv sh' I' → lrun l L xs n 1403 (lloc c) [] sh' I' J' 99 18232) : lrun l L xs (n + 1) 628 (lloc c) [] sh I J 99 18232 := by
  obtain ⟨⟨hs, hi, hq⟩, hr⟩ := hv
  obtain ⟨ru, ta, rs, hru, hta, rfl⟩ := shX hs
  obtain ⟨⟨T, hT, eT, eT2, hB⟩, hf, ⟨m, hm, em, e68⟩, ⟨u, hu, e6, e69⟩⟩ := id hr
  have hxA : ivO (CNr 0 12 m) [] I := cnr_up nc_A hi (by rw [em]; exact nI_toInt (by omega))
  have v : ∀ j, j < 6 → vp_in (nI (6 * c) + nI j) L := fun j hj => by rw [nI_add]; exact vp_in_nI (by omega) (by omega)
  refine xrun_step fun K hK => ?_
  refine And.intro (v 1 (by omega)) ?_
  refine c_by l 1396 m hm (xs (nI (6 * c) + nI 1).toNatClampNeg) ru ta rs I J _ hs hi hq em (fun b sh1 I1 J1 g1 i1 q1 f1 => ?_) (fun b => ?_)
  · obtain ⟨ru1, ta1, rs1, _, _, rfl⟩ := shX g1
    refine And.intro (v 1 (by omega)) ?_
    refine m_by l 1397 m hm (xs (nI (6 * c) + nI 1).toNatClampNeg) ru1 ta1 rs1 I1 J1 _ (by rw [f1 68 rfl]; exact e68) (fun _ => ?_) (fun g => absurd b g)
    exact hK 1403 (lloc c) [] _ (uI I1 68 4 (xs (nI (6 * c) + nI 1).toNatClampNeg)) J1 99 18232 (hn _ (uI I1 68 4 (xs (nI (6 * c) + nI 1).toNatClampNeg)) J1 ⟨⟨g1, iv_put (cnr_dn nc_A hm i1) (by rw [cell_684]; exact by_in hm b), qq_u (by decide) q1⟩, ra_mk hr (f1 30 rfl) (f1 31 rfl) (f1 35 rfl) (f1 67 rfl) (f1 70 rfl) hm hu (show I1 0 12 = nI m from cnr_n nc_A hm i1) ((congrFun (f1 68 rfl) 3).trans e68) ((congrFun (f1 6 rfl) 8).trans e6) ((congrFun (f1 69 rfl) 3).trans e69)⟩)
  · refine And.intro (v 1 (by omega)) ?_
    refine m_by l 1397 m hm (xs (nI (6 * c) + nI 1).toNatClampNeg) ru ta rs I J _ e68 (fun g => absurd g b) (fun _ => ?_)
    exact hK 1403 (lloc c) [] _ I J 99 18232 (hn _ I J ⟨⟨hs, hi, hq⟩, hr⟩)
set_option maxRecDepth 100000 in
set_option maxHeartbeats 1000000 in
theorem law_c15 (l : Launch) (L : Nat) (xs : Nat → Int32) (n c : Nat) (hc : 6 * c + 6 ≤ L) (hL : L ≤ 3072) (sh : List XO) (I : XI) (J : XJ) (hv : linv sh I) (hn : ∀ (sh' : List XO) (I' : XI) (J' : XJ), linv sh' I' → lrun l L xs n 1403 (lloc c) [] sh' I' J' 99 18232) : lrun l L xs (n + 1) 651 (lloc c) [] sh I J 99 18232 := by
  obtain ⟨⟨hs, hi, hq⟩, hr⟩ := hv
  obtain ⟨ru, ta, rs, hru, hta, rfl⟩ := shX hs
  obtain ⟨⟨T, hT, eT, eT2, hB⟩, hf, ⟨m, hm, em, e68⟩, ⟨u, hu, e6, e69⟩⟩ := id hr
  have hxA : ivO (CNr 0 12 m) [] I := cnr_up nc_A hi (by rw [em]; exact nI_toInt (by omega))
  have v : ∀ j, j < 6 → vp_in (nI (6 * c) + nI j) L := fun j hj => by rw [nI_add]; exact vp_in_nI (by omega) (by omega)
  refine xrun_step fun K hK => ?_
  refine And.intro (v 1 (by omega)) ?_
  refine ctr_at (cnr_lift nc_A hm ct_X11_played_0 rfl) (by decide) l _ I J [.ref 0, .int _] _ ⟨by decide, inI_fr _, trivial⟩ (fun e he => by cases he) hs hxA hq ?_
  intro v1 sh1 I1 J1 g1 w1 i1 q1 f1 p1
  obtain ⟨r1, rfl⟩ := int_post (by decide) p1
  obtain ⟨ru1, ta1, rs1, _, _, rfl⟩ := shX g1
  have hxB : ivO (CNr 68 3 m) [] I1 := cnr_up nc_B (cnr_dn nc_A hm i1) (by rw [f1 68 rfl, e68]; exact nI_toInt (by omega))
  refine And.intro (v 1 (by omega)) ?_
  refine ctr_at (cv_X12_played_0 hm) (by decide) l _ I1 J1 [.ref 67, .int _] _ ⟨by decide, inI_fr _, trivial⟩ (fun e he => by cases he) g1 hxB q1 ?_
  intro v2 sh2 I2 J2 g2 w2 i2 q2 f2 p2
  obtain ⟨r2, rfl⟩ := int_post (by decide) p2
  exact hK 1403 (lloc c) [] _ I2 J2 99 18232 (hn _ I2 J2 ⟨⟨g2, cnr_dn nc_B hm i2, q2⟩, ra_mk hr ((f2 30 rfl).trans (f1 30 rfl)) ((f2 31 rfl).trans (f1 31 rfl)) ((f2 35 rfl).trans (f1 35 rfl)) ((f2 67 rfl).trans (f1 67 rfl)) ((f2 70 rfl).trans (f1 70 rfl)) hm hu ((congrFun (f2 0 rfl) 12).trans (cnr_n nc_A hm i1)) (cnr_n nc_B hm i2) ((congrFun ((f2 6 rfl).trans (f1 6 rfl)) 8).trans e6) ((congrFun ((f2 69 rfl).trans (f1 69 rfl)) 3).trans e69)⟩)
set_option maxRecDepth 100000 in
set_option maxHeartbeats 1000000 in
theorem law_c16 (l : Launch) (L : Nat) (xs : Nat → Int32) (n c : Nat) (hc : 6 * c + 6 ≤ L) (hL : L ≤ 3072) (sh : List XO) (I : XI) (J : XJ) (hv : linv sh I) (hn : ∀ (sh' : List XO) (I' : XI) (J' : XJ), linv sh' I' → lrun l L xs n 1403 (lloc c) [] sh' I' J' 99 18232) : lrun l L xs (n + 1) 674 (lloc c) [] sh I J 99 18232 := by
  obtain ⟨⟨hs, hi, hq⟩, hr⟩ := hv
  obtain ⟨ru, ta, rs, hru, hta, rfl⟩ := shX hs
  obtain ⟨⟨T, hT, eT, eT2, hB⟩, hf, ⟨m, hm, em, e68⟩, ⟨u, hu, e6, e69⟩⟩ := id hr
  have hxA : ivO (CNr 0 12 m) [] I := cnr_up nc_A hi (by rw [em]; exact nI_toInt (by omega))
  have v : ∀ j, j < 6 → vp_in (nI (6 * c) + nI j) L := fun j hj => by rw [nI_add]; exact vp_in_nI (by omega) (by omega)
  refine xrun_step fun K hK => ?_
  refine ctr_at (cnr_lift nc_A hm ct_X11_undo_0 rfl) (by decide) l _ I J [.ref 0] _ ⟨by decide, trivial⟩ (fun e he => by cases he) hs hxA hq ?_
  intro v1 sh1 I1 J1 g1 w1 i1 q1 f1 p1
  obtain ⟨r1, rfl⟩ := int_post (by decide) p1
  obtain ⟨ru1, ta1, rs1, _, _, rfl⟩ := shX g1
  have hxB : ivO (CNr 68 3 m) [] I1 := cnr_up nc_B (cnr_dn nc_A hm i1) (by rw [f1 68 rfl, e68]; exact nI_toInt (by omega))
  refine ctr_at (cv_X12_undo_0 hm) (by decide) l _ I1 J1 [.ref 67] _ ⟨by decide, trivial⟩ (fun e he => by cases he) g1 hxB q1 ?_
  intro v2 sh2 I2 J2 g2 w2 i2 q2 f2 p2
  obtain ⟨r2, rfl⟩ := int_post (by decide) p2
  exact hK 1403 (lloc c) [] _ I2 J2 99 18232 (hn _ I2 J2 ⟨⟨g2, cnr_dn nc_B hm i2, q2⟩, ra_mk hr ((f2 30 rfl).trans (f1 30 rfl)) ((f2 31 rfl).trans (f1 31 rfl)) ((f2 35 rfl).trans (f1 35 rfl)) ((f2 67 rfl).trans (f1 67 rfl)) ((f2 70 rfl).trans (f1 70 rfl)) hm hu ((congrFun (f2 0 rfl) 12).trans (cnr_n nc_A hm i1)) (cnr_n nc_B hm i2) ((congrFun ((f2 6 rfl).trans (f1 6 rfl)) 8).trans e6) ((congrFun ((f2 69 rfl).trans (f1 69 rfl)) 3).trans e69)⟩)
set_option maxRecDepth 100000 in
set_option maxHeartbeats 1000000 in
theorem law_c17 (l : Launch) (L : Nat) (xs : Nat → Int32) (n c : Nat) (hc : 6 * c + 6 ≤ L) (hL : L ≤ 3072) (sh : List XO) (I : XI) (J : XJ) (hv : linv sh I) (hn : ∀ (sh' : List XO) (I' : XI) (J' : XJ), linv sh' I' → lrun l L xs n 1403 (lloc c) [] sh' I' J' 99 18232) : lrun l L xs (n + 1) 687 (lloc c) [] sh I J 99 18232 := by
  obtain ⟨⟨hs, hi, hq⟩, hr⟩ := hv
  obtain ⟨ru, ta, rs, hru, hta, rfl⟩ := shX hs
  obtain ⟨⟨T, hT, eT, eT2, hB⟩, hf, ⟨m, hm, em, e68⟩, ⟨u, hu, e6, e69⟩⟩ := id hr
  have hxA : ivO (CNr 0 12 m) [] I := cnr_up nc_A hi (by rw [em]; exact nI_toInt (by omega))
  have v : ∀ j, j < 6 → vp_in (nI (6 * c) + nI j) L := fun j hj => by rw [nI_add]; exact vp_in_nI (by omega) (by omega)
  refine xrun_step fun K hK => ?_
  refine And.intro (v 1 (by omega)) ?_
  refine And.intro (v 2 (by omega)) ?_
  refine ctr_at (cnr_lift nc_A hm ct_X11_of_0 rfl) (by decide) l _ I J [.ref 0, .int _, .int _] _ ⟨by decide, inI_fr _, inI_fr _, trivial⟩ (fun e he => by cases he) hs hxA hq ?_
  intro v1 sh1 I1 J1 g1 w1 i1 q1 f1 p1
  obtain ⟨r1, rfl⟩ := int_post (by decide) p1
  obtain ⟨ru1, ta1, rs1, _, _, rfl⟩ := shX g1
  have hxB : ivO (CNr 68 3 m) [] I1 := cnr_up nc_B (cnr_dn nc_A hm i1) (by rw [f1 68 rfl, e68]; exact nI_toInt (by omega))
  refine And.intro (v 1 (by omega)) ?_
  refine And.intro (v 2 (by omega)) ?_
  refine ctr_at (cnr_lift nc_B hm ct_X12_of_0 rfl) (by decide) l _ I1 J1 [.ref 67, .int _, .int _] _ ⟨by decide, inI_fr _, inI_fr _, trivial⟩ (fun e he => by cases he) g1 hxB q1 ?_
  intro v2 sh2 I2 J2 g2 w2 i2 q2 f2 p2
  obtain ⟨r2, rfl⟩ := int_post (by decide) p2
  exact hK 1403 (lloc c) [] _ I2 J2 99 18232 (hn _ I2 J2 ⟨⟨g2, cnr_dn nc_B hm i2, q2⟩, ra_mk hr ((f2 30 rfl).trans (f1 30 rfl)) ((f2 31 rfl).trans (f1 31 rfl)) ((f2 35 rfl).trans (f1 35 rfl)) ((f2 67 rfl).trans (f1 67 rfl)) ((f2 70 rfl).trans (f1 70 rfl)) hm hu ((congrFun (f2 0 rfl) 12).trans (cnr_n nc_A hm i1)) (cnr_n nc_B hm i2) ((congrFun ((f2 6 rfl).trans (f1 6 rfl)) 8).trans e6) ((congrFun ((f2 69 rfl).trans (f1 69 rfl)) 3).trans e69)⟩)
set_option maxRecDepth 100000 in
set_option maxHeartbeats 1000000 in
theorem law_c18 (l : Launch) (L : Nat) (xs : Nat → Int32) (n c : Nat) (hc : 6 * c + 6 ≤ L) (hL : L ≤ 3072) (sh : List XO) (I : XI) (J : XJ) (hv : linv sh I) (hn : ∀ (sh' : List XO) (I' : XI) (J' : XJ), linv sh' I' → lrun l L xs n 1403 (lloc c) [] sh' I' J' 99 18232) : lrun l L xs (n + 1) 720 (lloc c) [] sh I J 99 18232 := by
  obtain ⟨⟨hs, hi, hq⟩, hr⟩ := hv
  obtain ⟨ru, ta, rs, hru, hta, rfl⟩ := shX hs
  obtain ⟨⟨T, hT, eT, eT2, hB⟩, hf, ⟨m, hm, em, e68⟩, ⟨u, hu, e6, e69⟩⟩ := id hr
  have hxA : ivO (CNr 0 12 m) [] I := cnr_up nc_A hi (by rw [em]; exact nI_toInt (by omega))
  have v : ∀ j, j < 6 → vp_in (nI (6 * c) + nI j) L := fun j hj => by rw [nI_add]; exact vp_in_nI (by omega) (by omega)
  refine xrun_step fun K hK => ?_
  refine And.intro (v 1 (by omega)) ?_
  refine And.intro (v 2 (by omega)) ?_
  refine ctr_at (cnr_lift nc_A hm ct_X11_ofReaper_0 rfl) (by decide) l _ I J [.ref 0, .int _, .int _] _ ⟨by decide, inI_fr _, inI_fr _, trivial⟩ (fun e he => by cases he) hs hxA hq ?_
  intro v1 sh1 I1 J1 g1 w1 i1 q1 f1 p1
  obtain ⟨r1, rfl⟩ := int_post (by decide) p1
  obtain ⟨ru1, ta1, rs1, _, _, rfl⟩ := shX g1
  have hxB : ivO (CNr 68 3 m) [] I1 := cnr_up nc_B (cnr_dn nc_A hm i1) (by rw [f1 68 rfl, e68]; exact nI_toInt (by omega))
  refine And.intro (v 1 (by omega)) ?_
  refine And.intro (v 2 (by omega)) ?_
  refine ctr_at (cnr_lift nc_B hm ct_X12_ofReaper_0 rfl) (by decide) l _ I1 J1 [.ref 67, .int _, .int _] _ ⟨by decide, inI_fr _, inI_fr _, trivial⟩ (fun e he => by cases he) g1 hxB q1 ?_
  intro v2 sh2 I2 J2 g2 w2 i2 q2 f2 p2
  obtain ⟨r2, rfl⟩ := int_post (by decide) p2
  exact hK 1403 (lloc c) [] _ I2 J2 99 18232 (hn _ I2 J2 ⟨⟨g2, cnr_dn nc_B hm i2, q2⟩, ra_mk hr ((f2 30 rfl).trans (f1 30 rfl)) ((f2 31 rfl).trans (f1 31 rfl)) ((f2 35 rfl).trans (f1 35 rfl)) ((f2 67 rfl).trans (f1 67 rfl)) ((f2 70 rfl).trans (f1 70 rfl)) hm hu ((congrFun (f2 0 rfl) 12).trans (cnr_n nc_A hm i1)) (cnr_n nc_B hm i2) ((congrFun ((f2 6 rfl).trans (f1 6 rfl)) 8).trans e6) ((congrFun ((f2 69 rfl).trans (f1 69 rfl)) 3).trans e69)⟩)
set_option maxRecDepth 100000 in
set_option maxHeartbeats 1000000 in
theorem law_c19 (l : Launch) (L : Nat) (xs : Nat → Int32) (n c : Nat) (hc : 6 * c + 6 ≤ L) (hL : L ≤ 3072) (sh : List XO) (I : XI) (J : XJ) (hv : linv sh I) (hn : ∀ (sh' : List XO) (I' : XI) (J' : XJ), linv sh' I' → lrun l L xs n 1403 (lloc c) [] sh' I' J' 99 18232) : lrun l L xs (n + 1) 753 (lloc c) [] sh I J 99 18232 := by
  obtain ⟨⟨hs, hi, hq⟩, hr⟩ := hv
  obtain ⟨ru, ta, rs, hru, hta, rfl⟩ := shX hs
  obtain ⟨⟨T, hT, eT, eT2, hB⟩, hf, ⟨m, hm, em, e68⟩, ⟨u, hu, e6, e69⟩⟩ := id hr
  have hxA : ivO (CNr 0 12 m) [] I := cnr_up nc_A hi (by rw [em]; exact nI_toInt (by omega))
  have v : ∀ j, j < 6 → vp_in (nI (6 * c) + nI j) L := fun j hj => by rw [nI_add]; exact vp_in_nI (by omega) (by omega)
  refine xrun_step fun K hK => ?_
  refine And.intro (v 1 (by omega)) ?_
  refine And.intro (v 2 (by omega)) ?_
  refine ctr_at (cnr_lift nc_A hm ct_X11_bale_0 rfl) (by decide) l _ I J [.ref 0, .int _, .int _] _ ⟨by decide, inI_fr _, inI_fr _, trivial⟩ (fun e he => by cases he) hs hxA hq ?_
  intro v1 sh1 I1 J1 g1 w1 i1 q1 f1 p1
  obtain ⟨r1, rfl⟩ := int_post (by decide) p1
  obtain ⟨ru1, ta1, rs1, _, _, rfl⟩ := shX g1
  have hxB : ivO (CNr 68 3 m) [] I1 := cnr_up nc_B (cnr_dn nc_A hm i1) (by rw [f1 68 rfl, e68]; exact nI_toInt (by omega))
  refine And.intro (v 1 (by omega)) ?_
  refine And.intro (v 2 (by omega)) ?_
  refine ctr_at (cnr_lift nc_B hm ct_X12_bale_0 rfl) (by decide) l _ I1 J1 [.ref 67, .int _, .int _] _ ⟨by decide, inI_fr _, inI_fr _, trivial⟩ (fun e he => by cases he) g1 hxB q1 ?_
  intro v2 sh2 I2 J2 g2 w2 i2 q2 f2 p2
  obtain ⟨r2, rfl⟩ := int_post (by decide) p2
  exact hK 1403 (lloc c) [] _ I2 J2 99 18232 (hn _ I2 J2 ⟨⟨g2, cnr_dn nc_B hm i2, q2⟩, ra_mk hr ((f2 30 rfl).trans (f1 30 rfl)) ((f2 31 rfl).trans (f1 31 rfl)) ((f2 35 rfl).trans (f1 35 rfl)) ((f2 67 rfl).trans (f1 67 rfl)) ((f2 70 rfl).trans (f1 70 rfl)) hm hu ((congrFun (f2 0 rfl) 12).trans (cnr_n nc_A hm i1)) (cnr_n nc_B hm i2) ((congrFun ((f2 6 rfl).trans (f1 6 rfl)) 8).trans e6) ((congrFun ((f2 69 rfl).trans (f1 69 rfl)) 3).trans e69)⟩)
set_option maxRecDepth 100000 in
set_option maxHeartbeats 1000000 in
theorem law_c20 (l : Launch) (L : Nat) (xs : Nat → Int32) (n c : Nat) (hc : 6 * c + 6 ≤ L) (hL : L ≤ 3072) (sh : List XO) (I : XI) (J : XJ) (hv : linv sh I) (hn : ∀ (sh' : List XO) (I' : XI) (J' : XJ), linv sh' I' → lrun l L xs n 1403 (lloc c) [] sh' I' J' 99 18232) : lrun l L xs (n + 1) 786 (lloc c) [] sh I J 99 18232 := by
  obtain ⟨⟨hs, hi, hq⟩, hr⟩ := hv
  obtain ⟨ru, ta, rs, hru, hta, rfl⟩ := shX hs
  obtain ⟨⟨T, hT, eT, eT2, hB⟩, hf, ⟨m, hm, em, e68⟩, ⟨u, hu, e6, e69⟩⟩ := id hr
  have hxA : ivO (CNr 0 12 m) [] I := cnr_up nc_A hi (by rw [em]; exact nI_toInt (by omega))
  have v : ∀ j, j < 6 → vp_in (nI (6 * c) + nI j) L := fun j hj => by rw [nI_add]; exact vp_in_nI (by omega) (by omega)
  refine xrun_step fun K hK => ?_
  refine And.intro (v 1 (by omega)) ?_
  refine And.intro (v 2 (by omega)) ?_
  refine ctr_at (cnr_lift nc_A hm ct_X11_ofBarn_0 rfl) (by decide) l _ I J [.ref 0, .int _, .int _] _ ⟨by decide, inI_fr _, inI_fr _, trivial⟩ (fun e he => by cases he) hs hxA hq ?_
  intro v1 sh1 I1 J1 g1 w1 i1 q1 f1 p1
  obtain ⟨r1, rfl⟩ := int_post (by decide) p1
  obtain ⟨ru1, ta1, rs1, _, _, rfl⟩ := shX g1
  have hxB : ivO (CNr 68 3 m) [] I1 := cnr_up nc_B (cnr_dn nc_A hm i1) (by rw [f1 68 rfl, e68]; exact nI_toInt (by omega))
  refine And.intro (v 1 (by omega)) ?_
  refine And.intro (v 2 (by omega)) ?_
  refine ctr_at (cnr_lift nc_B hm ct_X12_ofBarn_0 rfl) (by decide) l _ I1 J1 [.ref 67, .int _, .int _] _ ⟨by decide, inI_fr _, inI_fr _, trivial⟩ (fun e he => by cases he) g1 hxB q1 ?_
  intro v2 sh2 I2 J2 g2 w2 i2 q2 f2 p2
  obtain ⟨r2, rfl⟩ := int_post (by decide) p2
  exact hK 1403 (lloc c) [] _ I2 J2 99 18232 (hn _ I2 J2 ⟨⟨g2, cnr_dn nc_B hm i2, q2⟩, ra_mk hr ((f2 30 rfl).trans (f1 30 rfl)) ((f2 31 rfl).trans (f1 31 rfl)) ((f2 35 rfl).trans (f1 35 rfl)) ((f2 67 rfl).trans (f1 67 rfl)) ((f2 70 rfl).trans (f1 70 rfl)) hm hu ((congrFun (f2 0 rfl) 12).trans (cnr_n nc_A hm i1)) (cnr_n nc_B hm i2) ((congrFun ((f2 6 rfl).trans (f1 6 rfl)) 8).trans e6) ((congrFun ((f2 69 rfl).trans (f1 69 rfl)) 3).trans e69)⟩)
set_option maxRecDepth 100000 in
set_option maxHeartbeats 1000000 in
theorem law_c21 (l : Launch) (L : Nat) (xs : Nat → Int32) (n c : Nat) (hc : 6 * c + 6 ≤ L) (hL : L ≤ 3072) (sh : List XO) (I : XI) (J : XJ) (hv : linv sh I) (hn : ∀ (sh' : List XO) (I' : XI) (J' : XJ), linv sh' I' → lrun l L xs n 1403 (lloc c) [] sh' I' J' 99 18232) : lrun l L xs (n + 1) 819 (lloc c) [] sh I J 99 18232 := by
  obtain ⟨⟨hs, hi, hq⟩, hr⟩ := hv
  obtain ⟨ru, ta, rs, hru, hta, rfl⟩ := shX hs
  obtain ⟨⟨T, hT, eT, eT2, hB⟩, hf, ⟨m, hm, em, e68⟩, ⟨u, hu, e6, e69⟩⟩ := id hr
  have hxA : ivO (CNr 0 12 m) [] I := cnr_up nc_A hi (by rw [em]; exact nI_toInt (by omega))
  have v : ∀ j, j < 6 → vp_in (nI (6 * c) + nI j) L := fun j hj => by rw [nI_add]; exact vp_in_nI (by omega) (by omega)
  refine xrun_step fun K hK => ?_
  refine And.intro (v 1 (by omega)) ?_
  refine And.intro (v 2 (by omega)) ?_
  refine ctr_at (cnr_lift nc_A hm ct_X11_foretold_0 rfl) (by decide) l _ I J [.ref 0, .int _, .int _] _ ⟨by decide, inI_fr _, inI_fr _, trivial⟩ (fun e he => by cases he) hs hxA hq ?_
  intro v1 sh1 I1 J1 g1 w1 i1 q1 f1 p1
  obtain ⟨r1, rfl⟩ := int_post (by decide) p1
  obtain ⟨ru1, ta1, rs1, _, _, rfl⟩ := shX g1
  have hxB : ivO (CNr 68 3 m) [] I1 := cnr_up nc_B (cnr_dn nc_A hm i1) (by rw [f1 68 rfl, e68]; exact nI_toInt (by omega))
  refine And.intro (v 1 (by omega)) ?_
  refine And.intro (v 2 (by omega)) ?_
  refine ctr_at (cnr_lift nc_B hm ct_X12_foretold_0 rfl) (by decide) l _ I1 J1 [.ref 67, .int _, .int _] _ ⟨by decide, inI_fr _, inI_fr _, trivial⟩ (fun e he => by cases he) g1 hxB q1 ?_
  intro v2 sh2 I2 J2 g2 w2 i2 q2 f2 p2
  obtain ⟨r2, rfl⟩ := int_post (by decide) p2
  exact hK 1403 (lloc c) [] _ I2 J2 99 18232 (hn _ I2 J2 ⟨⟨g2, cnr_dn nc_B hm i2, q2⟩, ra_mk hr ((f2 30 rfl).trans (f1 30 rfl)) ((f2 31 rfl).trans (f1 31 rfl)) ((f2 35 rfl).trans (f1 35 rfl)) ((f2 67 rfl).trans (f1 67 rfl)) ((f2 70 rfl).trans (f1 70 rfl)) hm hu ((congrFun (f2 0 rfl) 12).trans (cnr_n nc_A hm i1)) (cnr_n nc_B hm i2) ((congrFun ((f2 6 rfl).trans (f1 6 rfl)) 8).trans e6) ((congrFun ((f2 69 rfl).trans (f1 69 rfl)) 3).trans e69)⟩)
set_option maxRecDepth 100000 in
set_option maxHeartbeats 1000000 in
theorem law_c22 (l : Launch) (L : Nat) (xs : Nat → Int32) (n c : Nat) (hc : 6 * c + 6 ≤ L) (hL : L ≤ 3072) (sh : List XO) (I : XI) (J : XJ) (hv : linv sh I) (hn : ∀ (sh' : List XO) (I' : XI) (J' : XJ), linv sh' I' → lrun l L xs n 1403 (lloc c) [] sh' I' J' 99 18232) : lrun l L xs (n + 1) 852 (lloc c) [] sh I J 99 18232 := by
  obtain ⟨⟨hs, hi, hq⟩, hr⟩ := hv
  obtain ⟨ru, ta, rs, hru, hta, rfl⟩ := shX hs
  obtain ⟨⟨T, hT, eT, eT2, hB⟩, hf, ⟨m, hm, em, e68⟩, ⟨u, hu, e6, e69⟩⟩ := id hr
  have hxA : ivO (CNr 0 12 m) [] I := cnr_up nc_A hi (by rw [em]; exact nI_toInt (by omega))
  have v : ∀ j, j < 6 → vp_in (nI (6 * c) + nI j) L := fun j hj => by rw [nI_add]; exact vp_in_nI (by omega) (by omega)
  refine xrun_step fun K hK => ?_
  refine And.intro (v 1 (by omega)) ?_
  refine And.intro (v 2 (by omega)) ?_
  refine ctr_at (cnr_lift nc_A hm ct_X11_stored_0 rfl) (by decide) l _ I J [.ref 0, .int _, .int _] _ ⟨by decide, inI_fr _, inI_fr _, trivial⟩ (fun e he => by cases he) hs hxA hq ?_
  intro v1 sh1 I1 J1 g1 w1 i1 q1 f1 p1
  obtain ⟨r1, rfl⟩ := int_post (by decide) p1
  obtain ⟨ru1, ta1, rs1, _, _, rfl⟩ := shX g1
  have hxB : ivO (CNr 68 3 m) [] I1 := cnr_up nc_B (cnr_dn nc_A hm i1) (by rw [f1 68 rfl, e68]; exact nI_toInt (by omega))
  refine And.intro (v 1 (by omega)) ?_
  refine And.intro (v 2 (by omega)) ?_
  refine ctr_at (cnr_lift nc_B hm ct_X12_stored_0 rfl) (by decide) l _ I1 J1 [.ref 67, .int _, .int _] _ ⟨by decide, inI_fr _, inI_fr _, trivial⟩ (fun e he => by cases he) g1 hxB q1 ?_
  intro v2 sh2 I2 J2 g2 w2 i2 q2 f2 p2
  obtain ⟨r2, rfl⟩ := int_post (by decide) p2
  exact hK 1403 (lloc c) [] _ I2 J2 99 18232 (hn _ I2 J2 ⟨⟨g2, cnr_dn nc_B hm i2, q2⟩, ra_mk hr ((f2 30 rfl).trans (f1 30 rfl)) ((f2 31 rfl).trans (f1 31 rfl)) ((f2 35 rfl).trans (f1 35 rfl)) ((f2 67 rfl).trans (f1 67 rfl)) ((f2 70 rfl).trans (f1 70 rfl)) hm hu ((congrFun (f2 0 rfl) 12).trans (cnr_n nc_A hm i1)) (cnr_n nc_B hm i2) ((congrFun ((f2 6 rfl).trans (f1 6 rfl)) 8).trans e6) ((congrFun ((f2 69 rfl).trans (f1 69 rfl)) 3).trans e69)⟩)
set_option maxRecDepth 100000 in
set_option maxHeartbeats 1000000 in
theorem law_c23 (l : Launch) (L : Nat) (xs : Nat → Int32) (n c : Nat) (hc : 6 * c + 6 ≤ L) (hL : L ≤ 3072) (sh : List XO) (I : XI) (J : XJ) (hv : linv sh I) (hn : ∀ (sh' : List XO) (I' : XI) (J' : XJ), linv sh' I' → lrun l L xs n 1403 (lloc c) [] sh' I' J' 99 18232) : lrun l L xs (n + 1) 885 (lloc c) [] sh I J 99 18232 := by
  obtain ⟨⟨hs, hi, hq⟩, hr⟩ := hv
  obtain ⟨ru, ta, rs, hru, hta, rfl⟩ := shX hs
  obtain ⟨⟨T, hT, eT, eT2, hB⟩, hf, ⟨m, hm, em, e68⟩, ⟨u, hu, e6, e69⟩⟩ := id hr
  have hxA : ivO (CNr 0 12 m) [] I := cnr_up nc_A hi (by rw [em]; exact nI_toInt (by omega))
  have v : ∀ j, j < 6 → vp_in (nI (6 * c) + nI j) L := fun j hj => by rw [nI_add]; exact vp_in_nI (by omega) (by omega)
  refine xrun_step fun K hK => ?_
  refine And.intro (v 1 (by omega)) ?_
  refine And.intro (v 2 (by omega)) ?_
  refine And.intro (v 3 (by omega)) ?_
  refine And.intro (v 4 (by omega)) ?_
  refine ctr_at (cnr_lift nc_A hm ct_X11_most_0 rfl) (by decide) l _ I J [.ref 0, .int _, .int _, .int _, .int _] _ ⟨by decide, inI_fr _, inI_fr _, inI_fr _, inI_fr _, trivial⟩ (fun e he => by cases he) hs hxA hq ?_
  intro v1 sh1 I1 J1 g1 w1 i1 q1 f1 p1
  obtain ⟨r1, rfl⟩ := int_post (by decide) p1
  obtain ⟨ru1, ta1, rs1, _, _, rfl⟩ := shX g1
  have hxB : ivO (CNr 68 3 m) [] I1 := cnr_up nc_B (cnr_dn nc_A hm i1) (by rw [f1 68 rfl, e68]; exact nI_toInt (by omega))
  refine And.intro (v 1 (by omega)) ?_
  refine And.intro (v 2 (by omega)) ?_
  refine And.intro (v 3 (by omega)) ?_
  refine And.intro (v 4 (by omega)) ?_
  refine ctr_at (cnr_lift nc_B hm ct_X12_most_0 rfl) (by decide) l _ I1 J1 [.ref 67, .int _, .int _, .int _, .int _] _ ⟨by decide, inI_fr _, inI_fr _, inI_fr _, inI_fr _, trivial⟩ (fun e he => by cases he) g1 hxB q1 ?_
  intro v2 sh2 I2 J2 g2 w2 i2 q2 f2 p2
  obtain ⟨r2, rfl⟩ := int_post (by decide) p2
  exact hK 1403 (lloc c) [] _ I2 J2 99 18232 (hn _ I2 J2 ⟨⟨g2, cnr_dn nc_B hm i2, q2⟩, ra_mk hr ((f2 30 rfl).trans (f1 30 rfl)) ((f2 31 rfl).trans (f1 31 rfl)) ((f2 35 rfl).trans (f1 35 rfl)) ((f2 67 rfl).trans (f1 67 rfl)) ((f2 70 rfl).trans (f1 70 rfl)) hm hu ((congrFun (f2 0 rfl) 12).trans (cnr_n nc_A hm i1)) (cnr_n nc_B hm i2) ((congrFun ((f2 6 rfl).trans (f1 6 rfl)) 8).trans e6) ((congrFun ((f2 69 rfl).trans (f1 69 rfl)) 3).trans e69)⟩)
set_option maxRecDepth 100000 in
set_option maxHeartbeats 1000000 in
theorem law_c24 (l : Launch) (L : Nat) (xs : Nat → Int32) (n c : Nat) (hc : 6 * c + 6 ≤ L) (hL : L ≤ 3072) (sh : List XO) (I : XI) (J : XJ) (hv : linv sh I) (hn : ∀ (sh' : List XO) (I' : XI) (J' : XJ), linv sh' I' → lrun l L xs n 1403 (lloc c) [] sh' I' J' 99 18232) : lrun l L xs (n + 1) 938 (lloc c) [] sh I J 99 18232 := by
  obtain ⟨⟨hs, hi, hq⟩, hr⟩ := hv
  obtain ⟨ru, ta, rs, hru, hta, rfl⟩ := shX hs
  obtain ⟨⟨T, hT, eT, eT2, hB⟩, hf, ⟨m, hm, em, e68⟩, ⟨u, hu, e6, e69⟩⟩ := id hr
  have hxA : ivO (CNr 0 12 m) [] I := cnr_up nc_A hi (by rw [em]; exact nI_toInt (by omega))
  have v : ∀ j, j < 6 → vp_in (nI (6 * c) + nI j) L := fun j hj => by rw [nI_add]; exact vp_in_nI (by omega) (by omega)
  refine xrun_step fun K hK => ?_
  refine And.intro (v 1 (by omega)) ?_
  refine And.intro (v 2 (by omega)) ?_
  refine ctr_at (cv_X11_need_0 hm) (by decide) l _ I J [.ref 0, .int _, .int _] _ ⟨by decide, inI_fr _, inI_fr _, trivial⟩ (fun e he => by cases he) hs hxA hq ?_
  intro v1 sh1 I1 J1 g1 w1 i1 q1 f1 p1
  obtain ⟨r1, rfl⟩ := int_post (by decide) p1
  obtain ⟨ru1, ta1, rs1, _, _, rfl⟩ := shX g1
  have hxB : ivO (CNr 68 3 m) [] I1 := cnr_up nc_B (cnr_dn nc_A hm i1) (by rw [f1 68 rfl, e68]; exact nI_toInt (by omega))
  refine And.intro (v 1 (by omega)) ?_
  refine And.intro (v 2 (by omega)) ?_
  refine ctr_at (cv_X12_need_0 hm) (by decide) l _ I1 J1 [.ref 67, .int _, .int _] _ ⟨by decide, inI_fr _, inI_fr _, trivial⟩ (fun e he => by cases he) g1 hxB q1 ?_
  intro v2 sh2 I2 J2 g2 w2 i2 q2 f2 p2
  obtain ⟨r2, rfl⟩ := int_post (by decide) p2
  exact hK 1403 (lloc c) [] _ I2 J2 99 18232 (hn _ I2 J2 ⟨⟨g2, cnr_dn nc_B hm i2, q2⟩, ra_mk hr ((f2 30 rfl).trans (f1 30 rfl)) ((f2 31 rfl).trans (f1 31 rfl)) ((f2 35 rfl).trans (f1 35 rfl)) ((f2 67 rfl).trans (f1 67 rfl)) ((f2 70 rfl).trans (f1 70 rfl)) hm hu ((congrFun (f2 0 rfl) 12).trans (cnr_n nc_A hm i1)) (cnr_n nc_B hm i2) ((congrFun ((f2 6 rfl).trans (f1 6 rfl)) 8).trans e6) ((congrFun ((f2 69 rfl).trans (f1 69 rfl)) 3).trans e69)⟩)
set_option maxRecDepth 100000 in
set_option maxHeartbeats 1000000 in
theorem law_c25 (l : Launch) (L : Nat) (xs : Nat → Int32) (n c : Nat) (hc : 6 * c + 6 ≤ L) (hL : L ≤ 3072) (sh : List XO) (I : XI) (J : XJ) (hv : linv sh I) (hn : ∀ (sh' : List XO) (I' : XI) (J' : XJ), linv sh' I' → lrun l L xs n 1403 (lloc c) [] sh' I' J' 99 18232) : lrun l L xs (n + 1) 971 (lloc c) [] sh I J 99 18232 := by
  obtain ⟨⟨hs, hi, hq⟩, hr⟩ := hv
  obtain ⟨ru, ta, rs, hru, hta, rfl⟩ := shX hs
  obtain ⟨⟨T, hT, eT, eT2, hB⟩, hf, ⟨m, hm, em, e68⟩, ⟨u, hu, e6, e69⟩⟩ := id hr
  have hxA : ivO (CNr 0 12 m) [] I := cnr_up nc_A hi (by rw [em]; exact nI_toInt (by omega))
  have v : ∀ j, j < 6 → vp_in (nI (6 * c) + nI j) L := fun j hj => by rw [nI_add]; exact vp_in_nI (by omega) (by omega)
  refine xrun_step fun K hK => ?_
  refine And.intro (v 1 (by omega)) ?_
  refine ctr_at (cnr_lift nc_A hm ct_X11_unmet_0 rfl) (by decide) l _ I J [.ref 0, .int _] _ ⟨by decide, inI_fr _, trivial⟩ (fun e he => by cases he) hs hxA hq ?_
  intro v1 sh1 I1 J1 g1 w1 i1 q1 f1 p1
  obtain ⟨r1, rfl⟩ := int_post (by decide) p1
  obtain ⟨ru1, ta1, rs1, _, _, rfl⟩ := shX g1
  have hxB : ivO (CNr 68 3 m) [] I1 := cnr_up nc_B (cnr_dn nc_A hm i1) (by rw [f1 68 rfl, e68]; exact nI_toInt (by omega))
  refine And.intro (v 1 (by omega)) ?_
  refine ctr_at (cnr_lift nc_B hm ct_X12_unmet_0 rfl) (by decide) l _ I1 J1 [.ref 67, .int _] _ ⟨by decide, inI_fr _, trivial⟩ (fun e he => by cases he) g1 hxB q1 ?_
  intro v2 sh2 I2 J2 g2 w2 i2 q2 f2 p2
  obtain ⟨r2, rfl⟩ := int_post (by decide) p2
  exact hK 1403 (lloc c) [] _ I2 J2 99 18232 (hn _ I2 J2 ⟨⟨g2, cnr_dn nc_B hm i2, q2⟩, ra_mk hr ((f2 30 rfl).trans (f1 30 rfl)) ((f2 31 rfl).trans (f1 31 rfl)) ((f2 35 rfl).trans (f1 35 rfl)) ((f2 67 rfl).trans (f1 67 rfl)) ((f2 70 rfl).trans (f1 70 rfl)) hm hu ((congrFun (f2 0 rfl) 12).trans (cnr_n nc_A hm i1)) (cnr_n nc_B hm i2) ((congrFun ((f2 6 rfl).trans (f1 6 rfl)) 8).trans e6) ((congrFun ((f2 69 rfl).trans (f1 69 rfl)) 3).trans e69)⟩)
set_option maxRecDepth 100000 in
set_option maxHeartbeats 1000000 in
theorem law_c26 (l : Launch) (L : Nat) (xs : Nat → Int32) (n c : Nat) (hc : 6 * c + 6 ≤ L) (hL : L ≤ 3072) (sh : List XO) (I : XI) (J : XJ) (hv : linv sh I) (hn : ∀ (sh' : List XO) (I' : XI) (J' : XJ), linv sh' I' → lrun l L xs n 1403 (lloc c) [] sh' I' J' 99 18232) : lrun l L xs (n + 1) 994 (lloc c) [] sh I J 99 18232 := by
  obtain ⟨⟨hs, hi, hq⟩, hr⟩ := hv
  obtain ⟨ru, ta, rs, hru, hta, rfl⟩ := shX hs
  obtain ⟨⟨T, hT, eT, eT2, hB⟩, hf, ⟨m, hm, em, e68⟩, ⟨u, hu, e6, e69⟩⟩ := id hr
  have hxA : ivO (CNr 0 12 m) [] I := cnr_up nc_A hi (by rw [em]; exact nI_toInt (by omega))
  have v : ∀ j, j < 6 → vp_in (nI (6 * c) + nI j) L := fun j hj => by rw [nI_add]; exact vp_in_nI (by omega) (by omega)
  refine xrun_step fun K hK => ?_
  refine And.intro (v 1 (by omega)) ?_
  refine And.intro (v 2 (by omega)) ?_
  refine ctr_at (cnr_lift nc_A hm ct_X11_enough_0 rfl) (by decide) l _ I J [.ref 0, .int _, .int _] _ ⟨by decide, inI_fr _, inI_fr _, trivial⟩ (fun e he => by cases he) hs hxA hq ?_
  intro v1 sh1 I1 J1 g1 w1 i1 q1 f1 p1
  obtain ⟨r1, rfl⟩ := int_post (by decide) p1
  obtain ⟨ru1, ta1, rs1, _, _, rfl⟩ := shX g1
  have hxB : ivO (CNr 68 3 m) [] I1 := cnr_up nc_B (cnr_dn nc_A hm i1) (by rw [f1 68 rfl, e68]; exact nI_toInt (by omega))
  refine And.intro (v 1 (by omega)) ?_
  refine And.intro (v 2 (by omega)) ?_
  refine ctr_at (cnr_lift nc_B hm ct_X12_enough_0 rfl) (by decide) l _ I1 J1 [.ref 67, .int _, .int _] _ ⟨by decide, inI_fr _, inI_fr _, trivial⟩ (fun e he => by cases he) g1 hxB q1 ?_
  intro v2 sh2 I2 J2 g2 w2 i2 q2 f2 p2
  obtain ⟨r2, rfl⟩ := int_post (by decide) p2
  exact hK 1403 (lloc c) [] _ I2 J2 99 18232 (hn _ I2 J2 ⟨⟨g2, cnr_dn nc_B hm i2, q2⟩, ra_mk hr ((f2 30 rfl).trans (f1 30 rfl)) ((f2 31 rfl).trans (f1 31 rfl)) ((f2 35 rfl).trans (f1 35 rfl)) ((f2 67 rfl).trans (f1 67 rfl)) ((f2 70 rfl).trans (f1 70 rfl)) hm hu ((congrFun (f2 0 rfl) 12).trans (cnr_n nc_A hm i1)) (cnr_n nc_B hm i2) ((congrFun ((f2 6 rfl).trans (f1 6 rfl)) 8).trans e6) ((congrFun ((f2 69 rfl).trans (f1 69 rfl)) 3).trans e69)⟩)
set_option maxRecDepth 100000 in
set_option maxHeartbeats 1000000 in
theorem law_c27 (l : Launch) (L : Nat) (xs : Nat → Int32) (n c : Nat) (hc : 6 * c + 6 ≤ L) (hL : L ≤ 3072) (sh : List XO) (I : XI) (J : XJ) (hv : linv sh I) (hn : ∀ (sh' : List XO) (I' : XI) (J' : XJ), linv sh' I' → lrun l L xs n 1403 (lloc c) [] sh' I' J' 99 18232) : lrun l L xs (n + 1) 1027 (lloc c) [] sh I J 99 18232 := by
  obtain ⟨⟨hs, hi, hq⟩, hr⟩ := hv
  obtain ⟨ru, ta, rs, hru, hta, rfl⟩ := shX hs
  obtain ⟨⟨T, hT, eT, eT2, hB⟩, hf, ⟨m, hm, em, e68⟩, ⟨u, hu, e6, e69⟩⟩ := id hr
  have hxA : ivO (CNr 0 12 m) [] I := cnr_up nc_A hi (by rw [em]; exact nI_toInt (by omega))
  have v : ∀ j, j < 6 → vp_in (nI (6 * c) + nI j) L := fun j hj => by rw [nI_add]; exact vp_in_nI (by omega) (by omega)
  refine xrun_step fun K hK => ?_
  refine And.intro (v 1 (by omega)) ?_
  refine And.intro (v 2 (by omega)) ?_
  refine And.intro (v 3 (by omega)) ?_
  refine And.intro (v 4 (by omega)) ?_
  refine ctr_at (cnr_lift nc_A hm ct_X11_over_0 rfl) (by decide) l _ I J [.ref 0, .int _, .int _, .int _, .int _] _ ⟨by decide, inI_fr _, inI_fr _, inI_fr _, inI_fr _, trivial⟩ (fun e he => by cases he) hs hxA hq ?_
  intro v1 sh1 I1 J1 g1 w1 i1 q1 f1 p1
  obtain ⟨r1, rfl⟩ := int_post (by decide) p1
  obtain ⟨ru1, ta1, rs1, _, _, rfl⟩ := shX g1
  have hxB : ivO (CNr 68 3 m) [] I1 := cnr_up nc_B (cnr_dn nc_A hm i1) (by rw [f1 68 rfl, e68]; exact nI_toInt (by omega))
  refine And.intro (v 1 (by omega)) ?_
  refine And.intro (v 2 (by omega)) ?_
  refine And.intro (v 3 (by omega)) ?_
  refine And.intro (v 4 (by omega)) ?_
  refine ctr_at (cnr_lift nc_B hm ct_X12_over_0 rfl) (by decide) l _ I1 J1 [.ref 67, .int _, .int _, .int _, .int _] _ ⟨by decide, inI_fr _, inI_fr _, inI_fr _, inI_fr _, trivial⟩ (fun e he => by cases he) g1 hxB q1 ?_
  intro v2 sh2 I2 J2 g2 w2 i2 q2 f2 p2
  obtain ⟨r2, rfl⟩ := int_post (by decide) p2
  exact hK 1403 (lloc c) [] _ I2 J2 99 18232 (hn _ I2 J2 ⟨⟨g2, cnr_dn nc_B hm i2, q2⟩, ra_mk hr ((f2 30 rfl).trans (f1 30 rfl)) ((f2 31 rfl).trans (f1 31 rfl)) ((f2 35 rfl).trans (f1 35 rfl)) ((f2 67 rfl).trans (f1 67 rfl)) ((f2 70 rfl).trans (f1 70 rfl)) hm hu ((congrFun (f2 0 rfl) 12).trans (cnr_n nc_A hm i1)) (cnr_n nc_B hm i2) ((congrFun ((f2 6 rfl).trans (f1 6 rfl)) 8).trans e6) ((congrFun ((f2 69 rfl).trans (f1 69 rfl)) 3).trans e69)⟩)
set_option maxRecDepth 100000 in
set_option maxHeartbeats 1000000 in
theorem law_c28 (l : Launch) (L : Nat) (xs : Nat → Int32) (n c : Nat) (hc : 6 * c + 6 ≤ L) (hL : L ≤ 3072) (sh : List XO) (I : XI) (J : XJ) (hv : linv sh I) (hn : ∀ (sh' : List XO) (I' : XI) (J' : XJ), linv sh' I' → lrun l L xs n 1403 (lloc c) [] sh' I' J' 99 18232) : lrun l L xs (n + 1) 1080 (lloc c) [] sh I J 99 18232 := by
  obtain ⟨⟨hs, hi, hq⟩, hr⟩ := hv
  obtain ⟨ru, ta, rs, hru, hta, rfl⟩ := shX hs
  obtain ⟨⟨T, hT, eT, eT2, hB⟩, hf, ⟨m, hm, em, e68⟩, ⟨u, hu, e6, e69⟩⟩ := id hr
  have hxA : ivO (CNr 0 12 m) [] I := cnr_up nc_A hi (by rw [em]; exact nI_toInt (by omega))
  have v : ∀ j, j < 6 → vp_in (nI (6 * c) + nI j) L := fun j hj => by rw [nI_add]; exact vp_in_nI (by omega) (by omega)
  refine xrun_step fun K hK => ?_
  refine And.intro (v 1 (by omega)) ?_
  refine And.intro (v 2 (by omega)) ?_
  refine And.intro (v 3 (by omega)) ?_
  refine ctr_at (cnr_lift nc_A hm ct_X11_whose_0 rfl) (by decide) l _ I J [.ref 0, .int _, .int _, .int _] _ ⟨by decide, inI_fr _, inI_fr _, inI_fr _, trivial⟩ (fun e he => by cases he) hs hxA hq ?_
  intro v1 sh1 I1 J1 g1 w1 i1 q1 f1 p1
  obtain ⟨r1, rfl⟩ := int_post (by decide) p1
  obtain ⟨ru1, ta1, rs1, _, _, rfl⟩ := shX g1
  have hxB : ivO (CNr 68 3 m) [] I1 := cnr_up nc_B (cnr_dn nc_A hm i1) (by rw [f1 68 rfl, e68]; exact nI_toInt (by omega))
  refine And.intro (v 1 (by omega)) ?_
  refine And.intro (v 2 (by omega)) ?_
  refine And.intro (v 3 (by omega)) ?_
  refine ctr_at (cnr_lift nc_B hm ct_X12_whose_0 rfl) (by decide) l _ I1 J1 [.ref 67, .int _, .int _, .int _] _ ⟨by decide, inI_fr _, inI_fr _, inI_fr _, trivial⟩ (fun e he => by cases he) g1 hxB q1 ?_
  intro v2 sh2 I2 J2 g2 w2 i2 q2 f2 p2
  obtain ⟨r2, rfl⟩ := int_post (by decide) p2
  exact hK 1403 (lloc c) [] _ I2 J2 99 18232 (hn _ I2 J2 ⟨⟨g2, cnr_dn nc_B hm i2, q2⟩, ra_mk hr ((f2 30 rfl).trans (f1 30 rfl)) ((f2 31 rfl).trans (f1 31 rfl)) ((f2 35 rfl).trans (f1 35 rfl)) ((f2 67 rfl).trans (f1 67 rfl)) ((f2 70 rfl).trans (f1 70 rfl)) hm hu ((congrFun (f2 0 rfl) 12).trans (cnr_n nc_A hm i1)) (cnr_n nc_B hm i2) ((congrFun ((f2 6 rfl).trans (f1 6 rfl)) 8).trans e6) ((congrFun ((f2 69 rfl).trans (f1 69 rfl)) 3).trans e69)⟩)
set_option maxRecDepth 100000 in
set_option maxHeartbeats 1000000 in
theorem law_c29 (l : Launch) (L : Nat) (xs : Nat → Int32) (n c : Nat) (hc : 6 * c + 6 ≤ L) (hL : L ≤ 3072) (sh : List XO) (I : XI) (J : XJ) (hv : linv sh I) (hn : ∀ (sh' : List XO) (I' : XI) (J' : XJ), linv sh' I' → lrun l L xs n 1403 (lloc c) [] sh' I' J' 99 18232) : lrun l L xs (n + 1) 1123 (lloc c) [] sh I J 99 18232 := by
  obtain ⟨⟨hs, hi, hq⟩, hr⟩ := hv
  obtain ⟨ru, ta, rs, hru, hta, rfl⟩ := shX hs
  obtain ⟨⟨T, hT, eT, eT2, hB⟩, hf, ⟨m, hm, em, e68⟩, ⟨u, hu, e6, e69⟩⟩ := id hr
  have hxA : ivO (CNr 0 12 m) [] I := cnr_up nc_A hi (by rw [em]; exact nI_toInt (by omega))
  have v : ∀ j, j < 6 → vp_in (nI (6 * c) + nI j) L := fun j hj => by rw [nI_add]; exact vp_in_nI (by omega) (by omega)
  refine xrun_step fun K hK => ?_
  refine And.intro (v 1 (by omega)) ?_
  refine And.intro (v 2 (by omega)) ?_
  refine And.intro (v 3 (by omega)) ?_
  refine ctr_at (cnr_lift nc_A hm ct_X11_at_0 rfl) (by decide) l _ I J [.ref 0, .int _, .int _, .int _] _ ⟨by decide, inI_fr _, inI_fr _, inI_fr _, trivial⟩ (fun e he => by cases he) hs hxA hq ?_
  intro v1 sh1 I1 J1 g1 w1 i1 q1 f1 p1
  obtain ⟨r1, rfl⟩ := int_post (by decide) p1
  obtain ⟨ru1, ta1, rs1, _, _, rfl⟩ := shX g1
  have hxB : ivO (CNr 68 3 m) [] I1 := cnr_up nc_B (cnr_dn nc_A hm i1) (by rw [f1 68 rfl, e68]; exact nI_toInt (by omega))
  refine And.intro (v 1 (by omega)) ?_
  refine And.intro (v 2 (by omega)) ?_
  refine And.intro (v 3 (by omega)) ?_
  refine ctr_at (cnr_lift nc_B hm ct_X12_at_0 rfl) (by decide) l _ I1 J1 [.ref 67, .int _, .int _, .int _] _ ⟨by decide, inI_fr _, inI_fr _, inI_fr _, trivial⟩ (fun e he => by cases he) g1 hxB q1 ?_
  intro v2 sh2 I2 J2 g2 w2 i2 q2 f2 p2
  obtain ⟨r2, rfl⟩ := int_post (by decide) p2
  exact hK 1403 (lloc c) [] _ I2 J2 99 18232 (hn _ I2 J2 ⟨⟨g2, cnr_dn nc_B hm i2, q2⟩, ra_mk hr ((f2 30 rfl).trans (f1 30 rfl)) ((f2 31 rfl).trans (f1 31 rfl)) ((f2 35 rfl).trans (f1 35 rfl)) ((f2 67 rfl).trans (f1 67 rfl)) ((f2 70 rfl).trans (f1 70 rfl)) hm hu ((congrFun (f2 0 rfl) 12).trans (cnr_n nc_A hm i1)) (cnr_n nc_B hm i2) ((congrFun ((f2 6 rfl).trans (f1 6 rfl)) 8).trans e6) ((congrFun ((f2 69 rfl).trans (f1 69 rfl)) 3).trans e69)⟩)
set_option maxRecDepth 100000 in
set_option maxHeartbeats 1000000 in
theorem law_c30 (l : Launch) (L : Nat) (xs : Nat → Int32) (n c : Nat) (hc : 6 * c + 6 ≤ L) (hL : L ≤ 3072) (sh : List XO) (I : XI) (J : XJ) (hv : linv sh I) (hn : ∀ (sh' : List XO) (I' : XI) (J' : XJ), linv sh' I' → lrun l L xs n 1403 (lloc c) [] sh' I' J' 99 18232) : lrun l L xs (n + 1) 1166 (lloc c) [] sh I J 99 18232 := by
  obtain ⟨⟨hs, hi, hq⟩, hr⟩ := hv
  obtain ⟨ru, ta, rs, hru, hta, rfl⟩ := shX hs
  obtain ⟨⟨T, hT, eT, eT2, hB⟩, hf, ⟨m, hm, em, e68⟩, ⟨u, hu, e6, e69⟩⟩ := id hr
  have hxA : ivO (CNr 0 12 m) [] I := cnr_up nc_A hi (by rw [em]; exact nI_toInt (by omega))
  have v : ∀ j, j < 6 → vp_in (nI (6 * c) + nI j) L := fun j hj => by rw [nI_add]; exact vp_in_nI (by omega) (by omega)
  refine xrun_step fun K hK => ?_
  refine And.intro (v 1 (by omega)) ?_
  refine And.intro (v 2 (by omega)) ?_
  refine And.intro (v 3 (by omega)) ?_
  refine And.intro (v 4 (by omega)) ?_
  refine ctr_at (cnr_lift nc_A hm ct_X11_leave_0 rfl) (by decide) l _ I J [.ref 0, .int _, .int _, .int _, .int _] _ ⟨by decide, inI_fr _, inI_fr _, inI_fr _, inI_fr _, trivial⟩ (fun e he => by cases he) hs hxA hq ?_
  intro v1 sh1 I1 J1 g1 w1 i1 q1 f1 p1
  obtain ⟨r1, rfl⟩ := int_post (by decide) p1
  obtain ⟨ru1, ta1, rs1, _, _, rfl⟩ := shX g1
  have hxB : ivO (CNr 68 3 m) [] I1 := cnr_up nc_B (cnr_dn nc_A hm i1) (by rw [f1 68 rfl, e68]; exact nI_toInt (by omega))
  refine And.intro (v 1 (by omega)) ?_
  refine And.intro (v 2 (by omega)) ?_
  refine And.intro (v 3 (by omega)) ?_
  refine And.intro (v 4 (by omega)) ?_
  refine ctr_at (cnr_lift nc_B hm ct_X12_leave_0 rfl) (by decide) l _ I1 J1 [.ref 67, .int _, .int _, .int _, .int _] _ ⟨by decide, inI_fr _, inI_fr _, inI_fr _, inI_fr _, trivial⟩ (fun e he => by cases he) g1 hxB q1 ?_
  intro v2 sh2 I2 J2 g2 w2 i2 q2 f2 p2
  obtain ⟨r2, rfl⟩ := int_post (by decide) p2
  exact hK 1403 (lloc c) [] _ I2 J2 99 18232 (hn _ I2 J2 ⟨⟨g2, cnr_dn nc_B hm i2, q2⟩, ra_mk hr ((f2 30 rfl).trans (f1 30 rfl)) ((f2 31 rfl).trans (f1 31 rfl)) ((f2 35 rfl).trans (f1 35 rfl)) ((f2 67 rfl).trans (f1 67 rfl)) ((f2 70 rfl).trans (f1 70 rfl)) hm hu ((congrFun (f2 0 rfl) 12).trans (cnr_n nc_A hm i1)) (cnr_n nc_B hm i2) ((congrFun ((f2 6 rfl).trans (f1 6 rfl)) 8).trans e6) ((congrFun ((f2 69 rfl).trans (f1 69 rfl)) 3).trans e69)⟩)
set_option maxRecDepth 100000 in
set_option maxHeartbeats 1000000 in
theorem law_c31 (l : Launch) (L : Nat) (xs : Nat → Int32) (n c : Nat) (hc : 6 * c + 6 ≤ L) (hL : L ≤ 3072) (sh : List XO) (I : XI) (J : XJ) (hv : linv sh I) (hn : ∀ (sh' : List XO) (I' : XI) (J' : XJ), linv sh' I' → lrun l L xs n 1403 (lloc c) [] sh' I' J' 99 18232) : lrun l L xs (n + 1) 1219 (lloc c) [] sh I J 99 18232 := by
  obtain ⟨⟨hs, hi, hq⟩, hr⟩ := hv
  obtain ⟨ru, ta, rs, hru, hta, rfl⟩ := shX hs
  obtain ⟨⟨T, hT, eT, eT2, hB⟩, hf, ⟨m, hm, em, e68⟩, ⟨u, hu, e6, e69⟩⟩ := id hr
  have hxA : ivO (CNr 0 12 m) [] I := cnr_up nc_A hi (by rw [em]; exact nI_toInt (by omega))
  have v : ∀ j, j < 6 → vp_in (nI (6 * c) + nI j) L := fun j hj => by rw [nI_add]; exact vp_in_nI (by omega) (by omega)
  refine xrun_step fun K hK => ?_
  refine And.intro (v 1 (by omega)) ?_
  refine And.intro (v 2 (by omega)) ?_
  refine ctr_at (cnr_lift nc_A hm ct_X11_packed_0 rfl) (by decide) l _ I J [.ref 0, .int _, .int _] _ ⟨by decide, inI_fr _, inI_fr _, trivial⟩ (fun e he => by cases he) hs hxA hq ?_
  intro v1 sh1 I1 J1 g1 w1 i1 q1 f1 p1
  obtain ⟨r1, rfl⟩ := int_post (by decide) p1
  obtain ⟨ru1, ta1, rs1, _, _, rfl⟩ := shX g1
  have hxB : ivO (CNr 68 3 m) [] I1 := cnr_up nc_B (cnr_dn nc_A hm i1) (by rw [f1 68 rfl, e68]; exact nI_toInt (by omega))
  refine And.intro (v 1 (by omega)) ?_
  refine And.intro (v 2 (by omega)) ?_
  refine ctr_at (cnr_lift nc_B hm ct_X12_packed_0 rfl) (by decide) l _ I1 J1 [.ref 67, .int _, .int _] _ ⟨by decide, inI_fr _, inI_fr _, trivial⟩ (fun e he => by cases he) g1 hxB q1 ?_
  intro v2 sh2 I2 J2 g2 w2 i2 q2 f2 p2
  obtain ⟨r2, rfl⟩ := int_post (by decide) p2
  exact hK 1403 (lloc c) [] _ I2 J2 99 18232 (hn _ I2 J2 ⟨⟨g2, cnr_dn nc_B hm i2, q2⟩, ra_mk hr ((f2 30 rfl).trans (f1 30 rfl)) ((f2 31 rfl).trans (f1 31 rfl)) ((f2 35 rfl).trans (f1 35 rfl)) ((f2 67 rfl).trans (f1 67 rfl)) ((f2 70 rfl).trans (f1 70 rfl)) hm hu ((congrFun (f2 0 rfl) 12).trans (cnr_n nc_A hm i1)) (cnr_n nc_B hm i2) ((congrFun ((f2 6 rfl).trans (f1 6 rfl)) 8).trans e6) ((congrFun ((f2 69 rfl).trans (f1 69 rfl)) 3).trans e69)⟩)
set_option maxRecDepth 100000 in
set_option maxHeartbeats 1000000 in
theorem law_c32 (l : Launch) (L : Nat) (xs : Nat → Int32) (n c : Nat) (hc : 6 * c + 6 ≤ L) (hL : L ≤ 3072) (sh : List XO) (I : XI) (J : XJ) (hv : linv sh I) (hn : ∀ (sh' : List XO) (I' : XI) (J' : XJ), linv sh' I' → lrun l L xs n 1403 (lloc c) [] sh' I' J' 99 18232) : lrun l L xs (n + 1) 1252 (lloc c) [] sh I J 99 18232 := by
  obtain ⟨⟨hs, hi, hq⟩, hr⟩ := hv
  obtain ⟨ru, ta, rs, hru, hta, rfl⟩ := shX hs
  obtain ⟨⟨T, hT, eT, eT2, hB⟩, hf, ⟨m, hm, em, e68⟩, ⟨u, hu, e6, e69⟩⟩ := id hr
  have hxA : ivO (CNr 0 12 m) [] I := cnr_up nc_A hi (by rw [em]; exact nI_toInt (by omega))
  have v : ∀ j, j < 6 → vp_in (nI (6 * c) + nI j) L := fun j hj => by rw [nI_add]; exact vp_in_nI (by omega) (by omega)
  refine xrun_step fun K hK => ?_
  refine And.intro (v 1 (by omega)) ?_
  refine And.intro (v 2 (by omega)) ?_
  refine And.intro (v 3 (by omega)) ?_
  refine ctr_at (cnr_lift nc_A hm ct_X11_when_0 rfl) (by decide) l _ I J [.ref 0, .int _, .int _, .int _] _ ⟨by decide, inI_fr _, inI_fr _, inI_fr _, trivial⟩ (fun e he => by cases he) hs hxA hq ?_
  intro v1 sh1 I1 J1 g1 w1 i1 q1 f1 p1
  obtain ⟨r1, rfl⟩ := int_post (by decide) p1
  obtain ⟨ru1, ta1, rs1, _, _, rfl⟩ := shX g1
  have hxB : ivO (CNr 68 3 m) [] I1 := cnr_up nc_B (cnr_dn nc_A hm i1) (by rw [f1 68 rfl, e68]; exact nI_toInt (by omega))
  refine And.intro (v 1 (by omega)) ?_
  refine And.intro (v 2 (by omega)) ?_
  refine And.intro (v 3 (by omega)) ?_
  refine ctr_at (cnr_lift nc_B hm ct_X12_when_0 rfl) (by decide) l _ I1 J1 [.ref 67, .int _, .int _, .int _] _ ⟨by decide, inI_fr _, inI_fr _, inI_fr _, trivial⟩ (fun e he => by cases he) g1 hxB q1 ?_
  intro v2 sh2 I2 J2 g2 w2 i2 q2 f2 p2
  obtain ⟨r2, rfl⟩ := int_post (by decide) p2
  exact hK 1403 (lloc c) [] _ I2 J2 99 18232 (hn _ I2 J2 ⟨⟨g2, cnr_dn nc_B hm i2, q2⟩, ra_mk hr ((f2 30 rfl).trans (f1 30 rfl)) ((f2 31 rfl).trans (f1 31 rfl)) ((f2 35 rfl).trans (f1 35 rfl)) ((f2 67 rfl).trans (f1 67 rfl)) ((f2 70 rfl).trans (f1 70 rfl)) hm hu ((congrFun (f2 0 rfl) 12).trans (cnr_n nc_A hm i1)) (cnr_n nc_B hm i2) ((congrFun ((f2 6 rfl).trans (f1 6 rfl)) 8).trans e6) ((congrFun ((f2 69 rfl).trans (f1 69 rfl)) 3).trans e69)⟩)
set_option maxRecDepth 100000 in
set_option maxHeartbeats 1000000 in
theorem law_c33 (l : Launch) (L : Nat) (xs : Nat → Int32) (n c : Nat) (hc : 6 * c + 6 ≤ L) (hL : L ≤ 3072) (sh : List XO) (I : XI) (J : XJ) (hv : linv sh I) (hn : ∀ (sh' : List XO) (I' : XI) (J' : XJ), linv sh' I' → lrun l L xs n 1403 (lloc c) [] sh' I' J' 99 18232) : lrun l L xs (n + 1) 1295 (lloc c) [] sh I J 99 18232 := by
  obtain ⟨⟨hs, hi, hq⟩, hr⟩ := hv
  obtain ⟨ru, ta, rs, hru, hta, rfl⟩ := shX hs
  obtain ⟨⟨T, hT, eT, eT2, hB⟩, hf, ⟨m, hm, em, e68⟩, ⟨u, hu, e6, e69⟩⟩ := id hr
  have hxA : ivO (CNr 0 12 m) [] I := cnr_up nc_A hi (by rw [em]; exact nI_toInt (by omega))
  have v : ∀ j, j < 6 → vp_in (nI (6 * c) + nI j) L := fun j hj => by rw [nI_add]; exact vp_in_nI (by omega) (by omega)
  refine xrun_step fun K hK => ?_
  refine And.intro (v 1 (by omega)) (And.intro (v 2 (by omega)) (And.intro (v 3 (by omega)) (And.intro (fun h => ?_) (fun h => ?_))))
  · obtain ⟨r, hx, hm⟩ := hail_two (xs (nI (6 * c) + nI 1).toNatClampNeg) (xs (nI (6 * c) + nI 2).toNatClampNeg) 0 (Or.inl rfl)
    refine hx l 1397 _ _ _ _ ?_
    refine And.intro (v 1 (by omega)) (And.intro (v 2 (by omega)) (And.intro (v 3 (by omega)) (And.intro (fun _ => ?_) (fun g => absurd h g))))
    refine hm l 1397 _ _ _ _ ?_
    exact hK 1403 (lloc c) [] _ I J 99 18232 (hn _ I J ⟨⟨hs, hi, hq⟩, hr⟩)
  · obtain ⟨r, hx, hm⟩ := hail_two (xs (nI (6 * c) + nI 1).toNatClampNeg) (xs (nI (6 * c) + nI 2).toNatClampNeg) 1 (Or.inr rfl)
    refine hx l 1397 _ _ _ _ ?_
    refine And.intro (v 1 (by omega)) (And.intro (v 2 (by omega)) (And.intro (v 3 (by omega)) (And.intro (fun g => absurd g h) (fun _ => ?_))))
    refine hm l 1397 _ _ _ _ ?_
    exact hK 1403 (lloc c) [] _ I J 99 18232 (hn _ I J ⟨⟨hs, hi, hq⟩, hr⟩)
set_option maxRecDepth 100000 in
set_option maxHeartbeats 1000000 in
theorem law_c34 (l : Launch) (L : Nat) (xs : Nat → Int32) (n c : Nat) (hc : 6 * c + 6 ≤ L) (hL : L ≤ 3072) (sh : List XO) (I : XI) (J : XJ) (hv : linv sh I) (hn : ∀ (sh' : List XO) (I' : XI) (J' : XJ), linv sh' I' → lrun l L xs n 1403 (lloc c) [] sh' I' J' 99 18232) : lrun l L xs (n + 1) 1354 (lloc c) [] sh I J 99 18232 := by
  obtain ⟨⟨hs, hi, hq⟩, hr⟩ := hv
  obtain ⟨ru, ta, rs, hru, hta, rfl⟩ := shX hs
  obtain ⟨⟨T, hT, eT, eT2, hB⟩, hf, ⟨m, hm, em, e68⟩, ⟨u, hu, e6, e69⟩⟩ := id hr
  have hxA : ivO (CNr 0 12 m) [] I := cnr_up nc_A hi (by rw [em]; exact nI_toInt (by omega))
  have v : ∀ j, j < 6 → vp_in (nI (6 * c) + nI j) L := fun j hj => by rw [nI_add]; exact vp_in_nI (by omega) (by omega)
  refine xrun_step fun K hK => ?_
  refine ctr_at (ctI hm) (Nat.le_of_ble_eq_true rfl) l _ I J [.ref 0] _ ⟨by decide, trivial⟩ (fun e he => by cases he) hs hxA hq ?_
  intro v1 sh1 I1 J1 g1 w1 i1 q1 f1 p1
  obtain ⟨P, hP, hp⟩ := p1
  have hP := List.mem_singleton.mp hP
  subst hP
  have k1 : I1 6 8 = nI m := inI_pt hm (hp.2.2 (6, 8, ((m : Int), (m : Int))) List.mem_cons_self)
  obtain ⟨r1, rfl, _⟩ : ∃ x, v1 = some (.int x) ∧ inI fr x.toInt := hp.2.1
  obtain ⟨ru1, ta1, rs1, _, _, rfl⟩ := shX g1
  refine m_image_x l 1397 ru1 ta1 rs1 I1 J1 _ (fun r => ?_)
  exact hK 1403 (lloc c) [] _ (cI I1 68 69 0 0 2200) J1 99 18232 (hn _ (cI I1 68 69 0 0 2200) J1 ⟨⟨g1, iv_cI (cnr_dn nc_A hm i1), qq_cI (by decide) q1⟩, ra_mk hr ((cI_ne (by decide)).trans (f1 30 rfl)) ((cI_ne (by decide)).trans (f1 31 rfl)) ((cI_ne (by decide)).trans (f1 35 rfl)) ((cI_ne (by decide)).trans (f1 67 rfl)) ((cI_ne (by decide)).trans (f1 70 rfl)) hm hm ((congrFun (cI_ne (by decide)) 12).trans (cnr_n (I := I1) nc_A hm i1)) ((congrFun (cI_ne (by decide)) 3).trans ((congrFun (f1 68 rfl) 3).trans e68)) ((congrFun (cI_ne (by decide)) 8).trans k1) ((cI_683 I1).trans ((congrFun (f1 68 rfl) 3).trans e68))⟩)
set_option maxRecDepth 100000 in
set_option maxHeartbeats 1000000 in
theorem law_c35 (l : Launch) (L : Nat) (xs : Nat → Int32) (n c : Nat) (hc : 6 * c + 6 ≤ L) (hL : L ≤ 3072) (sh : List XO) (I : XI) (J : XJ) (hv : linv sh I) (hn : ∀ (sh' : List XO) (I' : XI) (J' : XJ), linv sh' I' → lrun l L xs n 1403 (lloc c) [] sh' I' J' 99 18232) : lrun l L xs (n + 1) 1367 (lloc c) [] sh I J 99 18232 := by
  obtain ⟨⟨hs, hi, hq⟩, hr⟩ := hv
  obtain ⟨ru, ta, rs, hru, hta, rfl⟩ := shX hs
  obtain ⟨⟨T, hT, eT, eT2, hB⟩, hf, ⟨m, hm, em, e68⟩, ⟨u, hu, e6, e69⟩⟩ := id hr
  have hxA : ivO (CNr 0 12 m) [] I := cnr_up nc_A hi (by rw [em]; exact nI_toInt (by omega))
  have v : ∀ j, j < 6 → vp_in (nI (6 * c) + nI j) L := fun j hj => by rw [nI_add]; exact vp_in_nI (by omega) (by omega)
  refine xrun_step fun K hK => ?_
  have hxC : ivO (CNr 6 8 u) [] I := cnr_up nc_C hi (by rw [e6]; exact nI_toInt (by omega))
  refine ctr_at (ctB hu) (Nat.le_of_ble_eq_true rfl) l _ I J [.ref 0] _ ⟨by decide, trivial⟩ (fun e he => by cases he) hs hxC hq ?_
  intro v1 sh1 I1 J1 g1 w1 i1 q1 f1 p1
  obtain ⟨P, hP, hp⟩ := p1
  have hP := List.mem_singleton.mp hP
  subst hP
  have k1 : I1 0 12 = nI u := inI_pt hu (hp.2.2 (0, 12, ((u : Int), (u : Int))) List.mem_cons_self)
  obtain ⟨r1, rfl, _⟩ : ∃ x, v1 = some (.int x) ∧ inI fr x.toInt := hp.2.1
  obtain ⟨ru1, ta1, rs1, _, _, rfl⟩ := shX g1
  refine m_back_x l 1397 ru1 ta1 rs1 I1 J1 _ (fun r => ?_)
  exact hK 1403 (lloc c) [] _ (cI I1 69 68 0 0 2200) J1 99 18232 (hn _ (cI I1 69 68 0 0 2200) J1 ⟨⟨g1, iv_cB (cnr_dn nc_C hu i1), qq_cI (by decide) q1⟩, ra_mk hr ((cI_ne (by decide)).trans (f1 30 rfl)) ((cI_ne (by decide)).trans (f1 31 rfl)) ((cI_ne (by decide)).trans (f1 35 rfl)) ((cI_ne (by decide)).trans (f1 67 rfl)) ((cI_ne (by decide)).trans (f1 70 rfl)) hu hu ((congrFun (cI_ne (by decide)) 12).trans k1) ((cI_693 I1).trans ((congrFun (f1 69 rfl) 3).trans e69)) ((congrFun (cI_ne (by decide)) 8).trans (cnr_n (I := I1) nc_C hu i1)) ((congrFun (cI_ne (by decide)) 3).trans ((congrFun (f1 69 rfl) 3).trans e69))⟩)
set_option maxRecDepth 100000 in
set_option maxHeartbeats 1000000 in
theorem law_c36 (l : Launch) (L : Nat) (xs : Nat → Int32) (n c : Nat) (hc : 6 * c + 6 ≤ L) (hL : L ≤ 3072) (sh : List XO) (I : XI) (J : XJ) (hv : linv sh I) (hn : ∀ (sh' : List XO) (I' : XI) (J' : XJ), linv sh' I' → lrun l L xs n 1403 (lloc c) [] sh' I' J' 99 18232) : lrun l L xs (n + 1) 1380 (lloc c) [] sh I J 99 18232 := by
  obtain ⟨⟨hs, hi, hq⟩, hr⟩ := hv
  obtain ⟨ru, ta, rs, hru, hta, rfl⟩ := shX hs
  obtain ⟨⟨T, hT, eT, eT2, hB⟩, hf, ⟨m, hm, em, e68⟩, ⟨u, hu, e6, e69⟩⟩ := id hr
  have hxA : ivO (CNr 0 12 m) [] I := cnr_up nc_A hi (by rw [em]; exact nI_toInt (by omega))
  have v : ∀ j, j < 6 → vp_in (nI (6 * c) + nI j) L := fun j hj => by rw [nI_add]; exact vp_in_nI (by omega) (by omega)
  refine xrun_step fun K hK => ?_
  refine And.intro (v 1 (by omega)) ?_
  refine ctr_at (cnr_lift nc_A hm ct_X11_about_0 rfl) (by decide) l _ I J [.ref 0, .int _] _ ⟨by decide, inI_fr _, trivial⟩ (fun e he => by cases he) hs hxA hq ?_
  intro v1 sh1 I1 J1 g1 w1 i1 q1 f1 p1
  obtain ⟨r1, rfl⟩ := int_post (by decide) p1
  obtain ⟨ru1, ta1, rs1, _, _, rfl⟩ := shX g1
  have hxB : ivO (CNr 68 3 m) [] I1 := cnr_up nc_B (cnr_dn nc_A hm i1) (by rw [f1 68 rfl, e68]; exact nI_toInt (by omega))
  refine And.intro (v 1 (by omega)) ?_
  refine ctr_at (cnr_lift nc_B hm ct_X12_about_0 rfl) (by decide) l _ I1 J1 [.ref 67, .int _] _ ⟨by decide, inI_fr _, trivial⟩ (fun e he => by cases he) g1 hxB q1 ?_
  intro v2 sh2 I2 J2 g2 w2 i2 q2 f2 p2
  obtain ⟨r2, rfl⟩ := int_post (by decide) p2
  exact hK 1403 (lloc c) [] _ I2 J2 99 18232 (hn _ I2 J2 ⟨⟨g2, cnr_dn nc_B hm i2, q2⟩, ra_mk hr ((f2 30 rfl).trans (f1 30 rfl)) ((f2 31 rfl).trans (f1 31 rfl)) ((f2 35 rfl).trans (f1 35 rfl)) ((f2 67 rfl).trans (f1 67 rfl)) ((f2 70 rfl).trans (f1 70 rfl)) hm hu ((congrFun (f2 0 rfl) 12).trans (cnr_n nc_A hm i1)) (cnr_n nc_B hm i2) ((congrFun ((f2 6 rfl).trans (f1 6 rfl)) 8).trans e6) ((congrFun ((f2 69 rfl).trans (f1 69 rfl)) 3).trans e69)⟩)
set_option maxRecDepth 100000 in
set_option maxHeartbeats 1000000 in
theorem law_loop (l : Launch) (L : Nat) (xs : Nat → Int32) (hL : L ≤ 3072) : ∀ (m n c : Nat) (sh : List XO) (I : XI) (J : XJ), c + m = 513 → 3 * m < n → linv sh I → lrun l L xs n 18 (lloc c) [] sh I J 99 18232 := by
  intro m
  induction m with
  | zero =>
    intro n c sh I J hc hn hv
    obtain ⟨n, rfl⟩ : ∃ n', n = n' + 1 := ⟨n - 1, by omega⟩
    refine xrun_step fun K hK => ?_
    refine And.intro (fun _ => And.intro (Or.inr rfl) rfl) (fun h => ?_)
    exfalso
    refine h ?_
    show nI L - nI 6 < nI (6 * c)
    refine Int32.lt_iff_toInt_lt.mpr ?_
    rw [nI_toInt (show 6 * c < 2 ^ 31 by omega), i32_sub (by rw [nI_toInt (by omega), nI_toInt (by omega)]; omega) (by rw [nI_toInt (by omega), nI_toInt (by omega)]; omega), nI_toInt (by omega), nI_toInt (by omega)]
    omega
  | succ m ih =>
    intro n c sh I J hc hn hv
    obtain ⟨n, rfl⟩ : ∃ n', n = n' + 1 + 1 + 1 := ⟨n - 3, by omega⟩
    have hx : ∀ (sh' : List XO) (I' : XI) (J' : XJ), linv sh' I' → lrun l L xs (n + 1) 1403 (lloc c) [] sh' I' J' 99 18232 := by
      intro sh' I' J' h'
      refine xrun_step fun K hK => ?_
      have e : nI (6 * c) + nI 6 = nI (6 * (c + 1)) := by rw [nI_add]; congr 1
      have y := ih n (c + 1) sh' I' J' (by omega) (by omega) h'
      have z := hK 18 (lloc (c + 1)) [] sh' I' J' 99 18232 y
      unfold lloc at z
      rw [← e] at z
      exact z
    have hd : ∀ (sh' : List XO) (I' : XI) (J' : XJ), linv sh' I' → lrun l L xs (n + 1 + 1) 1403 (lloc c) [] sh' I' J' 99 18232 := by
      intro sh' I' J' h'
      refine xrun_step fun K hK => ?_
      have e : nI (6 * c) + nI 6 = nI (6 * (c + 1)) := by rw [nI_add]; congr 1
      have y := ih (n + 1) (c + 1) sh' I' J' (by omega) (by omega) h'
      have z := hK 18 (lloc (c + 1)) [] sh' I' J' 99 18232 y
      unfold lloc at z
      rw [← e] at z
      exact z
    refine xrun_step fun K hK => ?_
    refine And.intro (fun _ => And.intro (Or.inr rfl) rfl) (fun h => ?_)
    have h6 : 6 * c + 6 ≤ L := by
      have h2 : ¬ nI L - nI 6 < nI (6 * c) := h
      have h3 : ¬ (nI L - nI 6).toInt < (nI (6 * c)).toInt := fun z => h2 (Int32.lt_iff_toInt_lt.mpr z)
      rw [nI_toInt (show 6 * c < 2 ^ 31 by omega), i32_sub (by rw [nI_toInt (by omega), nI_toInt (by omega)]; omega) (by rw [nI_toInt (by omega), nI_toInt (by omega)]; omega), nI_toInt (by omega), nI_toInt (by omega)] at h3
      omega
    refine And.intro (vp_in_nI (by omega) (by omega)) ?_
    refine And.intro (fun _ => hK _ _ _ _ _ _ _ _ (law_c0 l L xs (n + 1) c h6 hL sh I J hv hx)) (fun _ => ?_)
    refine And.intro (fun _ => hK _ _ _ _ _ _ _ _ (law_c1 l L xs (n + 1) c h6 hL sh I J hv hx)) (fun _ => ?_)
    refine And.intro (fun _ => hK _ _ _ _ _ _ _ _ (law_c2 l L xs (n + 1) c h6 hL sh I J hv hx)) (fun _ => ?_)
    refine And.intro (fun _ => hK _ _ _ _ _ _ _ _ (law_c3 l L xs (n + 1) c h6 hL sh I J hv hx)) (fun _ => ?_)
    refine And.intro (fun _ => hK _ _ _ _ _ _ _ _ (law_c4 l L xs (n + 1) c h6 hL sh I J hv hx)) (fun _ => ?_)
    refine And.intro (fun _ => hK _ _ _ _ _ _ _ _ (law_c5 l L xs (n + 1) c h6 hL sh I J hv hx)) (fun _ => ?_)
    refine And.intro (fun _ => hK _ _ _ _ _ _ _ _ (law_c6 l L xs (n + 1) c h6 hL sh I J hv hx)) (fun _ => ?_)
    refine And.intro (fun _ => hK _ _ _ _ _ _ _ _ (law_c7 l L xs (n + 1) c h6 hL sh I J hv hx)) (fun _ => ?_)
    refine And.intro (fun _ => hK _ _ _ _ _ _ _ _ (law_c8 l L xs (n + 1) c h6 hL sh I J hv hx)) (fun _ => ?_)
    refine And.intro (fun _ => hK _ _ _ _ _ _ _ _ (law_c9 l L xs (n + 1) c h6 hL sh I J hv hx)) (fun _ => ?_)
    refine And.intro (fun _ => hK _ _ _ _ _ _ _ _ (law_c10 l L xs (n + 1) c h6 hL sh I J hv hx)) (fun _ => ?_)
    refine And.intro (fun _ => hK _ _ _ _ _ _ _ _ (law_c11 l L xs (n + 1) c h6 hL sh I J hv hx)) (fun _ => ?_)
    refine And.intro (fun _ => hK _ _ _ _ _ _ _ _ (law_c12 l L xs (n + 1) c h6 hL sh I J hv hx)) (fun _ => ?_)
    refine And.intro (fun _ => hK _ _ _ _ _ _ _ _ (law_c13 l L xs (n + 1) c h6 hL sh I J hv hx)) (fun _ => ?_)
    refine And.intro (fun _ => hK _ _ _ _ _ _ _ _ (law_c14 l L xs (n + 1) c h6 hL sh I J hv hx)) (fun _ => ?_)
    refine And.intro (fun _ => hK _ _ _ _ _ _ _ _ (law_c15 l L xs (n + 1) c h6 hL sh I J hv hx)) (fun _ => ?_)
    refine And.intro (fun _ => hK _ _ _ _ _ _ _ _ (law_c16 l L xs (n + 1) c h6 hL sh I J hv hx)) (fun _ => ?_)
    refine And.intro (fun _ => hK _ _ _ _ _ _ _ _ (law_c17 l L xs (n + 1) c h6 hL sh I J hv hx)) (fun _ => ?_)
    refine And.intro (fun _ => hK _ _ _ _ _ _ _ _ (law_c18 l L xs (n + 1) c h6 hL sh I J hv hx)) (fun _ => ?_)
    refine And.intro (fun _ => hK _ _ _ _ _ _ _ _ (law_c19 l L xs (n + 1) c h6 hL sh I J hv hx)) (fun _ => ?_)
    refine And.intro (fun _ => hK _ _ _ _ _ _ _ _ (law_c20 l L xs (n + 1) c h6 hL sh I J hv hx)) (fun _ => ?_)
    refine And.intro (fun _ => hK _ _ _ _ _ _ _ _ (law_c21 l L xs (n + 1) c h6 hL sh I J hv hx)) (fun _ => ?_)
    refine And.intro (fun _ => hK _ _ _ _ _ _ _ _ (law_c22 l L xs (n + 1) c h6 hL sh I J hv hx)) (fun _ => ?_)
    refine And.intro (fun _ => hK _ _ _ _ _ _ _ _ (law_c23 l L xs (n + 1) c h6 hL sh I J hv hx)) (fun _ => ?_)
    refine And.intro (fun _ => hK _ _ _ _ _ _ _ _ (law_c24 l L xs (n + 1) c h6 hL sh I J hv hx)) (fun _ => ?_)
    refine And.intro (fun _ => hK _ _ _ _ _ _ _ _ (law_c25 l L xs (n + 1) c h6 hL sh I J hv hx)) (fun _ => ?_)
    refine And.intro (fun _ => hK _ _ _ _ _ _ _ _ (law_c26 l L xs (n + 1) c h6 hL sh I J hv hx)) (fun _ => ?_)
    refine And.intro (fun _ => hK _ _ _ _ _ _ _ _ (law_c27 l L xs (n + 1) c h6 hL sh I J hv hx)) (fun _ => ?_)
    refine And.intro (fun _ => hK _ _ _ _ _ _ _ _ (law_c28 l L xs (n + 1) c h6 hL sh I J hv hx)) (fun _ => ?_)
    refine And.intro (fun _ => hK _ _ _ _ _ _ _ _ (law_c29 l L xs (n + 1) c h6 hL sh I J hv hx)) (fun _ => ?_)
    refine And.intro (fun _ => hK _ _ _ _ _ _ _ _ (law_c30 l L xs (n + 1) c h6 hL sh I J hv hx)) (fun _ => ?_)
    refine And.intro (fun _ => hK _ _ _ _ _ _ _ _ (law_c31 l L xs (n + 1) c h6 hL sh I J hv hx)) (fun _ => ?_)
    refine And.intro (fun _ => hK _ _ _ _ _ _ _ _ (law_c32 l L xs (n + 1) c h6 hL sh I J hv hx)) (fun _ => ?_)
    refine And.intro (fun _ => hK _ _ _ _ _ _ _ _ (law_c33 l L xs (n + 1) c h6 hL sh I J hv hx)) (fun _ => ?_)
    refine And.intro (fun _ => hK _ _ _ _ _ _ _ _ (law_c34 l L xs (n + 1) c h6 hL sh I J hv hx)) (fun _ => ?_)
    refine And.intro (fun _ => hK _ _ _ _ _ _ _ _ (law_c35 l L xs (n + 1) c h6 hL sh I J hv hx)) (fun _ => ?_)
    refine And.intro (fun _ => hK _ _ _ _ _ _ _ _ (law_c36 l L xs (n + 1) c h6 hL sh I J hv hx)) (fun _ => ?_)
    exact hK _ _ _ _ _ _ _ _ (hd sh I J hv)
set_option maxRecDepth 100000 in
set_option maxHeartbeats 4000000 in
theorem law_go (l : Launch) (L : Nat) (xs : Nat → Int32) (hL : L ≤ 3072) : lrun l L xs 1541 0 [some (.ref 900000), none, none, none] [] [] (fun _ _ => 0) (fun _ _ => 0) 0 0 := by
  refine xrun_step fun K hK => ?_
  refine ctor_x l 1395 _ ?_
  refine ctor_m l 1397 _ ?_
  exact hK 18 (lloc 0) [] shXM lI jM 99 18232 (law_loop l L xs hL 513 1540 0 shXM lI jM (by omega) (by omega) ⟨⟨sh_XM, iv_lI, qq_lI⟩, ra_lI⟩)
