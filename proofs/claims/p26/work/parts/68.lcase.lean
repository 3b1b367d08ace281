-- ===== the law's calls, one by one; its loop =====
def intP (P : AP) : Bool := match P.2.1 with
  | .inl _ => true
  | _ => false
theorem int_post {posts : List AP} {as : List Value} {v : Option Value} {I : XI} (h : posts.all intP = true) (hp : ∃ P, P ∈ posts ∧ pstO as P v I) : ∃ r, v = some (.int r) := by
  obtain ⟨P, hP, hp⟩ := hp
  have y := List.all_eq_true.mp h P hP
  have z := hp.2.1
  unfold intP at y
  split at y
  · rename_i w e
    rw [e] at z
    obtain ⟨x, hx, _⟩ := z
    exact ⟨x, hx⟩
  · cases y
def voidP (P : AP) : Bool := match P.2.1 with
  | .inr (.inr 9) => true
  | _ => false
theorem void_post {posts : List AP} {as : List Value} {v : Option Value} {I : XI} (h : posts.all voidP = true) (hp : ∃ P, P ∈ posts ∧ pstO as P v I) : v = none := by
  obtain ⟨P, hP, hp⟩ := hp
  have y := List.all_eq_true.mp h P hP
  have z := hp.2.1
  unfold voidP at y
  split at y
  · rename_i e
    rw [e] at z
    exact z
  · cases y
def lst : List Nat := [18, 196, 239, 262, 285, 328, 361, 394, 427, 450, 473, 506, 569, 592, 605, 628, 651, 674, 687, 720, 753, 786, 819, 852, 885, 938, 971, 994, 1027, 1080, 1123, 1166, 1219, 1252, 1295, 1354, 1367, 1380, 1403]
abbrev lrun (l : Launch) (L : Nat) (xs : Nat → Int32) (n : Nat) (pc : Nat) : XP := xrun xxL (some .boolean) false true 0 600000 7302249 (some (L, xs)) l 1399 tL_law lst (fun v _ _ _ => v = some (.int 1)) n pc
def lloc (c : Nat) : List (Option Value) := [some (.ref 900000), some (.ref 0), some (.ref 67), some (.int (nI (6 * c)))]
def RNv (I : XI) : Prop := I 0 7 = I 68 6 ∧ I 6 4 = I 69 6
def linv (sh : List XO) (I : XI) : Prop := (shO CF sh ∧ ivO CF [] I ∧ QQ I) ∧ RNv I
theorem rn_of {I : XI} {v : Nat} (h : ivO (CXv v) [] I) : I 0 7 = I 68 6 := Int32.toInt_inj.mp ((cx_07 h).trans (cx_686 h).symm)
theorem hail_two (n k w : Int32) (hw : w = 0 ∨ w = 1) : ∃ r : Int32, (∀ (l : Launch) (d : Nat) (sh : List XO) (I : XI) (J : XJ) (Rp : XR), Rp (some (.int r)) sh I J → xm l (d + 2) 0 0 mX11_hail [.ref 0, .int n, .int k, .int w] sh I J Rp) ∧ ∀ (l : Launch) (d : Nat) (sh : List XO) (I : XI) (J : XJ) (Rp : XR), Rp (some (.int r)) sh I J → xm l (d + 2) 0 0 mX12_hail [.ref 67, .int n, .int k, .int w] sh I J Rp := by
  by_cases hc : (1 ≤ n ∧ n ≤ 9) ∧ (0 ≤ k ∧ k ≤ 9)
  · have hb := hB_all hc.1.1 hc.1.2 hc.2.1 hc.2.2
    have hbw : hB n k w = true := by
      rcases hw with e | e <;> rw [e]
      · exact hb.1
      · exact hb.2
    obtain ⟨r, lc1, lc2, x, y, lc3, g, lc4, q1, q2, q3, q4⟩ := hB_el hbw
    exact ⟨r, fun l d sh I J Rp hR => c_hail_t l d n k w r lc1 sh I J Rp hc.1.1 hc.1.2 hc.2.1 hc.2.2 q1 hR, fun l d sh I J Rp hR => m_hail_t l d n k w r x y g lc2 lc3 lc4 sh I J Rp hc.1.1 hc.1.2 hc.2.1 hc.2.2 q2 q3 q4 hR⟩
  · exact ⟨-1, fun l d sh I J Rp hR => c_hail_f l d n k w sh I J Rp hc hR, fun l d sh I J Rp hR => m_hail_f l d n k w sh I J Rp hc hR⟩
set_option maxRecDepth 100000 in
set_option maxHeartbeats 1000000 in
theorem law_c0 (l : Launch) (L : Nat) (xs : Nat → Int32) (n c : Nat) (hc : 6 * c + 6 ≤ L) (hL : L ≤ 3072) (sh : List XO) (I : XI) (J : XJ) (hv : linv sh I) (hn : ∀ (sh' : List XO) (I' : XI) (J' : XJ), linv sh' I' → lrun l L xs n 1403 (lloc c) [] sh' I' J' 99 18232) : lrun l L xs (n + 1) 196 (lloc c) [] sh I J 99 18232 := by
  obtain ⟨⟨hs, hi, hq⟩, hr1, hr2⟩ := hv
  obtain ⟨ru, ta, rs, _, _, rfl⟩ := shX hs
  have v : ∀ j, j < 6 → vp_in (nI (6 * c) + nI j) L := fun j hj => by rw [nI_add]; exact vp_in_nI (by omega) (by omega)
  refine xrun_step fun K hK => ?_
  have h07 : inI (0, 8) (I 0 7).toInt := by
    rw [← cell_two.1]
    exact hi 0 7 rfl
  obtain ⟨m, em, _, hm, _⟩ := nI_inI h07 (by omega)
  have hm9 : m < 9 := by omega
  have e68 : I 68 6 = nI m := hr1.symm.trans em
  have hx : ivO (CXv m) [] I := iv_up hi (by rw [em]; exact nI_toInt (by omega)) (by rw [e68]; exact nI_toInt (by omega))
  refine And.intro (v 1 (by omega)) ?_
  refine And.intro (v 2 (by omega)) ?_
  refine And.intro (v 3 (by omega)) ?_
  refine ctr_at (vlift hm9 ct_X11_thing_0 rfl rfl) (by decide) l _ I J [.ref 0, .int _, .int _, .int _] _ ⟨by decide, inI_fr _, inI_fr _, inI_fr _, trivial⟩ (fun e he => by cases he) hs hx hq ?_
  intro v1 sh1 I1 J1 g1 w1 i1 q1 f1 p1
  obtain ⟨r1, rfl⟩ := int_post (by decide) p1
  obtain ⟨ru1, ta1, rs1, _, _, rfl⟩ := shX g1
  refine And.intro (v 1 (by omega)) ?_
  refine And.intro (v 2 (by omega)) ?_
  refine And.intro (v 3 (by omega)) ?_
  refine ctr_at (cv_X12_thing_0 hm9) (by decide) l _ I1 J1 [.ref 67, .int _, .int _, .int _] _ ⟨by decide, inI_fr _, inI_fr _, inI_fr _, trivial⟩ (fun e he => by cases he) g1 i1 q1 ?_
  intro v2 sh2 I2 J2 g2 w2 i2 q2 f2 p2
  obtain ⟨r2, rfl⟩ := int_post (by decide) p2
  have z6 : I2 6 = I 6 := (f2 6 rfl).trans (f1 6 rfl)
  have z69 : I2 69 = I 69 := (f2 69 rfl).trans (f1 69 rfl)
  exact hK 1403 (lloc c) [] _ I2 J2 99 18232 (hn _ I2 J2 ⟨⟨g2, iv_dn hm9 i2, q2⟩, rn_of i2, by rw [z6, z69]; exact hr2⟩)
set_option maxRecDepth 100000 in
set_option maxHeartbeats 1000000 in
theorem law_c1 (l : Launch) (L : Nat) (xs : Nat → Int32) (n c : Nat) (hc : 6 * c + 6 ≤ L) (hL : L ≤ 3072) (sh : List XO) (I : XI) (J : XJ) (hv : linv sh I) (hn : ∀ (sh' : List XO) (I' : XI) (J' : XJ), linv sh' I' → lrun l L xs n 1403 (lloc c) [] sh' I' J' 99 18232) : lrun l L xs (n + 1) 239 (lloc c) [] sh I J 99 18232 := by
  obtain ⟨⟨hs, hi, hq⟩, hr1, hr2⟩ := hv
  obtain ⟨ru, ta, rs, _, _, rfl⟩ := shX hs
  have v : ∀ j, j < 6 → vp_in (nI (6 * c) + nI j) L := fun j hj => by rw [nI_add]; exact vp_in_nI (by omega) (by omega)
  refine xrun_step fun K hK => ?_
  have h07 : inI (0, 8) (I 0 7).toInt := by
    rw [← cell_two.1]
    exact hi 0 7 rfl
  obtain ⟨m, em, _, hm, _⟩ := nI_inI h07 (by omega)
  have hm9 : m < 9 := by omega
  have e68 : I 68 6 = nI m := hr1.symm.trans em
  have hx : ivO (CXv m) [] I := iv_up hi (by rw [em]; exact nI_toInt (by omega)) (by rw [e68]; exact nI_toInt (by omega))
  refine And.intro (v 1 (by omega)) ?_
  refine ctr_at (vlift hm9 ct_X11_reaper_0 rfl rfl) (by decide) l _ I J [.ref 0, .int _] _ ⟨by decide, inI_fr _, trivial⟩ (fun e he => by cases he) hs hx hq ?_
  intro v1 sh1 I1 J1 g1 w1 i1 q1 f1 p1
  obtain ⟨r1, rfl⟩ := int_post (by decide) p1
  obtain ⟨ru1, ta1, rs1, _, _, rfl⟩ := shX g1
  refine And.intro (v 1 (by omega)) ?_
  refine ctr_at (cv_X12_reaper_0 hm9) (by decide) l _ I1 J1 [.ref 67, .int _] _ ⟨by decide, inI_fr _, trivial⟩ (fun e he => by cases he) g1 i1 q1 ?_
  intro v2 sh2 I2 J2 g2 w2 i2 q2 f2 p2
  obtain ⟨r2, rfl⟩ := int_post (by decide) p2
  have z6 : I2 6 = I 6 := (f2 6 rfl).trans (f1 6 rfl)
  have z69 : I2 69 = I 69 := (f2 69 rfl).trans (f1 69 rfl)
  exact hK 1403 (lloc c) [] _ I2 J2 99 18232 (hn _ I2 J2 ⟨⟨g2, iv_dn hm9 i2, q2⟩, rn_of i2, by rw [z6, z69]; exact hr2⟩)
set_option maxRecDepth 100000 in
set_option maxHeartbeats 1000000 in
theorem law_c2 (l : Launch) (L : Nat) (xs : Nat → Int32) (n c : Nat) (hc : 6 * c + 6 ≤ L) (hL : L ≤ 3072) (sh : List XO) (I : XI) (J : XJ) (hv : linv sh I) (hn : ∀ (sh' : List XO) (I' : XI) (J' : XJ), linv sh' I' → lrun l L xs n 1403 (lloc c) [] sh' I' J' 99 18232) : lrun l L xs (n + 1) 262 (lloc c) [] sh I J 99 18232 := by
  obtain ⟨⟨hs, hi, hq⟩, hr1, hr2⟩ := hv
  obtain ⟨ru, ta, rs, _, _, rfl⟩ := shX hs
  have v : ∀ j, j < 6 → vp_in (nI (6 * c) + nI j) L := fun j hj => by rw [nI_add]; exact vp_in_nI (by omega) (by omega)
  refine xrun_step fun K hK => ?_
  have h07 : inI (0, 8) (I 0 7).toInt := by
    rw [← cell_two.1]
    exact hi 0 7 rfl
  obtain ⟨m, em, _, hm, _⟩ := nI_inI h07 (by omega)
  have hm9 : m < 9 := by omega
  have e68 : I 68 6 = nI m := hr1.symm.trans em
  have hx : ivO (CXv m) [] I := iv_up hi (by rw [em]; exact nI_toInt (by omega)) (by rw [e68]; exact nI_toInt (by omega))
  refine And.intro (v 1 (by omega)) ?_
  refine ctr_at (vlift hm9 ct_X11_barn_0 rfl rfl) (by decide) l _ I J [.ref 0, .int _] _ ⟨by decide, inI_fr _, trivial⟩ (fun e he => by cases he) hs hx hq ?_
  intro v1 sh1 I1 J1 g1 w1 i1 q1 f1 p1
  obtain ⟨r1, rfl⟩ := int_post (by decide) p1
  obtain ⟨ru1, ta1, rs1, _, _, rfl⟩ := shX g1
  refine And.intro (v 1 (by omega)) ?_
  refine ctr_at (cv_X12_barn_0 hm9) (by decide) l _ I1 J1 [.ref 67, .int _] _ ⟨by decide, inI_fr _, trivial⟩ (fun e he => by cases he) g1 i1 q1 ?_
  intro v2 sh2 I2 J2 g2 w2 i2 q2 f2 p2
  obtain ⟨r2, rfl⟩ := int_post (by decide) p2
  have z6 : I2 6 = I 6 := (f2 6 rfl).trans (f1 6 rfl)
  have z69 : I2 69 = I 69 := (f2 69 rfl).trans (f1 69 rfl)
  exact hK 1403 (lloc c) [] _ I2 J2 99 18232 (hn _ I2 J2 ⟨⟨g2, iv_dn hm9 i2, q2⟩, rn_of i2, by rw [z6, z69]; exact hr2⟩)
set_option maxRecDepth 100000 in
set_option maxHeartbeats 1000000 in
theorem law_c3 (l : Launch) (L : Nat) (xs : Nat → Int32) (n c : Nat) (hc : 6 * c + 6 ≤ L) (hL : L ≤ 3072) (sh : List XO) (I : XI) (J : XJ) (hv : linv sh I) (hn : ∀ (sh' : List XO) (I' : XI) (J' : XJ), linv sh' I' → lrun l L xs n 1403 (lloc c) [] sh' I' J' 99 18232) : lrun l L xs (n + 1) 285 (lloc c) [] sh I J 99 18232 := by
  obtain ⟨⟨hs, hi, hq⟩, hr1, hr2⟩ := hv
  obtain ⟨ru, ta, rs, _, _, rfl⟩ := shX hs
  have v : ∀ j, j < 6 → vp_in (nI (6 * c) + nI j) L := fun j hj => by rw [nI_add]; exact vp_in_nI (by omega) (by omega)
  refine xrun_step fun K hK => ?_
  have h07 : inI (0, 8) (I 0 7).toInt := by
    rw [← cell_two.1]
    exact hi 0 7 rfl
  obtain ⟨m, em, _, hm, _⟩ := nI_inI h07 (by omega)
  have hm9 : m < 9 := by omega
  have e68 : I 68 6 = nI m := hr1.symm.trans em
  have hx : ivO (CXv m) [] I := iv_up hi (by rw [em]; exact nI_toInt (by omega)) (by rw [e68]; exact nI_toInt (by omega))
  refine And.intro (v 1 (by omega)) ?_
  refine And.intro (v 2 (by omega)) ?_
  refine And.intro (v 3 (by omega)) ?_
  refine ctr_at (vlift hm9 ct_X11_cut_0 rfl rfl) (by decide) l _ I J [.ref 0, .int _, .int _, .int _] _ ⟨by decide, inI_fr _, inI_fr _, inI_fr _, trivial⟩ (fun e he => by cases he) hs hx hq ?_
  intro v1 sh1 I1 J1 g1 w1 i1 q1 f1 p1
  obtain ⟨r1, rfl⟩ := int_post (by decide) p1
  obtain ⟨ru1, ta1, rs1, _, _, rfl⟩ := shX g1
  refine And.intro (v 1 (by omega)) ?_
  refine And.intro (v 2 (by omega)) ?_
  refine And.intro (v 3 (by omega)) ?_
  refine ctr_at (cv_X12_cut_0 hm9) (by decide) l _ I1 J1 [.ref 67, .int _, .int _, .int _] _ ⟨by decide, inI_fr _, inI_fr _, inI_fr _, trivial⟩ (fun e he => by cases he) g1 i1 q1 ?_
  intro v2 sh2 I2 J2 g2 w2 i2 q2 f2 p2
  obtain ⟨r2, rfl⟩ := int_post (by decide) p2
  have z6 : I2 6 = I 6 := (f2 6 rfl).trans (f1 6 rfl)
  have z69 : I2 69 = I 69 := (f2 69 rfl).trans (f1 69 rfl)
  exact hK 1403 (lloc c) [] _ I2 J2 99 18232 (hn _ I2 J2 ⟨⟨g2, iv_dn hm9 i2, q2⟩, rn_of i2, by rw [z6, z69]; exact hr2⟩)
set_option maxRecDepth 100000 in
set_option maxHeartbeats 1000000 in
theorem law_c4 (l : Launch) (L : Nat) (xs : Nat → Int32) (n c : Nat) (hc : 6 * c + 6 ≤ L) (hL : L ≤ 3072) (sh : List XO) (I : XI) (J : XJ) (hv : linv sh I) (hn : ∀ (sh' : List XO) (I' : XI) (J' : XJ), linv sh' I' → lrun l L xs n 1403 (lloc c) [] sh' I' J' 99 18232) : lrun l L xs (n + 1) 328 (lloc c) [] sh I J 99 18232 := by
  obtain ⟨⟨hs, hi, hq⟩, hr1, hr2⟩ := hv
  obtain ⟨ru, ta, rs, _, _, rfl⟩ := shX hs
  have v : ∀ j, j < 6 → vp_in (nI (6 * c) + nI j) L := fun j hj => by rw [nI_add]; exact vp_in_nI (by omega) (by omega)
  refine xrun_step fun K hK => ?_
  have h07 : inI (0, 8) (I 0 7).toInt := by
    rw [← cell_two.1]
    exact hi 0 7 rfl
  obtain ⟨m, em, _, hm, _⟩ := nI_inI h07 (by omega)
  have hm9 : m < 9 := by omega
  have e68 : I 68 6 = nI m := hr1.symm.trans em
  have hx : ivO (CXv m) [] I := iv_up hi (by rw [em]; exact nI_toInt (by omega)) (by rw [e68]; exact nI_toInt (by omega))
  refine And.intro (v 1 (by omega)) ?_
  refine And.intro (v 2 (by omega)) ?_
  refine ctr_at (vlift hm9 ct_X11_last_0 rfl rfl) (by decide) l _ I J [.ref 0, .int _, .int _] _ ⟨by decide, inI_fr _, inI_fr _, trivial⟩ (fun e he => by cases he) hs hx hq ?_
  intro v1 sh1 I1 J1 g1 w1 i1 q1 f1 p1
  obtain ⟨r1, rfl⟩ := int_post (by decide) p1
  obtain ⟨ru1, ta1, rs1, _, _, rfl⟩ := shX g1
  refine And.intro (v 1 (by omega)) ?_
  refine And.intro (v 2 (by omega)) ?_
  refine ctr_at (cv_X12_last_0 hm9) (by decide) l _ I1 J1 [.ref 67, .int _, .int _] _ ⟨by decide, inI_fr _, inI_fr _, trivial⟩ (fun e he => by cases he) g1 i1 q1 ?_
  intro v2 sh2 I2 J2 g2 w2 i2 q2 f2 p2
  obtain ⟨r2, rfl⟩ := int_post (by decide) p2
  have z6 : I2 6 = I 6 := (f2 6 rfl).trans (f1 6 rfl)
  have z69 : I2 69 = I 69 := (f2 69 rfl).trans (f1 69 rfl)
  exact hK 1403 (lloc c) [] _ I2 J2 99 18232 (hn _ I2 J2 ⟨⟨g2, iv_dn hm9 i2, q2⟩, rn_of i2, by rw [z6, z69]; exact hr2⟩)
set_option maxRecDepth 100000 in
set_option maxHeartbeats 1000000 in
theorem law_c5 (l : Launch) (L : Nat) (xs : Nat → Int32) (n c : Nat) (hc : 6 * c + 6 ≤ L) (hL : L ≤ 3072) (sh : List XO) (I : XI) (J : XJ) (hv : linv sh I) (hn : ∀ (sh' : List XO) (I' : XI) (J' : XJ), linv sh' I' → lrun l L xs n 1403 (lloc c) [] sh' I' J' 99 18232) : lrun l L xs (n + 1) 361 (lloc c) [] sh I J 99 18232 := by
  obtain ⟨⟨hs, hi, hq⟩, hr1, hr2⟩ := hv
  obtain ⟨ru, ta, rs, _, _, rfl⟩ := shX hs
  have v : ∀ j, j < 6 → vp_in (nI (6 * c) + nI j) L := fun j hj => by rw [nI_add]; exact vp_in_nI (by omega) (by omega)
  refine xrun_step fun K hK => ?_
  have h07 : inI (0, 8) (I 0 7).toInt := by
    rw [← cell_two.1]
    exact hi 0 7 rfl
  obtain ⟨m, em, _, hm, _⟩ := nI_inI h07 (by omega)
  have hm9 : m < 9 := by omega
  have e68 : I 68 6 = nI m := hr1.symm.trans em
  have hx : ivO (CXv m) [] I := iv_up hi (by rw [em]; exact nI_toInt (by omega)) (by rw [e68]; exact nI_toInt (by omega))
  refine And.intro (v 1 (by omega)) ?_
  refine And.intro (v 2 (by omega)) ?_
  refine ctr_at (vlift hm9 ct_X11_use_0 rfl rfl) (by decide) l _ I J [.ref 0, .int _, .int _] _ ⟨by decide, inI_fr _, inI_fr _, trivial⟩ (fun e he => by cases he) hs hx hq ?_
  intro v1 sh1 I1 J1 g1 w1 i1 q1 f1 p1
  obtain ⟨r1, rfl⟩ := int_post (by decide) p1
  obtain ⟨ru1, ta1, rs1, _, _, rfl⟩ := shX g1
  refine And.intro (v 1 (by omega)) ?_
  refine And.intro (v 2 (by omega)) ?_
  refine ctr_at (cv_X12_use_0 hm9) (by decide) l _ I1 J1 [.ref 67, .int _, .int _] _ ⟨by decide, inI_fr _, inI_fr _, trivial⟩ (fun e he => by cases he) g1 i1 q1 ?_
  intro v2 sh2 I2 J2 g2 w2 i2 q2 f2 p2
  obtain ⟨r2, rfl⟩ := int_post (by decide) p2
  have z6 : I2 6 = I 6 := (f2 6 rfl).trans (f1 6 rfl)
  have z69 : I2 69 = I 69 := (f2 69 rfl).trans (f1 69 rfl)
  exact hK 1403 (lloc c) [] _ I2 J2 99 18232 (hn _ I2 J2 ⟨⟨g2, iv_dn hm9 i2, q2⟩, rn_of i2, by rw [z6, z69]; exact hr2⟩)
set_option maxRecDepth 100000 in
set_option maxHeartbeats 1000000 in
theorem law_c6 (l : Launch) (L : Nat) (xs : Nat → Int32) (n c : Nat) (hc : 6 * c + 6 ≤ L) (hL : L ≤ 3072) (sh : List XO) (I : XI) (J : XJ) (hv : linv sh I) (hn : ∀ (sh' : List XO) (I' : XI) (J' : XJ), linv sh' I' → lrun l L xs n 1403 (lloc c) [] sh' I' J' 99 18232) : lrun l L xs (n + 1) 394 (lloc c) [] sh I J 99 18232 := by
  obtain ⟨⟨hs, hi, hq⟩, hr1, hr2⟩ := hv
  obtain ⟨ru, ta, rs, _, _, rfl⟩ := shX hs
  have v : ∀ j, j < 6 → vp_in (nI (6 * c) + nI j) L := fun j hj => by rw [nI_add]; exact vp_in_nI (by omega) (by omega)
  refine xrun_step fun K hK => ?_
  have h07 : inI (0, 8) (I 0 7).toInt := by
    rw [← cell_two.1]
    exact hi 0 7 rfl
  obtain ⟨m, em, _, hm, _⟩ := nI_inI h07 (by omega)
  have hm9 : m < 9 := by omega
  have e68 : I 68 6 = nI m := hr1.symm.trans em
  have hx : ivO (CXv m) [] I := iv_up hi (by rw [em]; exact nI_toInt (by omega)) (by rw [e68]; exact nI_toInt (by omega))
  refine And.intro (v 1 (by omega)) ?_
  refine And.intro (v 2 (by omega)) ?_
  refine ctr_at (vlift hm9 ct_X11_move_0 rfl rfl) (by decide) l _ I J [.ref 0, .int _, .int _] _ ⟨by decide, inI_fr _, inI_fr _, trivial⟩ (fun e he => by cases he) hs hx hq ?_
  intro v1 sh1 I1 J1 g1 w1 i1 q1 f1 p1
  obtain ⟨r1, rfl⟩ := int_post (by decide) p1
  obtain ⟨ru1, ta1, rs1, _, _, rfl⟩ := shX g1
  refine And.intro (v 1 (by omega)) ?_
  refine And.intro (v 2 (by omega)) ?_
  refine ctr_at (cv_X12_move_0 hm9) (by decide) l _ I1 J1 [.ref 67, .int _, .int _] _ ⟨by decide, inI_fr _, inI_fr _, trivial⟩ (fun e he => by cases he) g1 i1 q1 ?_
  intro v2 sh2 I2 J2 g2 w2 i2 q2 f2 p2
  obtain ⟨r2, rfl⟩ := int_post (by decide) p2
  have z6 : I2 6 = I 6 := (f2 6 rfl).trans (f1 6 rfl)
  have z69 : I2 69 = I 69 := (f2 69 rfl).trans (f1 69 rfl)
  exact hK 1403 (lloc c) [] _ I2 J2 99 18232 (hn _ I2 J2 ⟨⟨g2, iv_dn hm9 i2, q2⟩, rn_of i2, by rw [z6, z69]; exact hr2⟩)
set_option maxRecDepth 100000 in
set_option maxHeartbeats 1000000 in
theorem law_c7 (l : Launch) (L : Nat) (xs : Nat → Int32) (n c : Nat) (hc : 6 * c + 6 ≤ L) (hL : L ≤ 3072) (sh : List XO) (I : XI) (J : XJ) (hv : linv sh I) (hn : ∀ (sh' : List XO) (I' : XI) (J' : XJ), linv sh' I' → lrun l L xs n 1403 (lloc c) [] sh' I' J' 99 18232) : lrun l L xs (n + 1) 427 (lloc c) [] sh I J 99 18232 := by
  obtain ⟨⟨hs, hi, hq⟩, hr1, hr2⟩ := hv
  obtain ⟨ru, ta, rs, _, _, rfl⟩ := shX hs
  have v : ∀ j, j < 6 → vp_in (nI (6 * c) + nI j) L := fun j hj => by rw [nI_add]; exact vp_in_nI (by omega) (by omega)
  refine xrun_step fun K hK => ?_
  have h07 : inI (0, 8) (I 0 7).toInt := by
    rw [← cell_two.1]
    exact hi 0 7 rfl
  obtain ⟨m, em, _, hm, _⟩ := nI_inI h07 (by omega)
  have hm9 : m < 9 := by omega
  have e68 : I 68 6 = nI m := hr1.symm.trans em
  have hx : ivO (CXv m) [] I := iv_up hi (by rw [em]; exact nI_toInt (by omega)) (by rw [e68]; exact nI_toInt (by omega))
  refine And.intro (v 1 (by omega)) ?_
  refine ctr_at (vlift hm9 ct_X11_sell_0 rfl rfl) (by decide) l _ I J [.ref 0, .int _] _ ⟨by decide, inI_fr _, trivial⟩ (fun e he => by cases he) hs hx hq ?_
  intro v1 sh1 I1 J1 g1 w1 i1 q1 f1 p1
  obtain ⟨r1, rfl⟩ := int_post (by decide) p1
  obtain ⟨ru1, ta1, rs1, _, _, rfl⟩ := shX g1
  refine And.intro (v 1 (by omega)) ?_
  refine ctr_at (cv_X12_sell_0 hm9) (by decide) l _ I1 J1 [.ref 67, .int _] _ ⟨by decide, inI_fr _, trivial⟩ (fun e he => by cases he) g1 i1 q1 ?_
  intro v2 sh2 I2 J2 g2 w2 i2 q2 f2 p2
  obtain ⟨r2, rfl⟩ := int_post (by decide) p2
  have z6 : I2 6 = I 6 := (f2 6 rfl).trans (f1 6 rfl)
  have z69 : I2 69 = I 69 := (f2 69 rfl).trans (f1 69 rfl)
  exact hK 1403 (lloc c) [] _ I2 J2 99 18232 (hn _ I2 J2 ⟨⟨g2, iv_dn hm9 i2, q2⟩, rn_of i2, by rw [z6, z69]; exact hr2⟩)
set_option maxRecDepth 100000 in
set_option maxHeartbeats 1000000 in
theorem law_c8 (l : Launch) (L : Nat) (xs : Nat → Int32) (n c : Nat) (hc : 6 * c + 6 ≤ L) (hL : L ≤ 3072) (sh : List XO) (I : XI) (J : XJ) (hv : linv sh I) (hn : ∀ (sh' : List XO) (I' : XI) (J' : XJ), linv sh' I' → lrun l L xs n 1403 (lloc c) [] sh' I' J' 99 18232) : lrun l L xs (n + 1) 450 (lloc c) [] sh I J 99 18232 := by
  obtain ⟨⟨hs, hi, hq⟩, hr1, hr2⟩ := hv
  obtain ⟨ru, ta, rs, _, _, rfl⟩ := shX hs
  have v : ∀ j, j < 6 → vp_in (nI (6 * c) + nI j) L := fun j hj => by rw [nI_add]; exact vp_in_nI (by omega) (by omega)
  refine xrun_step fun K hK => ?_
  have h07 : inI (0, 8) (I 0 7).toInt := by
    rw [← cell_two.1]
    exact hi 0 7 rfl
  obtain ⟨m, em, _, hm, _⟩ := nI_inI h07 (by omega)
  have hm9 : m < 9 := by omega
  have e68 : I 68 6 = nI m := hr1.symm.trans em
  have hx : ivO (CXv m) [] I := iv_up hi (by rw [em]; exact nI_toInt (by omega)) (by rw [e68]; exact nI_toInt (by omega))
  refine And.intro (v 1 (by omega)) ?_
  refine ctr_at (vlift hm9 ct_X11_hour_0 rfl rfl) (by decide) l _ I J [.ref 0, .int _] _ ⟨by decide, inI_fr _, trivial⟩ (fun e he => by cases he) hs hx hq ?_
  intro v1 sh1 I1 J1 g1 w1 i1 q1 f1 p1
  obtain ⟨r1, rfl⟩ := int_post (by decide) p1
  obtain ⟨ru1, ta1, rs1, _, _, rfl⟩ := shX g1
  refine And.intro (v 1 (by omega)) ?_
  refine ctr_at (cv_X12_hour_0 hm9) (by decide) l _ I1 J1 [.ref 67, .int _] _ ⟨by decide, inI_fr _, trivial⟩ (fun e he => by cases he) g1 i1 q1 ?_
  intro v2 sh2 I2 J2 g2 w2 i2 q2 f2 p2
  obtain ⟨r2, rfl⟩ := int_post (by decide) p2
  have z6 : I2 6 = I 6 := (f2 6 rfl).trans (f1 6 rfl)
  have z69 : I2 69 = I 69 := (f2 69 rfl).trans (f1 69 rfl)
  exact hK 1403 (lloc c) [] _ I2 J2 99 18232 (hn _ I2 J2 ⟨⟨g2, iv_dn hm9 i2, q2⟩, rn_of i2, by rw [z6, z69]; exact hr2⟩)
set_option maxRecDepth 100000 in
set_option maxHeartbeats 1000000 in
theorem law_c9 (l : Launch) (L : Nat) (xs : Nat → Int32) (n c : Nat) (hc : 6 * c + 6 ≤ L) (hL : L ≤ 3072) (sh : List XO) (I : XI) (J : XJ) (hv : linv sh I) (hn : ∀ (sh' : List XO) (I' : XI) (J' : XJ), linv sh' I' → lrun l L xs n 1403 (lloc c) [] sh' I' J' 99 18232) : lrun l L xs (n + 1) 473 (lloc c) [] sh I J 99 18232 := by
  obtain ⟨⟨hs, hi, hq⟩, hr1, hr2⟩ := hv
  obtain ⟨ru, ta, rs, _, _, rfl⟩ := shX hs
  have v : ∀ j, j < 6 → vp_in (nI (6 * c) + nI j) L := fun j hj => by rw [nI_add]; exact vp_in_nI (by omega) (by omega)
  refine xrun_step fun K hK => ?_
  have h07 : inI (0, 8) (I 0 7).toInt := by
    rw [← cell_two.1]
    exact hi 0 7 rfl
  obtain ⟨m, em, _, hm, _⟩ := nI_inI h07 (by omega)
  have hm9 : m < 9 := by omega
  have e68 : I 68 6 = nI m := hr1.symm.trans em
  have hx : ivO (CXv m) [] I := iv_up hi (by rw [em]; exact nI_toInt (by omega)) (by rw [e68]; exact nI_toInt (by omega))
  refine And.intro (v 1 (by omega)) ?_
  refine And.intro (v 2 (by omega)) ?_
  refine ctr_at (vlift hm9 ct_X11_decades_0 rfl rfl) (by decide) l _ I J [.ref 0, .int _, .int _] _ ⟨by decide, inI_fr _, inI_fr _, trivial⟩ (fun e he => by cases he) hs hx hq ?_
  intro v1 sh1 I1 J1 g1 w1 i1 q1 f1 p1
  obtain ⟨r1, rfl⟩ := int_post (by decide) p1
  obtain ⟨ru1, ta1, rs1, _, _, rfl⟩ := shX g1
  refine And.intro (v 1 (by omega)) ?_
  refine And.intro (v 2 (by omega)) ?_
  refine ctr_at (cv_X12_decades_0 hm9) (by decide) l _ I1 J1 [.ref 67, .int _, .int _] _ ⟨by decide, inI_fr _, inI_fr _, trivial⟩ (fun e he => by cases he) g1 i1 q1 ?_
  intro v2 sh2 I2 J2 g2 w2 i2 q2 f2 p2
  obtain ⟨r2, rfl⟩ := int_post (by decide) p2
  have z6 : I2 6 = I 6 := (f2 6 rfl).trans (f1 6 rfl)
  have z69 : I2 69 = I 69 := (f2 69 rfl).trans (f1 69 rfl)
  exact hK 1403 (lloc c) [] _ I2 J2 99 18232 (hn _ I2 J2 ⟨⟨g2, iv_dn hm9 i2, q2⟩, rn_of i2, by rw [z6, z69]; exact hr2⟩)
set_option maxRecDepth 100000 in
set_option maxHeartbeats 1000000 in
theorem law_c10 (l : Launch) (L : Nat) (xs : Nat → Int32) (n c : Nat) (hc : 6 * c + 6 ≤ L) (hL : L ≤ 3072) (sh : List XO) (I : XI) (J : XJ) (hv : linv sh I) (hn : ∀ (sh' : List XO) (I' : XI) (J' : XJ), linv sh' I' → lrun l L xs n 1403 (lloc c) [] sh' I' J' 99 18232) : lrun l L xs (n + 1) 506 (lloc c) [] sh I J 99 18232 := by
  obtain ⟨⟨hs, hi, hq⟩, hr1, hr2⟩ := hv
  obtain ⟨ru, ta, rs, _, _, rfl⟩ := shX hs
  have v : ∀ j, j < 6 → vp_in (nI (6 * c) + nI j) L := fun j hj => by rw [nI_add]; exact vp_in_nI (by omega) (by omega)
  refine xrun_step fun K hK => ?_
  have h07 : inI (0, 8) (I 0 7).toInt := by
    rw [← cell_two.1]
    exact hi 0 7 rfl
  obtain ⟨m, em, _, hm, _⟩ := nI_inI h07 (by omega)
  have hm9 : m < 9 := by omega
  have e68 : I 68 6 = nI m := hr1.symm.trans em
  have hx : ivO (CXv m) [] I := iv_up hi (by rw [em]; exact nI_toInt (by omega)) (by rw [e68]; exact nI_toInt (by omega))
  refine And.intro (v 1 (by omega)) ?_
  refine And.intro (v 2 (by omega)) ?_
  refine And.intro (v 3 (by omega)) ?_
  refine And.intro (v 4 (by omega)) ?_
  refine And.intro (v 5 (by omega)) ?_
  refine ctr_at (vlift hm9 ct_X11_feed_0 rfl rfl) (by decide) l _ I J [.ref 0, .int _, .int _, .int _, .int _, .int _] _ ⟨by decide, inI_fr _, inI_fr _, inI_fr _, inI_fr _, inI_fr _, trivial⟩ (fun e he => by cases he) hs hx hq ?_
  intro v1 sh1 I1 J1 g1 w1 i1 q1 f1 p1
  obtain ⟨r1, rfl⟩ := int_post (by decide) p1
  obtain ⟨ru1, ta1, rs1, _, _, rfl⟩ := shX g1
  refine And.intro (v 1 (by omega)) ?_
  refine And.intro (v 2 (by omega)) ?_
  refine And.intro (v 3 (by omega)) ?_
  refine And.intro (v 4 (by omega)) ?_
  refine And.intro (v 5 (by omega)) ?_
  refine ctr_at (vlift hm9 ct_X12_feed_0 rfl rfl) (by decide) l _ I1 J1 [.ref 67, .int _, .int _, .int _, .int _, .int _] _ ⟨by decide, inI_fr _, inI_fr _, inI_fr _, inI_fr _, inI_fr _, trivial⟩ (fun e he => by cases he) g1 i1 q1 ?_
  intro v2 sh2 I2 J2 g2 w2 i2 q2 f2 p2
  obtain ⟨r2, rfl⟩ := int_post (by decide) p2
  have z6 : I2 6 = I 6 := (f2 6 rfl).trans (f1 6 rfl)
  have z69 : I2 69 = I 69 := (f2 69 rfl).trans (f1 69 rfl)
  exact hK 1403 (lloc c) [] _ I2 J2 99 18232 (hn _ I2 J2 ⟨⟨g2, iv_dn hm9 i2, q2⟩, rn_of i2, by rw [z6, z69]; exact hr2⟩)
set_option maxRecDepth 100000 in
set_option maxHeartbeats 1000000 in
theorem law_c11 (l : Launch) (L : Nat) (xs : Nat → Int32) (n c : Nat) (hc : 6 * c + 6 ≤ L) (hL : L ≤ 3072) (sh : List XO) (I : XI) (J : XJ) (hv : linv sh I) (hn : ∀ (sh' : List XO) (I' : XI) (J' : XJ), linv sh' I' → lrun l L xs n 1403 (lloc c) [] sh' I' J' 99 18232) : lrun l L xs (n + 1) 569 (lloc c) [] sh I J 99 18232 := by
  obtain ⟨⟨hs, hi, hq⟩, hr1, hr2⟩ := hv
  obtain ⟨ru, ta, rs, _, _, rfl⟩ := shX hs
  have v : ∀ j, j < 6 → vp_in (nI (6 * c) + nI j) L := fun j hj => by rw [nI_add]; exact vp_in_nI (by omega) (by omega)
  refine xrun_step fun K hK => ?_
  have h07 : inI (0, 8) (I 0 7).toInt := by
    rw [← cell_two.1]
    exact hi 0 7 rfl
  obtain ⟨m, em, _, hm, _⟩ := nI_inI h07 (by omega)
  have hm9 : m < 9 := by omega
  have e68 : I 68 6 = nI m := hr1.symm.trans em
  have hx : ivO (CXv m) [] I := iv_up hi (by rw [em]; exact nI_toInt (by omega)) (by rw [e68]; exact nI_toInt (by omega))
  refine And.intro (v 1 (by omega)) ?_
  refine ctr_at (vlift hm9 ct_X11_end_0 rfl rfl) (by decide) l _ I J [.ref 0, .int _] _ ⟨by decide, inI_fr _, trivial⟩ (fun e he => by cases he) hs hx hq ?_
  intro v1 sh1 I1 J1 g1 w1 i1 q1 f1 p1
  obtain ⟨r1, rfl⟩ := int_post (by decide) p1
  obtain ⟨ru1, ta1, rs1, _, _, rfl⟩ := shX g1
  refine And.intro (v 1 (by omega)) ?_
  refine ctr_at (vlift hm9 ct_X12_end_0 rfl rfl) (by decide) l _ I1 J1 [.ref 67, .int _] _ ⟨by decide, inI_fr _, trivial⟩ (fun e he => by cases he) g1 i1 q1 ?_
  intro v2 sh2 I2 J2 g2 w2 i2 q2 f2 p2
  obtain ⟨r2, rfl⟩ := int_post (by decide) p2
  have z6 : I2 6 = I 6 := (f2 6 rfl).trans (f1 6 rfl)
  have z69 : I2 69 = I 69 := (f2 69 rfl).trans (f1 69 rfl)
  exact hK 1403 (lloc c) [] _ I2 J2 99 18232 (hn _ I2 J2 ⟨⟨g2, iv_dn hm9 i2, q2⟩, rn_of i2, by rw [z6, z69]; exact hr2⟩)
set_option maxRecDepth 100000 in
set_option maxHeartbeats 1000000 in
theorem law_c12 (l : Launch) (L : Nat) (xs : Nat → Int32) (n c : Nat) (hc : 6 * c + 6 ≤ L) (hL : L ≤ 3072) (sh : List XO) (I : XI) (J : XJ) (hv : linv sh I) (hn : ∀ (sh' : List XO) (I' : XI) (J' : XJ), linv sh' I' → lrun l L xs n 1403 (lloc c) [] sh' I' J' 99 18232) : lrun l L xs (n + 1) 592 (lloc c) [] sh I J 99 18232 := by
  obtain ⟨⟨hs, hi, hq⟩, hr1, hr2⟩ := hv
  obtain ⟨ru, ta, rs, _, _, rfl⟩ := shX hs
  have v : ∀ j, j < 6 → vp_in (nI (6 * c) + nI j) L := fun j hj => by rw [nI_add]; exact vp_in_nI (by omega) (by omega)
  refine xrun_step fun K hK => ?_
  have h07 : inI (0, 8) (I 0 7).toInt := by
    rw [← cell_two.1]
    exact hi 0 7 rfl
  obtain ⟨m, em, _, hm, _⟩ := nI_inI h07 (by omega)
  have hm9 : m < 9 := by omega
  have e68 : I 68 6 = nI m := hr1.symm.trans em
  have hx : ivO (CXv m) [] I := iv_up hi (by rw [em]; exact nI_toInt (by omega)) (by rw [e68]; exact nI_toInt (by omega))
  refine ctr_at (cv_X11_text_0 hm9) (by decide) l _ I J [.ref 0] _ ⟨by decide, trivial⟩ (fun e he => by cases he) hs hx hq ?_
  intro v1 sh1 I1 J1 g1 w1 i1 q1 f1 p1
  obtain ⟨r1, rfl⟩ := int_post (by decide) p1
  obtain ⟨ru1, ta1, rs1, _, _, rfl⟩ := shX g1
  refine tx_text l 1389 ru1 ta1 rs1 g1 I1 J1 _ (iv_dn hm9 i1) q1 (fun r I2 J2 a1 a2 a3 a4 a5 => ?_)
  have z0 : I2 0 = I1 0 := a4 0 rfl
  have z6 : I2 6 = I1 6 := a4 6 rfl
  exact hK 1403 (lloc c) [] _ I2 J2 99 18232 (hn _ I2 J2 ⟨⟨g1, a2, a3⟩, by rw [z0, a5.1]; exact rn_of i1, by rw [z6, a5.2, f1 6 rfl, f1 69 rfl]; exact hr2⟩)
set_option maxRecDepth 100000 in
set_option maxHeartbeats 1000000 in
theorem law_c13 (l : Launch) (L : Nat) (xs : Nat → Int32) (n c : Nat) (hc : 6 * c + 6 ≤ L) (hL : L ≤ 3072) (sh : List XO) (I : XI) (J : XJ) (hv : linv sh I) (hn : ∀ (sh' : List XO) (I' : XI) (J' : XJ), linv sh' I' → lrun l L xs n 1403 (lloc c) [] sh' I' J' 99 18232) : lrun l L xs (n + 1) 605 (lloc c) [] sh I J 99 18232 := by
  obtain ⟨⟨hs, hi, hq⟩, hr1, hr2⟩ := hv
  obtain ⟨ru, ta, rs, _, _, rfl⟩ := shX hs
  have v : ∀ j, j < 6 → vp_in (nI (6 * c) + nI j) L := fun j hj => by rw [nI_add]; exact vp_in_nI (by omega) (by omega)
  refine xrun_step fun K hK => ?_
  have h07 : inI (0, 8) (I 0 7).toInt := by
    rw [← cell_two.1]
    exact hi 0 7 rfl
  obtain ⟨m, em, _, hm, _⟩ := nI_inI h07 (by omega)
  have hm9 : m < 9 := by omega
  have e68 : I 68 6 = nI m := hr1.symm.trans em
  have hx : ivO (CXv m) [] I := iv_up hi (by rw [em]; exact nI_toInt (by omega)) (by rw [e68]; exact nI_toInt (by omega))
  refine And.intro (v 1 (by omega)) ?_
  refine ctr_at (vlift hm9 ct_X11_fault_0 rfl rfl) (by decide) l _ I J [.ref 0, .int _] _ ⟨by decide, inI_fr _, trivial⟩ (fun e he => by cases he) hs hx hq ?_
  intro v1 sh1 I1 J1 g1 w1 i1 q1 f1 p1
  obtain ⟨r1, rfl⟩ := int_post (by decide) p1
  obtain ⟨ru1, ta1, rs1, _, _, rfl⟩ := shX g1
  refine And.intro (v 1 (by omega)) ?_
  refine ctr_at (vlift hm9 ct_X12_fault_0 rfl rfl) (by decide) l _ I1 J1 [.ref 67, .int _] _ ⟨by decide, inI_fr _, trivial⟩ (fun e he => by cases he) g1 i1 q1 ?_
  intro v2 sh2 I2 J2 g2 w2 i2 q2 f2 p2
  obtain ⟨r2, rfl⟩ := int_post (by decide) p2
  have z6 : I2 6 = I 6 := (f2 6 rfl).trans (f1 6 rfl)
  have z69 : I2 69 = I 69 := (f2 69 rfl).trans (f1 69 rfl)
  exact hK 1403 (lloc c) [] _ I2 J2 99 18232 (hn _ I2 J2 ⟨⟨g2, iv_dn hm9 i2, q2⟩, rn_of i2, by rw [z6, z69]; exact hr2⟩)
set_option maxRecDepth 100000 in
set_option maxHeartbeats 1000000 in
theorem law_c14 (l : Launch) (L : Nat) (xs : Nat → Int32) (n c : Nat) (hc : 6 * c + 6 ≤ L) (hL : L ≤ 3072) (sh : List XO) (I : XI) (J : XJ) (hv : linv sh I) (hn : ∀ (sh' : List XO) (I' : XI) (J' : XJ), linv sh' I' → lrun l L xs n 1403 (lloc c) [] sh' I' J' 99 18232) : lrun l L xs (n + 1) 628 (lloc c) [] sh I J 99 18232 := by
  obtain ⟨⟨hs, hi, hq⟩, hr1, hr2⟩ := hv
  obtain ⟨ru, ta, rs, _, _, rfl⟩ := shX hs
  have v : ∀ j, j < 6 → vp_in (nI (6 * c) + nI j) L := fun j hj => by rw [nI_add]; exact vp_in_nI (by omega) (by omega)
  refine xrun_step fun K hK => ?_
  have h07 : inI (0, 8) (I 0 7).toInt := by
    rw [← cell_two.1]
    exact hi 0 7 rfl
  obtain ⟨m, em, _, hm, _⟩ := nI_inI h07 (by omega)
  have hm9 : m < 9 := by omega
  have e68 : I 68 6 = nI m := hr1.symm.trans em
  have hx : ivO (CXv m) [] I := iv_up hi (by rw [em]; exact nI_toInt (by omega)) (by rw [e68]; exact nI_toInt (by omega))
  refine And.intro (v 1 (by omega)) ?_
  refine ctr_at (cv_X11_by_0 hm9) (by decide) l _ I J [.ref 0, .int _] _ ⟨by decide, inI_fr _, trivial⟩ (fun e he => by cases he) hs hx hq ?_
  intro v1 sh1 I1 J1 g1 w1 i1 q1 f1 p1
  obtain ⟨r1, rfl⟩ := int_post (by decide) p1
  obtain ⟨ru1, ta1, rs1, _, _, rfl⟩ := shX g1
  refine And.intro (v 1 (by omega)) ?_
  refine ctr_at (cv_X12_by_0 hm9) (by decide) l _ I1 J1 [.ref 67, .int _] _ ⟨by decide, inI_fr _, trivial⟩ (fun e he => by cases he) g1 i1 q1 ?_
  intro v2 sh2 I2 J2 g2 w2 i2 q2 f2 p2
  obtain ⟨r2, rfl⟩ := int_post (by decide) p2
  have z6 : I2 6 = I 6 := (f2 6 rfl).trans (f1 6 rfl)
  have z69 : I2 69 = I 69 := (f2 69 rfl).trans (f1 69 rfl)
  exact hK 1403 (lloc c) [] _ I2 J2 99 18232 (hn _ I2 J2 ⟨⟨g2, iv_dn hm9 i2, q2⟩, rn_of i2, by rw [z6, z69]; exact hr2⟩)
set_option maxRecDepth 100000 in
set_option maxHeartbeats 1000000 in
theorem law_c15 (l : Launch) (L : Nat) (xs : Nat → Int32) (n c : Nat) (hc : 6 * c + 6 ≤ L) (hL : L ≤ 3072) (sh : List XO) (I : XI) (J : XJ) (hv : linv sh I) (hn : ∀ (sh' : List XO) (I' : XI) (J' : XJ), linv sh' I' → lrun l L xs n 1403 (lloc c) [] sh' I' J' 99 18232) : lrun l L xs (n + 1) 651 (lloc c) [] sh I J 99 18232 := by
  obtain ⟨⟨hs, hi, hq⟩, hr1, hr2⟩ := hv
  obtain ⟨ru, ta, rs, _, _, rfl⟩ := shX hs
  have v : ∀ j, j < 6 → vp_in (nI (6 * c) + nI j) L := fun j hj => by rw [nI_add]; exact vp_in_nI (by omega) (by omega)
  refine xrun_step fun K hK => ?_
  have h07 : inI (0, 8) (I 0 7).toInt := by
    rw [← cell_two.1]
    exact hi 0 7 rfl
  obtain ⟨m, em, _, hm, _⟩ := nI_inI h07 (by omega)
  have hm9 : m < 9 := by omega
  have e68 : I 68 6 = nI m := hr1.symm.trans em
  have hx : ivO (CXv m) [] I := iv_up hi (by rw [em]; exact nI_toInt (by omega)) (by rw [e68]; exact nI_toInt (by omega))
  refine And.intro (v 1 (by omega)) ?_
  refine ctr_at (vlift hm9 ct_X11_played_0 rfl rfl) (by decide) l _ I J [.ref 0, .int _] _ ⟨by decide, inI_fr _, trivial⟩ (fun e he => by cases he) hs hx hq ?_
  intro v1 sh1 I1 J1 g1 w1 i1 q1 f1 p1
  obtain ⟨r1, rfl⟩ := int_post (by decide) p1
  obtain ⟨ru1, ta1, rs1, _, _, rfl⟩ := shX g1
  refine And.intro (v 1 (by omega)) ?_
  refine ctr_at (cv_X12_played_0 hm9) (by decide) l _ I1 J1 [.ref 67, .int _] _ ⟨by decide, inI_fr _, trivial⟩ (fun e he => by cases he) g1 i1 q1 ?_
  intro v2 sh2 I2 J2 g2 w2 i2 q2 f2 p2
  obtain ⟨r2, rfl⟩ := int_post (by decide) p2
  have z6 : I2 6 = I 6 := (f2 6 rfl).trans (f1 6 rfl)
  have z69 : I2 69 = I 69 := (f2 69 rfl).trans (f1 69 rfl)
  exact hK 1403 (lloc c) [] _ I2 J2 99 18232 (hn _ I2 J2 ⟨⟨g2, iv_dn hm9 i2, q2⟩, rn_of i2, by rw [z6, z69]; exact hr2⟩)
set_option maxRecDepth 100000 in
set_option maxHeartbeats 1000000 in
theorem law_c16 (l : Launch) (L : Nat) (xs : Nat → Int32) (n c : Nat) (hc : 6 * c + 6 ≤ L) (hL : L ≤ 3072) (sh : List XO) (I : XI) (J : XJ) (hv : linv sh I) (hn : ∀ (sh' : List XO) (I' : XI) (J' : XJ), linv sh' I' → lrun l L xs n 1403 (lloc c) [] sh' I' J' 99 18232) : lrun l L xs (n + 1) 674 (lloc c) [] sh I J 99 18232 := by
  obtain ⟨⟨hs, hi, hq⟩, hr1, hr2⟩ := hv
  obtain ⟨ru, ta, rs, _, _, rfl⟩ := shX hs
  have v : ∀ j, j < 6 → vp_in (nI (6 * c) + nI j) L := fun j hj => by rw [nI_add]; exact vp_in_nI (by omega) (by omega)
  refine xrun_step fun K hK => ?_
  have h07 : inI (0, 8) (I 0 7).toInt := by
    rw [← cell_two.1]
    exact hi 0 7 rfl
  obtain ⟨m, em, _, hm, _⟩ := nI_inI h07 (by omega)
  have hm9 : m < 9 := by omega
  have e68 : I 68 6 = nI m := hr1.symm.trans em
  have hx : ivO (CXv m) [] I := iv_up hi (by rw [em]; exact nI_toInt (by omega)) (by rw [e68]; exact nI_toInt (by omega))
  refine ctr_at (vlift hm9 ct_X11_undo_0 rfl rfl) (by decide) l _ I J [.ref 0] _ ⟨by decide, trivial⟩ (fun e he => by cases he) hs hx hq ?_
  intro v1 sh1 I1 J1 g1 w1 i1 q1 f1 p1
  obtain ⟨r1, rfl⟩ := int_post (by decide) p1
  obtain ⟨ru1, ta1, rs1, _, _, rfl⟩ := shX g1
  refine ctr_at (cv_X12_undo_0 hm9) (by decide) l _ I1 J1 [.ref 67] _ ⟨by decide, trivial⟩ (fun e he => by cases he) g1 i1 q1 ?_
  intro v2 sh2 I2 J2 g2 w2 i2 q2 f2 p2
  obtain ⟨r2, rfl⟩ := int_post (by decide) p2
  have z6 : I2 6 = I 6 := (f2 6 rfl).trans (f1 6 rfl)
  have z69 : I2 69 = I 69 := (f2 69 rfl).trans (f1 69 rfl)
  exact hK 1403 (lloc c) [] _ I2 J2 99 18232 (hn _ I2 J2 ⟨⟨g2, iv_dn hm9 i2, q2⟩, rn_of i2, by rw [z6, z69]; exact hr2⟩)
set_option maxRecDepth 100000 in
set_option maxHeartbeats 1000000 in
theorem law_c17 (l : Launch) (L : Nat) (xs : Nat → Int32) (n c : Nat) (hc : 6 * c + 6 ≤ L) (hL : L ≤ 3072) (sh : List XO) (I : XI) (J : XJ) (hv : linv sh I) (hn : ∀ (sh' : List XO) (I' : XI) (J' : XJ), linv sh' I' → lrun l L xs n 1403 (lloc c) [] sh' I' J' 99 18232) : lrun l L xs (n + 1) 687 (lloc c) [] sh I J 99 18232 := by
  obtain ⟨⟨hs, hi, hq⟩, hr1, hr2⟩ := hv
  obtain ⟨ru, ta, rs, _, _, rfl⟩ := shX hs
  have v : ∀ j, j < 6 → vp_in (nI (6 * c) + nI j) L := fun j hj => by rw [nI_add]; exact vp_in_nI (by omega) (by omega)
  refine xrun_step fun K hK => ?_
  have h07 : inI (0, 8) (I 0 7).toInt := by
    rw [← cell_two.1]
    exact hi 0 7 rfl
  obtain ⟨m, em, _, hm, _⟩ := nI_inI h07 (by omega)
  have hm9 : m < 9 := by omega
  have e68 : I 68 6 = nI m := hr1.symm.trans em
  have hx : ivO (CXv m) [] I := iv_up hi (by rw [em]; exact nI_toInt (by omega)) (by rw [e68]; exact nI_toInt (by omega))
  refine And.intro (v 1 (by omega)) ?_
  refine And.intro (v 2 (by omega)) ?_
  refine ctr_at (vlift hm9 ct_X11_of_0 rfl rfl) (by decide) l _ I J [.ref 0, .int _, .int _] _ ⟨by decide, inI_fr _, inI_fr _, trivial⟩ (fun e he => by cases he) hs hx hq ?_
  intro v1 sh1 I1 J1 g1 w1 i1 q1 f1 p1
  obtain ⟨r1, rfl⟩ := int_post (by decide) p1
  obtain ⟨ru1, ta1, rs1, _, _, rfl⟩ := shX g1
  refine And.intro (v 1 (by omega)) ?_
  refine And.intro (v 2 (by omega)) ?_
  refine ctr_at (vlift hm9 ct_X12_of_0 rfl rfl) (by decide) l _ I1 J1 [.ref 67, .int _, .int _] _ ⟨by decide, inI_fr _, inI_fr _, trivial⟩ (fun e he => by cases he) g1 i1 q1 ?_
  intro v2 sh2 I2 J2 g2 w2 i2 q2 f2 p2
  obtain ⟨r2, rfl⟩ := int_post (by decide) p2
  have z6 : I2 6 = I 6 := (f2 6 rfl).trans (f1 6 rfl)
  have z69 : I2 69 = I 69 := (f2 69 rfl).trans (f1 69 rfl)
  exact hK 1403 (lloc c) [] _ I2 J2 99 18232 (hn _ I2 J2 ⟨⟨g2, iv_dn hm9 i2, q2⟩, rn_of i2, by rw [z6, z69]; exact hr2⟩)
set_option maxRecDepth 100000 in
set_option maxHeartbeats 1000000 in
theorem law_c18 (l : Launch) (L : Nat) (xs : Nat → Int32) (n c : Nat) (hc : 6 * c + 6 ≤ L) (hL : L ≤ 3072) (sh : List XO) (I : XI) (J : XJ) (hv : linv sh I) (hn : ∀ (sh' : List XO) (I' : XI) (J' : XJ), linv sh' I' → lrun l L xs n 1403 (lloc c) [] sh' I' J' 99 18232) : lrun l L xs (n + 1) 720 (lloc c) [] sh I J 99 18232 := by
  obtain ⟨⟨hs, hi, hq⟩, hr1, hr2⟩ := hv
  obtain ⟨ru, ta, rs, _, _, rfl⟩ := shX hs
  have v : ∀ j, j < 6 → vp_in (nI (6 * c) + nI j) L := fun j hj => by rw [nI_add]; exact vp_in_nI (by omega) (by omega)
  refine xrun_step fun K hK => ?_
  have h07 : inI (0, 8) (I 0 7).toInt := by
    rw [← cell_two.1]
    exact hi 0 7 rfl
  obtain ⟨m, em, _, hm, _⟩ := nI_inI h07 (by omega)
  have hm9 : m < 9 := by omega
  have e68 : I 68 6 = nI m := hr1.symm.trans em
  have hx : ivO (CXv m) [] I := iv_up hi (by rw [em]; exact nI_toInt (by omega)) (by rw [e68]; exact nI_toInt (by omega))
  refine And.intro (v 1 (by omega)) ?_
  refine And.intro (v 2 (by omega)) ?_
  refine ctr_at (vlift hm9 ct_X11_ofReaper_0 rfl rfl) (by decide) l _ I J [.ref 0, .int _, .int _] _ ⟨by decide, inI_fr _, inI_fr _, trivial⟩ (fun e he => by cases he) hs hx hq ?_
  intro v1 sh1 I1 J1 g1 w1 i1 q1 f1 p1
  obtain ⟨r1, rfl⟩ := int_post (by decide) p1
  obtain ⟨ru1, ta1, rs1, _, _, rfl⟩ := shX g1
  refine And.intro (v 1 (by omega)) ?_
  refine And.intro (v 2 (by omega)) ?_
  refine ctr_at (vlift hm9 ct_X12_ofReaper_0 rfl rfl) (by decide) l _ I1 J1 [.ref 67, .int _, .int _] _ ⟨by decide, inI_fr _, inI_fr _, trivial⟩ (fun e he => by cases he) g1 i1 q1 ?_
  intro v2 sh2 I2 J2 g2 w2 i2 q2 f2 p2
  obtain ⟨r2, rfl⟩ := int_post (by decide) p2
  have z6 : I2 6 = I 6 := (f2 6 rfl).trans (f1 6 rfl)
  have z69 : I2 69 = I 69 := (f2 69 rfl).trans (f1 69 rfl)
  exact hK 1403 (lloc c) [] _ I2 J2 99 18232 (hn _ I2 J2 ⟨⟨g2, iv_dn hm9 i2, q2⟩, rn_of i2, by rw [z6, z69]; exact hr2⟩)
set_option maxRecDepth 100000 in
set_option maxHeartbeats 1000000 in
theorem law_c19 (l : Launch) (L : Nat) (xs : Nat → Int32) (n c : Nat) (hc : 6 * c + 6 ≤ L) (hL : L ≤ 3072) (sh : List XO) (I : XI) (J : XJ) (hv : linv sh I) (hn : ∀ (sh' : List XO) (I' : XI) (J' : XJ), linv sh' I' → lrun l L xs n 1403 (lloc c) [] sh' I' J' 99 18232) : lrun l L xs (n + 1) 753 (lloc c) [] sh I J 99 18232 := by
  obtain ⟨⟨hs, hi, hq⟩, hr1, hr2⟩ := hv
  obtain ⟨ru, ta, rs, _, _, rfl⟩ := shX hs
  have v : ∀ j, j < 6 → vp_in (nI (6 * c) + nI j) L := fun j hj => by rw [nI_add]; exact vp_in_nI (by omega) (by omega)
  refine xrun_step fun K hK => ?_
  have h07 : inI (0, 8) (I 0 7).toInt := by
    rw [← cell_two.1]
    exact hi 0 7 rfl
  obtain ⟨m, em, _, hm, _⟩ := nI_inI h07 (by omega)
  have hm9 : m < 9 := by omega
  have e68 : I 68 6 = nI m := hr1.symm.trans em
  have hx : ivO (CXv m) [] I := iv_up hi (by rw [em]; exact nI_toInt (by omega)) (by rw [e68]; exact nI_toInt (by omega))
  refine And.intro (v 1 (by omega)) ?_
  refine And.intro (v 2 (by omega)) ?_
  refine ctr_at (vlift hm9 ct_X11_bale_0 rfl rfl) (by decide) l _ I J [.ref 0, .int _, .int _] _ ⟨by decide, inI_fr _, inI_fr _, trivial⟩ (fun e he => by cases he) hs hx hq ?_
  intro v1 sh1 I1 J1 g1 w1 i1 q1 f1 p1
  obtain ⟨r1, rfl⟩ := int_post (by decide) p1
  obtain ⟨ru1, ta1, rs1, _, _, rfl⟩ := shX g1
  refine And.intro (v 1 (by omega)) ?_
  refine And.intro (v 2 (by omega)) ?_
  refine ctr_at (vlift hm9 ct_X12_bale_0 rfl rfl) (by decide) l _ I1 J1 [.ref 67, .int _, .int _] _ ⟨by decide, inI_fr _, inI_fr _, trivial⟩ (fun e he => by cases he) g1 i1 q1 ?_
  intro v2 sh2 I2 J2 g2 w2 i2 q2 f2 p2
  obtain ⟨r2, rfl⟩ := int_post (by decide) p2
  have z6 : I2 6 = I 6 := (f2 6 rfl).trans (f1 6 rfl)
  have z69 : I2 69 = I 69 := (f2 69 rfl).trans (f1 69 rfl)
  exact hK 1403 (lloc c) [] _ I2 J2 99 18232 (hn _ I2 J2 ⟨⟨g2, iv_dn hm9 i2, q2⟩, rn_of i2, by rw [z6, z69]; exact hr2⟩)
set_option maxRecDepth 100000 in
set_option maxHeartbeats 1000000 in
theorem law_c20 (l : Launch) (L : Nat) (xs : Nat → Int32) (n c : Nat) (hc : 6 * c + 6 ≤ L) (hL : L ≤ 3072) (sh : List XO) (I : XI) (J : XJ) (hv : linv sh I) (hn : ∀ (sh' : List XO) (I' : XI) (J' : XJ), linv sh' I' → lrun l L xs n 1403 (lloc c) [] sh' I' J' 99 18232) : lrun l L xs (n + 1) 786 (lloc c) [] sh I J 99 18232 := by
  obtain ⟨⟨hs, hi, hq⟩, hr1, hr2⟩ := hv
  obtain ⟨ru, ta, rs, _, _, rfl⟩ := shX hs
  have v : ∀ j, j < 6 → vp_in (nI (6 * c) + nI j) L := fun j hj => by rw [nI_add]; exact vp_in_nI (by omega) (by omega)
  refine xrun_step fun K hK => ?_
  have h07 : inI (0, 8) (I 0 7).toInt := by
    rw [← cell_two.1]
    exact hi 0 7 rfl
  obtain ⟨m, em, _, hm, _⟩ := nI_inI h07 (by omega)
  have hm9 : m < 9 := by omega
  have e68 : I 68 6 = nI m := hr1.symm.trans em
  have hx : ivO (CXv m) [] I := iv_up hi (by rw [em]; exact nI_toInt (by omega)) (by rw [e68]; exact nI_toInt (by omega))
  refine And.intro (v 1 (by omega)) ?_
  refine And.intro (v 2 (by omega)) ?_
  refine ctr_at (vlift hm9 ct_X11_ofBarn_0 rfl rfl) (by decide) l _ I J [.ref 0, .int _, .int _] _ ⟨by decide, inI_fr _, inI_fr _, trivial⟩ (fun e he => by cases he) hs hx hq ?_
  intro v1 sh1 I1 J1 g1 w1 i1 q1 f1 p1
  obtain ⟨r1, rfl⟩ := int_post (by decide) p1
  obtain ⟨ru1, ta1, rs1, _, _, rfl⟩ := shX g1
  refine And.intro (v 1 (by omega)) ?_
  refine And.intro (v 2 (by omega)) ?_
  refine ctr_at (vlift hm9 ct_X12_ofBarn_0 rfl rfl) (by decide) l _ I1 J1 [.ref 67, .int _, .int _] _ ⟨by decide, inI_fr _, inI_fr _, trivial⟩ (fun e he => by cases he) g1 i1 q1 ?_
  intro v2 sh2 I2 J2 g2 w2 i2 q2 f2 p2
  obtain ⟨r2, rfl⟩ := int_post (by decide) p2
  have z6 : I2 6 = I 6 := (f2 6 rfl).trans (f1 6 rfl)
  have z69 : I2 69 = I 69 := (f2 69 rfl).trans (f1 69 rfl)
  exact hK 1403 (lloc c) [] _ I2 J2 99 18232 (hn _ I2 J2 ⟨⟨g2, iv_dn hm9 i2, q2⟩, rn_of i2, by rw [z6, z69]; exact hr2⟩)
set_option maxRecDepth 100000 in
set_option maxHeartbeats 1000000 in
theorem law_c21 (l : Launch) (L : Nat) (xs : Nat → Int32) (n c : Nat) (hc : 6 * c + 6 ≤ L) (hL : L ≤ 3072) (sh : List XO) (I : XI) (J : XJ) (hv : linv sh I) (hn : ∀ (sh' : List XO) (I' : XI) (J' : XJ), linv sh' I' → lrun l L xs n 1403 (lloc c) [] sh' I' J' 99 18232) : lrun l L xs (n + 1) 819 (lloc c) [] sh I J 99 18232 := by
  obtain ⟨⟨hs, hi, hq⟩, hr1, hr2⟩ := hv
  obtain ⟨ru, ta, rs, _, _, rfl⟩ := shX hs
  have v : ∀ j, j < 6 → vp_in (nI (6 * c) + nI j) L := fun j hj => by rw [nI_add]; exact vp_in_nI (by omega) (by omega)
  refine xrun_step fun K hK => ?_
  have h07 : inI (0, 8) (I 0 7).toInt := by
    rw [← cell_two.1]
    exact hi 0 7 rfl
  obtain ⟨m, em, _, hm, _⟩ := nI_inI h07 (by omega)
  have hm9 : m < 9 := by omega
  have e68 : I 68 6 = nI m := hr1.symm.trans em
  have hx : ivO (CXv m) [] I := iv_up hi (by rw [em]; exact nI_toInt (by omega)) (by rw [e68]; exact nI_toInt (by omega))
  refine And.intro (v 1 (by omega)) ?_
  refine And.intro (v 2 (by omega)) ?_
  refine ctr_at (vlift hm9 ct_X11_foretold_0 rfl rfl) (by decide) l _ I J [.ref 0, .int _, .int _] _ ⟨by decide, inI_fr _, inI_fr _, trivial⟩ (fun e he => by cases he) hs hx hq ?_
  intro v1 sh1 I1 J1 g1 w1 i1 q1 f1 p1
  obtain ⟨r1, rfl⟩ := int_post (by decide) p1
  obtain ⟨ru1, ta1, rs1, _, _, rfl⟩ := shX g1
  refine And.intro (v 1 (by omega)) ?_
  refine And.intro (v 2 (by omega)) ?_
  refine ctr_at (vlift hm9 ct_X12_foretold_0 rfl rfl) (by decide) l _ I1 J1 [.ref 67, .int _, .int _] _ ⟨by decide, inI_fr _, inI_fr _, trivial⟩ (fun e he => by cases he) g1 i1 q1 ?_
  intro v2 sh2 I2 J2 g2 w2 i2 q2 f2 p2
  obtain ⟨r2, rfl⟩ := int_post (by decide) p2
  have z6 : I2 6 = I 6 := (f2 6 rfl).trans (f1 6 rfl)
  have z69 : I2 69 = I 69 := (f2 69 rfl).trans (f1 69 rfl)
  exact hK 1403 (lloc c) [] _ I2 J2 99 18232 (hn _ I2 J2 ⟨⟨g2, iv_dn hm9 i2, q2⟩, rn_of i2, by rw [z6, z69]; exact hr2⟩)
set_option maxRecDepth 100000 in
set_option maxHeartbeats 1000000 in
theorem law_c22 (l : Launch) (L : Nat) (xs : Nat → Int32) (n c : Nat) (hc : 6 * c + 6 ≤ L) (hL : L ≤ 3072) (sh : List XO) (I : XI) (J : XJ) (hv : linv sh I) (hn : ∀ (sh' : List XO) (I' : XI) (J' : XJ), linv sh' I' → lrun l L xs n 1403 (lloc c) [] sh' I' J' 99 18232) : lrun l L xs (n + 1) 852 (lloc c) [] sh I J 99 18232 := by
  obtain ⟨⟨hs, hi, hq⟩, hr1, hr2⟩ := hv
  obtain ⟨ru, ta, rs, _, _, rfl⟩ := shX hs
  have v : ∀ j, j < 6 → vp_in (nI (6 * c) + nI j) L := fun j hj => by rw [nI_add]; exact vp_in_nI (by omega) (by omega)
  refine xrun_step fun K hK => ?_
  have h07 : inI (0, 8) (I 0 7).toInt := by
    rw [← cell_two.1]
    exact hi 0 7 rfl
  obtain ⟨m, em, _, hm, _⟩ := nI_inI h07 (by omega)
  have hm9 : m < 9 := by omega
  have e68 : I 68 6 = nI m := hr1.symm.trans em
  have hx : ivO (CXv m) [] I := iv_up hi (by rw [em]; exact nI_toInt (by omega)) (by rw [e68]; exact nI_toInt (by omega))
  refine And.intro (v 1 (by omega)) ?_
  refine And.intro (v 2 (by omega)) ?_
  refine ctr_at (vlift hm9 ct_X11_stored_0 rfl rfl) (by decide) l _ I J [.ref 0, .int _, .int _] _ ⟨by decide, inI_fr _, inI_fr _, trivial⟩ (fun e he => by cases he) hs hx hq ?_
  intro v1 sh1 I1 J1 g1 w1 i1 q1 f1 p1
  obtain ⟨r1, rfl⟩ := int_post (by decide) p1
  obtain ⟨ru1, ta1, rs1, _, _, rfl⟩ := shX g1
  refine And.intro (v 1 (by omega)) ?_
  refine And.intro (v 2 (by omega)) ?_
  refine ctr_at (vlift hm9 ct_X12_stored_0 rfl rfl) (by decide) l _ I1 J1 [.ref 67, .int _, .int _] _ ⟨by decide, inI_fr _, inI_fr _, trivial⟩ (fun e he => by cases he) g1 i1 q1 ?_
  intro v2 sh2 I2 J2 g2 w2 i2 q2 f2 p2
  obtain ⟨r2, rfl⟩ := int_post (by decide) p2
  have z6 : I2 6 = I 6 := (f2 6 rfl).trans (f1 6 rfl)
  have z69 : I2 69 = I 69 := (f2 69 rfl).trans (f1 69 rfl)
  exact hK 1403 (lloc c) [] _ I2 J2 99 18232 (hn _ I2 J2 ⟨⟨g2, iv_dn hm9 i2, q2⟩, rn_of i2, by rw [z6, z69]; exact hr2⟩)
set_option maxRecDepth 100000 in
set_option maxHeartbeats 1000000 in
theorem law_c23 (l : Launch) (L : Nat) (xs : Nat → Int32) (n c : Nat) (hc : 6 * c + 6 ≤ L) (hL : L ≤ 3072) (sh : List XO) (I : XI) (J : XJ) (hv : linv sh I) (hn : ∀ (sh' : List XO) (I' : XI) (J' : XJ), linv sh' I' → lrun l L xs n 1403 (lloc c) [] sh' I' J' 99 18232) : lrun l L xs (n + 1) 885 (lloc c) [] sh I J 99 18232 := by
  obtain ⟨⟨hs, hi, hq⟩, hr1, hr2⟩ := hv
  obtain ⟨ru, ta, rs, _, _, rfl⟩ := shX hs
  have v : ∀ j, j < 6 → vp_in (nI (6 * c) + nI j) L := fun j hj => by rw [nI_add]; exact vp_in_nI (by omega) (by omega)
  refine xrun_step fun K hK => ?_
  have h07 : inI (0, 8) (I 0 7).toInt := by
    rw [← cell_two.1]
    exact hi 0 7 rfl
  obtain ⟨m, em, _, hm, _⟩ := nI_inI h07 (by omega)
  have hm9 : m < 9 := by omega
  have e68 : I 68 6 = nI m := hr1.symm.trans em
  have hx : ivO (CXv m) [] I := iv_up hi (by rw [em]; exact nI_toInt (by omega)) (by rw [e68]; exact nI_toInt (by omega))
  refine And.intro (v 1 (by omega)) ?_
  refine And.intro (v 2 (by omega)) ?_
  refine And.intro (v 3 (by omega)) ?_
  refine And.intro (v 4 (by omega)) ?_
  refine ctr_at (vlift hm9 ct_X11_most_0 rfl rfl) (by decide) l _ I J [.ref 0, .int _, .int _, .int _, .int _] _ ⟨by decide, inI_fr _, inI_fr _, inI_fr _, inI_fr _, trivial⟩ (fun e he => by cases he) hs hx hq ?_
  intro v1 sh1 I1 J1 g1 w1 i1 q1 f1 p1
  obtain ⟨r1, rfl⟩ := int_post (by decide) p1
  obtain ⟨ru1, ta1, rs1, _, _, rfl⟩ := shX g1
  refine And.intro (v 1 (by omega)) ?_
  refine And.intro (v 2 (by omega)) ?_
  refine And.intro (v 3 (by omega)) ?_
  refine And.intro (v 4 (by omega)) ?_
  refine ctr_at (vlift hm9 ct_X12_most_0 rfl rfl) (by decide) l _ I1 J1 [.ref 67, .int _, .int _, .int _, .int _] _ ⟨by decide, inI_fr _, inI_fr _, inI_fr _, inI_fr _, trivial⟩ (fun e he => by cases he) g1 i1 q1 ?_
  intro v2 sh2 I2 J2 g2 w2 i2 q2 f2 p2
  obtain ⟨r2, rfl⟩ := int_post (by decide) p2
  have z6 : I2 6 = I 6 := (f2 6 rfl).trans (f1 6 rfl)
  have z69 : I2 69 = I 69 := (f2 69 rfl).trans (f1 69 rfl)
  exact hK 1403 (lloc c) [] _ I2 J2 99 18232 (hn _ I2 J2 ⟨⟨g2, iv_dn hm9 i2, q2⟩, rn_of i2, by rw [z6, z69]; exact hr2⟩)
set_option maxRecDepth 100000 in
set_option maxHeartbeats 1000000 in
theorem law_c24 (l : Launch) (L : Nat) (xs : Nat → Int32) (n c : Nat) (hc : 6 * c + 6 ≤ L) (hL : L ≤ 3072) (sh : List XO) (I : XI) (J : XJ) (hv : linv sh I) (hn : ∀ (sh' : List XO) (I' : XI) (J' : XJ), linv sh' I' → lrun l L xs n 1403 (lloc c) [] sh' I' J' 99 18232) : lrun l L xs (n + 1) 938 (lloc c) [] sh I J 99 18232 := by
  obtain ⟨⟨hs, hi, hq⟩, hr1, hr2⟩ := hv
  obtain ⟨ru, ta, rs, _, _, rfl⟩ := shX hs
  have v : ∀ j, j < 6 → vp_in (nI (6 * c) + nI j) L := fun j hj => by rw [nI_add]; exact vp_in_nI (by omega) (by omega)
  refine xrun_step fun K hK => ?_
  have h07 : inI (0, 8) (I 0 7).toInt := by
    rw [← cell_two.1]
    exact hi 0 7 rfl
  obtain ⟨m, em, _, hm, _⟩ := nI_inI h07 (by omega)
  have hm9 : m < 9 := by omega
  have e68 : I 68 6 = nI m := hr1.symm.trans em
  have hx : ivO (CXv m) [] I := iv_up hi (by rw [em]; exact nI_toInt (by omega)) (by rw [e68]; exact nI_toInt (by omega))
  refine And.intro (v 1 (by omega)) ?_
  refine And.intro (v 2 (by omega)) ?_
  refine c_need l 1397 m hm9 (xs (nI (6 * c) + nI 1).toNatClampNeg) (xs (nI (6 * c) + nI 2).toNatClampNeg) ru ta rs I J _ em (fun d0 => ?_) (fun d0 k0 => ?_) (fun d0 k0 => ?_)
  · refine And.intro (v 1 (by omega)) (And.intro (v 2 (by omega)) ?_)
    refine m_need l 1397 m hm9 (xs (nI (6 * c) + nI 1).toNatClampNeg) (xs (nI (6 * c) + nI 2).toNatClampNeg) ru ta rs _ J _ e68 (fun _ => ?_) (fun g _ => absurd d0 g) (fun g _ => absurd d0 g)
    refine And.intro (fun _ => ?_) (fun g => absurd rfl g)
    exact hK 1403 (lloc c) [] _ (uI (uI I 0 7 0) 68 6 0) J 99 18232 (hn _ _ J ⟨⟨hs, iv_put (iv_put hi (by rw [cell_two.1]; exact ⟨by decide, by decide⟩)) (by rw [cell_two.2]; exact ⟨by decide, by decide⟩), qq_u (by decide) (qq_u (by decide) hq)⟩, rfl, hr2⟩)
  · refine And.intro (v 1 (by omega)) (And.intro (v 2 (by omega)) ?_)
    refine m_need l 1397 m hm9 (xs (nI (6 * c) + nI 1).toNatClampNeg) (xs (nI (6 * c) + nI 2).toNatClampNeg) ru ta rs _ J _ e68 (fun g => absurd g d0) (fun _ _ => ?_) (fun _ g => absurd g k0)
    refine And.intro (fun _ => ?_) (fun g => absurd rfl g)
    exact hK 1403 (lloc c) [] _ I J 99 18232 (hn _ I J ⟨⟨hs, hi, hq⟩, hr1, hr2⟩)
  · refine And.intro (v 1 (by omega)) (And.intro (v 2 (by omega)) ?_)
    refine m_need l 1397 m hm9 (xs (nI (6 * c) + nI 1).toNatClampNeg) (xs (nI (6 * c) + nI 2).toNatClampNeg) ru ta rs _ J _ e68 (fun g => absurd g d0) (fun _ g => absurd k0 g) (fun _ _ => ?_)
    refine And.intro (fun _ => ?_) (fun g => absurd rfl g)
    have hm8 : m < 8 := k0.2.2
    have c8 : inI (0, 8) (nI (m + 1)).toInt := by
      rw [nI_toInt (by omega)]
      exact ⟨by dsimp only; omega, by dsimp only; omega⟩
    have i8 : ivO CF [] (uI (uI (uI (uI (uI (uI I 3 m (xs (nI (6 * c) + nI 1).toNatClampNeg)) 4 m (xs (nI (6 * c) + nI 2).toNatClampNeg)) 0 7 (nI (m + 1))) 68 (42 + 2 * m) (xs (nI (6 * c) + nI 1).toNatClampNeg)) 68 (43 + 2 * m) (xs (nI (6 * c) + nI 2).toNatClampNeg)) 68 6 (nI (m + 1))) := iv_put (iv_put (iv_put (iv_put (iv_put (iv_put hi (by rw [cell_n34 (Or.inl rfl)]; exact inI_fr _)) (by rw [cell_n34 (Or.inr rfl)]; exact inI_fr _)) (by rw [cell_two.1]; exact c8)) (by rw [cell_nd (by omega) (by omega)]; exact inI_fr _)) (by rw [cell_nd (by omega) (by omega)]; exact inI_fr _)) (by rw [cell_two.2]; exact c8)
    exact hK 1403 (lloc c) [] _ (uI (uI (uI (uI (uI (uI I 3 m (xs (nI (6 * c) + nI 1).toNatClampNeg)) 4 m (xs (nI (6 * c) + nI 2).toNatClampNeg)) 0 7 (nI (m + 1))) 68 (42 + 2 * m) (xs (nI (6 * c) + nI 1).toNatClampNeg)) 68 (43 + 2 * m) (xs (nI (6 * c) + nI 2).toNatClampNeg)) 68 6 (nI (m + 1))) J 99 18232 (hn _ _ J ⟨⟨hs, i8, qq_u (by decide) (qq_u (by decide) (qq_u (by decide) (qq_u (by decide) (qq_u (by decide) (qq_u (by decide) hq)))))⟩, rfl, hr2⟩)
set_option maxRecDepth 100000 in
set_option maxHeartbeats 1000000 in
theorem law_c25 (l : Launch) (L : Nat) (xs : Nat → Int32) (n c : Nat) (hc : 6 * c + 6 ≤ L) (hL : L ≤ 3072) (sh : List XO) (I : XI) (J : XJ) (hv : linv sh I) (hn : ∀ (sh' : List XO) (I' : XI) (J' : XJ), linv sh' I' → lrun l L xs n 1403 (lloc c) [] sh' I' J' 99 18232) : lrun l L xs (n + 1) 971 (lloc c) [] sh I J 99 18232 := by
  obtain ⟨⟨hs, hi, hq⟩, hr1, hr2⟩ := hv
  obtain ⟨ru, ta, rs, _, _, rfl⟩ := shX hs
  have v : ∀ j, j < 6 → vp_in (nI (6 * c) + nI j) L := fun j hj => by rw [nI_add]; exact vp_in_nI (by omega) (by omega)
  refine xrun_step fun K hK => ?_
  have h07 : inI (0, 8) (I 0 7).toInt := by
    rw [← cell_two.1]
    exact hi 0 7 rfl
  obtain ⟨m, em, _, hm, _⟩ := nI_inI h07 (by omega)
  have hm9 : m < 9 := by omega
  have e68 : I 68 6 = nI m := hr1.symm.trans em
  have hx : ivO (CXv m) [] I := iv_up hi (by rw [em]; exact nI_toInt (by omega)) (by rw [e68]; exact nI_toInt (by omega))
  refine And.intro (v 1 (by omega)) ?_
  refine ctr_at (vlift hm9 ct_X11_unmet_0 rfl rfl) (by decide) l _ I J [.ref 0, .int _] _ ⟨by decide, inI_fr _, trivial⟩ (fun e he => by cases he) hs hx hq ?_
  intro v1 sh1 I1 J1 g1 w1 i1 q1 f1 p1
  obtain ⟨r1, rfl⟩ := int_post (by decide) p1
  obtain ⟨ru1, ta1, rs1, _, _, rfl⟩ := shX g1
  refine And.intro (v 1 (by omega)) ?_
  refine ctr_at (vlift hm9 ct_X12_unmet_0 rfl rfl) (by decide) l _ I1 J1 [.ref 67, .int _] _ ⟨by decide, inI_fr _, trivial⟩ (fun e he => by cases he) g1 i1 q1 ?_
  intro v2 sh2 I2 J2 g2 w2 i2 q2 f2 p2
  obtain ⟨r2, rfl⟩ := int_post (by decide) p2
  have z6 : I2 6 = I 6 := (f2 6 rfl).trans (f1 6 rfl)
  have z69 : I2 69 = I 69 := (f2 69 rfl).trans (f1 69 rfl)
  exact hK 1403 (lloc c) [] _ I2 J2 99 18232 (hn _ I2 J2 ⟨⟨g2, iv_dn hm9 i2, q2⟩, rn_of i2, by rw [z6, z69]; exact hr2⟩)
set_option maxRecDepth 100000 in
set_option maxHeartbeats 1000000 in
theorem law_c26 (l : Launch) (L : Nat) (xs : Nat → Int32) (n c : Nat) (hc : 6 * c + 6 ≤ L) (hL : L ≤ 3072) (sh : List XO) (I : XI) (J : XJ) (hv : linv sh I) (hn : ∀ (sh' : List XO) (I' : XI) (J' : XJ), linv sh' I' → lrun l L xs n 1403 (lloc c) [] sh' I' J' 99 18232) : lrun l L xs (n + 1) 994 (lloc c) [] sh I J 99 18232 := by
  obtain ⟨⟨hs, hi, hq⟩, hr1, hr2⟩ := hv
  obtain ⟨ru, ta, rs, _, _, rfl⟩ := shX hs
  have v : ∀ j, j < 6 → vp_in (nI (6 * c) + nI j) L := fun j hj => by rw [nI_add]; exact vp_in_nI (by omega) (by omega)
  refine xrun_step fun K hK => ?_
  have h07 : inI (0, 8) (I 0 7).toInt := by
    rw [← cell_two.1]
    exact hi 0 7 rfl
  obtain ⟨m, em, _, hm, _⟩ := nI_inI h07 (by omega)
  have hm9 : m < 9 := by omega
  have e68 : I 68 6 = nI m := hr1.symm.trans em
  have hx : ivO (CXv m) [] I := iv_up hi (by rw [em]; exact nI_toInt (by omega)) (by rw [e68]; exact nI_toInt (by omega))
  refine And.intro (v 1 (by omega)) ?_
  refine And.intro (v 2 (by omega)) ?_
  refine ctr_at (vlift hm9 ct_X11_enough_0 rfl rfl) (by decide) l _ I J [.ref 0, .int _, .int _] _ ⟨by decide, inI_fr _, inI_fr _, trivial⟩ (fun e he => by cases he) hs hx hq ?_
  intro v1 sh1 I1 J1 g1 w1 i1 q1 f1 p1
  obtain ⟨r1, rfl⟩ := int_post (by decide) p1
  obtain ⟨ru1, ta1, rs1, _, _, rfl⟩ := shX g1
  refine And.intro (v 1 (by omega)) ?_
  refine And.intro (v 2 (by omega)) ?_
  refine ctr_at (vlift hm9 ct_X12_enough_0 rfl rfl) (by decide) l _ I1 J1 [.ref 67, .int _, .int _] _ ⟨by decide, inI_fr _, inI_fr _, trivial⟩ (fun e he => by cases he) g1 i1 q1 ?_
  intro v2 sh2 I2 J2 g2 w2 i2 q2 f2 p2
  obtain ⟨r2, rfl⟩ := int_post (by decide) p2
  have z6 : I2 6 = I 6 := (f2 6 rfl).trans (f1 6 rfl)
  have z69 : I2 69 = I 69 := (f2 69 rfl).trans (f1 69 rfl)
  exact hK 1403 (lloc c) [] _ I2 J2 99 18232 (hn _ I2 J2 ⟨⟨g2, iv_dn hm9 i2, q2⟩, rn_of i2, by rw [z6, z69]; exact hr2⟩)
set_option maxRecDepth 100000 in
set_option maxHeartbeats 1000000 in
theorem law_c27 (l : Launch) (L : Nat) (xs : Nat → Int32) (n c : Nat) (hc : 6 * c + 6 ≤ L) (hL : L ≤ 3072) (sh : List XO) (I : XI) (J : XJ) (hv : linv sh I) (hn : ∀ (sh' : List XO) (I' : XI) (J' : XJ), linv sh' I' → lrun l L xs n 1403 (lloc c) [] sh' I' J' 99 18232) : lrun l L xs (n + 1) 1027 (lloc c) [] sh I J 99 18232 := by
  obtain ⟨⟨hs, hi, hq⟩, hr1, hr2⟩ := hv
  obtain ⟨ru, ta, rs, _, _, rfl⟩ := shX hs
  have v : ∀ j, j < 6 → vp_in (nI (6 * c) + nI j) L := fun j hj => by rw [nI_add]; exact vp_in_nI (by omega) (by omega)
  refine xrun_step fun K hK => ?_
  have h07 : inI (0, 8) (I 0 7).toInt := by
    rw [← cell_two.1]
    exact hi 0 7 rfl
  obtain ⟨m, em, _, hm, _⟩ := nI_inI h07 (by omega)
  have hm9 : m < 9 := by omega
  have e68 : I 68 6 = nI m := hr1.symm.trans em
  have hx : ivO (CXv m) [] I := iv_up hi (by rw [em]; exact nI_toInt (by omega)) (by rw [e68]; exact nI_toInt (by omega))
  refine And.intro (v 1 (by omega)) ?_
  refine And.intro (v 2 (by omega)) ?_
  refine And.intro (v 3 (by omega)) ?_
  refine And.intro (v 4 (by omega)) ?_
  refine ctr_at (vlift hm9 ct_X11_over_0 rfl rfl) (by decide) l _ I J [.ref 0, .int _, .int _, .int _, .int _] _ ⟨by decide, inI_fr _, inI_fr _, inI_fr _, inI_fr _, trivial⟩ (fun e he => by cases he) hs hx hq ?_
  intro v1 sh1 I1 J1 g1 w1 i1 q1 f1 p1
  obtain ⟨r1, rfl⟩ := int_post (by decide) p1
  obtain ⟨ru1, ta1, rs1, _, _, rfl⟩ := shX g1
  refine And.intro (v 1 (by omega)) ?_
  refine And.intro (v 2 (by omega)) ?_
  refine And.intro (v 3 (by omega)) ?_
  refine And.intro (v 4 (by omega)) ?_
  refine ctr_at (vlift hm9 ct_X12_over_0 rfl rfl) (by decide) l _ I1 J1 [.ref 67, .int _, .int _, .int _, .int _] _ ⟨by decide, inI_fr _, inI_fr _, inI_fr _, inI_fr _, trivial⟩ (fun e he => by cases he) g1 i1 q1 ?_
  intro v2 sh2 I2 J2 g2 w2 i2 q2 f2 p2
  obtain ⟨r2, rfl⟩ := int_post (by decide) p2
  have z6 : I2 6 = I 6 := (f2 6 rfl).trans (f1 6 rfl)
  have z69 : I2 69 = I 69 := (f2 69 rfl).trans (f1 69 rfl)
  exact hK 1403 (lloc c) [] _ I2 J2 99 18232 (hn _ I2 J2 ⟨⟨g2, iv_dn hm9 i2, q2⟩, rn_of i2, by rw [z6, z69]; exact hr2⟩)
set_option maxRecDepth 100000 in
set_option maxHeartbeats 1000000 in
theorem law_c28 (l : Launch) (L : Nat) (xs : Nat → Int32) (n c : Nat) (hc : 6 * c + 6 ≤ L) (hL : L ≤ 3072) (sh : List XO) (I : XI) (J : XJ) (hv : linv sh I) (hn : ∀ (sh' : List XO) (I' : XI) (J' : XJ), linv sh' I' → lrun l L xs n 1403 (lloc c) [] sh' I' J' 99 18232) : lrun l L xs (n + 1) 1080 (lloc c) [] sh I J 99 18232 := by
  obtain ⟨⟨hs, hi, hq⟩, hr1, hr2⟩ := hv
  obtain ⟨ru, ta, rs, _, _, rfl⟩ := shX hs
  have v : ∀ j, j < 6 → vp_in (nI (6 * c) + nI j) L := fun j hj => by rw [nI_add]; exact vp_in_nI (by omega) (by omega)
  refine xrun_step fun K hK => ?_
  have h07 : inI (0, 8) (I 0 7).toInt := by
    rw [← cell_two.1]
    exact hi 0 7 rfl
  obtain ⟨m, em, _, hm, _⟩ := nI_inI h07 (by omega)
  have hm9 : m < 9 := by omega
  have e68 : I 68 6 = nI m := hr1.symm.trans em
  have hx : ivO (CXv m) [] I := iv_up hi (by rw [em]; exact nI_toInt (by omega)) (by rw [e68]; exact nI_toInt (by omega))
  refine And.intro (v 1 (by omega)) ?_
  refine And.intro (v 2 (by omega)) ?_
  refine And.intro (v 3 (by omega)) ?_
  refine ctr_at (vlift hm9 ct_X11_whose_0 rfl rfl) (by decide) l _ I J [.ref 0, .int _, .int _, .int _] _ ⟨by decide, inI_fr _, inI_fr _, inI_fr _, trivial⟩ (fun e he => by cases he) hs hx hq ?_
  intro v1 sh1 I1 J1 g1 w1 i1 q1 f1 p1
  obtain ⟨r1, rfl⟩ := int_post (by decide) p1
  obtain ⟨ru1, ta1, rs1, _, _, rfl⟩ := shX g1
  refine And.intro (v 1 (by omega)) ?_
  refine And.intro (v 2 (by omega)) ?_
  refine And.intro (v 3 (by omega)) ?_
  refine ctr_at (vlift hm9 ct_X12_whose_0 rfl rfl) (by decide) l _ I1 J1 [.ref 67, .int _, .int _, .int _] _ ⟨by decide, inI_fr _, inI_fr _, inI_fr _, trivial⟩ (fun e he => by cases he) g1 i1 q1 ?_
  intro v2 sh2 I2 J2 g2 w2 i2 q2 f2 p2
  obtain ⟨r2, rfl⟩ := int_post (by decide) p2
  have z6 : I2 6 = I 6 := (f2 6 rfl).trans (f1 6 rfl)
  have z69 : I2 69 = I 69 := (f2 69 rfl).trans (f1 69 rfl)
  exact hK 1403 (lloc c) [] _ I2 J2 99 18232 (hn _ I2 J2 ⟨⟨g2, iv_dn hm9 i2, q2⟩, rn_of i2, by rw [z6, z69]; exact hr2⟩)
set_option maxRecDepth 100000 in
set_option maxHeartbeats 1000000 in
theorem law_c29 (l : Launch) (L : Nat) (xs : Nat → Int32) (n c : Nat) (hc : 6 * c + 6 ≤ L) (hL : L ≤ 3072) (sh : List XO) (I : XI) (J : XJ) (hv : linv sh I) (hn : ∀ (sh' : List XO) (I' : XI) (J' : XJ), linv sh' I' → lrun l L xs n 1403 (lloc c) [] sh' I' J' 99 18232) : lrun l L xs (n + 1) 1123 (lloc c) [] sh I J 99 18232 := by
  obtain ⟨⟨hs, hi, hq⟩, hr1, hr2⟩ := hv
  obtain ⟨ru, ta, rs, _, _, rfl⟩ := shX hs
  have v : ∀ j, j < 6 → vp_in (nI (6 * c) + nI j) L := fun j hj => by rw [nI_add]; exact vp_in_nI (by omega) (by omega)
  refine xrun_step fun K hK => ?_
  have h07 : inI (0, 8) (I 0 7).toInt := by
    rw [← cell_two.1]
    exact hi 0 7 rfl
  obtain ⟨m, em, _, hm, _⟩ := nI_inI h07 (by omega)
  have hm9 : m < 9 := by omega
  have e68 : I 68 6 = nI m := hr1.symm.trans em
  have hx : ivO (CXv m) [] I := iv_up hi (by rw [em]; exact nI_toInt (by omega)) (by rw [e68]; exact nI_toInt (by omega))
  refine And.intro (v 1 (by omega)) ?_
  refine And.intro (v 2 (by omega)) ?_
  refine And.intro (v 3 (by omega)) ?_
  refine ctr_at (vlift hm9 ct_X11_at_0 rfl rfl) (by decide) l _ I J [.ref 0, .int _, .int _, .int _] _ ⟨by decide, inI_fr _, inI_fr _, inI_fr _, trivial⟩ (fun e he => by cases he) hs hx hq ?_
  intro v1 sh1 I1 J1 g1 w1 i1 q1 f1 p1
  obtain ⟨r1, rfl⟩ := int_post (by decide) p1
  obtain ⟨ru1, ta1, rs1, _, _, rfl⟩ := shX g1
  refine And.intro (v 1 (by omega)) ?_
  refine And.intro (v 2 (by omega)) ?_
  refine And.intro (v 3 (by omega)) ?_
  refine ctr_at (vlift hm9 ct_X12_at_0 rfl rfl) (by decide) l _ I1 J1 [.ref 67, .int _, .int _, .int _] _ ⟨by decide, inI_fr _, inI_fr _, inI_fr _, trivial⟩ (fun e he => by cases he) g1 i1 q1 ?_
  intro v2 sh2 I2 J2 g2 w2 i2 q2 f2 p2
  obtain ⟨r2, rfl⟩ := int_post (by decide) p2
  have z6 : I2 6 = I 6 := (f2 6 rfl).trans (f1 6 rfl)
  have z69 : I2 69 = I 69 := (f2 69 rfl).trans (f1 69 rfl)
  exact hK 1403 (lloc c) [] _ I2 J2 99 18232 (hn _ I2 J2 ⟨⟨g2, iv_dn hm9 i2, q2⟩, rn_of i2, by rw [z6, z69]; exact hr2⟩)
set_option maxRecDepth 100000 in
set_option maxHeartbeats 1000000 in
theorem law_c30 (l : Launch) (L : Nat) (xs : Nat → Int32) (n c : Nat) (hc : 6 * c + 6 ≤ L) (hL : L ≤ 3072) (sh : List XO) (I : XI) (J : XJ) (hv : linv sh I) (hn : ∀ (sh' : List XO) (I' : XI) (J' : XJ), linv sh' I' → lrun l L xs n 1403 (lloc c) [] sh' I' J' 99 18232) : lrun l L xs (n + 1) 1166 (lloc c) [] sh I J 99 18232 := by
  obtain ⟨⟨hs, hi, hq⟩, hr1, hr2⟩ := hv
  obtain ⟨ru, ta, rs, _, _, rfl⟩ := shX hs
  have v : ∀ j, j < 6 → vp_in (nI (6 * c) + nI j) L := fun j hj => by rw [nI_add]; exact vp_in_nI (by omega) (by omega)
  refine xrun_step fun K hK => ?_
  have h07 : inI (0, 8) (I 0 7).toInt := by
    rw [← cell_two.1]
    exact hi 0 7 rfl
  obtain ⟨m, em, _, hm, _⟩ := nI_inI h07 (by omega)
  have hm9 : m < 9 := by omega
  have e68 : I 68 6 = nI m := hr1.symm.trans em
  have hx : ivO (CXv m) [] I := iv_up hi (by rw [em]; exact nI_toInt (by omega)) (by rw [e68]; exact nI_toInt (by omega))
  refine And.intro (v 1 (by omega)) ?_
  refine And.intro (v 2 (by omega)) ?_
  refine And.intro (v 3 (by omega)) ?_
  refine And.intro (v 4 (by omega)) ?_
  refine ctr_at (vlift hm9 ct_X11_leave_0 rfl rfl) (by decide) l _ I J [.ref 0, .int _, .int _, .int _, .int _] _ ⟨by decide, inI_fr _, inI_fr _, inI_fr _, inI_fr _, trivial⟩ (fun e he => by cases he) hs hx hq ?_
  intro v1 sh1 I1 J1 g1 w1 i1 q1 f1 p1
  obtain ⟨r1, rfl⟩ := int_post (by decide) p1
  obtain ⟨ru1, ta1, rs1, _, _, rfl⟩ := shX g1
  refine And.intro (v 1 (by omega)) ?_
  refine And.intro (v 2 (by omega)) ?_
  refine And.intro (v 3 (by omega)) ?_
  refine And.intro (v 4 (by omega)) ?_
  refine ctr_at (vlift hm9 ct_X12_leave_0 rfl rfl) (by decide) l _ I1 J1 [.ref 67, .int _, .int _, .int _, .int _] _ ⟨by decide, inI_fr _, inI_fr _, inI_fr _, inI_fr _, trivial⟩ (fun e he => by cases he) g1 i1 q1 ?_
  intro v2 sh2 I2 J2 g2 w2 i2 q2 f2 p2
  obtain ⟨r2, rfl⟩ := int_post (by decide) p2
  have z6 : I2 6 = I 6 := (f2 6 rfl).trans (f1 6 rfl)
  have z69 : I2 69 = I 69 := (f2 69 rfl).trans (f1 69 rfl)
  exact hK 1403 (lloc c) [] _ I2 J2 99 18232 (hn _ I2 J2 ⟨⟨g2, iv_dn hm9 i2, q2⟩, rn_of i2, by rw [z6, z69]; exact hr2⟩)
set_option maxRecDepth 100000 in
set_option maxHeartbeats 1000000 in
theorem law_c31 (l : Launch) (L : Nat) (xs : Nat → Int32) (n c : Nat) (hc : 6 * c + 6 ≤ L) (hL : L ≤ 3072) (sh : List XO) (I : XI) (J : XJ) (hv : linv sh I) (hn : ∀ (sh' : List XO) (I' : XI) (J' : XJ), linv sh' I' → lrun l L xs n 1403 (lloc c) [] sh' I' J' 99 18232) : lrun l L xs (n + 1) 1219 (lloc c) [] sh I J 99 18232 := by
  obtain ⟨⟨hs, hi, hq⟩, hr1, hr2⟩ := hv
  obtain ⟨ru, ta, rs, _, _, rfl⟩ := shX hs
  have v : ∀ j, j < 6 → vp_in (nI (6 * c) + nI j) L := fun j hj => by rw [nI_add]; exact vp_in_nI (by omega) (by omega)
  refine xrun_step fun K hK => ?_
  have h07 : inI (0, 8) (I 0 7).toInt := by
    rw [← cell_two.1]
    exact hi 0 7 rfl
  obtain ⟨m, em, _, hm, _⟩ := nI_inI h07 (by omega)
  have hm9 : m < 9 := by omega
  have e68 : I 68 6 = nI m := hr1.symm.trans em
  have hx : ivO (CXv m) [] I := iv_up hi (by rw [em]; exact nI_toInt (by omega)) (by rw [e68]; exact nI_toInt (by omega))
  refine And.intro (v 1 (by omega)) ?_
  refine And.intro (v 2 (by omega)) ?_
  refine ctr_at (vlift hm9 ct_X11_packed_0 rfl rfl) (by decide) l _ I J [.ref 0, .int _, .int _] _ ⟨by decide, inI_fr _, inI_fr _, trivial⟩ (fun e he => by cases he) hs hx hq ?_
  intro v1 sh1 I1 J1 g1 w1 i1 q1 f1 p1
  obtain ⟨r1, rfl⟩ := int_post (by decide) p1
  obtain ⟨ru1, ta1, rs1, _, _, rfl⟩ := shX g1
  refine And.intro (v 1 (by omega)) ?_
  refine And.intro (v 2 (by omega)) ?_
  refine ctr_at (vlift hm9 ct_X12_packed_0 rfl rfl) (by decide) l _ I1 J1 [.ref 67, .int _, .int _] _ ⟨by decide, inI_fr _, inI_fr _, trivial⟩ (fun e he => by cases he) g1 i1 q1 ?_
  intro v2 sh2 I2 J2 g2 w2 i2 q2 f2 p2
  obtain ⟨r2, rfl⟩ := int_post (by decide) p2
  have z6 : I2 6 = I 6 := (f2 6 rfl).trans (f1 6 rfl)
  have z69 : I2 69 = I 69 := (f2 69 rfl).trans (f1 69 rfl)
  exact hK 1403 (lloc c) [] _ I2 J2 99 18232 (hn _ I2 J2 ⟨⟨g2, iv_dn hm9 i2, q2⟩, rn_of i2, by rw [z6, z69]; exact hr2⟩)
set_option maxRecDepth 100000 in
set_option maxHeartbeats 1000000 in
theorem law_c32 (l : Launch) (L : Nat) (xs : Nat → Int32) (n c : Nat) (hc : 6 * c + 6 ≤ L) (hL : L ≤ 3072) (sh : List XO) (I : XI) (J : XJ) (hv : linv sh I) (hn : ∀ (sh' : List XO) (I' : XI) (J' : XJ), linv sh' I' → lrun l L xs n 1403 (lloc c) [] sh' I' J' 99 18232) : lrun l L xs (n + 1) 1252 (lloc c) [] sh I J 99 18232 := by
  obtain ⟨⟨hs, hi, hq⟩, hr1, hr2⟩ := hv
  obtain ⟨ru, ta, rs, _, _, rfl⟩ := shX hs
  have v : ∀ j, j < 6 → vp_in (nI (6 * c) + nI j) L := fun j hj => by rw [nI_add]; exact vp_in_nI (by omega) (by omega)
  refine xrun_step fun K hK => ?_
  have h07 : inI (0, 8) (I 0 7).toInt := by
    rw [← cell_two.1]
    exact hi 0 7 rfl
  obtain ⟨m, em, _, hm, _⟩ := nI_inI h07 (by omega)
  have hm9 : m < 9 := by omega
  have e68 : I 68 6 = nI m := hr1.symm.trans em
  have hx : ivO (CXv m) [] I := iv_up hi (by rw [em]; exact nI_toInt (by omega)) (by rw [e68]; exact nI_toInt (by omega))
  refine And.intro (v 1 (by omega)) ?_
  refine And.intro (v 2 (by omega)) ?_
  refine And.intro (v 3 (by omega)) ?_
  refine ctr_at (vlift hm9 ct_X11_when_0 rfl rfl) (by decide) l _ I J [.ref 0, .int _, .int _, .int _] _ ⟨by decide, inI_fr _, inI_fr _, inI_fr _, trivial⟩ (fun e he => by cases he) hs hx hq ?_
  intro v1 sh1 I1 J1 g1 w1 i1 q1 f1 p1
  obtain ⟨r1, rfl⟩ := int_post (by decide) p1
  obtain ⟨ru1, ta1, rs1, _, _, rfl⟩ := shX g1
  refine And.intro (v 1 (by omega)) ?_
  refine And.intro (v 2 (by omega)) ?_
  refine And.intro (v 3 (by omega)) ?_
  refine ctr_at (vlift hm9 ct_X12_when_0 rfl rfl) (by decide) l _ I1 J1 [.ref 67, .int _, .int _, .int _] _ ⟨by decide, inI_fr _, inI_fr _, inI_fr _, trivial⟩ (fun e he => by cases he) g1 i1 q1 ?_
  intro v2 sh2 I2 J2 g2 w2 i2 q2 f2 p2
  obtain ⟨r2, rfl⟩ := int_post (by decide) p2
  have z6 : I2 6 = I 6 := (f2 6 rfl).trans (f1 6 rfl)
  have z69 : I2 69 = I 69 := (f2 69 rfl).trans (f1 69 rfl)
  exact hK 1403 (lloc c) [] _ I2 J2 99 18232 (hn _ I2 J2 ⟨⟨g2, iv_dn hm9 i2, q2⟩, rn_of i2, by rw [z6, z69]; exact hr2⟩)
set_option maxRecDepth 100000 in
set_option maxHeartbeats 1000000 in
theorem law_c33 (l : Launch) (L : Nat) (xs : Nat → Int32) (n c : Nat) (hc : 6 * c + 6 ≤ L) (hL : L ≤ 3072) (sh : List XO) (I : XI) (J : XJ) (hv : linv sh I) (hn : ∀ (sh' : List XO) (I' : XI) (J' : XJ), linv sh' I' → lrun l L xs n 1403 (lloc c) [] sh' I' J' 99 18232) : lrun l L xs (n + 1) 1295 (lloc c) [] sh I J 99 18232 := by
  obtain ⟨⟨hs, hi, hq⟩, hr1, hr2⟩ := hv
  obtain ⟨ru, ta, rs, _, _, rfl⟩ := shX hs
  have v : ∀ j, j < 6 → vp_in (nI (6 * c) + nI j) L := fun j hj => by rw [nI_add]; exact vp_in_nI (by omega) (by omega)
  refine xrun_step fun K hK => ?_
  have h07 : inI (0, 8) (I 0 7).toInt := by
    rw [← cell_two.1]
    exact hi 0 7 rfl
  obtain ⟨m, em, _, hm, _⟩ := nI_inI h07 (by omega)
  have hm9 : m < 9 := by omega
  have e68 : I 68 6 = nI m := hr1.symm.trans em
  have hx : ivO (CXv m) [] I := iv_up hi (by rw [em]; exact nI_toInt (by omega)) (by rw [e68]; exact nI_toInt (by omega))
  refine And.intro (v 1 (by omega)) (And.intro (v 2 (by omega)) (And.intro (v 3 (by omega)) (And.intro (fun h => ?_) (fun h => ?_))))
  · obtain ⟨r, hx, hm⟩ := hail_two (xs (nI (6 * c) + nI 1).toNatClampNeg) (xs (nI (6 * c) + nI 2).toNatClampNeg) 0 (Or.inl rfl)
    refine hx l 1397 _ _ _ _ ?_
    refine And.intro (v 1 (by omega)) (And.intro (v 2 (by omega)) (And.intro (v 3 (by omega)) (And.intro (fun _ => ?_) (fun g => absurd h g))))
    refine hm l 1397 _ _ _ _ ?_
    exact hK 1403 (lloc c) [] _ I J 99 18232 (hn _ I J ⟨⟨hs, hi, hq⟩, hr1, hr2⟩)
  · obtain ⟨r, hx, hm⟩ := hail_two (xs (nI (6 * c) + nI 1).toNatClampNeg) (xs (nI (6 * c) + nI 2).toNatClampNeg) 1 (Or.inr rfl)
    refine hx l 1397 _ _ _ _ ?_
    refine And.intro (v 1 (by omega)) (And.intro (v 2 (by omega)) (And.intro (v 3 (by omega)) (And.intro (fun g => absurd g h) (fun _ => ?_))))
    refine hm l 1397 _ _ _ _ ?_
    exact hK 1403 (lloc c) [] _ I J 99 18232 (hn _ I J ⟨⟨hs, hi, hq⟩, hr1, hr2⟩)
set_option maxRecDepth 100000 in
set_option maxHeartbeats 1000000 in
theorem law_c34 (l : Launch) (L : Nat) (xs : Nat → Int32) (n c : Nat) (hc : 6 * c + 6 ≤ L) (hL : L ≤ 3072) (sh : List XO) (I : XI) (J : XJ) (hv : linv sh I) (hn : ∀ (sh' : List XO) (I' : XI) (J' : XJ), linv sh' I' → lrun l L xs n 1403 (lloc c) [] sh' I' J' 99 18232) : lrun l L xs (n + 1) 1354 (lloc c) [] sh I J 99 18232 := by
  obtain ⟨⟨hs, hi, hq⟩, hr1, hr2⟩ := hv
  obtain ⟨ru, ta, rs, _, _, rfl⟩ := shX hs
  have v : ∀ j, j < 6 → vp_in (nI (6 * c) + nI j) L := fun j hj => by rw [nI_add]; exact vp_in_nI (by omega) (by omega)
  refine xrun_step fun K hK => ?_
  have h07 : inI (0, 8) (I 0 7).toInt := by
    rw [← cell_two.1]
    exact hi 0 7 rfl
  obtain ⟨m, em, _, hm, _⟩ := nI_inI h07 (by omega)
  have hm9 : m < 9 := by omega
  have e68 : I 68 6 = nI m := hr1.symm.trans em
  have hx : ivO (CXv m) [] I := iv_up hi (by rw [em]; exact nI_toInt (by omega)) (by rw [e68]; exact nI_toInt (by omega))
  refine ctr_at (ctI hm9) (Nat.le_of_ble_eq_true rfl) l _ I J [.ref 0] _ ⟨by decide, trivial⟩ (fun e he => by cases he) hs hx hq ?_
  intro v1 sh1 I1 J1 g1 w1 i1 q1 f1 p1
  obtain ⟨P, hP, hp⟩ := p1
  have hP := List.mem_singleton.mp hP
  subst hP
  have k1 : inI ((m : Int), (m : Int)) (I1 6 4).toInt := hp.2.2 (6, 4, ((m : Int), (m : Int))) List.mem_cons_self
  obtain ⟨r1, rfl, _⟩ : ∃ x, v1 = some (.int x) ∧ inI fr x.toInt := hp.2.1
  obtain ⟨ru1, ta1, rs1, _, _, rfl⟩ := shX g1
  refine m_image_x l 1397 ru1 ta1 rs1 I1 J1 _ (fun r => ?_)
  have z1 : I1 6 4 = I1 68 6 := Int32.toInt_inj.mp ((Int.le_antisymm k1.2 k1.1).trans (cx_686 i1).symm)
  exact hK 1403 (lloc c) [] _ (cI I1 68 69 0 0 2200) J1 99 18232 (hn _ _ J1 ⟨⟨g1, iv_cI (iv_dn hm9 i1), qq_cI (by decide) q1⟩, (show I1 0 7 = I1 68 6 from rn_of i1), by rw [cI_686]; exact z1⟩)
set_option maxRecDepth 100000 in
set_option maxHeartbeats 1000000 in
theorem law_c35 (l : Launch) (L : Nat) (xs : Nat → Int32) (n c : Nat) (hc : 6 * c + 6 ≤ L) (hL : L ≤ 3072) (sh : List XO) (I : XI) (J : XJ) (hv : linv sh I) (hn : ∀ (sh' : List XO) (I' : XI) (J' : XJ), linv sh' I' → lrun l L xs n 1403 (lloc c) [] sh' I' J' 99 18232) : lrun l L xs (n + 1) 1367 (lloc c) [] sh I J 99 18232 := by
  obtain ⟨⟨hs, hi, hq⟩, hr1, hr2⟩ := hv
  obtain ⟨ru, ta, rs, _, _, rfl⟩ := shX hs
  have v : ∀ j, j < 6 → vp_in (nI (6 * c) + nI j) L := fun j hj => by rw [nI_add]; exact vp_in_nI (by omega) (by omega)
  refine xrun_step fun K hK => ?_
  have h07 : inI (0, 8) (I 0 7).toInt := by
    rw [← cell_two.1]
    exact hi 0 7 rfl
  obtain ⟨m, em, _, hm, _⟩ := nI_inI h07 (by omega)
  have hm9 : m < 9 := by omega
  have e68 : I 68 6 = nI m := hr1.symm.trans em
  have hx : ivO (CXv m) [] I := iv_up hi (by rw [em]; exact nI_toInt (by omega)) (by rw [e68]; exact nI_toInt (by omega))
  have h64 : inI (0, 8) (I 6 4).toInt := by
    rw [← cell_64]
    exact hi 6 4 rfl
  obtain ⟨u, eu, _, hu, _⟩ := nI_inI h64 (by omega)
  have hu9 : u < 9 := by omega
  have hw : ivO (CWv u) [] I := ivw_up hi (by rw [eu]; exact nI_toInt (by omega))
  refine ctr_at (ctB hu9) (Nat.le_of_ble_eq_true rfl) l _ I J [.ref 0] _ ⟨by decide, trivial⟩ (fun e he => by cases he) hs hw hq ?_
  intro v1 sh1 I1 J1 g1 w1 i1 q1 f1 p1
  obtain ⟨P, hP, hp⟩ := p1
  have hP := List.mem_singleton.mp hP
  subst hP
  have k1 : inI ((u : Int), (u : Int)) (I1 0 7).toInt := hp.2.2 (0, 7, ((u : Int), (u : Int))) List.mem_cons_self
  obtain ⟨r1, rfl, _⟩ : ∃ x, v1 = some (.int x) ∧ inI fr x.toInt := hp.2.1
  obtain ⟨ru1, ta1, rs1, _, _, rfl⟩ := shX g1
  refine m_back_x l 1397 ru1 ta1 rs1 I1 J1 _ (fun r => ?_)
  have z6 : I1 6 = I 6 := f1 6 rfl
  have z69 : I1 69 = I 69 := f1 69 rfl
  have z1 : I1 0 7 = I1 6 4 := by
    rw [z6]
    exact Int32.toInt_inj.mp ((Int.le_antisymm k1.2 k1.1).trans (cw_64 hw).symm)
  have z2 : I1 6 4 = I1 69 6 := by
    rw [z6, z69]
    exact hr2
  exact hK 1403 (lloc c) [] _ (cI I1 69 68 0 0 2200) J1 99 18232 (hn _ _ J1 ⟨⟨g1, iv_cB (ivw_dn hu9 i1), qq_cI (by decide) q1⟩, by rw [cI_696]; exact z1.trans z2, z2⟩)
set_option maxRecDepth 100000 in
set_option maxHeartbeats 1000000 in
theorem law_c36 (l : Launch) (L : Nat) (xs : Nat → Int32) (n c : Nat) (hc : 6 * c + 6 ≤ L) (hL : L ≤ 3072) (sh : List XO) (I : XI) (J : XJ) (hv : linv sh I) (hn : ∀ (sh' : List XO) (I' : XI) (J' : XJ), linv sh' I' → lrun l L xs n 1403 (lloc c) [] sh' I' J' 99 18232) : lrun l L xs (n + 1) 1380 (lloc c) [] sh I J 99 18232 := by
  obtain ⟨⟨hs, hi, hq⟩, hr1, hr2⟩ := hv
  obtain ⟨ru, ta, rs, _, _, rfl⟩ := shX hs
  have v : ∀ j, j < 6 → vp_in (nI (6 * c) + nI j) L := fun j hj => by rw [nI_add]; exact vp_in_nI (by omega) (by omega)
  refine xrun_step fun K hK => ?_
  have h07 : inI (0, 8) (I 0 7).toInt := by
    rw [← cell_two.1]
    exact hi 0 7 rfl
  obtain ⟨m, em, _, hm, _⟩ := nI_inI h07 (by omega)
  have hm9 : m < 9 := by omega
  have e68 : I 68 6 = nI m := hr1.symm.trans em
  have hx : ivO (CXv m) [] I := iv_up hi (by rw [em]; exact nI_toInt (by omega)) (by rw [e68]; exact nI_toInt (by omega))
  refine And.intro (v 1 (by omega)) ?_
  refine ctr_at (vlift hm9 ct_X11_about_0 rfl rfl) (by decide) l _ I J [.ref 0, .int _] _ ⟨by decide, inI_fr _, trivial⟩ (fun e he => by cases he) hs hx hq ?_
  intro v1 sh1 I1 J1 g1 w1 i1 q1 f1 p1
  obtain ⟨r1, rfl⟩ := int_post (by decide) p1
  obtain ⟨ru1, ta1, rs1, _, _, rfl⟩ := shX g1
  refine And.intro (v 1 (by omega)) ?_
  refine ctr_at (vlift hm9 ct_X12_about_0 rfl rfl) (by decide) l _ I1 J1 [.ref 67, .int _] _ ⟨by decide, inI_fr _, trivial⟩ (fun e he => by cases he) g1 i1 q1 ?_
  intro v2 sh2 I2 J2 g2 w2 i2 q2 f2 p2
  obtain ⟨r2, rfl⟩ := int_post (by decide) p2
  have z6 : I2 6 = I 6 := (f2 6 rfl).trans (f1 6 rfl)
  have z69 : I2 69 = I 69 := (f2 69 rfl).trans (f1 69 rfl)
  exact hK 1403 (lloc c) [] _ I2 J2 99 18232 (hn _ I2 J2 ⟨⟨g2, iv_dn hm9 i2, q2⟩, rn_of i2, by rw [z6, z69]; exact hr2⟩)
set_option maxRecDepth 100000 in
set_option maxHeartbeats 1000000 in
theorem law_loop (l : Launch) (L : Nat) (xs : Nat → Int32) (hL : L ≤ 3072) : ∀ (m n c : Nat) (sh : List XO) (I : XI) (J : XJ), c + m = 513 → 3 * m < n → linv sh I → lrun l L xs n 18 (lloc c) [] sh I J 99 18232 := by
  intro m
  induction m with
  | zero =>
    intro n c sh I J hc hn hv
    obtain ⟨n, rfl⟩ : ∃ n', n = n' + 1 := ⟨n - 1, by omega⟩
    refine xrun_step fun K hK => ?_
    refine And.intro (fun _ => And.intro (Or.inr rfl) rfl) (fun h => ?_)
    exfalso
    refine h ?_
    show nI L - nI 6 < nI (6 * c)
    refine Int32.lt_iff_toInt_lt.mpr ?_
    rw [nI_toInt (show 6 * c < 2 ^ 31 by omega), i32_sub (by rw [nI_toInt (by omega), nI_toInt (by omega)]; omega) (by rw [nI_toInt (by omega), nI_toInt (by omega)]; omega), nI_toInt (by omega), nI_toInt (by omega)]
    omega
  | succ m ih =>
    intro n c sh I J hc hn hv
    obtain ⟨n, rfl⟩ : ∃ n', n = n' + 1 + 1 + 1 := ⟨n - 3, by omega⟩
    have hx : ∀ (sh' : List XO) (I' : XI) (J' : XJ), linv sh' I' → lrun l L xs (n + 1) 1403 (lloc c) [] sh' I' J' 99 18232 := by
      intro sh' I' J' h'
      refine xrun_step fun K hK => ?_
      have e : nI (6 * c) + nI 6 = nI (6 * (c + 1)) := by rw [nI_add]; congr 1
      have y := ih n (c + 1) sh' I' J' (by omega) (by omega) h'
      have z := hK 18 (lloc (c + 1)) [] sh' I' J' 99 18232 y
      unfold lloc at z
      rw [← e] at z
      exact z
    have hd : ∀ (sh' : List XO) (I' : XI) (J' : XJ), linv sh' I' → lrun l L xs (n + 1 + 1) 1403 (lloc c) [] sh' I' J' 99 18232 := by
      intro sh' I' J' h'
      refine xrun_step fun K hK => ?_
      have e : nI (6 * c) + nI 6 = nI (6 * (c + 1)) := by rw [nI_add]; congr 1
      have y := ih (n + 1) (c + 1) sh' I' J' (by omega) (by omega) h'
      have z := hK 18 (lloc (c + 1)) [] sh' I' J' 99 18232 y
      unfold lloc at z
      rw [← e] at z
      exact z
    refine xrun_step fun K hK => ?_
    refine And.intro (fun _ => And.intro (Or.inr rfl) rfl) (fun h => ?_)
    have h6 : 6 * c + 6 ≤ L := by
      have h2 : ¬ nI L - nI 6 < nI (6 * c) := h
      have h3 : ¬ (nI L - nI 6).toInt < (nI (6 * c)).toInt := fun z => h2 (Int32.lt_iff_toInt_lt.mpr z)
      rw [nI_toInt (show 6 * c < 2 ^ 31 by omega), i32_sub (by rw [nI_toInt (by omega), nI_toInt (by omega)]; omega) (by rw [nI_toInt (by omega), nI_toInt (by omega)]; omega), nI_toInt (by omega), nI_toInt (by omega)] at h3
      omega
    refine And.intro (vp_in_nI (by omega) (by omega)) ?_
    refine And.intro (fun _ => hK _ _ _ _ _ _ _ _ (law_c0 l L xs (n + 1) c h6 hL sh I J hv hx)) (fun _ => ?_)
    refine And.intro (fun _ => hK _ _ _ _ _ _ _ _ (law_c1 l L xs (n + 1) c h6 hL sh I J hv hx)) (fun _ => ?_)
    refine And.intro (fun _ => hK _ _ _ _ _ _ _ _ (law_c2 l L xs (n + 1) c h6 hL sh I J hv hx)) (fun _ => ?_)
    refine And.intro (fun _ => hK _ _ _ _ _ _ _ _ (law_c3 l L xs (n + 1) c h6 hL sh I J hv hx)) (fun _ => ?_)
    refine And.intro (fun _ => hK _ _ _ _ _ _ _ _ (law_c4 l L xs (n + 1) c h6 hL sh I J hv hx)) (fun _ => ?_)
    refine And.intro (fun _ => hK _ _ _ _ _ _ _ _ (law_c5 l L xs (n + 1) c h6 hL sh I J hv hx)) (fun _ => ?_)
    refine And.intro (fun _ => hK _ _ _ _ _ _ _ _ (law_c6 l L xs (n + 1) c h6 hL sh I J hv hx)) (fun _ => ?_)
    refine And.intro (fun _ => hK _ _ _ _ _ _ _ _ (law_c7 l L xs (n + 1) c h6 hL sh I J hv hx)) (fun _ => ?_)
    refine And.intro (fun _ => hK _ _ _ _ _ _ _ _ (law_c8 l L xs (n + 1) c h6 hL sh I J hv hx)) (fun _ => ?_)
    refine And.intro (fun _ => hK _ _ _ _ _ _ _ _ (law_c9 l L xs (n + 1) c h6 hL sh I J hv hx)) (fun _ => ?_)
    refine And.intro (fun _ => hK _ _ _ _ _ _ _ _ (law_c10 l L xs (n + 1) c h6 hL sh I J hv hx)) (fun _ => ?_)
    refine And.intro (fun _ => hK _ _ _ _ _ _ _ _ (law_c11 l L xs (n + 1) c h6 hL sh I J hv hx)) (fun _ => ?_)
    refine And.intro (fun _ => hK _ _ _ _ _ _ _ _ (law_c12 l L xs (n + 1) c h6 hL sh I J hv hx)) (fun _ => ?_)
    refine And.intro (fun _ => hK _ _ _ _ _ _ _ _ (law_c13 l L xs (n + 1) c h6 hL sh I J hv hx)) (fun _ => ?_)
    refine And.intro (fun _ => hK _ _ _ _ _ _ _ _ (law_c14 l L xs (n + 1) c h6 hL sh I J hv hx)) (fun _ => ?_)
    refine And.intro (fun _ => hK _ _ _ _ _ _ _ _ (law_c15 l L xs (n + 1) c h6 hL sh I J hv hx)) (fun _ => ?_)
    refine And.intro (fun _ => hK _ _ _ _ _ _ _ _ (law_c16 l L xs (n + 1) c h6 hL sh I J hv hx)) (fun _ => ?_)
    refine And.intro (fun _ => hK _ _ _ _ _ _ _ _ (law_c17 l L xs (n + 1) c h6 hL sh I J hv hx)) (fun _ => ?_)
    refine And.intro (fun _ => hK _ _ _ _ _ _ _ _ (law_c18 l L xs (n + 1) c h6 hL sh I J hv hx)) (fun _ => ?_)
    refine And.intro (fun _ => hK _ _ _ _ _ _ _ _ (law_c19 l L xs (n + 1) c h6 hL sh I J hv hx)) (fun _ => ?_)
    refine And.intro (fun _ => hK _ _ _ _ _ _ _ _ (law_c20 l L xs (n + 1) c h6 hL sh I J hv hx)) (fun _ => ?_)
    refine And.intro (fun _ => hK _ _ _ _ _ _ _ _ (law_c21 l L xs (n + 1) c h6 hL sh I J hv hx)) (fun _ => ?_)
    refine And.intro (fun _ => hK _ _ _ _ _ _ _ _ (law_c22 l L xs (n + 1) c h6 hL sh I J hv hx)) (fun _ => ?_)
    refine And.intro (fun _ => hK _ _ _ _ _ _ _ _ (law_c23 l L xs (n + 1) c h6 hL sh I J hv hx)) (fun _ => ?_)
    refine And.intro (fun _ => hK _ _ _ _ _ _ _ _ (law_c24 l L xs (n + 1) c h6 hL sh I J hv hx)) (fun _ => ?_)
    refine And.intro (fun _ => hK _ _ _ _ _ _ _ _ (law_c25 l L xs (n + 1) c h6 hL sh I J hv hx)) (fun _ => ?_)
    refine And.intro (fun _ => hK _ _ _ _ _ _ _ _ (law_c26 l L xs (n + 1) c h6 hL sh I J hv hx)) (fun _ => ?_)
    refine And.intro (fun _ => hK _ _ _ _ _ _ _ _ (law_c27 l L xs (n + 1) c h6 hL sh I J hv hx)) (fun _ => ?_)
    refine And.intro (fun _ => hK _ _ _ _ _ _ _ _ (law_c28 l L xs (n + 1) c h6 hL sh I J hv hx)) (fun _ => ?_)
    refine And.intro (fun _ => hK _ _ _ _ _ _ _ _ (law_c29 l L xs (n + 1) c h6 hL sh I J hv hx)) (fun _ => ?_)
    refine And.intro (fun _ => hK _ _ _ _ _ _ _ _ (law_c30 l L xs (n + 1) c h6 hL sh I J hv hx)) (fun _ => ?_)
    refine And.intro (fun _ => hK _ _ _ _ _ _ _ _ (law_c31 l L xs (n + 1) c h6 hL sh I J hv hx)) (fun _ => ?_)
    refine And.intro (fun _ => hK _ _ _ _ _ _ _ _ (law_c32 l L xs (n + 1) c h6 hL sh I J hv hx)) (fun _ => ?_)
    refine And.intro (fun _ => hK _ _ _ _ _ _ _ _ (law_c33 l L xs (n + 1) c h6 hL sh I J hv hx)) (fun _ => ?_)
    refine And.intro (fun _ => hK _ _ _ _ _ _ _ _ (law_c34 l L xs (n + 1) c h6 hL sh I J hv hx)) (fun _ => ?_)
    refine And.intro (fun _ => hK _ _ _ _ _ _ _ _ (law_c35 l L xs (n + 1) c h6 hL sh I J hv hx)) (fun _ => ?_)
    refine And.intro (fun _ => hK _ _ _ _ _ _ _ _ (law_c36 l L xs (n + 1) c h6 hL sh I J hv hx)) (fun _ => ?_)
    exact hK _ _ _ _ _ _ _ _ (hd sh I J hv)
set_option maxRecDepth 100000 in
set_option maxHeartbeats 4000000 in
theorem law_go (l : Launch) (L : Nat) (xs : Nat → Int32) (hL : L ≤ 3072) : lrun l L xs 1541 0 [some (.ref 900000), none, none, none] [] [] (fun _ _ => 0) (fun _ _ => 0) 0 0 := by
  refine xrun_step fun K hK => ?_
  refine ctor_x l 1395 _ ?_
  refine ctor_m l 1397 _ ?_
  exact hK 18 (lloc 0) [] shXM lI jM 99 18232 (law_loop l L xs hL 513 1540 0 shXM lI jM (by omega) (by omega) ⟨⟨sh_XM, iv_lI, qq_lI⟩, by decide +kernel, by decide +kernel⟩)
