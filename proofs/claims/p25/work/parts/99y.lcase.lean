-- ===== the law's calls, one by one; its loop =====
def intP (P : AP) : Bool := match P.2.1 with
  | .inl _ => true
  | _ => false
theorem int_post {posts : List AP} {as : List Value} {v : Option Value} {I : XI} (h : posts.all intP = true) (hp : ∃ P, P ∈ posts ∧ pstO as P v I) : ∃ r, v = some (.int r) := by
  obtain ⟨P, hP, hp⟩ := hp
  have y := List.all_eq_true.mp h P hP
  have z := hp.2.1
  unfold intP at y
  split at y
  · rename_i w e
    rw [e] at z
    obtain ⟨x, hx, _⟩ := z
    exact ⟨x, hx⟩
  · cases y
def voidP (P : AP) : Bool := match P.2.1 with
  | .inr (.inr 9) => true
  | _ => false
theorem void_post {posts : List AP} {as : List Value} {v : Option Value} {I : XI} (h : posts.all voidP = true) (hp : ∃ P, P ∈ posts ∧ pstO as P v I) : v = none := by
  obtain ⟨P, hP, hp⟩ := hp
  have y := List.all_eq_true.mp h P hP
  have z := hp.2.1
  unfold voidP at y
  split at y
  · rename_i e
    rw [e] at z
    exact z
  · cases y
def lst : List Nat := [18, 196, 239, 262, 285, 328, 361, 394, 427, 450, 473, 506, 569, 592, 605, 628, 651, 674, 687, 720, 753, 786, 819, 852, 885, 938, 971, 994, 1027, 1080, 1123, 1166, 1219, 1252, 1295, 1354, 1367, 1380, 1403]
abbrev lrun (l : Launch) (L : Nat) (xs : Nat → Int32) (n : Nat) (pc : Nat) : XP := xrun xxL (some .boolean) false true 0 600000 7302249 (some (L, xs)) l 1399 tL_law lst (fun v _ _ _ => v = some (.int 1)) n pc
def lloc (c : Nat) : List (Option Value) := [some (.ref 900000), some (.ref 0), some (.ref 67), some (.int (nI (6 * c)))]
set_option maxRecDepth 100000 in
set_option maxHeartbeats 1000000 in
theorem law_c0 (l : Launch) (L : Nat) (xs : Nat → Int32) (n c : Nat) (hc : 6 * c + 6 ≤ L) (hL : L ≤ 3072) (sh : List XO) (I : XI) (J : XJ) (hv : lin2 sh I) (hn : ∀ (sh' : List XO) (I' : XI) (J' : XJ), lin2 sh' I' → lrun l L xs n 1403 (lloc c) [] sh' I' J' 99 18232) : lrun l L xs (n + 1) 196 (lloc c) [] sh I J 99 18232 := by
  obtain ⟨TX, H, Hi, ta, rs, ⟨rfl, hta⟩, ⟨hi, hq⟩, hg, tp, fl⟩ := id hv
  have hs := hg.1.1.sh hta rs
  have v : ∀ j, j < 6 → vp_in (nI (6 * c) + nI j) L := fun j hj => by rw [nI_add]; exact vp_in_nI (by omega) (by omega)
  refine xrun_step fun K hK => ?_
  refine And.intro (v 1 (by omega)) ?_
  refine And.intro (v 2 (by omega)) ?_
  refine And.intro (v 3 (by omega)) ?_
  refine cd_thing l 1397 (ruO (hvR H)) ta rs I J _ (lwO TX (hvR H)) (hvA H) hg.1.1.1 hg.ca (xs (nI (6 * c) + nI 1).toNatClampNeg) (xs (nI (6 * c) + nI 2).toNatClampNeg) (xs (nI (6 * c) + nI 3).toNatClampNeg) (fun I1 J1 fc c1 => ?_)
  refine And.intro (v 1 (by omega)) ?_
  refine And.intro (v 2 (by omega)) ?_
  refine And.intro (v 3 (by omega)) ?_
  refine md_thing l 1397 (ruO (hvR H)) ta rs I1 J1 _ (lwO TX (hvR H)) (hvA H) hg.1.1.1 (hg.ma.fc fc) (xs (nI (6 * c) + nI 1).toNatClampNeg) (xs (nI (6 * c) + nI 2).toNatClampNeg) (xs (nI (6 * c) + nI 3).toNatClampNeg) (fun I2 J2 fm m2 => ?_)
  exact hK 1403 (lloc c) [] _ I2 J2 99 18232 (hn _ I2 J2 (lin2.op hta hi hq hg tp fl (hg.1.1.1.th _ _ _) q_th fc c1 fm m2))
set_option maxRecDepth 100000 in
set_option maxHeartbeats 1000000 in
theorem law_c1 (l : Launch) (L : Nat) (xs : Nat → Int32) (n c : Nat) (hc : 6 * c + 6 ≤ L) (hL : L ≤ 3072) (sh : List XO) (I : XI) (J : XJ) (hv : lin2 sh I) (hn : ∀ (sh' : List XO) (I' : XI) (J' : XJ), lin2 sh' I' → lrun l L xs n 1403 (lloc c) [] sh' I' J' 99 18232) : lrun l L xs (n + 1) 239 (lloc c) [] sh I J 99 18232 := by
  obtain ⟨TX, H, Hi, ta, rs, ⟨rfl, hta⟩, ⟨hi, hq⟩, hg, tp, fl⟩ := id hv
  have hs := hg.1.1.sh hta rs
  have v : ∀ j, j < 6 → vp_in (nI (6 * c) + nI j) L := fun j hj => by rw [nI_add]; exact vp_in_nI (by omega) (by omega)
  refine xrun_step fun K hK => ?_
  refine And.intro (v 1 (by omega)) ?_
  refine cd_reaper l 1397 (ruO (hvR H)) ta rs I J _ (lwO TX (hvR H)) (hvA H) hg.1.1.1 hg.ca (xs (nI (6 * c) + nI 1).toNatClampNeg) (fun I1 J1 fc c1 => ?_)
  refine And.intro (v 1 (by omega)) ?_
  refine md_reaper l 1397 (ruO (hvR H)) ta rs I1 J1 _ (lwO TX (hvR H)) (hvA H) hg.1.1.1 (hg.ma.fc fc) (xs (nI (6 * c) + nI 1).toNatClampNeg) (fun I2 J2 fm m2 => ?_)
  exact hK 1403 (lloc c) [] _ I2 J2 99 18232 (hn _ I2 J2 (lin2.op hta hi hq hg tp fl (hg.1.1.1.re _) q_re fc c1 fm m2))
set_option maxRecDepth 100000 in
set_option maxHeartbeats 1000000 in
theorem law_c2 (l : Launch) (L : Nat) (xs : Nat → Int32) (n c : Nat) (hc : 6 * c + 6 ≤ L) (hL : L ≤ 3072) (sh : List XO) (I : XI) (J : XJ) (hv : lin2 sh I) (hn : ∀ (sh' : List XO) (I' : XI) (J' : XJ), lin2 sh' I' → lrun l L xs n 1403 (lloc c) [] sh' I' J' 99 18232) : lrun l L xs (n + 1) 262 (lloc c) [] sh I J 99 18232 := by
  obtain ⟨TX, H, Hi, ta, rs, ⟨rfl, hta⟩, ⟨hi, hq⟩, hg, tp, fl⟩ := id hv
  have hs := hg.1.1.sh hta rs
  have v : ∀ j, j < 6 → vp_in (nI (6 * c) + nI j) L := fun j hj => by rw [nI_add]; exact vp_in_nI (by omega) (by omega)
  refine xrun_step fun K hK => ?_
  refine And.intro (v 1 (by omega)) ?_
  refine cd_barn l 1397 (ruO (hvR H)) ta rs I J _ (lwO TX (hvR H)) (hvA H) hg.1.1.1 hg.ca (xs (nI (6 * c) + nI 1).toNatClampNeg) (fun I1 J1 fc c1 => ?_)
  refine And.intro (v 1 (by omega)) ?_
  refine md_barn l 1397 (ruO (hvR H)) ta rs I1 J1 _ (lwO TX (hvR H)) (hvA H) hg.1.1.1 (hg.ma.fc fc) (xs (nI (6 * c) + nI 1).toNatClampNeg) (fun I2 J2 fm m2 => ?_)
  exact hK 1403 (lloc c) [] _ I2 J2 99 18232 (hn _ I2 J2 (lin2.op hta hi hq hg tp fl (hg.1.1.1.ba _) q_ba fc c1 fm m2))
set_option maxRecDepth 100000 in
set_option maxHeartbeats 1000000 in
theorem law_c3 (l : Launch) (L : Nat) (xs : Nat → Int32) (n c : Nat) (hc : 6 * c + 6 ≤ L) (hL : L ≤ 3072) (sh : List XO) (I : XI) (J : XJ) (hv : lin2 sh I) (hn : ∀ (sh' : List XO) (I' : XI) (J' : XJ), lin2 sh' I' → lrun l L xs n 1403 (lloc c) [] sh' I' J' 99 18232) : lrun l L xs (n + 1) 285 (lloc c) [] sh I J 99 18232 := by
  obtain ⟨TX, H, Hi, ta, rs, ⟨rfl, hta⟩, ⟨hi, hq⟩, hg, tp, fl⟩ := id hv
  have hs := hg.1.1.sh hta rs
  have v : ∀ j, j < 6 → vp_in (nI (6 * c) + nI j) L := fun j hj => by rw [nI_add]; exact vp_in_nI (by omega) (by omega)
  refine xrun_step fun K hK => ?_
  refine And.intro (v 1 (by omega)) ?_
  refine And.intro (v 2 (by omega)) ?_
  refine And.intro (v 3 (by omega)) ?_
  refine cd_cut l 1390 (ruO (hvR H)) ta rs I J _ (lwO TX (hvR H)) (hvA H) hg.1.1.1 hg.ca (xs (nI (6 * c) + nI 1).toNatClampNeg) (xs (nI (6 * c) + nI 2).toNatClampNeg) (xs (nI (6 * c) + nI 3).toNatClampNeg) (fun I1 J1 fc c1 => ?_)
  refine And.intro (v 1 (by omega)) ?_
  refine And.intro (v 2 (by omega)) ?_
  refine And.intro (v 3 (by omega)) ?_
  refine md_cut l 1386 (ruO (hvR H)) ta rs I1 J1 _ (lwO TX (hvR H)) (hvA H) hg.1.1.1 (hg.ma.fc fc) (xs (nI (6 * c) + nI 1).toNatClampNeg) (xs (nI (6 * c) + nI 2).toNatClampNeg) (xs (nI (6 * c) + nI 3).toNatClampNeg) (fun I2 J2 fm m2 => ?_)
  exact hK 1403 (lloc c) [] _ I2 J2 99 18232 (hn _ I2 J2 (lin2.op hta hi hq hg tp fl (hg.1.1.1.cut _ _ _) (Tle.eq q_cut) fc c1 fm m2))
set_option maxRecDepth 100000 in
set_option maxHeartbeats 1000000 in
theorem law_c4 (l : Launch) (L : Nat) (xs : Nat → Int32) (n c : Nat) (hc : 6 * c + 6 ≤ L) (hL : L ≤ 3072) (sh : List XO) (I : XI) (J : XJ) (hv : lin2 sh I) (hn : ∀ (sh' : List XO) (I' : XI) (J' : XJ), lin2 sh' I' → lrun l L xs n 1403 (lloc c) [] sh' I' J' 99 18232) : lrun l L xs (n + 1) 328 (lloc c) [] sh I J 99 18232 := by
  obtain ⟨TX, H, Hi, ta, rs, ⟨rfl, hta⟩, ⟨hi, hq⟩, hg, tp, fl⟩ := id hv
  have hs := hg.1.1.sh hta rs
  have v : ∀ j, j < 6 → vp_in (nI (6 * c) + nI j) L := fun j hj => by rw [nI_add]; exact vp_in_nI (by omega) (by omega)
  refine xrun_step fun K hK => ?_
  refine And.intro (v 1 (by omega)) ?_
  refine And.intro (v 2 (by omega)) ?_
  refine cd_last l 1393 (ruO (hvR H)) ta rs I J _ (lwO TX (hvR H)) (hvA H) hg.1.1.1 hg.ca (xs (nI (6 * c) + nI 1).toNatClampNeg) (xs (nI (6 * c) + nI 2).toNatClampNeg) (fun I1 J1 fc c1 => ?_)
  refine And.intro (v 1 (by omega)) ?_
  refine And.intro (v 2 (by omega)) ?_
  refine md_last l 1395 (ruO (hvR H)) ta rs I1 J1 _ (lwO TX (hvR H)) (hvA H) hg.1.1.1 (hg.ma.fc fc) (xs (nI (6 * c) + nI 1).toNatClampNeg) (xs (nI (6 * c) + nI 2).toNatClampNeg) (fun I2 J2 fm m2 => ?_)
  exact hK 1403 (lloc c) [] _ I2 J2 99 18232 (hn _ I2 J2 (lin2.op hta hi hq hg tp fl (hg.1.1.1.last _ _) (Tle.eq q_last) fc c1 fm m2))
set_option maxRecDepth 100000 in
set_option maxHeartbeats 1000000 in
theorem law_c5 (l : Launch) (L : Nat) (xs : Nat → Int32) (n c : Nat) (hc : 6 * c + 6 ≤ L) (hL : L ≤ 3072) (sh : List XO) (I : XI) (J : XJ) (hv : lin2 sh I) (hn : ∀ (sh' : List XO) (I' : XI) (J' : XJ), lin2 sh' I' → lrun l L xs n 1403 (lloc c) [] sh' I' J' 99 18232) : lrun l L xs (n + 1) 361 (lloc c) [] sh I J 99 18232 := by
  obtain ⟨TX, H, Hi, ta, rs, ⟨rfl, hta⟩, ⟨hi, hq⟩, hg, tp, fl⟩ := id hv
  have hs := hg.1.1.sh hta rs
  have v : ∀ j, j < 6 → vp_in (nI (6 * c) + nI j) L := fun j hj => by rw [nI_add]; exact vp_in_nI (by omega) (by omega)
  refine xrun_step fun K hK => ?_
  refine And.intro (v 1 (by omega)) ?_
  refine And.intro (v 2 (by omega)) ?_
  refine cd_use l 1393 (ruO (hvR H)) ta rs I J _ (lwO TX (hvR H)) (hvA H) hg.1.1.1 hg.ca (xs (nI (6 * c) + nI 1).toNatClampNeg) (xs (nI (6 * c) + nI 2).toNatClampNeg) (fun I1 J1 fc c1 => ?_)
  refine And.intro (v 1 (by omega)) ?_
  refine And.intro (v 2 (by omega)) ?_
  refine md_use l 1395 (ruO (hvR H)) ta rs I1 J1 _ (lwO TX (hvR H)) (hvA H) hg.1.1.1 (hg.ma.fc fc) (xs (nI (6 * c) + nI 1).toNatClampNeg) (xs (nI (6 * c) + nI 2).toNatClampNeg) (fun I2 J2 fm m2 => ?_)
  exact hK 1403 (lloc c) [] _ I2 J2 99 18232 (hn _ I2 J2 (lin2.op hta hi hq hg tp fl (hg.1.1.1.use _ _) (Tle.eq q_use) fc c1 fm m2))
set_option maxRecDepth 100000 in
set_option maxHeartbeats 1000000 in
theorem law_c6 (l : Launch) (L : Nat) (xs : Nat → Int32) (n c : Nat) (hc : 6 * c + 6 ≤ L) (hL : L ≤ 3072) (sh : List XO) (I : XI) (J : XJ) (hv : lin2 sh I) (hn : ∀ (sh' : List XO) (I' : XI) (J' : XJ), lin2 sh' I' → lrun l L xs n 1403 (lloc c) [] sh' I' J' 99 18232) : lrun l L xs (n + 1) 394 (lloc c) [] sh I J 99 18232 := by
  obtain ⟨TX, H, Hi, ta, rs, ⟨rfl, hta⟩, ⟨hi, hq⟩, hg, tp, fl⟩ := id hv
  have hs := hg.1.1.sh hta rs
  have v : ∀ j, j < 6 → vp_in (nI (6 * c) + nI j) L := fun j hj => by rw [nI_add]; exact vp_in_nI (by omega) (by omega)
  refine xrun_step fun K hK => ?_
  refine And.intro (v 1 (by omega)) ?_
  refine And.intro (v 2 (by omega)) ?_
  refine cd_move l 1393 (ruO (hvR H)) ta rs I J _ (lwO TX (hvR H)) (hvA H) hg.1.1.1 hg.ca (xs (nI (6 * c) + nI 1).toNatClampNeg) (xs (nI (6 * c) + nI 2).toNatClampNeg) (fun I1 J1 fc c1 => ?_)
  refine And.intro (v 1 (by omega)) ?_
  refine And.intro (v 2 (by omega)) ?_
  refine md_move l 1395 (ruO (hvR H)) ta rs I1 J1 _ (lwO TX (hvR H)) (hvA H) hg.1.1.1 (hg.ma.fc fc) (xs (nI (6 * c) + nI 1).toNatClampNeg) (xs (nI (6 * c) + nI 2).toNatClampNeg) (fun I2 J2 fm m2 => ?_)
  exact hK 1403 (lloc c) [] _ I2 J2 99 18232 (hn _ I2 J2 (lin2.op hta hi hq hg tp fl (hg.1.1.1.move _ _) (Tle.eq q_move) fc c1 fm m2))
set_option maxRecDepth 100000 in
set_option maxHeartbeats 1000000 in
theorem law_c7 (l : Launch) (L : Nat) (xs : Nat → Int32) (n c : Nat) (hc : 6 * c + 6 ≤ L) (hL : L ≤ 3072) (sh : List XO) (I : XI) (J : XJ) (hv : lin2 sh I) (hn : ∀ (sh' : List XO) (I' : XI) (J' : XJ), lin2 sh' I' → lrun l L xs n 1403 (lloc c) [] sh' I' J' 99 18232) : lrun l L xs (n + 1) 427 (lloc c) [] sh I J 99 18232 := by
  obtain ⟨TX, H, Hi, ta, rs, ⟨rfl, hta⟩, ⟨hi, hq⟩, hg, tp, fl⟩ := id hv
  have hs := hg.1.1.sh hta rs
  have v : ∀ j, j < 6 → vp_in (nI (6 * c) + nI j) L := fun j hj => by rw [nI_add]; exact vp_in_nI (by omega) (by omega)
  refine xrun_step fun K hK => ?_
  refine And.intro (v 1 (by omega)) ?_
  refine cd_sell l 1391 (ruO (hvR H)) ta rs I J _ (lwO TX (hvR H)) (hvA H) hg.1.1.1 hg.ca (xs (nI (6 * c) + nI 1).toNatClampNeg) (fun I1 J1 fc c1 => ?_)
  refine And.intro (v 1 (by omega)) ?_
  refine md_sell l 1388 (ruO (hvR H)) ta rs I1 J1 _ (lwO TX (hvR H)) (hvA H) hg.1.1.1 (hg.ma.fc fc) (xs (nI (6 * c) + nI 1).toNatClampNeg) (fun I2 J2 fm m2 => ?_)
  exact hK 1403 (lloc c) [] _ I2 J2 99 18232 (hn _ I2 J2 (lin2.op hta hi hq hg tp fl (hg.1.1.1.sell _) (Tle.eq q_sell) fc c1 fm m2))
set_option maxRecDepth 100000 in
set_option maxHeartbeats 1000000 in
theorem law_c8 (l : Launch) (L : Nat) (xs : Nat → Int32) (n c : Nat) (hc : 6 * c + 6 ≤ L) (hL : L ≤ 3072) (sh : List XO) (I : XI) (J : XJ) (hv : lin2 sh I) (hn : ∀ (sh' : List XO) (I' : XI) (J' : XJ), lin2 sh' I' → lrun l L xs n 1403 (lloc c) [] sh' I' J' 99 18232) : lrun l L xs (n + 1) 450 (lloc c) [] sh I J 99 18232 := by
  obtain ⟨TX, H, Hi, ta, rs, ⟨rfl, hta⟩, ⟨hi, hq⟩, hg, tp, fl⟩ := id hv
  have hs := hg.1.1.sh hta rs
  have v : ∀ j, j < 6 → vp_in (nI (6 * c) + nI j) L := fun j hj => by rw [nI_add]; exact vp_in_nI (by omega) (by omega)
  refine xrun_step fun K hK => ?_
  refine And.intro (v 1 (by omega)) ?_
  refine cd_hour l 1392 (ruO (hvR H)) ta rs I J _ (lwO TX (hvR H)) (hvA H) hg.1.1.1 hg.ca (xs (nI (6 * c) + nI 1).toNatClampNeg) (fun I1 J1 fc c1 => ?_)
  refine And.intro (v 1 (by omega)) ?_
  refine md_hour l 1386 (ruO (hvR H)) ta rs I1 J1 _ (lwO TX (hvR H)) (hvA H) hg.1.1.1 (hg.ma.fc fc) (xs (nI (6 * c) + nI 1).toNatClampNeg) (fun I2 J2 fm m2 => ?_)
  exact hK 1403 (lloc c) [] _ I2 J2 99 18232 (hn _ I2 J2 (lin2.op hta hi hq hg tp fl (hg.1.1.1.hour _) (Tle.eq q_hour) fc c1 fm m2))
set_option maxRecDepth 100000 in
set_option maxHeartbeats 1000000 in
theorem law_c9 (l : Launch) (L : Nat) (xs : Nat → Int32) (n c : Nat) (hc : 6 * c + 6 ≤ L) (hL : L ≤ 3072) (sh : List XO) (I : XI) (J : XJ) (hv : lin2 sh I) (hn : ∀ (sh' : List XO) (I' : XI) (J' : XJ), lin2 sh' I' → lrun l L xs n 1403 (lloc c) [] sh' I' J' 99 18232) : lrun l L xs (n + 1) 473 (lloc c) [] sh I J 99 18232 := by
  obtain ⟨TX, H, Hi, ta, rs, ⟨rfl, hta⟩, ⟨hi, hq⟩, hg, tp, fl⟩ := id hv
  have hs := hg.1.1.sh hta rs
  have v : ∀ j, j < 6 → vp_in (nI (6 * c) + nI j) L := fun j hj => by rw [nI_add]; exact vp_in_nI (by omega) (by omega)
  refine xrun_step fun K hK => ?_
  refine And.intro (v 1 (by omega)) ?_
  refine And.intro (v 2 (by omega)) ?_
  refine cd_dec l 1391 (ruO (hvR H)) ta rs I J _ (lwO TX (hvR H)) (hvA H) hg.1.1.1 hg.ca (xs (nI (6 * c) + nI 1).toNatClampNeg) (xs (nI (6 * c) + nI 2).toNatClampNeg) (fun I1 J1 fc c1 => ?_)
  refine And.intro (v 1 (by omega)) ?_
  refine And.intro (v 2 (by omega)) ?_
  refine md_dec l 1384 (ruO (hvR H)) ta rs I1 J1 _ (lwO TX (hvR H)) (hvA H) hg.1.1.1 (hg.ma.fc fc) (xs (nI (6 * c) + nI 1).toNatClampNeg) (xs (nI (6 * c) + nI 2).toNatClampNeg) (fun I2 J2 fm m2 => ?_)
  exact hK 1403 (lloc c) [] _ I2 J2 99 18232 (hn _ I2 J2 (lin2.op hta hi hq hg tp fl (hg.1.1.1.dec _ _) (Tle.eq q_dec) fc c1 fm m2))
set_option maxRecDepth 100000 in
set_option maxHeartbeats 1000000 in
theorem law_c10 (l : Launch) (L : Nat) (xs : Nat → Int32) (n c : Nat) (hc : 6 * c + 6 ≤ L) (hL : L ≤ 3072) (sh : List XO) (I : XI) (J : XJ) (hv : lin2 sh I) (hn : ∀ (sh' : List XO) (I' : XI) (J' : XJ), lin2 sh' I' → lrun l L xs n 1403 (lloc c) [] sh' I' J' 99 18232) : lrun l L xs (n + 1) 506 (lloc c) [] sh I J 99 18232 := by
  obtain ⟨TX, H, Hi, ta, rs, ⟨rfl, hta⟩, ⟨hi, hq⟩, hg, tp, fl⟩ := id hv
  have hs := hg.1.1.sh hta rs
  have v : ∀ j, j < 6 → vp_in (nI (6 * c) + nI j) L := fun j hj => by rw [nI_add]; exact vp_in_nI (by omega) (by omega)
  refine xrun_step fun K hK => ?_
  refine And.intro (v 1 (by omega)) ?_
  refine And.intro (v 2 (by omega)) ?_
  refine And.intro (v 3 (by omega)) ?_
  refine And.intro (v 4 (by omega)) ?_
  refine And.intro (v 5 (by omega)) ?_
  obtain ⟨T, hT, eT, eT2, hB⟩ := id tp
  refine c_feed l 1397 (ruO (hvR H)) ta rs (xs (nI (6 * c) + nI 1).toNatClampNeg) (xs (nI (6 * c) + nI 2).toNatClampNeg) (xs (nI (6 * c) + nI 3).toNatClampNeg) (xs (nI (6 * c) + nI 4).toNatClampNeg) (xs (nI (6 * c) + nI 5).toNatClampNeg) T hT I J _ eT (fun h I1 fd => ?_) (fun h => ?_)
  · have e67 : I1 67 3 = nI T := by
      rw [fd.1.1 67 (by decide) (by decide)]
      exact eT2
    refine And.intro (v 1 (by omega)) ?_
    refine And.intro (v 2 (by omega)) ?_
    refine And.intro (v 3 (by omega)) ?_
    refine And.intro (v 4 (by omega)) ?_
    refine And.intro (v 5 (by omega)) ?_
    refine m_feed l 1397 (ruO (hvR H)) ta rs (xs (nI (6 * c) + nI 1).toNatClampNeg) (xs (nI (6 * c) + nI 2).toNatClampNeg) (xs (nI (6 * c) + nI 3).toNatClampNeg) (xs (nI (6 * c) + nI 4).toNatClampNeg) (xs (nI (6 * c) + nI 5).toNatClampNeg) T hT I1 J _ e67 (fun _ I2 pd => ?_) (fun g => absurd h g)
    have tf := tp_feed h hB fd pd
    exact hK 1403 (lloc c) [] _ I2 J 99 18232 (hn _ I2 J (lin2.tape hta hg tf.2.2 (pd.2.2.1 (fd.2.2.1 hi)) (pd.2.2.2 (fd.2.2.2 hq)) tf.1 (tf.2.1 fl)))
  · refine And.intro (v 1 (by omega)) ?_
    refine And.intro (v 2 (by omega)) ?_
    refine And.intro (v 3 (by omega)) ?_
    refine And.intro (v 4 (by omega)) ?_
    refine And.intro (v 5 (by omega)) ?_
    refine m_feed l 1397 (ruO (hvR H)) ta rs (xs (nI (6 * c) + nI 1).toNatClampNeg) (xs (nI (6 * c) + nI 2).toNatClampNeg) (xs (nI (6 * c) + nI 3).toNatClampNeg) (xs (nI (6 * c) + nI 4).toNatClampNeg) (xs (nI (6 * c) + nI 5).toNatClampNeg) T hT I J _ eT2 (fun g => absurd g h) (fun _ => ?_)
    exact hK 1403 (lloc c) [] _ I J 99 18232 (hn _ I J (hv))
set_option maxRecDepth 100000 in
set_option maxHeartbeats 1000000 in
theorem law_c11 (l : Launch) (L : Nat) (xs : Nat → Int32) (n c : Nat) (hc : 6 * c + 6 ≤ L) (hL : L ≤ 3072) (sh : List XO) (I : XI) (J : XJ) (hv : lin2 sh I) (hn : ∀ (sh' : List XO) (I' : XI) (J' : XJ), lin2 sh' I' → lrun l L xs n 1403 (lloc c) [] sh' I' J' 99 18232) : lrun l L xs (n + 1) 569 (lloc c) [] sh I J 99 18232 := by
  obtain ⟨TX, H, Hi, ta, rs, ⟨rfl, hta⟩, ⟨hi, hq⟩, hg, tp, fl⟩ := id hv
  have hs := hg.1.1.sh hta rs
  have v : ∀ j, j < 6 → vp_in (nI (6 * c) + nI j) L := fun j hj => by rw [nI_add]; exact vp_in_nI (by omega) (by omega)
  refine xrun_step fun K hK => ?_
  refine And.intro (v 1 (by omega)) ?_
  obtain ⟨T, hT, eT, eT2, hB⟩ := id tp
  refine c_end l 1397 (xs (nI (6 * c) + nI 1).toNatClampNeg) (ruO (hvR H)) ta rs I J _ (fun b => ?_) (fun b => ?_)
  · rw [eT] at b
    refine And.intro (v 1 (by omega)) ?_
    have b2 : 0 ≤ (xs (nI (6 * c) + nI 1).toNatClampNeg) ∧ (xs (nI (6 * c) + nI 1).toNatClampNeg) ≤ (uI I 30 1 (xs (nI (6 * c) + nI 1).toNatClampNeg)) 67 3 := ⟨b.1, by rw [show (uI I 30 1 (xs (nI (6 * c) + nI 1).toNatClampNeg)) 67 3 = nI T from eT2]; exact b.2⟩
    refine m_end l 1397 (xs (nI (6 * c) + nI 1).toNatClampNeg) (ruO (hvR H)) ta rs (uI I 30 1 (xs (nI (6 * c) + nI 1).toNatClampNeg)) J _ (fun _ => ?_) (fun g => absurd b2 g)
    exact hK 1403 (lloc c) [] _ (uI (uI I 30 1 (xs (nI (6 * c) + nI 1).toNatClampNeg)) 67 3 (xs (nI (6 * c) + nI 1).toNatClampNeg)) J 99 18232 (hn _ (uI (uI I 30 1 (xs (nI (6 * c) + nI 1).toNatClampNeg)) 67 3 (xs (nI (6 * c) + nI 1).toNatClampNeg)) J (lin2.tape hta hg (fun q a _ b _ => by rw [uI_ne b, uI_ne a]) (iv_end hi hT b) (qq_u (by decide) (qq_u (by decide) hq)) (tp_end hB hT b) fl))
  · rw [eT] at b
    refine And.intro (v 1 (by omega)) ?_
    refine m_end l 1397 (xs (nI (6 * c) + nI 1).toNatClampNeg) (ruO (hvR H)) ta rs I J _ (fun g => absurd (by rw [eT2] at g; exact g) b) (fun _ => ?_)
    exact hK 1403 (lloc c) [] _ I J 99 18232 (hn _ I J (hv))
set_option maxRecDepth 100000 in
set_option maxHeartbeats 1000000 in
theorem law_c12 (l : Launch) (L : Nat) (xs : Nat → Int32) (n c : Nat) (hc : 6 * c + 6 ≤ L) (hL : L ≤ 3072) (sh : List XO) (I : XI) (J : XJ) (hv : lin2 sh I) (hn : ∀ (sh' : List XO) (I' : XI) (J' : XJ), lin2 sh' I' → lrun l L xs n 1403 (lloc c) [] sh' I' J' 99 18232) : lrun l L xs (n + 1) 592 (lloc c) [] sh I J 99 18232 := by
  obtain ⟨TX, H, Hi, ta, rs, ⟨rfl, hta⟩, ⟨hi, hq⟩, hg, tp, fl⟩ := id hv
  have hs := hg.1.1.sh hta rs
  have v : ∀ j, j < 6 → vp_in (nI (6 * c) + nI j) L := fun j hj => by rw [nI_add]; exact vp_in_nI (by omega) (by omega)
  refine xrun_step fun K hK => ?_
  obtain ⟨T, hT, eT, eT2, hB⟩ := id tp
  have em : I 0 12 = nI (hvM H) := hg.2.2.1.2.2.1
  have e68 : I 68 3 = nI (hvM H) := hg.2.2.2.2.1.1.2.2.1
  have m4 := hg.1.1.2.1
  refine c_text l 1365 (ruO (hvR H)) ta rs (I 70) T (hvM H) hT m4 I J _ em eT hB (fun h4 => ?_) (fun h4 I1 ok => ?_) (fun h4 I1 no => ?_)
  · refine ue_text l 1389 (ruO (hvR H)) ta rs hs I J _ hi hq T (hvM H) eT2 hT e68 m4 (fun _ => ?_) (fun g => absurd h4 (by omega))
    exact hK 1403 (lloc c) [] _ I J 99 18232 (hn _ I J (hv))
  · have tt := TSP_t h4
    have gs : shO CF (shH (ruO (hvR H)) (47 + 5 * hvM H) rs) := sh_ok (ruO_mem hg.1.1.ru) (txP_in h4) rs
    have ib : ivO CF [] (uI (uI I1 30 1 0) 0 12 (nI (hvM H + 1))) := iv_put (iv_put (iv_rdf tt ok.1 hi) (by rw [cell_012.2]; exact ⟨by decide, by decide⟩)) (by rw [cell_012.1]; exact inI_nI (by omega) (by omega))
    have qb : QQ (uI (uI I1 30 1 0) 0 12 (nI (hvM H + 1))) := qq_u (by decide) (qq_u (by decide) (qq_rdf tt ok.1 hq))
    have hh : ∀ p, 67 ≤ p → I1 p = I p := fun p hp => rdf_hi tt ok.1 (Or.inr (Or.inr (Or.inr hp)))
    have e70 : (uI (uI I1 30 1 0) 0 12 (nI (hvM H + 1))) 70 = I 70 := hh 70 (by omega)
    have e67 : (uI (uI I1 30 1 0) 0 12 (nI (hvM H + 1))) 67 3 = nI T := (congrFun (hh 67 (by omega)) 3).trans eT2
    have e683 : (uI (uI I1 30 1 0) 0 12 (nI (hvM H + 1))) 68 3 = nI (hvM H) := (congrFun (hh 68 (by omega)) 3).trans e68
    refine ue_text l 1389 (ruO (hvR H)) (47 + 5 * hvM H) rs gs (uI (uI I1 30 1 0) 0 12 (nI (hvM H + 1))) J _ ib qb T (hvM H) e67 hT e683 m4 (fun g => absurd g (by omega)) (fun _ r I2 J2 a1 a2 a3 a4 a5 a6 => ?_)
    obtain ⟨z1, z2, z3⟩ := a6
    rw [e70] at z3
    rcases z3 with ⟨_, ⟨f, p, en, f1, _⟩, _⟩ | ⟨rr, en, y4, y5, y3, ro, ex⟩
    · have dd := congrArg Prod.fst (Ends.det ok.2.2.2.1 en)
      dsimp only at dd
      omega
    · subst rr
      have G7 : I2 35 7 = I2 67 4 := by
        rw [y4, a4 35 rfl]
        exact ok.2.1
      have G8 : I2 35 8 = I2 67 5 := by
        rw [y5, a4 35 rfl]
        exact ok.2.2.1
      exact hK 1403 (lloc c) [] _ I2 J2 99 18232 (hn _ I2 J2 (lin2.text_ok hT hg h4 ok a2 a3 a4 a5.1 a5.2 z1 G7 G8 y3 ro ex))
  · have tt := TSP_t h4
    have gs : shO CF (shH (ruO (hvR H)) (47 + 5 * hvM H) rs) := sh_ok (ruO_mem hg.1.1.ru) (txP_in h4) rs
    have ib : ivO CF [] (uI I1 30 1 0) := iv_put (iv_rdf tt no.1 hi) (by rw [cell_012.2]; exact ⟨by decide, by decide⟩)
    have qb : QQ (uI I1 30 1 0) := qq_u (by decide) (qq_rdf tt no.1 hq)
    have hh : ∀ p, 67 ≤ p → I1 p = I p := fun p hp => rdf_hi tt no.1 (Or.inr (Or.inr (Or.inr hp)))
    have e70 : (uI I1 30 1 0) 70 = I 70 := hh 70 (by omega)
    have e67 : (uI I1 30 1 0) 67 3 = nI T := (congrFun (hh 67 (by omega)) 3).trans eT2
    have e683 : (uI I1 30 1 0) 68 3 = nI (hvM H) := (congrFun (hh 68 (by omega)) 3).trans e68
    refine ue_text l 1389 (ruO (hvR H)) (47 + 5 * hvM H) rs gs (uI I1 30 1 0) J _ ib qb T (hvM H) e67 hT e683 m4 (fun g => absurd g (by omega)) (fun _ r I2 J2 a1 a2 a3 a4 a5 a6 => ?_)
    obtain ⟨z1, z2, z3⟩ := a6
    rw [e70] at z3
    obtain ⟨rd, f0, p0, w7, w8, w1, we⟩ := no
    rcases z3 with ⟨rr, ⟨f, p, en, f1, y4, y5⟩, y3, hx⟩ | ⟨_, en, _⟩
    · subst rr
      have dd := Ends.det we en
      have d1 : f0 = f := congrArg Prod.fst dd
      have d2 : p0 = p := congrArg Prod.snd dd
      have G7 : I2 35 7 = I2 67 4 := by
        rw [y4, a4 35 rfl, ← d1]
        exact w7
      have G8 : I2 35 8 = I2 67 5 := by
        rw [y5, a4 35 rfl, ← d2]
        exact w8
      exact hK 1403 (lloc c) [] _ I2 J2 99 18232 (hn _ I2 J2 (lin2.text_no hg h4 rd a2 a3 a4 a5.1 a5.2 z1 G7 G8 y3 hx))
    · have dd := congrArg Prod.fst (Ends.det we en)
      dsimp only at dd
      omega
set_option maxRecDepth 100000 in
set_option maxHeartbeats 1000000 in
theorem law_c13 (l : Launch) (L : Nat) (xs : Nat → Int32) (n c : Nat) (hc : 6 * c + 6 ≤ L) (hL : L ≤ 3072) (sh : List XO) (I : XI) (J : XJ) (hv : lin2 sh I) (hn : ∀ (sh' : List XO) (I' : XI) (J' : XJ), lin2 sh' I' → lrun l L xs n 1403 (lloc c) [] sh' I' J' 99 18232) : lrun l L xs (n + 1) 605 (lloc c) [] sh I J 99 18232 := by
  obtain ⟨TX, H, Hi, ta, rs, ⟨rfl, hta⟩, ⟨hi, hq⟩, hg, tp, fl⟩ := id hv
  have hs := hg.1.1.sh hta rs
  have v : ∀ j, j < 6 → vp_in (nI (6 * c) + nI j) L := fun j hj => by rw [nI_add]; exact vp_in_nI (by omega) (by omega)
  refine xrun_step fun K hK => ?_
  refine And.intro (v 1 (by omega)) ?_
  refine c_fault l 1398 (xs (nI (6 * c) + nI 1).toNatClampNeg) (ruO (hvR H)) ta rs I J _ (fun a => ?_) (fun a b => ?_) (fun a b => ?_) (fun a b0 b1 => ?_)
  · refine And.intro (v 1 (by omega)) ?_
    refine m_fault l 1398 (xs (nI (6 * c) + nI 1).toNatClampNeg) (ruO (hvR H)) ta rs I J _ (fun z => ?_) (fun z => ?_) (fun z0 z1 => ?_)
    · exact hK 1403 (lloc c) [] _ I J 99 18232 (hn _ I J (hv))
    · exact hK 1403 (lloc c) [] _ I J 99 18232 (hn _ I J (hv))
    · exact hK 1403 (lloc c) [] _ I J 99 18232 (hn _ I J (hv))
  · refine And.intro (v 1 (by omega)) ?_
    refine m_fault l 1398 (xs (nI (6 * c) + nI 1).toNatClampNeg) (ruO (hvR H)) ta rs I J _ (fun z => ?_) (fun z => absurd (b.symm.trans z) (by decide)) (fun z0 z1 => absurd b z0)
    exact hK 1403 (lloc c) [] _ I J 99 18232 (hn _ I J (hv))
  · refine And.intro (v 1 (by omega)) ?_
    refine m_fault l 1398 (xs (nI (6 * c) + nI 1).toNatClampNeg) (ruO (hvR H)) ta rs I J _ (fun z => absurd (b.symm.trans z) (by decide)) (fun z => ?_) (fun z0 z1 => absurd b z1)
    exact hK 1403 (lloc c) [] _ I J 99 18232 (hn _ I J (hv))
  · refine And.intro (v 1 (by omega)) ?_
    refine m_fault l 1398 (xs (nI (6 * c) + nI 1).toNatClampNeg) (ruO (hvR H)) ta rs I J _ (fun z => absurd z b0) (fun z => absurd z b1) (fun z0 z1 => ?_)
    exact hK 1403 (lloc c) [] _ I J 99 18232 (hn _ I J (hv))
set_option maxRecDepth 100000 in
set_option maxHeartbeats 1000000 in
theorem law_c14 (l : Launch) (L : Nat) (xs : Nat → Int32) (n c : Nat) (hc : 6 * c + 6 ≤ L) (hL : L ≤ 3072) (sh : List XO) (I : XI) (J : XJ) (hv : lin2 sh I) (hn : ∀ (sh' : List XO) (I' : XI) (J' : XJ), lin2 sh' I' → lrun l L xs n 1403 (lloc c) [] sh' I' J' 99 18232) : lrun l L xs (n + 1) 628 (lloc c) [] sh I J 99 18232 := by
  obtain ⟨TX, H, Hi, ta, rs, ⟨rfl, hta⟩, ⟨hi, hq⟩, hg, tp, fl⟩ := id hv
  have hs := hg.1.1.sh hta rs
  have v : ∀ j, j < 6 → vp_in (nI (6 * c) + nI j) L := fun j hj => by rw [nI_add]; exact vp_in_nI (by omega) (by omega)
  refine xrun_step fun K hK => ?_
  refine And.intro (v 1 (by omega)) ?_
  have em : I 0 12 = nI (hvM H) := hg.2.2.1.2.2.1
  have e68 : I 68 3 = nI (hvM H) := hg.2.2.2.2.1.1.2.2.1
  have m4 := hg.1.1.2.1
  refine cd_by l 1396 (ruO (hvR H)) ta rs I J _ (hvM H) m4 em (xs (nI (6 * c) + nI 1).toNatClampNeg) (fun r hr er => ?_) (fun b => ?_)
  · refine And.intro (v 1 (by omega)) ?_
    have hb : (xs (nI (6 * c) + nI 1).toNatClampNeg) = -1 ∨ vIn (xs (nI (6 * c) + nI 1).toNatClampNeg) (hvM H) = true := by
      rw [er]
      cases r with
      | none => exact Or.inl rfl
      | some t => exact Or.inr (vIn_n (by omega) (hr t rfl))
    refine md_by l 1397 (ruO r) ta rs (uI I 0 13 (xs (nI (6 * c) + nI 1).toNatClampNeg)) J _ (hvM H) m4 e68 (xs (nI (6 * c) + nI 1).toNatClampNeg) (fun _ => ?_) (fun g => absurd hb g)
    rw [er]
    exact hK 1403 (lloc c) [] _ (uI (uI I 0 13 (rI r)) 68 4 (rI r)) J 99 18232 (hn _ (uI (uI I 0 13 (rI r)) 68 4 (rI r)) J (lin2.by_ hta hi hq hg tp fl hr))
  · refine And.intro (v 1 (by omega)) ?_
    refine md_by l 1397 (ruO (hvR H)) ta rs I J _ (hvM H) m4 e68 (xs (nI (6 * c) + nI 1).toNatClampNeg) (fun g => absurd g b) (fun _ => ?_)
    exact hK 1403 (lloc c) [] _ I J 99 18232 (hn _ I J (hv))
set_option maxRecDepth 100000 in
set_option maxHeartbeats 1000000 in
theorem law_c15 (l : Launch) (L : Nat) (xs : Nat → Int32) (n c : Nat) (hc : 6 * c + 6 ≤ L) (hL : L ≤ 3072) (sh : List XO) (I : XI) (J : XJ) (hv : lin2 sh I) (hn : ∀ (sh' : List XO) (I' : XI) (J' : XJ), lin2 sh' I' → lrun l L xs n 1403 (lloc c) [] sh' I' J' 99 18232) : lrun l L xs (n + 1) 651 (lloc c) [] sh I J 99 18232 := by
  obtain ⟨TX, H, Hi, ta, rs, ⟨rfl, hta⟩, ⟨hi, hq⟩, hg, tp, fl⟩ := id hv
  have hs := hg.1.1.sh hta rs
  have v : ∀ j, j < 6 → vp_in (nI (6 * c) + nI j) L := fun j hj => by rw [nI_add]; exact vp_in_nI (by omega) (by omega)
  refine xrun_step fun K hK => ?_
  refine And.intro (v 1 (by omega)) ?_
  refine cd_played l 1384 (ruO (hvR H)) ta rs I J _ TX H Hi hg (xs (nI (6 * c) + nI 1).toNatClampNeg) (fun I1 J1 fc c1 => ?_)
  refine And.intro (v 1 (by omega)) ?_
  refine md_played l 1384 (ruO (hvR H)) ta rs I1 J1 _ TX H Hi hg fc (xs (nI (6 * c) + nI 1).toNatClampNeg) (fun I2 J2 fm m2 => ?_)
  exact hK 1403 (lloc c) [] _ I2 J2 99 18232 (hn _ I2 J2 (lin2.op hta hi hq hg tp fl (ok_played hg _) (q_played _) fc c1 fm m2))
set_option maxRecDepth 100000 in
set_option maxHeartbeats 1000000 in
theorem law_c16 (l : Launch) (L : Nat) (xs : Nat → Int32) (n c : Nat) (hc : 6 * c + 6 ≤ L) (hL : L ≤ 3072) (sh : List XO) (I : XI) (J : XJ) (hv : lin2 sh I) (hn : ∀ (sh' : List XO) (I' : XI) (J' : XJ), lin2 sh' I' → lrun l L xs n 1403 (lloc c) [] sh' I' J' 99 18232) : lrun l L xs (n + 1) 674 (lloc c) [] sh I J 99 18232 := by
  obtain ⟨TX, H, Hi, ta, rs, ⟨rfl, hta⟩, ⟨hi, hq⟩, hg, tp, fl⟩ := id hv
  have hs := hg.1.1.sh hta rs
  have v : ∀ j, j < 6 → vp_in (nI (6 * c) + nI j) L := fun j hj => by rw [nI_add]; exact vp_in_nI (by omega) (by omega)
  refine xrun_step fun K hK => ?_
  refine cd_undo l 1396 (ruO (hvR H)) ta rs I J _ (lwO TX (hvR H)) (hvA H) hg.1.1.1 hg.ca  (fun I1 fc c1 => ?_)
  refine md_undo l 1398 (ruO (hvR H)) ta rs I1 J _ (lwO TX (hvR H)) (hvA H) hg.1.1.1 (hg.ma.fc fc)  (fun I2 fm m2 => ?_)
  exact hK 1403 (lloc c) [] _ I2 J 99 18232 (hn _ I2 J (lin2.op hta hi hq hg tp fl (hg.1.1.1.undo) (Tle.eq q_undo) fc c1 fm m2))
set_option maxRecDepth 100000 in
set_option maxHeartbeats 1000000 in
theorem law_c17 (l : Launch) (L : Nat) (xs : Nat → Int32) (n c : Nat) (hc : 6 * c + 6 ≤ L) (hL : L ≤ 3072) (sh : List XO) (I : XI) (J : XJ) (hv : lin2 sh I) (hn : ∀ (sh' : List XO) (I' : XI) (J' : XJ), lin2 sh' I' → lrun l L xs n 1403 (lloc c) [] sh' I' J' 99 18232) : lrun l L xs (n + 1) 687 (lloc c) [] sh I J 99 18232 := by
  obtain ⟨TX, H, Hi, ta, rs, ⟨rfl, hta⟩, ⟨hi, hq⟩, hg, tp, fl⟩ := id hv
  have hs := hg.1.1.sh hta rs
  have v : ∀ j, j < 6 → vp_in (nI (6 * c) + nI j) L := fun j hj => by rw [nI_add]; exact vp_in_nI (by omega) (by omega)
  refine xrun_step fun K hK => ?_
  refine And.intro (v 1 (by omega)) ?_
  refine And.intro (v 2 (by omega)) ?_
  refine cd_of l 1391 (ruO (hvR H)) ta rs I J _ (lwO TX (hvR H)) (hvA H) hg.1.1.1 hg.ca (xs (nI (6 * c) + nI 1).toNatClampNeg) (xs (nI (6 * c) + nI 2).toNatClampNeg) (fun I1 J1 fc c1 => ?_)
  refine And.intro (v 1 (by omega)) ?_
  refine And.intro (v 2 (by omega)) ?_
  refine md_of l 1389 (ruO (hvR H)) ta rs I1 J1 _ (lwO TX (hvR H)) (hvA H) hg.1.1.1 (hg.ma.fc fc) (xs (nI (6 * c) + nI 1).toNatClampNeg) (xs (nI (6 * c) + nI 2).toNatClampNeg) (fun I2 J2 fm m2 => ?_)
  exact hK 1403 (lloc c) [] _ I2 J2 99 18232 (hn _ I2 J2 (lin2.op hta hi hq hg tp fl hg.1.1.1 (Tle.rf _) fc c1 fm m2))
set_option maxRecDepth 100000 in
set_option maxHeartbeats 1000000 in
theorem law_c18 (l : Launch) (L : Nat) (xs : Nat → Int32) (n c : Nat) (hc : 6 * c + 6 ≤ L) (hL : L ≤ 3072) (sh : List XO) (I : XI) (J : XJ) (hv : lin2 sh I) (hn : ∀ (sh' : List XO) (I' : XI) (J' : XJ), lin2 sh' I' → lrun l L xs n 1403 (lloc c) [] sh' I' J' 99 18232) : lrun l L xs (n + 1) 720 (lloc c) [] sh I J 99 18232 := by
  obtain ⟨TX, H, Hi, ta, rs, ⟨rfl, hta⟩, ⟨hi, hq⟩, hg, tp, fl⟩ := id hv
  have hs := hg.1.1.sh hta rs
  have v : ∀ j, j < 6 → vp_in (nI (6 * c) + nI j) L := fun j hj => by rw [nI_add]; exact vp_in_nI (by omega) (by omega)
  refine xrun_step fun K hK => ?_
  refine And.intro (v 1 (by omega)) ?_
  refine And.intro (v 2 (by omega)) ?_
  refine cd_ofReaper l 1397 (ruO (hvR H)) ta rs I J _ (lwO TX (hvR H)) (hvA H) hg.1.1.1 hg.ca (xs (nI (6 * c) + nI 1).toNatClampNeg) (xs (nI (6 * c) + nI 2).toNatClampNeg) (fun I1 J1 fc c1 => ?_)
  refine And.intro (v 1 (by omega)) ?_
  refine And.intro (v 2 (by omega)) ?_
  refine md_ofReaper l 1396 (ruO (hvR H)) ta rs I1 J1 _ (lwO TX (hvR H)) (hvA H) hg.1.1.1 (hg.ma.fc fc) (xs (nI (6 * c) + nI 1).toNatClampNeg) (xs (nI (6 * c) + nI 2).toNatClampNeg) (fun I2 J2 fm m2 => ?_)
  exact hK 1403 (lloc c) [] _ I2 J2 99 18232 (hn _ I2 J2 (lin2.op hta hi hq hg tp fl hg.1.1.1 (Tle.rf _) fc c1 fm m2))
set_option maxRecDepth 100000 in
set_option maxHeartbeats 1000000 in
theorem law_c19 (l : Launch) (L : Nat) (xs : Nat → Int32) (n c : Nat) (hc : 6 * c + 6 ≤ L) (hL : L ≤ 3072) (sh : List XO) (I : XI) (J : XJ) (hv : lin2 sh I) (hn : ∀ (sh' : List XO) (I' : XI) (J' : XJ), lin2 sh' I' → lrun l L xs n 1403 (lloc c) [] sh' I' J' 99 18232) : lrun l L xs (n + 1) 753 (lloc c) [] sh I J 99 18232 := by
  obtain ⟨TX, H, Hi, ta, rs, ⟨rfl, hta⟩, ⟨hi, hq⟩, hg, tp, fl⟩ := id hv
  have hs := hg.1.1.sh hta rs
  have v : ∀ j, j < 6 → vp_in (nI (6 * c) + nI j) L := fun j hj => by rw [nI_add]; exact vp_in_nI (by omega) (by omega)
  refine xrun_step fun K hK => ?_
  refine And.intro (v 1 (by omega)) ?_
  refine And.intro (v 2 (by omega)) ?_
  refine cd_bale l 1391 (ruO (hvR H)) ta rs I J _ (lwO TX (hvR H)) (hvA H) hg.1.1.1 hg.ca (xs (nI (6 * c) + nI 1).toNatClampNeg) (xs (nI (6 * c) + nI 2).toNatClampNeg) (fun I1 J1 fc c1 => ?_)
  refine And.intro (v 1 (by omega)) ?_
  refine And.intro (v 2 (by omega)) ?_
  refine md_bale l 1389 (ruO (hvR H)) ta rs I1 J1 _ (lwO TX (hvR H)) (hvA H) hg.1.1.1 (hg.ma.fc fc) (xs (nI (6 * c) + nI 1).toNatClampNeg) (xs (nI (6 * c) + nI 2).toNatClampNeg) (fun I2 J2 fm m2 => ?_)
  exact hK 1403 (lloc c) [] _ I2 J2 99 18232 (hn _ I2 J2 (lin2.op hta hi hq hg tp fl hg.1.1.1 (Tle.rf _) fc c1 fm m2))
set_option maxRecDepth 100000 in
set_option maxHeartbeats 1000000 in
theorem law_c20 (l : Launch) (L : Nat) (xs : Nat → Int32) (n c : Nat) (hc : 6 * c + 6 ≤ L) (hL : L ≤ 3072) (sh : List XO) (I : XI) (J : XJ) (hv : lin2 sh I) (hn : ∀ (sh' : List XO) (I' : XI) (J' : XJ), lin2 sh' I' → lrun l L xs n 1403 (lloc c) [] sh' I' J' 99 18232) : lrun l L xs (n + 1) 786 (lloc c) [] sh I J 99 18232 := by
  obtain ⟨TX, H, Hi, ta, rs, ⟨rfl, hta⟩, ⟨hi, hq⟩, hg, tp, fl⟩ := id hv
  have hs := hg.1.1.sh hta rs
  have v : ∀ j, j < 6 → vp_in (nI (6 * c) + nI j) L := fun j hj => by rw [nI_add]; exact vp_in_nI (by omega) (by omega)
  refine xrun_step fun K hK => ?_
  refine And.intro (v 1 (by omega)) ?_
  refine And.intro (v 2 (by omega)) ?_
  refine cd_ofBarn l 1397 (ruO (hvR H)) ta rs I J _ (lwO TX (hvR H)) (hvA H) hg.1.1.1 hg.ca (xs (nI (6 * c) + nI 1).toNatClampNeg) (xs (nI (6 * c) + nI 2).toNatClampNeg) (fun I1 J1 fc c1 => ?_)
  refine And.intro (v 1 (by omega)) ?_
  refine And.intro (v 2 (by omega)) ?_
  refine md_ofBarn l 1396 (ruO (hvR H)) ta rs I1 J1 _ (lwO TX (hvR H)) (hvA H) hg.1.1.1 (hg.ma.fc fc) (xs (nI (6 * c) + nI 1).toNatClampNeg) (xs (nI (6 * c) + nI 2).toNatClampNeg) (fun I2 J2 fm m2 => ?_)
  exact hK 1403 (lloc c) [] _ I2 J2 99 18232 (hn _ I2 J2 (lin2.op hta hi hq hg tp fl hg.1.1.1 (Tle.rf _) fc c1 fm m2))
set_option maxRecDepth 100000 in
set_option maxHeartbeats 1000000 in
theorem law_c21 (l : Launch) (L : Nat) (xs : Nat → Int32) (n c : Nat) (hc : 6 * c + 6 ≤ L) (hL : L ≤ 3072) (sh : List XO) (I : XI) (J : XJ) (hv : lin2 sh I) (hn : ∀ (sh' : List XO) (I' : XI) (J' : XJ), lin2 sh' I' → lrun l L xs n 1403 (lloc c) [] sh' I' J' 99 18232) : lrun l L xs (n + 1) 819 (lloc c) [] sh I J 99 18232 := by
  obtain ⟨TX, H, Hi, ta, rs, ⟨rfl, hta⟩, ⟨hi, hq⟩, hg, tp, fl⟩ := id hv
  have hs := hg.1.1.sh hta rs
  have v : ∀ j, j < 6 → vp_in (nI (6 * c) + nI j) L := fun j hj => by rw [nI_add]; exact vp_in_nI (by omega) (by omega)
  refine xrun_step fun K hK => ?_
  refine And.intro (v 1 (by omega)) ?_
  refine And.intro (v 2 (by omega)) ?_
  refine ctr_at ct_X11_foretold_0 (by decide) l _ I J [.ref 0, .int _, .int _] _ ⟨by decide, inI_fr _, inI_fr _, trivial⟩ (fun e he => by cases he) hs hi hq ?_
  intro v1 sh1 I1 J1 g1 w1 i1 q1 f1 p1
  obtain ⟨r1, rfl⟩ := int_post (by decide) p1
  have s1 := w1 rfl
  subst s1
  refine And.intro (v 1 (by omega)) ?_
  refine And.intro (v 2 (by omega)) ?_
  refine ctr_at ct_X12_foretold_0 (by decide) l _ I1 J1 [.ref 67, .int _, .int _] _ ⟨by decide, inI_fr _, inI_fr _, trivial⟩ (fun e he => by cases he) hs i1 q1 ?_
  intro v2 sh2 I2 J2 g2 w2 i2 q2 f2 p2
  obtain ⟨r2, rfl⟩ := int_post (by decide) p2
  have s2 := w2 rfl
  subst s2
  exact hK 1403 (lloc c) [] _ I2 J2 99 18232 (hn _ I2 J2 (lin2.ask hta hg tp fl f1 f2 (by decide) (by decide) i2 q2))
set_option maxRecDepth 100000 in
set_option maxHeartbeats 1000000 in
theorem law_c22 (l : Launch) (L : Nat) (xs : Nat → Int32) (n c : Nat) (hc : 6 * c + 6 ≤ L) (hL : L ≤ 3072) (sh : List XO) (I : XI) (J : XJ) (hv : lin2 sh I) (hn : ∀ (sh' : List XO) (I' : XI) (J' : XJ), lin2 sh' I' → lrun l L xs n 1403 (lloc c) [] sh' I' J' 99 18232) : lrun l L xs (n + 1) 852 (lloc c) [] sh I J 99 18232 := by
  obtain ⟨TX, H, Hi, ta, rs, ⟨rfl, hta⟩, ⟨hi, hq⟩, hg, tp, fl⟩ := id hv
  have hs := hg.1.1.sh hta rs
  have v : ∀ j, j < 6 → vp_in (nI (6 * c) + nI j) L := fun j hj => by rw [nI_add]; exact vp_in_nI (by omega) (by omega)
  refine xrun_step fun K hK => ?_
  refine And.intro (v 1 (by omega)) ?_
  refine And.intro (v 2 (by omega)) ?_
  refine ctr_at ct_X11_stored_0 (by decide) l _ I J [.ref 0, .int _, .int _] _ ⟨by decide, inI_fr _, inI_fr _, trivial⟩ (fun e he => by cases he) hs hi hq ?_
  intro v1 sh1 I1 J1 g1 w1 i1 q1 f1 p1
  obtain ⟨r1, rfl⟩ := int_post (by decide) p1
  have s1 := w1 rfl
  subst s1
  refine And.intro (v 1 (by omega)) ?_
  refine And.intro (v 2 (by omega)) ?_
  refine ctr_at ct_X12_stored_0 (by decide) l _ I1 J1 [.ref 67, .int _, .int _] _ ⟨by decide, inI_fr _, inI_fr _, trivial⟩ (fun e he => by cases he) hs i1 q1 ?_
  intro v2 sh2 I2 J2 g2 w2 i2 q2 f2 p2
  obtain ⟨r2, rfl⟩ := int_post (by decide) p2
  have s2 := w2 rfl
  subst s2
  exact hK 1403 (lloc c) [] _ I2 J2 99 18232 (hn _ I2 J2 (lin2.ask hta hg tp fl f1 f2 (by decide) (by decide) i2 q2))
set_option maxRecDepth 100000 in
set_option maxHeartbeats 1000000 in
theorem law_c23 (l : Launch) (L : Nat) (xs : Nat → Int32) (n c : Nat) (hc : 6 * c + 6 ≤ L) (hL : L ≤ 3072) (sh : List XO) (I : XI) (J : XJ) (hv : lin2 sh I) (hn : ∀ (sh' : List XO) (I' : XI) (J' : XJ), lin2 sh' I' → lrun l L xs n 1403 (lloc c) [] sh' I' J' 99 18232) : lrun l L xs (n + 1) 885 (lloc c) [] sh I J 99 18232 := by
  obtain ⟨TX, H, Hi, ta, rs, ⟨rfl, hta⟩, ⟨hi, hq⟩, hg, tp, fl⟩ := id hv
  have hs := hg.1.1.sh hta rs
  have v : ∀ j, j < 6 → vp_in (nI (6 * c) + nI j) L := fun j hj => by rw [nI_add]; exact vp_in_nI (by omega) (by omega)
  refine xrun_step fun K hK => ?_
  refine And.intro (v 1 (by omega)) ?_
  refine And.intro (v 2 (by omega)) ?_
  refine And.intro (v 3 (by omega)) ?_
  refine And.intro (v 4 (by omega)) ?_
  refine cd_most l 1387 (ruO (hvR H)) ta rs I J _ (lwO TX (hvR H)) (hvA H) hg.1.1.1 hg.ca (xs (nI (6 * c) + nI 1).toNatClampNeg) (xs (nI (6 * c) + nI 2).toNatClampNeg) (xs (nI (6 * c) + nI 3).toNatClampNeg) (xs (nI (6 * c) + nI 4).toNatClampNeg) (fun I1 J1 f1 => ?_)
  refine And.intro (v 1 (by omega)) ?_
  refine And.intro (v 2 (by omega)) ?_
  refine And.intro (v 3 (by omega)) ?_
  refine And.intro (v 4 (by omega)) ?_
  refine md_most l 1384 (ruO (hvR H)) ta rs I1 J1 _ (lwO TX (hvR H)) (hvA H) hg.1.1.1 (hg.ma.fm f1) (xs (nI (6 * c) + nI 1).toNatClampNeg) (xs (nI (6 * c) + nI 2).toNatClampNeg) (xs (nI (6 * c) + nI 3).toNatClampNeg) (xs (nI (6 * c) + nI 4).toNatClampNeg) (fun I2 J2 f2 => ?_)
  exact And.intro (fun _ => hK 1403 (lloc c) [] _ I2 J2 99 18232 (hn _ I2 J2 (lin2.srcm hta hi hq hg tp fl f1 f2))) (fun g => absurd rfl g)
set_option maxRecDepth 100000 in
set_option maxHeartbeats 1000000 in
theorem law_c24 (l : Launch) (L : Nat) (xs : Nat → Int32) (n c : Nat) (hc : 6 * c + 6 ≤ L) (hL : L ≤ 3072) (sh : List XO) (I : XI) (J : XJ) (hv : lin2 sh I) (hn : ∀ (sh' : List XO) (I' : XI) (J' : XJ), lin2 sh' I' → lrun l L xs n 1403 (lloc c) [] sh' I' J' 99 18232) : lrun l L xs (n + 1) 938 (lloc c) [] sh I J 99 18232 := by
  obtain ⟨TX, H, Hi, ta, rs, ⟨rfl, hta⟩, ⟨hi, hq⟩, hg, tp, fl⟩ := id hv
  have hs := hg.1.1.sh hta rs
  have v : ∀ j, j < 6 → vp_in (nI (6 * c) + nI j) L := fun j hj => by rw [nI_add]; exact vp_in_nI (by omega) (by omega)
  refine xrun_step fun K hK => ?_
  refine And.intro (v 1 (by omega)) ?_
  refine And.intro (v 2 (by omega)) ?_
  have eu : I 0 7 = nI (hvU H) := hg.2.2.1.2.2.2.1
  have e6 : I 68 6 = nI (hvU H) := hg.2.2.2.2.1.1.2.2.2.1
  have u8 := hg.1.1.2.2.2
  refine cd_need l 1397 (ruO (hvR H)) ta rs I J _ (hvU H) u8 eu (xs (nI (6 * c) + nI 1).toNatClampNeg) (xs (nI (6 * c) + nI 2).toNatClampNeg) (fun d0 => ?_) (fun d0 k0 => ?_) (fun d0 k0 => ?_)
  · refine And.intro (v 1 (by omega)) (And.intro (v 2 (by omega)) ?_)
    refine md_need l 1397 (ruO (hvR H)) ta rs (uI I 0 7 0) J _ (hvU H) u8 e6 (xs (nI (6 * c) + nI 1).toNatClampNeg) (xs (nI (6 * c) + nI 2).toNatClampNeg) (fun _ => ?_) (fun g _ => absurd d0 g) (fun g _ => absurd d0 g)
    exact hK 1403 (lloc c) [] _ (uI (uI I 0 7 0) 68 6 0) J 99 18232 (hn _ (uI (uI I 0 7 0) 68 6 0) J (lin2.need_ (u := 0) (x := fun _ => 0) (y := fun _ => 0) hta hi hq hg tp fl (by omega) (fun q a _ _ b => by rw [uI_ne b, uI_ne a]) (fun j hj => by rw [uI_ne (by decide), uI_eq, upd_n hj]) (fun j hj _ => by rw [uI_eq, upd_n hj, uI_ne (by decide)]) (by rw [uI_ne (by decide), uI_rd]; rfl) (by rw [uI_rd]; rfl) (fun i hi => absurd hi (Nat.not_lt_zero i)) (fun i hi => absurd hi (Nat.not_lt_zero i))))
  · refine And.intro (v 1 (by omega)) (And.intro (v 2 (by omega)) ?_)
    have hu8 : hvU H < 8 := by
      simp only [Bool.and_eq_true, decide_eq_true_iff] at k0
      exact k0.2
    refine md_need l 1397 (ruO (hvR H)) ta rs (uI (uI (uI I 3 (hvU H) (xs (nI (6 * c) + nI 1).toNatClampNeg)) 4 (hvU H) (xs (nI (6 * c) + nI 2).toNatClampNeg)) 0 7 (nI (hvU H + 1))) J _ (hvU H) u8 e6 (xs (nI (6 * c) + nI 1).toNatClampNeg) (xs (nI (6 * c) + nI 2).toNatClampNeg) (fun g => absurd g d0) (fun _ _ => ?_) (fun _ g => absurd (k0.symm.trans g) (by decide))
    exact hK 1403 (lloc c) [] _ (uI (uI (uI (uI (uI (uI I 3 (hvU H) (xs (nI (6 * c) + nI 1).toNatClampNeg)) 4 (hvU H) (xs (nI (6 * c) + nI 2).toNatClampNeg)) 0 7 (nI (hvU H + 1))) 68 (42 + 2 * hvU H) (xs (nI (6 * c) + nI 1).toNatClampNeg)) 68 (43 + 2 * hvU H) (xs (nI (6 * c) + nI 2).toNatClampNeg)) 68 6 (nI (hvU H + 1))) J 99 18232 (hn _ (uI (uI (uI (uI (uI (uI I 3 (hvU H) (xs (nI (6 * c) + nI 1).toNatClampNeg)) 4 (hvU H) (xs (nI (6 * c) + nI 2).toNatClampNeg)) 0 7 (nI (hvU H + 1))) 68 (42 + 2 * hvU H) (xs (nI (6 * c) + nI 1).toNatClampNeg)) 68 (43 + 2 * hvU H) (xs (nI (6 * c) + nI 2).toNatClampNeg)) 68 6 (nI (hvU H + 1))) J (need_more hta hi hq hg tp fl hu8 (xs (nI (6 * c) + nI 1).toNatClampNeg) (xs (nI (6 * c) + nI 2).toNatClampNeg)))
  · refine And.intro (v 1 (by omega)) (And.intro (v 2 (by omega)) ?_)
    refine md_need l 1397 (ruO (hvR H)) ta rs I J _ (hvU H) u8 e6 (xs (nI (6 * c) + nI 1).toNatClampNeg) (xs (nI (6 * c) + nI 2).toNatClampNeg) (fun g => absurd g d0) (fun _ g => absurd (k0.symm.trans g) (by decide)) (fun _ _ => ?_)
    exact hK 1403 (lloc c) [] _ I J 99 18232 (hn _ I J (hv))
set_option maxRecDepth 100000 in
set_option maxHeartbeats 1000000 in
theorem law_c25 (l : Launch) (L : Nat) (xs : Nat → Int32) (n c : Nat) (hc : 6 * c + 6 ≤ L) (hL : L ≤ 3072) (sh : List XO) (I : XI) (J : XJ) (hv : lin2 sh I) (hn : ∀ (sh' : List XO) (I' : XI) (J' : XJ), lin2 sh' I' → lrun l L xs n 1403 (lloc c) [] sh' I' J' 99 18232) : lrun l L xs (n + 1) 971 (lloc c) [] sh I J 99 18232 := by
  obtain ⟨TX, H, Hi, ta, rs, ⟨rfl, hta⟩, ⟨hi, hq⟩, hg, tp, fl⟩ := id hv
  have hs := hg.1.1.sh hta rs
  have v : ∀ j, j < 6 → vp_in (nI (6 * c) + nI j) L := fun j hj => by rw [nI_add]; exact vp_in_nI (by omega) (by omega)
  refine xrun_step fun K hK => ?_
  refine And.intro (v 1 (by omega)) ?_
  refine ctr_at ct_X11_unmet_0 (by decide) l _ I J [.ref 0, .int _] _ ⟨by decide, inI_fr _, trivial⟩ (fun e he => by cases he) hs hi hq ?_
  intro v1 sh1 I1 J1 g1 w1 i1 q1 f1 p1
  obtain ⟨r1, rfl⟩ := int_post (by decide) p1
  have s1 := w1 rfl
  subst s1
  refine And.intro (v 1 (by omega)) ?_
  refine ctr_at ct_X12_unmet_0 (by decide) l _ I1 J1 [.ref 67, .int _] _ ⟨by decide, inI_fr _, trivial⟩ (fun e he => by cases he) hs i1 q1 ?_
  intro v2 sh2 I2 J2 g2 w2 i2 q2 f2 p2
  obtain ⟨r2, rfl⟩ := int_post (by decide) p2
  have s2 := w2 rfl
  subst s2
  exact hK 1403 (lloc c) [] _ I2 J2 99 18232 (hn _ I2 J2 (lin2.ask hta hg tp fl f1 f2 (by decide) (by decide) i2 q2))
set_option maxRecDepth 100000 in
set_option maxHeartbeats 1000000 in
theorem law_c26 (l : Launch) (L : Nat) (xs : Nat → Int32) (n c : Nat) (hc : 6 * c + 6 ≤ L) (hL : L ≤ 3072) (sh : List XO) (I : XI) (J : XJ) (hv : lin2 sh I) (hn : ∀ (sh' : List XO) (I' : XI) (J' : XJ), lin2 sh' I' → lrun l L xs n 1403 (lloc c) [] sh' I' J' 99 18232) : lrun l L xs (n + 1) 994 (lloc c) [] sh I J 99 18232 := by
  obtain ⟨TX, H, Hi, ta, rs, ⟨rfl, hta⟩, ⟨hi, hq⟩, hg, tp, fl⟩ := id hv
  have hs := hg.1.1.sh hta rs
  have v : ∀ j, j < 6 → vp_in (nI (6 * c) + nI j) L := fun j hj => by rw [nI_add]; exact vp_in_nI (by omega) (by omega)
  refine xrun_step fun K hK => ?_
  refine And.intro (v 1 (by omega)) ?_
  refine And.intro (v 2 (by omega)) ?_
  refine ctr_at ct_X11_enough_0 (by decide) l _ I J [.ref 0, .int _, .int _] _ ⟨by decide, inI_fr _, inI_fr _, trivial⟩ (fun e he => by cases he) hs hi hq ?_
  intro v1 sh1 I1 J1 g1 w1 i1 q1 f1 p1
  obtain ⟨r1, rfl⟩ := int_post (by decide) p1
  have s1 := w1 rfl
  subst s1
  refine And.intro (v 1 (by omega)) ?_
  refine And.intro (v 2 (by omega)) ?_
  refine ctr_at ct_X12_enough_0 (by decide) l _ I1 J1 [.ref 67, .int _, .int _] _ ⟨by decide, inI_fr _, inI_fr _, trivial⟩ (fun e he => by cases he) hs i1 q1 ?_
  intro v2 sh2 I2 J2 g2 w2 i2 q2 f2 p2
  obtain ⟨r2, rfl⟩ := int_post (by decide) p2
  have s2 := w2 rfl
  subst s2
  exact hK 1403 (lloc c) [] _ I2 J2 99 18232 (hn _ I2 J2 (lin2.ask hta hg tp fl f1 f2 (by decide) (by decide) i2 q2))
set_option maxRecDepth 100000 in
set_option maxHeartbeats 1000000 in
theorem law_c27 (l : Launch) (L : Nat) (xs : Nat → Int32) (n c : Nat) (hc : 6 * c + 6 ≤ L) (hL : L ≤ 3072) (sh : List XO) (I : XI) (J : XJ) (hv : lin2 sh I) (hn : ∀ (sh' : List XO) (I' : XI) (J' : XJ), lin2 sh' I' → lrun l L xs n 1403 (lloc c) [] sh' I' J' 99 18232) : lrun l L xs (n + 1) 1027 (lloc c) [] sh I J 99 18232 := by
  obtain ⟨TX, H, Hi, ta, rs, ⟨rfl, hta⟩, ⟨hi, hq⟩, hg, tp, fl⟩ := id hv
  have hs := hg.1.1.sh hta rs
  have v : ∀ j, j < 6 → vp_in (nI (6 * c) + nI j) L := fun j hj => by rw [nI_add]; exact vp_in_nI (by omega) (by omega)
  refine xrun_step fun K hK => ?_
  refine And.intro (v 1 (by omega)) ?_
  refine And.intro (v 2 (by omega)) ?_
  refine And.intro (v 3 (by omega)) ?_
  refine And.intro (v 4 (by omega)) ?_
  refine ctr_at ct_X11_over_0 (by decide) l _ I J [.ref 0, .int _, .int _, .int _, .int _] _ ⟨by decide, inI_fr _, inI_fr _, inI_fr _, inI_fr _, trivial⟩ (fun e he => by cases he) hs hi hq ?_
  intro v1 sh1 I1 J1 g1 w1 i1 q1 f1 p1
  obtain ⟨r1, rfl⟩ := int_post (by decide) p1
  have s1 := w1 rfl
  subst s1
  refine And.intro (v 1 (by omega)) ?_
  refine And.intro (v 2 (by omega)) ?_
  refine And.intro (v 3 (by omega)) ?_
  refine And.intro (v 4 (by omega)) ?_
  refine ctr_at ct_X12_over_0 (by decide) l _ I1 J1 [.ref 67, .int _, .int _, .int _, .int _] _ ⟨by decide, inI_fr _, inI_fr _, inI_fr _, inI_fr _, trivial⟩ (fun e he => by cases he) hs i1 q1 ?_
  intro v2 sh2 I2 J2 g2 w2 i2 q2 f2 p2
  obtain ⟨r2, rfl⟩ := int_post (by decide) p2
  have s2 := w2 rfl
  subst s2
  exact hK 1403 (lloc c) [] _ I2 J2 99 18232 (hn _ I2 J2 (lin2.ask hta hg tp fl f1 f2 (by decide) (by decide) i2 q2))
set_option maxRecDepth 100000 in
set_option maxHeartbeats 1000000 in
theorem law_c28 (l : Launch) (L : Nat) (xs : Nat → Int32) (n c : Nat) (hc : 6 * c + 6 ≤ L) (hL : L ≤ 3072) (sh : List XO) (I : XI) (J : XJ) (hv : lin2 sh I) (hn : ∀ (sh' : List XO) (I' : XI) (J' : XJ), lin2 sh' I' → lrun l L xs n 1403 (lloc c) [] sh' I' J' 99 18232) : lrun l L xs (n + 1) 1080 (lloc c) [] sh I J 99 18232 := by
  obtain ⟨TX, H, Hi, ta, rs, ⟨rfl, hta⟩, ⟨hi, hq⟩, hg, tp, fl⟩ := id hv
  have hs := hg.1.1.sh hta rs
  have v : ∀ j, j < 6 → vp_in (nI (6 * c) + nI j) L := fun j hj => by rw [nI_add]; exact vp_in_nI (by omega) (by omega)
  refine xrun_step fun K hK => ?_
  refine And.intro (v 1 (by omega)) ?_
  refine And.intro (v 2 (by omega)) ?_
  refine And.intro (v 3 (by omega)) ?_
  refine ctr_at ct_X11_whose_0 (by decide) l _ I J [.ref 0, .int _, .int _, .int _] _ ⟨by decide, inI_fr _, inI_fr _, inI_fr _, trivial⟩ (fun e he => by cases he) hs hi hq ?_
  intro v1 sh1 I1 J1 g1 w1 i1 q1 f1 p1
  obtain ⟨r1, rfl⟩ := int_post (by decide) p1
  have s1 := w1 rfl
  subst s1
  refine And.intro (v 1 (by omega)) ?_
  refine And.intro (v 2 (by omega)) ?_
  refine And.intro (v 3 (by omega)) ?_
  refine ctr_at ct_X12_whose_0 (by decide) l _ I1 J1 [.ref 67, .int _, .int _, .int _] _ ⟨by decide, inI_fr _, inI_fr _, inI_fr _, trivial⟩ (fun e he => by cases he) hs i1 q1 ?_
  intro v2 sh2 I2 J2 g2 w2 i2 q2 f2 p2
  obtain ⟨r2, rfl⟩ := int_post (by decide) p2
  have s2 := w2 rfl
  subst s2
  exact hK 1403 (lloc c) [] _ I2 J2 99 18232 (hn _ I2 J2 (lin2.ask hta hg tp fl f1 f2 (by decide) (by decide) i2 q2))
set_option maxRecDepth 100000 in
set_option maxHeartbeats 1000000 in
theorem law_c29 (l : Launch) (L : Nat) (xs : Nat → Int32) (n c : Nat) (hc : 6 * c + 6 ≤ L) (hL : L ≤ 3072) (sh : List XO) (I : XI) (J : XJ) (hv : lin2 sh I) (hn : ∀ (sh' : List XO) (I' : XI) (J' : XJ), lin2 sh' I' → lrun l L xs n 1403 (lloc c) [] sh' I' J' 99 18232) : lrun l L xs (n + 1) 1123 (lloc c) [] sh I J 99 18232 := by
  obtain ⟨TX, H, Hi, ta, rs, ⟨rfl, hta⟩, ⟨hi, hq⟩, hg, tp, fl⟩ := id hv
  have hs := hg.1.1.sh hta rs
  have v : ∀ j, j < 6 → vp_in (nI (6 * c) + nI j) L := fun j hj => by rw [nI_add]; exact vp_in_nI (by omega) (by omega)
  refine xrun_step fun K hK => ?_
  refine And.intro (v 1 (by omega)) ?_
  refine And.intro (v 2 (by omega)) ?_
  refine And.intro (v 3 (by omega)) ?_
  refine ctr_at ct_X11_at_0 (by decide) l _ I J [.ref 0, .int _, .int _, .int _] _ ⟨by decide, inI_fr _, inI_fr _, inI_fr _, trivial⟩ (fun e he => by cases he) hs hi hq ?_
  intro v1 sh1 I1 J1 g1 w1 i1 q1 f1 p1
  obtain ⟨r1, rfl⟩ := int_post (by decide) p1
  have s1 := w1 rfl
  subst s1
  refine And.intro (v 1 (by omega)) ?_
  refine And.intro (v 2 (by omega)) ?_
  refine And.intro (v 3 (by omega)) ?_
  refine ctr_at ct_X12_at_0 (by decide) l _ I1 J1 [.ref 67, .int _, .int _, .int _] _ ⟨by decide, inI_fr _, inI_fr _, inI_fr _, trivial⟩ (fun e he => by cases he) hs i1 q1 ?_
  intro v2 sh2 I2 J2 g2 w2 i2 q2 f2 p2
  obtain ⟨r2, rfl⟩ := int_post (by decide) p2
  have s2 := w2 rfl
  subst s2
  exact hK 1403 (lloc c) [] _ I2 J2 99 18232 (hn _ I2 J2 (lin2.ask hta hg tp fl f1 f2 (by decide) (by decide) i2 q2))
set_option maxRecDepth 100000 in
set_option maxHeartbeats 1000000 in
theorem law_c30 (l : Launch) (L : Nat) (xs : Nat → Int32) (n c : Nat) (hc : 6 * c + 6 ≤ L) (hL : L ≤ 3072) (sh : List XO) (I : XI) (J : XJ) (hv : lin2 sh I) (hn : ∀ (sh' : List XO) (I' : XI) (J' : XJ), lin2 sh' I' → lrun l L xs n 1403 (lloc c) [] sh' I' J' 99 18232) : lrun l L xs (n + 1) 1166 (lloc c) [] sh I J 99 18232 := by
  obtain ⟨TX, H, Hi, ta, rs, ⟨rfl, hta⟩, ⟨hi, hq⟩, hg, tp, fl⟩ := id hv
  have hs := hg.1.1.sh hta rs
  have v : ∀ j, j < 6 → vp_in (nI (6 * c) + nI j) L := fun j hj => by rw [nI_add]; exact vp_in_nI (by omega) (by omega)
  refine xrun_step fun K hK => ?_
  refine And.intro (v 1 (by omega)) ?_
  refine And.intro (v 2 (by omega)) ?_
  refine And.intro (v 3 (by omega)) ?_
  refine And.intro (v 4 (by omega)) ?_
  refine ctr_at ct_X11_leave_0 (by decide) l _ I J [.ref 0, .int _, .int _, .int _, .int _] _ ⟨by decide, inI_fr _, inI_fr _, inI_fr _, inI_fr _, trivial⟩ (fun e he => by cases he) hs hi hq ?_
  intro v1 sh1 I1 J1 g1 w1 i1 q1 f1 p1
  obtain ⟨r1, rfl⟩ := int_post (by decide) p1
  have s1 := w1 rfl
  subst s1
  refine And.intro (v 1 (by omega)) ?_
  refine And.intro (v 2 (by omega)) ?_
  refine And.intro (v 3 (by omega)) ?_
  refine And.intro (v 4 (by omega)) ?_
  refine ctr_at ct_X12_leave_0 (by decide) l _ I1 J1 [.ref 67, .int _, .int _, .int _, .int _] _ ⟨by decide, inI_fr _, inI_fr _, inI_fr _, inI_fr _, trivial⟩ (fun e he => by cases he) hs i1 q1 ?_
  intro v2 sh2 I2 J2 g2 w2 i2 q2 f2 p2
  obtain ⟨r2, rfl⟩ := int_post (by decide) p2
  have s2 := w2 rfl
  subst s2
  exact hK 1403 (lloc c) [] _ I2 J2 99 18232 (hn _ I2 J2 (lin2.ask hta hg tp fl f1 f2 (by decide) (by decide) i2 q2))
set_option maxRecDepth 100000 in
set_option maxHeartbeats 1000000 in
theorem law_c31 (l : Launch) (L : Nat) (xs : Nat → Int32) (n c : Nat) (hc : 6 * c + 6 ≤ L) (hL : L ≤ 3072) (sh : List XO) (I : XI) (J : XJ) (hv : lin2 sh I) (hn : ∀ (sh' : List XO) (I' : XI) (J' : XJ), lin2 sh' I' → lrun l L xs n 1403 (lloc c) [] sh' I' J' 99 18232) : lrun l L xs (n + 1) 1219 (lloc c) [] sh I J 99 18232 := by
  obtain ⟨TX, H, Hi, ta, rs, ⟨rfl, hta⟩, ⟨hi, hq⟩, hg, tp, fl⟩ := id hv
  have hs := hg.1.1.sh hta rs
  have v : ∀ j, j < 6 → vp_in (nI (6 * c) + nI j) L := fun j hj => by rw [nI_add]; exact vp_in_nI (by omega) (by omega)
  refine xrun_step fun K hK => ?_
  refine And.intro (v 1 (by omega)) ?_
  refine And.intro (v 2 (by omega)) ?_
  refine ctr_at ct_X11_packed_0 (by decide) l _ I J [.ref 0, .int _, .int _] _ ⟨by decide, inI_fr _, inI_fr _, trivial⟩ (fun e he => by cases he) hs hi hq ?_
  intro v1 sh1 I1 J1 g1 w1 i1 q1 f1 p1
  obtain ⟨r1, rfl⟩ := int_post (by decide) p1
  have s1 := w1 rfl
  subst s1
  refine And.intro (v 1 (by omega)) ?_
  refine And.intro (v 2 (by omega)) ?_
  refine ctr_at ct_X12_packed_0 (by decide) l _ I1 J1 [.ref 67, .int _, .int _] _ ⟨by decide, inI_fr _, inI_fr _, trivial⟩ (fun e he => by cases he) hs i1 q1 ?_
  intro v2 sh2 I2 J2 g2 w2 i2 q2 f2 p2
  obtain ⟨r2, rfl⟩ := int_post (by decide) p2
  have s2 := w2 rfl
  subst s2
  exact hK 1403 (lloc c) [] _ I2 J2 99 18232 (hn _ I2 J2 (lin2.ask hta hg tp fl f1 f2 (by decide) (by decide) i2 q2))
set_option maxRecDepth 100000 in
set_option maxHeartbeats 1000000 in
theorem law_c32 (l : Launch) (L : Nat) (xs : Nat → Int32) (n c : Nat) (hc : 6 * c + 6 ≤ L) (hL : L ≤ 3072) (sh : List XO) (I : XI) (J : XJ) (hv : lin2 sh I) (hn : ∀ (sh' : List XO) (I' : XI) (J' : XJ), lin2 sh' I' → lrun l L xs n 1403 (lloc c) [] sh' I' J' 99 18232) : lrun l L xs (n + 1) 1252 (lloc c) [] sh I J 99 18232 := by
  obtain ⟨TX, H, Hi, ta, rs, ⟨rfl, hta⟩, ⟨hi, hq⟩, hg, tp, fl⟩ := id hv
  have hs := hg.1.1.sh hta rs
  have v : ∀ j, j < 6 → vp_in (nI (6 * c) + nI j) L := fun j hj => by rw [nI_add]; exact vp_in_nI (by omega) (by omega)
  refine xrun_step fun K hK => ?_
  refine And.intro (v 1 (by omega)) ?_
  refine And.intro (v 2 (by omega)) ?_
  refine And.intro (v 3 (by omega)) ?_
  refine ctr_at ct_X11_when_0 (by decide) l _ I J [.ref 0, .int _, .int _, .int _] _ ⟨by decide, inI_fr _, inI_fr _, inI_fr _, trivial⟩ (fun e he => by cases he) hs hi hq ?_
  intro v1 sh1 I1 J1 g1 w1 i1 q1 f1 p1
  obtain ⟨r1, rfl⟩ := int_post (by decide) p1
  have s1 := w1 rfl
  subst s1
  refine And.intro (v 1 (by omega)) ?_
  refine And.intro (v 2 (by omega)) ?_
  refine And.intro (v 3 (by omega)) ?_
  refine ctr_at ct_X12_when_0 (by decide) l _ I1 J1 [.ref 67, .int _, .int _, .int _] _ ⟨by decide, inI_fr _, inI_fr _, inI_fr _, trivial⟩ (fun e he => by cases he) hs i1 q1 ?_
  intro v2 sh2 I2 J2 g2 w2 i2 q2 f2 p2
  obtain ⟨r2, rfl⟩ := int_post (by decide) p2
  have s2 := w2 rfl
  subst s2
  exact hK 1403 (lloc c) [] _ I2 J2 99 18232 (hn _ I2 J2 (lin2.ask hta hg tp fl f1 f2 (by decide) (by decide) i2 q2))
set_option maxRecDepth 100000 in
set_option maxHeartbeats 1000000 in
theorem law_c33 (l : Launch) (L : Nat) (xs : Nat → Int32) (n c : Nat) (hc : 6 * c + 6 ≤ L) (hL : L ≤ 3072) (sh : List XO) (I : XI) (J : XJ) (hv : lin2 sh I) (hn : ∀ (sh' : List XO) (I' : XI) (J' : XJ), lin2 sh' I' → lrun l L xs n 1403 (lloc c) [] sh' I' J' 99 18232) : lrun l L xs (n + 1) 1295 (lloc c) [] sh I J 99 18232 := by
  obtain ⟨TX, H, Hi, ta, rs, ⟨rfl, hta⟩, ⟨hi, hq⟩, hg, tp, fl⟩ := id hv
  have hs := hg.1.1.sh hta rs
  have v : ∀ j, j < 6 → vp_in (nI (6 * c) + nI j) L := fun j hj => by rw [nI_add]; exact vp_in_nI (by omega) (by omega)
  refine xrun_step fun K hK => ?_
  refine And.intro (v 1 (by omega)) (And.intro (v 2 (by omega)) (And.intro (v 3 (by omega)) (And.intro (fun h => ?_) (fun h => ?_))))
  · refine ctr_at ct_X11_hail_0 (by decide) l _ I J [.ref 0, .int _, .int _, .int 0] _ ⟨by decide, inI_fr _, inI_fr _, ⟨by decide, by decide⟩, trivial⟩ (fun e he => by cases he) hs hi hq ?_
    intro v1 sh1 I1 J1 g1 w1 i1 q1 f1 p1
    obtain ⟨r1, rfl⟩ := int_post (by decide) p1
    have s1 := w1 rfl
    subst s1
    refine And.intro (v 1 (by omega)) (And.intro (v 2 (by omega)) (And.intro (v 3 (by omega)) (And.intro (fun _ => ?_) (fun g => absurd h g))))
    refine ctr_at ct_X12_hail_0 (by decide) l _ I1 J1 [.ref 67, .int _, .int _, .int 0] _ ⟨by decide, inI_fr _, inI_fr _, ⟨by decide, by decide⟩, trivial⟩ (fun e he => by cases he) hs i1 q1 ?_
    intro v2 sh2 I2 J2 g2 w2 i2 q2 f2 p2
    obtain ⟨r2, rfl⟩ := int_post (by decide) p2
    have s2 := w2 rfl
    subst s2
    exact hK 1403 (lloc c) [] _ I2 J2 99 18232 (hn _ I2 J2 (lin2.ask hta hg tp fl f1 f2 (by decide) (by decide) i2 q2))
  · refine ctr_at ct_X11_hail_0 (by decide) l _ I J [.ref 0, .int _, .int _, .int 1] _ ⟨by decide, inI_fr _, inI_fr _, ⟨by decide, by decide⟩, trivial⟩ (fun e he => by cases he) hs hi hq ?_
    intro v1 sh1 I1 J1 g1 w1 i1 q1 f1 p1
    obtain ⟨r1, rfl⟩ := int_post (by decide) p1
    have s1 := w1 rfl
    subst s1
    refine And.intro (v 1 (by omega)) (And.intro (v 2 (by omega)) (And.intro (v 3 (by omega)) (And.intro (fun g => absurd g h) (fun _ => ?_))))
    refine ctr_at ct_X12_hail_0 (by decide) l _ I1 J1 [.ref 67, .int _, .int _, .int 1] _ ⟨by decide, inI_fr _, inI_fr _, ⟨by decide, by decide⟩, trivial⟩ (fun e he => by cases he) hs i1 q1 ?_
    intro v2 sh2 I2 J2 g2 w2 i2 q2 f2 p2
    obtain ⟨r2, rfl⟩ := int_post (by decide) p2
    have s2 := w2 rfl
    subst s2
    exact hK 1403 (lloc c) [] _ I2 J2 99 18232 (hn _ I2 J2 (lin2.ask hta hg tp fl f1 f2 (by decide) (by decide) i2 q2))
set_option maxRecDepth 100000 in
set_option maxHeartbeats 1000000 in
theorem law_c34 (l : Launch) (L : Nat) (xs : Nat → Int32) (n c : Nat) (hc : 6 * c + 6 ≤ L) (hL : L ≤ 3072) (sh : List XO) (I : XI) (J : XJ) (hv : lin2 sh I) (hn : ∀ (sh' : List XO) (I' : XI) (J' : XJ), lin2 sh' I' → lrun l L xs n 1403 (lloc c) [] sh' I' J' 99 18232) : lrun l L xs (n + 1) 1354 (lloc c) [] sh I J 99 18232 := by
  obtain ⟨TX, H, Hi, ta, rs, ⟨rfl, hta⟩, ⟨hi, hq⟩, hg, tp, fl⟩ := id hv
  have hs := hg.1.1.sh hta rs
  have v : ∀ j, j < 6 → vp_in (nI (6 * c) + nI j) L := fun j hj => by rw [nI_add]; exact vp_in_nI (by omega) (by omega)
  refine xrun_step fun K hK => ?_
  have e65 : I 27 65 = I 68 125 := (hg.2.2.1.1.2.1.hi (by decide) (by decide)).trans (hg.2.2.2.2.1.1.1.2.1 65 (by decide)).symm
  refine cd_image l 1396 (ruO (hvR H)) ta rs I J _ ?_
  refine md_image l 1397 (ruO (hvR H)) ta rs (gKp I) J _ ?_
  exact hK 1403 (lloc c) [] _ (cI (gKp I) 68 69 0 0 2200) J 99 18232 (hn _ (cI (gKp I) 68 69 0 0 2200) J (lin2.image_ hta hi hq hg tp fl))
set_option maxRecDepth 100000 in
set_option maxHeartbeats 1000000 in
theorem law_c35 (l : Launch) (L : Nat) (xs : Nat → Int32) (n c : Nat) (hc : 6 * c + 6 ≤ L) (hL : L ≤ 3072) (sh : List XO) (I : XI) (J : XJ) (hv : lin2 sh I) (hn : ∀ (sh' : List XO) (I' : XI) (J' : XJ), lin2 sh' I' → lrun l L xs n 1403 (lloc c) [] sh' I' J' 99 18232) : lrun l L xs (n + 1) 1367 (lloc c) [] sh I J 99 18232 := by
  obtain ⟨TX, H, Hi, ta, rs, ⟨rfl, hta⟩, ⟨hi, hq⟩, hg, tp, fl⟩ := id hv
  have hs := hg.1.1.sh hta rs
  have v : ∀ j, j < 6 → vp_in (nI (6 * c) + nI j) L := fun j hj => by rw [nI_add]; exact vp_in_nI (by omega) (by omega)
  refine xrun_step fun K hK => ?_
  have e65 : I 7 65 = I 69 125 := (hg.2.2.2.1.1.2.1.hi (by decide) (by decide)).trans (hg.2.2.2.2.2.1.2.1 65 (by decide)).symm
  refine cd_back l 1395 (ruO (hvR H)) ta rs I J _ (hvR Hi) hg.1.2.1.ru hg.2.2.2.1.2.1 ?_
  refine md_back l 1397 (ruO (hvR Hi)) ta rs (gBk I) J _ ?_
  exact hK 1403 (lloc c) [] _ (cI (gBk I) 69 68 0 0 2200) J 99 18232 (hn _ (cI (gBk I) 69 68 0 0 2200) J (lin2.back_ hta hi hq hg tp fl))
set_option maxRecDepth 100000 in
set_option maxHeartbeats 1000000 in
theorem law_c36 (l : Launch) (L : Nat) (xs : Nat → Int32) (n c : Nat) (hc : 6 * c + 6 ≤ L) (hL : L ≤ 3072) (sh : List XO) (I : XI) (J : XJ) (hv : lin2 sh I) (hn : ∀ (sh' : List XO) (I' : XI) (J' : XJ), lin2 sh' I' → lrun l L xs n 1403 (lloc c) [] sh' I' J' 99 18232) : lrun l L xs (n + 1) 1380 (lloc c) [] sh I J 99 18232 := by
  obtain ⟨TX, H, Hi, ta, rs, ⟨rfl, hta⟩, ⟨hi, hq⟩, hg, tp, fl⟩ := id hv
  have hs := hg.1.1.sh hta rs
  have v : ∀ j, j < 6 → vp_in (nI (6 * c) + nI j) L := fun j hj => by rw [nI_add]; exact vp_in_nI (by omega) (by omega)
  refine xrun_step fun K hK => ?_
  refine And.intro (v 1 (by omega)) ?_
  obtain ⟨r, hx, hm⟩ := about_two hg tp (xs (nI (6 * c) + nI 1).toNatClampNeg)
  refine hx l 1398 (ruO (hvR H)) ta rs J _ ?_
  refine And.intro (v 1 (by omega)) ?_
  refine hm l 1398 (ruO (hvR H)) ta rs J _ ?_
  exact hK 1403 (lloc c) [] _ I J 99 18232 (hn _ I J (hv))
set_option maxRecDepth 100000 in
set_option maxHeartbeats 1000000 in
theorem law_loop (l : Launch) (L : Nat) (xs : Nat → Int32) (hL : L ≤ 3072) : ∀ (m n c : Nat) (sh : List XO) (I : XI) (J : XJ), c + m = 513 → 3 * m < n → lin2 sh I → lrun l L xs n 18 (lloc c) [] sh I J 99 18232 := by
  intro m
  induction m with
  | zero =>
    intro n c sh I J hc hn hv
    obtain ⟨n, rfl⟩ : ∃ n', n = n' + 1 := ⟨n - 1, by omega⟩
    refine xrun_step fun K hK => ?_
    refine And.intro (fun _ => And.intro (Or.inr rfl) rfl) (fun h => ?_)
    exfalso
    refine h ?_
    show nI L - nI 6 < nI (6 * c)
    refine Int32.lt_iff_toInt_lt.mpr ?_
    rw [nI_toInt (show 6 * c < 2 ^ 31 by omega), i32_sub (by rw [nI_toInt (by omega), nI_toInt (by omega)]; omega) (by rw [nI_toInt (by omega), nI_toInt (by omega)]; omega), nI_toInt (by omega), nI_toInt (by omega)]
    omega
  | succ m ih =>
    intro n c sh I J hc hn hv
    obtain ⟨n, rfl⟩ : ∃ n', n = n' + 1 + 1 + 1 := ⟨n - 3, by omega⟩
    have hx : ∀ (sh' : List XO) (I' : XI) (J' : XJ), lin2 sh' I' → lrun l L xs (n + 1) 1403 (lloc c) [] sh' I' J' 99 18232 := by
      intro sh' I' J' h'
      refine xrun_step fun K hK => ?_
      have e : nI (6 * c) + nI 6 = nI (6 * (c + 1)) := by rw [nI_add]; congr 1
      have y := ih n (c + 1) sh' I' J' (by omega) (by omega) h'
      have z := hK 18 (lloc (c + 1)) [] sh' I' J' 99 18232 y
      unfold lloc at z
      rw [← e] at z
      exact z
    have hd : ∀ (sh' : List XO) (I' : XI) (J' : XJ), lin2 sh' I' → lrun l L xs (n + 1 + 1) 1403 (lloc c) [] sh' I' J' 99 18232 := by
      intro sh' I' J' h'
      refine xrun_step fun K hK => ?_
      have e : nI (6 * c) + nI 6 = nI (6 * (c + 1)) := by rw [nI_add]; congr 1
      have y := ih (n + 1) (c + 1) sh' I' J' (by omega) (by omega) h'
      have z := hK 18 (lloc (c + 1)) [] sh' I' J' 99 18232 y
      unfold lloc at z
      rw [← e] at z
      exact z
    refine xrun_step fun K hK => ?_
    refine And.intro (fun _ => And.intro (Or.inr rfl) rfl) (fun h => ?_)
    have h6 : 6 * c + 6 ≤ L := by
      have h2 : ¬ nI L - nI 6 < nI (6 * c) := h
      have h3 : ¬ (nI L - nI 6).toInt < (nI (6 * c)).toInt := fun z => h2 (Int32.lt_iff_toInt_lt.mpr z)
      rw [nI_toInt (show 6 * c < 2 ^ 31 by omega), i32_sub (by rw [nI_toInt (by omega), nI_toInt (by omega)]; omega) (by rw [nI_toInt (by omega), nI_toInt (by omega)]; omega), nI_toInt (by omega), nI_toInt (by omega)] at h3
      omega
    refine And.intro (vp_in_nI (by omega) (by omega)) ?_
    refine And.intro (fun _ => hK _ _ _ _ _ _ _ _ (law_c0 l L xs (n + 1) c h6 hL sh I J hv hx)) (fun _ => ?_)
    refine And.intro (fun _ => hK _ _ _ _ _ _ _ _ (law_c1 l L xs (n + 1) c h6 hL sh I J hv hx)) (fun _ => ?_)
    refine And.intro (fun _ => hK _ _ _ _ _ _ _ _ (law_c2 l L xs (n + 1) c h6 hL sh I J hv hx)) (fun _ => ?_)
    refine And.intro (fun _ => hK _ _ _ _ _ _ _ _ (law_c3 l L xs (n + 1) c h6 hL sh I J hv hx)) (fun _ => ?_)
    refine And.intro (fun _ => hK _ _ _ _ _ _ _ _ (law_c4 l L xs (n + 1) c h6 hL sh I J hv hx)) (fun _ => ?_)
    refine And.intro (fun _ => hK _ _ _ _ _ _ _ _ (law_c5 l L xs (n + 1) c h6 hL sh I J hv hx)) (fun _ => ?_)
    refine And.intro (fun _ => hK _ _ _ _ _ _ _ _ (law_c6 l L xs (n + 1) c h6 hL sh I J hv hx)) (fun _ => ?_)
    refine And.intro (fun _ => hK _ _ _ _ _ _ _ _ (law_c7 l L xs (n + 1) c h6 hL sh I J hv hx)) (fun _ => ?_)
    refine And.intro (fun _ => hK _ _ _ _ _ _ _ _ (law_c8 l L xs (n + 1) c h6 hL sh I J hv hx)) (fun _ => ?_)
    refine And.intro (fun _ => hK _ _ _ _ _ _ _ _ (law_c9 l L xs (n + 1) c h6 hL sh I J hv hx)) (fun _ => ?_)
    refine And.intro (fun _ => hK _ _ _ _ _ _ _ _ (law_c10 l L xs (n + 1) c h6 hL sh I J hv hx)) (fun _ => ?_)
    refine And.intro (fun _ => hK _ _ _ _ _ _ _ _ (law_c11 l L xs (n + 1) c h6 hL sh I J hv hx)) (fun _ => ?_)
    refine And.intro (fun _ => hK _ _ _ _ _ _ _ _ (law_c12 l L xs (n + 1) c h6 hL sh I J hv hx)) (fun _ => ?_)
    refine And.intro (fun _ => hK _ _ _ _ _ _ _ _ (law_c13 l L xs (n + 1) c h6 hL sh I J hv hx)) (fun _ => ?_)
    refine And.intro (fun _ => hK _ _ _ _ _ _ _ _ (law_c14 l L xs (n + 1) c h6 hL sh I J hv hx)) (fun _ => ?_)
    refine And.intro (fun _ => hK _ _ _ _ _ _ _ _ (law_c15 l L xs (n + 1) c h6 hL sh I J hv hx)) (fun _ => ?_)
    refine And.intro (fun _ => hK _ _ _ _ _ _ _ _ (law_c16 l L xs (n + 1) c h6 hL sh I J hv hx)) (fun _ => ?_)
    refine And.intro (fun _ => hK _ _ _ _ _ _ _ _ (law_c17 l L xs (n + 1) c h6 hL sh I J hv hx)) (fun _ => ?_)
    refine And.intro (fun _ => hK _ _ _ _ _ _ _ _ (law_c18 l L xs (n + 1) c h6 hL sh I J hv hx)) (fun _ => ?_)
    refine And.intro (fun _ => hK _ _ _ _ _ _ _ _ (law_c19 l L xs (n + 1) c h6 hL sh I J hv hx)) (fun _ => ?_)
    refine And.intro (fun _ => hK _ _ _ _ _ _ _ _ (law_c20 l L xs (n + 1) c h6 hL sh I J hv hx)) (fun _ => ?_)
    refine And.intro (fun _ => hK _ _ _ _ _ _ _ _ (law_c21 l L xs (n + 1) c h6 hL sh I J hv hx)) (fun _ => ?_)
    refine And.intro (fun _ => hK _ _ _ _ _ _ _ _ (law_c22 l L xs (n + 1) c h6 hL sh I J hv hx)) (fun _ => ?_)
    refine And.intro (fun _ => hK _ _ _ _ _ _ _ _ (law_c23 l L xs (n + 1) c h6 hL sh I J hv hx)) (fun _ => ?_)
    refine And.intro (fun _ => hK _ _ _ _ _ _ _ _ (law_c24 l L xs (n + 1) c h6 hL sh I J hv hx)) (fun _ => ?_)
    refine And.intro (fun _ => hK _ _ _ _ _ _ _ _ (law_c25 l L xs (n + 1) c h6 hL sh I J hv hx)) (fun _ => ?_)
    refine And.intro (fun _ => hK _ _ _ _ _ _ _ _ (law_c26 l L xs (n + 1) c h6 hL sh I J hv hx)) (fun _ => ?_)
    refine And.intro (fun _ => hK _ _ _ _ _ _ _ _ (law_c27 l L xs (n + 1) c h6 hL sh I J hv hx)) (fun _ => ?_)
    refine And.intro (fun _ => hK _ _ _ _ _ _ _ _ (law_c28 l L xs (n + 1) c h6 hL sh I J hv hx)) (fun _ => ?_)
    refine And.intro (fun _ => hK _ _ _ _ _ _ _ _ (law_c29 l L xs (n + 1) c h6 hL sh I J hv hx)) (fun _ => ?_)
    refine And.intro (fun _ => hK _ _ _ _ _ _ _ _ (law_c30 l L xs (n + 1) c h6 hL sh I J hv hx)) (fun _ => ?_)
    refine And.intro (fun _ => hK _ _ _ _ _ _ _ _ (law_c31 l L xs (n + 1) c h6 hL sh I J hv hx)) (fun _ => ?_)
    refine And.intro (fun _ => hK _ _ _ _ _ _ _ _ (law_c32 l L xs (n + 1) c h6 hL sh I J hv hx)) (fun _ => ?_)
    refine And.intro (fun _ => hK _ _ _ _ _ _ _ _ (law_c33 l L xs (n + 1) c h6 hL sh I J hv hx)) (fun _ => ?_)
    refine And.intro (fun _ => hK _ _ _ _ _ _ _ _ (law_c34 l L xs (n + 1) c h6 hL sh I J hv hx)) (fun _ => ?_)
    refine And.intro (fun _ => hK _ _ _ _ _ _ _ _ (law_c35 l L xs (n + 1) c h6 hL sh I J hv hx)) (fun _ => ?_)
    refine And.intro (fun _ => hK _ _ _ _ _ _ _ _ (law_c36 l L xs (n + 1) c h6 hL sh I J hv hx)) (fun _ => ?_)
    exact hK _ _ _ _ _ _ _ _ (hd sh I J hv)
set_option maxRecDepth 100000 in
set_option maxHeartbeats 4000000 in
theorem law_go (l : Launch) (L : Nat) (xs : Nat → Int32) (hL : L ≤ 3072) : lrun l L xs 1541 0 [some (.ref 900000), none, none, none] [] [] (fun _ _ => 0) (fun _ _ => 0) 0 0 := by
  refine xrun_step fun K hK => ?_
  refine ctor_x l 1395 _ ?_
  refine ctor_m l 1397 _ ?_
  exact hK 18 (lloc 0) [] shXM lI jM 99 18232 (law_loop l L xs hL 513 1540 0 shXM lI jM (by omega) (by omega) lin2_lI)
