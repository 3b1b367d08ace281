set_option maxRecDepth 100000 in
set_option maxHeartbeats 1000000 in
theorem law_c16 (l : Launch) (L : Nat) (xs : Nat → Int32) (n c : Nat) (hc : 6 * c + 6 ≤ L) (hL : L ≤ 3072) (sh : List XO) (I : XI) (J : XJ) (hv : lin2 sh I) (hn : ∀ (sh' : List XO) (I' : XI) (J' : XJ), lin2 sh' I' → lrun l L xs n 1403 (lloc c) [] sh' I' J' 99 18232) : lrun l L xs (n + 1) 674 (lloc c) [] sh I J 99 18232 := by
  obtain ⟨TX, H, Hi, ta, rs, ⟨rfl, hta⟩, ⟨hi, hq⟩, hg, tp, fl⟩ := id hv
  have hs := hg.1.1.sh hta rs
  have v : ∀ j, j < 6 → vp_in (nI (6 * c) + nI j) L := fun j hj => by rw [nI_add]; exact vp_in_nI (by omega) (by omega)
  refine xrun_step fun K hK => ?_
  refine cd_undo l 1396 (ruO (hvR H)) ta rs I J _ (lwO TX (hvR H)) (hvA H) hg.1.1.1 hg.ca  (fun I1 fc c1 => ?_)
  refine md_undo l 1398 (ruO (hvR H)) ta rs I1 J _ (lwO TX (hvR H)) (hvA H) hg.1.1.1 (hg.ma.fc fc)  (fun I2 fm m2 => ?_)
  exact hK 1403 (lloc c) [] _ I2 J 99 18232 (hn _ I2 J (lin2.op hta hi hq hg tp fl (hg.1.1.1.undo) (Tle.eq q_undo) fc c1 fm m2))
