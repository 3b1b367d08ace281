set_option maxRecDepth 100000 in
set_option maxHeartbeats 1000000 in
theorem law_c35 (l : Launch) (L : Nat) (xs : Nat → Int32) (n c : Nat) (hc : 6 * c + 6 ≤ L) (hL : L ≤ 3072) (sh : List XO) (I : XI) (J : XJ) (hv : lin2 sh I) (hn : ∀ (sh' : List XO) (I' : XI) (J' : XJ), lin2 sh' I' → lrun l L xs n 1403 (lloc c) [] sh' I' J' 99 18232) : lrun l L xs (n + 1) 1367 (lloc c) [] sh I J 99 18232 := by
  obtain ⟨TX, H, Hi, ta, rs, ⟨rfl, hta⟩, ⟨hi, hq⟩, hg, tp, fl⟩ := id hv
  have hs := hg.1.1.sh hta rs
  have v : ∀ j, j < 6 → vp_in (nI (6 * c) + nI j) L := fun j hj => by rw [nI_add]; exact vp_in_nI (by omega) (by omega)
  refine xrun_step fun K hK => ?_
  have e65 : I 7 65 = I 69 125 := (hg.2.2.2.1.1.2.1.hi (by decide) (by decide)).trans (hg.2.2.2.2.2.1.2.1 65 (by decide)).symm
  refine cd_back l 1395 (ruO (hvR H)) ta rs I J _ (hvR Hi) hg.1.2.1.ru hg.2.2.2.1.2.1 ?_
  refine md_back l 1397 (ruO (hvR Hi)) ta rs (gBk I) J _ ?_
  exact hK 1403 (lloc c) [] _ (cI (gBk I) 69 68 0 0 2200) J 99 18232 (hn _ (cI (gBk I) 69 68 0 0 2200) J (lin2.back_ hta hi hq hg tp fl))
