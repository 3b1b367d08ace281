set_option maxRecDepth 100000 in
set_option maxHeartbeats 1000000 in
theorem law_c17 (l : Launch) (L : Nat) (xs : Nat → Int32) (n c : Nat) (hc : 6 * c + 6 ≤ L) (hL : L ≤ 3072) (sh : List XO) (I : XI) (J : XJ) (hv : lin2 sh I) (hn : ∀ (sh' : List XO) (I' : XI) (J' : XJ), lin2 sh' I' → lrun l L xs n 1403 (lloc c) [] sh' I' J' 99 18232) : lrun l L xs (n + 1) 687 (lloc c) [] sh I J 99 18232 := by
  obtain ⟨TX, H, Hi, ta, rs, ⟨rfl, hta⟩, ⟨hi, hq⟩, hg, tp, fl⟩ := id hv
  have hs := hg.1.1.sh hta rs
  have v : ∀ j, j < 6 → vp_in (nI (6 * c) + nI j) L := fun j hj => by rw [nI_add]; exact vp_in_nI (by omega) (by omega)
  refine xrun_step fun K hK => ?_
  refine And.intro (v 1 (by omega)) ?_
  refine And.intro (v 2 (by omega)) ?_
  refine cd_of l 1391 (ruO (hvR H)) ta rs I J _ (lwO TX (hvR H)) (hvA H) hg.1.1.1 hg.ca (xs (nI (6 * c) + nI 1).toNatClampNeg) (xs (nI (6 * c) + nI 2).toNatClampNeg) (fun I1 J1 fc c1 => ?_)
  refine And.intro (v 1 (by omega)) ?_
  refine And.intro (v 2 (by omega)) ?_
  refine md_of l 1389 (ruO (hvR H)) ta rs I1 J1 _ (lwO TX (hvR H)) (hvA H) hg.1.1.1 (hg.ma.fc fc) (xs (nI (6 * c) + nI 1).toNatClampNeg) (xs (nI (6 * c) + nI 2).toNatClampNeg) (fun I2 J2 fm m2 => ?_)
  exact hK 1403 (lloc c) [] _ I2 J2 99 18232 (hn _ I2 J2 (lin2.op hta hi hq hg tp fl hg.1.1.1 (Tle.rf _) fc c1 fm m2))
