set_option maxRecDepth 100000 in
set_option maxHeartbeats 1000000 in
theorem law_c24 (l : Launch) (L : Nat) (xs : Nat → Int32) (n c : Nat) (hc : 6 * c + 6 ≤ L) (hL : L ≤ 3072) (sh : List XO) (I : XI) (J : XJ) (hv : lin2 sh I) (hn : ∀ (sh' : List XO) (I' : XI) (J' : XJ), lin2 sh' I' → lrun l L xs n 1403 (lloc c) [] sh' I' J' 99 18232) : lrun l L xs (n + 1) 938 (lloc c) [] sh I J 99 18232 := by
  obtain ⟨TX, H, Hi, ta, rs, ⟨rfl, hta⟩, ⟨hi, hq⟩, hg, tp, fl⟩ := id hv
  have hs := hg.1.1.sh hta rs
  have v : ∀ j, j < 6 → vp_in (nI (6 * c) + nI j) L := fun j hj => by rw [nI_add]; exact vp_in_nI (by omega) (by omega)
  refine xrun_step fun K hK => ?_
  refine And.intro (v 1 (by omega)) ?_
  refine And.intro (v 2 (by omega)) ?_
  have eu : I 0 7 = nI (hvU H) := hg.2.2.1.2.2.2.1
  have e6 : I 68 6 = nI (hvU H) := hg.2.2.2.2.1.1.2.2.2.1
  have u8 := hg.1.1.2.2.2
  refine cd_need l 1397 (ruO (hvR H)) ta rs I J _ (hvU H) u8 eu (xs (nI (6 * c) + nI 1).toNatClampNeg) (xs (nI (6 * c) + nI 2).toNatClampNeg) (fun d0 => ?_) (fun d0 k0 => ?_) (fun d0 k0 => ?_)
  · refine And.intro (v 1 (by omega)) (And.intro (v 2 (by omega)) ?_)
    refine md_need l 1397 (ruO (hvR H)) ta rs (uI I 0 7 0) J _ (hvU H) u8 e6 (xs (nI (6 * c) + nI 1).toNatClampNeg) (xs (nI (6 * c) + nI 2).toNatClampNeg) (fun _ => ?_) (fun g _ => absurd d0 g) (fun g _ => absurd d0 g)
    exact hK 1403 (lloc c) [] _ (uI (uI I 0 7 0) 68 6 0) J 99 18232 (hn _ (uI (uI I 0 7 0) 68 6 0) J (lin2.need_ (u := 0) (x := fun _ => 0) (y := fun _ => 0) hta hi hq hg tp fl (by omega) (fun q a _ _ b => by rw [uI_ne b, uI_ne a]) (fun j hj => by rw [uI_ne (by decide), uI_eq, upd_n hj]) (fun j hj _ => by rw [uI_eq, upd_n hj, uI_ne (by decide)]) (by rw [uI_ne (by decide), uI_rd]; rfl) (by rw [uI_rd]; rfl) (fun i hi => absurd hi (Nat.not_lt_zero i)) (fun i hi => absurd hi (Nat.not_lt_zero i))))
  · refine And.intro (v 1 (by omega)) (And.intro (v 2 (by omega)) ?_)
    have hu8 : hvU H < 8 := by
      simp only [Bool.and_eq_true, decide_eq_true_iff] at k0
      exact k0.2
    refine md_need l 1397 (ruO (hvR H)) ta rs (uI (uI (uI I 3 (hvU H) (xs (nI (6 * c) + nI 1).toNatClampNeg)) 4 (hvU H) (xs (nI (6 * c) + nI 2).toNatClampNeg)) 0 7 (nI (hvU H + 1))) J _ (hvU H) u8 e6 (xs (nI (6 * c) + nI 1).toNatClampNeg) (xs (nI (6 * c) + nI 2).toNatClampNeg) (fun g => absurd g d0) (fun _ _ => ?_) (fun _ g => absurd (k0.symm.trans g) (by decide))
    exact hK 1403 (lloc c) [] _ (uI (uI (uI (uI (uI (uI I 3 (hvU H) (xs (nI (6 * c) + nI 1).toNatClampNeg)) 4 (hvU H) (xs (nI (6 * c) + nI 2).toNatClampNeg)) 0 7 (nI (hvU H + 1))) 68 (42 + 2 * hvU H) (xs (nI (6 * c) + nI 1).toNatClampNeg)) 68 (43 + 2 * hvU H) (xs (nI (6 * c) + nI 2).toNatClampNeg)) 68 6 (nI (hvU H + 1))) J 99 18232 (hn _ (uI (uI (uI (uI (uI (uI I 3 (hvU H) (xs (nI (6 * c) + nI 1).toNatClampNeg)) 4 (hvU H) (xs (nI (6 * c) + nI 2).toNatClampNeg)) 0 7 (nI (hvU H + 1))) 68 (42 + 2 * hvU H) (xs (nI (6 * c) + nI 1).toNatClampNeg)) 68 (43 + 2 * hvU H) (xs (nI (6 * c) + nI 2).toNatClampNeg)) 68 6 (nI (hvU H + 1))) J (need_more hta hi hq hg tp fl hu8 (xs (nI (6 * c) + nI 1).toNatClampNeg) (xs (nI (6 * c) + nI 2).toNatClampNeg)))
  · refine And.intro (v 1 (by omega)) (And.intro (v 2 (by omega)) ?_)
    refine md_need l 1397 (ruO (hvR H)) ta rs I J _ (hvU H) u8 e6 (xs (nI (6 * c) + nI 1).toNatClampNeg) (xs (nI (6 * c) + nI 2).toNatClampNeg) (fun g => absurd g d0) (fun _ g => absurd (k0.symm.trans g) (by decide)) (fun _ _ => ?_)
    exact hK 1403 (lloc c) [] _ I J 99 18232 (hn _ I J (hv))
