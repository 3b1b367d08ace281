set_option maxRecDepth 100000 in
set_option maxHeartbeats 1000000 in
theorem law_c10 (l : Launch) (L : Nat) (xs : Nat → Int32) (n c : Nat) (hc : 6 * c + 6 ≤ L) (hL : L ≤ 3072) (sh : List XO) (I : XI) (J : XJ) (hv : lin2 sh I) (hn : ∀ (sh' : List XO) (I' : XI) (J' : XJ), lin2 sh' I' → lrun l L xs n 1403 (lloc c) [] sh' I' J' 99 18232) : lrun l L xs (n + 1) 506 (lloc c) [] sh I J 99 18232 := by
  obtain ⟨TX, H, Hi, ta, rs, ⟨rfl, hta⟩, ⟨hi, hq⟩, hg, tp, fl⟩ := id hv
  have hs := hg.1.1.sh hta rs
  have v : ∀ j, j < 6 → vp_in (nI (6 * c) + nI j) L := fun j hj => by rw [nI_add]; exact vp_in_nI (by omega) (by omega)
  refine xrun_step fun K hK => ?_
  refine And.intro (v 1 (by omega)) ?_
  refine And.intro (v 2 (by omega)) ?_
  refine And.intro (v 3 (by omega)) ?_
  refine And.intro (v 4 (by omega)) ?_
  refine And.intro (v 5 (by omega)) ?_
  obtain ⟨T, hT, eT, eT2, hB⟩ := id tp
  refine c_feed l 1397 (ruO (hvR H)) ta rs (xs (nI (6 * c) + nI 1).toNatClampNeg) (xs (nI (6 * c) + nI 2).toNatClampNeg) (xs (nI (6 * c) + nI 3).toNatClampNeg) (xs (nI (6 * c) + nI 4).toNatClampNeg) (xs (nI (6 * c) + nI 5).toNatClampNeg) T hT I J _ eT (fun h I1 fd => ?_) (fun h => ?_)
  · have e67 : I1 67 3 = nI T := by
      rw [fd.1.1 67 (by decide) (by decide)]
      exact eT2
    refine And.intro (v 1 (by omega)) ?_
    refine And.intro (v 2 (by omega)) ?_
    refine And.intro (v 3 (by omega)) ?_
    refine And.intro (v 4 (by omega)) ?_
    refine And.intro (v 5 (by omega)) ?_
    refine m_feed l 1397 (ruO (hvR H)) ta rs (xs (nI (6 * c) + nI 1).toNatClampNeg) (xs (nI (6 * c) + nI 2).toNatClampNeg) (xs (nI (6 * c) + nI 3).toNatClampNeg) (xs (nI (6 * c) + nI 4).toNatClampNeg) (xs (nI (6 * c) + nI 5).toNatClampNeg) T hT I1 J _ e67 (fun _ I2 pd => ?_) (fun g => absurd h g)
    have tf := tp_feed h hB fd pd
    exact hK 1403 (lloc c) [] _ I2 J 99 18232 (hn _ I2 J (lin2.tape hta hg tf.2.2 (pd.2.2.1 (fd.2.2.1 hi)) (pd.2.2.2 (fd.2.2.2 hq)) tf.1 (tf.2.1 fl)))
  · refine And.intro (v 1 (by omega)) ?_
    refine And.intro (v 2 (by omega)) ?_
    refine And.intro (v 3 (by omega)) ?_
    refine And.intro (v 4 (by omega)) ?_
    refine And.intro (v 5 (by omega)) ?_
    refine m_feed l 1397 (ruO (hvR H)) ta rs (xs (nI (6 * c) + nI 1).toNatClampNeg) (xs (nI (6 * c) + nI 2).toNatClampNeg) (xs (nI (6 * c) + nI 3).toNatClampNeg) (xs (nI (6 * c) + nI 4).toNatClampNeg) (xs (nI (6 * c) + nI 5).toNatClampNeg) T hT I J _ eT2 (fun g => absurd g h) (fun _ => ?_)
    exact hK 1403 (lloc c) [] _ I J 99 18232 (hn _ I J (hv))
