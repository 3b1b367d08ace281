set_option maxRecDepth 100000 in
set_option maxHeartbeats 1000000 in
theorem law_c11 (l : Launch) (L : Nat) (xs : Nat → Int32) (n c : Nat) (hc : 6 * c + 6 ≤ L) (hL : L ≤ 3072) (sh : List XO) (I : XI) (J : XJ) (hv : lin2 sh I) (hn : ∀ (sh' : List XO) (I' : XI) (J' : XJ), lin2 sh' I' → lrun l L xs n 1403 (lloc c) [] sh' I' J' 99 18232) : lrun l L xs (n + 1) 569 (lloc c) [] sh I J 99 18232 := by
  obtain ⟨TX, H, Hi, ta, rs, ⟨rfl, hta⟩, ⟨hi, hq⟩, hg, tp, fl⟩ := id hv
  have hs := hg.1.1.sh hta rs
  have v : ∀ j, j < 6 → vp_in (nI (6 * c) + nI j) L := fun j hj => by rw [nI_add]; exact vp_in_nI (by omega) (by omega)
  refine xrun_step fun K hK => ?_
  refine And.intro (v 1 (by omega)) ?_
  obtain ⟨T, hT, eT, eT2, hB⟩ := id tp
  refine c_end l 1397 (xs (nI (6 * c) + nI 1).toNatClampNeg) (ruO (hvR H)) ta rs I J _ (fun b => ?_) (fun b => ?_)
  · rw [eT] at b
    refine And.intro (v 1 (by omega)) ?_
    have b2 : 0 ≤ (xs (nI (6 * c) + nI 1).toNatClampNeg) ∧ (xs (nI (6 * c) + nI 1).toNatClampNeg) ≤ (uI I 30 1 (xs (nI (6 * c) + nI 1).toNatClampNeg)) 67 3 := ⟨b.1, by rw [show (uI I 30 1 (xs (nI (6 * c) + nI 1).toNatClampNeg)) 67 3 = nI T from eT2]; exact b.2⟩
    refine m_end l 1397 (xs (nI (6 * c) + nI 1).toNatClampNeg) (ruO (hvR H)) ta rs (uI I 30 1 (xs (nI (6 * c) + nI 1).toNatClampNeg)) J _ (fun _ => ?_) (fun g => absurd b2 g)
    exact hK 1403 (lloc c) [] _ (uI (uI I 30 1 (xs (nI (6 * c) + nI 1).toNatClampNeg)) 67 3 (xs (nI (6 * c) + nI 1).toNatClampNeg)) J 99 18232 (hn _ (uI (uI I 30 1 (xs (nI (6 * c) + nI 1).toNatClampNeg)) 67 3 (xs (nI (6 * c) + nI 1).toNatClampNeg)) J (lin2.tape hta hg (fun q a _ b _ => by rw [uI_ne b, uI_ne a]) (iv_end hi hT b) (qq_u (by decide) (qq_u (by decide) hq)) (tp_end hB hT b) fl))
  · rw [eT] at b
    refine And.intro (v 1 (by omega)) ?_
    refine m_end l 1397 (xs (nI (6 * c) + nI 1).toNatClampNeg) (ruO (hvR H)) ta rs I J _ (fun g => absurd (by rw [eT2] at g; exact g) b) (fun _ => ?_)
    exact hK 1403 (lloc c) [] _ I J 99 18232 (hn _ I J (hv))
