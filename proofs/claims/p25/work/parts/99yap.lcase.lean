set_option maxRecDepth 100000 in
set_option maxHeartbeats 1000000 in
theorem law_c14 (l : Launch) (L : Nat) (xs : Nat → Int32) (n c : Nat) (hc : 6 * c + 6 ≤ L) (hL : L ≤ 3072) (sh : List XO) (I : XI) (J : XJ) (hv : lin2 sh I) (hn : ∀ (sh' : List XO) (I' : XI) (J' : XJ), lin2 sh' I' → lrun l L xs n 1403 (lloc c) [] sh' I' J' 99 18232) : lrun l L xs (n + 1) 628 (lloc c) [] sh I J 99 18232 := by
  obtain ⟨TX, H, Hi, ta, rs, ⟨rfl, hta⟩, ⟨hi, hq⟩, hg, tp, fl⟩ := id hv
  have hs := hg.1.1.sh hta rs
  have v : ∀ j, j < 6 → vp_in (nI (6 * c) + nI j) L := fun j hj => by rw [nI_add]; exact vp_in_nI (by omega) (by omega)
  refine xrun_step fun K hK => ?_
  refine And.intro (v 1 (by omega)) ?_
  have em : I 0 12 = nI (hvM H) := hg.2.2.1.2.2.1
  have e68 : I 68 3 = nI (hvM H) := hg.2.2.2.2.1.1.2.2.1
  have m4 := hg.1.1.2.1
  refine cd_by l 1396 (ruO (hvR H)) ta rs I J _ (hvM H) m4 em (xs (nI (6 * c) + nI 1).toNatClampNeg) (fun r hr er => ?_) (fun b => ?_)
  · refine And.intro (v 1 (by omega)) ?_
    have hb : (xs (nI (6 * c) + nI 1).toNatClampNeg) = -1 ∨ vIn (xs (nI (6 * c) + nI 1).toNatClampNeg) (hvM H) = true := by
      rw [er]
      cases r with
      | none => exact Or.inl rfl
      | some t => exact Or.inr (vIn_n (by omega) (hr t rfl))
    refine md_by l 1397 (ruO r) ta rs (uI I 0 13 (xs (nI (6 * c) + nI 1).toNatClampNeg)) J _ (hvM H) m4 e68 (xs (nI (6 * c) + nI 1).toNatClampNeg) (fun _ => ?_) (fun g => absurd hb g)
    rw [er]
    exact hK 1403 (lloc c) [] _ (uI (uI I 0 13 (rI r)) 68 4 (rI r)) J 99 18232 (hn _ (uI (uI I 0 13 (rI r)) 68 4 (rI r)) J (lin2.by_ hta hi hq hg tp fl hr))
  · refine And.intro (v 1 (by omega)) ?_
    refine md_by l 1397 (ruO (hvR H)) ta rs I J _ (hvM H) m4 e68 (xs (nI (6 * c) + nI 1).toNatClampNeg) (fun g => absurd g b) (fun _ => ?_)
    exact hK 1403 (lloc c) [] _ I J 99 18232 (hn _ I J (hv))
