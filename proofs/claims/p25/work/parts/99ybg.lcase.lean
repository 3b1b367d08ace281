set_option maxRecDepth 100000 in
set_option maxHeartbeats 1000000 in
theorem law_c31 (l : Launch) (L : Nat) (xs : Nat → Int32) (n c : Nat) (hc : 6 * c + 6 ≤ L) (hL : L ≤ 3072) (sh : List XO) (I : XI) (J : XJ) (hv : lin2 sh I) (hn : ∀ (sh' : List XO) (I' : XI) (J' : XJ), lin2 sh' I' → lrun l L xs n 1403 (lloc c) [] sh' I' J' 99 18232) : lrun l L xs (n + 1) 1219 (lloc c) [] sh I J 99 18232 := by
  obtain ⟨TX, H, Hi, ta, rs, ⟨rfl, hta⟩, ⟨hi, hq⟩, hg, tp, fl⟩ := id hv
  have hs := hg.1.1.sh hta rs
  have v : ∀ j, j < 6 → vp_in (nI (6 * c) + nI j) L := fun j hj => by rw [nI_add]; exact vp_in_nI (by omega) (by omega)
  refine xrun_step fun K hK => ?_
  refine And.intro (v 1 (by omega)) ?_
  refine And.intro (v 2 (by omega)) ?_
  refine ctr_at ct_X11_packed_0 (by decide) l _ I J [.ref 0, .int _, .int _] _ ⟨by decide, inI_fr _, inI_fr _, trivial⟩ (fun e he => by cases he) hs hi hq ?_
  intro v1 sh1 I1 J1 g1 w1 i1 q1 f1 p1
  obtain ⟨r1, rfl⟩ := int_post (by decide) p1
  have s1 := w1 rfl
  subst s1
  refine And.intro (v 1 (by omega)) ?_
  refine And.intro (v 2 (by omega)) ?_
  refine ctr_at ct_X12_packed_0 (by decide) l _ I1 J1 [.ref 67, .int _, .int _] _ ⟨by decide, inI_fr _, inI_fr _, trivial⟩ (fun e he => by cases he) hs i1 q1 ?_
  intro v2 sh2 I2 J2 g2 w2 i2 q2 f2 p2
  obtain ⟨r2, rfl⟩ := int_post (by decide) p2
  have s2 := w2 rfl
  subst s2
  exact hK 1403 (lloc c) [] _ I2 J2 99 18232 (hn _ I2 J2 (lin2.ask hta hg tp fl f1 f2 (by decide) (by decide) i2 q2))
