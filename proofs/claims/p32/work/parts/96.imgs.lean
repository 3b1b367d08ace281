-- ===== image, back =====
theorem Row.cg {r r' : Nat → Int32} {H : Hlf} (h : Row r H) (hk : HOK H) (e : ∀ j, j < 2200 → r' j = r j) : Row r' H := by
  obtain ⟨⟨htd, hww, hsm⟩, e4, e3, e6, en⟩ := h
  have t8 := hk.1.1.1
  have r4 := hk.1.1.2.1
  have b4 := hk.1.1.2.2.1
  have u8 := hk.2.2.2
  have n30 := hk.1.2.2.1
  refine ⟨⟨?_, fun j hj => (e _ (by omega)).trans (hww j hj), hsm.1, (e 5 (by decide)).trans hsm.2.1, fun j q hj hq => (e _ (by omega)).trans (hsm.2.2 j q hj hq)⟩, (e 4 (by decide)).trans e4, (e 3 (by decide)).trans e3, (e 6 (by decide)).trans e6, fun i hi => ?_⟩
  · obtain ⟨a0, a1, a2, a3, a4, a5⟩ := htd
    refine ⟨(e 0 (by decide)).trans a0, (e 1 (by decide)).trans a1, (e 2 (by decide)).trans a2, fun t ht => ?_, fun q hq => ?_, fun b hb => ?_⟩
    · obtain ⟨x1, x2, x3⟩ := a3 t ht
      exact ⟨(e _ (by omega)).trans x1, (e _ (by omega)).trans x2, (e _ (by omega)).trans x3⟩
    · exact (e _ (by omega)).trans (a4 q hq)
    · exact (e _ (by omega)).trans (a5 b hb)
  · rw [e _ (by omega), e _ (by omega)]
    exact en i hi
theorem cp_lo {a b : Nat → Int32} {n j : Nat} (h : j < n) : va_cpy a b 0 0 n j = a j := by
  simp only [va_cpy]
  rw [if_pos (by omega)]
  congr 1
  omega
theorem gKp_k (I : XI) (q : Nat) (h : q < 6 ∨ 11 < q) : gKp I q = I q := by
  unfold gKp
  rw [uI_ne (by omega), cI_ne (by omega), cI_ne (by omega), uI_ne (by omega), uI_ne (by omega), uI_ne (by omega), uI_ne (by omega), uI_ne (by omega), uI_ne (by omega), uI_ne (by omega), cI_ne (by omega), cI_ne (by omega)]
set_option maxHeartbeats 1000000 in
theorem gKp_c (I : XI) : (gKp I 7 = va_cpy (I 27) (I 7) 0 0 69 ∧ gKp I 9 = va_cpy (I 2) (I 9) 0 0 2139 ∧ gKp I 8 1 = I 1 1 ∧ gKp I 8 2 = I 1 2) ∧ (gKp I 6 5 = I 12 5 ∧ gKp I 6 6 = I 12 6 ∧ gKp I 6 7 = I 12 7 ∧ gKp I 6 8 = I 0 12 ∧ gKp I 6 9 = I 0 13 ∧ gKp I 6 4 = I 0 7) ∧ gKp I 10 = va_cpy (I 3) (I 10) 0 0 8 ∧ gKp I 11 = va_cpy (I 4) (I 11) 0 0 8 := ⟨⟨rfl, rfl, rfl, rfl⟩, ⟨rfl, rfl, rfl, rfl, rfl, rfl⟩, rfl, rfl⟩
theorem gBk_k (I : XI) (q : Nat) (h : q ≠ 0 ∧ q ≠ 1 ∧ q ≠ 2 ∧ q ≠ 3 ∧ q ≠ 4 ∧ q ≠ 12 ∧ q ≠ 27) : gBk I q = I q := by
  obtain ⟨h0, h1, h2, h3, h4, h12, h27⟩ := h
  unfold gBk gBk1
  rw [uI_ne h0, cI_ne h4, cI_ne h3, uI_ne h0, uI_ne h0, uI_ne h12, uI_ne h12, uI_ne h12, uI_ne h1, uI_ne h1, cI_ne h2, cI_ne h27]
set_option maxHeartbeats 1000000 in
theorem gBk_c (I : XI) : (gBk I 27 = va_cpy (I 7) (I 27) 0 0 69 ∧ gBk I 2 = va_cpy (I 9) (I 2) 0 0 2139 ∧ gBk I 1 1 = I 8 1 ∧ gBk I 1 2 = I 8 2) ∧ (gBk I 12 5 = I 6 5 ∧ gBk I 12 6 = I 6 6 ∧ gBk I 12 7 = I 6 7 ∧ gBk I 0 12 = I 6 8 ∧ gBk I 0 13 = I 6 9 ∧ gBk I 0 7 = I 6 4) ∧ gBk I 3 = va_cpy (I 10) (I 3) 0 0 8 ∧ gBk I 4 = va_cpy (I 11) (I 4) 0 0 8 := ⟨⟨rfl, rfl, rfl, rfl⟩, ⟨rfl, rfl, rfl, rfl, rfl, rfl⟩, rfl, rfl⟩
theorem wLay_cg {I I' : XI} (e : ∀ j, 60 ≤ j → j < 129 → I' 68 j = I 68 j) (e93 : I' 93 = I 93) : wLay I' = wLay I := by
  funext k
  unfold wLay
  by_cases c : k < 69
  · rw [if_pos c, if_pos c, e _ (by omega) (by omega)]
  · rw [if_neg c, if_neg c, e93]
theorem GRx.image_ {I : XI} {TX : Nat → Txt} {H Hi : Hlf} (h : GRx I TX H Hi) : GRx (cI (gKp I) 68 69 0 0 2200) TX H H := by
  obtain ⟨⟨h1, h2, h3, h4⟩, ⟨tx, z⟩, hc, hci, ⟨hm, hl⟩, hmi⟩ := h
  have hm4 := h1.2.1
  have u8 := h1.2.2.2
  have k : ∀ q, (q < 6 ∨ 11 < q) → q ≠ 69 → (cI (gKp I) 68 69 0 0 2200) q = I q := fun q a b => by rw [cI_ne b, gKp_k I q a]
  have k6 : ∀ q, q ≤ 11 → (cI (gKp I) 68 69 0 0 2200) q = gKp I q := fun q a => cI_ne (by omega)
  obtain ⟨⟨c7, c9, c81, c82⟩, ⟨c65, c66, c67, c68, c69, c64⟩, c10, c11⟩ := gKp_c I
  refine ⟨⟨h1, h1, Nat.le_refl _, Tle.rf _⟩, ⟨fun t q => (tx t q).keep (by omega) (fun q hq => k q (by omega) (by omega)), fun w hw => ?_⟩, ?_, ?_, ⟨?_, ?_⟩, ?_⟩
  · rw [k 21 (by decide) (by decide), k 20 (by decide) (by decide)]
    exact z w hw
  · obtain ⟨⟨htd, hrc, hsc⟩, e13, e12, e7, en⟩ := hc
    refine ⟨⟨htd.keep (k 12 (by decide) (by decide)) (k 13 (by decide) (by decide)) (k 14 (by decide) (by decide)) (k 15 (by decide) (by decide)) (k 16 (by decide) (by decide)) (k 17 (by decide) (by decide)), by rw [k 27 (by decide) (by decide)]; exact hrc, ?_⟩, by rw [k 0 (by decide) (by decide)]; exact e13, by rw [k 0 (by decide) (by decide)]; exact e12, by rw [k 0 (by decide) (by decide)]; exact e7, fun i hi => by rw [k 3 (by decide) (by decide), k 4 (by decide) (by decide)]; exact en i hi⟩
    obtain ⟨hn, first, hf, a, b, d⟩ := hsc
    refine ⟨hn, first, hf, by rw [k 1 (by decide) (by decide)]; exact a, by rw [k 1 (by decide) (by decide)]; exact b, fun j hj => ?_⟩
    rw [k 2 (by decide) (by decide)]
    exact d j hj
  · obtain ⟨⟨htd, hrc, hsc⟩, e13, e12, e7, en⟩ := hc
    refine ⟨⟨⟨by rw [k6 6 (by decide), c65]; exact htd.1, by rw [k6 6 (by decide), c66]; exact htd.2.1, by rw [k6 6 (by decide), c67]; exact htd.2.2.1⟩, ?_, ?_⟩, by rw [k6 6 (by decide), c69]; exact e13, by rw [k6 6 (by decide), c68]; exact e12, by rw [k6 6 (by decide), c64]; exact e7, fun i hi => ?_⟩
    · rw [k6 7 (by decide), c7]
      exact hrc.cg (fun _ _ => rfl) (fun j hj => cp_lo hj)
    · obtain ⟨hn, first, hf, a, b, d⟩ := hsc
      refine ⟨hn, first, hf, ?_, ?_, fun j hj => ?_⟩
      · show (cI (gKp I) 68 69 0 0 2200) 8 1 = _
        rw [k6 8 (by decide), c81]
        exact a
      · show (cI (gKp I) 68 69 0 0 2200) 8 2 = _
        rw [k6 8 (by decide), c82]
        exact b
      · refine (d j hj).cg (fun _ _ => rfl) (fun q hq => ?_)
        show (cI (gKp I) 68 69 0 0 2200) 9 _ = _
        rw [k6 9 (by decide), c9]
        exact cp_lo (by omega)
    · rw [k6 10 (by decide), k6 11 (by decide), c10, c11, cp_lo (by omega), cp_lo (by omega)]
      exact en i hi
  · rw [k 68 (by decide) (by decide)]
    exact hm
  · rw [← hl]
    exact wLay_cg (fun j _ _ => congrFun (k 68 (by decide) (by decide)) j) (k 93 (by decide) (by decide))
  · refine hm.cg h1 (fun j hj => ?_)
    rw [cI_eq, cp_lo hj, gKp_k I 68 (by decide)]
theorem HOK.back {H : Hlf} (h : HOK H) {w : Rw} (e : ∀ k, k < 69 → w k = oW (hvA H) k) : HOK ((oQ (hvA H), w, oN (hvA H), oF (hvA H)), H.2) := ⟨⟨h.1.1, fun k hk h67 => by
  show okC k (w k)
  rw [e k hk]
  exact h.1.2.1 k hk h67, h.1.2.2⟩, h.2⟩
theorem GRx.back_ {I : XI} {TX : Nat → Txt} {H Hi : Hlf} (h : GRx I TX H Hi) : GRx (cI (gBk I) 69 68 0 0 2200) TX ((oQ (hvA Hi), wLay (cI (gBk I) 69 68 0 0 2200), oN (hvA Hi), oF (hvA Hi)), Hi.2) Hi := by
  obtain ⟨⟨h1, h2, h3, h4⟩, ⟨tx, z⟩, hc, hci, ⟨hm, hl⟩, hmi⟩ := h
  have hm4 := h1.2.1
  have u8 := h2.2.2.2
  have k : ∀ q, (q ≠ 0 ∧ q ≠ 1 ∧ q ≠ 2 ∧ q ≠ 3 ∧ q ≠ 4 ∧ q ≠ 12 ∧ q ≠ 27) → q ≠ 68 → (cI (gBk I) 69 68 0 0 2200) q = I q := fun q a b => by rw [cI_ne b, gBk_k I q a]
  have kc : ∀ q, q ≠ 68 → (cI (gBk I) 69 68 0 0 2200) q = gBk I q := fun q a => cI_ne a
  have k68 : ∀ j, j < 2200 → (cI (gBk I) 69 68 0 0 2200) 68 j = I 69 j := fun j hj => by rw [cI_eq, cp_lo hj, gBk_k I 69 (by decide)]
  obtain ⟨⟨c27, c2, c11', c12'⟩, ⟨c125, c126, c127, c012, c013, c07⟩, c3, c4⟩ := gBk_c I
  have ew : ∀ j, j < 69 → wLay (cI (gBk I) 69 68 0 0 2200) j = oW (hvA Hi) j := fun j hj => by
    unfold wLay
    rw [if_pos hj, k68 _ (by omega)]
    exact hmi.1.2.1 j hj
  obtain ⟨⟨l1, l2, l3⟩, l4, l5, l6⟩ := h4
  refine ⟨⟨h2.back ew, h2, Nat.le_refl _, Tle.rf _⟩, ⟨fun t q => (tx t (by have : t < hvM Hi := q; omega)).keep (by have : t < hvM Hi := q; omega) (fun q hq => k q (by omega) (by omega)), fun w hw => ?_⟩, ?_, ?_, ⟨?_, rfl⟩, ?_⟩
  · rw [k 21 (by decide) (by decide), k 20 (by decide) (by decide)]
    exact z w hw
  · obtain ⟨⟨htd, _, _⟩, _⟩ := hc
    obtain ⟨⟨⟨i5, i6, i7⟩, hrc, hsc⟩, e13, e12, e7, en⟩ := hci
    refine ⟨⟨⟨by rw [kc 12 (by decide), c125]; exact i5, by rw [kc 12 (by decide), c126]; exact i6, by rw [kc 12 (by decide), c127]; exact i7, fun t ht => ?_, fun r hr => ?_, fun b hb => ?_⟩, ?_, ?_⟩, by rw [kc 0 (by decide), c013]; exact e13, by rw [kc 0 (by decide), c012]; exact e12, by rw [kc 0 (by decide), c07]; exact e7, fun i hi => ?_⟩
    · have ht : t < qT (oQ (hvA Hi)) := ht
      obtain ⟨x1, x2, x3⟩ := l4 t ht
      obtain ⟨y1, y2, y3⟩ := htd.2.2.2.1 t (by omega)
      rw [k 13 (by decide) (by decide), k 14 (by decide) (by decide), k 15 (by decide) (by decide)]
      exact ⟨y1.trans (congrArg nI x1.symm), y2.trans (congrArg nI x2.symm), y3.trans (congrArg nI x3.symm)⟩
    · have hr : r < qR (oQ (hvA Hi)) := hr
      rw [k 16 (by decide) (by decide)]
      exact (htd.2.2.2.2.1 r (by omega)).trans (congrArg nI (l5 r hr).symm)
    · have hb : b < qB (oQ (hvA Hi)) := hb
      rw [k 17 (by decide) (by decide)]
      exact (htd.2.2.2.2.2 b (by omega)).trans (congrArg nI (l6 b hb).symm)
    · rw [kc 27 (by decide), c27]
      exact hrc.cg ew (fun j hj => cp_lo hj)
    · obtain ⟨hn, first, hf, a, b, d⟩ := hsc
      refine ⟨hn, first, hf, by rw [kc 1 (by decide), c11']; exact a, by rw [kc 1 (by decide), c12']; exact b, fun j hj => ?_⟩
      refine (d j hj).cg (fun _ _ => rfl) (fun q hq => ?_)
      rw [kc 2 (by decide), c2]
      exact cp_lo (by omega)
    · have hi : i < hvU Hi := hi
      rw [kc 3 (by decide), kc 4 (by decide), c3, c4, cp_lo (by omega), cp_lo (by omega)]
      exact en i hi
  · obtain ⟨⟨ht3, hrc, hsc⟩, e13, e12, e7, en⟩ := hci
    refine ⟨⟨by rw [k 6 (by decide) (by decide)]; exact ht3, by rw [k 7 (by decide) (by decide)]; exact hrc, ?_⟩, by rw [k 6 (by decide) (by decide)]; exact e13, by rw [k 6 (by decide) (by decide)]; exact e12, by rw [k 6 (by decide) (by decide)]; exact e7, fun i hi => by rw [k 10 (by decide) (by decide), k 11 (by decide) (by decide)]; exact en i hi⟩
    obtain ⟨hn, first, hf, a, b, d⟩ := hsc
    refine ⟨hn, first, hf, ?_, ?_, fun j hj => ?_⟩
    · show (cI (gBk I) 69 68 0 0 2200) 8 1 = nI first
      rw [k 8 (by decide) (by decide)]
      exact a
    · show (cI (gBk I) 69 68 0 0 2200) 8 2 = _
      rw [k 8 (by decide) (by decide)]
      exact b
    · show RC _ _ (fun j' => (cI (gBk I) 69 68 0 0 2200) 9 _)
      rw [k 9 (by decide) (by decide)]
      exact d j hj
  · have y := hmi.cg h2 k68
    exact ⟨⟨y.1.1, fun j hj => (y.1.2.1 j hj).trans (ew j hj).symm, y.1.2.2⟩, y.2⟩
  · rw [k 69 (by decide) (by decide)]
    exact hmi
