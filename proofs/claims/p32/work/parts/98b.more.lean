-- ===== what leaves all of it; a text more =====
theorem RTo.rf {m : Nat} {I I' : XI} (e : ∀ q, 70 < q → q < 79 → I' q = I q) : RTo m I I' := by
  unfold RTo
  rw [e 71 (by decide) (by decide), e 72 (by decide) (by decide), e 73 (by decide) (by decide), e 74 (by decide) (by decide), e 75 (by decide) (by decide), e 76 (by decide) (by decide), e 77 (by decide) (by decide), e 78 (by decide) (by decide)]
  exact ⟨fun _ _ => rfl, fun _ _ => ⟨rfl, rfl, rfl, rfl, rfl⟩, fun _ _ => ⟨rfl, rfl⟩⟩
/-- texts may have been added -/
theorem GRx.upd {I I' : XI} {TX TX' : Nat → Txt} {H Hi : Hlf} {m' : Nat} (h : GRx I TX H Hi) (hm' : m' ≤ 4) (hle : hvM H ≤ m') (htx : ∀ t, t < m' → TXT I' t (TX' t)) (f : ∀ q, q ≠ 0 → (q < 23 ∨ q = 27 ∨ q = 69) → I' q = I q) (f0 : ∀ j, j ≠ 12 → I' 0 j = I 0 j) (f012 : I' 0 12 = nI m') (f68 : ∀ k, k ≠ 3 → I' 68 k = I 68 k) (f683 : I' 68 3 = nI m') : GRx I' TX' ((oQ (hvA H), wLay I', oN (hvA H), oF (hvA H)), hvR H, m', H.2.2.2) Hi := by
  obtain ⟨⟨h1, h2, h3, h4⟩, ⟨tx, z⟩, hc, hci, ⟨hm, hl⟩, hmi⟩ := h
  have t8 := h1.1.1.1
  have r4 := h1.1.1.2.1
  have b4 := h1.1.1.2.2.1
  have u8 := h1.2.2.2
  have ew : ∀ k, k < 69 → wLay I' k = oW (hvA H) k := fun k hk => by
    unfold wLay
    rw [if_pos hk, f68 _ (by omega)]
    exact hm.1.2.1 k hk
  have hb := h1.back ew
  refine ⟨⟨⟨hb.1, hm', fun t e => Nat.lt_of_lt_of_le (h1.2.2.1 t e) hle, h1.2.2.2⟩, h2, Nat.le_trans h3 hle, h4⟩, ⟨htx, fun w hw => ?_⟩, ?_, ?_, ⟨?_, rfl⟩, ?_⟩
  · rw [f 21 (by decide) (by omega), f 20 (by decide) (by omega)]
    exact z w hw
  · obtain ⟨⟨htd, hrc, hsc⟩, e13, e12, e7, en⟩ := hc
    refine ⟨⟨htd.keep (f 12 (by decide) (by omega)) (f 13 (by decide) (by omega)) (f 14 (by decide) (by omega)) (f 15 (by decide) (by omega)) (f 16 (by decide) (by omega)) (f 17 (by decide) (by omega)), hrc.cg ew (fun k _ => by rw [f 27 (by decide) (by omega)]), ?_⟩, (f0 13 (by decide)).trans e13, f012, (f0 7 (by decide)).trans e7, fun i hi => by rw [f 3 (by decide) (by omega), f 4 (by decide) (by omega)]; exact en i hi⟩
    obtain ⟨hn, first, hf, a, b, d⟩ := hsc
    refine ⟨hn, first, hf, by rw [f 1 (by decide) (by omega)]; exact a, by rw [f 1 (by decide) (by omega)]; exact b, fun j hj => ?_⟩
    rw [f 2 (by decide) (by omega)]
    exact d j hj
  · obtain ⟨⟨ht3, hrc, hsc⟩, e13, e12, e7, en⟩ := hci
    refine ⟨⟨by rw [f 6 (by decide) (by omega)]; exact ht3, by rw [f 7 (by decide) (by omega)]; exact hrc, ?_⟩, by rw [f 6 (by decide) (by omega)]; exact e13, by rw [f 6 (by decide) (by omega)]; exact e12, by rw [f 6 (by decide) (by omega)]; exact e7, fun i hi => by rw [f 10 (by decide) (by omega), f 11 (by decide) (by omega)]; exact en i hi⟩
    obtain ⟨hn, first, hf, a, b, d⟩ := hsc
    refine ⟨hn, first, hf, ?_, ?_, fun j hj => ?_⟩
    · show I' 8 1 = nI first
      rw [f 8 (by decide) (by omega)]
      exact a
    · show I' 8 2 = _
      rw [f 8 (by decide) (by omega)]
      exact b
    · show RC _ _ (fun j' => I' 9 _)
      rw [f 9 (by decide) (by omega)]
      exact d j hj
  · obtain ⟨⟨htd, hww, hsm⟩, e4, e3, e6, en⟩ := hm
    refine ⟨⟨?_, fun j hj => (f68 _ (by omega)).trans ((hww j hj).trans (ew j hj).symm), hsm.1, (f68 5 (by decide)).trans hsm.2.1, fun j q hj hq => (f68 _ (by omega)).trans (hsm.2.2 j q hj hq)⟩, (f68 4 (by decide)).trans e4, f683, (f68 6 (by decide)).trans e6, fun i hi => ?_⟩
    · obtain ⟨a0, a1, a2, a3, a4, a5⟩ := htd
      refine ⟨(f68 0 (by decide)).trans a0, (f68 1 (by decide)).trans a1, (f68 2 (by decide)).trans a2, fun t ht => ?_, fun q hq => ?_, fun b hb => ?_⟩
      · obtain ⟨x1, x2, x3⟩ := a3 t ht
        exact ⟨(f68 _ (by omega)).trans x1, (f68 _ (by omega)).trans x2, (f68 _ (by omega)).trans x3⟩
      · exact (f68 _ (by omega)).trans (a4 q hq)
      · exact (f68 _ (by omega)).trans (a5 b hb)
    · rw [f68 _ (by omega), f68 _ (by omega)]
      exact en i hi
  · rw [f 69 (by decide) (by omega)]
    exact hmi
theorem GRx.keep {I I' : XI} {TX : Nat → Txt} {H Hi : Hlf} (h : GRx I TX H Hi) (f : ∀ q, (q < 23 ∨ q = 27 ∨ q = 69 ∨ (46 < q ∧ q < 47 + 5 * hvM H) ∨ (70 < q ∧ q < 79)) → I' q = I q) (f68 : ∀ k, I' 68 k = I 68 k) : GRx I' TX ((oQ (hvA H), wLay I', oN (hvA H), oF (hvA H)), H.2) Hi := by
  have e := h
  obtain ⟨⟨h1, h2, h3, h4⟩, ⟨tx, z⟩, hc, hci, ⟨hm, hl⟩, hmi⟩ := e
  have f0 : I' 0 = I 0 := f 0 (by omega)
  exact h.upd (m' := hvM H) h1.2.1 (Nat.le_refl _) (fun t (ht : t < hvM H) => (tx t ht).old (m := hvM H) ht h1.2.1 (fun q a b => f q (by omega)) (RTo.rf (fun q a b => f q (by omega)))) (fun q _ hq => f q (by omega)) (fun j _ => congrFun f0 j) ((congrFun f0 12).trans hc.2.2.1) (fun k _ => f68 k) ((f68 3).trans hm.2.2.1)
/-- a text more -/
theorem GRx.text_ {I I' : XI} {TX : Nat → Txt} {H Hi : Hlf} (h : GRx I TX H Hi) (hm4 : hvM H < 4) {x : Txt} (hx : TXT I' (hvM H) x) (ro : RTo (hvM H) I I') (f : ∀ q, q ≠ 0 → (q < 23 ∨ q = 27 ∨ q = 69 ∨ (46 < q ∧ q < 47 + 5 * hvM H)) → I' q = I q) (f0 : ∀ j, j ≠ 12 → I' 0 j = I 0 j) (f012 : I' 0 12 = nI (hvM H + 1)) (f68 : ∀ k, k ≠ 3 → I' 68 k = I 68 k) (f683 : I' 68 3 = nI (hvM H + 1)) : GRx I' (fun t => if t = hvM H then x else TX t) ((oQ (hvA H), wLay I', oN (hvA H), oF (hvA H)), hvR H, hvM H + 1, H.2.2.2) Hi := by
  refine h.upd (by omega) (Nat.le_succ _) (fun t ht => ?_) (fun q a hq => f q a (by omega)) f0 f012 f68 f683
  by_cases e : t = hvM H
  · show TXT I' t (if t = hvM H then x else TX t)
    rw [if_pos e, e]
    exact hx
  · show TXT I' t (if t = hvM H then x else TX t)
    rw [if_neg e]
    exact (h.2.1.1 t (by omega)).old (m := hvM H) (by omega) (by omega) (fun q a b => f q (by omega) (by omega)) ro
/-- two queries, each by its contract -/
theorem lin2.ask {I I1 I2 : XI} {TX : Nat → Txt} {H Hi : Hlf} {ta : Nat} {rs : List XO} {P1 P2 : List Nat} (hta : ta ∈ txP) (hg : GRx I TX H Hi) (tp : TPr I) (fl : FLr I) (f1 : frO P1 I I1) (f2 : frO P2 I1 I2) (h1 : (P1.all fun q => decide (24 ≤ q ∧ q ≠ 27 ∧ (q ≤ 29 ∨ (36 ≤ q ∧ q ≤ 46) ∨ 79 ≤ q))) = true) (h2 : (P2.all fun q => decide (79 ≤ q)) = true) (i2 : ivO CF [] I2) (q2 : QQ I2) : lin2 (shH (ruO (hvR H)) ta rs) I2 := by
  have n1 : ∀ q, (q < 24 ∨ q = 27 ∨ (29 < q ∧ q < 36) ∨ (46 < q ∧ q < 79)) → I1 q = I q := fun q hq => f1 q (by
    cases e : nmem q P1 with
    | false => rfl
    | true =>
      have y := List.all_eq_true.mp h1 q (nmem_el e)
      rw [decide_eq_true_iff] at y
      omega)
  have n2 : ∀ q, q < 79 → I2 q = I1 q := fun q hq => f2 q (by
    cases e : nmem q P2 with
    | false => rfl
    | true =>
      have y := List.all_eq_true.mp h2 q (nmem_el e)
      rw [decide_eq_true_iff] at y
      omega)
  have k : ∀ q, (q < 24 ∨ q = 27 ∨ (29 < q ∧ q < 36) ∨ (46 < q ∧ q < 79)) → I2 q = I q := fun q hq => (n2 q (by omega)).trans (n1 q hq)
  exact ⟨TX, ((oQ (hvA H), wLay I2, oN (hvA H), oF (hvA H)), H.2), Hi, ta, rs, ⟨rfl, hta⟩, ⟨i2, q2⟩, hg.keep (fun q hq => k q (by have := hg.1.1.2.1; omega)) (fun j => congrFun (k 68 (by omega)) j), tp_keep tp (congrFun (k 30 (by omega)) 1) (k 31 (by omega)) (congrFun (k 67 (by omega)) 3) (k 70 (by omega)), fl_keep fl (k 35 (by omega)) (congrFun (k 67 (by omega)) 4) (congrFun (k 67 (by omega)) 5)⟩
