-- ===== what by, need, image, back, undo make of all of a state; the ranges =====
theorem rOK.lt {r : Option Nat} {m : Nat} (h : rOK r m) (hm : m ≤ 4) : rOK r 4 := fun t e => by have := h t e; omega
/-- the rule is another -/
theorem GRx.by_ {I : XI} {TX : Nat → Txt} {H Hi : Hlf} (h : GRx I TX H Hi) {r : Option Nat} (hr : rOK r (hvM H)) : GRx (uI (uI I 0 13 (rI r)) 68 4 (rI r)) TX (hvA H, r, H.2.2) Hi := by
  have ho := h
  obtain ⟨⟨h1, h2, h3, h4⟩, ⟨tx, z⟩, hc, hci, ⟨hm, hl⟩, hmi⟩ := h
  have k : ∀ q, q ≠ 0 → q ≠ 68 → (uI (uI I 0 13 (rI r)) 68 4 (rI r)) q = I q := fun q a b => by rw [uI_ne b, uI_ne a]
  have k0 : ∀ j, j ≠ 13 → (uI (uI I 0 13 (rI r)) 68 4 (rI r)) 0 j = I 0 j := fun j a => by rw [uI_ne (by decide), uI_eq, upd_n a]
  have k68 : ∀ j, j ≠ 4 → (uI (uI I 0 13 (rI r)) 68 4 (rI r)) 68 j = I 68 j := fun j a => by rw [uI_eq, upd_n a, uI_ne (by decide)]
  have t8 := h1.1.1.1
  have r4 := h1.1.1.2.1
  have b4 := h1.1.1.2.2.1
  have u8 := h1.2.2.2
  have hm4 := h1.2.1
  refine ⟨⟨⟨h1.1, h1.2.1, hr, h1.2.2.2⟩, h2, h3, h4⟩, ⟨fun t q => (tx t q).keep (by have : t < hvM H := q; omega) (fun q hq => k q (by omega) (by omega)), fun w hw => ?_⟩, ?_, ?_, ⟨?_, ?_⟩, ?_⟩
  · rw [k 21 (by decide) (by decide), k 20 (by decide) (by decide)]
    exact z w hw
  · obtain ⟨⟨htd, hrc, hsc⟩, e13, e12, e7, en⟩ := hc
    refine ⟨⟨htd.keep (k 12 (by decide) (by decide)) (k 13 (by decide) (by decide)) (k 14 (by decide) (by decide)) (k 15 (by decide) (by decide)) (k 16 (by decide) (by decide)) (k 17 (by decide) (by decide)), by rw [k 27 (by decide) (by decide)]; exact hrc, ?_⟩, ?_, (k0 12 (by decide)).trans e12, (k0 7 (by decide)).trans e7, fun i hi => by rw [k 3 (by decide) (by decide), k 4 (by decide) (by decide)]; exact en i hi⟩
    · obtain ⟨hn, first, hf, a, b, d⟩ := hsc
      refine ⟨hn, first, hf, by rw [k 1 (by decide) (by decide)]; exact a, by rw [k 1 (by decide) (by decide)]; exact b, fun j hj => ?_⟩
      rw [k 2 (by decide) (by decide)]
      exact d j hj
    · rw [uI_ne (by decide), uI_rd]
  · obtain ⟨⟨ht3, hrc, hsc⟩, e13, e12, e7, en⟩ := hci
    refine ⟨⟨by rw [k 6 (by decide) (by decide)]; exact ht3, by rw [k 7 (by decide) (by decide)]; exact hrc, ?_⟩, by rw [k 6 (by decide) (by decide)]; exact e13, by rw [k 6 (by decide) (by decide)]; exact e12, by rw [k 6 (by decide) (by decide)]; exact e7, fun i hi => by rw [k 10 (by decide) (by decide), k 11 (by decide) (by decide)]; exact en i hi⟩
    obtain ⟨hn, first, hf, a, b, d⟩ := hsc
    exact ⟨hn, first, hf, a, b, d⟩
  · obtain ⟨⟨htd, hww, hsm⟩, e4, e3, e6, en⟩ := hm
    refine ⟨⟨?_, fun j hj => (k68 _ (by omega)).trans (hww j hj), hsm.1, (k68 5 (by decide)).trans hsm.2.1, fun j q hj hq => (k68 _ (by omega)).trans (hsm.2.2 j q hj hq)⟩, by rw [uI_rd], (k68 3 (by decide)).trans e3, (k68 6 (by decide)).trans e6, fun i hi => ?_⟩
    · obtain ⟨a0, a1, a2, a3, a4, a5⟩ := htd
      refine ⟨(k68 0 (by decide)).trans a0, (k68 1 (by decide)).trans a1, (k68 2 (by decide)).trans a2, fun t ht => ?_, fun q hq => ?_, fun b hb => ?_⟩
      · obtain ⟨x1, x2, x3⟩ := a3 t ht
        exact ⟨(k68 _ (by omega)).trans x1, (k68 _ (by omega)).trans x2, (k68 _ (by omega)).trans x3⟩
      · exact (k68 _ (by omega)).trans (a4 q hq)
      · exact (k68 _ (by omega)).trans (a5 b hb)
    · rw [k68 _ (by omega), k68 _ (by omega)]
      exact en i hi
  · rw [← hl]
    unfold wLay
    funext j
    by_cases c : j < 69
    · rw [if_pos c, if_pos c, k68 _ (by omega)]
    · rw [if_neg c, if_neg c, k 93 (by decide) (by decide)]
  · rw [k 69 (by decide) (by decide)]
    exact hmi
/-- the needs are others -/
theorem GRx.need_ {I I2 : XI} {TX : Nat → Txt} {H Hi : Hlf} (h : GRx I TX H Hi) {u : Nat} {x y : Nat → Int32} (hu : u ≤ 8) (k : ∀ q, q ≠ 0 → q ≠ 3 → q ≠ 4 → q ≠ 68 → I2 q = I q) (k0 : ∀ j, j ≠ 7 → I2 0 j = I 0 j) (k68 : ∀ j, j ≠ 6 → (j < 42 ∨ 58 ≤ j) → I2 68 j = I 68 j) (e7 : I2 0 7 = nI u) (e6 : I2 68 6 = nI u) (en1 : ∀ i, i < u → I2 3 i = x i ∧ I2 4 i = y i) (en2 : ∀ i, i < u → I2 68 (42 + 2 * i) = x i ∧ I2 68 (43 + 2 * i) = y i) : GRx I2 TX (hvA H, hvR H, hvM H, u, x, y) Hi := by
  obtain ⟨⟨h1, h2, h3, h4⟩, ⟨tx, z⟩, hc, hci, ⟨hm, hl⟩, hmi⟩ := h
  have t8 := h1.1.1.1
  have r4 := h1.1.1.2.1
  have b4 := h1.1.1.2.2.1
  have hm4 := h1.2.1
  have kk : ∀ q, 4 < q → q ≠ 68 → I2 q = I q := fun q a b => k q (by omega) (by omega) (by omega) b
  refine ⟨⟨⟨h1.1, h1.2.1, h1.2.2.1, hu⟩, h2, h3, h4⟩, ⟨fun t q => (tx t q).keep (by have : t < hvM H := q; omega) (fun q hq => kk q (by omega) (by omega)), fun w hw => ?_⟩, ?_, ?_, ⟨?_, ?_⟩, ?_⟩
  · rw [kk 21 (by decide) (by decide), kk 20 (by decide) (by decide)]
    exact z w hw
  · obtain ⟨⟨htd, hrc, hsc⟩, e13, e12, _, _⟩ := hc
    refine ⟨⟨htd.keep (kk 12 (by decide) (by decide)) (kk 13 (by decide) (by decide)) (kk 14 (by decide) (by decide)) (kk 15 (by decide) (by decide)) (kk 16 (by decide) (by decide)) (kk 17 (by decide) (by decide)), by rw [kk 27 (by decide) (by decide)]; exact hrc, ?_⟩, (k0 13 (by decide)).trans e13, (k0 12 (by decide)).trans e12, e7, en1⟩
    obtain ⟨hn, first, hf, a, b, d⟩ := hsc
    have k1 : I2 1 = I 1 := k 1 (by decide) (by decide) (by decide) (by decide)
    have k2 : I2 2 = I 2 := k 2 (by decide) (by decide) (by decide) (by decide)
    refine ⟨hn, first, hf, by rw [k1]; exact a, by rw [k1]; exact b, fun j hj => ?_⟩
    rw [k2]
    exact d j hj
  · obtain ⟨⟨ht3, hrc, hsc⟩, e13, e12, e7, en⟩ := hci
    refine ⟨⟨by rw [kk 6 (by decide) (by decide)]; exact ht3, by rw [kk 7 (by decide) (by decide)]; exact hrc, ?_⟩, by rw [kk 6 (by decide) (by decide)]; exact e13, by rw [kk 6 (by decide) (by decide)]; exact e12, by rw [kk 6 (by decide) (by decide)]; exact e7, fun i hi => by rw [kk 10 (by decide) (by decide), kk 11 (by decide) (by decide)]; exact en i hi⟩
    obtain ⟨hn, first, hf, a, b, d⟩ := hsc
    refine ⟨hn, first, hf, ?_, ?_, fun j hj => ?_⟩
    · show I2 8 1 = nI first
      rw [kk 8 (by decide) (by decide)]
      exact a
    · show I2 8 2 = _
      rw [kk 8 (by decide) (by decide)]
      exact b
    · show RC _ _ (fun j' => I2 9 _)
      rw [kk 9 (by decide) (by decide)]
      exact d j hj
  · obtain ⟨⟨htd, hww, hsm⟩, e4, e3, _, _⟩ := hm
    refine ⟨⟨?_, fun j hj => (k68 _ (by omega) (by omega)).trans (hww j hj), hsm.1, (k68 5 (by decide) (by decide)).trans hsm.2.1, fun j q hj hq => (k68 _ (by omega) (by omega)).trans (hsm.2.2 j q hj hq)⟩, (k68 4 (by decide) (by decide)).trans e4, (k68 3 (by decide) (by decide)).trans e3, e6, en2⟩
    obtain ⟨a0, a1, a2, a3, a4, a5⟩ := htd
    refine ⟨(k68 0 (by decide) (by decide)).trans a0, (k68 1 (by decide) (by decide)).trans a1, (k68 2 (by decide) (by decide)).trans a2, fun t ht => ?_, fun q hq => ?_, fun b hb => ?_⟩
    · have ht : t < qT (oQ (hvA H)) := ht
      obtain ⟨x1, x2, x3⟩ := a3 t ht
      exact ⟨(k68 _ (by omega) (by omega)).trans x1, (k68 _ (by omega) (by omega)).trans x2, (k68 _ (by omega) (by omega)).trans x3⟩
    · have hq : q < qR (oQ (hvA H)) := hq
      exact (k68 _ (by omega) (by omega)).trans (a4 q hq)
    · have hb : b < qB (oQ (hvA H)) := hb
      exact (k68 _ (by omega) (by omega)).trans (a5 b hb)
  · rw [← hl]
    unfold wLay
    funext j
    by_cases c : j < 69
    · rw [if_pos c, if_pos c, k68 _ (by omega) (by omega)]
    · rw [if_neg c, if_neg c, kk 93 (by decide) (by decide)]
  · rw [kk 69 (by decide) (by decide)]
    exact hmi
/-- what cell by cell the ranges need, out of the relation -/
theorem iv_gr {I I' : XI} {TX : Nat → Txt} {H Hi : Hlf} (hi : ivO CF [] I) (h : GRx I' TX H Hi) (hq : ∀ q, 17 < q → q ≠ 24 → q ≠ 27 → q ≠ 68 → q ≠ 69 → q ≠ 91 → q ≠ 93 → I' q = I q) (r : RG I') (r69 : ∀ j, inI (cellI CF 69 j) (I' 69 j).toInt) : ivO CF [] I' := by
  obtain ⟨⟨h1, h2, h3, h4⟩, ⟨tx, z⟩, hc, hci, ⟨hm, hl⟩, hmi⟩ := h
  have u8 := h1.2.2.2
  have hm4 := h1.2.1
  have v8 := h2.2.2.2
  have hn4 := h2.2.1
  have rr : ∀ {r : Option Nat} {m : Nat}, (∀ t, r = some t → t < m) → m ≤ 4 → inI (-1, 3) (rI r).toInt := fun {r} {m} h hm => by
    cases r with
    | none => exact ⟨by decide, by decide⟩
    | some t =>
      have := h t rfl
      show inI (-1, 3) (nI t).toInt
      rw [nI_toInt (by omega)]
      exact ⟨by dsimp only; omega, by dsimp only; omega⟩
  have cl : ∀ {p : Nat}, cellI CF p = cellI CF p := rfl
  have ce : cellI CF 0 7 = (0, 8) ∧ cellI CF 0 12 = (0, 4) ∧ cellI CF 0 13 = (-1, 3) ∧ cellI CF 1 1 = (0, 30) ∧ cellI CF 1 2 = (0, 30) ∧ cellI CF 6 4 = (0, 8) ∧ cellI CF 6 5 = (0, 8) ∧ cellI CF 6 6 = (0, 4) ∧ cellI CF 6 7 = (0, 4) ∧ cellI CF 6 8 = (0, 4) ∧ cellI CF 6 9 = (-1, 3) ∧ cellI CF 8 1 = (0, 30) ∧ cellI CF 8 2 = (0, 30) ∧ cellI CF 12 5 = (0, 8) ∧ cellI CF 12 6 = (0, 4) ∧ cellI CF 12 7 = (0, 4) := by decide +kernel
  obtain ⟨c1, c2, c3, c4, c5, c6, c7, c8, c9, c10, c11, c12, c13, c14, c15, c16⟩ := ce
  have fr_ : ∀ (p : Nat) (ks : List Nat), (CFc.all fun q => !(Nat.beq q.1 p) || ks.any (Nat.beq q.2.1)) = true → xlk CFr p = none → (∀ k, nrm p k = k) → ∀ k, k ∉ ks → cellI CF p k = fr := fun p ks hp h2 hn k hk => by
    unfold cellI
    rw [hn]
    split
    · rename_i q e
      exfalso
      have hmm := List.mem_of_find?_eq_some e
      have hqq := List.find?_some e
      simp only [Bool.and_eq_true] at hqq
      have e1 := Nat.eq_of_beq_eq_true hqq.1
      have e2 := Nat.eq_of_beq_eq_true hqq.2
      have y := List.all_eq_true.mp hp q hmm
      rw [e1, e2] at y
      have z : Nat.beq p p = true := by simp
      rw [z, Bool.not_true, Bool.false_or] at y
      obtain ⟨a, ha, e3⟩ := List.any_eq_true.mp y
      rw [← Nat.eq_of_beq_eq_true e3] at ha
      exact hk ha
    · split
      · rename_i r' e
        have y := h2.symm.trans e
        cases y
      · rfl
  obtain ⟨⟨htd, hrc, hn, first, hfi, s1, s2, _⟩, e13, e12, e7, en⟩ := hc
  obtain ⟨⟨⟨i5, i6, i7⟩, _, hn', first', hfi', s1', s2', _⟩, i13, i12, i74, _⟩ := hci
  have s1' : I' 8 1 = nI first' := s1'
  have s2' : I' 8 2 = nI (oN (hvA Hi)) := s2'
  have t8 := h1.1.1.1
  have r4 := h1.1.1.2.1
  have b4 := h1.1.1.2.2.1
  have t8' := h2.1.1.1
  have r4' := h2.1.1.2.1
  have b4' := h2.1.1.2.2.1
  intro p k hnp
  by_cases p68 : p = 68
  · subst p68; exact r.1 k
  by_cases p69 : p = 69
  · subst p69; exact r69 k
  by_cases p93 : p = 93
  · subst p93; exact r.2 k
  by_cases p24 : p = 24
  · subst p24; exact (fr_ 24 [] (by decide +kernel) (by decide +kernel) (fun _ => rfl) k (by simp)) ▸ inI_fr _
  by_cases p27 : p = 27
  · subst p27; exact (fr_ 27 [] (by decide +kernel) (by decide +kernel) (fun _ => rfl) k (by simp)) ▸ inI_fr _
  by_cases p91 : p = 91
  · subst p91; exact (fr_ 91 [] (by decide +kernel) (by decide +kernel) (fun _ => rfl) k (by simp)) ▸ inI_fr _
  by_cases hp : 17 < p
  · rw [hq p hp p24 p27 p68 p69 p91 p93]
    exact hi p k hnp
  have hp : p ≤ 17 := by omega
  have one : ∀ (ks : List Nat), (CFc.all fun q => !(Nat.beq q.1 p) || ks.any (Nat.beq q.2.1)) = true → xlk CFr p = none → (∀ k, nrm p k = k) → (k ∈ ks → inI (cellI CF p k) (I' p k).toInt) → inI (cellI CF p k) (I' p k).toInt := fun ks a b c e => by
    by_cases hk : k ∈ ks
    · exact e hk
    · rw [fr_ p ks a b c k hk]
      exact inI_fr _
  match p, hp with
  | 0, _ =>
    refine one [7, 12, 13] (by decide +kernel) (by decide +kernel) (fun _ => rfl) (fun hk => ?_)
    simp only [List.mem_cons, List.not_mem_nil, or_false] at hk
    rcases hk with rfl | rfl | rfl
    · rw [c1, e7]; exact inI_n (by omega) (by omega)
    · rw [c2, e12]; exact inI_n (by omega) (by omega)
    · rw [c3, e13]; exact rr h1.2.2.1 hm4
  | 1, _ =>
    refine one [1, 2] (by decide +kernel) (by decide +kernel) (fun _ => rfl) (fun hk => ?_)
    simp only [List.mem_cons, List.not_mem_nil, or_false] at hk
    rcases hk with rfl | rfl
    · rw [c4, s1]; exact inI_n (by omega) (by omega)
    · rw [c5, s2]; exact inI_n (by omega) (by omega)
  | 6, _ =>
    refine one [4, 5, 6, 7, 8, 9] (by decide +kernel) (by decide +kernel) (fun _ => rfl) (fun hk => ?_)
    simp only [List.mem_cons, List.not_mem_nil, or_false] at hk
    rcases hk with rfl | rfl | rfl | rfl | rfl | rfl
    · rw [c6, i74]; exact inI_n (by omega) (by omega)
    · rw [c7, i5]; exact inI_n (by omega) (by omega)
    · rw [c8, i6]; exact inI_n (by omega) (by omega)
    · rw [c9, i7]; exact inI_n (by omega) (by omega)
    · rw [c10, i12]; exact inI_n (by omega) (by omega)
    · rw [c11, i13]; exact rr h2.2.2.1 hn4
  | 8, _ =>
    refine one [1, 2] (by decide +kernel) (by decide +kernel) (fun _ => rfl) (fun hk => ?_)
    simp only [List.mem_cons, List.not_mem_nil, or_false] at hk
    rcases hk with rfl | rfl
    · rw [c12, s1']; exact inI_n (by omega) (by omega)
    · rw [c13, s2']; exact inI_n (by omega) (by omega)
  | 12, _ =>
    refine one [5, 6, 7] (by decide +kernel) (by decide +kernel) (fun _ => rfl) (fun hk => ?_)
    simp only [List.mem_cons, List.not_mem_nil, or_false] at hk
    rcases hk with rfl | rfl | rfl
    · rw [c14, htd.1]; exact inI_n (by omega) (by omega)
    · rw [c15, htd.2.1]; exact inI_n (by omega) (by omega)
    · rw [c16, htd.2.2.1]; exact inI_n (by omega) (by omega)
  | 2, _ | 3, _ | 4, _ | 5, _ | 7, _ | 9, _ | 10, _ | 11, _ | 13, _ | 14, _ | 15, _ | 16, _ | 17, _ => exact one [] (by decide +kernel) (by decide +kernel) (fun _ => rfl) (fun hk => (by simp at hk))
  | p + 18, h => exact absurd h (by omega)
