-- ===== text() keeps the relation; the start; what about() tells =====
theorem txm_lo {Ib I2 : XI} (f : frO TXM Ib I2) {q : Nat} (h : q < 67) : I2 q = Ib q := f q (by
  cases e : nmem q TXM with
  | false => rfl
  | true =>
    have y := nmem_el e
    simp only [TXM, List.mem_cons, List.not_mem_nil, or_false] at y
    omega)
theorem lin2.text_ok {I I1 I2 : XI} {TX : Nat → Txt} {H Hi : Hlf} {rs : List XO} {T : Nat} (hT : T ≤ 300) (hg : GRx I TX H Hi) (hm4 : hvM H < 4) (ok : ROK (47 + 5 * hvM H) (tkS (I 70) T) I I1) (i2 : ivO CF [] I2) (q2 : QQ I2) (f : frO TXM (uI (uI I1 30 1 0) 0 12 (nI (hvM H + 1))) I2) (g68 : ∀ k, k ≠ 3 → I2 68 k = (uI (uI I1 30 1 0) 0 12 (nI (hvM H + 1))) 68 k) (g69 : I2 69 = (uI (uI I1 30 1 0) 0 12 (nI (hvM H + 1))) 69) (z1 : I2 67 3 = 0) (G7 : I2 35 7 = I2 67 4) (G8 : I2 35 8 = I2 67 5) (y3 : I2 68 3 = nI (hvM H + 1)) (ro : RTo (hvM H) (uI (uI I1 30 1 0) 0 12 (nI (hvM H + 1))) I2) (ex : ∃ K k ws j E A, Ex (tkS (I 70) T) ((4, [], 0, [], 0), [], [], []) (0, 0) ((4, K, k, ws, j), [], E, A) ∧ RTx (hvM H) (uI (uI I1 30 1 0) 0 12 (nI (hvM H + 1))) I2 ws E A) : lin2 (shH (ruO (hvR H)) (47 + 5 * hvM H) rs) I2 := by
  obtain ⟨rd, _, _, _, ws, c, E, A, K, k, j, gt, w24, c3, e5, hmw, exc⟩ := ok
  obtain ⟨K', k', ws', j', E', A', exm, rt⟩ := ex
  obtain ⟨_, dd⟩ := Ex.det exc exm
  have d1 := congrArg (fun x : MS × Wdr => x.1.2.2.2.1) dd
  have d2 := congrArg (fun x : MS × Wdr => x.2.2.1) dd
  have d3 := congrArg (fun x : MS × Wdr => x.2.2.2) dd
  dsimp only at d1 d2 d3
  subst d1 d2 d3
  have r1 : ∀ q, q < 30 ∨ q = 31 ∨ (46 < q ∧ q < 47 + 5 * hvM H) ∨ 66 < q → I1 q = I q := fun q hq => rd.1 q (by omega) (by omega) (by omega) (by omega) (by omega) (by omega) (by omega) (by omega) (by omega) (by omega)
  have r2 : ∀ q, q < 67 → q ≠ 0 → q ≠ 30 → I2 q = I1 q := fun q a b c => by rw [txm_lo f a, uI_ne b, uI_ne c]
  have e68 : ∀ k, k ≠ 3 → I2 68 k = I 68 k := fun k hk => by rw [g68 k hk, uI_ne (by decide), uI_ne (by decide), r1 68 (by omega)]
  have gt2 : GT (47 + 5 * hvM H) I2 ws c E A := gt.keep (fun q a b => r2 q (by omega) (by omega) (by omega))
  have q0 : I2 (47 + 5 * hvM H) = I1 (47 + 5 * hvM H) := r2 _ (by omega) (by omega) (by omega)
  have q2' : I2 (47 + 5 * hvM H + 2) = I1 (47 + 5 * hvM H + 2) := r2 _ (by omega) (by omega) (by omega)
  have q3' : I2 (47 + 5 * hvM H + 3) = I1 (47 + 5 * hvM H + 3) := r2 _ (by omega) (by omega) (by omega)
  obtain ⟨L, tx⟩ := TXT.new hm4 c3 gt2 (by rw [q0]; exact e5) (fun w hw => by rw [q2', q3']; exact hmw w hw) (rt.keep (fun _ _ _ => rfl)) (exc.dn (fun j => tkS_le hT j))
  have g := hg.text_ (I' := I2) hm4 tx (ro.keep (fun q a b => by rw [uI_ne (by omega), uI_ne (by omega), r1 q (by omega)])) (fun q a hq => by
    by_cases e : q = 69
    · subst e
      rw [g69, uI_ne (by decide), uI_ne (by decide), r1 69 (by omega)]
    · rw [r2 q (by omega) a (by omega), r1 q (by omega)]) (fun j hj => by rw [txm_lo f (by decide), uI_eq, upd_n hj, uI_ne (by decide), r1 0 (by omega)]) (by rw [txm_lo f (by decide), uI_rd]) e68 y3
  refine ⟨_, ((oQ (hvA H), wLay I2, oN (hvA H), oF (hvA H)), hvR H, hvM H + 1, H.2.2.2), Hi, 47 + 5 * hvM H, rs, ⟨rfl, txP_in hm4⟩, ⟨i2, q2⟩, g, ⟨0, by omega, ?_, z1, fun i hi => absurd hi (Nat.not_lt_zero i)⟩, Or.inr ⟨?_, G7, G8⟩⟩
  · rw [txm_lo f (by decide), uI_ne (by decide), uI_rd]
    rfl
  · rw [r2 35 (by decide) (by decide) (by decide), rd.2.2.2.2.2]
    decide
theorem lin2.text_no {I I1 I2 : XI} {TX : Nat → Txt} {H Hi : Hlf} {rs : List XO} (hg : GRx I TX H Hi) (hm4 : hvM H < 4) (rd : RDF (47 + 5 * hvM H) I I1) (i2 : ivO CF [] I2) (q2 : QQ I2) (f : frO TXM (uI I1 30 1 0) I2) (g68 : ∀ k, k ≠ 3 → I2 68 k = (uI I1 30 1 0) 68 k) (g69 : I2 69 = (uI I1 30 1 0) 69) (z1 : I2 67 3 = 0) (G7 : I2 35 7 = I2 67 4) (G8 : I2 35 8 = I2 67 5) (y3 : I2 68 3 = nI (hvM H)) (hh : ∀ q, 70 < q → q < 79 → I2 q = (uI I1 30 1 0) q) : lin2 (shH (ruO (hvR H)) (47 + 5 * hvM H) rs) I2 := by
  have r1 : ∀ q, q < 30 ∨ q = 31 ∨ (46 < q ∧ q < 47 + 5 * hvM H) ∨ 66 < q → I1 q = I q := fun q hq => rd.1 q (by omega) (by omega) (by omega) (by omega) (by omega) (by omega) (by omega) (by omega) (by omega) (by omega)
  have r2 : ∀ q, q < 67 → q ≠ 30 → I2 q = I1 q := fun q a c => by rw [txm_lo f a, uI_ne c]
  have e68 : ∀ k, I2 68 k = I 68 k := fun k => by
    by_cases hk : k = 3
    · subst hk
      rw [y3]
      exact hg.2.2.2.2.1.1.2.2.1.symm
    · rw [g68 k hk, uI_ne (by decide), r1 68 (by omega)]
  have g := hg.keep (I' := I2) (fun q hq => by
    by_cases e : q = 69
    · subst e
      rw [g69, uI_ne (by decide), r1 69 (by omega)]
    · by_cases c : q < 67
      · rw [r2 q c (by omega), r1 q (by omega)]
      · rw [hh q (by omega) (by omega), uI_ne (by omega), r1 q (by omega)]) e68
  refine ⟨_, ((oQ (hvA H), wLay I2, oN (hvA H), oF (hvA H)), H.2), Hi, 47 + 5 * hvM H, rs, ⟨rfl, txP_in hm4⟩, ⟨i2, q2⟩, g, ⟨0, by omega, ?_, z1, fun i hi => absurd hi (Nat.not_lt_zero i)⟩, Or.inr ⟨?_, G7, G8⟩⟩
  · rw [txm_lo f (by decide), uI_rd]
    rfl
  · rw [r2 35 (by decide) (by decide), rd.2.2.2.2.2]
    decide
/-- places that the tape and its fault alone hang on -/
theorem lin2.tape {I I2 : XI} {TX : Nat → Txt} {H Hi : Hlf} {ta : Nat} {rs : List XO} (hta : ta ∈ txP) (hg : GRx I TX H Hi) (f : ∀ q, q ≠ 30 → q ≠ 31 → q ≠ 67 → q ≠ 70 → I2 q = I q) (i2 : ivO CF [] I2) (q2 : QQ I2) (tp : TPr I2) (fl : FLr I2) : lin2 (shH (ruO (hvR H)) ta rs) I2 := by
  have m4 := hg.1.1.2.1
  exact ⟨TX, ((oQ (hvA H), wLay I2, oN (hvA H), oF (hvA H)), H.2), Hi, ta, rs, ⟨rfl, hta⟩, ⟨i2, q2⟩, hg.keep (fun q hq => f q (by omega) (by omega) (by omega) (by omega)) (fun k => congrFun (f 68 (by decide) (by decide) (by decide) (by decide)) k), tp, fl⟩
-- the start
def hZ : Hlf := ((((0, 0, 0), (fun _ => 0), (fun _ => 0), (fun _ => 0), (fun _ => 0), (fun _ => 0)), wLay lI, 0, fun _ => wLay lI), none, 0, 0, (fun _ => 0), fun _ => 0)
theorem lI_w : ∀ k, k < 69 → k ≠ 67 → lI 68 (60 + k) = nI (lI 68 (60 + k)).toNatClampNeg ∧ (lI 68 (60 + k)).toNatClampNeg ≤ bdW k := by decide +kernel
theorem lI_c : ((∀ t, t < 8 → lI 27 t = nI 100 ∧ lI 7 t = nI 100) ∧ (∀ r, r < 4 → (lI 27 (8 + r) = nI 1 - lI 68 (68 + r) ∧ lI 7 (8 + r) = nI 1 - lI 68 (68 + r)) ∧ lI 27 (12 + r) = lI 68 (72 + r) ∧ lI 7 (12 + r) = lI 68 (72 + r))) ∧ (∀ b, b < 12 → lI 27 (28 + b) = 0 ∧ lI 68 (88 + b) = 0 ∧ lI 7 (28 + b) = 0) ∧ ∀ k, k < 69 → 64 ≤ k → lI 27 k = lI 68 (60 + k) ∧ lI 7 k = lI 68 (60 + k) := by decide +kernel
theorem lI_n : (lI 12 5 = 0 ∧ lI 12 6 = 0 ∧ lI 12 7 = 0 ∧ lI 1 1 = 0 ∧ lI 1 2 = 0 ∧ lI 0 13 = -1 ∧ lI 0 12 = 0 ∧ lI 0 7 = 0) ∧ (lI 6 5 = 0 ∧ lI 6 6 = 0 ∧ lI 6 7 = 0 ∧ lI 8 1 = 0 ∧ lI 8 2 = 0 ∧ lI 6 9 = -1 ∧ lI 6 8 = 0 ∧ lI 6 4 = 0) ∧ (lI 68 0 = 0 ∧ lI 68 1 = 0 ∧ lI 68 2 = 0 ∧ lI 68 3 = 0 ∧ lI 68 4 = -1 ∧ lI 68 5 = 0 ∧ lI 68 6 = 0) ∧ ∀ w, w < 5 → lI 21 w ≤ lI 20 w := by decide +kernel
theorem lI_r : ∀ c, (c = 27 ∨ c = 7) → RC 0 (wLay lI) (lI c) := by
  have w : ∀ k, k < 69 → wLay lI k = lI 68 (60 + k) := fun k hk => if_pos hk
  obtain ⟨⟨a1, a2⟩, a3, a4⟩ := lI_c
  intro c hc
  refine ⟨fun t ht => ?_, fun r hr => ?_, fun b hb => ?_, fun k h1 h2 => ?_⟩
  · rw [if_neg (Nat.not_lt_zero t)]
    rcases hc with rfl | rfl
    · exact (a1 t ht).1
    · exact (a1 t ht).2
  · rw [w (8 + r) (by omega), w (12 + r) (by omega), show 60 + (8 + r) = 68 + r by omega, show 60 + (12 + r) = 72 + r by omega]
    rcases hc with rfl | rfl
    · exact ⟨(a2 r hr).1.1, (a2 r hr).2.1⟩
    · exact ⟨(a2 r hr).1.2, (a2 r hr).2.2⟩
  · have e : wLay lI (28 + b) = 0 := by
      rw [w (28 + b) (by omega), show 60 + (28 + b) = 88 + b by omega]
      exact (a3 b hb).2.1
    rw [e]
    refine ⟨?_, fun z => absurd z (by decide)⟩
    rcases hc with rfl | rfl
    · exact (a3 b hb).1
    · exact (a3 b hb).2.2
  · rw [w k h2]
    rcases hc with rfl | rfl
    · exact (a4 k h2 h1).1
    · exact (a4 k h2 h1).2
set_option maxRecDepth 100000 in
theorem gr_lI : GRx lI (fun _ => ([], [], [], fun _ => none)) hZ hZ := by
  have hw : WR (wLay lI) := fun k hk h67 => by
    have y := lI_w k hk h67
    refine ⟨(lI 68 (60 + k)).toNatClampNeg, ?_, y.2⟩
    exact (if_pos hk).trans y.1
  have hok : HOK hZ := ⟨⟨⟨Nat.zero_le _, Nat.zero_le _, Nat.zero_le _, fun t ht => absurd ht (Nat.not_lt_zero t), fun t ht => absurd ht (Nat.not_lt_zero t), fun t ht => absurd ht (Nat.not_lt_zero t)⟩, hw, Nat.zero_le _, fun t ht => absurd ht (Nat.not_lt_zero t)⟩, Nat.zero_le _, (fun t e => (by cases e)), Nat.zero_le _⟩
  obtain ⟨⟨c5, c6, c7, s1, s2, e13, e12, e7⟩, ⟨i5, i6, i7, t1, t2, i13, i12, i74⟩, ⟨m0, m1, m2, m3, m4, m5, m6⟩, hz⟩ := lI_n
  have row : Row (lI 68) hZ := ⟨⟨⟨m0, m1, m2, fun t ht => absurd ht (Nat.not_lt_zero t), fun t ht => absurd ht (Nat.not_lt_zero t), fun t ht => absurd ht (Nat.not_lt_zero t)⟩, fun k hk => (if_pos hk).symm, Nat.zero_le _, m5, fun k j hk _ => absurd hk (Nat.not_lt_zero k)⟩, m4, m3, m6, fun i hi => absurd hi (Nat.not_lt_zero i)⟩
  refine ⟨⟨hok, hok, Nat.le_refl _, Tle.rf _⟩, ⟨fun t ht => absurd ht (Nat.not_lt_zero t), hz⟩, ⟨⟨⟨c5, c6, c7, fun t ht => absurd ht (Nat.not_lt_zero t), fun t ht => absurd ht (Nat.not_lt_zero t), fun t ht => absurd ht (Nat.not_lt_zero t)⟩, lI_r 27 (Or.inl rfl), Nat.zero_le _, 0, by omega, s1, s2, fun k hk => absurd hk (Nat.not_lt_zero k)⟩, e13, e12, e7, fun i hi => absurd hi (Nat.not_lt_zero i)⟩, ⟨⟨⟨i5, i6, i7⟩, lI_r 7 (Or.inr rfl), Nat.zero_le _, 0, by omega, t1, t2, fun k hk => absurd hk (Nat.not_lt_zero k)⟩, i13, i12, i74, fun i hi => absurd hi (Nat.not_lt_zero i)⟩, ⟨row, rfl⟩, row.cg hok (fun j hj => ?_)⟩
  show (cI iM 68 69 0 0 2200) 69 j = (cI iM 68 69 0 0 2200) 68 j
  rw [cI_eq, cp_lo hj, cI_ne (by decide)]
theorem lin2_lI : lin2 shXM lI := ⟨_, hZ, hZ, 18, [], ⟨by rfl, by decide⟩, ⟨iv_lI, qq_lI⟩, gr_lI, ⟨0, by omega, by decide +kernel, by decide +kernel, fun i hi => absurd hi (Nat.not_lt_zero i)⟩, Or.inl ⟨by decide +kernel, by decide +kernel, by decide +kernel⟩⟩
