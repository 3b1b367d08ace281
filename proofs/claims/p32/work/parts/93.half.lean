-- ===== all of a state, both sides; a call that does something keeps them alike =====
/-- a text: its words, its orders, its clauses, its laws -/
abbrev Txt : Type := List Nat × List Odr × Adr × Lws
abbrev tqW (x : Txt) : List Nat := x.1
abbrev tqE (x : Txt) : List Odr := x.2.1
abbrev tqA (x : Txt) : Adr := x.2.2.1
abbrev tqL (x : Txt) : Lws := x.2.2.2
/-- the state of worlds; which text is the rule; how many texts; how many needs, the needs -/
abbrev Hlf : Type := Ast × Option Nat × Nat × Nat × (Nat → Int32) × (Nat → Int32)
abbrev hvA (H : Hlf) : Ast := H.1
abbrev hvR (H : Hlf) : Option Nat := H.2.1
abbrev hvM (H : Hlf) : Nat := H.2.2.1
abbrev hvU (H : Hlf) : Nat := H.2.2.2.1
abbrev hvX (H : Hlf) : Nat → Int32 := H.2.2.2.2.1
abbrev hvY (H : Hlf) : Nat → Int32 := H.2.2.2.2.2
def ruO : Option Nat → Nat
  | none => 18
  | some t => 47 + 5 * t
def rI : Option Nat → Int32
  | none => -1
  | some t => nI t
def lwO (TX : Nat → Txt) : Option Nat → Lws
  | none => fun _ => none
  | some t => tqL (TX t)
def HOK (H : Hlf) : Prop := AOK (hvA H) ∧ hvM H ≤ 4 ∧ (∀ t, hvR H = some t → t < hvM H) ∧ hvU H ≤ 8
def LRt (I : XI) (t : Nat) (L : Lws) : Prop := ∃ N, N ≤ 24 ∧ I 71 t = nI N ∧ ∀ w, w < 5 → LRw I w (ofL I (24 * t) w N) (L w) ∧ ∀ e, L w = some e → ∃ f, ofL I (24 * t) w N = nI f ∧ 400 * t ≤ f ∧ f + e.length < 400 * t + 400
/-- the numbers of clauses are small -/
def DNb (A : Adr) : Prop := ∀ a, a ∈ A → ∀ x, x ∈ a.2 → x ≤ 10000
def TXT (I : XI) (t : Nat) (x : Txt) : Prop := (∃ c, c ≤ 300 ∧ GT (47 + 5 * t) I (tqW x) c (tqE x) (tqA x) ∧ I (47 + 5 * t) 5 = nI (tqW x).length ∧ DNb (tqA x)) ∧ RTx t I I (tqW x) (tqE x) (tqA x) ∧ LC I (47 + 5 * t) (tqL x) ∧ LRt I t (tqL x)
def Z18 (I : XI) : Prop := ∀ w, w < 5 → I 21 w ≤ I 20 w
def HCx (I : XI) (H : Hlf) : Prop := (TDc I (oQ (hvA H)) ∧ RC (qT (oQ (hvA H))) (oW (hvA H)) (I 27) ∧ SC (qT (oQ (hvA H))) (oN (hvA H)) (oF (hvA H)) I) ∧ I 0 13 = rI (hvR H) ∧ I 0 12 = nI (hvM H) ∧ I 0 7 = nI (hvU H) ∧ ∀ i, i < hvU H → I 3 i = hvX H i ∧ I 4 i = hvY H i
def HCi (I : XI) (H : Hlf) : Prop := ((I 6 5 = nI (qT (oQ (hvA H))) ∧ I 6 6 = nI (qR (oQ (hvA H))) ∧ I 6 7 = nI (qB (oQ (hvA H)))) ∧ RC (qT (oQ (hvA H))) (oW (hvA H)) (I 7) ∧ SC (qT (oQ (hvA H))) (oN (hvA H)) (oF (hvA H)) (fun q => I (q + 7))) ∧ I 6 9 = rI (hvR H) ∧ I 6 8 = nI (hvM H) ∧ I 6 4 = nI (hvU H) ∧ ∀ i, i < hvU H → I 10 i = hvX H i ∧ I 11 i = hvY H i
def Row (r : Nat → Int32) (H : Hlf) : Prop := (TDr (fun _ => r) (oQ (hvA H)) ∧ (∀ k, k < 69 → r (60 + k) = oW (hvA H) k) ∧ SM (oN (hvA H)) (oF (hvA H)) (fun _ => r)) ∧ r 4 = rI (hvR H) ∧ r 3 = nI (hvM H) ∧ r 6 = nI (hvU H) ∧ ∀ i, i < hvU H → r (42 + 2 * i) = hvX H i ∧ r (43 + 2 * i) = hvY H i
/-- what is told in the first is told in the second -/
def Tle (Q P : Tld) : Prop := (qT Q ≤ qT P ∧ qR Q ≤ qR P ∧ qB Q ≤ qB P) ∧ (∀ t, t < qT Q → qH Q t = qH P t ∧ qK Q t = qK P t ∧ qO Q t = qO P t) ∧ (∀ r, r < qR Q → qC Q r = qC P r) ∧ ∀ b, b < qB Q → qM Q b = qM P b
theorem Tle.rf (Q : Tld) : Tle Q Q := ⟨⟨Nat.le_refl _, Nat.le_refl _, Nat.le_refl _⟩, fun _ _ => ⟨rfl, rfl, rfl⟩, fun _ _ => rfl, fun _ _ => rfl⟩
theorem Tle.tr {Q P R : Tld} (h : Tle Q P) (g : Tle P R) : Tle Q R := by
  obtain ⟨⟨a1, a2, a3⟩, a4, a5, a6⟩ := h
  obtain ⟨⟨b1, b2, b3⟩, b4, b5, b6⟩ := g
  refine ⟨⟨Nat.le_trans a1 b1, Nat.le_trans a2 b2, Nat.le_trans a3 b3⟩, fun t ht => ?_, fun r hr => ?_, fun b hb => ?_⟩
  · obtain ⟨x1, x2, x3⟩ := a4 t ht
    obtain ⟨y1, y2, y3⟩ := b4 t (Nat.lt_of_lt_of_le ht a1)
    exact ⟨x1.trans y1, x2.trans y2, x3.trans y3⟩
  · exact (a5 r hr).trans (b5 r (Nat.lt_of_lt_of_le hr a2))
  · exact (a6 b hb).trans (b6 b (Nat.lt_of_lt_of_le hb a3))
theorem Tle.th (Q : Tld) (i j k : Nat) : Tle Q (thQ Q i j k) := by
  refine ⟨⟨Nat.le_succ _, Nat.le_refl _, Nat.le_refl _⟩, fun t ht => ?_, fun _ _ => rfl, fun _ _ => rfl⟩
  show qH Q t = ptF (qH Q) (qT Q) i t ∧ qK Q t = ptF (qK Q) (qT Q) j t ∧ qO Q t = ptF (qO Q) (qT Q) k t
  unfold ptF
  rw [if_neg (by omega), if_neg (by omega), if_neg (by omega)]
  exact ⟨rfl, rfl, rfl⟩
theorem Tle.re (Q : Tld) (i : Nat) : Tle Q (reQ Q i) := by
  refine ⟨⟨Nat.le_refl _, Nat.le_succ _, Nat.le_refl _⟩, fun _ _ => ⟨rfl, rfl, rfl⟩, fun r hr => ?_, fun _ _ => rfl⟩
  show qC Q r = ptF (qC Q) (qR Q) i r
  unfold ptF
  rw [if_neg (by omega)]
theorem Tle.ba (Q : Tld) (i : Nat) : Tle Q (baQ Q i) := by
  refine ⟨⟨Nat.le_refl _, Nat.le_refl _, Nat.le_succ _⟩, fun _ _ => ⟨rfl, rfl, rfl⟩, fun _ _ => rfl, fun r hr => ?_⟩
  show qM Q r = ptF (qM Q) (qB Q) i r
  unfold ptF
  rw [if_neg (by omega)]
theorem LRt.keep {I I' : XI} {t : Nat} {L : Lws} (f : ∀ q, 70 < q → q < 79 → I' q = I q) (h : LRt I t L) : LRt I' t L := by
  obtain ⟨N, a, b, c⟩ := h
  refine ⟨N, a, by rw [f 71 (by decide) (by decide)]; exact b, fun w hw => ?_⟩
  rw [ofL.keep (f 72 (by decide) (by decide)) (f 73 (by decide) (by decide))]
  exact ⟨(c w hw).1.keep (f 77 (by decide) (by decide)) (f 78 (by decide) (by decide)), (c w hw).2⟩
theorem RTx.keep {I I' J J' : XI} {t : Nat} {ws : List Nat} {E : List Odr} {A : Adr} (f : ∀ q, 70 < q → q < 79 → I' q = I q) (h : RTx t J I ws E A) : RTx t J' I' ws E A := by
  unfold RTx at h ⊢
  rw [f 71 (by decide) (by decide), f 72 (by decide) (by decide), f 73 (by decide) (by decide), f 74 (by decide) (by decide), f 75 (by decide) (by decide), f 76 (by decide) (by decide), f 77 (by decide) (by decide), f 78 (by decide) (by decide)]
  exact h
theorem GT.keep {I I' : XI} {ta : Nat} {ws : List Nat} {c : Nat} {E : List Odr} {A : Adr} (f : ∀ q, ta ≤ q → q ≤ ta + 4 → I' q = I q) (h : GT ta I ws c E A) : GT ta I' ws c E A := by
  unfold GT CLp at h ⊢
  rw [f (ta + 1) (by omega) (by omega), f (ta + 2) (by omega) (by omega), f (ta + 3) (by omega) (by omega), f (ta + 4) (by omega) (by omega)]
  exact h
theorem TXT.keep {I I' : XI} {t : Nat} {x : Txt} (ht : t < 4) (f : ∀ q, (46 < q ∧ q < 67) ∨ (70 < q ∧ q < 79) → I' q = I q) (h : TXT I t x) : TXT I' t x := by
  obtain ⟨⟨c, c3, g, e5, db⟩, r, lc, lr⟩ := h
  exact ⟨⟨c, c3, g.keep (fun q a b => f q (by omega)), by rw [f (47 + 5 * t) (by omega)]; exact e5, db⟩, r.keep (fun q a b => f q (by omega)), fun w hw => (lc w hw).keep (f _ (by omega)) (f _ (by omega)) (f _ (by omega)), lr.keep (fun q a b => f q (by omega))⟩
def GRx (I : XI) (TX : Nat → Txt) (H Hi : Hlf) : Prop := (HOK H ∧ HOK Hi ∧ hvM Hi ≤ hvM H ∧ Tle (oQ (hvA Hi)) (oQ (hvA H))) ∧ ((∀ t, t < hvM H → TXT I t (TX t)) ∧ Z18 I) ∧ HCx I H ∧ HCi I Hi ∧ (Row (I 68) H ∧ wLay I = oW (hvA H)) ∧ Row (I 69) Hi
theorem ruO_tsp {H : Hlf} (h : HOK H) : TSP (ruO (hvR H)) := by
  have y := h.2.2.1
  have m := h.2.1
  cases e : hvR H with
  | none => exact Or.inl rfl
  | some t =>
    have := y t e
    show TSP (47 + 5 * t)
    unfold TSP
    omega
theorem GRx.ca {I : XI} {TX : Nat → Txt} {H Hi : Hlf} (h : GRx I TX H Hi) : CA I (ruO (hvR H)) (lwO TX (hvR H)) (hvA H) := by
  obtain ⟨⟨h1, h2, h3, h4⟩, ⟨tx, z⟩, hc, hci, hm, hmi⟩ := h
  refine ⟨⟨hc.1.1, h1.1.1, ?_, ruO_tsp h1⟩, hc.1.2.1, hc.1.2.2⟩
  have y := h1.2.2.1
  cases e : hvR H with
  | none => exact fun w hw => z w hw
  | some t => exact (tx t (y t e)).2.2.1
theorem GRx.ma {I : XI} {TX : Nat → Txt} {H Hi : Hlf} (h : GRx I TX H Hi) : MA I (lwO TX (hvR H)) (hvA H) := by
  obtain ⟨⟨h1, h2, h3, h4⟩, ⟨tx, z⟩, hc, hci, ⟨hm, hl⟩, hmi⟩ := h
  refine ⟨⟨⟨hm.1.1, h1.1.1⟩, ?_⟩, hl, hm.1.2.2⟩
  have y := h1.2.2.1
  have m := h1.2.1
  have e4 : I 68 4 = rI (hvR H) := hm.2.1
  cases e : hvR H with
  | none =>
    rw [e] at e4
    exact fun w hw => ⟨-1, Or.inl ⟨e4, rfl⟩, rfl⟩
  | some t =>
    rw [e] at e4
    obtain ⟨N, a, b, c⟩ := (tx t (y t e)).2.2.2
    exact fun w hw => ⟨ofL I (24 * t) w N, Or.inr ⟨t, N, by have := y t e; omega, e4, a, b, rfl⟩, (c w hw).1⟩
/-- a call on both sides that does something with what is told, worlds, steps -/
theorem GRx.op {I I1 I2 : XI} {TX : Nat → Txt} {H Hi : Hlf} {A' : Ast} {ru : Nat} {L L' : Lws} (h : GRx I TX H Hi) (hA' : AOK A') (ht : Tle (oQ (hvA H)) (oQ A')) (fc : FCl I I1) (c : CA I1 ru L A') (fm : FMl I1 I2) (m : MA I2 L' A') : GRx I2 TX (A', H.2) Hi := by
  obtain ⟨⟨h1, h2, h3, h4⟩, ⟨tx, z⟩, hc, hci, ⟨hm, hl⟩, hmi⟩ := h
  have k : ∀ q, q ≠ 1 → q ≠ 2 → (q < 12 ∨ 17 < q) → q ≠ 24 → q ≠ 27 → q ≠ 68 → q ≠ 91 → q ≠ 93 → I2 q = I q := fun q a b c' d e f g i => (fm.1 q f g i).trans (fc q a b c' d e)
  have k1 : ∀ q, q ≠ 68 → q ≠ 91 → q ≠ 93 → I2 q = I1 q := fm.1
  have u8 := h1.2.2.2
  have hm4 := h1.2.1
  refine ⟨⟨⟨hA', h1.2⟩, h2, h3, h4.tr ht⟩, ⟨fun t q => (tx t q).keep (by have : t < hvM H := q; omega) (fun q hq => k q (by omega) (by omega) (by omega) (by omega) (by omega) (by omega) (by omega) (by omega)), fun w hw => ?_⟩, ?_, ?_, ⟨?_, m.2.1⟩, ?_⟩
  · rw [k 21 (by decide) (by decide) (by decide) (by decide) (by decide) (by decide) (by decide) (by decide), k 20 (by decide) (by decide) (by decide) (by decide) (by decide) (by decide) (by decide) (by decide)]
    exact z w hw
  · obtain ⟨hcx, e13, e12, e7, en⟩ := hc
    have k0 : I2 0 = I 0 := k 0 (by decide) (by decide) (by decide) (by decide) (by decide) (by decide) (by decide) (by decide)
    have k3 : I2 3 = I 3 := k 3 (by decide) (by decide) (by decide) (by decide) (by decide) (by decide) (by decide) (by decide)
    have k4 : I2 4 = I 4 := k 4 (by decide) (by decide) (by decide) (by decide) (by decide) (by decide) (by decide) (by decide)
    refine ⟨⟨c.1.1.keep (k1 12 (by decide) (by decide) (by decide)) (k1 13 (by decide) (by decide) (by decide)) (k1 14 (by decide) (by decide) (by decide)) (k1 15 (by decide) (by decide) (by decide)) (k1 16 (by decide) (by decide) (by decide)) (k1 17 (by decide) (by decide) (by decide)), ?_, ?_⟩, by rw [k0]; exact e13, by rw [k0]; exact e12, by rw [k0]; exact e7, fun i hi => by rw [k3, k4]; exact en i hi⟩
    · rw [k1 27 (by decide) (by decide) (by decide)]
      exact c.2.1
    · obtain ⟨hn, first, hf, a, b, d⟩ := c.2.2
      refine ⟨hn, first, hf, by rw [k1 1 (by decide) (by decide) (by decide)]; exact a, by rw [k1 1 (by decide) (by decide) (by decide)]; exact b, fun j hj => ?_⟩
      rw [k1 2 (by decide) (by decide) (by decide)]
      exact d j hj
  · obtain ⟨⟨ht3, hrc, hsc⟩, e13, e12, e7, en⟩ := hci
    have k6 : I2 6 = I 6 := k 6 (by decide) (by decide) (by decide) (by decide) (by decide) (by decide) (by decide) (by decide)
    have k7 : I2 7 = I 7 := k 7 (by decide) (by decide) (by decide) (by decide) (by decide) (by decide) (by decide) (by decide)
    have k8 : I2 8 = I 8 := k 8 (by decide) (by decide) (by decide) (by decide) (by decide) (by decide) (by decide) (by decide)
    have k9 : I2 9 = I 9 := k 9 (by decide) (by decide) (by decide) (by decide) (by decide) (by decide) (by decide) (by decide)
    have k10 : I2 10 = I 10 := k 10 (by decide) (by decide) (by decide) (by decide) (by decide) (by decide) (by decide) (by decide)
    have k11 : I2 11 = I 11 := k 11 (by decide) (by decide) (by decide) (by decide) (by decide) (by decide) (by decide) (by decide)
    refine ⟨⟨by rw [k6]; exact ht3, by rw [k7]; exact hrc, ?_⟩, by rw [k6]; exact e13, by rw [k6]; exact e12, by rw [k6]; exact e7, fun i hi => by rw [k10, k11]; exact en i hi⟩
    obtain ⟨hn, first, hf, a, b, d⟩ := hsc
    refine ⟨hn, first, hf, ?_, ?_, fun j hj => ?_⟩
    · show I2 8 1 = nI first
      rw [k8]
      exact a
    · show I2 8 2 = _
      rw [k8]
      exact b
    · show RC _ _ (fun j' => I2 9 _)
      rw [k9]
      exact d j hj
  · obtain ⟨_, e4, e3, e6, en⟩ := hm
    have c68 : ∀ j, j = 3 ∨ j = 4 ∨ j = 6 ∨ (42 ≤ j ∧ j < 60) → I2 68 j = I 68 j := fun j hj => (fm.2.1 j hj).trans (congrFun (fc 68 (by decide) (by decide) (by decide) (by decide) (by decide)) j)
    refine ⟨⟨m.1.1.1, fun j hj => m.w hj, m.2.2⟩, (c68 4 (by omega)).trans e4, (c68 3 (by omega)).trans e3, (c68 6 (by omega)).trans e6, fun i hi => ?_⟩
    have hi' : i < hvU H := hi
    rw [c68 _ (by omega), c68 _ (by omega)]
    exact en i hi
  · rw [k 69 (by decide) (by decide) (by decide) (by decide) (by decide) (by decide) (by decide) (by decide)]
    exact hmi
