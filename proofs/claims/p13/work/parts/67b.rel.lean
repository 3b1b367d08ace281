-- ===== the relation of both sides: tape, last fault, counts of texts =====
def TPr (I : XI) : Prop := ∃ T, T ≤ 300 ∧ I 30 1 = nI T ∧ I 67 3 = nI T ∧ ∀ i, i < T → BR (I 31 i) (I 70 i)
def FLr (I : XI) : Prop := (I 35 6 = 0 ∧ I 67 4 = -1 ∧ I 67 5 = -1) ∨ (¬ I 35 6 = 0 ∧ I 35 7 = I 67 4 ∧ I 35 8 = I 67 5)
def RAr (I : XI) : Prop := TPr I ∧ FLr I ∧ (∃ m, m < 5 ∧ I 0 12 = nI m ∧ I 68 3 = nI m) ∧ ∃ u, u < 5 ∧ I 6 8 = nI u ∧ I 69 3 = nI u
def linv (sh : List XO) (I : XI) : Prop := (shO CF sh ∧ ivO CF [] I ∧ QQ I) ∧ RAr I
theorem tp_keep {I I2 : XI} (h : TPr I) (e30 : I2 30 1 = I 30 1) (e31 : I2 31 = I 31) (e67 : I2 67 3 = I 67 3) (e70 : I2 70 = I 70) : TPr I2 := by
  unfold TPr at h ⊢
  rw [e30, e31, e67, e70]
  exact h
theorem fl_keep {I I2 : XI} (h : FLr I) (e35 : I2 35 = I 35) (e4 : I2 67 4 = I 67 4) (e5 : I2 67 5 = I 67 5) : FLr I2 := by
  unfold FLr at h ⊢
  rw [e35, e4, e5]
  exact h
theorem ra_mk {I I2 : XI} (h : RAr I) (e30 : I2 30 = I 30) (e31 : I2 31 = I 31) (e35 : I2 35 = I 35) (e67 : I2 67 = I 67) (e70 : I2 70 = I 70) {m u : Nat} (hm : m < 5) (hu : u < 5) (c0 : I2 0 12 = nI m) (c68 : I2 68 3 = nI m) (c6 : I2 6 8 = nI u) (c69 : I2 69 3 = nI u) : RAr I2 :=
  ⟨tp_keep h.1 (congrFun e30 1) e31 (congrFun e67 3) e70, fl_keep h.2.1 e35 (congrFun e67 4) (congrFun e67 5), ⟨m, hm, c0, c68⟩, ⟨u, hu, c6, c69⟩⟩
theorem cnr_n {p0 k0 v : Nat} (H : NCr p0 k0) (hv : v < 5) {I : XI} (h : ivO (CNr p0 k0 v) [] I) : I p0 k0 = nI v := Int32.toInt_inj.mp ((cnr_val H h).trans (nI_toInt (by omega)).symm)
-- the shapes
def shHB (ru ta : Nat) : Bool := CF.1.all fun q => match xn (shH ru ta []) q.1 with
  | some x => aoB q.2 x
  | none => false
set_option maxRecDepth 100000 in
theorem shHB_all : (txP.all fun ru => txP.all fun ta => shHB ru ta) = true := by decide +kernel
theorem xn_apx {α : Type} {m : List α} : ∀ {l : List α} {p : Nat} {x : α}, xn l p = some x → xn (l ++ m) p = some x
  | [], _, _, h => by cases h
  | _ :: _, 0, _, h => h
  | _ :: l, p + 1, _, h => xn_apx (l := l) (p := p) h
set_option maxRecDepth 100000 in
theorem sh_ok {ru ta : Nat} (hru : ru ∈ txP) (hta : ta ∈ txP) (rs : List XO) : shO CF (shH ru ta rs) := by
  intro p o h
  have y := List.all_eq_true.mp (List.all_eq_true.mp shHB_all ru hru) ta hta
  unfold shHB at y
  have y := List.all_eq_true.mp y (p, o) (xlk_mem h)
  dsimp only at y
  split at y
  · rename_i x e
    exact ⟨x, xn_apx (l := shH ru ta []) (m := rs) e, aoB_ok y⟩
  · cases y
theorem txP_in {t : Nat} (h : t < 4) : 47 + 5 * t ∈ txP := by
  have y : t = 0 ∨ t = 1 ∨ t = 2 ∨ t = 3 := by omega
  rcases y with rfl | rfl | rfl | rfl <;> decide
-- the class's text keeps what is told everywhere
def c15 (p : Nat) : Bool := CFc.all fun q => !(Nat.beq q.1 p) || Nat.beq q.2.1 1 || Nat.beq q.2.1 5
theorem cell_15 {p k : Nat} (hp : c15 p = true) (h2 : xlk CFr p = none) (hn : nrm p k = k) (h1 : k ≠ 1) (h5 : k ≠ 5) : cellI CF p k = fr := by
  unfold cellI
  rw [hn]
  split
  · rename_i q e
    exfalso
    have hm := List.mem_of_find?_eq_some e
    have hq := List.find?_some e
    simp only [Bool.and_eq_true] at hq
    have e1 := Nat.eq_of_beq_eq_true hq.1
    have e2 := Nat.eq_of_beq_eq_true hq.2
    unfold c15 at hp
    have y := List.all_eq_true.mp hp q hm
    rw [e1, e2] at y
    have z : Nat.beq p p = true := by simp
    rw [z, Bool.not_true, Bool.false_or, Bool.or_eq_true] at y
    rcases y with y | y
    · exact h1 (Nat.eq_of_beq_eq_true y)
    · exact h5 (Nat.eq_of_beq_eq_true y)
  · split
    · rename_i r e
      have y := h2.symm.trans e
      cases y
    · rfl
theorem cell_in {p k : Nat} {x : Int32} (h : cellI CF p k = fr) : inI (cellI CF p k) x.toInt := by
  rw [h]
  exact inI_fr _
theorem inI_nI {n : Nat} {b : Int} (h : (n : Int) ≤ b) (h2 : n < 2 ^ 31) : inI (0, b) (nI n).toInt := by
  rw [nI_toInt h2]
  exact ⟨by dsimp only; omega, h⟩
theorem tsp_cells {ta : Nat} (ht : TSP ta) : cellI CF ta 1 = (0, 300) ∧ cellI CF ta 5 = (0, 24) ∧ c15 ta = true ∧ xlk CFr ta = none ∧ (∀ k, nrm ta k = k) ∧ (∀ k, cellI CF (ta + 1) k = fr) ∧ (∀ k, cellI CF (ta + 2) k = fr) ∧ (∀ k, cellI CF (ta + 3) k = fr) ∧ ∀ k, cellI CF (ta + 4) k = fr := by
  rcases ht with rfl | rfl | rfl | rfl | rfl
  all_goals exact ⟨by decide +kernel, by decide +kernel, by decide +kernel, by decide +kernel, fun _ => rfl, fun k => cell_frC (by decide +kernel) (by decide +kernel), fun k => cell_frC (by decide +kernel) (by decide +kernel), fun k => cell_frC (by decide +kernel) (by decide +kernel), fun k => cell_frC (by decide +kernel) (by decide +kernel)⟩
theorem cell_35 (k : Nat) : cellI CF 35 k = fr := cell_frC (by decide +kernel) (by decide +kernel)
theorem cell_32 (k : Nat) : cellI CF 32 k = fr := cell_frC (by decide +kernel) (by decide +kernel)
theorem cell_33 (k : Nat) : cellI CF 33 k = fr := cell_frC (by decide +kernel) (by decide +kernel)
theorem cell_34 (k : Nat) : cellI CF 34 k = fr := cell_frC (by decide +kernel) (by decide +kernel)
theorem cell_305 : cellI CF 30 5 = (0, 301) := by decide +kernel
theorem iv_rdf {ta : Nat} (ht : TSP ta) {I I' : XI} (h : RDF ta I I') (hi : ivO CF [] I) : ivO CF [] I' := by
  obtain ⟨f1, f2, ⟨N, hN, eN⟩, ⟨c, hc, ec⟩, ⟨q, hq, eq⟩, _⟩ := h
  obtain ⟨t1, t5, t15, tr, tn, ta1, ta2, ta3, ta4⟩ := tsp_cells ht
  intro p k hn
  by_cases p35 : p = 35
  · subst p35
    exact cell_in (cell_35 k)
  by_cases p30 : p = 30
  · subst p30
    by_cases k5 : k = 5
    · subst k5
      rw [eN, cell_305]
      exact inI_nI (by omega) (by omega)
    · rw [f2 k k5]
      exact hi 30 k rfl
  by_cases p32 : p = 32
  · subst p32
    exact cell_in (cell_32 k)
  by_cases p33 : p = 33
  · subst p33
    exact cell_in (cell_33 k)
  by_cases p34 : p = 34
  · subst p34
    exact cell_in (cell_34 k)
  by_cases pa : p = ta
  · rw [pa]
    by_cases k1 : k = 1
    · rw [k1, ec, t1]
      exact inI_nI (by omega) (by omega)
    · by_cases k5 : k = 5
      · rw [k5, eq, t5]
        exact inI_nI (by omega) (by omega)
      · exact cell_in (cell_15 t15 tr (tn k) k1 k5)
  by_cases pa1 : p = ta + 1
  · rw [pa1]
    exact cell_in (ta1 k)
  by_cases pa2 : p = ta + 2
  · rw [pa2]
    exact cell_in (ta2 k)
  by_cases pa3 : p = ta + 3
  · rw [pa3]
    exact cell_in (ta3 k)
  by_cases pa4 : p = ta + 4
  · rw [pa4]
    exact cell_in (ta4 k)
  rw [f1 p p35 p30 p32 p33 p34 pa pa1 pa2 pa3 pa4]
  exact hi p k hn
theorem tsp_lt {ta : Nat} (ht : TSP ta) : ta + 4 < 67 ∧ 17 < ta ∧ (ta = 18 ∨ 46 < ta) := by
  rcases ht with rfl | rfl | rfl | rfl | rfl <;> decide
theorem qq_rdf {ta : Nat} (ht : TSP ta) {I I' : XI} (h : RDF ta I I') (hq : QQ I) : QQ I' := by
  have z := tsp_lt ht
  refine qq_ok I I' (fun p hp => ?_) hq
  have y : p = 71 ∨ p = 72 ∨ p = 73 ∨ p = 77 ∨ p = 78 := by
    simpa [QPl] using hp
  exact h.1 p (by omega) (by omega) (by omega) (by omega) (by omega) (by omega) (by omega) (by omega) (by omega) (by omega)
theorem rdf_hi {ta : Nat} (ht : TSP ta) {I I' : XI} (h : RDF ta I I') {p : Nat} (hp : p = 0 ∨ p = 6 ∨ p = 31 ∨ 67 ≤ p) : I' p = I p := by
  have z := tsp_lt ht
  exact h.1 p (by omega) (by omega) (by omega) (by omega) (by omega) (by omega) (by omega) (by omega) (by omega) (by omega)
-- behind a text
theorem cell_012 : cellI CF 0 12 = (0, 4) ∧ cellI CF 30 1 = (0, 300) := by decide +kernel
theorem ra_text {I Ib I' : XI} (h : RAr I) {ta m : Nat} (ht : TSP ta) (hm : m < 5) {I1 : XI} (rd : RDF ta I I1) (e30 : Ib 30 1 = 0) (e35 : Ib 35 = I1 35) (e0 : Ib 0 12 = nI m) (e6 : Ib 6 = I1 6) (e69 : Ib 69 = I1 69) (fr : frO TXM Ib I') (g : I' 69 = Ib 69) (g67 : I' 67 3 = 0) (g45 : I' 35 7 = I' 67 4 ∧ I' 35 8 = I' 67 5) (g68 : I' 68 3 = nI m) : RAr I' := by
  have n0 : (0 : Int32) = nI 0 := rfl
  refine ⟨⟨0, by omega, ?_, by rw [g67, n0], fun i hi => absurd hi (Nat.not_lt_zero i)⟩, Or.inr ⟨?_, g45.1, g45.2⟩, ⟨m, hm, ?_, g68⟩, ?_⟩
  · rw [fr 30 rfl, e30, n0]
  · rw [fr 35 rfl, e35, rd.2.2.2.2.2]
    decide
  · rw [fr 0 rfl]
    exact e0
  · obtain ⟨u, hu, a, b⟩ := h.2.2.2
    refine ⟨u, hu, ?_, ?_⟩
    · rw [fr 6 rfl, e6, rdf_hi ht rd (Or.inr (Or.inl rfl))]
      exact a
    · rw [g, e69, rdf_hi ht rd (Or.inr (Or.inr (Or.inr (by decide))))]
      exact b
-- behind feed
theorem ra_feed {I I1 I2 : XI} {w : Nat → Int32} {T : Nat} (h : RAr I) (hT : T + 20 ≤ 300) (hB : ∀ i, i < T → BR (I 31 i) (I 70 i)) (fd : FDm w T 5 I I1) (pd : PDm w T 5 I1 I2) : RAr I2 := by
  obtain ⟨⟨a1, a2, a3⟩, ⟨a4, a5⟩, _⟩ := fd
  obtain ⟨⟨b1, b2, b3⟩, ⟨b4, b5⟩, _⟩ := pd
  have e : ∀ p, p ≠ 30 → p ≠ 31 → p ≠ 67 → p ≠ 70 → I2 p = I p := fun p h1 h2 h3 h4 => (b1 p h3 h4).trans (a1 p h1 h2)
  refine ⟨⟨T + 20, hT, ?_, b3, fun i hi => ?_⟩, ?_, ?_, ?_⟩
  · rw [b1 30 (by decide) (by decide)]
    exact a3
  · rw [b1 31 (by decide) (by decide)]
    rcases Nat.lt_or_ge i T with c | c
    · rw [a4 i c, b4 i c, a1 70 (by decide) (by decide)]
      exact hB i c
    · obtain ⟨j, rfl⟩ : ∃ j, i = T + j := ⟨i - T, by omega⟩
      rw [a5 j (by omega), b5 j (by omega)]
      exact br_byte _
  · refine fl_keep h.2.1 (e 35 (by decide) (by decide) (by decide) (by decide)) ?_ ?_
    · rw [b2 4 (by decide), a1 67 (by decide) (by decide)]
    · rw [b2 5 (by decide), a1 67 (by decide) (by decide)]
  · obtain ⟨m, hm, x, y⟩ := h.2.2.1
    refine ⟨m, hm, ?_, ?_⟩
    · rw [e 0 (by decide) (by decide) (by decide) (by decide)]
      exact x
    · rw [e 68 (by decide) (by decide) (by decide) (by decide)]
      exact y
  · obtain ⟨m, hm, x, y⟩ := h.2.2.2
    refine ⟨m, hm, ?_, ?_⟩
    · rw [e 6 (by decide) (by decide) (by decide) (by decide)]
      exact x
    · rw [e 69 (by decide) (by decide) (by decide) (by decide)]
      exact y
-- behind end
theorem ra_end {I : XI} {x : Int32} {T : Nat} (h : RAr I) (hB : ∀ i, i < T → BR (I 31 i) (I 70 i)) (hT : T ≤ 300) (hx : 0 ≤ x ∧ x ≤ nI T) : RAr (uI (uI I 30 1 x) 67 3 x) := by
  have t0 : (0 : Int32).toInt = 0 := rfl
  have a := Int32.le_iff_toInt_le.mp hx.1
  have b := Int32.le_iff_toInt_le.mp hx.2
  rw [t0] at a
  rw [nI_toInt (by omega)] at b
  obtain ⟨n, en, _, hn, _⟩ := nI_inI (x := x) (a := 0) (b := (T : Int)) ⟨a, b⟩ (by omega)
  have hn : n ≤ T := by omega
  refine ⟨⟨n, by omega, en, en, fun i hi => hB i (by omega)⟩, h.2.1, h.2.2.1, h.2.2.2⟩
theorem iv_end {I : XI} {x : Int32} {T : Nat} (hi : ivO CF [] I) (hT : T ≤ 300) (hx : 0 ≤ x ∧ x ≤ nI T) : ivO CF [] (uI (uI I 30 1 x) 67 3 x) := by
  have t0 : (0 : Int32).toInt = 0 := rfl
  have a := Int32.le_iff_toInt_le.mp hx.1
  have b := Int32.le_iff_toInt_le.mp hx.2
  rw [t0] at a
  rw [nI_toInt (by omega)] at b
  have c : inI (0, 300) x.toInt := ⟨a, by dsimp only; omega⟩
  exact iv_put (iv_put hi (by rw [cell_301]; exact c)) (by rw [cell_674.2.2.2.1]; exact c)
-- at first
theorem ra_lI : RAr lI := ⟨⟨0, by omega, by decide +kernel, by decide +kernel, fun i hi => absurd hi (Nat.not_lt_zero i)⟩, Or.inl ⟨by decide +kernel, by decide +kernel, by decide +kernel⟩, ⟨0, by omega, by decide +kernel, by decide +kernel⟩, ⟨0, by omega, by decide +kernel, by decide +kernel⟩⟩
theorem fl_val {I : XI} (h : FLr I) : (I 35 6 = 0 → I 67 4 = -1 ∧ I 67 5 = -1) ∧ (¬ I 35 6 = 0 → I 67 4 = I 35 7 ∧ I 67 5 = I 35 8) := by
  rcases h with ⟨a, b, c⟩ | ⟨a, b, c⟩
  · exact ⟨fun _ => ⟨b, c⟩, fun z => absurd a z⟩
  · exact ⟨fun z => absurd z a, fun _ => ⟨b.symm, c.symm⟩⟩
theorem inI_pt {v : Nat} (hv : v < 5) {x : Int32} (h : inI ((v : Int), (v : Int)) x.toInt) : x = nI v := Int32.toInt_inj.mp ((Int.le_antisymm h.2 h.1).trans (nI_toInt (by omega)).symm)
theorem cell_684 : cellI CF 68 4 = (-1, 3) := by decide +kernel
theorem by_in {m : Nat} (hm : m < 5) {x : Int32} (h : ByI x m) : inI (-1, 3) x.toInt := by
  have a := Int32.le_iff_toInt_le.mp h.1
  have b := Int32.le_iff_toInt_le.mp h.2
  have t1 : (-1 : Int32).toInt = -1 := rfl
  have t3 : (1 : Int32).toInt = 1 := rfl
  rw [i32_sub (by rw [nI_toInt (by omega), t3]; omega) (by rw [nI_toInt (by omega), t3]; omega), nI_toInt (by omega), t3] at b
  rw [t1] at a
  exact ⟨a, by
    show x.toInt ≤ 3
    omega⟩
