-- ===== end, fault, feed: the tape (as in the first parts of the text) =====
-- end
set_option maxRecDepth 100000 in
theorem c_end (l : Launch) (d : Nat) (x : Int32) (ru ta : Nat) (rs : List XO) (I : XI) (J : XJ) (Rp : XR) (h1 : 0 ≤ x ∧ x ≤ I 30 1 → Rp (some (.int x)) (shH ru ta rs) (uI I 30 1 x) J) (h0 : ¬ (0 ≤ x ∧ x ≤ I 30 1) → Rp (some (.int (-1))) (shH ru ta rs) I J) : xm l (d + 2) 0 0 mX11_end [.ref 0, .int x] (shH ru ta rs) I J Rp := by
  refine xm_ofK 0 (X := xxX11) (t := tX11_end) (stop := []) (ini := false) xx11 pl11 rfl kX11_end (fun h => by cases h) (Nat.le_of_ble_eq_true rfl) (fun K hK => ?_)
  by_cases c : 0 ≤ x ∧ x ≤ I 30 1
  · refine c_within_t l d x 0 (I 30 1) _ _ _ _ c.1 c.2 ?_
    refine And.intro (fun _ => h1 c) (fun h => absurd h (show ¬ ((1 : Int32) = (0 : Int32)) by decide))
  · refine c_within_f l d x 0 (I 30 1) _ _ _ _ c ?_
    refine And.intro (fun h => absurd rfl h) (fun _ => h0 c)
set_option maxRecDepth 100000 in
theorem m_end (l : Launch) (d : Nat) (x : Int32) (ru ta : Nat) (rs : List XO) (I : XI) (J : XJ) (Rp : XR) (h1 : 0 ≤ x ∧ x ≤ I 67 3 → Rp (some (.int x)) (shH ru ta rs) (uI I 67 3 x) J) (h0 : ¬ (0 ≤ x ∧ x ≤ I 67 3) → Rp (some (.int (-1))) (shH ru ta rs) I J) : xm l (d + 2) 0 0 mX12_end [.ref 67, .int x] (shH ru ta rs) I J Rp := by
  refine xm_ofK 0 (X := xxX12) (t := tX12_end) (stop := []) (ini := false) xx12 pl12 rfl kX12_end (fun h => by cases h) (Nat.le_of_ble_eq_true rfl) (fun K hK => ?_)
  by_cases c : 0 ≤ x ∧ x ≤ I 67 3
  · refine m_in_t l d x 0 (I 67 3) _ _ _ _ c.1 c.2 ?_
    refine And.intro (fun _ => h1 c) (fun h => absurd h (show ¬ ((1 : Int32) = (0 : Int32)) by decide))
  · refine m_in_f l d x 0 (I 67 3) _ _ _ _ c ?_
    refine And.intro (fun h => absurd rfl h) (fun _ => h0 c)
-- fault
set_option maxRecDepth 100000 in
theorem c_fault (l : Launch) (d : Nat) (x : Int32) (ru ta : Nat) (rs : List XO) (I : XI) (J : XJ) (Rp : XR) (hn : I 35 6 = 0 → Rp (some (.int (-1))) (shH ru ta rs) I J) (h0 : ¬ I 35 6 = 0 → x = 0 → Rp (some (.int (I 35 7))) (shH ru ta rs) I J) (h1 : ¬ I 35 6 = 0 → x = 1 → Rp (some (.int (I 35 8))) (shH ru ta rs) I J) (h2 : ¬ I 35 6 = 0 → ¬ x = 0 → ¬ x = 1 → Rp (some (.int (-1))) (shH ru ta rs) I J) : xm l (d + 1) 0 0 mX11_fault [.ref 0, .int x] (shH ru ta rs) I J Rp := by
  refine xm_ofK 0 (X := xxX11) (t := tX11_fault) (stop := []) (ini := false) xx11 pl11 rfl kX11_fault (fun h => by cases h) (Nat.le_of_ble_eq_true rfl) (fun K hK => ?_)
  refine And.intro (fun r => ?_) (fun r => hn r)
  refine And.intro (fun e => h0 r e) (fun n0 => And.intro (fun e => h1 r e) (fun n1 => h2 r n0 n1))
set_option maxRecDepth 100000 in
theorem m_fault (l : Launch) (d : Nat) (x : Int32) (ru ta : Nat) (rs : List XO) (I : XI) (J : XJ) (Rp : XR) (h0 : x = 0 → Rp (some (.int (I 67 4))) (shH ru ta rs) I J) (h1 : x = 1 → Rp (some (.int (I 67 5))) (shH ru ta rs) I J) (h2 : ¬ x = 0 → ¬ x = 1 → Rp (some (.int (-1))) (shH ru ta rs) I J) : xm l (d + 1) 0 0 mX12_fault [.ref 67, .int x] (shH ru ta rs) I J Rp := by
  refine xm_ofK 0 (X := xxX12) (t := tX12_fault) (stop := []) (ini := false) xx12 pl12 rfl kX12_fault (fun h => by cases h) (Nat.le_of_ble_eq_true rfl) (fun K hK => ?_)
  refine And.intro (fun n0 => ?_) (fun e => h0 e)
  refine And.intro (fun n1 => h2 n0 n1) (fun e => h1 e)
-- the class's text keeps what is told everywhere
def c15 (p : Nat) : Bool := CFc.all fun q => !(Nat.beq q.1 p) || Nat.beq q.2.1 1 || Nat.beq q.2.1 5
theorem cell_15 {p k : Nat} (hp : c15 p = true) (h2 : xlk CFr p = none) (hn : nrm p k = k) (h1 : k ≠ 1) (h5 : k ≠ 5) : cellI CF p k = fr := by
  unfold cellI
  rw [hn]
  split
  · rename_i q e
    exfalso
    have hm := List.mem_of_find?_eq_some e
    have hq := List.find?_some e
    simp only [Bool.and_eq_true] at hq
    have e1 := Nat.eq_of_beq_eq_true hq.1
    have e2 := Nat.eq_of_beq_eq_true hq.2
    unfold c15 at hp
    have y := List.all_eq_true.mp hp q hm
    rw [e1, e2] at y
    have z : Nat.beq p p = true := by simp
    rw [z, Bool.not_true, Bool.false_or, Bool.or_eq_true] at y
    rcases y with y | y
    · exact h1 (Nat.eq_of_beq_eq_true y)
    · exact h5 (Nat.eq_of_beq_eq_true y)
  · split
    · rename_i r e
      have y := h2.symm.trans e
      cases y
    · rfl
theorem cell_in {p k : Nat} {x : Int32} (h : cellI CF p k = fr) : inI (cellI CF p k) x.toInt := by
  rw [h]
  exact inI_fr _
theorem inI_nI {n : Nat} {b : Int} (h : (n : Int) ≤ b) (h2 : n < 2 ^ 31) : inI (0, b) (nI n).toInt := by
  rw [nI_toInt h2]
  exact ⟨by dsimp only; omega, h⟩
theorem tsp_cells {ta : Nat} (ht : TSP ta) : cellI CF ta 1 = (0, 300) ∧ cellI CF ta 5 = (0, 24) ∧ c15 ta = true ∧ xlk CFr ta = none ∧ (∀ k, nrm ta k = k) ∧ (∀ k, cellI CF (ta + 1) k = fr) ∧ (∀ k, cellI CF (ta + 2) k = fr) ∧ (∀ k, cellI CF (ta + 3) k = fr) ∧ ∀ k, cellI CF (ta + 4) k = fr := by
  rcases ht with rfl | rfl | rfl | rfl | rfl
  all_goals exact ⟨by decide +kernel, by decide +kernel, by decide +kernel, by decide +kernel, fun _ => rfl, fun k => cell_frC (by decide +kernel) (by decide +kernel), fun k => cell_frC (by decide +kernel) (by decide +kernel), fun k => cell_frC (by decide +kernel) (by decide +kernel), fun k => cell_frC (by decide +kernel) (by decide +kernel)⟩
theorem cell_35 (k : Nat) : cellI CF 35 k = fr := cell_frC (by decide +kernel) (by decide +kernel)
theorem cell_32 (k : Nat) : cellI CF 32 k = fr := cell_frC (by decide +kernel) (by decide +kernel)
theorem cell_33 (k : Nat) : cellI CF 33 k = fr := cell_frC (by decide +kernel) (by decide +kernel)
theorem cell_34 (k : Nat) : cellI CF 34 k = fr := cell_frC (by decide +kernel) (by decide +kernel)
theorem cell_305 : cellI CF 30 5 = (0, 301) := by decide +kernel
theorem iv_rdf {ta : Nat} (ht : TSP ta) {I I' : XI} (h : RDF ta I I') (hi : ivO CF [] I) : ivO CF [] I' := by
  obtain ⟨f1, f2, ⟨N, hN, eN⟩, ⟨c, hc, ec⟩, ⟨q, hq, eq⟩, _⟩ := h
  obtain ⟨t1, t5, t15, tr, tn, ta1, ta2, ta3, ta4⟩ := tsp_cells ht
  intro p k hn
  by_cases p35 : p = 35
  · subst p35
    exact cell_in (cell_35 k)
  by_cases p30 : p = 30
  · subst p30
    by_cases k5 : k = 5
    · subst k5
      rw [eN, cell_305]
      exact inI_nI (by omega) (by omega)
    · rw [f2 k k5]
      exact hi 30 k rfl
  by_cases p32 : p = 32
  · subst p32
    exact cell_in (cell_32 k)
  by_cases p33 : p = 33
  · subst p33
    exact cell_in (cell_33 k)
  by_cases p34 : p = 34
  · subst p34
    exact cell_in (cell_34 k)
  by_cases pa : p = ta
  · rw [pa]
    by_cases k1 : k = 1
    · rw [k1, ec, t1]
      exact inI_nI (by omega) (by omega)
    · by_cases k5 : k = 5
      · rw [k5, eq, t5]
        exact inI_nI (by omega) (by omega)
      · exact cell_in (cell_15 t15 tr (tn k) k1 k5)
  by_cases pa1 : p = ta + 1
  · rw [pa1]
    exact cell_in (ta1 k)
  by_cases pa2 : p = ta + 2
  · rw [pa2]
    exact cell_in (ta2 k)
  by_cases pa3 : p = ta + 3
  · rw [pa3]
    exact cell_in (ta3 k)
  by_cases pa4 : p = ta + 4
  · rw [pa4]
    exact cell_in (ta4 k)
  rw [f1 p p35 p30 p32 p33 p34 pa pa1 pa2 pa3 pa4]
  exact hi p k hn
theorem tsp_lt {ta : Nat} (ht : TSP ta) : ta + 4 < 67 ∧ 17 < ta ∧ (ta = 18 ∨ 46 < ta) := by
  rcases ht with rfl | rfl | rfl | rfl | rfl <;> decide
theorem qq_rdf {ta : Nat} (ht : TSP ta) {I I' : XI} (h : RDF ta I I') (hq : QQ I) : QQ I' := by
  have z := tsp_lt ht
  refine qq_ok I I' (fun p hp => ?_) hq
  have y : p = 71 ∨ p = 72 ∨ p = 73 ∨ p = 77 ∨ p = 78 := by
    simpa [QPl] using hp
  exact h.1 p (by omega) (by omega) (by omega) (by omega) (by omega) (by omega) (by omega) (by omega) (by omega) (by omega)
theorem rdf_hi {ta : Nat} (ht : TSP ta) {I I' : XI} (h : RDF ta I I') {p : Nat} (hp : p = 0 ∨ p = 6 ∨ p = 31 ∨ 67 ≤ p) : I' p = I p := by
  have z := tsp_lt ht
  exact h.1 p (by omega) (by omega) (by omega) (by omega) (by omega) (by omega) (by omega) (by omega) (by omega) (by omega)
-- behind a text
theorem cell_012 : cellI CF 0 12 = (0, 4) ∧ cellI CF 30 1 = (0, 300) := by decide +kernel
theorem iv_end {I : XI} {x : Int32} {T : Nat} (hi : ivO CF [] I) (hT : T ≤ 300) (hx : 0 ≤ x ∧ x ≤ nI T) : ivO CF [] (uI (uI I 30 1 x) 67 3 x) := by
  have t0 : (0 : Int32).toInt = 0 := rfl
  have a := Int32.le_iff_toInt_le.mp hx.1
  have b := Int32.le_iff_toInt_le.mp hx.2
  rw [t0] at a
  rw [nI_toInt (by omega)] at b
  have c : inI (0, 300) x.toInt := ⟨a, by dsimp only; omega⟩
  exact iv_put (iv_put hi (by rw [cell_301]; exact c)) (by rw [cell_674.2.2.2.1]; exact c)
theorem tp_feed {I I1 I2 : XI} {w : Nat → Int32} {T : Nat} (hT : T + 20 ≤ 300) (hB : ∀ i, i < T → BR (I 31 i) (I 70 i)) (fd : FDm w T 5 I I1) (pd : PDm w T 5 I1 I2) : TPr I2 ∧ (FLr I → FLr I2) ∧ ∀ q, q ≠ 30 → q ≠ 31 → q ≠ 67 → q ≠ 70 → I2 q = I q := by
  obtain ⟨⟨a1, a2, a3⟩, ⟨a4, a5⟩, _⟩ := fd
  obtain ⟨⟨b1, b2, b3⟩, ⟨b4, b5⟩, _⟩ := pd
  have e : ∀ p, p ≠ 30 → p ≠ 31 → p ≠ 67 → p ≠ 70 → I2 p = I p := fun p h1 h2 h3 h4 => (b1 p h3 h4).trans (a1 p h1 h2)
  refine ⟨⟨T + 20, hT, ?_, b3, fun i hi => ?_⟩, fun h => fl_keep h (e 35 (by decide) (by decide) (by decide) (by decide)) ?_ ?_, e⟩
  · rw [b1 30 (by decide) (by decide)]
    exact a3
  · rw [b1 31 (by decide) (by decide)]
    rcases Nat.lt_or_ge i T with c | c
    · rw [a4 i c, b4 i c, a1 70 (by decide) (by decide)]
      exact hB i c
    · obtain ⟨j, rfl⟩ : ∃ j, i = T + j := ⟨i - T, by omega⟩
      rw [a5 j (by omega), b5 j (by omega)]
      exact br_byte _
  · rw [b2 4 (by decide), a1 67 (by decide) (by decide)]
  · rw [b2 5 (by decide), a1 67 (by decide) (by decide)]
theorem tp_end {I : XI} {x : Int32} {T : Nat} (hB : ∀ i, i < T → BR (I 31 i) (I 70 i)) (hT : T ≤ 300) (hx : 0 ≤ x ∧ x ≤ nI T) : TPr (uI (uI I 30 1 x) 67 3 x) := by
  have t0 : (0 : Int32).toInt = 0 := rfl
  have a := Int32.le_iff_toInt_le.mp hx.1
  have b := Int32.le_iff_toInt_le.mp hx.2
  rw [t0] at a
  rw [nI_toInt (by omega)] at b
  obtain ⟨n, en, _, hn, _⟩ := nI_inI (x := x) (a := 0) (b := (T : Int)) ⟨a, b⟩ (by omega)
  have hn : n ≤ T := by omega
  exact ⟨n, by omega, en, en, fun i hi => hB i (by omega)⟩

