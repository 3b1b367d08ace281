section
-- ===== end, fault, feed: the tape (as in the first parts of the text) =====
-- end
set_option maxRecDepth 100000 in
theorem c_end (l : Launch) (d : Nat) (x : Int32) (ru ta : Nat) (rs : List XO) (I : XI) (J : XJ) (Rp : XR) (h1 : 0 ≤ x ∧ x ≤ I 30 1 → Rp (some (.int x)) (shH ru ta rs) (uI I 30 1 x) J) (h0 : ¬ (0 ≤ x ∧ x ≤ I 30 1) → Rp (some (.int (-1))) (shH ru ta rs) I J) : xm l (d + 2) 0 0 mX11_end [.ref 0, .int x] (shH ru ta rs) I J Rp := by
  refine xm_ofK 0 (X := xxX11) (t := tX11_end) (stop := []) (ini := false) xx11 pl11 rfl kX11_end (fun h => by cases h) (Nat.le_of_ble_eq_true rfl) (fun K hK => ?_)
  by_cases c : 0 ≤ x ∧ x ≤ I 30 1
  · refine c_within_t l d x 0 (I 30 1) _ _ _ _ c.1 c.2 ?_
    refine And.intro (fun _ => h1 c) (fun h => absurd h (show ¬ ((1 : Int32) = (0 : Int32)) by decide))
  · refine c_within_f l d x 0 (I 30 1) _ _ _ _ c ?_
    refine And.intro (fun h => absurd rfl h) (fun _ => h0 c)
set_option maxRecDepth 100000 in
theorem m_end (l : Launch) (d : Nat) (x : Int32) (ru ta : Nat) (rs : List XO) (I : XI) (J : XJ) (Rp : XR) (h1 : 0 ≤ x ∧ x ≤ I 67 3 → Rp (some (.int x)) (shH ru ta rs) (uI I 67 3 x) J) (h0 : ¬ (0 ≤ x ∧ x ≤ I 67 3) → Rp (some (.int (-1))) (shH ru ta rs) I J) : xm l (d + 2) 0 0 mX12_end [.ref 67, .int x] (shH ru ta rs) I J Rp := by
  refine xm_ofK 0 (X := xxX12) (t := tX12_end) (stop := []) (ini := false) xx12 pl12 rfl kX12_end (fun h => by cases h) (Nat.le_of_ble_eq_true rfl) (fun K hK => ?_)
  by_cases c : 0 ≤ x ∧ x ≤ I 67 3
  · refine m_in_t l d x 0 (I 67 3) _ _ _ _ c.1 c.2 ?_
    refine And.intro (fun _ => h1 c) (fun h => absurd h (show ¬ ((1 : Int32) = (0 : Int32)) by decide))
  · refine m_in_f l d x 0 (I 67 3) _ _ _ _ c ?_
    refine And.intro (fun h => absurd rfl h) (fun _ => h0 c)
-- fault
set_option maxRecDepth 100000 in
theorem c_fault (l : Launch) (d : Nat) (x : Int32) (ru ta : Nat) (rs : List XO) (I : XI) (J : XJ) (Rp : XR) (hn : I 35 6 = 0 → Rp (some (.int (-1))) (shH ru ta rs) I J) (h0 : ¬ I 35 6 = 0 → x = 0 → Rp (some (.int (I 35 7))) (shH ru ta rs) I J) (h1 : ¬ I 35 6 = 0 → x = 1 → Rp (some (.int (I 35 8))) (shH ru ta rs) I J) (h2 : ¬ I 35 6 = 0 → ¬ x = 0 → ¬ x = 1 → Rp (some (.int (-1))) (shH ru ta rs) I J) : xm l (d + 1) 0 0 mX11_fault [.ref 0, .int x] (shH ru ta rs) I J Rp := by
  refine xm_ofK 0 (X := xxX11) (t := tX11_fault) (stop := []) (ini := false) xx11 pl11 rfl kX11_fault (fun h => by cases h) (Nat.le_of_ble_eq_true rfl) (fun K hK => ?_)
  refine And.intro (fun r => ?_) (fun r => hn r)
  refine And.intro (fun e => h0 r e) (fun n0 => And.intro (fun e => h1 r e) (fun n1 => h2 r n0 n1))
set_option maxRecDepth 100000 in
theorem m_fault (l : Launch) (d : Nat) (x : Int32) (ru ta : Nat) (rs : List XO) (I : XI) (J : XJ) (Rp : XR) (h0 : x = 0 → Rp (some (.int (I 67 4))) (shH ru ta rs) I J) (h1 : x = 1 → Rp (some (.int (I 67 5))) (shH ru ta rs) I J) (h2 : ¬ x = 0 → ¬ x = 1 → Rp (some (.int (-1))) (shH ru ta rs) I J) : xm l (d + 1) 0 0 mX12_fault [.ref 67, .int x] (shH ru ta rs) I J Rp := by
  refine xm_ofK 0 (X := xxX12) (t := tX12_fault) (stop := []) (ini := false) xx12 pl12 rfl kX12_fault (fun h => by cases h) (Nat.le_of_ble_eq_true rfl) (fun K hK => ?_)
  refine And.intro (fun n0 => ?_) (fun e => h0 e)
  refine And.intro (fun n1 => h2 n0 n1) (fun e => h1 e)
-- the class's text keeps what is told everywhere
def c15 (p : Nat) : Bool := CFc.all fun q => !(Nat.beq q.1 p) || Nat.beq q.2.1 1 || Nat.beq q.2.1 5
theorem cell_15 {p k : Nat} (hp : c15 p = true) (h2 : xlk CFr p = none) (hn : nrm p k = k) (h1 : k ≠ 1) (h5 : k ≠ 5) : cellI CF p k = fr := by
  unfold cellI
  rw [hn]
  split
  · rename_i q e
    exfalso
    have hm := List.mem_of_find?_eq_some e
    have hq := List.find?_some e
    simp only [Bool.and_eq_true] at hq
    have e1 := Nat.eq_of_beq_eq_true hq.1
    have e2 := Nat.eq_of_beq_eq_true hq.2
    unfold c15 at hp
    have y := List.all_eq_true.mp hp q hm
    rw [e1, e2] at y
    have z : Nat.beq p p = true := by simp
    rw [z, Bool.not_true, Bool.false_or, Bool.or_eq_true] at y
    rcases y with y | y
    · exact h1 (Nat.eq_of_beq_eq_true y)
    · exact h5 (Nat.eq_of_beq_eq_true y)
  · split
    · rename_i r e
      have y := h2.symm.trans e
      cases y
    · rfl
theorem cell_in {p k : Nat} {x : Int32} (h : cellI CF p k = fr) : inI (cellI CF p k) x.toInt := by
  rw [h]
  exact inI_fr _
theorem inI_nI {n : Nat} {b : Int} (h : (n : Int) ≤ b) (h2 : n < 2 ^ 31) : inI (0, b) (nI n).toInt := by
  rw [nI_toInt h2]
  exact ⟨by dsimp only; omega, h⟩
theorem tsp_cells {ta : Nat} (ht : TSP ta) : cellI CF ta 1 = (0, 300) ∧ cellI CF ta 5 = (0, 24) ∧ c15 ta = true ∧ xlk CFr ta = none ∧ (∀ k, nrm ta k = k) ∧ (∀ k, cellI CF (ta + 1) k = fr) ∧ (∀ k, cellI CF (ta + 2) k = fr) ∧ (∀ k, cellI CF (ta + 3) k = fr) ∧ ∀ k, cellI CF (ta + 4) k = fr := by
  rcases ht with rfl | rfl | rfl | rfl | rfl
  all_goals exact ⟨by decide +kernel, by decide +kernel, by decide +kernel, by decide +kernel, fun _ => rfl, fun k => cell_frC (by decide +kernel) (by decide +kernel), fun k => cell_frC (by decide +kernel) (by decide +kernel), fun k => cell_frC (by decide +kernel) (by decide +kernel), fun k => cell_frC (by decide +kernel) (by decide +kernel)⟩
theorem cell_35 (k : Nat) : cellI CF 35 k = fr := cell_frC (by decide +kernel) (by decide +kernel)
theorem cell_32 (k : Nat) : cellI CF 32 k = fr := cell_frC (by decide +kernel) (by decide +kernel)
theorem cell_33 (k : Nat) : cellI CF 33 k = fr := cell_frC (by decide +kernel) (by decide +kernel)
theorem cell_34 (k : Nat) : cellI CF 34 k = fr := cell_frC (by decide +kernel) (by decide +kernel)
theorem cell_305 : cellI CF 30 5 = (0, 301) := by decide +kernel
theorem iv_rdf {ta : Nat} (ht : TSP ta) {I I' : XI} (h : RDF ta I I') (hi : ivO CF [] I) : ivO CF [] I' := by
  obtain ⟨f1, f2, ⟨N, hN, eN⟩, ⟨c, hc, ec⟩, ⟨q, hq, eq⟩, _⟩ := h
  obtain ⟨t1, t5, t15, tr, tn, ta1, ta2, ta3, ta4⟩ := tsp_cells ht
  intro p k hn
  by_cases p35 : p = 35
  · subst p35
    exact cell_in (cell_35 k)
  by_cases p30 : p = 30
  · subst p30
    by_cases k5 : k = 5
    · subst k5
      rw [eN, cell_305]
      exact inI_nI (by omega) (by omega)
    · rw [f2 k k5]
      exact hi 30 k rfl
  by_cases p32 : p = 32
  · subst p32
    exact cell_in (cell_32 k)
  by_cases p33 : p = 33
  · subst p33
    exact cell_in (cell_33 k)
  by_cases p34 : p = 34
  · subst p34
    exact cell_in (cell_34 k)
  by_cases pa : p = ta
  · rw [pa]
    by_cases k1 : k = 1
    · rw [k1, ec, t1]
      exact inI_nI (by omega) (by omega)
    · by_cases k5 : k = 5
      · rw [k5, eq, t5]
        exact inI_nI (by omega) (by omega)
      · exact cell_in (cell_15 t15 tr (tn k) k1 k5)
  by_cases pa1 : p = ta + 1
  · rw [pa1]
    exact cell_in (ta1 k)
  by_cases pa2 : p = ta + 2
  · rw [pa2]
    exact cell_in (ta2 k)
  by_cases pa3 : p = ta + 3
  · rw [pa3]
    exact cell_in (ta3 k)
  by_cases pa4 : p = ta + 4
  · rw [pa4]
    exact cell_in (ta4 k)
  rw [f1 p p35 p30 p32 p33 p34 pa pa1 pa2 pa3 pa4]
  exact hi p k hn
theorem tsp_lt {ta : Nat} (ht : TSP ta) : ta + 4 < 67 ∧ 17 < ta ∧ (ta = 18 ∨ 46 < ta) := by
  rcases ht with rfl | rfl | rfl | rfl | rfl <;> decide
theorem qq_rdf {ta : Nat} (ht : TSP ta) {I I' : XI} (h : RDF ta I I') (hq : QQ I) : QQ I' := by
  have z := tsp_lt ht
  refine qq_ok I I' (fun p hp => ?_) hq
  have y : p = 71 ∨ p = 72 ∨ p = 73 ∨ p = 77 ∨ p = 78 := by
    simpa [QPl] using hp
  exact h.1 p (by omega) (by omega) (by omega) (by omega) (by omega) (by omega) (by omega) (by omega) (by omega) (by omega)
theorem rdf_hi {ta : Nat} (ht : TSP ta) {I I' : XI} (h : RDF ta I I') {p : Nat} (hp : p = 0 ∨ p = 6 ∨ p = 31 ∨ 67 ≤ p) : I' p = I p := by
  have z := tsp_lt ht
  exact h.1 p (by omega) (by omega) (by omega) (by omega) (by omega) (by omega) (by omega) (by omega) (by omega) (by omega)
-- behind a text
theorem cell_012 : cellI CF 0 12 = (0, 4) ∧ cellI CF 30 1 = (0, 300) := by decide +kernel
theorem iv_end {I : XI} {x : Int32} {T : Nat} (hi : ivO CF [] I) (hT : T ≤ 300) (hx : 0 ≤ x ∧ x ≤ nI T) : ivO CF [] (uI (uI I 30 1 x) 67 3 x) := by
  have t0 : (0 : Int32).toInt = 0 := rfl
  have a := Int32.le_iff_toInt_le.mp hx.1
  have b := Int32.le_iff_toInt_le.mp hx.2
  rw [t0] at a
  rw [nI_toInt (by omega)] at b
  have c : inI (0, 300) x.toInt := ⟨a, by dsimp only; omega⟩
  exact iv_put (iv_put hi (by rw [cell_301]; exact c)) (by rw [cell_674.2.2.2.1]; exact c)
theorem tp_feed {I I1 I2 : XI} {w : Nat → Int32} {T : Nat} (hT : T + 20 ≤ 300) (hB : ∀ i, i < T → BR (I 31 i) (I 70 i)) (fd : FDm w T 5 I I1) (pd : PDm w T 5 I1 I2) : TPr I2 ∧ (FLr I → FLr I2) ∧ ∀ q, q ≠ 30 → q ≠ 31 → q ≠ 67 → q ≠ 70 → I2 q = I q := by
  obtain ⟨⟨a1, a2, a3⟩, ⟨a4, a5⟩, _⟩ := fd
  obtain ⟨⟨b1, b2, b3⟩, ⟨b4, b5⟩, _⟩ := pd
  have e : ∀ p, p ≠ 30 → p ≠ 31 → p ≠ 67 → p ≠ 70 → I2 p = I p := fun p h1 h2 h3 h4 => (b1 p h3 h4).trans (a1 p h1 h2)
  refine ⟨⟨T + 20, hT, ?_, b3, fun i hi => ?_⟩, fun h => fl_keep h (e 35 (by decide) (by decide) (by decide) (by decide)) ?_ ?_, e⟩
  · rw [b1 30 (by decide) (by decide)]
    exact a3
  · rw [b1 31 (by decide) (by decide)]
    rcases Nat.lt_or_ge i T with c | c
    · rw [a4 i c, b4 i c, a1 70 (by decide) (by decide)]
      exact hB i c
    · obtain ⟨j, rfl⟩ : ∃ j, i = T + j := ⟨i - T, by omega⟩
      rw [a5 j (by omega), b5 j (by omega)]
      exact br_byte _
  · rw [b2 4 (by decide), a1 67 (by decide) (by decide)]
  · rw [b2 5 (by decide), a1 67 (by decide) (by decide)]
theorem tp_end {I : XI} {x : Int32} {T : Nat} (hB : ∀ i, i < T → BR (I 31 i) (I 70 i)) (hT : T ≤ 300) (hx : 0 ≤ x ∧ x ≤ nI T) : TPr (uI (uI I 30 1 x) 67 3 x) := by
  have t0 : (0 : Int32).toInt = 0 := rfl
  have a := Int32.le_iff_toInt_le.mp hx.1
  have b := Int32.le_iff_toInt_le.mp hx.2
  rw [t0] at a
  rw [nI_toInt (by omega)] at b
  obtain ⟨n, en, _, hn, _⟩ := nI_inI (x := x) (a := 0) (b := (T : Int)) ⟨a, b⟩ (by omega)
  have hn : n ≤ T := by omega
  exact ⟨n, by omega, en, en, fun i hi => hB i (by omega)⟩
end
section
-- ===== a need more; what about() tells =====
theorem need_more {I : XI} {TX : Nat → Txt} {H Hi : Hlf} {ta : Nat} {rs : List XO} (hta : ta ∈ txP) (hi : ivO CF [] I) (hq : QQ I) (hg : GRx I TX H Hi) (tp : TPr I) (fl : FLr I) (hu8 : hvU H < 8) (x y : Int32) : lin2 (shH (ruO (hvR H)) ta rs) (uI (uI (uI (uI (uI (uI I 3 (hvU H) x) 4 (hvU H) y) 0 7 (nI (hvU H + 1))) 68 (42 + 2 * hvU H) x) 68 (43 + 2 * hvU H) y) 68 6 (nI (hvU H + 1))) := by
  have n1 := hg.2.2.1.2.2.2.2
  have n2 := hg.2.2.2.2.1.1.2.2.2.2
  refine lin2.need_ (u := hvU H + 1) (x := fun i => if i = hvU H then x else hvX H i) (y := fun i => if i = hvU H then y else hvY H i) hta hi hq hg tp fl (by omega) (fun q a b c e => by rw [uI_ne e, uI_ne e, uI_ne e, uI_ne a, uI_ne c, uI_ne b]) (fun j hj => by rw [uI_ne (by decide), uI_ne (by decide), uI_ne (by decide), uI_eq, upd_n hj, uI_ne (by decide), uI_ne (by decide)]) (fun j hj h2 => by rw [uI_eq, upd_n hj, uI_eq, upd_n (by omega), uI_eq, upd_n (by omega), uI_ne (by decide), uI_ne (by decide), uI_ne (by decide)]) (by rw [uI_ne (by decide), uI_ne (by decide), uI_ne (by decide), uI_rd]) (by rw [uI_rd]) (fun i hi => ?_) (fun i hi => ?_)
  · rw [uI_ne (by decide), uI_ne (by decide), uI_ne (by decide), uI_ne (by decide), uI_ne (by decide), uI_eq, uI_ne (by decide), uI_ne (by decide), uI_ne (by decide), uI_ne (by decide), uI_eq, uI_ne (by decide)]
    by_cases e : i = hvU H
    · subst e
      rw [upd_s, upd_s, if_pos rfl, if_pos rfl]
      exact ⟨rfl, rfl⟩
    · rw [upd_n e, upd_n e, if_neg e, if_neg e]
      exact n1 i (by omega)
  · rw [uI_eq, upd_n (by omega), upd_n (by omega), uI_eq, uI_eq]
    by_cases e : i = hvU H
    · subst e
      rw [upd_n (by omega), upd_s, upd_s, if_pos rfl, if_pos rfl]
      exact ⟨rfl, rfl⟩
    · rw [upd_n (by omega), upd_n (by omega), upd_n (by omega), upd_n (by omega), if_neg e, if_neg e, uI_ne (by decide), uI_ne (by decide), uI_ne (by decide)]
      exact n2 i (by omega)
def abC (I : XI) (x : Int32) : Int32 := if x = nI 0 then I 12 5 else if x = nI 1 then I 12 6 else if x = nI 2 then I 12 7 else if x = nI 3 then I 27 64 else if x = nI 4 then I 27 65 else if x = nI 5 then I 27 66 else if x = nI 6 then I 27 67 else if x = nI 7 then I 27 68 else if x = nI 8 then I 0 12 else if x = nI 9 then I 0 13 else if x = nI 10 then I 1 2 else if x = nI 11 then I 0 7 else if x = nI 12 then I 30 1 else nI 0 - nI 2
def abM (I : XI) (x : Int32) : Int32 := if x = nI 0 then I 68 0 else if x = nI 1 then I 68 1 else if x = nI 2 then I 68 2 else if x = nI 3 then I 68 124 else if x = nI 4 then I 68 125 else if x = nI 5 then I 68 126 else if x = nI 6 then I 68 127 else if x = nI 7 then I 68 128 else if x = nI 8 then I 68 3 else if x = nI 9 then I 68 4 else if x = nI 10 then I 68 5 else if x = nI 11 then I 68 6 else if x = nI 12 then I 67 3 else nI 0 - nI 2
set_option maxRecDepth 100000 in
set_option maxHeartbeats 4000000 in
theorem cd_about (l : Launch) (d : Nat) (ru ta : Nat) (rs : List XO) (I : XI) (J : XJ) (Rp : XR) (x : Int32) (hR : Rp (some (.int (abC I x))) (shH ru ta rs) I J) : xm l (d + 1) 0 0 mX11_about [.ref 0, .int x] (shH ru ta rs) I J Rp := by
  refine xm_ofK 0 (X := xxX11) (t := tX11_about) (stop := []) (ini := false) xx11 pl11 rfl kX11_about (fun h => by cases h) (Nat.le_of_ble_eq_true rfl) (fun K hK => ?_)
  unfold abC at hR
  refine And.intro (fun (z0 : x = nI 0) => ?_) (fun (z0 : ¬ x = nI 0) => ?_)
  · rw [if_pos z0] at hR
    exact hR
  refine And.intro (fun (z1 : x = nI 1) => ?_) (fun (z1 : ¬ x = nI 1) => ?_)
  · rw [if_neg z0, if_pos z1] at hR
    exact hR
  refine And.intro (fun (z2 : x = nI 2) => ?_) (fun (z2 : ¬ x = nI 2) => ?_)
  · rw [if_neg z0, if_neg z1, if_pos z2] at hR
    exact hR
  refine And.intro (fun (z3 : x = nI 3) => ?_) (fun (z3 : ¬ x = nI 3) => ?_)
  · rw [if_neg z0, if_neg z1, if_neg z2, if_pos z3] at hR
    exact And.intro (show vp_in (nI 64) 69 from vp_b (by decide)) hR
  refine And.intro (fun (z4 : x = nI 4) => ?_) (fun (z4 : ¬ x = nI 4) => ?_)
  · rw [if_neg z0, if_neg z1, if_neg z2, if_neg z3, if_pos z4] at hR
    exact And.intro (show vp_in (nI 65) 69 from vp_b (by decide)) hR
  refine And.intro (fun (z5 : x = nI 5) => ?_) (fun (z5 : ¬ x = nI 5) => ?_)
  · rw [if_neg z0, if_neg z1, if_neg z2, if_neg z3, if_neg z4, if_pos z5] at hR
    exact And.intro (show vp_in (nI 66) 69 from vp_b (by decide)) hR
  refine And.intro (fun (z6 : x = nI 6) => ?_) (fun (z6 : ¬ x = nI 6) => ?_)
  · rw [if_neg z0, if_neg z1, if_neg z2, if_neg z3, if_neg z4, if_neg z5, if_pos z6] at hR
    exact And.intro (show vp_in (nI 67) 69 from vp_b (by decide)) hR
  refine And.intro (fun (z7 : x = nI 7) => ?_) (fun (z7 : ¬ x = nI 7) => ?_)
  · rw [if_neg z0, if_neg z1, if_neg z2, if_neg z3, if_neg z4, if_neg z5, if_neg z6, if_pos z7] at hR
    exact And.intro (show vp_in (nI 68) 69 from vp_b (by decide)) hR
  refine And.intro (fun (z8 : x = nI 8) => ?_) (fun (z8 : ¬ x = nI 8) => ?_)
  · rw [if_neg z0, if_neg z1, if_neg z2, if_neg z3, if_neg z4, if_neg z5, if_neg z6, if_neg z7, if_pos z8] at hR
    exact hR
  refine And.intro (fun (z9 : x = nI 9) => ?_) (fun (z9 : ¬ x = nI 9) => ?_)
  · rw [if_neg z0, if_neg z1, if_neg z2, if_neg z3, if_neg z4, if_neg z5, if_neg z6, if_neg z7, if_neg z8, if_pos z9] at hR
    exact hR
  refine And.intro (fun (z10 : x = nI 10) => ?_) (fun (z10 : ¬ x = nI 10) => ?_)
  · rw [if_neg z0, if_neg z1, if_neg z2, if_neg z3, if_neg z4, if_neg z5, if_neg z6, if_neg z7, if_neg z8, if_neg z9, if_pos z10] at hR
    exact hR
  refine And.intro (fun (z11 : x = nI 11) => ?_) (fun (z11 : ¬ x = nI 11) => ?_)
  · rw [if_neg z0, if_neg z1, if_neg z2, if_neg z3, if_neg z4, if_neg z5, if_neg z6, if_neg z7, if_neg z8, if_neg z9, if_neg z10, if_pos z11] at hR
    exact hR
  refine And.intro (fun (z12 : x = nI 12) => ?_) (fun (z12 : ¬ x = nI 12) => ?_)
  · rw [if_neg z0, if_neg z1, if_neg z2, if_neg z3, if_neg z4, if_neg z5, if_neg z6, if_neg z7, if_neg z8, if_neg z9, if_neg z10, if_neg z11, if_pos z12] at hR
    exact hR
  rw [if_neg z0, if_neg z1, if_neg z2, if_neg z3, if_neg z4, if_neg z5, if_neg z6, if_neg z7, if_neg z8, if_neg z9, if_neg z10, if_neg z11, if_neg z12] at hR
  exact hR
set_option maxRecDepth 100000 in
set_option maxHeartbeats 4000000 in
theorem md_about (l : Launch) (d : Nat) (ru ta : Nat) (rs : List XO) (I : XI) (J : XJ) (Rp : XR) (x : Int32) (hR : Rp (some (.int (abM I x))) (shH ru ta rs) I J) : xm l (d + 1) 0 0 mX12_about [.ref 67, .int x] (shH ru ta rs) I J Rp := by
  refine xm_ofK 0 (X := xxX12) (t := tX12_about) (stop := []) (ini := false) xx12 pl12 rfl kX12_about (fun h => by cases h) (Nat.le_of_ble_eq_true rfl) (fun K hK => ?_)
  unfold abM at hR
  refine And.intro (fun (z0 : x = nI 0) => ?_) (fun (z0 : ¬ x = nI 0) => ?_)
  · rw [if_pos z0] at hR
    exact And.intro (show vp_in (nI 0) 2200 from vp_b (by decide)) hR
  refine And.intro (fun (z1 : x = nI 1) => ?_) (fun (z1 : ¬ x = nI 1) => ?_)
  · rw [if_neg z0, if_pos z1] at hR
    exact And.intro (show vp_in (nI 1) 2200 from vp_b (by decide)) hR
  refine And.intro (fun (z2 : x = nI 2) => ?_) (fun (z2 : ¬ x = nI 2) => ?_)
  · rw [if_neg z0, if_neg z1, if_pos z2] at hR
    exact And.intro (show vp_in (nI 2) 2200 from vp_b (by decide)) hR
  refine And.intro (fun (z3 : x = nI 3) => ?_) (fun (z3 : ¬ x = nI 3) => ?_)
  · rw [if_neg z0, if_neg z1, if_neg z2, if_pos z3] at hR
    exact And.intro (show vp_in (nI 124) 2200 from vp_b (by decide)) hR
  refine And.intro (fun (z4 : x = nI 4) => ?_) (fun (z4 : ¬ x = nI 4) => ?_)
  · rw [if_neg z0, if_neg z1, if_neg z2, if_neg z3, if_pos z4] at hR
    exact And.intro (show vp_in (nI 125) 2200 from vp_b (by decide)) hR
  refine And.intro (fun (z5 : x = nI 5) => ?_) (fun (z5 : ¬ x = nI 5) => ?_)
  · rw [if_neg z0, if_neg z1, if_neg z2, if_neg z3, if_neg z4, if_pos z5] at hR
    exact And.intro (show vp_in (nI 126) 2200 from vp_b (by decide)) hR
  refine And.intro (fun (z6 : x = nI 6) => ?_) (fun (z6 : ¬ x = nI 6) => ?_)
  · rw [if_neg z0, if_neg z1, if_neg z2, if_neg z3, if_neg z4, if_neg z5, if_pos z6] at hR
    exact And.intro (show vp_in (nI 127) 2200 from vp_b (by decide)) hR
  refine And.intro (fun (z7 : x = nI 7) => ?_) (fun (z7 : ¬ x = nI 7) => ?_)
  · rw [if_neg z0, if_neg z1, if_neg z2, if_neg z3, if_neg z4, if_neg z5, if_neg z6, if_pos z7] at hR
    exact And.intro (show vp_in (nI 128) 2200 from vp_b (by decide)) hR
  refine And.intro (fun (z8 : x = nI 8) => ?_) (fun (z8 : ¬ x = nI 8) => ?_)
  · rw [if_neg z0, if_neg z1, if_neg z2, if_neg z3, if_neg z4, if_neg z5, if_neg z6, if_neg z7, if_pos z8] at hR
    exact And.intro (show vp_in (nI 3) 2200 from vp_b (by decide)) hR
  refine And.intro (fun (z9 : x = nI 9) => ?_) (fun (z9 : ¬ x = nI 9) => ?_)
  · rw [if_neg z0, if_neg z1, if_neg z2, if_neg z3, if_neg z4, if_neg z5, if_neg z6, if_neg z7, if_neg z8, if_pos z9] at hR
    exact And.intro (show vp_in (nI 4) 2200 from vp_b (by decide)) hR
  refine And.intro (fun (z10 : x = nI 10) => ?_) (fun (z10 : ¬ x = nI 10) => ?_)
  · rw [if_neg z0, if_neg z1, if_neg z2, if_neg z3, if_neg z4, if_neg z5, if_neg z6, if_neg z7, if_neg z8, if_neg z9, if_pos z10] at hR
    exact And.intro (show vp_in (nI 5) 2200 from vp_b (by decide)) hR
  refine And.intro (fun (z11 : x = nI 11) => ?_) (fun (z11 : ¬ x = nI 11) => ?_)
  · rw [if_neg z0, if_neg z1, if_neg z2, if_neg z3, if_neg z4, if_neg z5, if_neg z6, if_neg z7, if_neg z8, if_neg z9, if_neg z10, if_pos z11] at hR
    exact And.intro (show vp_in (nI 6) 2200 from vp_b (by decide)) hR
  refine And.intro (fun (z12 : x = nI 12) => ?_) (fun (z12 : ¬ x = nI 12) => ?_)
  · rw [if_neg z0, if_neg z1, if_neg z2, if_neg z3, if_neg z4, if_neg z5, if_neg z6, if_neg z7, if_neg z8, if_neg z9, if_neg z10, if_neg z11, if_pos z12] at hR
    exact hR
  rw [if_neg z0, if_neg z1, if_neg z2, if_neg z3, if_neg z4, if_neg z5, if_neg z6, if_neg z7, if_neg z8, if_neg z9, if_neg z10, if_neg z11, if_neg z12] at hR
  exact hR
theorem about_two {I : XI} {TX : Nat → Txt} {H Hi : Hlf} (hg : GRx I TX H Hi) (tp : TPr I) (x : Int32) : ∃ r : Int32, (∀ (l : Launch) (d : Nat) (ru ta : Nat) (rs : List XO) (J : XJ) (Rp : XR), Rp (some (.int r)) (shH ru ta rs) I J → xm l (d + 1) 0 0 mX11_about [.ref 0, .int x] (shH ru ta rs) I J Rp) ∧ ∀ (l : Launch) (d : Nat) (ru ta : Nat) (rs : List XO) (J : XJ) (Rp : XR), Rp (some (.int r)) (shH ru ta rs) I J → xm l (d + 1) 0 0 mX12_about [.ref 67, .int x] (shH ru ta rs) I J Rp := by
  have e : abC I x = abM I x := by
    obtain ⟨_, _, ⟨⟨htd, hrc, hn, first, hf, s1, s2, _⟩, e13, e12, e7, _⟩, _, ⟨⟨⟨hm, hww, hsm⟩, m4, m3, m6, _⟩, _⟩, _⟩ := hg
    obtain ⟨T, _, t1, t2, _⟩ := tp
    have w : ∀ k, 64 ≤ k → k < 69 → I 27 k = I 68 (60 + k) := fun k a b => (hrc.hi a b).trans (hww k b).symm
    have q0 : I 68 0 = _ := hm.1
    have q1 : I 68 1 = _ := hm.2.1
    have q2 : I 68 2 = _ := hm.2.2.1
    have q5 : I 68 5 = _ := hsm.2.1
    unfold abC abM
    rw [htd.1.trans q0.symm, htd.2.1.trans q1.symm, htd.2.2.1.trans q2.symm, w 64 (by decide) (by decide), w 65 (by decide) (by decide), w 66 (by decide) (by decide), w 67 (by decide) (by decide), w 68 (by decide) (by decide), e12.trans m3.symm, e13.trans m4.symm, s2.trans q5.symm, e7.trans m6.symm, t1.trans t2.symm]
  exact ⟨abC I x, fun l d ru ta rs J Rp h => cd_about l d ru ta rs I J Rp x h, fun l d ru ta rs J Rp h => md_about l d ru ta rs I J Rp x (by rw [← e]; exact h)⟩
end
section
-- ===== played, both sides =====
def aD (D : List Nat) (x : Nat) : Int32 := nI (D.getD x 0)
def b2 (b : Bool) : Int32 := if b = true then 1 else 0
/-- a clause is done; whether it could be -/
def doS (L : Lws) (A : Ast) (w : Nat) (D : List Nat) : Bool × Ast := match w with
  | 5 => (!(decide ((thS A (aD D 0) (aD D 1) (aD D 2)).1 = -1)), (thS A (aD D 0) (aD D 1) (aD D 2)).2)
  | 6 => (!(decide ((reS A (aD D 0)).1 = -1)), (reS A (aD D 0)).2)
  | 7 => (!(decide ((baS A (aD D 0)).1 = -1)), (baS A (aD D 0)).2)
  | 8 => (!(decide ((cutS L A (aD D 0) (aD D 1) (aD D 2)).1 = -1)), (cutS L A (aD D 0) (aD D 1) (aD D 2)).2)
  | 9 => (!(decide ((lastS A (aD D 0) (aD D 1)).1 = -1)), (lastS A (aD D 0) (aD D 1)).2)
  | 10 => (!(decide ((useS A (aD D 0) (aD D 1)).1 = -1)), (useS A (aD D 0) (aD D 1)).2)
  | 11 => (decide ((moveS A (aD D 0) (aD D 1)).1 = 1), (moveS A (aD D 0) (aD D 1)).2)
  | 12 => (!(decide ((sellS L A (aD D 0)).1 = -1)), (sellS L A (aD D 0)).2)
  | 13 => (decide (phC L (D.getD 0 0) A = D.getD 0 0), phS L (D.getD 0 0) A)
  | _ => (true, A)
theorem dSe_5 (L : Lws) (A : Ast) (D : List Nat) : doS L A 5 D = (!(decide ((thS A (aD D 0) (aD D 1) (aD D 2)).1 = -1)), (thS A (aD D 0) (aD D 1) (aD D 2)).2) := rfl
theorem dSe_6 (L : Lws) (A : Ast) (D : List Nat) : doS L A 6 D = (!(decide ((reS A (aD D 0)).1 = -1)), (reS A (aD D 0)).2) := rfl
theorem dSe_7 (L : Lws) (A : Ast) (D : List Nat) : doS L A 7 D = (!(decide ((baS A (aD D 0)).1 = -1)), (baS A (aD D 0)).2) := rfl
theorem dSe_8 (L : Lws) (A : Ast) (D : List Nat) : doS L A 8 D = (!(decide ((cutS L A (aD D 0) (aD D 1) (aD D 2)).1 = -1)), (cutS L A (aD D 0) (aD D 1) (aD D 2)).2) := rfl
theorem dSe_9 (L : Lws) (A : Ast) (D : List Nat) : doS L A 9 D = (!(decide ((lastS A (aD D 0) (aD D 1)).1 = -1)), (lastS A (aD D 0) (aD D 1)).2) := rfl
theorem dSe_10 (L : Lws) (A : Ast) (D : List Nat) : doS L A 10 D = (!(decide ((useS A (aD D 0) (aD D 1)).1 = -1)), (useS A (aD D 0) (aD D 1)).2) := rfl
theorem dSe_11 (L : Lws) (A : Ast) (D : List Nat) : doS L A 11 D = (decide ((moveS A (aD D 0) (aD D 1)).1 = 1), (moveS A (aD D 0) (aD D 1)).2) := rfl
theorem dSe_12 (L : Lws) (A : Ast) (D : List Nat) : doS L A 12 D = (!(decide ((sellS L A (aD D 0)).1 = -1)), (sellS L A (aD D 0)).2) := rfl
theorem dSe_13 (L : Lws) (A : Ast) (D : List Nat) : doS L A 13 D = (decide (phC L (D.getD 0 0) A = D.getD 0 0), phS L (D.getD 0 0) A) := rfl
def plS (L : Lws) (x : Txt) : Nat → Nat → Ast → Int32 × Ast
  | 0, _, A => (-1, A)
  | m + 1, i, A => if (doS L A ((tqW x).getD i 0) ((tqA x).getD i (0, [])).2).1 = true then plS L x m (i + 1) (doS L A ((tqW x).getD i 0) ((tqA x).getD i (0, [])).2).2 else (nI i, (doS L A ((tqW x).getD i 0) ((tqA x).getD i (0, [])).2).2)
theorem AOK.doS {L : Lws} {A : Ast} (h : AOK A) (w : Nat) (D : List Nat) : AOK (doS L A w D).2 := by
  match w with
  | 5 =>
    rw [dSe_5]
    exact h.th _ _ _
  | 6 =>
    rw [dSe_6]
    exact h.re _
  | 7 =>
    rw [dSe_7]
    exact h.ba _
  | 8 =>
    rw [dSe_8]
    exact h.cut _ _ _
  | 9 =>
    rw [dSe_9]
    exact h.last _ _
  | 10 =>
    rw [dSe_10]
    exact h.use _ _
  | 11 =>
    rw [dSe_11]
    exact h.move _ _
  | 12 =>
    rw [dSe_12]
    exact h.sell _
  | 13 =>
    rw [dSe_13]
    exact AOK.ph _ h
  | 0 | 1 | 2 | 3 | 4 => exact h
  | w + 14 => exact h
theorem q_doS {L : Lws} {A : Ast} (w : Nat) (D : List Nat) : Tle (oQ A) (oQ (doS L A w D).2) := by
  match w with
  | 5 =>
    rw [dSe_5]
    exact q_th
  | 6 =>
    rw [dSe_6]
    exact q_re
  | 7 =>
    rw [dSe_7]
    exact q_ba
  | 8 =>
    rw [dSe_8]
    exact Tle.eq q_cut
  | 9 =>
    rw [dSe_9]
    exact Tle.eq q_last
  | 10 =>
    rw [dSe_10]
    exact Tle.eq q_use
  | 11 =>
    rw [dSe_11]
    exact Tle.eq q_move
  | 12 =>
    rw [dSe_12]
    exact Tle.eq q_sell
  | 13 =>
    rw [dSe_13]
    exact Tle.eq (q_ph _)
  | 0 | 1 | 2 | 3 | 4 => exact Tle.rf _
  | w + 14 => exact Tle.rf _
theorem plS_ok {L : Lws} {x : Txt} : ∀ (m i : Nat) {A : Ast}, AOK A → AOK (plS L x m i A).2
  | 0, _, _, h => h
  | m + 1, i, A, h => by
    unfold plS
    split
    · exact plS_ok m (i + 1) (h.doS _ _)
    · exact h.doS _ _
theorem q_plS {L : Lws} {x : Txt} : ∀ (m i : Nat) {A : Ast}, Tle (oQ A) (oQ (plS L x m i A).2)
  | 0, _, _ => Tle.rf _
  | m + 1, i, A => by
    unfold plS
    split
    · exact (q_doS _ _).tr (q_plS m (i + 1))
    · exact q_doS _ _
theorem mv_01 {A : Ast} {x y : Int32} : (moveS A x y).1 = 0 ∨ (moveS A x y).1 = 1 := by
  unfold moveS
  split
  · exact Or.inr rfl
  · exact Or.inl rfl
theorem phC_le {L : Lws} : ∀ (k : Nat) {A : Ast}, phC L k A ≤ k
  | 0, _ => Nat.le_refl _
  | k + 1, A => by
    unfold phC
    split
    · have := phC_le (L := L) k (A := stp A (hrR (oQ A) L (oW A)))
      omega
    · omega
set_option maxRecDepth 100000 in
set_option maxHeartbeats 8000000 in
theorem cd_perform (l : Launch) (d : Nat) (ru ta : Nat) (rs : List XO) (I : XI) (J : XJ) (Rp : XR) (L : Lws) (A : Ast) (hA : AOK A) (h : CA I ru L A) (w : Nat) (hw : w ≤ 13) (D : List Nat) (hD : 4 < w → D.length = (fmS w).length) (hb : ∀ x, x ∈ D → x ≤ 10000) (c1 c2 c3 : Int32) (e1 : 4 < w → 0 < D.length → c1 = aD D 0) (e2 : 4 < w → 1 < D.length → c2 = aD D 1) (e3 : 4 < w → 2 < D.length → c3 = aD D 2) (hR : ∀ (I' : XI) (J' : XJ), FCl I I' → CA I' ru L (doS L A w D).2 → Rp (some (.int (b2 (doS L A w D).1))) (shH ru ta rs) I' J') : xm l (d + 10) 0 0 mX11_perform [.ref 0, .int (nI w), .int c1, .int c2, .int c3] (shH ru ta rs) I J Rp := by
  refine xm_ofK 0 (X := xxX11) (t := tX11_perform) (stop := []) (ini := false) xx11 pl11 rfl kX11_perform (fun h => by cases h) (Nat.le_of_ble_eq_true rfl) (fun K hK => ?_)
  have yw : w = 0 ∨ w = 1 ∨ w = 2 ∨ w = 3 ∨ w = 4 ∨ w = 5 ∨ w = 6 ∨ w = 7 ∨ w = 8 ∨ w = 9 ∨ w = 10 ∨ w = 11 ∨ w = 12 ∨ w = 13 := by omega
  rcases yw with rfl | rfl | rfl | rfl | rfl | rfl | rfl | rfl | rfl | rfl | rfl | rfl | rfl | rfl
  · refine And.intro (fun z => absurd z (by decide)) (fun _ => ?_)
    refine And.intro (fun z => absurd z (by decide)) (fun _ => ?_)
    refine And.intro (fun z => absurd z (by decide)) (fun _ => ?_)
    refine And.intro (fun z => absurd z (by decide)) (fun _ => ?_)
    refine And.intro (fun z => absurd z (by decide)) (fun _ => ?_)
    refine And.intro (fun z => absurd z (by decide)) (fun _ => ?_)
    refine And.intro (fun z => absurd z (by decide)) (fun _ => ?_)
    refine And.intro (fun z => absurd z (by decide)) (fun _ => ?_)
    refine And.intro (fun z => absurd z (by decide)) (fun _ => ?_)
    exact And.intro (Or.inr rfl) (hR I J FCl.rf h)
  · refine And.intro (fun z => absurd z (by decide)) (fun _ => ?_)
    refine And.intro (fun z => absurd z (by decide)) (fun _ => ?_)
    refine And.intro (fun z => absurd z (by decide)) (fun _ => ?_)
    refine And.intro (fun z => absurd z (by decide)) (fun _ => ?_)
    refine And.intro (fun z => absurd z (by decide)) (fun _ => ?_)
    refine And.intro (fun z => absurd z (by decide)) (fun _ => ?_)
    refine And.intro (fun z => absurd z (by decide)) (fun _ => ?_)
    refine And.intro (fun z => absurd z (by decide)) (fun _ => ?_)
    refine And.intro (fun z => absurd z (by decide)) (fun _ => ?_)
    exact And.intro (Or.inr rfl) (hR I J FCl.rf h)
  · refine And.intro (fun z => absurd z (by decide)) (fun _ => ?_)
    refine And.intro (fun z => absurd z (by decide)) (fun _ => ?_)
    refine And.intro (fun z => absurd z (by decide)) (fun _ => ?_)
    refine And.intro (fun z => absurd z (by decide)) (fun _ => ?_)
    refine And.intro (fun z => absurd z (by decide)) (fun _ => ?_)
    refine And.intro (fun z => absurd z (by decide)) (fun _ => ?_)
    refine And.intro (fun z => absurd z (by decide)) (fun _ => ?_)
    refine And.intro (fun z => absurd z (by decide)) (fun _ => ?_)
    refine And.intro (fun z => absurd z (by decide)) (fun _ => ?_)
    exact And.intro (Or.inr rfl) (hR I J FCl.rf h)
  · refine And.intro (fun z => absurd z (by decide)) (fun _ => ?_)
    refine And.intro (fun z => absurd z (by decide)) (fun _ => ?_)
    refine And.intro (fun z => absurd z (by decide)) (fun _ => ?_)
    refine And.intro (fun z => absurd z (by decide)) (fun _ => ?_)
    refine And.intro (fun z => absurd z (by decide)) (fun _ => ?_)
    refine And.intro (fun z => absurd z (by decide)) (fun _ => ?_)
    refine And.intro (fun z => absurd z (by decide)) (fun _ => ?_)
    refine And.intro (fun z => absurd z (by decide)) (fun _ => ?_)
    refine And.intro (fun z => absurd z (by decide)) (fun _ => ?_)
    exact And.intro (Or.inr rfl) (hR I J FCl.rf h)
  · refine And.intro (fun z => absurd z (by decide)) (fun _ => ?_)
    refine And.intro (fun z => absurd z (by decide)) (fun _ => ?_)
    refine And.intro (fun z => absurd z (by decide)) (fun _ => ?_)
    refine And.intro (fun z => absurd z (by decide)) (fun _ => ?_)
    refine And.intro (fun z => absurd z (by decide)) (fun _ => ?_)
    refine And.intro (fun z => absurd z (by decide)) (fun _ => ?_)
    refine And.intro (fun z => absurd z (by decide)) (fun _ => ?_)
    refine And.intro (fun z => absurd z (by decide)) (fun _ => ?_)
    refine And.intro (fun z => absurd z (by decide)) (fun _ => ?_)
    exact And.intro (Or.inr rfl) (hR I J FCl.rf h)
  · refine And.intro (fun _ => ?_) (fun z => absurd rfl z)
    have hl : D.length = 3 := hD (by decide)
    have x1 := e1 (by decide) (by omega)
    subst x1
    have x2 := e2 (by decide) (by omega)
    subst x2
    have x3 := e3 (by decide) (by omega)
    subst x3
    refine cd_thing l (d + 7) ru ta rs I J _ L A hA h (aD D 0) (aD D 1) (aD D 2) (fun I1 J1 fc c1 => ?_)
    have y : Rp (some (.int (b2 (!(decide ((thS A (aD D 0) (aD D 1) (aD D 2)).1 = -1)))))) (shH ru ta rs) I1 J1 := hR I1 J1 fc c1
    refine And.intro (fun (z : (thS A (aD D 0) (aD D 1) (aD D 2)).1 = -1) => ?_) (fun (z : ¬ (thS A (aD D 0) (aD D 1) (aD D 2)).1 = -1) => ?_)
    · rw [decide_eq_true z] at y
      exact And.intro (Or.inl rfl) y
    · rw [decide_eq_false z] at y
      exact And.intro (Or.inr rfl) y
  · refine And.intro (fun z => absurd z (by decide)) (fun _ => ?_)
    refine And.intro (fun _ => ?_) (fun z => absurd rfl z)
    have hl : D.length = 1 := hD (by decide)
    have x1 := e1 (by decide) (by omega)
    subst x1
    refine cd_reaper l (d + 7) ru ta rs I J _ L A hA h (aD D 0) (fun I1 J1 fc c1 => ?_)
    have y : Rp (some (.int (b2 (!(decide ((reS A (aD D 0)).1 = -1)))))) (shH ru ta rs) I1 J1 := hR I1 J1 fc c1
    refine And.intro (fun (z : (reS A (aD D 0)).1 = -1) => ?_) (fun (z : ¬ (reS A (aD D 0)).1 = -1) => ?_)
    · rw [decide_eq_true z] at y
      exact And.intro (Or.inl rfl) y
    · rw [decide_eq_false z] at y
      exact And.intro (Or.inr rfl) y
  · refine And.intro (fun z => absurd z (by decide)) (fun _ => ?_)
    refine And.intro (fun z => absurd z (by decide)) (fun _ => ?_)
    refine And.intro (fun _ => ?_) (fun z => absurd rfl z)
    have hl : D.length = 1 := hD (by decide)
    have x1 := e1 (by decide) (by omega)
    subst x1
    refine cd_barn l (d + 7) ru ta rs I J _ L A hA h (aD D 0) (fun I1 J1 fc c1 => ?_)
    have y : Rp (some (.int (b2 (!(decide ((baS A (aD D 0)).1 = -1)))))) (shH ru ta rs) I1 J1 := hR I1 J1 fc c1
    refine And.intro (fun (z : (baS A (aD D 0)).1 = -1) => ?_) (fun (z : ¬ (baS A (aD D 0)).1 = -1) => ?_)
    · rw [decide_eq_true z] at y
      exact And.intro (Or.inl rfl) y
    · rw [decide_eq_false z] at y
      exact And.intro (Or.inr rfl) y
  · refine And.intro (fun z => absurd z (by decide)) (fun _ => ?_)
    refine And.intro (fun z => absurd z (by decide)) (fun _ => ?_)
    refine And.intro (fun z => absurd z (by decide)) (fun _ => ?_)
    refine And.intro (fun _ => ?_) (fun z => absurd rfl z)
    have hl : D.length = 3 := hD (by decide)
    have x1 := e1 (by decide) (by omega)
    subst x1
    have x2 := e2 (by decide) (by omega)
    subst x2
    have x3 := e3 (by decide) (by omega)
    subst x3
    refine cd_cut l (d + 0) ru ta rs I J _ L A hA h (aD D 0) (aD D 1) (aD D 2) (fun I1 J1 fc c1 => ?_)
    have y : Rp (some (.int (b2 (!(decide ((cutS L A (aD D 0) (aD D 1) (aD D 2)).1 = -1)))))) (shH ru ta rs) I1 J1 := hR I1 J1 fc c1
    refine And.intro (fun (z : (cutS L A (aD D 0) (aD D 1) (aD D 2)).1 = -1) => ?_) (fun (z : ¬ (cutS L A (aD D 0) (aD D 1) (aD D 2)).1 = -1) => ?_)
    · rw [decide_eq_true z] at y
      exact And.intro (Or.inl rfl) y
    · rw [decide_eq_false z] at y
      exact And.intro (Or.inr rfl) y
  · refine And.intro (fun z => absurd z (by decide)) (fun _ => ?_)
    refine And.intro (fun z => absurd z (by decide)) (fun _ => ?_)
    refine And.intro (fun z => absurd z (by decide)) (fun _ => ?_)
    refine And.intro (fun z => absurd z (by decide)) (fun _ => ?_)
    refine And.intro (fun _ => ?_) (fun z => absurd rfl z)
    have hl : D.length = 2 := hD (by decide)
    have x1 := e1 (by decide) (by omega)
    subst x1
    have x2 := e2 (by decide) (by omega)
    subst x2
    refine cd_last l (d + 3) ru ta rs I J _ L A hA h (aD D 0) (aD D 1) (fun I1 J1 fc c1 => ?_)
    have y : Rp (some (.int (b2 (!(decide ((lastS A (aD D 0) (aD D 1)).1 = -1)))))) (shH ru ta rs) I1 J1 := hR I1 J1 fc c1
    refine And.intro (fun (z : (lastS A (aD D 0) (aD D 1)).1 = -1) => ?_) (fun (z : ¬ (lastS A (aD D 0) (aD D 1)).1 = -1) => ?_)
    · rw [decide_eq_true z] at y
      exact And.intro (Or.inl rfl) y
    · rw [decide_eq_false z] at y
      exact And.intro (Or.inr rfl) y
  · refine And.intro (fun z => absurd z (by decide)) (fun _ => ?_)
    refine And.intro (fun z => absurd z (by decide)) (fun _ => ?_)
    refine And.intro (fun z => absurd z (by decide)) (fun _ => ?_)
    refine And.intro (fun z => absurd z (by decide)) (fun _ => ?_)
    refine And.intro (fun z => absurd z (by decide)) (fun _ => ?_)
    refine And.intro (fun _ => ?_) (fun z => absurd rfl z)
    have hl : D.length = 2 := hD (by decide)
    have x1 := e1 (by decide) (by omega)
    subst x1
    have x2 := e2 (by decide) (by omega)
    subst x2
    refine cd_use l (d + 3) ru ta rs I J _ L A hA h (aD D 0) (aD D 1) (fun I1 J1 fc c1 => ?_)
    have y : Rp (some (.int (b2 (!(decide ((useS A (aD D 0) (aD D 1)).1 = -1)))))) (shH ru ta rs) I1 J1 := hR I1 J1 fc c1
    refine And.intro (fun (z : (useS A (aD D 0) (aD D 1)).1 = -1) => ?_) (fun (z : ¬ (useS A (aD D 0) (aD D 1)).1 = -1) => ?_)
    · rw [decide_eq_true z] at y
      exact And.intro (Or.inl rfl) y
    · rw [decide_eq_false z] at y
      exact And.intro (Or.inr rfl) y
  · refine And.intro (fun z => absurd z (by decide)) (fun _ => ?_)
    refine And.intro (fun z => absurd z (by decide)) (fun _ => ?_)
    refine And.intro (fun z => absurd z (by decide)) (fun _ => ?_)
    refine And.intro (fun z => absurd z (by decide)) (fun _ => ?_)
    refine And.intro (fun z => absurd z (by decide)) (fun _ => ?_)
    refine And.intro (fun z => absurd z (by decide)) (fun _ => ?_)
    refine And.intro (fun _ => ?_) (fun z => absurd rfl z)
    have hl : D.length = 2 := hD (by decide)
    have x1 := e1 (by decide) (by omega)
    subst x1
    have x2 := e2 (by decide) (by omega)
    subst x2
    refine cd_move l (d + 3) ru ta rs I J _ L A hA h (aD D 0) (aD D 1) (fun I1 J1 fc c1 => ?_)
    have y : Rp (some (.int (b2 (decide ((moveS A (aD D 0) (aD D 1)).1 = 1))))) (shH ru ta rs) I1 J1 := hR I1 J1 fc c1
    rcases mv_01 (A := A) (x := aD D 0) (y := aD D 1) with e | e
    · rw [e] at y ⊢
      exact And.intro (Or.inl rfl) y
    · rw [e] at y ⊢
      exact And.intro (Or.inr rfl) y
  · refine And.intro (fun z => absurd z (by decide)) (fun _ => ?_)
    refine And.intro (fun z => absurd z (by decide)) (fun _ => ?_)
    refine And.intro (fun z => absurd z (by decide)) (fun _ => ?_)
    refine And.intro (fun z => absurd z (by decide)) (fun _ => ?_)
    refine And.intro (fun z => absurd z (by decide)) (fun _ => ?_)
    refine And.intro (fun z => absurd z (by decide)) (fun _ => ?_)
    refine And.intro (fun z => absurd z (by decide)) (fun _ => ?_)
    refine And.intro (fun _ => ?_) (fun z => absurd rfl z)
    have hl : D.length = 1 := hD (by decide)
    have x1 := e1 (by decide) (by omega)
    subst x1
    refine cd_sell l (d + 1) ru ta rs I J _ L A hA h (aD D 0) (fun I1 J1 fc c1 => ?_)
    have y : Rp (some (.int (b2 (!(decide ((sellS L A (aD D 0)).1 = -1)))))) (shH ru ta rs) I1 J1 := hR I1 J1 fc c1
    refine And.intro (fun (z : (sellS L A (aD D 0)).1 = -1) => ?_) (fun (z : ¬ (sellS L A (aD D 0)).1 = -1) => ?_)
    · rw [decide_eq_true z] at y
      exact And.intro (Or.inl rfl) y
    · rw [decide_eq_false z] at y
      exact And.intro (Or.inr rfl) y
  · refine And.intro (fun z => absurd z (by decide)) (fun _ => ?_)
    refine And.intro (fun z => absurd z (by decide)) (fun _ => ?_)
    refine And.intro (fun z => absurd z (by decide)) (fun _ => ?_)
    refine And.intro (fun z => absurd z (by decide)) (fun _ => ?_)
    refine And.intro (fun z => absurd z (by decide)) (fun _ => ?_)
    refine And.intro (fun z => absurd z (by decide)) (fun _ => ?_)
    refine And.intro (fun z => absurd z (by decide)) (fun _ => ?_)
    refine And.intro (fun z => absurd z (by decide)) (fun _ => ?_)
    refine And.intro (fun _ => ?_) (fun z => absurd rfl z)
    have hl : D.length = 1 := hD (by decide)
    have x1 := e1 (by decide) (by omega)
    subst x1
    have hk : D.getD 0 0 ≤ 10000 := hb _ (getD_mem (by omega))
    refine cd_ph l (d + 3) ru ta rs I J _ L A hA h (D.getD 0 0) hk (fun I1 J1 fc c1 => ?_)
    have y : Rp (some (.int (b2 (decide (phC L (D.getD 0 0) A = D.getD 0 0))))) (shH ru ta rs) I1 J1 := hR I1 J1 fc c1
    have le := phC_le (L := L) (D.getD 0 0) (A := A)
    refine And.intro (fun (z : ¬ nI (phC L (D.getD 0 0) A) = nI (D.getD 0 0)) => ?_) (fun (z : nI (phC L (D.getD 0 0) A) = nI (D.getD 0 0)) => ?_)
    · rw [decide_eq_false (fun q => z (by rw [q]))] at y
      exact And.intro (Or.inl rfl) y
    · rw [decide_eq_true (nI_inj z (by omega) (by omega))] at y
      exact And.intro (Or.inr rfl) y
abbrev clz (l : Launch) (d t : Nat) (ru ta : Nat) (rs : List XO) (J : XJ) (Rp : XR) (n : Nat) (v : Int32) (N i : Nat) (o5 o6 : Option Value) (I : XI) : Prop := xrun xxX11 (some .int) false false (shH ru ta rs).length 0 0 none l (d + 14) tX11_played [38] Rp n 38 [some (.ref 0), some (.int v), some (.ref (47 + 5 * t + 4)), some (.int (nI N)), some (.int (nI i)), o5, o6] [] (shH ru ta rs) I J 0 0
set_option maxRecDepth 100000 in
set_option maxHeartbeats 8000000 in
theorem cd_pl_loop (l : Launch) (d t : Nat) (ht : t < 4) (ru ta : Nat) (rs : List XO) (I : XI) (Rp : XR) (L : Lws) (v : Int32) (x : Txt) (c : Nat) (g : GT (47 + 5 * t) I (tqW x) c (tqE x) (tqA x)) (db : DNb (tqA x)) (h24 : (tqW x).length ≤ 24) (V : Int32 × Ast) (hR : ∀ (I' : XI) (J' : XJ), FCl I I' → CA I' ru L V.2 → Rp (some (.int V.1)) (shH ru ta rs) I' J') : ∀ (m i n : Nat) (J : XJ) (I1 : XI) (A : Ast) (o5 o6 : Option Value), i + m = (tqW x).length → m < n → FCl I I1 → AOK A → CA I1 ru L A → plS L x m i A = V → clz l d t ru ta rs J Rp n v (tqW x).length i o5 o6 I1 := by
  intro m
  induction m with
  | zero =>
    intro i n J I1 A o5 o6 hi hn f hA h eV
    obtain ⟨n, rfl⟩ : ∃ n', n = n' + 1 := ⟨n - 1, by omega⟩
    have hi : i = (tqW x).length := by omega
    have e : V = (-1, A) := eV.symm
    rw [e] at hR
    refine xrun_step fun K hK => ?_
    refine And.intro (fun _ => ?_) (fun z => absurd (show nI (tqW x).length ≤ nI i from by rw [hi]; exact Int32.le_refl _) z)
    exact hR I1 J f h
  | succ m ih =>
    intro i n J I1 A o5 o6 hi hn f hA h eV
    obtain ⟨n, rfl⟩ : ∃ n', n = n' + 1 := ⟨n - 1, by omega⟩
    have hi24 : i < 24 := by omega
    have cl := g.2 i (by omega)
    have em : nI i * nI 4 = nI (4 * i) := by rw [nI_mul, Nat.mul_comm]
    have ix : ∀ j, j < 4 → (nI i * nI 4 + nI j).toNatClampNeg = 4 * i + j ∧ vp_in (nI i * nI 4 + nI j) 96 := fun j hj => by
      rw [em, nI_add]
      exact ⟨nI_clamp (by omega), vp_in_nI (by omega) (by omega)⟩
    have ix0 : (nI i * nI 4).toNatClampNeg = 4 * i ∧ vp_in (nI i * nI 4) 96 := by
      rw [em]
      exact ⟨nI_clamp (by omega), vp_in_nI (by omega) (by omega)⟩
    have row : I1 (47 + 5 * t + 4) = I (47 + 5 * t + 4) := f _ (by omega) (by omega) (by omega) (by omega) (by omega)
    have dm : ∀ y, y ∈ ((tqA x).getD i (0, [])).2 → y ≤ 10000 := fun y hy => by
      refine db _ ?_ y hy
      rw [List.getD_eq_getElem?_getD, List.getElem?_eq_getElem (by rw [g.1]; omega)]
      exact List.getElem_mem _
    have go : ∀ (Rq : XR), (∀ (I' : XI) (J' : XJ), FCl I1 I' → CA I' ru L (doS L A ((tqW x).getD i 0) ((tqA x).getD i (0, [])).2).2 → Rq (some (.int (b2 (doS L A ((tqW x).getD i 0) ((tqA x).getD i (0, [])).2).1))) (shH ru ta rs) I' J') → xm l (d + 14) 0 0 mX11_perform [.ref 0, .int (I1 (47 + 5 * t + 4) (nI i * nI 4).toNatClampNeg), .int (I1 (47 + 5 * t + 4) (nI i * nI 4 + nI 1).toNatClampNeg), .int (I1 (47 + 5 * t + 4) (nI i * nI 4 + nI 2).toNatClampNeg), .int (I1 (47 + 5 * t + 4) (nI i * nI 4 + nI 3).toNatClampNeg)] (shH ru ta rs) I1 J Rq := fun Rq hq => by
      rw [row, ix0.1, (ix 1 (by omega)).1, (ix 2 (by omega)).1, (ix 3 (by omega)).1, cl.2.1]
      exact cd_perform l (d + 4) ru ta rs I1 J Rq L A hA h _ cl.1 _ (fun q => (cl.2.2.2 q).1) dm _ _ _ (fun q r => (cl.2.2.2 q).2 0 r) (fun q r => (cl.2.2.2 q).2 1 r) (fun q r => (cl.2.2.2 q).2 2 r) hq
    have nx := hA.doS (L := L) ((tqW x).getD i 0) ((tqA x).getD i (0, [])).2
    have eV2 : (if (doS L A ((tqW x).getD i 0) ((tqA x).getD i (0, [])).2).1 = true then plS L x m (i + 1) (doS L A ((tqW x).getD i 0) ((tqA x).getD i (0, [])).2).2 else (nI i, (doS L A ((tqW x).getD i 0) ((tqA x).getD i (0, [])).2).2)) = V := eV
    have g1 : ¬ nI (tqW x).length ≤ nI i := nI_ge (by omega) (by omega)
    have g2 : ¬ nI 24 ≤ nI i := nI_ge (by omega) (by omega)
    have g3 : ¬ nI 96 < nI i * nI 4 + nI 4 := by
      rw [em, nI_add, nlt (by omega) (by omega)]
      omega
    have y : t = 0 ∨ t = 1 ∨ t = 2 ∨ t = 3 := by omega
    rcases y with rfl | rfl | rfl | rfl
    all_goals
      refine xrun_step fun K hK => ?_
      refine And.intro (fun z => absurd z g1) (fun _ => ?_)
      refine And.intro (fun z => absurd z g2) (fun _ => ?_)
      refine And.intro (fun z => absurd z g3) (fun _ => ?_)
      refine And.intro (fun z => absurd (show nI 1 = 0 from z) (by decide)) (fun _ => ?_)
      refine And.intro ix0.2 ?_
      refine And.intro (ix 1 (by omega)).2 ?_
      refine And.intro (ix 2 (by omega)).2 ?_
      refine And.intro (ix 3 (by omega)).2 ?_
      refine go _ (fun I2 J2 f2 c2 => ?_)
      cases hb : (doS L A ((tqW x).getD i 0) ((tqA x).getD i (0, [])).2).1 with
      | true =>
        rw [hb, if_pos rfl] at eV2
        refine And.intro (fun _ => ?_) (fun z => absurd (show b2 true = 0 from z) (by decide))
        refine hK 38 [some (.ref 0), some (.int v), some (.ref _), some (.int (nI (tqW x).length)), some (.int (nI i + 1)), some (.int (nI i * nI 4)), some (.int (nI 1))] [] (shH ru ta rs) I2 J2 0 0 ?_
        rw [nI_1]
        exact ih (i + 1) n J2 I2 _ _ _ (by omega) (by omega) (f.tr f2) nx c2 eV2
      | false =>
        rw [hb, if_neg (by decide)] at eV2
        refine And.intro (fun z => absurd (show b2 false = 0 from rfl) z) (fun _ => ?_)
        rw [← eV2] at hR
        exact hR I2 J2 (f.tr f2) c2
def pdS (TX : Nat → Txt) (H : Hlf) (x : Int32) : Int32 × Ast := if vIn x (hvM H) = true then plS (lwO TX (hvR H)) (TX x.toNatClampNeg) (tqW (TX x.toNatClampNeg)).length 0 (hvA H) else (nI 0 - nI 2, hvA H)
theorem ok_played {I : XI} {TX : Nat → Txt} {H Hi : Hlf} (hg : GRx I TX H Hi) (x : Int32) : AOK (pdS TX H x).2 := by
  unfold pdS
  split
  · exact plS_ok _ _ hg.1.1.1
  · exact hg.1.1.1
theorem q_played {TX : Nat → Txt} {H : Hlf} (x : Int32) : Tle (oQ (hvA H)) (oQ (pdS TX H x).2) := by
  unfold pdS
  split
  · exact q_plS _ _
  · exact Tle.rf _
set_option maxRecDepth 100000 in
set_option maxHeartbeats 8000000 in
theorem cd_played (l : Launch) (d : Nat) (ru ta : Nat) (rs : List XO) (I : XI) (J : XJ) (Rp : XR) (TX : Nat → Txt) (H Hi : Hlf) (hg : GRx I TX H Hi) (x : Int32) (hR : ∀ (I' : XI) (J' : XJ), FCl I I' → CA I' (ruO (hvR H)) (lwO TX (hvR H)) (pdS TX H x).2 → Rp (some (.int (pdS TX H x).1)) (shH (ruO (hvR H)) ta rs) I' J') : xm l (d + 15) 0 0 mX11_played [.ref 0, .int x] (shH (ruO (hvR H)) ta rs) I J Rp := by
  have em : I 0 12 = nI (hvM H) := hg.2.2.1.2.2.1
  have m4 := hg.1.1.2.1
  refine xm_ofK 30 (X := xxX11) (t := tX11_played) (stop := [38]) (ini := false) xx11 pl11 rfl kX11_played (fun h => by cases h) (Nat.le_of_ble_eq_true rfl) (fun K hK => ?_)
  refine (show xm l (d + 14) 0 0 mX11_within [.int x, .int (nI 0), .int (I 0 12 - nI 1)] (shH (ruO (hvR H)) ta rs) I J _ from ?_)
  rw [em]
  cases hv : vIn x (hvM H) with
  | true =>
    have z := (in_v (by omega)).mpr hv
    refine c_within_t l (d + 13) x (nI 0) (nI (hvM H) - nI 1) _ _ _ _ z.1 z.2 ?_
    refine And.intro (fun _ => ?_) (fun z => absurd (show (1 : Int32) = 0 from z) (by decide))
    obtain ⟨t, ht, ex, ex2⟩ := vIn_t (by omega) hv
    have eS : pdS TX H x = plS (lwO TX (hvR H)) (TX t) (tqW (TX t)).length 0 (hvA H) := by
      unfold pdS
      rw [hv, if_pos rfl, ex2]
    obtain ⟨⟨c, c3, g, e5, db⟩, r, _⟩ := hg.2.1.1 t ht
    have lp := cd_pl_loop l d t (by omega) (ruO (hvR H)) ta rs I Rp (lwO TX (hvR H)) x (TX t) c g db r.1.1 _ hR (tqW (TX t)).length 0 30 J I (hvA H) none none (by omega) (by have := r.1.1; omega) FCl.rf hg.1.1.1 hg.ca eS.symm
    subst ex
    refine c_textAt l (d + 13) t (by omega) (ruO (hvR H)) ta rs I J _ ?_
    unfold clz at lp
    rw [← e5] at lp
    have y : t = 0 ∨ t = 1 ∨ t = 2 ∨ t = 3 := by omega
    rcases y with rfl | rfl | rfl | rfl
    all_goals
      refine c_textAt l (d + 13) _ (by omega) (ruO (hvR H)) ta rs I J _ ?_
      exact hK 38 [some (.ref 0), some (.int (nI _)), some (.ref _), some (.int (I _ 5)), some (.int (nI 0)), none, none] [] (shH (ruO (hvR H)) ta rs) I J 0 0 lp
  | false =>
    refine c_within_f l (d + 13) x (nI 0) (nI (hvM H) - nI 1) _ _ _ _ (fun z => by
      have := (in_v (by omega)).mp z
      rw [hv] at this
      cases this) ?_
    refine And.intro (fun z => absurd rfl z) (fun _ => ?_)
    have eS : pdS TX H x = (nI 0 - nI 2, hvA H) := by
      unfold pdS
      rw [hv]
      rfl
    rw [eS] at hR
    exact hR I J FCl.rf hg.ca
end
