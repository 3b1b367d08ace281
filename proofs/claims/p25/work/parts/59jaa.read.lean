-- ===== the reader: a clause, all of them =====
def FC (ta : Nat) (I I' : XI) : Prop := (∀ p, p ≠ 35 → p ≠ ta → p ≠ ta + 1 → p ≠ ta + 2 → p ≠ ta + 3 → p ≠ ta + 4 → I' p = I p) ∧ I' 35 6 = I 35 6
theorem FC.rf {ta : Nat} {I : XI} : FC ta I I := ⟨fun _ _ _ _ _ _ _ => rfl, rfl⟩
theorem FC.tr {ta : Nat} {I I' I'' : XI} (h : FC ta I I') (g : FC ta I' I'') : FC ta I I'' := ⟨fun p a b c d e f => (g.1 p a b c d e f).trans (h.1 p a b c d e f), g.2.trans h.2⟩
theorem FE.fc {ta : Nat} {I I' : XI} (h : FE ta I I') : FC ta I I' := ⟨fun p a b c _ _ _ => h.1 p a b c, h.2.1 6 (by decide) (by decide) (by decide) (by decide) (by decide)⟩
theorem FD.fc {ta : Nat} {I I' : XI} (h : FD ta I I') : FC ta I I' := ⟨fun p a _ _ _ _ f => h.1 p a f, h.2⟩
theorem FC.ev {ta : Nat} {I I' : XI} {tk : Nat → TK} {N : Nat} (ht : TSP ta) (f : FC ta I I') (h : EV I tk N) : EV I' tk N := by
  unfold TSP at ht
  unfold EV
  rw [f.1 30 (by decide) (by omega) (by omega) (by omega) (by omega) (by omega), f.1 32 (by decide) (by omega) (by omega) (by omega) (by omega) (by omega), f.1 33 (by decide) (by omega) (by omega) (by omega) (by omega) (by omega), f.1 34 (by decide) (by omega) (by omega) (by omega) (by omega) (by omega)]
  exact h
/-- ahead of a clause -/
def CLs (ta : Nat) (I : XI) (j c : Nat) (ws : List Nat) : Prop := ATt ta I j c ∧ I ta 5 = nI ws.length ∧ ∀ w, w < 5 → (w ∈ ws ↔ I (ta + 2) w < I (ta + 3) w)
/-- a clause that was read: its word, its orders, its numbers -/
def CLp (ta : Nat) (I : XI) (c : Nat) (E : List Odr) (i w at_ : Nat) (dn : List Nat) : Prop := w ≤ 13 ∧ I (ta + 4) (4 * i) = nI w ∧ (w ≤ 4 → ∃ st e pre r, I (ta + 2) w = nI st ∧ I (ta + 3) w = nI (st + e.length) ∧ st + e.length ≤ c ∧ Cds (I (ta + 1)) st e ∧ Typ w 22 (Nat.beq w 4) e ∧ E = pre ++ e ++ [(408, 0)] ++ r ∧ pre.length = at_) ∧ (4 < w → dn.length = (fmS w).length ∧ ∀ x, x < dn.length → I (ta + 4) (4 * i + 1 + x) = nI (dn.getD x 0))
def GT (ta : Nat) (I : XI) (ws : List Nat) (c : Nat) (E : List Odr) (A : Adr) : Prop := A.length = ws.length ∧ ∀ i, i < ws.length → CLp ta I c E i (ws.getD i 0) (A.getD i (0, [])).1 (A.getD i (0, [])).2
theorem getD_mem {l : List Nat} {i : Nat} (h : i < l.length) : l.getD i 0 ∈ l := by
  rw [List.getD_eq_getElem?_getD, List.getElem?_eq_getElem h]
  exact List.getElem_mem h
theorem getD_appL {α : Type} {l m : List α} {i : Nat} {d : α} (h : i < l.length) : (l ++ m).getD i d = l.getD i d := by
  rw [List.getD_eq_getElem?_getD, List.getD_eq_getElem?_getD, List.getElem?_append_left h]
theorem getD_appR {α : Type} {l : List α} {a d : α} : (l ++ [a]).getD l.length d = a := by
  rw [List.getD_eq_getElem?_getD, List.getElem?_append_right (Nat.le_refl _)]
  simp
theorem CLp.keep {ta : Nat} {I I' : XI} {c c' : Nat} {E F : List Odr} {i w at_ q : Nat} {dn : List Nat} (h : CLp ta I c E i w at_ dn) (hi : i < q) (hdn : 4 < w → dn.length ≤ 3) (h4 : ∀ x, x < 4 * q → I' (ta + 4) x = I (ta + 4) x) (h1 : ∀ x, x < c → I' (ta + 1) x = I (ta + 1) x) (hc : c ≤ c') (h23 : w ≤ 4 → I' (ta + 2) w = I (ta + 2) w ∧ I' (ta + 3) w = I (ta + 3) w) : CLp ta I' c' (E ++ F) i w at_ dn := by
  obtain ⟨a1, a2, a3, a4⟩ := h
  refine ⟨a1, by rw [h4 _ (by omega)]; exact a2, fun hw => ?_, fun hw => ⟨(a4 hw).1, fun x hx => ?_⟩⟩
  · obtain ⟨st, e, pre, r, b1, b2, b3, b4, b5, b6, b7⟩ := a3 hw
    refine ⟨st, e, pre, r ++ F, by rw [(h23 hw).1]; exact b1, by rw [(h23 hw).2]; exact b2, by omega, b4.up (fun x _ hx => h1 x (by omega)), b5, ?_, b7⟩
    rw [b6]
    simp [List.append_assoc]
  · have := hdn hw
    rw [h4 _ (by omega)]
    exact (a4 hw).2 x hx
theorem fm_len : ((List.range 9).all fun v => Nat.ble (fmS (v + 5)).length 3) = true := by decide +kernel
theorem fm_le {w : Nat} (h : 4 < w) (h2 : w ≤ 13) : (fmS w).length ≤ 3 := by
  have y := List.all_eq_true.mp fm_len (w - 5) (List.mem_range.mpr (by omega))
  rw [show w - 5 + 5 = w by omega] at y
  exact Nat.le_of_ble_eq_true y
theorem deN_len {tk : Nat → TK} {w j : Nat} (h : 4 < w) (h2 : w ≤ 13) : (deN tk (fmS w) j).length = (fmS w).length := by
  have y : w = 5 ∨ w = 6 ∨ w = 7 ∨ w = 8 ∨ w = 9 ∨ w = 10 ∨ w = 11 ∨ w = 12 ∨ w = 13 := by omega
  rcases y with rfl | rfl | rfl | rfl | rfl | rfl | rfl | rfl | rfl <;> rfl
theorem GT.snoc {ta : Nat} {I I' : XI} {ws : List Nat} {c c' : Nat} {E F : List Odr} {A : Adr} {v at_ : Nat} {dn : List Nat} (h : GT ta I ws c E A) (h4 : ∀ x, x < 4 * ws.length → I' (ta + 4) x = I (ta + 4) x) (h1 : ∀ x, x < c → I' (ta + 1) x = I (ta + 1) x) (hc : c ≤ c') (h23 : ∀ w, w ∈ ws → w ≤ 4 → I' (ta + 2) w = I (ta + 2) w ∧ I' (ta + 3) w = I (ta + 3) w) (g : CLp ta I' c' (E ++ F) ws.length v at_ dn) : GT ta I' (ws ++ [v]) c' (E ++ F) (A ++ [(at_, dn)]) := by
  refine ⟨by simp [h.1], fun i hi => ?_⟩
  rcases Nat.lt_or_ge i ws.length with z | z
  · rw [getD_appL z, getD_appL (by rw [h.1]; exact z)]
    have y := h.2 i z
    refine y.keep (q := ws.length) z (fun hw => ?_) h4 h1 hc (fun hw => h23 _ (getD_mem z) hw)
    rw [(y.2.2.2 hw).1]
    exact fm_le hw y.1
  · have e : i = ws.length := by
      simp at hi
      omega
    subst e
    rw [getD_appR, show (A ++ [(at_, dn)]).getD ws.length (0, []) = (at_, dn) by rw [← h.1]; exact getD_appR]
    exact g
/-- what a clause adds -/
def GTX (ta : Nat) (tk : Nat → TK) (I I' : XI) (ws : List Nat) (c c' v : Nat) (s t : MS) : Prop := ∀ (E : List Odr) (A : Adr), GT ta I ws c E A → ∃ E' A', GT ta I' (ws ++ [v]) c' E' A' ∧ Rx tk (s, [], E, A) (t, [], E', A')
def CNO (ta : Nat) (tk : Nat → TK) (I : XI) (s : MS) (I' : XI) : Prop := ∃ f p c' q, FC ta I I' ∧ (I' 35 7 = nI f ∧ I' 35 8 = nI p ∧ 1 ≤ f) ∧ (c' ≤ 300 ∧ I' ta 1 = nI c') ∧ (q ≤ 24 ∧ I' ta 5 = nI q) ∧ Ends tk s (f, p)
def COK (ta N : Nat) (tk : Nat → TK) (I : XI) (j c : Nat) (ws : List Nat) (s : MS) (I' : XI) : Prop := ∃ j' c' v, FC ta I I' ∧ (I' 35 7 = I 35 7 ∧ I' 35 8 = I 35 8) ∧ CLs ta I' j' c' (ws ++ [v]) ∧ j' < N ∧ c' ≤ j' ∧ j + 1 ≤ j' ∧ Rch tk s (4, [], v, ws ++ [v], j') ∧ GTX ta tk I I' ws c c' v s (4, [], v, ws ++ [v], j')
theorem cw_id : ((List.range 32).all fun w => match Nat.ble w 13 with
  | true => Nat.beq (cw w) w
  | false => Nat.blt 13 (cw w)) = true := by decide +kernel
theorem cw_id1 {w : Nat} (h : w ≤ 13) : cw w = w := by
  have y := List.all_eq_true.mp cw_id w (List.mem_range.mpr (by omega))
  rw [Nat.ble_eq.mpr h] at y
  exact Nat.eq_of_beq_eq_true y
theorem cw_id2 {w : Nat} (h : 13 < w) (h2 : w < 32) : 13 < cw w := by
  have y := List.all_eq_true.mp cw_id w (List.mem_range.mpr h2)
  have e : Nat.ble w 13 = false := by
    cases e : Nat.ble w 13 with
    | true => exact absurd (Nat.le_of_ble_eq_true e) (by omega)
    | false => rfl
  rw [e] at y
  exact Nat.blt_eq.mp y
theorem naL_get {w : Nat} (h : w < 5) : ([63, 62, 454, 199, 1567] : List Int32).getD w 0 = nI (naL w) := by
  have y : ((List.range 5).all fun w => decide (([63, 62, 454, 199, 1567] : List Int32).getD w 0 = nI (naL w))) = true := by decide +kernel
  exact of_decide_eq_true (List.all_eq_true.mp y w (List.mem_range.mpr h))
theorem avI_23 {ta i : Nat} {I : XI} (ht : TSP ta) : avI I i (ta + 2) = I (ta + 2) := by
  unfold TSP at ht
  unfold avI
  rw [uI_ne (by omega), uI_ne (by omega), uI_ne (by omega)]
theorem avI_23' {ta i : Nat} {I : XI} (ht : TSP ta) : avI I i (ta + 3) = I (ta + 3) := by
  unfold TSP at ht
  unfold avI
  rw [uI_ne (by omega), uI_ne (by omega), uI_ne (by omega)]
theorem opI_ne {ta w : Nat} {I : XI} {v : Int32} (ht : TSP ta) : opI (uI I 35 2 v) ta w (ta + 1) = I (ta + 1) := by
  unfold TSP at ht
  unfold opI
  rw [uI_ne (by omega), uI_ne (by omega)]
theorem opI_ac {ta w q : Nat} {I I0 : XI} {v x : Int32} (ht : TSP ta) (h : I (ta + 4) (4 * q) = x) (g : ∀ y, y < 4 * q → I (ta + 4) y = I0 (ta + 4) y) : AC4 ta I0 (opI (uI I 35 2 v) ta w) q x := by
  unfold TSP at ht
  have e : opI (uI I 35 2 v) ta w (ta + 4) = I (ta + 4) := by
    unfold opI
    rw [uI_ne (by omega), uI_ne (by omega)]
  unfold AC4
  rw [e]
  exact ⟨h, g⟩
theorem opI_23 {ta w x : Nat} {I I0 : XI} {v : Int32} (ht : TSP ta) (hx : x ≠ w) (h2 : I (ta + 2) = I0 (ta + 2)) (h3 : I (ta + 3) = I0 (ta + 3)) : opI (uI I 35 2 v) ta w (ta + 2) x = I0 (ta + 2) x ∧ opI (uI I 35 2 v) ta w (ta + 3) x = I0 (ta + 3) x := by
  unfold TSP at ht
  unfold opI
  rw [uI_atC, if_neg hx, uI_ne (show ta + 2 ≠ 35 by omega), uI_ne (show ta + 3 ≠ ta + 2 by omega), uI_ne (show ta + 3 ≠ 35 by omega), h2, h3]
  exact ⟨rfl, rfl⟩
section CLAUSE
variable {l : Launch} {ru_ ta : Nat} {rs : List XO} {tk : Nat → TK} {N : Nat}
abbrev clr (l : Launch) (ru_ ta : Nat) (rs : List XO) (J : XJ) (Rp : XR) (n S pc : Nat) (lc : List (Option Value)) (I : XI) : Prop := xrun xxX5 (some .boolean) false false (shH ru_ ta rs).length 0 0 none l n tX5_clause [137] Rp S pc lc [] (shH ru_ ta rs) I J 0 0
end CLAUSE
