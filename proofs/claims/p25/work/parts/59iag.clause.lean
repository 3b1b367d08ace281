-- deeds
def FL : List Int32 := ((xlk xkA 900005).getD (0, 0, [])).2.2
def deT (v i : Nat) : Bool := match (fmS v)[i]? with
  | some q => decide (FL.getD (9 * (v - 5) + 3 * i) 0 = nI q.1) && decide (FL.getD (9 * (v - 5) + 3 * i + 1) 0 = nI q.2.1) && (match Nat.beq q.2.2 99 with
    | true => decide (FL.getD (9 * (v - 5) + 3 * i + 2) 0 = 0)
    | false => decide (FL.getD (9 * (v - 5) + 3 * i + 2) 0 = nI (cw q.2.2)) && Nat.blt 0 (cw q.2.2) && Nat.blt q.2.2 32 && Nat.blt (i + 1) (fmS v).length) && decide ((fmS v).drop i = q :: (fmS v).drop (i + 1)) && Nat.ble q.1 1000 && Nat.ble q.2.1 1000
  | none => true
theorem deT_all : ((List.range 9).all fun v => (List.range 3).all fun i => deT (v + 5) i) = true := by decide +kernel
theorem deT_len : ((List.range 9).all fun v => Nat.blt 0 (fmS (v + 5)).length && Nat.ble (fmS (v + 5)).length 3) = true := by decide +kernel
def FD (ta : Nat) (I I' : XI) : Prop := (∀ p, p ≠ 35 → p ≠ ta + 4 → I' p = I p) ∧ I' 35 6 = I 35 6
theorem FD.tr {ta : Nat} {I I' I'' : XI} (h : FD ta I I') (g : FD ta I' I'') : FD ta I I'' := ⟨fun p a b => (g.1 p a b).trans (h.1 p a b), g.2.trans h.2⟩
theorem FD.ev {ta : Nat} {I I' : XI} {tk : Nat → TK} {N : Nat} (ht : TSP ta) (f : FD ta I I') (h : EV I tk N) : EV I' tk N := by
  unfold TSP at ht
  unfold EV
  rw [f.1 30 (by decide) (by omega), f.1 32 (by decide) (by omega), f.1 33 (by decide) (by omega), f.1 34 (by decide) (by omega)]
  exact h
theorem FD.av {ta : Nat} {I : XI} {i : Nat} : FD ta I (avI I i) := by
  refine ⟨fun p a _ => ?_, ?_⟩
  · unfold avI
    rw [uI_ne a, uI_ne a, uI_ne a]
  · rfl
theorem FD.fi {ta : Nat} {I : XI} {f j : Nat} : FD ta I (FI I f j) := by
  refine ⟨fun p a _ => ?_, ?_⟩
  · unfold FI
    rw [uI_ne a, uI_ne a]
  · rfl
theorem avI_r4 {ta i : Nat} {I : XI} (ht : TSP ta) : avI I i (ta + 4) = I (ta + 4) := by
  unfold TSP at ht
  unfold avI
  rw [uI_ne (by omega), uI_ne (by omega), uI_ne (by omega)]
theorem avI_78 {I : XI} {i : Nat} : avI I i 35 7 = I 35 7 ∧ avI I i 35 8 = I 35 8 := ⟨rfl, rfl⟩
/-- the numbers of a deed so far; what is ahead stays -/
def NB (ta q : Nat) (tk : Nat → TK) (v j0 : Nat) (I I' : XI) (i j : Nat) : Prop := (∀ z, z < 4 * q + 1 → I' (ta + 4) z = I (ta + 4) z) ∧ ∃ pre : List Nat, pre.length = i ∧ deN tk (fmS v) j0 = pre ++ deN tk ((fmS v).drop i) j ∧ ∀ x, x < i → I' (ta + 4) (4 * q + 1 + x) = nI (pre.getD x 0)
def ND (ta q : Nat) (dn : List Nat) (I I' : XI) : Prop := (∀ z, z < 4 * q + 1 → I' (ta + 4) z = I (ta + 4) z) ∧ ∀ x, x < dn.length → I' (ta + 4) (4 * q + 1 + x) = nI (dn.getD x 0)
theorem NB.set {ta q : Nat} {tk : Nat → TK} {v j0 : Nat} {I I' I1 : XI} {i j : Nat} {x : Int32} (h : NB ta q tk v j0 I I' i j) (e : I1 = uI I' (ta + 4) (4 * q + 1 + i) x) : NB ta q tk v j0 I I1 i j ∧ I1 (ta + 4) (4 * q + 1 + i) = x := by
  obtain ⟨h1, pre, h2, h3, h4⟩ := h
  refine ⟨⟨fun z hz => ?_, pre, h2, h3, fun y hy => ?_⟩, ?_⟩
  · rw [e, uI_atC, if_neg (by omega)]
    exact h1 z hz
  · rw [e, uI_atC, if_neg (by omega)]
    exact h4 y hy
  · rw [e, uI_atC, if_pos rfl]
theorem getD_app {a b : List Nat} {x : Nat} (h : x < a.length) : (a ++ b).getD x 0 = a.getD x 0 := by
  rw [List.getD_eq_getElem?_getD, List.getD_eq_getElem?_getD, List.getElem?_append_left h]
theorem getD_last {a : List Nat} {v : Nat} : (a ++ [v]).getD a.length 0 = v := by
  rw [List.getD_eq_getElem?_getD, List.getElem?_append_right (Nat.le_refl _)]
  simp
theorem NB.next {ta q : Nat} {tk : Nat → TK} {v j0 : Nat} {I I' I1 I3 : XI} {i j lo hi w : Nat} (h : NB ta q tk v j0 I I1 i j) (hd : (fmS v).drop i = (lo, hi, w) :: (fmS v).drop (i + 1)) (hw : w ≠ 99) (hx : I1 (ta + 4) (4 * q + 1 + i) = nI (tk j).2.1) (e : I3 (ta + 4) = I1 (ta + 4)) : NB ta q tk v j0 I I3 (i + 1) (j + 2) := by
  obtain ⟨h1, pre, h2, h3, h4⟩ := h
  refine ⟨fun z hz => by rw [e]; exact h1 z hz, pre ++ [(tk j).2.1], by simp [h2], ?_, fun x hx' => ?_⟩
  · rw [h3, hd, deN, beqf hw, List.append_assoc]
    rfl
  · rw [e]
    rcases Nat.lt_or_ge x i with c | c
    · rw [getD_app (by omega)]
      exact h4 x c
    · have ex : x = i := by omega
      rw [ex, hx]
      congr 1
      rw [← h2]
      exact getD_last.symm
theorem NB.last {ta q : Nat} {tk : Nat → TK} {v j0 : Nat} {I I1 I3 : XI} {i j lo hi : Nat} (h : NB ta q tk v j0 I I1 i j) (hd : (fmS v).drop i = (lo, hi, 99) :: (fmS v).drop (i + 1)) (hx : I1 (ta + 4) (4 * q + 1 + i) = nI (tk j).2.1) (e : I3 (ta + 4) = I1 (ta + 4)) : ND ta q (deN tk (fmS v) j0) I I3 := by
  obtain ⟨h1, pre, h2, h3, h4⟩ := h
  have hp : deN tk (fmS v) j0 = pre ++ [(tk j).2.1] := by
    rw [h3, hd, deN]
  rw [hp]
  refine ⟨fun z hz => by rw [e]; exact h1 z hz, fun x hx' => ?_⟩
  rw [e]
  rcases Nat.lt_or_ge x i with c | c
  · rw [getD_app (by omega)]
    exact h4 x c
  · have ex : x = i := by
      simp at hx'
      omega
    rw [ex, hx]
    congr 1
    rw [← h2]
    exact getD_last.symm
section DEED
variable {l : Launch} {ru_ ta : Nat} {rs : List XO} {tk : Nat → TK} {N : Nat}
abbrev der (l : Launch) (ru_ ta : Nat) (rs : List XO) (J : XJ) (Rp : XR) (n S pc : Nat) (lc : List (Option Value)) (I : XI) : Prop := xrun xxX5 (some .boolean) false false (shH ru_ ta rs).length 0 0 none l n tX5_deed [2] Rp S pc lc [] (shH ru_ ta rs) I J 0 0
end DEED
