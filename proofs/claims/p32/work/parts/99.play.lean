-- ===== played, both sides =====
def aD (D : List Nat) (x : Nat) : Int32 := nI (D.getD x 0)
def b2 (b : Bool) : Int32 := if b = true then 1 else 0
/-- a clause is done; whether it could be -/
def doS (L : Lws) (A : Ast) (w : Nat) (D : List Nat) : Bool × Ast := match w with
  | 5 => (!(decide ((thS A (aD D 0) (aD D 1) (aD D 2)).1 = -1)), (thS A (aD D 0) (aD D 1) (aD D 2)).2)
  | 6 => (!(decide ((reS A (aD D 0)).1 = -1)), (reS A (aD D 0)).2)
  | 7 => (!(decide ((baS A (aD D 0)).1 = -1)), (baS A (aD D 0)).2)
  | 8 => (!(decide ((cutS L A (aD D 0) (aD D 1) (aD D 2)).1 = -1)), (cutS L A (aD D 0) (aD D 1) (aD D 2)).2)
  | 9 => (!(decide ((lastS A (aD D 0) (aD D 1)).1 = -1)), (lastS A (aD D 0) (aD D 1)).2)
  | 10 => (!(decide ((useS A (aD D 0) (aD D 1)).1 = -1)), (useS A (aD D 0) (aD D 1)).2)
  | 11 => (decide ((moveS A (aD D 0) (aD D 1)).1 = 1), (moveS A (aD D 0) (aD D 1)).2)
  | 12 => (!(decide ((sellS L A (aD D 0)).1 = -1)), (sellS L A (aD D 0)).2)
  | 13 => (decide (phC L (D.getD 0 0) A = D.getD 0 0), phS L (D.getD 0 0) A)
  | _ => (true, A)
theorem dSe_5 (L : Lws) (A : Ast) (D : List Nat) : doS L A 5 D = (!(decide ((thS A (aD D 0) (aD D 1) (aD D 2)).1 = -1)), (thS A (aD D 0) (aD D 1) (aD D 2)).2) := rfl
theorem dSe_6 (L : Lws) (A : Ast) (D : List Nat) : doS L A 6 D = (!(decide ((reS A (aD D 0)).1 = -1)), (reS A (aD D 0)).2) := rfl
theorem dSe_7 (L : Lws) (A : Ast) (D : List Nat) : doS L A 7 D = (!(decide ((baS A (aD D 0)).1 = -1)), (baS A (aD D 0)).2) := rfl
theorem dSe_8 (L : Lws) (A : Ast) (D : List Nat) : doS L A 8 D = (!(decide ((cutS L A (aD D 0) (aD D 1) (aD D 2)).1 = -1)), (cutS L A (aD D 0) (aD D 1) (aD D 2)).2) := rfl
theorem dSe_9 (L : Lws) (A : Ast) (D : List Nat) : doS L A 9 D = (!(decide ((lastS A (aD D 0) (aD D 1)).1 = -1)), (lastS A (aD D 0) (aD D 1)).2) := rfl
theorem dSe_10 (L : Lws) (A : Ast) (D : List Nat) : doS L A 10 D = (!(decide ((useS A (aD D 0) (aD D 1)).1 = -1)), (useS A (aD D 0) (aD D 1)).2) := rfl
theorem dSe_11 (L : Lws) (A : Ast) (D : List Nat) : doS L A 11 D = (decide ((moveS A (aD D 0) (aD D 1)).1 = 1), (moveS A (aD D 0) (aD D 1)).2) := rfl
theorem dSe_12 (L : Lws) (A : Ast) (D : List Nat) : doS L A 12 D = (!(decide ((sellS L A (aD D 0)).1 = -1)), (sellS L A (aD D 0)).2) := rfl
theorem dSe_13 (L : Lws) (A : Ast) (D : List Nat) : doS L A 13 D = (decide (phC L (D.getD 0 0) A = D.getD 0 0), phS L (D.getD 0 0) A) := rfl
def plS (L : Lws) (x : Txt) : Nat → Nat → Ast → Int32 × Ast
  | 0, _, A => (-1, A)
  | m + 1, i, A => if (doS L A ((tqW x).getD i 0) ((tqA x).getD i (0, [])).2).1 = true then plS L x m (i + 1) (doS L A ((tqW x).getD i 0) ((tqA x).getD i (0, [])).2).2 else (nI i, (doS L A ((tqW x).getD i 0) ((tqA x).getD i (0, [])).2).2)
theorem AOK.doS {L : Lws} {A : Ast} (h : AOK A) (w : Nat) (D : List Nat) : AOK (doS L A w D).2 := by
  match w with
  | 5 =>
    rw [dSe_5]
    exact h.th _ _ _
  | 6 =>
    rw [dSe_6]
    exact h.re _
  | 7 =>
    rw [dSe_7]
    exact h.ba _
  | 8 =>
    rw [dSe_8]
    exact h.cut _ _ _
  | 9 =>
    rw [dSe_9]
    exact h.last _ _
  | 10 =>
    rw [dSe_10]
    exact h.use _ _
  | 11 =>
    rw [dSe_11]
    exact h.move _ _
  | 12 =>
    rw [dSe_12]
    exact h.sell _
  | 13 =>
    rw [dSe_13]
    exact AOK.ph _ h
  | 0 | 1 | 2 | 3 | 4 => exact h
  | w + 14 => exact h
theorem q_doS {L : Lws} {A : Ast} (w : Nat) (D : List Nat) : Tle (oQ A) (oQ (doS L A w D).2) := by
  match w with
  | 5 =>
    rw [dSe_5]
    exact q_th
  | 6 =>
    rw [dSe_6]
    exact q_re
  | 7 =>
    rw [dSe_7]
    exact q_ba
  | 8 =>
    rw [dSe_8]
    exact Tle.eq q_cut
  | 9 =>
    rw [dSe_9]
    exact Tle.eq q_last
  | 10 =>
    rw [dSe_10]
    exact Tle.eq q_use
  | 11 =>
    rw [dSe_11]
    exact Tle.eq q_move
  | 12 =>
    rw [dSe_12]
    exact Tle.eq q_sell
  | 13 =>
    rw [dSe_13]
    exact Tle.eq (q_ph _)
  | 0 | 1 | 2 | 3 | 4 => exact Tle.rf _
  | w + 14 => exact Tle.rf _
theorem plS_ok {L : Lws} {x : Txt} : ∀ (m i : Nat) {A : Ast}, AOK A → AOK (plS L x m i A).2
  | 0, _, _, h => h
  | m + 1, i, A, h => by
    unfold plS
    split
    · exact plS_ok m (i + 1) (h.doS _ _)
    · exact h.doS _ _
theorem q_plS {L : Lws} {x : Txt} : ∀ (m i : Nat) {A : Ast}, Tle (oQ A) (oQ (plS L x m i A).2)
  | 0, _, _ => Tle.rf _
  | m + 1, i, A => by
    unfold plS
    split
    · exact (q_doS _ _).tr (q_plS m (i + 1))
    · exact q_doS _ _
theorem mv_01 {A : Ast} {x y : Int32} : (moveS A x y).1 = 0 ∨ (moveS A x y).1 = 1 := by
  unfold moveS
  split
  · exact Or.inr rfl
  · exact Or.inl rfl
theorem phC_le {L : Lws} : ∀ (k : Nat) {A : Ast}, phC L k A ≤ k
  | 0, _ => Nat.le_refl _
  | k + 1, A => by
    unfold phC
    split
    · have := phC_le (L := L) k (A := stp A (hrR (oQ A) L (oW A)))
      omega
    · omega
set_option maxRecDepth 100000 in
set_option maxHeartbeats 8000000 in
theorem cd_perform (l : Launch) (d : Nat) (ru ta : Nat) (rs : List XO) (I : XI) (J : XJ) (Rp : XR) (L : Lws) (A : Ast) (hA : AOK A) (h : CA I ru L A) (w : Nat) (hw : w ≤ 13) (D : List Nat) (hD : 4 < w → D.length = (fmS w).length) (hb : ∀ x, x ∈ D → x ≤ 10000) (c1 c2 c3 : Int32) (e1 : 4 < w → 0 < D.length → c1 = aD D 0) (e2 : 4 < w → 1 < D.length → c2 = aD D 1) (e3 : 4 < w → 2 < D.length → c3 = aD D 2) (hR : ∀ (I' : XI) (J' : XJ), FCl I I' → CA I' ru L (doS L A w D).2 → Rp (some (.int (b2 (doS L A w D).1))) (shH ru ta rs) I' J') : xm l (d + 10) 0 0 mX11_perform [.ref 0, .int (nI w), .int c1, .int c2, .int c3] (shH ru ta rs) I J Rp := by
  refine xm_ofK 0 (X := xxX11) (t := tX11_perform) (stop := []) (ini := false) xx11 pl11 rfl kX11_perform (fun h => by cases h) (Nat.le_of_ble_eq_true rfl) (fun K hK => ?_)
  have yw : w = 0 ∨ w = 1 ∨ w = 2 ∨ w = 3 ∨ w = 4 ∨ w = 5 ∨ w = 6 ∨ w = 7 ∨ w = 8 ∨ w = 9 ∨ w = 10 ∨ w = 11 ∨ w = 12 ∨ w = 13 := by omega
  rcases yw with rfl | rfl | rfl | rfl | rfl | rfl | rfl | rfl | rfl | rfl | rfl | rfl | rfl | rfl
  · refine And.intro (fun z => absurd z (by decide)) (fun _ => ?_)
    refine And.intro (fun z => absurd z (by decide)) (fun _ => ?_)
    refine And.intro (fun z => absurd z (by decide)) (fun _ => ?_)
    refine And.intro (fun z => absurd z (by decide)) (fun _ => ?_)
    refine And.intro (fun z => absurd z (by decide)) (fun _ => ?_)
    refine And.intro (fun z => absurd z (by decide)) (fun _ => ?_)
    refine And.intro (fun z => absurd z (by decide)) (fun _ => ?_)
    refine And.intro (fun z => absurd z (by decide)) (fun _ => ?_)
    refine And.intro (fun z => absurd z (by decide)) (fun _ => ?_)
    exact And.intro (Or.inr rfl) (hR I J FCl.rf h)
  · refine And.intro (fun z => absurd z (by decide)) (fun _ => ?_)
    refine And.intro (fun z => absurd z (by decide)) (fun _ => ?_)
    refine And.intro (fun z => absurd z (by decide)) (fun _ => ?_)
    refine And.intro (fun z => absurd z (by decide)) (fun _ => ?_)
    refine And.intro (fun z => absurd z (by decide)) (fun _ => ?_)
    refine And.intro (fun z => absurd z (by decide)) (fun _ => ?_)
    refine And.intro (fun z => absurd z (by decide)) (fun _ => ?_)
    refine And.intro (fun z => absurd z (by decide)) (fun _ => ?_)
    refine And.intro (fun z => absurd z (by decide)) (fun _ => ?_)
    exact And.intro (Or.inr rfl) (hR I J FCl.rf h)
  · refine And.intro (fun z => absurd z (by decide)) (fun _ => ?_)
    refine And.intro (fun z => absurd z (by decide)) (fun _ => ?_)
    refine And.intro (fun z => absurd z (by decide)) (fun _ => ?_)
    refine And.intro (fun z => absurd z (by decide)) (fun _ => ?_)
    refine And.intro (fun z => absurd z (by decide)) (fun _ => ?_)
    refine And.intro (fun z => absurd z (by decide)) (fun _ => ?_)
    refine And.intro (fun z => absurd z (by decide)) (fun _ => ?_)
    refine And.intro (fun z => absurd z (by decide)) (fun _ => ?_)
    refine And.intro (fun z => absurd z (by decide)) (fun _ => ?_)
    exact And.intro (Or.inr rfl) (hR I J FCl.rf h)
  · refine And.intro (fun z => absurd z (by decide)) (fun _ => ?_)
    refine And.intro (fun z => absurd z (by decide)) (fun _ => ?_)
    refine And.intro (fun z => absurd z (by decide)) (fun _ => ?_)
    refine And.intro (fun z => absurd z (by decide)) (fun _ => ?_)
    refine And.intro (fun z => absurd z (by decide)) (fun _ => ?_)
    refine And.intro (fun z => absurd z (by decide)) (fun _ => ?_)
    refine And.intro (fun z => absurd z (by decide)) (fun _ => ?_)
    refine And.intro (fun z => absurd z (by decide)) (fun _ => ?_)
    refine And.intro (fun z => absurd z (by decide)) (fun _ => ?_)
    exact And.intro (Or.inr rfl) (hR I J FCl.rf h)
  · refine And.intro (fun z => absurd z (by decide)) (fun _ => ?_)
    refine And.intro (fun z => absurd z (by decide)) (fun _ => ?_)
    refine And.intro (fun z => absurd z (by decide)) (fun _ => ?_)
    refine And.intro (fun z => absurd z (by decide)) (fun _ => ?_)
    refine And.intro (fun z => absurd z (by decide)) (fun _ => ?_)
    refine And.intro (fun z => absurd z (by decide)) (fun _ => ?_)
    refine And.intro (fun z => absurd z (by decide)) (fun _ => ?_)
    refine And.intro (fun z => absurd z (by decide)) (fun _ => ?_)
    refine And.intro (fun z => absurd z (by decide)) (fun _ => ?_)
    exact And.intro (Or.inr rfl) (hR I J FCl.rf h)
  · refine And.intro (fun _ => ?_) (fun z => absurd rfl z)
    have hl : D.length = 3 := hD (by decide)
    have x1 := e1 (by decide) (by omega)
    subst x1
    have x2 := e2 (by decide) (by omega)
    subst x2
    have x3 := e3 (by decide) (by omega)
    subst x3
    refine cd_thing l (d + 7) ru ta rs I J _ L A hA h (aD D 0) (aD D 1) (aD D 2) (fun I1 J1 fc c1 => ?_)
    have y : Rp (some (.int (b2 (!(decide ((thS A (aD D 0) (aD D 1) (aD D 2)).1 = -1)))))) (shH ru ta rs) I1 J1 := hR I1 J1 fc c1
    refine And.intro (fun (z : (thS A (aD D 0) (aD D 1) (aD D 2)).1 = -1) => ?_) (fun (z : ¬ (thS A (aD D 0) (aD D 1) (aD D 2)).1 = -1) => ?_)
    · rw [decide_eq_true z] at y
      exact And.intro (Or.inl rfl) y
    · rw [decide_eq_false z] at y
      exact And.intro (Or.inr rfl) y
  · refine And.intro (fun z => absurd z (by decide)) (fun _ => ?_)
    refine And.intro (fun _ => ?_) (fun z => absurd rfl z)
    have hl : D.length = 1 := hD (by decide)
    have x1 := e1 (by decide) (by omega)
    subst x1
    refine cd_reaper l (d + 7) ru ta rs I J _ L A hA h (aD D 0) (fun I1 J1 fc c1 => ?_)
    have y : Rp (some (.int (b2 (!(decide ((reS A (aD D 0)).1 = -1)))))) (shH ru ta rs) I1 J1 := hR I1 J1 fc c1
    refine And.intro (fun (z : (reS A (aD D 0)).1 = -1) => ?_) (fun (z : ¬ (reS A (aD D 0)).1 = -1) => ?_)
    · rw [decide_eq_true z] at y
      exact And.intro (Or.inl rfl) y
    · rw [decide_eq_false z] at y
      exact And.intro (Or.inr rfl) y
  · refine And.intro (fun z => absurd z (by decide)) (fun _ => ?_)
    refine And.intro (fun z => absurd z (by decide)) (fun _ => ?_)
    refine And.intro (fun _ => ?_) (fun z => absurd rfl z)
    have hl : D.length = 1 := hD (by decide)
    have x1 := e1 (by decide) (by omega)
    subst x1
    refine cd_barn l (d + 7) ru ta rs I J _ L A hA h (aD D 0) (fun I1 J1 fc c1 => ?_)
    have y : Rp (some (.int (b2 (!(decide ((baS A (aD D 0)).1 = -1)))))) (shH ru ta rs) I1 J1 := hR I1 J1 fc c1
    refine And.intro (fun (z : (baS A (aD D 0)).1 = -1) => ?_) (fun (z : ¬ (baS A (aD D 0)).1 = -1) => ?_)
    · rw [decide_eq_true z] at y
      exact And.intro (Or.inl rfl) y
    · rw [decide_eq_false z] at y
      exact And.intro (Or.inr rfl) y
  · refine And.intro (fun z => absurd z (by decide)) (fun _ => ?_)
    refine And.intro (fun z => absurd z (by decide)) (fun _ => ?_)
    refine And.intro (fun z => absurd z (by decide)) (fun _ => ?_)
    refine And.intro (fun _ => ?_) (fun z => absurd rfl z)
    have hl : D.length = 3 := hD (by decide)
    have x1 := e1 (by decide) (by omega)
    subst x1
    have x2 := e2 (by decide) (by omega)
    subst x2
    have x3 := e3 (by decide) (by omega)
    subst x3
    refine cd_cut l (d + 0) ru ta rs I J _ L A hA h (aD D 0) (aD D 1) (aD D 2) (fun I1 J1 fc c1 => ?_)
    have y : Rp (some (.int (b2 (!(decide ((cutS L A (aD D 0) (aD D 1) (aD D 2)).1 = -1)))))) (shH ru ta rs) I1 J1 := hR I1 J1 fc c1
    refine And.intro (fun (z : (cutS L A (aD D 0) (aD D 1) (aD D 2)).1 = -1) => ?_) (fun (z : ¬ (cutS L A (aD D 0) (aD D 1) (aD D 2)).1 = -1) => ?_)
    · rw [decide_eq_true z] at y
      exact And.intro (Or.inl rfl) y
    · rw [decide_eq_false z] at y
      exact And.intro (Or.inr rfl) y
  · refine And.intro (fun z => absurd z (by decide)) (fun _ => ?_)
    refine And.intro (fun z => absurd z (by decide)) (fun _ => ?_)
    refine And.intro (fun z => absurd z (by decide)) (fun _ => ?_)
    refine And.intro (fun z => absurd z (by decide)) (fun _ => ?_)
    refine And.intro (fun _ => ?_) (fun z => absurd rfl z)
    have hl : D.length = 2 := hD (by decide)
    have x1 := e1 (by decide) (by omega)
    subst x1
    have x2 := e2 (by decide) (by omega)
    subst x2
    refine cd_last l (d + 3) ru ta rs I J _ L A hA h (aD D 0) (aD D 1) (fun I1 J1 fc c1 => ?_)
    have y : Rp (some (.int (b2 (!(decide ((lastS A (aD D 0) (aD D 1)).1 = -1)))))) (shH ru ta rs) I1 J1 := hR I1 J1 fc c1
    refine And.intro (fun (z : (lastS A (aD D 0) (aD D 1)).1 = -1) => ?_) (fun (z : ¬ (lastS A (aD D 0) (aD D 1)).1 = -1) => ?_)
    · rw [decide_eq_true z] at y
      exact And.intro (Or.inl rfl) y
    · rw [decide_eq_false z] at y
      exact And.intro (Or.inr rfl) y
  · refine And.intro (fun z => absurd z (by decide)) (fun _ => ?_)
    refine And.intro (fun z => absurd z (by decide)) (fun _ => ?_)
    refine And.intro (fun z => absurd z (by decide)) (fun _ => ?_)
    refine And.intro (fun z => absurd z (by decide)) (fun _ => ?_)
    refine And.intro (fun z => absurd z (by decide)) (fun _ => ?_)
    refine And.intro (fun _ => ?_) (fun z => absurd rfl z)
    have hl : D.length = 2 := hD (by decide)
    have x1 := e1 (by decide) (by omega)
    subst x1
    have x2 := e2 (by decide) (by omega)
    subst x2
    refine cd_use l (d + 3) ru ta rs I J _ L A hA h (aD D 0) (aD D 1) (fun I1 J1 fc c1 => ?_)
    have y : Rp (some (.int (b2 (!(decide ((useS A (aD D 0) (aD D 1)).1 = -1)))))) (shH ru ta rs) I1 J1 := hR I1 J1 fc c1
    refine And.intro (fun (z : (useS A (aD D 0) (aD D 1)).1 = -1) => ?_) (fun (z : ¬ (useS A (aD D 0) (aD D 1)).1 = -1) => ?_)
    · rw [decide_eq_true z] at y
      exact And.intro (Or.inl rfl) y
    · rw [decide_eq_false z] at y
      exact And.intro (Or.inr rfl) y
  · refine And.intro (fun z => absurd z (by decide)) (fun _ => ?_)
    refine And.intro (fun z => absurd z (by decide)) (fun _ => ?_)
    refine And.intro (fun z => absurd z (by decide)) (fun _ => ?_)
    refine And.intro (fun z => absurd z (by decide)) (fun _ => ?_)
    refine And.intro (fun z => absurd z (by decide)) (fun _ => ?_)
    refine And.intro (fun z => absurd z (by decide)) (fun _ => ?_)
    refine And.intro (fun _ => ?_) (fun z => absurd rfl z)
    have hl : D.length = 2 := hD (by decide)
    have x1 := e1 (by decide) (by omega)
    subst x1
    have x2 := e2 (by decide) (by omega)
    subst x2
    refine cd_move l (d + 3) ru ta rs I J _ L A hA h (aD D 0) (aD D 1) (fun I1 J1 fc c1 => ?_)
    have y : Rp (some (.int (b2 (decide ((moveS A (aD D 0) (aD D 1)).1 = 1))))) (shH ru ta rs) I1 J1 := hR I1 J1 fc c1
    rcases mv_01 (A := A) (x := aD D 0) (y := aD D 1) with e | e
    · rw [e] at y ⊢
      exact And.intro (Or.inl rfl) y
    · rw [e] at y ⊢
      exact And.intro (Or.inr rfl) y
  · refine And.intro (fun z => absurd z (by decide)) (fun _ => ?_)
    refine And.intro (fun z => absurd z (by decide)) (fun _ => ?_)
    refine And.intro (fun z => absurd z (by decide)) (fun _ => ?_)
    refine And.intro (fun z => absurd z (by decide)) (fun _ => ?_)
    refine And.intro (fun z => absurd z (by decide)) (fun _ => ?_)
    refine And.intro (fun z => absurd z (by decide)) (fun _ => ?_)
    refine And.intro (fun z => absurd z (by decide)) (fun _ => ?_)
    refine And.intro (fun _ => ?_) (fun z => absurd rfl z)
    have hl : D.length = 1 := hD (by decide)
    have x1 := e1 (by decide) (by omega)
    subst x1
    refine cd_sell l (d + 1) ru ta rs I J _ L A hA h (aD D 0) (fun I1 J1 fc c1 => ?_)
    have y : Rp (some (.int (b2 (!(decide ((sellS L A (aD D 0)).1 = -1)))))) (shH ru ta rs) I1 J1 := hR I1 J1 fc c1
    refine And.intro (fun (z : (sellS L A (aD D 0)).1 = -1) => ?_) (fun (z : ¬ (sellS L A (aD D 0)).1 = -1) => ?_)
    · rw [decide_eq_true z] at y
      exact And.intro (Or.inl rfl) y
    · rw [decide_eq_false z] at y
      exact And.intro (Or.inr rfl) y
  · refine And.intro (fun z => absurd z (by decide)) (fun _ => ?_)
    refine And.intro (fun z => absurd z (by decide)) (fun _ => ?_)
    refine And.intro (fun z => absurd z (by decide)) (fun _ => ?_)
    refine And.intro (fun z => absurd z (by decide)) (fun _ => ?_)
    refine And.intro (fun z => absurd z (by decide)) (fun _ => ?_)
    refine And.intro (fun z => absurd z (by decide)) (fun _ => ?_)
    refine And.intro (fun z => absurd z (by decide)) (fun _ => ?_)
    refine And.intro (fun z => absurd z (by decide)) (fun _ => ?_)
    refine And.intro (fun _ => ?_) (fun z => absurd rfl z)
    have hl : D.length = 1 := hD (by decide)
    have x1 := e1 (by decide) (by omega)
    subst x1
    have hk : D.getD 0 0 ≤ 10000 := hb _ (getD_mem (by omega))
    refine cd_ph l (d + 3) ru ta rs I J _ L A hA h (D.getD 0 0) hk (fun I1 J1 fc c1 => ?_)
    have y : Rp (some (.int (b2 (decide (phC L (D.getD 0 0) A = D.getD 0 0))))) (shH ru ta rs) I1 J1 := hR I1 J1 fc c1
    have le := phC_le (L := L) (D.getD 0 0) (A := A)
    refine And.intro (fun (z : ¬ nI (phC L (D.getD 0 0) A) = nI (D.getD 0 0)) => ?_) (fun (z : nI (phC L (D.getD 0 0) A) = nI (D.getD 0 0)) => ?_)
    · rw [decide_eq_false (fun q => z (by rw [q]))] at y
      exact And.intro (Or.inl rfl) y
    · rw [decide_eq_true (nI_inj z (by omega) (by omega))] at y
      exact And.intro (Or.inr rfl) y
abbrev clz (l : Launch) (d t : Nat) (ru ta : Nat) (rs : List XO) (J : XJ) (Rp : XR) (n : Nat) (v : Int32) (N i : Nat) (o5 o6 : Option Value) (I : XI) : Prop := xrun xxX11 (some .int) false false (shH ru ta rs).length 0 0 none l (d + 14) tX11_played [38] Rp n 38 [some (.ref 0), some (.int v), some (.ref (47 + 5 * t + 4)), some (.int (nI N)), some (.int (nI i)), o5, o6] [] (shH ru ta rs) I J 0 0
set_option maxRecDepth 100000 in
set_option maxHeartbeats 8000000 in
theorem cd_pl_loop (l : Launch) (d t : Nat) (ht : t < 4) (ru ta : Nat) (rs : List XO) (I : XI) (Rp : XR) (L : Lws) (v : Int32) (x : Txt) (c : Nat) (g : GT (47 + 5 * t) I (tqW x) c (tqE x) (tqA x)) (db : DNb (tqA x)) (h24 : (tqW x).length ≤ 24) (V : Int32 × Ast) (hR : ∀ (I' : XI) (J' : XJ), FCl I I' → CA I' ru L V.2 → Rp (some (.int V.1)) (shH ru ta rs) I' J') : ∀ (m i n : Nat) (J : XJ) (I1 : XI) (A : Ast) (o5 o6 : Option Value), i + m = (tqW x).length → m < n → FCl I I1 → AOK A → CA I1 ru L A → plS L x m i A = V → clz l d t ru ta rs J Rp n v (tqW x).length i o5 o6 I1 := by
  intro m
  induction m with
  | zero =>
    intro i n J I1 A o5 o6 hi hn f hA h eV
    obtain ⟨n, rfl⟩ : ∃ n', n = n' + 1 := ⟨n - 1, by omega⟩
    have hi : i = (tqW x).length := by omega
    have e : V = (-1, A) := eV.symm
    rw [e] at hR
    refine xrun_step fun K hK => ?_
    refine And.intro (fun _ => ?_) (fun z => absurd (show nI (tqW x).length ≤ nI i from by rw [hi]; exact Int32.le_refl _) z)
    exact hR I1 J f h
  | succ m ih =>
    intro i n J I1 A o5 o6 hi hn f hA h eV
    obtain ⟨n, rfl⟩ : ∃ n', n = n' + 1 := ⟨n - 1, by omega⟩
    have hi24 : i < 24 := by omega
    have cl := g.2 i (by omega)
    have em : nI i * nI 4 = nI (4 * i) := by rw [nI_mul, Nat.mul_comm]
    have ix : ∀ j, j < 4 → (nI i * nI 4 + nI j).toNatClampNeg = 4 * i + j ∧ vp_in (nI i * nI 4 + nI j) 96 := fun j hj => by
      rw [em, nI_add]
      exact ⟨nI_clamp (by omega), vp_in_nI (by omega) (by omega)⟩
    have ix0 : (nI i * nI 4).toNatClampNeg = 4 * i ∧ vp_in (nI i * nI 4) 96 := by
      rw [em]
      exact ⟨nI_clamp (by omega), vp_in_nI (by omega) (by omega)⟩
    have row : I1 (47 + 5 * t + 4) = I (47 + 5 * t + 4) := f _ (by omega) (by omega) (by omega) (by omega) (by omega)
    have dm : ∀ y, y ∈ ((tqA x).getD i (0, [])).2 → y ≤ 10000 := fun y hy => by
      refine db _ ?_ y hy
      rw [List.getD_eq_getElem?_getD, List.getElem?_eq_getElem (by rw [g.1]; omega)]
      exact List.getElem_mem _
    have go : ∀ (Rq : XR), (∀ (I' : XI) (J' : XJ), FCl I1 I' → CA I' ru L (doS L A ((tqW x).getD i 0) ((tqA x).getD i (0, [])).2).2 → Rq (some (.int (b2 (doS L A ((tqW x).getD i 0) ((tqA x).getD i (0, [])).2).1))) (shH ru ta rs) I' J') → xm l (d + 14) 0 0 mX11_perform [.ref 0, .int (I1 (47 + 5 * t + 4) (nI i * nI 4).toNatClampNeg), .int (I1 (47 + 5 * t + 4) (nI i * nI 4 + nI 1).toNatClampNeg), .int (I1 (47 + 5 * t + 4) (nI i * nI 4 + nI 2).toNatClampNeg), .int (I1 (47 + 5 * t + 4) (nI i * nI 4 + nI 3).toNatClampNeg)] (shH ru ta rs) I1 J Rq := fun Rq hq => by
      rw [row, ix0.1, (ix 1 (by omega)).1, (ix 2 (by omega)).1, (ix 3 (by omega)).1, cl.2.1]
      exact cd_perform l (d + 4) ru ta rs I1 J Rq L A hA h _ cl.1 _ (fun q => (cl.2.2.2 q).1) dm _ _ _ (fun q r => (cl.2.2.2 q).2 0 r) (fun q r => (cl.2.2.2 q).2 1 r) (fun q r => (cl.2.2.2 q).2 2 r) hq
    have nx := hA.doS (L := L) ((tqW x).getD i 0) ((tqA x).getD i (0, [])).2
    have eV2 : (if (doS L A ((tqW x).getD i 0) ((tqA x).getD i (0, [])).2).1 = true then plS L x m (i + 1) (doS L A ((tqW x).getD i 0) ((tqA x).getD i (0, [])).2).2 else (nI i, (doS L A ((tqW x).getD i 0) ((tqA x).getD i (0, [])).2).2)) = V := eV
    have g1 : ¬ nI (tqW x).length ≤ nI i := nI_ge (by omega) (by omega)
    have g2 : ¬ nI 24 ≤ nI i := nI_ge (by omega) (by omega)
    have g3 : ¬ nI 96 < nI i * nI 4 + nI 4 := by
      rw [em, nI_add, nlt (by omega) (by omega)]
      omega
    have y : t = 0 ∨ t = 1 ∨ t = 2 ∨ t = 3 := by omega
    rcases y with rfl | rfl | rfl | rfl
    all_goals
      refine xrun_step fun K hK => ?_
      refine And.intro (fun z => absurd z g1) (fun _ => ?_)
      refine And.intro (fun z => absurd z g2) (fun _ => ?_)
      refine And.intro (fun z => absurd z g3) (fun _ => ?_)
      refine And.intro (fun z => absurd (show nI 1 = 0 from z) (by decide)) (fun _ => ?_)
      refine And.intro ix0.2 ?_
      refine And.intro (ix 1 (by omega)).2 ?_
      refine And.intro (ix 2 (by omega)).2 ?_
      refine And.intro (ix 3 (by omega)).2 ?_
      refine go _ (fun I2 J2 f2 c2 => ?_)
      cases hb : (doS L A ((tqW x).getD i 0) ((tqA x).getD i (0, [])).2).1 with
      | true =>
        rw [hb, if_pos rfl] at eV2
        refine And.intro (fun _ => ?_) (fun z => absurd (show b2 true = 0 from z) (by decide))
        refine hK 38 [some (.ref 0), some (.int v), some (.ref _), some (.int (nI (tqW x).length)), some (.int (nI i + 1)), some (.int (nI i * nI 4)), some (.int (nI 1))] [] (shH ru ta rs) I2 J2 0 0 ?_
        rw [nI_1]
        exact ih (i + 1) n J2 I2 _ _ _ (by omega) (by omega) (f.tr f2) nx c2 eV2
      | false =>
        rw [hb, if_neg (by decide)] at eV2
        refine And.intro (fun z => absurd (show b2 false = 0 from rfl) z) (fun _ => ?_)
        rw [← eV2] at hR
        exact hR I2 J2 (f.tr f2) c2
def pdS (TX : Nat → Txt) (H : Hlf) (x : Int32) : Int32 × Ast := if vIn x (hvM H) = true then plS (lwO TX (hvR H)) (TX x.toNatClampNeg) (tqW (TX x.toNatClampNeg)).length 0 (hvA H) else (nI 0 - nI 2, hvA H)
theorem ok_played {I : XI} {TX : Nat → Txt} {H Hi : Hlf} (hg : GRx I TX H Hi) (x : Int32) : AOK (pdS TX H x).2 := by
  unfold pdS
  split
  · exact plS_ok _ _ hg.1.1.1
  · exact hg.1.1.1
theorem q_played {TX : Nat → Txt} {H : Hlf} (x : Int32) : Tle (oQ (hvA H)) (oQ (pdS TX H x).2) := by
  unfold pdS
  split
  · exact q_plS _ _
  · exact Tle.rf _
set_option maxRecDepth 100000 in
set_option maxHeartbeats 8000000 in
theorem cd_played (l : Launch) (d : Nat) (ru ta : Nat) (rs : List XO) (I : XI) (J : XJ) (Rp : XR) (TX : Nat → Txt) (H Hi : Hlf) (hg : GRx I TX H Hi) (x : Int32) (hR : ∀ (I' : XI) (J' : XJ), FCl I I' → CA I' (ruO (hvR H)) (lwO TX (hvR H)) (pdS TX H x).2 → Rp (some (.int (pdS TX H x).1)) (shH (ruO (hvR H)) ta rs) I' J') : xm l (d + 15) 0 0 mX11_played [.ref 0, .int x] (shH (ruO (hvR H)) ta rs) I J Rp := by
  have em : I 0 12 = nI (hvM H) := hg.2.2.1.2.2.1
  have m4 := hg.1.1.2.1
  refine xm_ofK 30 (X := xxX11) (t := tX11_played) (stop := [38]) (ini := false) xx11 pl11 rfl kX11_played (fun h => by cases h) (Nat.le_of_ble_eq_true rfl) (fun K hK => ?_)
  refine (show xm l (d + 14) 0 0 mX11_within [.int x, .int (nI 0), .int (I 0 12 - nI 1)] (shH (ruO (hvR H)) ta rs) I J _ from ?_)
  rw [em]
  cases hv : vIn x (hvM H) with
  | true =>
    have z := (in_v (by omega)).mpr hv
    refine c_within_t l (d + 13) x (nI 0) (nI (hvM H) - nI 1) _ _ _ _ z.1 z.2 ?_
    refine And.intro (fun _ => ?_) (fun z => absurd (show (1 : Int32) = 0 from z) (by decide))
    obtain ⟨t, ht, ex, ex2⟩ := vIn_t (by omega) hv
    have eS : pdS TX H x = plS (lwO TX (hvR H)) (TX t) (tqW (TX t)).length 0 (hvA H) := by
      unfold pdS
      rw [hv, if_pos rfl, ex2]
    obtain ⟨⟨c, c3, g, e5, db⟩, r, _⟩ := hg.2.1.1 t ht
    have lp := cd_pl_loop l d t (by omega) (ruO (hvR H)) ta rs I Rp (lwO TX (hvR H)) x (TX t) c g db r.1.1 _ hR (tqW (TX t)).length 0 30 J I (hvA H) none none (by omega) (by have := r.1.1; omega) FCl.rf hg.1.1.1 hg.ca eS.symm
    subst ex
    refine c_textAt l (d + 13) t (by omega) (ruO (hvR H)) ta rs I J _ ?_
    unfold clz at lp
    rw [← e5] at lp
    have y : t = 0 ∨ t = 1 ∨ t = 2 ∨ t = 3 := by omega
    rcases y with rfl | rfl | rfl | rfl
    all_goals
      refine c_textAt l (d + 13) _ (by omega) (ruO (hvR H)) ta rs I J _ ?_
      exact hK 38 [some (.ref 0), some (.int (nI _)), some (.ref _), some (.int (I _ 5)), some (.int (nI 0)), none, none] [] (shH (ruO (hvR H)) ta rs) I J 0 0 lp
  | false =>
    refine c_within_f l (d + 13) x (nI 0) (nI (hvM H) - nI 1) _ _ _ _ (fun z => by
      have := (in_v (by omega)).mp z
      rw [hv] at this
      cases this) ?_
    refine And.intro (fun z => absurd rfl z) (fun _ => ?_)
    have eS : pdS TX H x = (nI 0 - nI 2, hvA H) := by
      unfold pdS
      rw [hv]
      rfl
    rw [eS] at hR
    exact hR I J FCl.rf hg.ca
