theorem doS_0 (L : Lws) (A : Ast) (D : List Nat) (w : Nat) (hw : w ≤ 4) : doS L A w D = (true, A) := by
  match w, hw with
  | 0, _ => rfl
  | 1, _ => rfl
  | 2, _ => rfl
  | 3, _ => rfl
  | 4, _ => rfl
theorem b2_mv (A : Ast) (x y : Int32) : (moveS A x y).1 = b2 (decide ((moveS A x y).1 = 1)) := by
  rcases mv_01 (A := A) (x := x) (y := y) with e | e
  · rw [e]
    rfl
  · rw [e]
    rfl
theorem b2_ph (L : Lws) (k : Nat) (A : Ast) : (if phC L k A = k then (1 : Int32) else 0) = b2 (decide (phC L k A = k)) := by
  by_cases e : phC L k A = k
  · rw [if_pos e, decide_eq_true e]
    rfl
  · rw [if_neg e, decide_eq_false e]
    rfl
theorem dS1_5 (L : Lws) (A : Ast) (D : List Nat) : b2 (doS L A 5 D).1 = b2 (!(decide ((thS A (aD D 0) (aD D 1) (aD D 2)).1 = -1))) := rfl
theorem dS2_5 (L : Lws) (A : Ast) (D : List Nat) : (doS L A 5 D).2 = (thS A (aD D 0) (aD D 1) (aD D 2)).2 := rfl
theorem dS1_6 (L : Lws) (A : Ast) (D : List Nat) : b2 (doS L A 6 D).1 = b2 (!(decide ((reS A (aD D 0)).1 = -1))) := rfl
theorem dS2_6 (L : Lws) (A : Ast) (D : List Nat) : (doS L A 6 D).2 = (reS A (aD D 0)).2 := rfl
theorem dS1_7 (L : Lws) (A : Ast) (D : List Nat) : b2 (doS L A 7 D).1 = b2 (!(decide ((baS A (aD D 0)).1 = -1))) := rfl
theorem dS2_7 (L : Lws) (A : Ast) (D : List Nat) : (doS L A 7 D).2 = (baS A (aD D 0)).2 := rfl
theorem dS1_8 (L : Lws) (A : Ast) (D : List Nat) : b2 (doS L A 8 D).1 = b2 (!(decide ((cutS L A (aD D 0) (aD D 1) (aD D 2)).1 = -1))) := rfl
theorem dS2_8 (L : Lws) (A : Ast) (D : List Nat) : (doS L A 8 D).2 = (cutS L A (aD D 0) (aD D 1) (aD D 2)).2 := rfl
theorem dS1_9 (L : Lws) (A : Ast) (D : List Nat) : b2 (doS L A 9 D).1 = b2 (!(decide ((lastS A (aD D 0) (aD D 1)).1 = -1))) := rfl
theorem dS2_9 (L : Lws) (A : Ast) (D : List Nat) : (doS L A 9 D).2 = (lastS A (aD D 0) (aD D 1)).2 := rfl
theorem dS1_10 (L : Lws) (A : Ast) (D : List Nat) : b2 (doS L A 10 D).1 = b2 (!(decide ((useS A (aD D 0) (aD D 1)).1 = -1))) := rfl
theorem dS2_10 (L : Lws) (A : Ast) (D : List Nat) : (doS L A 10 D).2 = (useS A (aD D 0) (aD D 1)).2 := rfl
theorem dS1_11 (L : Lws) (A : Ast) (D : List Nat) : b2 (doS L A 11 D).1 = (moveS A (aD D 0) (aD D 1)).1 := (b2_mv A _ _).symm
theorem dS2_11 (L : Lws) (A : Ast) (D : List Nat) : (doS L A 11 D).2 = (moveS A (aD D 0) (aD D 1)).2 := rfl
theorem dS1_12 (L : Lws) (A : Ast) (D : List Nat) : b2 (doS L A 12 D).1 = b2 (!(decide ((sellS L A (aD D 0)).1 = -1))) := rfl
theorem dS2_12 (L : Lws) (A : Ast) (D : List Nat) : (doS L A 12 D).2 = (sellS L A (aD D 0)).2 := rfl
theorem dS1_13 (L : Lws) (A : Ast) (D : List Nat) : b2 (doS L A 13 D).1 = (if phC L (D.getD 0 0) A = D.getD 0 0 then (1 : Int32) else 0) := (b2_ph L _ A).symm
theorem dS2_13 (L : Lws) (A : Ast) (D : List Nat) : (doS L A 13 D).2 = phS L (D.getD 0 0) A := rfl
