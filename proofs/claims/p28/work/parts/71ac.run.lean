theorem VT_b01 {x : Int} (h : x = 0 ∨ x = 1) : inM x := by
  rcases h with rfl | rfl
  · exact ⟨by omega, by omega⟩
  · exact ⟨by omega, by omega⟩
theorem i64_b {x : Int64} (h : x.toInt = 0 ∨ x.toInt = 1) : x = 0 ∨ x = 1 := by
  rcases h with h | h
  · exact Or.inl (Int64.toInt_inj.mp (h.trans i64_0.symm))
  · exact Or.inr (Int64.toInt_inj.mp (h.trans i64_1.symm))
theorem bit_406 {x y : Int64} (hx : x.toInt = 0 ∨ x.toInt = 1) (hy : y.toInt = 0 ∨ y.toInt = 1) : (x &&& y).toInt = wrk 406 x.toInt y.toInt := by
  rcases i64_b hx with rfl | rfl <;> rcases i64_b hy with rfl | rfl <;> decide
theorem bit_407 {x y : Int64} (hx : x.toInt = 0 ∨ x.toInt = 1) (hy : y.toInt = 0 ∨ y.toInt = 1) : (x ||| y).toInt = wrk 407 x.toInt y.toInt := by
  rcases i64_b hx with rfl | rfl <;> rcases i64_b hy with rfl | rfl <;> decide
abbrev rnL (w gr : Int32) (top i : Nat) (o5 o6 o7 o9 o11 : Option Value) : List (Option Value) := [some (.ref 23), some (.int w), some (.int gr), some (.int (nI top)), some (.int (nI i)), o5, o6, o7, none, o9, none, o11, none]
abbrev rnr (l : Launch) (ru ta : Nat) (rs : List XO) (I : XI) (Rp : XR) (d n pc : Nat) (lc : List (Option Value)) (J : XJ) : Prop := xrun xxX2 (some .int) false false (shH ru ta rs).length 0 0 none l d tX2_run [24, 88, 125, 449] Rp n pc lc [] (shH ru ta rs) I J 0 0
