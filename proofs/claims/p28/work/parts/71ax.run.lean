section RUN
variable (l : Launch) (ta : Nat) (rs : List XO) (I : XI) (Rp : XR) (d : Nat)
/-- the class's names: those that law kk may use -/
def NMc (r : Nat → Int32) (kk : Nat) (nm : Nat → Int) : Prop := ∀ n, n ≤ 10 → myN n kk = true → (r (rnm n)).toInt = nm n ∧ inM (nm n)
theorem rnm_le {n : Nat} (h : n ≤ 10) : rnm n < 11 := by
  have : ∀ n, n < 11 → rnm n < 11 := by decide
  exact this n (by omega)
theorem PLr.top {r : Nat → Int64} {x : Int} {p : List Int} (h : PLr r (x :: p)) : (r ((x :: p).length - 1)).toInt = x := h.1
theorem PLr.snd {r : Nat → Int64} {y x : Int} {p : List Int} (h : PLr r (y :: x :: p)) : (r ((y :: x :: p).length - 2)).toInt = x := h.2.1
end RUN
