theorem iv_96 {I : XI} {k : Nat} {v : Int32} (h : ivO CF [] I) (hv : inI (0, 11) v.toInt) : ivO CF [] (uI I 96 k v) := by
  intro p j hn
  by_cases hp : p = 96
  · subst hp
    rw [uI_eq]
    by_cases hj : j = k
    · subst hj
      rw [show upd (I 96) j v j = v by simp [upd]]
      exact hv
    · rw [show upd (I 96) k v j = I 96 j by simp [upd, hj]]
      exact h 96 j hn
  · rw [uI_ne hp]
    exact h p j hn
