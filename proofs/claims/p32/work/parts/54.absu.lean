-- ===== tables of contracts =====
theorem ctsO_nil {Q : XI → Prop} {C : AC} {X : XX} : ctsO Q C X [] := fun _ h => by cases h
theorem ctsO_cons {Q : XI → Prop} {C : AC} {X : XX} {G : List (Nat × AK)} {idx : Nat} {c : AK} {e : Nat × XM × Nat × (Nat × Nat) × List Nat} (he : xlk X.2.2.2.1 idx = some e) (hc : ctrO Q C c e.2.1) (h : ctsO Q C X G) : ctsO Q C X ((idx, c) :: G) := by
  intro q hq
  rcases List.mem_cons.mp hq with z | z
  · rw [z]
    exact ⟨e, he, hc⟩
  · exact h q z
