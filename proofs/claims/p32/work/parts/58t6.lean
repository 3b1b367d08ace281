-- ===== the reference reads a text: a clause =====
set_option maxRecDepth 100000 in
/-- nothing waits: nothing is worked -/
theorem tx_works0 (l : Launch) (d : Nat) (r : Int32) (ru ta : Nat) (rs : List XO) (I : XI) (J : XJ) (Rp : XR) (e : I 67 25 = nI 0) (hR : Rp none (shH ru ta rs) I J) : xm l (d + 1) 0 0 mX12_works [.ref 67, .int r] (shH ru ta rs) I J Rp := by
  refine xm_of (X := xxX12) (t := tX12_works) (stop := [0]) (ini := false) (n := 1) xx12 pl12 rfl kX12_works (fun h => by cases h) (Nat.le_of_ble_eq_true rfl) ?_
  show xrun xxX12 none false false (shH ru ta rs).length 0 0 none l d tX12_works [0] Rp (0 + 1) 0 [some (.ref 67), some (.int r)] [] (shH ru ta rs) I J 0 0
  refine xrun_step fun K hK => ?_
  refine And.intro (fun _ => hR) (fun h => absurd ?_ h)
  show I 67 25 ≤ 0
  rw [e]
  exact Int32.le_refl _
/-- while a deed is read -/
def DG (I : XI) (T c r0 : Nat) : Prop := ∃ at_ o : Nat, I 67 15 = nI at_ ∧ I 67 25 = nI 0 ∧ I 67 37 = nI o ∧ I 67 21 = nI 0 ∧ (at_ ≤ T ∧ (I 67 17 = 1 → (I 67 18).toInt ≤ 31)) ∧ o + (if I 67 17 = 0 then 0 else 1) + (T - at_) ≤ 310 ∧ DNc (I 89) (I 90) (I 84) (I 85) c o ∧ rm I T < r0 ∧ ¬ (I 84 c).toInt ≤ 4
def DO (I0 I : XI) (T c r0 : Nat) : Prop := TF I0 I ∧ I 67 14 = nI T ∧ (∃ a, I 67 15 = nI a ∧ a ≤ T) ∧ I 67 30 = nI c ∧ (0 < I 67 19 ∨ (I 67 19 = 0 ∧ DG I T c r0))
theorem DO.er {I0 I I' : XI} {T c r0 : Nat} (h : DO I0 I T c r0) (e : ER I I') : DO I0 I' T c r0 := ⟨e.tf h.1, by rw [e.2.2.1 14 (by omega) (by omega)]; exact h.2.1, by rw [e.2.2.1 15 (by omega) (by omega)]; exact h.2.2.1, by rw [e.2.2.1 30 (by omega) (by omega)]; exact h.2.2.2.1, Or.inl (e.2.2.2 (h.2.2.2.2.elim Or.inr (fun z => Or.inl z.1)))⟩
theorem DO.nx {I0 I I' : XI} {T c r0 : Nat} (hT : T ≤ 300) (h : DO I0 I T c r0) (h0 : I 67 17 ≠ 0) (q : NX I I' T) : DO I0 I' T c r0 := by
  have hr := rm_nx hT h0 q
  obtain ⟨tf, e1, ⟨a0, e2, ha⟩, e3, h⟩ := h
  obtain ⟨q1, a, a', h1, h2, h3, h4, h5, h6⟩ := q
  refine ⟨EQT.tf tf q1, by rw [q1.2 14 (by omega)]; exact e1, ⟨a', h2, h4⟩, by rw [q1.2 30 (by omega)]; exact e3, ?_⟩
  rcases h with z | ⟨z, at_, o, d1, d2, d3, d4, d5, d6, d7, d8, d9⟩
  · left
    rw [q1.2 19 (by omega)]
    exact z
  · have ea : at_ = a := nI_small (d1.symm.trans h1) (by omega) (by omega)
    subst ea
    refine Or.inr ⟨by rw [q1.2 19 (by omega)]; exact z, a', o, h2, by rw [q1.2 25 (by omega)]; exact d2, by rw [q1.2 37 (by omega)]; exact d3, by rw [q1.2 21 (by omega)]; exact d4, ⟨h4, h6⟩, ?_, ?_, by omega, by rw [q1.1 84 (by decide)]; exact d9⟩
    · rw [if_neg h0] at d6
      rcases h5 with z | z
      · rw [if_pos z]
        omega
      · split <;> omega
    · rw [q1.1 84 (by decide), q1.1 85 (by decide), q1.1 89 (by decide), q1.1 90 (by decide)]
      exact d7
theorem DO_86 {I0 I : XI} {T c r0 p k : Nat} {v : Int32} (hp : p = 86 ∨ p = 87 ∨ p = 88) (h : DO I0 I T c r0) : DO I0 (uI I p k v) T c r0 := by
  obtain ⟨tf, e1, e2, e3, h⟩ := h
  rcases hp with rfl | rfl | rfl
  · exact ⟨tf.u rfl (fun z => by cases z), e1, e2, e3, h⟩
  · exact ⟨tf.u rfl (fun z => by cases z), e1, e2, e3, h⟩
  · exact ⟨tf.u rfl (fun z => by cases z), e1, e2, e3, h⟩
