-- ===== the state behind both constructors keeps what is told =====
theorem cz0 : ∀ q, q ∈ CFc → q.2.2.1 ≤ 0 ∧ 0 ≤ q.2.2.2 := by decide +kernel
theorem rz0 : ∀ q, q ∈ CFr → q.2.1 ≤ 0 ∧ 0 ≤ q.2.2 := by decide +kernel
theorem cell_0 (p k : Nat) : inI (cellI CF p k) 0 := by
  unfold cellI
  split
  · rename_i q e
    exact cz0 q (List.mem_of_find?_eq_some e)
  · split
    · rename_i r e
      exact rz0 (p, r) (xlk_mem e)
    · exact ⟨by decide, by decide⟩
def inB (r : Int × Int) (z : Int) : Bool := decide (r.1 ≤ z) && decide (z ≤ r.2)
theorem inB_el {r : Int × Int} {z : Int} (h : inB r z = true) : inI r z := by
  unfold inB at h
  simp only [Bool.and_eq_true, decide_eq_true_eq] at h
  exact h
theorem iv_z : ivO CF [] (fun _ _ => 0) := fun p k _ => by
  show inI _ (0 : Int32).toInt
  rw [i32_0]
  exact cell_0 p k
theorem iv_zI {I : XI} {p : Nat} (h : ivO CF [] I) : ivO CF [] (zI I p) := by
  intro q k hn
  by_cases e : q = p
  · subst e
    rw [zI_eq]
    show inI _ (0 : Int32).toInt
    rw [i32_0]
    exact cell_0 q k
  · rw [zI_ne e]
    exact h q k hn
theorem iv_uI {I : XI} {p k : Nat} {v : Int32} (h : ivO CF [] I) (hv : inB (cellI CF p k) v.toInt = true) : ivO CF [] (uI I p k v) := by
  intro q j hn
  rw [uI_atA]
  by_cases e : q = p ∧ j = k
  · rw [if_pos e, e.1, e.2]
    exact inB_el hv
  · rw [if_neg e]
    exact h q j hn
theorem iv_cI {I : XI} (h : ivO CF [] I) : ivO CF [] (cI I 68 69 0 0 2200) := by
  intro q k hn
  by_cases e : q = 69
  · subst e
    rw [cI_eq]
    simp only [va_cpy]
    by_cases hk : 0 ≤ k ∧ k < 0 + 2200
    · rw [if_pos hk, show 0 + (k - 0) = k by omega, cell_6 k]
      exact h 68 k rfl
    · rw [if_neg hk]
      exact h 69 k rfl
  · rw [cI_ne e]
    exact h q k hn
set_option maxRecDepth 100000 in
theorem iv_iX0 : ivO CF [] iX0 := iv_uI (iv_uI (iv_uI (iv_uI (iv_uI (iv_uI (iv_uI (iv_uI (iv_uI (iv_uI (iv_uI (iv_uI (iv_uI (iv_zI (iv_zI (iv_uI (iv_uI (iv_uI (iv_zI (iv_zI (iv_uI (iv_uI (iv_zI (iv_zI (iv_zI (iv_z)))) (by decide +kernel)) (by decide +kernel)))) (by decide +kernel)) (by decide +kernel)) (by decide +kernel)))) (by decide +kernel)) (by decide +kernel)) (by decide +kernel)) (by decide +kernel)) (by decide +kernel)) (by decide +kernel)) (by decide +kernel)) (by decide +kernel)) (by decide +kernel)) (by decide +kernel)) (by decide +kernel)) (by decide +kernel)) (by decide +kernel)
set_option maxRecDepth 100000 in
theorem iv_iX1 : ivO CF [] iX1 := iv_zI (iv_uI (iv_zI (iv_zI (iv_uI (iv_uI (iv_uI (iv_zI (iv_zI (iv_zI (iv_zI (iv_zI (iv_zI (iv_uI (iv_uI (iv_uI (iv_uI (iv_uI (iv_uI (iv_zI (iv_zI (iv_uI (iv_uI (iv_zI (iv_zI (iv_iX0))) (by decide +kernel)) (by decide +kernel)))) (by decide +kernel)) (by decide +kernel)) (by decide +kernel)) (by decide +kernel)) (by decide +kernel)) (by decide +kernel)))))))) (by decide +kernel)) (by decide +kernel)) (by decide +kernel)))) (by decide +kernel))
set_option maxRecDepth 100000 in
theorem iv_iX2 : ivO CF [] iX2 := iv_uI (iv_uI (iv_zI (iv_zI (iv_uI (iv_uI (iv_uI (iv_uI (iv_uI (iv_uI (iv_uI (iv_uI (iv_uI (iv_uI (iv_uI (iv_uI (iv_uI (iv_zI (iv_zI (iv_zI (iv_zI (iv_zI (iv_uI (iv_zI (iv_zI (iv_iX1))) (by decide +kernel))))))) (by decide +kernel)) (by decide +kernel)) (by decide +kernel)) (by decide +kernel)) (by decide +kernel)) (by decide +kernel)) (by decide +kernel)) (by decide +kernel)) (by decide +kernel)) (by decide +kernel)) (by decide +kernel)) (by decide +kernel)) (by decide +kernel)))) (by decide +kernel)) (by decide +kernel)
set_option maxRecDepth 100000 in
theorem iv_iX3 : ivO CF [] iX3 := iv_uI (iv_uI (iv_uI (iv_uI (iv_uI (iv_uI (iv_zI (iv_uI (iv_zI (iv_zI (iv_zI (iv_uI (iv_zI (iv_zI (iv_uI (iv_uI (iv_uI (iv_uI (iv_uI (iv_uI (iv_uI (iv_uI (iv_uI (iv_uI (iv_uI (iv_iX2) (by decide +kernel)) (by decide +kernel)) (by decide +kernel)) (by decide +kernel)) (by decide +kernel)) (by decide +kernel)) (by decide +kernel)) (by decide +kernel)) (by decide +kernel)) (by decide +kernel)) (by decide +kernel)))) (by decide +kernel))))) (by decide +kernel))) (by decide +kernel)) (by decide +kernel)) (by decide +kernel)) (by decide +kernel)) (by decide +kernel)) (by decide +kernel)
set_option maxRecDepth 100000 in
theorem iv_iX4 : ivO CF [] iX4 := iv_zI (iv_zI (iv_zI (iv_zI (iv_uI (iv_zI (iv_zI (iv_uI (iv_uI (iv_uI (iv_uI (iv_uI (iv_uI (iv_uI (iv_zI (iv_uI (iv_uI (iv_uI (iv_uI (iv_uI (iv_zI (iv_zI (iv_zI (iv_zI (iv_uI (iv_iX3) (by decide +kernel)))))) (by decide +kernel)) (by decide +kernel)) (by decide +kernel)) (by decide +kernel)) (by decide +kernel))) (by decide +kernel)) (by decide +kernel)) (by decide +kernel)) (by decide +kernel)) (by decide +kernel)) (by decide +kernel)) (by decide +kernel)))) (by decide +kernel)))))
set_option maxRecDepth 100000 in
theorem iv_iX5 : ivO CF [] iX5 := iv_uI (iv_zI (iv_zI (iv_uI (iv_zI (iv_zI (iv_zI (iv_uI (iv_zI (iv_zI (iv_uI (iv_zI (iv_zI (iv_zI (iv_uI (iv_zI (iv_zI (iv_uI (iv_zI (iv_zI (iv_zI (iv_uI (iv_zI (iv_zI (iv_uI (iv_iX4) (by decide +kernel)))) (by decide +kernel))))) (by decide +kernel)))) (by decide +kernel))))) (by decide +kernel)))) (by decide +kernel))))) (by decide +kernel)))) (by decide +kernel)
set_option maxRecDepth 100000 in
theorem iv_iX6 : ivO CF [] iX6 := iv_uI (iv_zI (iv_zI (iv_zI (iv_iX5)))) (by decide +kernel)
set_option maxRecDepth 100000 in
theorem iv_iX : ivO CF [] iX := iv_iX6
set_option maxRecDepth 100000 in
theorem iv_iM0 : ivO CF [] iM0 := iv_zI (iv_zI (iv_zI (iv_zI (iv_zI (iv_zI (iv_zI (iv_zI (iv_zI (iv_zI (iv_zI (iv_zI (iv_zI (iv_zI (iv_zI (iv_zI (iv_zI (iv_zI (iv_zI (iv_uI (iv_uI (iv_zI (iv_zI (iv_zI (iv_zI (iv_iX))))) (by decide +kernel)) (by decide +kernel))))))))))))))))))))
set_option maxRecDepth 100000 in
theorem iv_iM1 : ivO CF [] iM1 := iv_uI (iv_uI (iv_zI (iv_zI (iv_zI (iv_zI (iv_zI (iv_zI (iv_zI (iv_zI (iv_zI (iv_iM0)))))))))) (by decide +kernel)) (by decide +kernel)
set_option maxRecDepth 100000 in
theorem iv_iM : ivO CF [] iM := iv_iM1
def lI : XI := cI iM 68 69 0 0 2200
theorem iv_lI : ivO CF [] lI := iv_cI iv_iM
theorem qq_lI : QQ lI := by
  have e : ∀ t, t < 4 → lI 71 t = 0 := by decide +kernel
  intro t j ht hj _
  rw [e t ht, i32_0] at hj
  omega
def refB : List (Option (List Nat)) → List (Option Nat) → Bool
  | [], [] => true
  | some ps :: cs, some p :: rs => nmem p ps && refB cs rs
  | none :: cs, none :: rs => refB cs rs
  | _, _ => false
theorem refB_ok : ∀ {cs : List (Option (List Nat))} {rs : List (Option Nat)}, refB cs rs = true → refO cs rs
  | [], [], _ => ⟨rfl, fun k ps h => (by cases h), fun k h => (by cases h)⟩
  | some ps :: cs, some p :: rs, h => by
    replace h : (nmem p ps && refB cs rs) = true := h
    simp only [Bool.and_eq_true] at h
    have y := refB_ok h.2
    refine ⟨by simp [y.1], fun k qs hk => ?_, fun k hk => ?_⟩
    · cases k with
      | zero =>
        cases hk
        exact ⟨p, nmem_el h.1, rfl⟩
      | succ k => exact y.2.1 k qs hk
    · cases k with
      | zero => cases hk
      | succ k => exact y.2.2 k hk
  | none :: cs, none :: rs, h => by
    have y := refB_ok (cs := cs) (rs := rs) h
    refine ⟨by simp [y.1], fun k qs hk => ?_, fun k hk => ?_⟩
    · cases k with
      | zero => cases hk
      | succ k => exact y.2.1 k qs hk
    · cases k with
      | zero => rfl
      | succ k => exact y.2.2 k hk
  | [], _ :: _, h => by cases h
  | some _ :: _, [], h => by cases h
  | none :: _, [], h => by cases h
  | some _ :: _, none :: _, h => by cases h
  | none :: _, some _ :: _, h => by cases h
def aoB (o : AO) (x : XO) : Bool := match o, x with
  | .inl a, .inl b => Nat.beq a.1 b.1 && refB a.2 b.2
  | .inr a, .inr b => Nat.beq a.1 b.1 && Nat.beq a.2.1 b.2.1 && refB a.2.2 b.2.2
  | _, _ => false
theorem aoB_ok {o : AO} {x : XO} (h : aoB o x = true) : aoO o x := by
  unfold aoB at h
  split at h
  · simp only [Bool.and_eq_true] at h
    exact ⟨Nat.eq_of_beq_eq_true h.1, refB_ok h.2⟩
  · simp only [Bool.and_eq_true] at h
    exact ⟨Nat.eq_of_beq_eq_true h.1.1, Nat.eq_of_beq_eq_true h.1.2, refB_ok h.2⟩
  · cases h
theorem sh_XMb : (CF.1.all fun q => match xn shXM q.1 with
    | some x => aoB q.2 x
    | none => false) = true := by decide +kernel
theorem sh_XM : shO CF shXM := by
  intro p o h
  have y := List.all_eq_true.mp sh_XMb (p, o) (xlk_mem h)
  dsimp only at y
  split at y
  · rename_i x e
    exact ⟨x, e, aoB_ok y⟩
  · cases y
