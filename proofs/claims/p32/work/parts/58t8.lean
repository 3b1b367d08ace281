-- ===== the reference reads a text: the text =====
def FRL : List Nat := [72, 73, 74, 75, 76, 77, 78]
theorem cell_frl : ∀ q, q ∈ CFc → nmem q.1 FRL = false := by decide +kernel
theorem row_frl : ∀ q, q ∈ CFr → nmem q.1 FRL = false := by decide +kernel
theorem cell_free {p k : Nat} (hp : nmem p FRL = true) : cellI CF p k = fr := by
  unfold cellI
  split
  · rename_i q e
    exfalso
    have hm := List.mem_of_find?_eq_some e
    have hq := List.find?_some e
    simp only [Bool.and_eq_true] at hq
    have e1 := Nat.eq_of_beq_eq_true hq.1
    have y := cell_frl q hm
    rw [e1, hp] at y
    cases y
  · split
    · rename_i r e
      have y := row_frl (p, r) (xlk_mem e)
      rw [hp] at y
      cases y
    · rfl
theorem iv_frl {I I' : XI} (h : ivO CF [] I) (t : ∀ p, nmem p FRL = false → I' p = I p) : ivO CF [] I' := by
  intro p k hn
  by_cases hp : nmem p FRL = true
  · rw [cell_free hp]
    exact inI_fr _
  · rw [t p (by simpa using hp)]
    exact h p k hn
theorem iv_put {I : XI} {p k : Nat} {v : Int32} (h : ivO CF [] I) (hv : inI (cellI CF p k) v.toInt) : ivO CF [] (uI I p k v) := by
  intro q j hn
  rw [uI_atA]
  by_cases e : q = p ∧ j = k
  · rw [if_pos e, e.1, e.2]
    exact hv
  · rw [if_neg e]
    exact h q j hn
theorem cell_674 : cellI CF 67 4 = fr ∧ cellI CF 67 5 = fr ∧ cellI CF 67 14 = fr ∧ cellI CF 67 3 = (0, 300) ∧ cellI CF 68 3 = (0, 4) := by decide +kernel
theorem cell_71 (k : Nat) : cellI CF 71 k = (0, 24) := by
  unfold cellI
  split
  · rename_i q e
    exfalso
    have hm := List.mem_of_find?_eq_some e
    have hq := List.find?_some e
    simp only [Bool.and_eq_true] at hq
    have e1 := Nat.eq_of_beq_eq_true hq.1
    have y : ∀ q, q ∈ CFc → Nat.beq q.1 71 = false := by decide +kernel
    have z := y q hm
    rw [e1] at z
    cases z
  · split
    · rename_i r e
      have y := xlk_mem e
      have z : ∀ q, q ∈ CFr → q.1 = 71 → q.2 = ((0 : Int), (24 : Int)) := by decide +kernel
      exact z _ y rfl
    · rename_i e
      exact absurd e (by decide)
abbrev txr (l : Launch) (d : Nat) (ru ta : Nat) (rs : List XO) (J : XJ) (Rp : XR) (n pc : Nat) (o1 o2 : Option Value) (I : XI) : Prop := xrun xxX12 (some .int) false false (shH ru ta rs).length 0 0 none l (d + 9) tX12_text [74, 167, 211, 318] Rp n pc [some (.ref 67), o1, o2] [] (shH ru ta rs) I J 0 0
/-- the orders are copied -/
def P2 (t : Nat) (I5 I : XI) (k : Nat) : Prop := (∀ p, p ≠ 77 → p ≠ 78 → I p = I5 p) ∧ (∀ j, (j < 400 * t ∨ 400 * t + k ≤ j) → I 77 j = I5 77 j ∧ I 78 j = I5 78 j) ∧ ∀ j, j < k → I 77 (400 * t + j) = I5 89 j ∧ I 78 (400 * t + j) = I5 90 j
theorem P2.s {t k : Nat} {I5 I : XI} (h : P2 t I5 I k) : P2 t I5 (uI (uI I 77 (400 * t + k) (I 89 k)) 78 (400 * t + k) (I 90 k)) (k + 1) := by
  refine ⟨fun p h1 h2 => ?_, fun j hj => ?_, fun j hj => ?_⟩
  · rw [uI_ne h2, uI_ne h1]
    exact h.1 p h1 h2
  · have y := h.2.1 j (by omega)
    refine ⟨?_, ?_⟩
    · show upd (I 77) (400 * t + k) (I 89 k) j = _
      rw [pk_un (by omega)]
      exact y.1
    · show upd (I 78) (400 * t + k) (I 90 k) j = _
      rw [pk_un (by omega)]
      exact y.2
  · by_cases z : j = k
    · subst z
      refine ⟨?_, ?_⟩
      · show upd (I 77) (400 * t + j) (I 89 j) (400 * t + j) = _
        rw [pk_us, h.1 89 (by decide) (by decide)]
      · show upd (I 78) (400 * t + j) (I 90 j) (400 * t + j) = _
        rw [pk_us, h.1 90 (by decide) (by decide)]
    · have y := h.2.2 j (by omega)
      refine ⟨?_, ?_⟩
      · show upd (I 77) (400 * t + k) (I 89 k) (400 * t + j) = _
        rw [pk_un (by omega)]
        exact y.1
      · show upd (I 78) (400 * t + k) (I 90 k) (400 * t + j) = _
        rw [pk_un (by omega)]
        exact y.2
set_option maxRecDepth 100000 in
set_option maxHeartbeats 1000000 in
theorem tx_cp2 (l : Launch) (d : Nat) (ru ta : Nat) (rs : List XO) (J : XJ) (Rp : XR) (t o : Nat) (ht : t < 4) (ho : o ≤ 310) (I5 : XI) (e37 : I5 67 37 = nI o) (hR : ∀ I', P2 t I5 I' o → Rp (some (.int (nI t))) (shH ru ta rs) (uI I' 68 3 (I' 68 3 + 1)) J) : ∀ (m k n : Nat) (I : XI), k + m = o → m < n → P2 t I5 I k → txr l d ru ta rs J Rp n 318 (some (.int (nI t))) (some (.int (nI k))) I := by
  intro m
  induction m with
  | zero =>
    intro k n I hk hn h
    obtain ⟨n, rfl⟩ : ∃ n', n = n' + 1 := ⟨n - 1, by omega⟩
    have ek : k = o := by omega
    subst ek
    have e : I 67 37 = nI k := by rw [h.1 67 (by decide) (by decide)]; exact e37
    refine xrun_step fun K hK => ?_
    refine And.intro (fun _ => ?_) (fun z => absurd ?_ z)
    · exact And.intro (vp_b (by decide)) (And.intro (vp_b (by decide)) (hR I h))
    · show I 67 37 ≤ nI k
      rw [e]
      exact Int32.le_refl _
  | succ m ih =>
    intro k n I hk hn h
    obtain ⟨n, rfl⟩ : ∃ n', n = n' + 1 := ⟨n - 1, by omega⟩
    have e : I 67 37 = nI o := by rw [h.1 67 (by decide) (by decide)]; exact e37
    have e400 : (400 : Int32) * nI t + nI k = nI (400 * t + k) := by rw [show (400 : Int32) = nI 400 from rfl, nI_mul, nI_add]
    have vk : vp_in (nI k) 400 := vp_in_nI (by omega) (by omega)
    have vi : vp_in ((400 : Int32) * nI t + nI k) 1600 := by rw [e400]; exact vp_in_nI (by omega) (by omega)
    refine xrun_step fun K hK => ?_
    refine And.intro (fun z => absurd z ?_) (fun _ => ?_)
    · show ¬ I 67 37 ≤ nI k
      rw [e]
      exact nI_ge (by omega) (by omega)
    · refine And.intro vk (And.intro vi (And.intro vk (And.intro vi ?_)))
      refine hK 318 [some (.ref 67), some (.int (nI t)), some (.int (nI k + 1))] [] (shH ru ta rs) (uI (uI I 77 ((400 : Int32) * nI t + nI k).toNatClampNeg (I 89 (nI k).toNatClampNeg)) 78 ((400 : Int32) * nI t + nI k).toNatClampNeg (I 90 (nI k).toNatClampNeg)) J 0 0 ?_
      rw [e400, nI_1, nI_clamp (by omega), nI_clamp (by omega)]
      exact ih (k + 1) n _ (by omega) (by omega) h.s
/-- the clauses are copied -/
def P1 (t : Nat) (I4 I : XI) (k : Nat) : Prop := (∀ p, nmem p [72, 73, 74, 75, 76] = false → I p = I4 p) ∧ (∀ j, (j < 24 * t ∨ 24 * t + k ≤ j) → I 72 j = I4 72 j ∧ I 73 j = I4 73 j) ∧ ∀ j, j < k → I 72 (24 * t + j) = I4 84 j ∧ I 73 (24 * t + j) = nI (400 * t) + I4 85 j
theorem P1.s {t k : Nat} {I4 I : XI} {v4 v5 v6 : Int32} (h : P1 t I4 I k) : P1 t I4 (uI (uI (uI (uI (uI I 72 (24 * t + k) (I 84 k)) 73 (24 * t + k) (nI (400 * t) + I 85 k)) 74 (24 * t + k) v4) 75 (24 * t + k) v5) 76 (24 * t + k) v6) (k + 1) := by
  have n84 : I 84 = I4 84 := h.1 84 (by decide)
  have n85 : I 85 = I4 85 := h.1 85 (by decide)
  refine ⟨fun p hp => ?_, fun j hj => ?_, fun j hj => ?_⟩
  · have y : ∀ q, nmem q [72, 73, 74, 75, 76] = true → p ≠ q := fun q hq z => by
      subst z
      rw [hq] at hp
      cases hp
    rw [uI_ne (y 76 rfl), uI_ne (y 75 rfl), uI_ne (y 74 rfl), uI_ne (y 73 rfl), uI_ne (y 72 rfl)]
    exact h.1 p hp
  · have y := h.2.1 j (by omega)
    refine ⟨?_, ?_⟩
    · show upd (I 72) (24 * t + k) (I 84 k) j = _
      rw [pk_un (by omega)]
      exact y.1
    · show upd (I 73) (24 * t + k) (nI (400 * t) + I 85 k) j = _
      rw [pk_un (by omega)]
      exact y.2
  · by_cases z : j = k
    · subst z
      refine ⟨?_, ?_⟩
      · show upd (I 72) (24 * t + j) (I 84 j) (24 * t + j) = _
        rw [pk_us, n84]
      · show upd (I 73) (24 * t + j) (nI (400 * t) + I 85 j) (24 * t + j) = _
        rw [pk_us, n85]
    · have y := h.2.2 j (by omega)
      refine ⟨?_, ?_⟩
      · show upd (I 72) (24 * t + k) (I 84 k) (24 * t + j) = _
        rw [pk_un (by omega)]
        exact y.1
      · show upd (I 73) (24 * t + k) (nI (400 * t) + I 85 k) (24 * t + j) = _
        rw [pk_un (by omega)]
        exact y.2
