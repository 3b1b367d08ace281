-- ===== the reference reads a text: clauses, the text =====
theorem dn_up {no nv nw na : Nat → Int32} {c o : Nat} {x y : Int32} (d : DNc no nv nw na c o) : DNc no nv (upd nw c x) (upd na c y) c o := by
  intro j hj h4
  rw [pk_un (by omega)] at h4
  obtain ⟨a, m, h, e, r⟩ := d j hj h4
  exact ⟨a, m, h, by rw [pk_un (by omega)]; exact e, r⟩
theorem pos_nle {x : Int32} (h : 0 < x) : ¬ x ≤ 0 := fun z => by
  have h1 := Int32.lt_iff_toInt_lt.mp h
  have h2 := Int32.le_iff_toInt_le.mp z
  omega
