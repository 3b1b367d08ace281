-- ===== the tables' words, by their places =====
theorem xsel_eq : xsel = k2_sels lw_privs := rfl
def xlook (j : Nat) : Option Cond := xn (xtab (j / 1000)) (j % 1000)
theorem xtab_mem {g : Nat} {w : Cond} (h : w ∈ xtab g) : w ∈ lw_tbl := by
  have t1 : ∀ {w : Cond}, w ∈ tables_1 → w ∈ lw_tbl := fun h => List.mem_append_right _ h
  match g, h with
  | 0, h => exact List.mem_append_left _ (by rw [← xsel_eq]; exact h)
  | 1, h => exact t1 (List.mem_append_left _ h)
  | 2, h => exact t1 (List.mem_append_right _ (List.mem_append_left _ h))
  | 3, h => exact t1 (List.mem_append_right _ (List.mem_append_right _ (List.mem_append_left _ h)))
  | 4, h => exact t1 (List.mem_append_right _ (List.mem_append_right _ (List.mem_append_right _ (List.mem_append_left _ h))))
  | 5, h => exact t1 (List.mem_append_right _ (List.mem_append_right _ (List.mem_append_right _ (List.mem_append_right _ (List.mem_append_left _ h)))))
  | 6, h => exact t1 (List.mem_append_right _ (List.mem_append_right _ (List.mem_append_right _ (List.mem_append_right _ (List.mem_append_right _ (List.mem_append_left _ h))))))
  | 7, h => exact t1 (List.mem_append_right _ (List.mem_append_right _ (List.mem_append_right _ (List.mem_append_right _ (List.mem_append_right _ (List.mem_append_right _ (List.mem_append_left _ h)))))))
  | n + 8, h => exact t1 (List.mem_append_right _ (List.mem_append_right _ (List.mem_append_right _ (List.mem_append_right _ (List.mem_append_right _ (List.mem_append_right _ (List.mem_append_right _ h)))))))
theorem xlook_mem {j : Nat} {w : Cond} (h : xlook j = some w) : w ∈ lw_tbl := by
  unfold xlook at h
  rw [xn_eq] at h
  exact xtab_mem (List.mem_of_getElem? h)
theorem xlook_all : ∀ {ws : List Cond} {js : List Nat}, js.map xlook = ws.map some → ∀ w ∈ ws, w ∈ lw_tbl
  | [], _, _, w, hw => absurd hw List.not_mem_nil
  | v :: ws, [], h, w, hw => by simp at h
  | v :: ws, j :: js, h, w, hw => by
    simp only [List.map_cons, List.cons.injEq] at h
    rcases List.mem_cons.mp hw with e | e
    · subst e
      exact xlook_mem h.1
    · exact xlook_all h.2 w e
abbrev XX : Type := String × Nat × List (Nat × Nat × Nat × Nat) × List XCe × List (Nat × Int64 × Nat) × List (Nat × Int32 × Nat) × List (Nat × Nat × List Nat)
def xcn : Nat → String := fun i => match i with
  | 0 => RX0
  | 1 => RX1
  | 2 => RX2
  | 3 => RX3
  | 4 => RX4
  | 5 => RX5
  | 6 => RX6
  | 7 => RX7
  | 8 => RX8
  | 9 => RX9
  | 10 => RX10
  | 11 => RX11
  | 12 => RX12
  | 13 => RJ0
  | 14 => RJ1
  | 15 => RJ3
  | _ => RJ6
