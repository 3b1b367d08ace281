-- ===== the law's calls, one by one; its loop =====
def intP (P : AP) : Bool := match P.2.1 with
  | .inl _ => true
  | _ => false
theorem int_post {posts : List AP} {as : List Value} {v : Option Value} {I : XI} (h : posts.all intP = true) (hp : ∃ P, P ∈ posts ∧ pstO as P v I) : ∃ r, v = some (.int r) := by
  obtain ⟨P, hP, hp⟩ := hp
  have y := List.all_eq_true.mp h P hP
  have z := hp.2.1
  unfold intP at y
  split at y
  · rename_i w e
    rw [e] at z
    obtain ⟨x, hx, _⟩ := z
    exact ⟨x, hx⟩
  · cases y
def voidP (P : AP) : Bool := match P.2.1 with
  | .inr (.inr 9) => true
  | _ => false
theorem void_post {posts : List AP} {as : List Value} {v : Option Value} {I : XI} (h : posts.all voidP = true) (hp : ∃ P, P ∈ posts ∧ pstO as P v I) : v = none := by
  obtain ⟨P, hP, hp⟩ := hp
  have y := List.all_eq_true.mp h P hP
  have z := hp.2.1
  unfold voidP at y
  split at y
  · rename_i e
    rw [e] at z
    exact z
  · cases y
def lst : List Nat := [18, 196, 239, 262, 285, 328, 361, 394, 427, 450, 473, 506, 569, 592, 605, 628, 651, 674, 687, 720, 753, 786, 819, 852, 885, 938, 971, 994, 1027, 1080, 1123, 1166, 1219, 1252, 1295, 1354, 1367, 1380, 1403]
abbrev lrun (l : Launch) (L : Nat) (xs : Nat → Int32) (n : Nat) (pc : Nat) : XP := xrun xxL (some .boolean) false true 0 600000 7302249 (some (L, xs)) l 1399 tL_law lst (fun v _ _ _ => v = some (.int 1)) n pc
def lloc (c : Nat) : List (Option Value) := [some (.ref 900000), some (.ref 0), some (.ref 67), some (.int (nI (6 * c)))]
