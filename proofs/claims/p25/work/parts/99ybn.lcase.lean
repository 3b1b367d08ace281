set_option maxRecDepth 100000 in
set_option maxHeartbeats 4000000 in
theorem law_go (l : Launch) (L : Nat) (xs : Nat → Int32) (hL : L ≤ 3072) : lrun l L xs 1541 0 [some (.ref 900000), none, none, none] [] [] (fun _ _ => 0) (fun _ _ => 0) 0 0 := by
  refine xrun_step fun K hK => ?_
  refine ctor_x l 1395 _ ?_
  refine ctor_m l 1397 _ ?_
  exact hK 18 (lloc 0) [] shXM lI jM 99 18232 (law_loop l L xs hL 513 1540 0 shXM lI jM (by omega) (by omega) lin2_lI)
