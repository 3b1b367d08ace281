set_option maxRecDepth 100000 in
theorem pk99pre (N P : Nat) (i w : Int32) (I : XI) : preO (0 :: numsV [.ref 67, .int (nI N), .int i]) [0, (nI N).toInt, i.toInt, (nI P).toInt, w.toInt, (I 68 2).toInt] := by
  intro k z hz
  match k, hz with
  | 0, hz => exact hz
  | 1, hz => exact hz
  | 2, hz => exact hz
  | _ + 3, hz => cases hz
