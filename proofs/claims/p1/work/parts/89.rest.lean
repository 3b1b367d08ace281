set_option maxRecDepth 100000 in
theorem law_c8 (l : Launch) (xs : Nat → Int32) (n : Nat) : lrun l 6 xs (n + 2) 450 lloc [] shXM lI jM 99 18232 := by sorry
set_option maxRecDepth 100000 in
theorem law_c10 (l : Launch) (xs : Nat → Int32) (n : Nat) : lrun l 6 xs (n + 2) 506 lloc [] shXM lI jM 99 18232 := by sorry
set_option maxRecDepth 100000 in
theorem law_c25 (l : Launch) (xs : Nat → Int32) (n : Nat) : lrun l 6 xs (n + 2) 971 lloc [] shXM lI jM 99 18232 := by sorry
set_option maxRecDepth 100000 in
theorem law_c26 (l : Launch) (xs : Nat → Int32) (n : Nat) : lrun l 6 xs (n + 2) 994 lloc [] shXM lI jM 99 18232 := by sorry
set_option maxRecDepth 100000 in
theorem law_c30 (l : Launch) (xs : Nat → Int32) (n : Nat) : lrun l 6 xs (n + 2) 1166 lloc [] shXM lI jM 99 18232 := by sorry
set_option maxRecDepth 100000 in
theorem law_c31 (l : Launch) (xs : Nat → Int32) (n : Nat) : lrun l 6 xs (n + 2) 1219 lloc [] shXM lI jM 99 18232 := by sorry
set_option maxRecDepth 100000 in
theorem law_c33 (l : Launch) (xs : Nat → Int32) (n : Nat) : lrun l 6 xs (n + 2) 1295 lloc [] shXM lI jM 99 18232 := by sorry
