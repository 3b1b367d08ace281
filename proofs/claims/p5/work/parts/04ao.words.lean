theorem xcl {ci : Nat} {q : vw_C} (h : xn vwCl ci = some q) : xclP ci q := by
  match ci, h with
  | 0, h => cases h; exact xcl0
  | 1, h => cases h; exact xcl1
  | 2, h => cases h; exact xcl2
  | 3, h => cases h; exact xcl3
  | 4, h => cases h; exact xcl4
  | 5, h => cases h; exact xcl5
  | 6, h => cases h; exact xcl6
  | 7, h => cases h; exact xcl7
  | 8, h => cases h; exact xcl8
  | 9, h => cases h; exact xcl9
  | 10, h => cases h; exact xcl10
  | 11, h => cases h; exact xcl11
  | 12, h => cases h; exact xcl12
  | n + 13, h => simp [xn, vwCl] at h
