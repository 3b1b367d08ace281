set_option maxRecDepth 100000 in
theorem xcl12 : xclP 12 (RX12, TX12, 48) := ⟨rfl, xws_mem [6044, 6046, 6048, 6050, 6052, 6054, 6056, 6058, 6060, 6062, 6064, 6066, 6068, 6070, 6072, 6074, 6076, 6078, 6080, 6082, 6084, 6086, 6088, 6090, 6092, 6094, 6096, 6098, 6100, 6102, 6104, 6106, 6108, 6110, 6112, 6114, 6116, 6118, 6120, 6122, 6124, 6126, 6128, 6130, 6132, 6134, 6136, 6138] rfl (by decide +kernel), nmX12, fun k hk => ⟨tyX12_ok k hk, (show ∀ k, k < 48 → (TX12 k).1 = RX12 by decide +kernel) k hk⟩⟩
theorem xcl {ci : Nat} {q : vw_C} (h : xn vwCl ci = some q) : xclP ci q := by
  match ci, h with
  | 0, h => cases h; exact xcl0
  | 1, h => cases h; exact xcl1
  | 2, h => cases h; exact xcl2
  | 3, h => cases h; exact xcl3
  | 4, h => cases h; exact xcl4
  | 5, h => cases h; exact xcl5
  | 6, h => cases h; exact xcl6
  | 7, h => cases h; exact xcl7
  | 8, h => cases h; exact xcl8
  | 9, h => cases h; exact xcl9
  | 10, h => cases h; exact xcl10
  | 11, h => cases h; exact xcl11
  | 12, h => cases h; exact xcl12
  | n + 13, h => simp [xn, vwCl] at h
