set_option maxRecDepth 100000 in
theorem xcl9 : xclP 9 (RX9, TX9, 8) := ⟨rfl, xws_mem [1136, 1138, 1140, 1142, 1144, 1146, 1148, 1150] rfl (by decide +kernel), nmX9, fun k hk => ⟨tyX9_ok k hk, (show ∀ k, k < 8 → (TX9 k).1 = RX9 by decide +kernel) k hk⟩⟩
set_option maxRecDepth 100000 in
theorem xcl10 : xclP 10 (RX10, TX10, 3) := ⟨rfl, xws_mem [1219, 1221, 1223] rfl (by decide +kernel), nmX10, fun k hk => ⟨tyX10_ok k hk, (show ∀ k, k < 3 → (TX10 k).1 = RX10 by decide +kernel) k hk⟩⟩
set_option maxRecDepth 100000 in
theorem xcl11 : xclP 11 (RX11, TX11, 18) := ⟨rfl, xws_mem [2172, 2174, 2176, 2178, 2180, 2182, 2184, 2186, 2188, 2190, 2192, 2194, 2196, 2198, 2200, 2202, 2204, 2206] rfl (by decide +kernel), nmX11, fun k hk => ⟨tyX11_ok k hk, (show ∀ k, k < 18 → (TX11 k).1 = RX11 by decide +kernel) k hk⟩⟩
set_option maxRecDepth 100000 in
theorem xcl12 : xclP 12 (RX12, TX12, 48) := ⟨rfl, xws_mem [6044, 6046, 6048, 6050, 6052, 6054, 6056, 6058, 6060, 6062, 6064, 6066, 6068, 6070, 6072, 6074, 6076, 6078, 6080, 6082, 6084, 6086, 6088, 6090, 6092, 6094, 6096, 6098, 6100, 6102, 6104, 6106, 6108, 6110, 6112, 6114, 6116, 6118, 6120, 6122, 6124, 6126, 6128, 6130, 6132, 6134, 6136, 6138] rfl (by decide +kernel), nmX12, fun k hk => ⟨tyX12_ok k hk, (show ∀ k, k < 48 → (TX12 k).1 = RX12 by decide +kernel) k hk⟩⟩
