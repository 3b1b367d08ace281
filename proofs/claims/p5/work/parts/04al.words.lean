set_option maxRecDepth 100000 in
theorem xcl1 : xclP 1 (RX1, TX1, 10) := ⟨rfl, xws_mem [1080, 1082, 1084, 1086, 1088, 1090, 1092, 1094, 1096, 1098] rfl (by decide +kernel), nmX1, fun k hk => ⟨tyX1_ok k hk, (show ∀ k, k < 10 → (TX1 k).1 = RX1 by decide +kernel) k hk⟩⟩
set_option maxRecDepth 100000 in
theorem xcl2 : xclP 2 (RX2, TX2, 4) := ⟨rfl, xws_mem [1194, 1196, 1198, 1200] rfl (by decide +kernel), nmX2, fun k hk => ⟨tyX2_ok k hk, (show ∀ k, k < 4 → (TX2 k).1 = RX2 by decide +kernel) k hk⟩⟩
set_option maxRecDepth 100000 in
theorem xcl3 : xclP 3 (RX3, TX3, 9) := ⟨rfl, xws_mem [2070, 2072, 2074, 2076, 2078, 2080, 2082, 2084, 2086] rfl (by decide +kernel), nmX3, fun k hk => ⟨tyX3_ok k hk, (show ∀ k, k < 9 → (TX3 k).1 = RX3 by decide +kernel) k hk⟩⟩
set_option maxRecDepth 100000 in
theorem xcl4 : xclP 4 (RX4, TX4, 8) := ⟨rfl, xws_mem [2137, 2139, 2141, 2143, 2145, 2147, 2149, 2151] rfl (by decide +kernel), nmX4, fun k hk => ⟨tyX4_ok k hk, (show ∀ k, k < 8 → (TX4 k).1 = RX4 by decide +kernel) k hk⟩⟩
