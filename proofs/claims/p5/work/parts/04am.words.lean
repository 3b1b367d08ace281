set_option maxRecDepth 100000 in
theorem xcl5 : xclP 5 (RX5, TX5, 9) := ⟨rfl, xws_mem [2035, 2037, 2039, 2041, 2043, 2045, 2047, 2049, 2051] rfl (by decide +kernel), nmX5, fun k hk => ⟨tyX5_ok k hk, (show ∀ k, k < 9 → (TX5 k).1 = RX5 by decide +kernel) k hk⟩⟩
set_option maxRecDepth 100000 in
theorem xcl6 : xclP 6 (RX6, TX6, 3) := ⟨rfl, xws_mem [1043, 1045, 1047] rfl (by decide +kernel), nmX6, fun k hk => ⟨tyX6_ok k hk, (show ∀ k, k < 3 → (TX6 k).1 = RX6 by decide +kernel) k hk⟩⟩
set_option maxRecDepth 100000 in
theorem xcl7 : xclP 7 (RX7, TX7, 6) := ⟨rfl, xws_mem [2004, 2006, 2008, 2010, 2012, 2014] rfl (by decide +kernel), nmX7, fun k hk => ⟨tyX7_ok k hk, (show ∀ k, k < 6 → (TX7 k).1 = RX7 by decide +kernel) k hk⟩⟩
set_option maxRecDepth 100000 in
theorem xcl8 : xclP 8 (RX8, TX8, 6) := ⟨rfl, xws_mem [1169, 1171, 1173, 1175, 1177, 1179] rfl (by decide +kernel), nmX8, fun k hk => ⟨tyX8_ok k hk, (show ∀ k, k < 6 → (TX8 k).1 = RX8 by decide +kernel) k hk⟩⟩
