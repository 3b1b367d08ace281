set_option maxRecDepth 100000 in
theorem xx11 : xxP xxX11 := xxP_of (by decide +kernel) rfl rfl (fun q h => by cases h; rfl) rfl rfl
set_option maxRecDepth 100000 in
theorem xx12 : xxP xxX12 := xxP_of (by decide +kernel) rfl rfl (fun q h => by cases h; rfl) rfl rfl
set_option maxRecDepth 100000 in
theorem xxl : xxP xxL := xxP_of (by decide +kernel) rfl rfl (fun q h => by simp [xn, vwCl, xxL] at h) rfl rfl
set_option maxRecDepth 100000 in
theorem xxj0 : xxP xxJ0 := xxP_of (by decide +kernel) rfl rfl (fun q h => by simp [xn, vwCl, xxJ0] at h) rfl rfl
set_option maxRecDepth 100000 in
theorem xxj1 : xxP xxJ1 := xxP_of (by decide +kernel) rfl rfl (fun q h => by simp [xn, vwCl, xxJ1] at h) rfl rfl
set_option maxRecDepth 100000 in
theorem xxj3 : xxP xxJ3 := xxP_of (by decide +kernel) rfl rfl (fun q h => by simp [xn, vwCl, xxJ3] at h) rfl rfl
set_option maxRecDepth 100000 in
theorem xxj6 : xxP xxJ6 := xxP_of (by decide +kernel) rfl rfl (fun q h => by simp [xn, vwCl, xxJ6] at h) rfl rfl
-- what the classes' own words say
def xclP (ci : Nat) (q : vw_C) : Prop := q.2.2 = xN ci ∧ (∀ w ∈ u_ws q.1 q.2.1 q.2.2, w ∈ xgt) ∧ (∀ a, a < q.2.2 → ∀ b, b < q.2.2 → a ≠ b → (q.2.1 a).2.1 ≠ (q.2.1 b).2.1) ∧ ∀ k, k < q.2.2 → parseFieldDescriptor (q.2.1 k).2.2.1 = some (xty ci k) ∧ (q.2.1 k).1 = q.1
theorem xws_mem {C : String} {T : u_T} {N : Nat} (js : List Nat) (h : js.map xlook = (u_ws C T N).map some) (hg : (u_ws C T N).all goodWord = true) : ∀ w ∈ u_ws C T N, w ∈ xgt := fun w hw => xgt_of (xlook_all h w hw) (List.all_eq_true.mp hg w hw)
set_option maxRecDepth 100000 in
theorem xcl0 : xclP 0 (RX0, TX0, 8) := ⟨rfl, xws_mem [2105, 2107, 2109, 2111, 2113, 2115, 2117, 2119] rfl (by decide +kernel), nmX0, fun k hk => ⟨tyX0_ok k hk, (show ∀ k, k < 8 → (TX0 k).1 = RX0 by decide +kernel) k hk⟩⟩
set_option maxRecDepth 100000 in
theorem xcl1 : xclP 1 (RX1, TX1, 10) := ⟨rfl, xws_mem [1080, 1082, 1084, 1086, 1088, 1090, 1092, 1094, 1096, 1098] rfl (by decide +kernel), nmX1, fun k hk => ⟨tyX1_ok k hk, (show ∀ k, k < 10 → (TX1 k).1 = RX1 by decide +kernel) k hk⟩⟩
set_option maxRecDepth 100000 in
theorem xcl2 : xclP 2 (RX2, TX2, 4) := ⟨rfl, xws_mem [1194, 1196, 1198, 1200] rfl (by decide +kernel), nmX2, fun k hk => ⟨tyX2_ok k hk, (show ∀ k, k < 4 → (TX2 k).1 = RX2 by decide +kernel) k hk⟩⟩
set_option maxRecDepth 100000 in
theorem xcl3 : xclP 3 (RX3, TX3, 9) := ⟨rfl, xws_mem [2070, 2072, 2074, 2076, 2078, 2080, 2082, 2084, 2086] rfl (by decide +kernel), nmX3, fun k hk => ⟨tyX3_ok k hk, (show ∀ k, k < 9 → (TX3 k).1 = RX3 by decide +kernel) k hk⟩⟩
set_option maxRecDepth 100000 in
theorem xcl4 : xclP 4 (RX4, TX4, 8) := ⟨rfl, xws_mem [2137, 2139, 2141, 2143, 2145, 2147, 2149, 2151] rfl (by decide +kernel), nmX4, fun k hk => ⟨tyX4_ok k hk, (show ∀ k, k < 8 → (TX4 k).1 = RX4 by decide +kernel) k hk⟩⟩
set_option maxRecDepth 100000 in
theorem xcl5 : xclP 5 (RX5, TX5, 9) := ⟨rfl, xws_mem [2035, 2037, 2039, 2041, 2043, 2045, 2047, 2049, 2051] rfl (by decide +kernel), nmX5, fun k hk => ⟨tyX5_ok k hk, (show ∀ k, k < 9 → (TX5 k).1 = RX5 by decide +kernel) k hk⟩⟩
set_option maxRecDepth 100000 in
theorem xcl6 : xclP 6 (RX6, TX6, 3) := ⟨rfl, xws_mem [1043, 1045, 1047] rfl (by decide +kernel), nmX6, fun k hk => ⟨tyX6_ok k hk, (show ∀ k, k < 3 → (TX6 k).1 = RX6 by decide +kernel) k hk⟩⟩
set_option maxRecDepth 100000 in
theorem xcl7 : xclP 7 (RX7, TX7, 6) := ⟨rfl, xws_mem [2004, 2006, 2008, 2010, 2012, 2014] rfl (by decide +kernel), nmX7, fun k hk => ⟨tyX7_ok k hk, (show ∀ k, k < 6 → (TX7 k).1 = RX7 by decide +kernel) k hk⟩⟩
set_option maxRecDepth 100000 in
theorem xcl8 : xclP 8 (RX8, TX8, 6) := ⟨rfl, xws_mem [1169, 1171, 1173, 1175, 1177, 1179] rfl (by decide +kernel), nmX8, fun k hk => ⟨tyX8_ok k hk, (show ∀ k, k < 6 → (TX8 k).1 = RX8 by decide +kernel) k hk⟩⟩
set_option maxRecDepth 100000 in
theorem xcl9 : xclP 9 (RX9, TX9, 8) := ⟨rfl, xws_mem [1136, 1138, 1140, 1142, 1144, 1146, 1148, 1150] rfl (by decide +kernel), nmX9, fun k hk => ⟨tyX9_ok k hk, (show ∀ k, k < 8 → (TX9 k).1 = RX9 by decide +kernel) k hk⟩⟩
set_option maxRecDepth 100000 in
theorem xcl10 : xclP 10 (RX10, TX10, 3) := ⟨rfl, xws_mem [1219, 1221, 1223] rfl (by decide +kernel), nmX10, fun k hk => ⟨tyX10_ok k hk, (show ∀ k, k < 3 → (TX10 k).1 = RX10 by decide +kernel) k hk⟩⟩
set_option maxRecDepth 100000 in
theorem xcl11 : xclP 11 (RX11, TX11, 18) := ⟨rfl, xws_mem [2172, 2174, 2176, 2178, 2180, 2182, 2184, 2186, 2188, 2190, 2192, 2194, 2196, 2198, 2200, 2202, 2204, 2206] rfl (by decide +kernel), nmX11, fun k hk => ⟨tyX11_ok k hk, (show ∀ k, k < 18 → (TX11 k).1 = RX11 by decide +kernel) k hk⟩⟩
