set_option maxRecDepth 100000 in
theorem xx9 : xxP xxX9 := xxP_of (by decide +kernel) rfl rfl (fun q h => by cases h; rfl) rfl rfl
set_option maxRecDepth 100000 in
theorem xx10 : xxP xxX10 := xxP_of (by decide +kernel) rfl rfl (fun q h => by cases h; rfl) rfl rfl
set_option maxRecDepth 100000 in
theorem xx11 : xxP xxX11 := xxP_of (by decide +kernel) rfl rfl (fun q h => by cases h; rfl) rfl rfl
set_option maxRecDepth 100000 in
theorem xx12 : xxP xxX12 := xxP_of (by decide +kernel) rfl rfl (fun q h => by cases h; rfl) rfl rfl
