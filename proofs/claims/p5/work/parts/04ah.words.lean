set_option maxRecDepth 100000 in
theorem xx5 : xxP xxX5 := xxP_of (by decide +kernel) rfl rfl (fun q h => by cases h; rfl) rfl rfl
set_option maxRecDepth 100000 in
theorem xx6 : xxP xxX6 := xxP_of (by decide +kernel) rfl rfl (fun q h => by cases h; rfl) rfl rfl
set_option maxRecDepth 100000 in
theorem xx7 : xxP xxX7 := xxP_of (by decide +kernel) rfl rfl (fun q h => by cases h; rfl) rfl rfl
set_option maxRecDepth 100000 in
theorem xx8 : xxP xxX8 := xxP_of (by decide +kernel) rfl rfl (fun q h => by cases h; rfl) rfl rfl
