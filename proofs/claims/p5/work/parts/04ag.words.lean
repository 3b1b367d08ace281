set_option maxRecDepth 100000 in
theorem xx1 : xxP xxX1 := xxP_of (by decide +kernel) rfl rfl (fun q h => by cases h; rfl) rfl rfl
set_option maxRecDepth 100000 in
theorem xx2 : xxP xxX2 := xxP_of (by decide +kernel) rfl rfl (fun q h => by cases h; rfl) rfl rfl
set_option maxRecDepth 100000 in
theorem xx3 : xxP xxX3 := xxP_of (by decide +kernel) rfl rfl (fun q h => by cases h; rfl) rfl rfl
set_option maxRecDepth 100000 in
theorem xx4 : xxP xxX4 := xxP_of (by decide +kernel) rfl rfl (fun q h => by cases h; rfl) rfl rfl
