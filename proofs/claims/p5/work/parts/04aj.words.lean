set_option maxRecDepth 100000 in
theorem xxl : xxP xxL := xxP_of (by decide +kernel) rfl rfl (fun q h => by simp [xn, vwCl, xxL] at h) rfl rfl
set_option maxRecDepth 100000 in
theorem xxj0 : xxP xxJ0 := xxP_of (by decide +kernel) rfl rfl (fun q h => by simp [xn, vwCl, xxJ0] at h) rfl rfl
set_option maxRecDepth 100000 in
theorem xxj1 : xxP xxJ1 := xxP_of (by decide +kernel) rfl rfl (fun q h => by simp [xn, vwCl, xxJ1] at h) rfl rfl
set_option maxRecDepth 100000 in
theorem xxj3 : xxP xxJ3 := xxP_of (by decide +kernel) rfl rfl (fun q h => by simp [xn, vwCl, xxJ3] at h) rfl rfl
