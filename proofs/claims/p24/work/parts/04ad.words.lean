theorem xxP_of {X : XX} (h1 : xxB X = true) (h2 : (xwj X).map (fun q => q.2.map xlook) = (xwj X).map (fun q => q.1.map some)) (h3 : (X.2.2.2.1.flatMap xcs2).map (fun q => q.1) = (X.2.2.2.1.flatMap xcs2).map (fun q => q.2)) (h4 : ∀ q, xn vwCl X.2.1 = some q → q.1 = X.1) (h5 : (X.2.2.2.1.flatMap (xcne X.1)).map (fun q => q.1) = (X.2.2.2.1.flatMap (xcne X.1)).map (fun q => q.2)) (h6 : X.1 = xnm X.2.1) : xxP X :=
  ⟨h1, fun q hq => xlook_all (List.map_inj_left.mp h2 q hq), fun e he q hq => List.map_inj_left.mp h3 q (List.mem_flatMap.mpr ⟨e, he, hq⟩), h4, fun e he q hq => List.map_inj_left.mp h5 q (List.mem_flatMap.mpr ⟨e, he, hq⟩), h6⟩
def xxX0 : XX := (RX0, 0, ftX0, ctX0, ktX0, itX0, ntX0)
def xxX1 : XX := (RX1, 1, ftX1, ctX1, ktX1, itX1, ntX1)
def xxX2 : XX := (RX2, 2, ftX2, ctX2, ktX2, itX2, ntX2)
def xxX3 : XX := (RX3, 3, ftX3, ctX3, ktX3, itX3, ntX3)
def xxX4 : XX := (RX4, 4, ftX4, ctX4, ktX4, itX4, ntX4)
def xxX5 : XX := (RX5, 5, ftX5, ctX5, ktX5, itX5, ntX5)
def xxX6 : XX := (RX6, 6, ftX6, ctX6, ktX6, itX6, ntX6)
def xxX7 : XX := (RX7, 7, ftX7, ctX7, ktX7, itX7, ntX7)
def xxX8 : XX := (RX8, 8, ftX8, ctX8, ktX8, itX8, ntX8)
def xxX9 : XX := (RX9, 9, ftX9, ctX9, ktX9, itX9, ntX9)
def xxX10 : XX := (RX10, 10, ftX10, ctX10, ktX10, itX10, ntX10)
def xxX11 : XX := (RX11, 11, ftX11, ctX11, ktX11, itX11, ntX11)
def xxX12 : XX := (RX12, 12, ftX12, ctX12, ktX12, itX12, ntX12)
def xxL : XX := (RL, 99, ftL, ctL, ktL, itL, ntL)
def xxJ0 : XX := (RJ0, 97, ftJ0, ctJ0, ktJ0, itJ0, ntJ0)
def xxJ1 : XX := (RJ1, 96, ftJ1, ctJ1, ktJ1, itJ1, ntJ1)
def xxJ3 : XX := (RJ3, 95, ftJ3, ctJ3, ktJ3, itJ3, ntJ3)
def xxJ6 : XX := (RJ6, 98, ftJ6, ctJ6, ktJ6, itJ6, ntJ6)
set_option maxRecDepth 100000 in
theorem xx0 : xxP xxX0 := xxP_of (by decide +kernel) rfl rfl (fun q h => by cases h; rfl) rfl rfl
set_option maxRecDepth 100000 in
theorem xx1 : xxP xxX1 := xxP_of (by decide +kernel) rfl rfl (fun q h => by cases h; rfl) rfl rfl
set_option maxRecDepth 100000 in
theorem xx2 : xxP xxX2 := xxP_of (by decide +kernel) rfl rfl (fun q h => by cases h; rfl) rfl rfl
set_option maxRecDepth 100000 in
theorem xx3 : xxP xxX3 := xxP_of (by decide +kernel) rfl rfl (fun q h => by cases h; rfl) rfl rfl
set_option maxRecDepth 100000 in
theorem xx4 : xxP xxX4 := xxP_of (by decide +kernel) rfl rfl (fun q h => by cases h; rfl) rfl rfl
set_option maxRecDepth 100000 in
theorem xx5 : xxP xxX5 := xxP_of (by decide +kernel) rfl rfl (fun q h => by cases h; rfl) rfl rfl
set_option maxRecDepth 100000 in
theorem xx6 : xxP xxX6 := xxP_of (by decide +kernel) rfl rfl (fun q h => by cases h; rfl) rfl rfl
set_option maxRecDepth 100000 in
theorem xx7 : xxP xxX7 := xxP_of (by decide +kernel) rfl rfl (fun q h => by cases h; rfl) rfl rfl
set_option maxRecDepth 100000 in
theorem xx8 : xxP xxX8 := xxP_of (by decide +kernel) rfl rfl (fun q h => by cases h; rfl) rfl rfl
set_option maxRecDepth 100000 in
theorem xx9 : xxP xxX9 := xxP_of (by decide +kernel) rfl rfl (fun q h => by cases h; rfl) rfl rfl
set_option maxRecDepth 100000 in
theorem xx10 : xxP xxX10 := xxP_of (by decide +kernel) rfl rfl (fun q h => by cases h; rfl) rfl rfl
