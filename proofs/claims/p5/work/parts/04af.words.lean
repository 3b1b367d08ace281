def xxX12 : XX := (RX12, 12, ftX12, ctX12, ktX12, itX12, ntX12)
def xxL : XX := (RL, 99, ftL, ctL, ktL, itL, ntL)
def xxJ0 : XX := (RJ0, 97, ftJ0, ctJ0, ktJ0, itJ0, ntJ0)
def xxJ1 : XX := (RJ1, 96, ftJ1, ctJ1, ktJ1, itJ1, ntJ1)
def xxJ3 : XX := (RJ3, 95, ftJ3, ctJ3, ktJ3, itJ3, ntJ3)
def xxJ6 : XX := (RJ6, 98, ftJ6, ctJ6, ktJ6, itJ6, ntJ6)
set_option maxRecDepth 100000 in
theorem xx0 : xxP xxX0 := xxP_of (by decide +kernel) rfl rfl (fun q h => by cases h; rfl) rfl rfl
