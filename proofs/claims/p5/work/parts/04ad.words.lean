theorem xxP_of {X : XX} (h1 : xxB X = true) (h2 : (xwj X).map (fun q => q.2.map xlook) = (xwj X).map (fun q => q.1.map some)) (h3 : (X.2.2.2.1.flatMap xcs2).map (fun q => q.1) = (X.2.2.2.1.flatMap xcs2).map (fun q => q.2)) (h4 : ∀ q, xn vwCl X.2.1 = some q → q.1 = X.1) (h5 : (X.2.2.2.1.flatMap (xcne X.1)).map (fun q => q.1) = (X.2.2.2.1.flatMap (xcne X.1)).map (fun q => q.2)) (h6 : X.1 = xnm X.2.1) : xxP X :=
  ⟨h1, fun q hq => xlook_all (List.map_inj_left.mp h2 q hq), fun e he q hq => List.map_inj_left.mp h3 q (List.mem_flatMap.mpr ⟨e, he, hq⟩), h4, fun e he q hq => List.map_inj_left.mp h5 q (List.mem_flatMap.mpr ⟨e, he, hq⟩), h6⟩
def xxX0 : XX := (RX0, 0, ftX0, ctX0, ktX0, itX0, ntX0)
def xxX1 : XX := (RX1, 1, ftX1, ctX1, ktX1, itX1, ntX1)
def xxX2 : XX := (RX2, 2, ftX2, ctX2, ktX2, itX2, ntX2)
def xxX3 : XX := (RX3, 3, ftX3, ctX3, ktX3, itX3, ntX3)
def xxX4 : XX := (RX4, 4, ftX4, ctX4, ktX4, itX4, ntX4)
