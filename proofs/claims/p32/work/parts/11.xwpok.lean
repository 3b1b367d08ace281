section XWPOK
variable {p : Program} {l : Launch} {e0 : Env} {e : Env} {R : Room} {s : State} {m : MethodId} {args : Array Value} {below : List Frame} {meth : Method} {c : Code} {D : XD} {A : Nat → Prop} {al : Bool} {n0 : Nat} {ρ0 : Nat → Nat} {Q : State → Prop} {sc : XS} {d mc ms : Nat} {ini : Bool} {X : XX}
variable {pc : Nat} {lc : List (Option Value)} {st r : List Value} {sh : List XO} {I : XI} {J : XJ} {a b : Nat} {k : XP}
theorem xs_callv {idx : Nat} (G : XG p R s m args meth D A ρ0 sc d mc ms ini X.1) (hX : xxP X) (hd : decode c.code pc = .ok (.invokevirtual idx, 3)) (hk : ∀ lc st sh I J a b, k lc st sh I J a b → XW p l e0 R s m args below meth c D A al n0 ρ0 Q (pc + 3) lc st sh I J a b) (h : xcv X al n0 mc ms l d idx lc st sh I J a b k) : XW p l e0 R s m args below meth c D A al n0 ρ0 Q pc lc st sh I J a b := by
  obtain ⟨e, he, h⟩ := xso_el h
  obtain ⟨q, hq, h⟩ := xso_el h
  obtain ⟨ar, har, h⟩ := xso_el h
  obtain ⟨p0, r, hr, g⟩ := xr1_el h
  clear h
  obtain ⟨kd, M, dk, ⟨mc', ms'⟩, js⟩ := e
  obtain ⟨as, r0⟩ := ar
  dsimp only at hq hr g
  subst hr
  have h := g
  clear g
  split at h
  · obtain ⟨e', he', h0⟩ := xso_el h
    clear h
    obtain ⟨hb, hm⟩ := xb_el h0
    clear h0
    simp only [Bool.and_eq_true] at hb
    obtain ⟨hkd, hbud⟩ := hb
    have hkd := Nat.eq_of_beq_eq_true hkd
    subst hkd
    obtain ⟨z1, z2, z3⟩ := xcall hX he
    unfold xcb at z2
    unfold xcs2 at z3
    unfold xcw at z1
    simp only [show 113 / 100 = 1 from rfl, Bool.and_eq_true, Nat.blt_eq, Nat.ble_eq] at z1 z2 z3
    have hcls : M.1.cls = RJ0 := z3 _ List.mem_cons_self
    have hdesc : M.1.desc = q.1 := by
      have y := z3 _ (List.mem_cons_of_mem _ List.mem_cons_self)
      rw [hq] at y
      exact y
    obtain ⟨bs, e1, e2, e3⟩ := xtk_spec har
    simp only [List.append_nil] at e1
    intro ρ H locs ls h1 h2 h3 h4 h5 h6
    have hbs := xbud_spec hbud
    have hRc : R.cells = mc ∧ R.slots = ms := ⟨G.2.2.2.2.2.2.2.1.2.2.1, G.2.2.2.2.2.2.2.1.2.2.2⟩
    have CB := xcallB (idx := idx) (n := q.2) (mc' := mc') (ms' := ms') G (z1 _ (by simp)) (z1 _ (by simp)) (z1 _ (by simp)) (by rw [hcls]; exact xcn_ok 13) (by rw [hdesc]; exact xds_ok q (List.mem_of_getElem? (by rw [← xn_eq]; exact hq))) z2.1.1
    have hrecv : ∃ cell : Cell, H[ρ p0]? = some cell ∧ cell.vm.isStatics = false ∧ s.vm.findClass M.1.cls = some cell.cls := by
      have y := (G.2.2.2.2.2.2.1.2.2.2.2.2.2 (p0, e') (xlk_mem he')).1
      rw [xrho h1 (xkS_ge _ (xlk_mem he')).1] at y
      obtain ⟨cell, y1, y2, y3, -⟩ := va_O.kept y h4.2.1
      rw [hcls]
      exact ⟨cell, y1, y2, y3⟩
    have hrun := va_runV (e := e0) (below := below) (meth := meth) (As := as.map (xv ρ)) (rest := r.map (xv ρ)) (b := ρ p0) (C := M.1.cls) (g := F0 m pc ls (st.map (xv ρ))) (H := H) (locs := locs) (cells := a) (slots := b) ⟨G.1, rfl, rfl, G.2.1, G.2.2.1⟩ (hm D ρ H.size) ⟨CB, G.2.2.1 _ (z1 _ (by simp)), G.2.2.1 _ (z1 _ (by simp))⟩ ⟨xPc_blind, hrecv, xPc_pre G h1 h2 h3 h4⟩ rfl (by rw [e1]; simp [e3]) h6 (by rw [e1, e2]; simp [xv]) (lv_room (by rw [xcs_v]; exact hbs.1)) hd ⟨by rw [hRc.1]; exact hbs.2.1, by rw [hRc.2]; exact hbs.2.2.1⟩
    exact xw_call G h1 h3 h4 h5 h6 hbud hrun (fun v sh' I' J' hR => hk _ _ _ _ _ _ _ hR)
  split at h
  · rename_i o ho
    obtain ⟨hb, h⟩ := xb_el h
    simp only [Bool.and_eq_true, Nat.blt_eq] at hb
    obtain ⟨⟨hkd, hlt⟩, hbud⟩ := hb
    have hkd := Nat.eq_of_beq_eq_true hkd
    obtain ⟨z1, z2, z3⟩ := xcall hX he
    have hdiv : kd / 100 = 1 := by omega
    have hmod : kd % 100 = o.1 := by omega
    obtain ⟨qc, hqc⟩ := xn_cl hlt
    unfold xcb at z2
    unfold xcs2 at z3
    unfold xcw at z1
    simp only [hdiv, Bool.and_eq_true, Nat.blt_eq, Nat.ble_eq] at z1 z2 z3
    have hcls : M.1.cls = xcn o.1 := by
      have y := z3 _ List.mem_cons_self
      rw [hmod] at y
      exact y
    have hdesc : M.1.desc = q.1 := by
      have y := z3 _ (List.mem_cons_of_mem _ List.mem_cons_self)
      rw [hq] at y
      exact y
    obtain ⟨bs, e1, e2, e3⟩ := xtk_spec har
    simp only [List.append_nil] at e1
    intro ρ H locs ls h1 h2 h3 h4 h5 h6
    have hbs := xbud_spec hbud
    have hnm := xcn_ok o.1
    have hRc : R.cells = mc ∧ R.slots = ms := ⟨G.2.2.2.2.2.2.2.1.2.2.1, G.2.2.2.2.2.2.2.1.2.2.2⟩
    have CB := xcallB (idx := idx) (n := q.2) (mc' := mc') (ms' := ms') G (z1 _ (by simp)) (z1 _ (by simp)) (z1 _ (by simp)) (by rw [hcls]; exact hnm) (by rw [hdesc]; exact xds_ok q (List.mem_of_getElem? (by rw [← xn_eq]; exact hq))) z2.1.1
    have hrecv : ∃ cell : Cell, H[ρ p0]? = some cell ∧ cell.vm.isStatics = false ∧ s.vm.findClass M.1.cls = some cell.cls := by
      have y := va_recv (ci := o.1) (q := qc) G.2.2.2.2.1 h2 (by rw [← xn_eq]; exact hqc) (wl_get ho)
      rw [xcn_cl hqc, ← hcls] at y
      exact y
    have hrun := va_runV (e := e0) (below := below) (meth := meth) (As := as.map (xv ρ)) (rest := r.map (xv ρ)) (b := ρ p0) (C := M.1.cls) (g := F0 m pc ls (st.map (xv ρ))) (H := H) (locs := locs) (cells := a) (slots := b) ⟨G.1, rfl, rfl, G.2.1, G.2.2.1⟩ (h D ρ H.size) ⟨CB, G.2.2.1 _ (z1 _ (by simp)), G.2.2.1 _ (z1 _ (by simp))⟩ ⟨xPc_blind, hrecv, xPc_pre G h1 h2 h3 h4⟩ rfl (by rw [e1]; simp [e3]) h6 (by rw [e1, e2]; simp [xv]) (lv_room (by rw [xcs_v]; exact hbs.1)) hd ⟨by rw [hRc.1]; exact hbs.2.1, by rw [hRc.2]; exact hbs.2.2.1⟩
    exact xw_call G h1 h3 h4 h5 h6 hbud hrun (fun v sh' I' J' hR => hk _ _ _ _ _ _ _ hR)
  · exact h.elim
/-- what the words say of a call that is no virtual one -/
theorem xs_calls {idx : Nat} {e : Nat × XM × Nat × (Nat × Nat) × List Nat} (G : XG p R s m args meth D A ρ0 sc d mc ms ini X.1) (hX : xxP X) (he : xlk X.2.2.2.1 idx = some e) (h4 : e.1 / 100 = 4) (hd : decode c.code pc = .ok (.invokestatic idx, 3)) (hk : ∀ lc st sh I J a b, k lc st sh I J a b → XW p l e0 R s m args below meth c D A al n0 ρ0 Q (pc + 3) lc st sh I J a b) (h : xcst X al n0 mc ms l d e lc st sh I J a b k) : XW p l e0 R s m args below meth c D A al n0 ρ0 Q pc lc st sh I J a b := by
  obtain ⟨q, hq, h⟩ := xso_el h
  obtain ⟨ar, har, h⟩ := xso_el h
  obtain ⟨kd, M, dk, ⟨mc', ms'⟩, js⟩ := e
  obtain ⟨as, r⟩ := ar
  obtain ⟨hbud, h⟩ := xb_el h
  dsimp only at hq h h4 hbud
  obtain ⟨z1, z2, z3⟩ := xcall hX he
  unfold xcb at z2
  unfold xcs2 at z3
  unfold xcw at z1
  simp only [h4, Bool.and_eq_true, Nat.blt_eq, Nat.ble_eq] at z1 z2 z3
  have hcls : M.1.cls = xcn (kd % 100) := z3 _ List.mem_cons_self
  have hdesc : M.1.desc = q.1 := by
    have y := z3 _ (List.mem_cons_of_mem _ List.mem_cons_self)
    rw [hq] at y
    exact y
  obtain ⟨bs, e1, e2, e3⟩ := xtk_spec har
  simp only [List.append_nil] at e1
  intro ρ H locs ls h1 h2 h3 h4 h5 h6
  have hbs := xbud_spec hbud
  have hRc : R.cells = mc ∧ R.slots = ms := ⟨G.2.2.2.2.2.2.2.1.2.2.1, G.2.2.2.2.2.2.2.1.2.2.2⟩
  have CB := xcallB (idx := idx) (n := q.2) (mc' := mc') (ms' := ms') G (z1 _ (by simp)) (z1 _ (by simp)) (z1 _ (by simp)) (by rw [hcls]; exact xcn_ok _) (by rw [hdesc]; exact xds_ok q (List.mem_of_getElem? (by rw [← xn_eq]; exact hq))) z2.1
  have hrun := va_runS (e := e0) (below := below) (meth := meth) (As := as.map (xv ρ)) (rest := r.map (xv ρ)) (g := F0 m pc ls (st.map (xv ρ))) (H := H) (locs := locs) (cells := a) (slots := b) ⟨G.1, rfl, rfl, G.2.1, G.2.2.1⟩ (h D ρ H.size) ⟨CB, G.2.2.1 _ (z1 _ (by simp))⟩ ⟨xPc_blind, xPc_pre G h1 h2 h3 h4⟩ rfl (by rw [e1]; simp [e3]) h6 (by rw [e1, e2]; simp) (lv_room (by rw [xcs_v]; exact hbs.1)) hd ⟨by rw [hRc.1]; exact hbs.2.1, by rw [hRc.2]; exact hbs.2.2.1⟩
  exact xw_call G h1 h3 h4 h5 h6 hbud hrun (fun v sh' I' J' hR => hk _ _ _ _ _ _ _ hR)
theorem xs_callsp {idx : Nat} {e : Nat × XM × Nat × (Nat × Nat) × List Nat} (G : XG p R s m args meth D A ρ0 sc d mc ms ini X.1) (hX : xxP X) (he : xlk X.2.2.2.1 idx = some e) (h23 : e.1 / 100 = 2 ∨ e.1 / 100 = 3) (hd : decode c.code pc = .ok (.invokespecial idx, 3)) (hk : ∀ lc st sh I J a b, k lc st sh I J a b → XW p l e0 R s m args below meth c D A al n0 ρ0 Q (pc + 3) lc st sh I J a b) (h : xcsp X al n0 mc ms l d e lc st sh I J a b k) : XW p l e0 R s m args below meth c D A al n0 ρ0 Q pc lc st sh I J a b := by
  obtain ⟨q, hq, h⟩ := xso_el h
  obtain ⟨ar, har, h⟩ := xso_el h
  obtain ⟨p0, r, hr, g⟩ := xr1_el h
  clear h
  obtain ⟨hbud, h⟩ := xb_el g
  clear g
  obtain ⟨kd, M, dk, ⟨mc', ms'⟩, js⟩ := e
  obtain ⟨as, r0⟩ := ar
  dsimp only at hq h h23 hbud hr
  subst hr
  obtain ⟨z1, z2, z3⟩ := xcall hX he
  have z5 := hX.2.2.2.2.1 _ (xlk_mem he)
  unfold xcb at z2
  unfold xcs2 at z3
  unfold xcw at z1
  unfold xcne at z5
  obtain ⟨bs, e1, e2, e3⟩ := xtk_spec har
  simp only [List.append_nil] at e1
  have hbs := xbud_spec hbud
  have hRc : R.cells = mc ∧ R.slots = ms := ⟨G.2.2.2.2.2.2.2.1.2.2.1, G.2.2.2.2.2.2.2.1.2.2.2⟩
  have hRl := G.2.2.2.2.2.2.2.1
  obtain ⟨y, cc, nL, ret⟩ := M
  rcases h23 with h23 | h23
  · simp only [h23, Bool.and_eq_true, Nat.blt_eq, Nat.ble_eq, Option.isNone_iff_eq_none] at z1 z2 z3
    obtain ⟨⟨z2a, z2b⟩, z2c⟩ := z2
    subst z2c
    have hcls : y.cls = xcn (kd % 100) := z3 _ List.mem_cons_self
    have hdesc : y.desc = q.1 := by
      have y := z3 _ (List.mem_cons_of_mem _ List.mem_cons_self)
      rw [hq] at y
      exact y
    have hname : y.name = "<init>" := z3 _ (List.mem_cons_of_mem _ (List.mem_cons_of_mem _ List.mem_cons_self))
    intro ρ H locs ls h1 h2 h3 h4 h5 h6
    have CB := xcallB (M := (y, cc, nL, none)) (idx := idx) (n := q.2) (mc' := mc') (ms' := ms') G (z1 _ (by simp)) (z1 _ (by simp)) (z1 _ (by simp)) (by rw [hcls]; exact xcn_ok _) (by rw [hdesc]; exact xds_ok q (List.mem_of_getElem? (by rw [← xn_eq]; exact hq))) z2a
    have hrun := va_runI (e := e0) (below := below) (meth := meth) (As := as.map (xv ρ)) (rest := r.map (xv ρ)) (b := ρ p0) (g := F0 m pc ls (st.map (xv ρ))) (H := H) (locs := locs) (cells := a) (slots := b) ⟨G.1, rfl, rfl, G.2.1, G.2.2.1⟩ (h D ρ H.size) ⟨CB, hname, G.2.2.1 _ (z1 _ (by simp))⟩ ⟨xPc_blind, xPc_pre G h1 h2 h3 h4⟩ rfl (by rw [e1]; simp [e3]) h6 (by rw [e1, e2]; simp [xv]) (lv_room (by rw [xcs_v]; exact hbs.1)) hd ⟨by rw [hRc.1]; exact hbs.2.1, by rw [hRc.2]; exact hbs.2.2.1⟩
    exact xw_call G h1 h3 h4 h5 h6 hbud hrun (fun v sh' I' J' hR => hk _ _ _ _ _ _ _ hR)
  · simp only [h23, Bool.and_eq_true, Nat.blt_eq, Nat.ble_eq, Option.isNone_iff_eq_none] at z1 z2 z3 z5
    obtain ⟨⟨z2a, z2b⟩, z2c⟩ := z2
    subst z2c
    have hcls : y.cls = xcn (kd % 100) := z3 _ List.mem_cons_self
    have hdesc : y.desc = q.1 := by
      have y := z3 _ (List.mem_cons_of_mem _ List.mem_cons_self)
      rw [hq] at y
      exact y
    have hname : y.name = "<init>" := z3 _ (List.mem_cons_of_mem _ (List.mem_cons_of_mem _ List.mem_cons_self))
    have hnest : Cond.methodLinkNest X.1 idx y "BaledShade" ∈ xnestL := by
      have y := z5 _ List.mem_cons_self
      rw [xn_eq] at y
      exact List.mem_of_getElem? y
    intro ρ H locs ls h1 h2 h3 h4 h5 h6
    have CN := va_cnB (rm := xrm d mc' ms') (R := R) (mc := mc') (ms := ms') (own := X.1) (host := "BaledShade") (index := idx) (y := y) (bytes := cc) (maxL := nL) (ret := none) q.2 G.2.2.1 (xgood_in (M := (y, cc, nL, none)) (z1 _ (by simp))) rfl rfl rfl (G.2.2.2.2.2.2.1.1.1 _ hnest) (G.2.2.1 _ (z1 _ (by simp))) ⟨(by rw [hcls]; exact (xcn_ok _).1), (by rw [hcls]; exact (xcn_ok _).2), (by rw [hdesc]; exact xds_ok q (List.mem_of_getElem? (by rw [← xn_eq]; exact hq)))⟩ ⟨hRl.1, by show 8 + (nL + 11) + 60 * d ≤ R.locals; omega⟩
    have hrun := va_runIN (e := e0) (below := below) (meth := meth) (As := as.map (xv ρ)) (rest := r.map (xv ρ)) (b := ρ p0) (g := F0 m pc ls (st.map (xv ρ))) (H := H) (locs := locs) (cells := a) (slots := b) ⟨G.1, rfl, rfl, G.2.1, G.2.2.1⟩ (h D ρ H.size) ⟨CN, hname, G.2.2.1 _ (z1 _ (by simp))⟩ ⟨xPc_blind, xPc_pre G h1 h2 h3 h4⟩ rfl (by rw [e1]; simp [e3]) h6 (by rw [e1, e2]; simp [xv]) (lv_room (by rw [xcs_v]; exact hbs.1)) hd ⟨by rw [hRc.1]; exact hbs.2.1, by rw [hRc.2]; exact hbs.2.2.1⟩
    exact xw_call G h1 h3 h4 h5 h6 hbud hrun (fun v sh' I' J' hR => hk _ _ _ _ _ _ _ hR)
end XWPOK
