-- ===== the step is the machine's =====
theorem xwj_good {X : XX} (hX : xxP X) {q : List Cond × List Nat} (hq : q ∈ xwj X) : ∀ w ∈ q.1, w ∈ xgt := by
  intro w hw
  have h1 := hX.1
  simp only [xxB, Bool.and_eq_true] at h1
  exact xgt_of (hX.2.1 q hq w hw) (List.all_eq_true.mp (List.all_eq_true.mp h1.2 q hq) w hw)
theorem xfld {X : XX} (hX : xxP X) {idx ci k j : Nat} (hm : (idx, ci, k, j) ∈ X.2.2.1) : ∃ q : vw_C, vwCl[ci]? = some q ∧ xn vwCl ci = some q ∧ k < q.2.2 ∧ xclP ci q ∧ Cond.fieldLink X.1 idx (q.2.1 k).1 (q.2.1 k).2.1 (q.2.1 k).2.2.1 ∈ xgt := by
  have hb : xfb (idx, ci, k, j) = true := by
    have h1 := hX.1
    simp only [xxB, Bool.and_eq_true] at h1
    exact List.all_eq_true.mp h1.1.1.2 _ hm
  have hw : ∀ w ∈ xfw X.1 (idx, ci, k, j), w ∈ xgt := xwj_good hX (q := (xfw X.1 (idx, ci, k, j), [j])) (by
    simp only [xwj, List.mem_append, List.mem_map]
    exact Or.inl (Or.inl (Or.inl (Or.inl ⟨_, hm, rfl⟩))))
  unfold xfb at hb
  unfold xfw at hw
  dsimp only at hb hw
  cases e : xn vwCl ci with
  | none => rw [e] at hb; cases hb
  | some q =>
    rw [e] at hb hw
    exact ⟨q, by rw [← xn_eq]; exact e, rfl, by simpa using hb, xcl e, hw _ List.mem_cons_self⟩
theorem xfin_eq {ci k : Nat} {q : vw_C} (h : xn vwCl ci = some q) : xfin ci k = (q.2.1 k).2.2.2 := by
  unfold xfin
  rw [h]
theorem xtys_get {D : XD} {kd : Nat} (h : kd < 4) : ∃ ty, (xtys D)[kd]? = some (D.2 kd, ty) := by
  match kd, h with
  | 0, _ => exact ⟨_, rfl⟩
  | 1, _ => exact ⟨_, rfl⟩
  | 2, _ => exact ⟨_, rfl⟩
  | 3, _ => exact ⟨_, rfl⟩
section XSTEP
variable {p : Program} {l : Launch} {e : Env} {R : Room} {s : State} {m : MethodId} {args : Array Value} {below : List Frame} {meth : Method} {c : Code} {D : XD} {A : Nat → Prop} {al : Bool} {n0 : Nat} {ρ0 : Nat → Nat} {Q : State → Prop} {sc : XS} {d mc ms : Nat} {ini : Bool} {X : XX}
variable {pc : Nat} {lc : List (Option Value)} {st r : List Value} {sh : List XO} {I : XI} {J : XJ} {a b : Nat} {k : XP}
theorem xs_getfield (G : XG p R s m args meth D A ρ0 sc d mc ms ini X.1) (hX : xxP X) {idx : Nat} (hd : decode c.code pc = .ok (.getfield idx, 3)) (hk : ∀ lc st sh I J a b, k lc st sh I J a b → XW p l e R s m args below meth c D A al n0 ρ0 Q (pc + 3) lc st sh I J a b) {q : Nat} (h : xgo X sh q idx fun ci kk rs => k lc (xgf I q ci kk rs :: r) sh I J a b) : XW p l e R s m args below meth c D A al n0 ρ0 Q pc lc (.ref q :: r) sh I J a b := by
  obtain ⟨ci, kk, j, rs, hm, hq, h⟩ := xgo_el h
  obtain ⟨y, hy, hy2, hlt, hc, hw⟩ := xfld hX hm
  obtain ⟨C, T, N⟩ := y
  intro ρ H locs ls h1 h2 h3 h4 h5 h6
  exact va_get (C := C) (T := T) (N := N) (ci := ci) G.1 rfl G.2.2.1 hc.2.1 G.2.1 G.2.2.2.2.1 h2 q (wl_get hq) hy kk hlt (G.2.2.1 _ hw) (fun _ z => z) (by rw [xob_get (by rw [← hc.1]; exact hlt), xgf_eq]) hd (hk _ _ _ _ _ _ _ h ρ H locs ls h1 h2 h3 h4 h5 h6)
theorem xs_put (G : XG p R s m args meth D A ρ0 sc d mc ms ini X.1) (hX : xxP X) {idx : Nat} (hd : decode c.code pc = .ok (.putfield idx, 3)) {q ci kk j : Nat} {rs rs' : List (Option Nat)} {v w : Value} {I' : XI} (hm : (idx, ci, kk, j) ∈ X.2.2.1) (hq : xn sh q = some (.inl (ci, rs))) (hf : xfin ci kk = false ∨ (xfin ci kk = true ∧ ini = true ∧ X.2.1 = ci)) (ρ : Nat → Nat) (H : Heap) (locs : List Loc) (ls : Array Slot) (hn : narrow (xty ci kk) w = w) (hfi : fits (xty ci kk) w = true) (hI : ∀ i, i ≠ q → I' i = I i) (ho : ∀ i, i ≠ kk → xfv ρ (I' q) ci rs' i = xfv ρ (I q) ci rs i) (hv : xfv ρ (I' q) ci rs' kk = w) (hw0 : xv ρ v = w)
    (h2 : va_P D.1 vwCl (wl D ρ sh I J) H) (h3 : va_D A (wl D ρ sh I J)) (h4 : va_S A s.heap H locs)
    (kk2 : ∀ (H1 : Heap) (locs1 : List Loc), va_P D.1 vwCl (wl D ρ (xset sh q (.inl (ci, rs'))) I' J) H1 → va_D A (wl D ρ (xset sh q (.inl (ci, rs'))) I' J) → va_S A s.heap H1 locs1 → W p l e R s m args below meth c H1 locs1 a b Q (F0 m (pc + 3) ls (r.map (xv ρ)))) : W p l e R s m args below meth c H locs a b Q (F0 m pc ls ((v :: .ref q :: r).map (xv ρ))) := by
  obtain ⟨y, hy, hy2, hlt, hc, hw⟩ := xfld hX hm
  obtain ⟨C, T, N⟩ := y
  subst hw0
  have hlt' : kk < xN ci := by rw [← hc.1]; exact hlt
  have he := wl_get (D := D) (ρ := ρ) (I := I) (J := J) hq
  have hset : (xob ρ (I q) ci rs).set kk (xv ρ v) = xob ρ (I' q) ci rs' := xob_set hlt' hv ho
  have hup : (wl D ρ sh I J).set q (ρ q, .inr (ci, (xob ρ (I q) ci rs).set kk (xv ρ v))) = wl D ρ (xset sh q (.inl (ci, rs'))) I' J := by
    refine wl_upd xset_len (xset_same hq) (fun i hi => xset_ne hi) hI (fun _ _ => rfl) ?_
    simp only [xel, hset]
  rw [xfin_eq hy2] at hf
  rcases hf with hf | ⟨hf, hini, hown⟩
  · refine va_put (C := C) (T := T) (N := N) (ci := ci) (c := c) G.1 rfl G.2.2.1 hc.2.1 (xty ci) (fun k hk => (hc.2.2.2 k hk).1) hc.2.2.1 G.2.1 G.2.2.2.2.1 h2 h3 h4 q he hy kk hlt (G.2.2.1 _ hw) (fun _ z => z) hf (hc.2.2.2 kk hlt).1 hn hfi (by rw [xob_len]; exact hlt') hd fun H1 locs1 g1 g2 g3 => ?_
    rw [hup] at g1 g2
    exact kk2 H1 locs1 g1 g2 g3
  · have hdecl : (T kk).1 = X.1 := by rw [(hc.2.2.2 kk hlt).2]; exact hX.2.2.2.1 _ (by rw [hown]; exact hy2)
    refine va_putF (C := C) (T := T) (N := N) (ci := ci) (c := c) G.1 rfl G.2.2.1 hc.2.1 (xty ci) (fun k hk => (hc.2.2.2 k hk).1) hc.2.2.1 G.2.1 G.2.2.2.2.1 h2 h3 h4 q he hy kk hlt (G.2.2.1 _ hw) (fun _ z => z) hf (G.2.2.2.2.2.2.2.2 hini) hdecl (hc.2.2.2 kk hlt).1 hn hfi (by rw [xob_len]; exact hlt') hd fun H1 locs1 g1 g2 g3 => ?_
    rw [hup] at g1 g2
    exact kk2 H1 locs1 g1 g2 g3
theorem xset_id {o : XO} {n : Nat} (h : xn sh n = some o) : xset sh n o = sh := by
  rw [xn_eq] at h
  rw [xset_eq]
  apply List.ext_getElem?
  intro i
  by_cases hi : i = n
  · subst hi
    rw [List.getElem?_set_self (List.getElem?_eq_some_iff.mp h).1, h]
  · rw [List.getElem?_set_ne (Ne.symm hi)]
theorem xs_putfield (G : XG p R s m args meth D A ρ0 sc d mc ms ini X.1) (hX : xxP X) {idx : Nat} (hd : decode c.code pc = .ok (.putfield idx, 3)) (hk : ∀ lc st sh I J a b, k lc st sh I J a b → XW p l e R s m args below meth c D A al n0 ρ0 Q (pc + 3) lc st sh I J a b) {q : Nat} {v : Value} (h : xgo X sh q idx fun ci kk rs => xin (xn rs kk) (xpf X ini ci kk (xpv (xty ci kk) v (fun x => k lc r sh (uI I q kk x) J a b) (fun y => k lc r (xset sh q (.inl (ci, xsetR rs kk (some y)))) I J a b)))) : XW p l e R s m args below meth c D A al n0 ρ0 Q pc lc (v :: .ref q :: r) sh I J a b := by
  obtain ⟨ci, kk, j, rs, hm, hq, h⟩ := xgo_el h
  obtain ⟨hl, h⟩ := xin_el h
  obtain ⟨hf, h⟩ := xpf_el h
  intro ρ H locs ls h1 h2 h3 h4 h5 h6
  rcases xpv_el h with ⟨x, rfl, g1, g2, g3, h⟩ | ⟨y, rfl, g1, g2, g3, h⟩
  · refine xs_put (rs' := rs) (I' := uI I q kk x) G hX hd hm hq hf ρ H locs ls (w := .int x) g2 g3 (fun i hi => uI_ne hi) (fun i hi => ?_) ?_ rfl h2 h3 h4 fun H1 locs1 f1 f2 f3 => ?_
    · unfold xfv
      rw [uI_eq]
      simp [upd, hi]
    · unfold xfv
      rw [uI_eq]
      simp [upd, g1]
    · rw [xset_id hq] at f1 f2
      exact hk _ _ _ _ _ _ _ h ρ H1 locs1 ls h1 f1 f2 f3 h5 h6
  · refine xs_put (rs' := xsetR rs kk (some y)) (I' := I) G hX hd hm hq hf ρ H locs ls (w := .ref (ρ y)) (g2 _) (g3 _) (fun _ _ => rfl) (fun i hi => ?_) ?_ rfl h2 h3 h4 fun H1 locs1 f1 f2 f3 => ?_
    · unfold xfv xref
      rw [xsetR_eq, xn_eq, xn_eq, List.getElem?_set_ne (Ne.symm hi)]
    · unfold xfv xref
      rw [xsetR_eq, xn_eq, List.getElem?_set_self hl]
      simp [g1, xv]
    · exact hk _ _ _ _ _ _ _ h ρ H1 locs1 ls h1 f1 f2 f3 h5 h6
theorem wl_row {ρ : Nat → Nat} {q n kd : Nat} {rs : List (Option Nat)} {I' : XI} {J' : XJ} {x : vp_A} (hq : xn sh q = some (.inr (kd, n, rs))) (hI : ∀ i, i ≠ q → I' i = I i) (hJ : ∀ i, i ≠ q → J' i = J i) (he : xel D ρ I' J' q (.inr (kd, n, rs)) = (ρ q, .inl (D.2 kd, x))) : (wl D ρ sh I J).set q (ρ q, .inl (D.2 kd, x)) = wl D ρ sh I' J' := wl_upd rfl hq (fun _ _ => rfl) hI hJ he
end XSTEP
