theorem xac_int : Cond.arrayClass .int ∈ xgt := xgt_of (xlook_mem (j := 1050) rfl) rfl
theorem xac_long : Cond.arrayClass .long ∈ xgt := xgt_of (xlook_mem (j := 1203) rfl) rfl
theorem xac_byte : Cond.arrayClass .byte ∈ xgt := xgt_of (xlook_mem (j := 4229) rfl) rfl
theorem xty_def (ci j : Nat) : (isRefT (xty ci j) = true → defaultValue (xty ci j) = .null) ∧ (isRefT (xty ci j) = false → defaultValue (xty ci j) = .int 0) := by
  have h : xty ci j = .int ∨ xty ci j = .boolean ∨ isRefT (xty ci j) = true := by
    unfold xty
    split <;> (first | unfold tyX0 | unfold tyX1 | unfold tyX2 | unfold tyX3 | unfold tyX4 | unfold tyX5 | unfold tyX6 | unfold tyX7 | unfold tyX8 | unfold tyX9 | unfold tyX10 | unfold tyX11 | unfold tyX12) <;> split <;> simp [isRefT]
  refine ⟨fun z => ?_, fun z => ?_⟩
  · cases h2 : xty ci j <;> rw [h2] at z <;> simp [isRefT] at z <;> rfl
  · rcases h with h | h | h
    · rw [h]; rfl
    · rw [h]; rfl
    · rw [h] at z; cases z
section XSOK
variable {p : Program} {l : Launch} {e : Env} {R : Room} {s : State} {m : MethodId} {args : Array Value} {below : List Frame} {meth : Method} {c : Code} {D : XD} {A : Nat → Prop} {al : Bool} {n0 : Nat} {ρ0 : Nat → Nat} {Q : State → Prop} {sc : XS} {d mc ms : Nat} {ini : Bool} {X : XX}
variable {pc : Nat} {lc : List (Option Value)} {st r : List Value} {sh : List XO} {I : XI} {J : XJ} {a b : Nat} {k : XP}
theorem xn_cl {ci : Nat} (h : ci < 13) : ∃ q, xn vwCl ci = some q := by
  rw [xn_eq]
  exact ⟨vwCl[ci], List.getElem?_eq_getElem h⟩
theorem xob_none {ρ ρ' : Nat → Nat} {ci N : Nat} {Ip : Nat → Int32} : xob ρ Ip ci (List.replicate N none) = xob ρ' Ip ci (List.replicate N none) := by
  have e : xfv ρ Ip ci (List.replicate N none) = xfv ρ' Ip ci (List.replicate N none) := by
    funext j
    unfold xfv xref
    rw [xn_eq, List.getElem?_replicate]
    by_cases hj : j < N <;> simp [hj, xv]
  unfold xob
  rw [e]
theorem xnw_spec {n : Nat} (h : xnw al n0 mc ms lc st sh a b n = true) : al = true ∧ n0 ≤ sh.length ∧ sh.length < 900000 ∧ a + 1 ≤ mc ∧ b + n ≤ ms ∧ n ≤ 100000 ∧ xwf sh.length lc st sh = true := by
  simp only [xnw, Bool.and_eq_true, Nat.ble_eq, Nat.blt_eq] at h
  obtain ⟨⟨⟨⟨⟨⟨b1, b2⟩, b3⟩, b4⟩, b5⟩, b6⟩, b7⟩ := h
  exact ⟨b1, b2, b3, b4, b5, b6, b7⟩
theorem xs_new (G : XG p R s m args meth D A ρ0 sc d mc ms ini X.1) (hX : xxP X) {idx : Nat} (hd : decode c.code pc = .ok (.new idx, 3)) (hk : ∀ lc st sh I J a b, k lc st sh I J a b → XW p l e R s m args below meth c D A al n0 ρ0 Q (pc + 3) lc st sh I J a b) {ci : Nat} {js : List Nat} (hm : (idx, ci, js) ∈ X.2.2.2.2.2.2) (hb : xnw al n0 mc ms lc st sh a b (xN ci) = true) (h : k lc (.ref sh.length :: st) (sh ++ [.inl (ci, List.replicate (xN ci) none)]) (zI I sh.length) J (a + 1) (b + xN ci)) : XW p l e R s m args below meth c D A al n0 ρ0 Q pc lc st sh I J a b := by
  have hw : ∀ w ∈ xnwd X.1 (idx, ci, js), w ∈ xgt := xwj_good hX (q := (xnwd X.1 (idx, ci, js), js)) (by
    simp only [xwj, List.mem_append, List.mem_map]
    exact Or.inr ⟨_, hm, rfl⟩)
  have h13 : ci < 13 := by
    have h1 := hX.1
    simp only [xxB, Bool.and_eq_true] at h1
    have h2 := List.all_eq_true.mp h1.1.1.1 _ hm
    simpa using h2
  obtain ⟨b1, b2, b3, b4, b5, -, b7⟩ := xnw_spec hb
  obtain ⟨⟨C, T, N⟩, hq⟩ := xn_cl h13
  unfold xnwd at hw
  rw [show xn vwCl (idx, ci, js).2.1 = some (C, T, N) from hq] at hw
  have w1 := hw (.classLink X.1 idx C) (by simp)
  have w2 := hw (.instantiable C N) (by simp)
  have w3 := hw (.initialized C) (by simp)
  have hc := xcl hq
  have hN : N = xN ci := hc.1
  intro ρ H locs ls h1 h2 h3 h4 h5 h6
  refine va_new (C := C) (T := T) (N := N) (ci := ci) (c0 := c) (fs := xob ρ (fun _ => 0) ci (List.replicate (xN ci) none)) G.1 rfl G.2.2.1 hc.2.1 (xty ci) (fun k hk => (hc.2.2.2 k hk).1) G.2.1 (G.2.2.1 _ w1) (G.2.2.1 _ w2) (G.2.2.1 _ w3) G.2.2.2.2.1 h2 h3 h4 G.2.2.2.1 (by rw [← xn_eq]; exact hq) (fun j hj => ?_) (by rw [G.2.2.2.2.2.2.2.1.2.2.1]; exact b4) (by rw [G.2.2.2.2.2.2.2.1.2.2.2, hN]; exact b5) hd fun q H1 g1 g2 g3 => ?_
  · rw [hN] at hj
    unfold vp_V
    rw [List.getD_eq_getElem?_getD, xob_get hj, Option.getD_some]
    have hx := xty_def ci j
    unfold xfv xref
    rw [xn_eq, List.getElem?_replicate]
    simp only [hj, if_true]
    split
    · rename_i z
      exact hx.1 z
    · rename_i z
      exact hx.2 (by simpa using z)
  · have hp := wl_push (D := D) (ρ := ρ) (a := q) (o := .inl (ci, List.replicate (xN ci) none)) (e := .inr (ci, xob ρ (fun _ => 0) ci (List.replicate (xN ci) none))) (I' := zI I sh.length) (J' := J) b7 (fun k hk => zI_ne hk) (fun _ _ => rfl) (by
      simp only [xel, xup_eq, zI_eq]
      rw [xob_none])
    rw [hp] at g1 g2
    have hst : (Value.ref sh.length :: st).map (xv (xup ρ sh.length q)) = .ref q :: st.map (xv ρ) := by
      rw [List.map_cons, xwf_st b7]
      simp [xv, xup_eq]
    rw [← hst, hN]
    exact hk _ _ _ _ _ _ _ h _ H1 locs ls (xrel_up h1 b1 b2 b3) g1 g2 g3 (xwf_xl b7 h5) h6
theorem va_ra_eq {U : State} {c1 c2 : ClassId} {ty : FieldType} (h1 : va_RA U c1 ty) (h2 : va_RA U c2 ty) : c1 = c2 := by
  cases ty with
  | object C =>
    obtain ⟨-, -, -, -, -, g1⟩ := h1
    obtain ⟨-, -, -, -, -, g2⟩ := h2
    exact Option.some.inj (g1.symm.trans g2)
  | _ => exact Option.some.inj (h1.symm.trans h2)
theorem xtys_new {ty : FieldType} {cA : ClassId} {kd : Nat} (hkd : kd < 4) (ht : (xtys D)[kd]? = some (D.2 kd, ty)) (h : va_K D.1 vwCl (xtys D ++ [(cA, ty)]) s) : cA = D.2 kd := by
  have h1 := h.2 4 (cA, ty) (by simp [xtys])
  have h2 := h.2 kd (D.2 kd, ty) (by rw [List.getElem?_append_left (by simp [xtys]; exact hkd)]; exact ht)
  exact va_ra_eq h1.2 h2.2
theorem xs_newarray (G : XG p R s m args meth D A ρ0 sc d mc ms ini X.1) {t : Jvm.ClassFile.ArrayType} (hd : decode c.code pc = .ok (.newarray t, 2)) (hk : ∀ lc st sh I J a b, k lc st sh I J a b → XW p l e R s m args below meth c D A al n0 ρ0 Q (pc + 2) lc st sh I J a b) {n : Int32} (hw : (Cond.arrayClass (newarray.typeOf t)).before args s = true) (hkd : xkd t < 3) (hn : ¬ n < 0) (hb : xnw al n0 mc ms lc r sh a b n.toNatClampNeg = true) (h : k lc (.ref sh.length :: r) (sh ++ [.inr (xkd t, n.toNatClampNeg, [])]) (zI I sh.length) (zJ J sh.length) (a + 1) (b + n.toNatClampNeg)) : XW p l e R s m args below meth c D A al n0 ρ0 Q pc lc (.int n :: r) sh I J a b := by
  obtain ⟨b1, b2, b3, b4, b5, b6, b7⟩ := xnw_spec hb
  have hR1 : a + 1 ≤ R.cells := by rw [G.2.2.2.2.2.2.2.1.2.2.1]; exact b4
  have hR2 : b + n.toNatClampNeg ≤ R.slots := by rw [G.2.2.2.2.2.2.2.1.2.2.2]; exact b5
  intro ρ H locs ls h1 h2 h3 h4 h5 h6
  have key : ∀ (ty : FieldType) (a0 : vp_A) (q : Nat) (cA : ClassId) (H1 : Heap), (xtys D)[xkd t]? = some (D.2 (xkd t), ty) → (∀ ρ', xel D ρ' (zI I sh.length) (zJ J sh.length) sh.length (.inr (xkd t, n.toNatClampNeg, [])) = (ρ' sh.length, .inl (D.2 (xkd t), a0))) → va_K D.1 vwCl (xtys D ++ [(cA, ty)]) s → va_P D.1 vwCl (wl D ρ sh I J ++ [(q, .inl (cA, a0))]) H1 → va_D A (wl D ρ sh I J ++ [(q, .inl (cA, a0))]) → va_S A s.heap H1 locs → W p l e R s m args below meth c H1 locs (a + 1) (b + n.toNatClampNeg) Q (F0 m (pc + 2) ls (.ref q :: r.map (xv ρ))) := by
    intro ty a0 q cA H1 ht he g0 g1 g2 g3
    have hcA := xtys_new (by omega) ht g0
    subst hcA
    have hp := wl_push (D := D) (ρ := ρ) (a := q) (o := .inr (xkd t, n.toNatClampNeg, [])) (e := .inl (D.2 (xkd t), a0)) (I' := zI I sh.length) (J' := zJ J sh.length) b7 (fun k hk => zI_ne hk) (fun k hk => zJ_ne hk) (by rw [he, xup_eq])
    rw [hp] at g1 g2
    have hst : (Value.ref sh.length :: r).map (xv (xup ρ sh.length q)) = .ref q :: r.map (xv ρ) := by
      rw [List.map_cons, xwf_st b7]
      simp [xv, xup_eq]
    rw [← hst]
    exact hk _ _ _ _ _ _ _ h _ H1 locs ls (xrel_up h1 b1 b2 b3) g1 g2 g3 (xwf_xl b7 h5) h6
  cases t with
  | int => exact va_newa (atype := .int) (ty := .int) (a0 := (n.toNatClampNeg, .inl (fun _ => 0))) G.1 rfl hw rfl G.2.2.2.2.1 h2 h3 h4 G.2.2.2.1 (fun _ => rfl) hn rfl (by simp only [componentBytes]; omega) hR1 hR2 hd (fun q cA H1 g0 g1 g2 g3 => key .int _ q cA H1 rfl (fun ρ' => by simp [xel, xkd, zI_eq]) g0 g1 g2 g3)
  | byte => exact va_newa (atype := .byte) (ty := .byte) (a0 := (n.toNatClampNeg, .inl (fun _ => 0))) G.1 rfl hw rfl G.2.2.2.2.1 h2 h3 h4 G.2.2.2.1 (fun _ => rfl) hn rfl (by simp only [componentBytes]; omega) hR1 hR2 hd (fun q cA H1 g0 g1 g2 g3 => key .byte _ q cA H1 rfl (fun ρ' => by simp [xel, xkd, zI_eq]) g0 g1 g2 g3)
  | long => exact va_newa (atype := .long) (ty := .long) (a0 := (n.toNatClampNeg, .inr (.inl (fun _ => 0)))) G.1 rfl hw rfl G.2.2.2.2.1 h2 h3 h4 G.2.2.2.1 (fun _ => rfl) hn rfl (by simp only [componentBytes]; omega) hR1 hR2 hd (fun q cA H1 g0 g1 g2 g3 => key .long _ q cA H1 rfl (fun ρ' => by simp [xel, xkd, zJ_eq]) g0 g1 g2 g3)
  | _ => simp [xkd] at hkd
end XSOK
section XSOK2
variable {p : Program} {l : Launch} {e : Env} {R : Room} {s : State} {m : MethodId} {args : Array Value} {below : List Frame} {meth : Method} {c : Code} {D : XD} {A : Nat → Prop} {al : Bool} {n0 : Nat} {ρ0 : Nat → Nat} {Q : State → Prop} {sc : XS} {d mc ms : Nat} {ini : Bool} {X : XX}
variable {pc : Nat} {lc : List (Option Value)} {st r : List Value} {sh : List XO} {I : XI} {J : XJ} {a b : Nat} {k : XP}
theorem xs_anewarray (G : XG p R s m args meth D A ρ0 sc d mc ms ini X.1) (hX : xxP X) {idx : Nat} (hd : decode c.code pc = .ok (.anewarray idx, 3)) (hk : ∀ lc st sh I J a b, k lc st sh I J a b → XW p l e R s m args below meth c D A al n0 ρ0 Q (pc + 3) lc st sh I J a b) {n : Int32} {js : List Nat} (hm : (idx, 8, js) ∈ X.2.2.2.2.2.2) (hn : ¬ n < 0) (hb : xnw al n0 mc ms lc r sh a b n.toNatClampNeg = true) (h : k lc (.ref sh.length :: r) (sh ++ [.inr (3, n.toNatClampNeg, List.replicate n.toNatClampNeg none)]) I J (a + 1) (b + n.toNatClampNeg)) : XW p l e R s m args below meth c D A al n0 ρ0 Q pc lc (.int n :: r) sh I J a b := by
  obtain ⟨b1, b2, b3, b4, b5, b6, b7⟩ := xnw_spec hb
  have hR1 : a + 1 ≤ R.cells := by rw [G.2.2.2.2.2.2.2.1.2.2.1]; exact b4
  have hR2 : b + n.toNatClampNeg ≤ R.slots := by rw [G.2.2.2.2.2.2.2.1.2.2.2]; exact b5
  have hw : ∀ w ∈ xnwd X.1 (idx, 8, js), w ∈ xgt := xwj_good hX (q := (xnwd X.1 (idx, 8, js), js)) (by
    simp only [xwj, List.mem_append, List.mem_map]
    exact Or.inr ⟨_, hm, rfl⟩)
  have w1 : Cond.classLink X.1 idx RX8 ∈ xgt := hw _ List.mem_cons_self
  intro ρ H locs ls h1 h2 h3 h4 h5 h6
  refine va_newq (C := RX8) G.1 rfl G.2.1 (G.2.2.1 _ w1) G.2.2.2.2.2.2.1.1.2 G.2.2.2.2.1 h2 h3 h4 G.2.2.2.1 hn rfl (by omega) hR1 hR2 hd fun q cA H1 g0 g1 g2 g3 => ?_
  have hcA := xtys_new (kd := 3) (by omega) rfl g0
  subst hcA
  have e1 : ∀ ρ' : Nat → Nat, xopt ρ' (List.replicate n.toNatClampNeg none) = fun _ => none := by
    intro ρ'
    funext j
    unfold xopt
    rw [xn_eq, List.getElem?_replicate]
    by_cases hj : j < n.toNatClampNeg <;> simp [hj]
  have hp := wl_push (D := D) (ρ := ρ) (a := q) (o := .inr (3, n.toNatClampNeg, List.replicate n.toNatClampNeg none)) (e := .inl (D.2 3, n.toNatClampNeg, .inr (.inr (.inr (.inr (fun _ => none)))))) (I := I) (J := J) (I' := I) (J' := J) b7 (fun k hk => rfl) (fun k hk => rfl) (by simp [xel, xup_eq, e1])
  rw [hp] at g1 g2
  have hst : (Value.ref sh.length :: r).map (xv (xup ρ sh.length q)) = .ref q :: r.map (xv ρ) := by
    rw [List.map_cons, xwf_st b7]
    simp [xv, xup_eq]
  rw [← hst]
  exact hk _ _ _ _ _ _ _ h _ H1 locs ls (xrel_up h1 b1 b2 b3) g1 g2 g3 (xwf_xl b7 h5) h6
/-- the words of a call at its index -/
theorem xcall {X : XX} (hX : xxP X) {idx : Nat} {e : Nat × XM × Nat × (Nat × Nat) × List Nat} (he : xlk X.2.2.2.1 idx = some e) : (∀ w ∈ xcw X.1 (idx, e), w ∈ xgt) ∧ xcb (idx, e) = true ∧ ∀ q ∈ xcs2 (idx, e), q.1 = q.2 := by
  have hm := xlk_mem he
  refine ⟨xwj_good hX (q := (xcw X.1 (idx, e), xcj (idx, e))) (by
    simp only [xwj, List.mem_append, List.mem_map]
    exact Or.inl (Or.inl (Or.inl (Or.inr ⟨_, hm, rfl⟩)))), ?_, hX.2.2.1 _ hm⟩
  have h1 := hX.1
  simp only [xxB, Bool.and_eq_true] at h1
  exact List.all_eq_true.mp h1.1.2 _ hm
theorem xs_copy (G : XG p R s m args meth D A ρ0 sc d mc ms ini X.1) {idx : Nat} (hw : ∀ w ∈ [Cond.methodLink X.1 idx arraycopyName, .native arraycopyName, .static arraycopyName, .initialized "java/lang/System"], w ∈ xgt) (hd : decode c.code pc = .ok (.invokestatic idx, 3)) (hk : ∀ lc st sh I J a b, k lc st sh I J a b → XW p l e R s m args below meth c D A al n0 ρ0 Q (pc + 3) lc st sh I J a b) {n dp sp : Int32} {p0 p1 m0 m1 : Nat} {r0 r1 : List (Option Nat)} (hr : xcs r ≤ 8) (g0 : xn sh p0 = some (.inr (0, m0, r0))) (g1 : xn sh p1 = some (.inr (0, m1, r1))) (hs : ¬ sp < 0 ∧ ¬ dp < 0 ∧ ¬ n < 0 ∧ sp.toNatClampNeg + n.toNatClampNeg ≤ m0 ∧ dp.toNatClampNeg + n.toNatClampNeg ≤ m1) (h : k lc r sh (cI I p0 p1 sp.toNatClampNeg dp.toNatClampNeg n.toNatClampNeg) J a b) : XW p l e R s m args below meth c D A al n0 ρ0 Q pc lc (.int n :: .int dp :: .ref p1 :: .int sp :: .ref p0 :: r) sh I J a b := by
  intro ρ H locs ls h1 h2 h3 h4 h5 h6
  have hRl := G.2.2.2.2.2.2.2.1
  refine va_copyi (ty := .int) (rest := r.map (xv ρ)) G.1 rfl h6.symm G.2.1 (G.2.2.1 _ (hw _ (by simp))) (G.2.2.1 _ (hw _ (by simp))) (G.2.2.1 _ (hw _ (by simp))) (G.2.2.1 _ (hw _ (by simp))) G.2.2.2.2.1 h2 h3 h4 p0 p1 0 0 (wl_get g0) (wl_get g1) rfl rfl rfl hs.1 hs.2.1 hs.2.2.1 hs.2.2.2.1 hs.2.2.2.2 (fun _ _ => rfl) (by omega) (by rw [xcs_v, show nativeFrameWords "java/lang/System" "arraycopy" 5 = 7 by decide]; omega) hd fun H1 locs1 f1 f2 f3 => ?_
  have hup := wl_row (D := D) (ρ := ρ) (I := I) (J := J) (I' := cI I p0 p1 sp.toNatClampNeg dp.toNatClampNeg n.toNatClampNeg) (J' := J) (x := (m1, .inl (va_cpy (I p0) (I p1) sp.toNatClampNeg dp.toNatClampNeg n.toNatClampNeg))) g1 (fun i hi => cI_ne hi) (fun _ _ => rfl) (by simp [xel, cI_eq])
  exact hk _ _ _ _ _ _ _ h ρ H1 locs1 ls h1 (by rw [← hup]; exact f1) (by rw [← hup]; exact f2) f3 h5 h6
end XSOK2
section XSOK3
variable {p : Program} {l : Launch} {e : Env} {R : Room} {s : State} {m : MethodId} {args : Array Value} {below : List Frame} {meth : Method} {c : Code} {D : XD} {A : Nat → Prop} {al : Bool} {n0 : Nat} {ρ0 : Nat → Nat} {Q : State → Prop} {sc : XS} {d mc ms : Nat} {ini : Bool} {X : XX}
variable {pc : Nat} {lc : List (Option Value)} {st r : List Value} {sh : List XO} {I : XI} {J : XJ} {a b : Nat} {k : XP}
theorem xrho {ρ : Nat → Nat} {q : Nat} (h1 : xrel al n0 ρ0 ρ) (hq : 900000 ≤ q) : ρ0 q = ρ q := (h1.2 _ (Or.inr hq)).symm
theorem xs_tab (G : XG p R s m args meth D A ρ0 sc d mc ms ini X.1) {ρ : Nat → Nat} (h1 : xrel al n0 ρ0 ρ) {q : Nat} {e : Nat × Nat × List Int32} (he : xlk xkA q = some e) : va_T (xkt e.1) (ρ q) e.2.1 (fun j => .int (e.2.2.getD j 0)) A s s.heap := by
  have y := G.2.2.2.2.2.2.1.2.2.2.2.2.1 (q, e) (xlk_mem he)
  rw [xrho h1 (xkA_ge _ (xlk_mem he))] at y
  exact y
theorem xkw_f : Cond.fieldLink RX5 110 RX5 "FORMS" "[I" ∈ xgt := xgt_of (xlook_mem (j := 4163) rfl) rfl
theorem xkw_n : Cond.fieldLink RX5 88 RX5 "NAMES_OF" "[I" ∈ xgt := xgt_of (xlook_mem (j := 4157) rfl) rfl
theorem xkw_c : Cond.fieldLink RJ0 38 RJ0 "COMPACT_STRINGS" "Z" ∈ xgt := xgt_of (xlook_mem (j := 4043) rfl) rfl
theorem xkw_s : Cond.fieldLink RJ0 1053 RJ3 "SIOOBE_FORMATTER" "Ljava/util/function/BiFunction;" ∈ xgt := xgt_of (xlook_mem (j := 4059) rfl) rfl
theorem xkw_v : Cond.fieldLink RJ0 9 RJ0 "value" "[B" ∈ xgt := xgt_of (xlook_mem (j := 8153) rfl) rfl
theorem xkw_o : Cond.fieldLink RJ0 15 RJ0 "coder" "B" ∈ xgt := xgt_of (xlook_mem (j := 8154) rfl) rfl
theorem xs_gets (G : XG p R s m args meth D A ρ0 sc d mc ms ini X.1) (hX : xxP X) {idx : Nat} (hd : decode c.code pc = .ok (.getstatic idx, 3)) (hk : ∀ lc st sh I J a b, k lc st sh I J a b → XW p l e R s m args below meth c D A al n0 ρ0 Q (pc + 3) lc st sh I J a b) (h : match xk2 xkZ X.2.1 idx with
    | some 0 => k lc (.int 1 :: st) sh I J a b
    | some 1 => k lc (.null :: st) sh I J a b ∧ k lc (.ref 900007 :: st) sh I J a b
    | some p => k lc (.ref p :: st) sh I J a b
    | none => False) : XW p l e R s m args below meth c D A al n0 ρ0 Q pc lc st sh I J a b := by
  have hn := hX.2.2.2.2.2
  have hC := G.2.2.2.2.2.2.1.2
  have hown := G.2.1
  cases hz : xk2 xkZ X.2.1 idx with
  | none =>
    rw [hz] at h
    exact h.elim
  | some w =>
    rw [hz] at h
    obtain ⟨L, m1, m2⟩ := xk2_el hz
    intro ρ H locs ls h1 h2 h3 h4 h5 h6
    simp only [xkZ, List.mem_cons, List.not_mem_nil, or_false, Prod.mk.injEq] at m1
    rcases m1 with ⟨c1, c2⟩ | ⟨c1, c2⟩
    · rw [c1] at hn
      subst c2
      have hown5 : s.vm.findClass RX5 = some m.cls := by rw [← show X.1 = RX5 from hn]; exact hown
      simp only [List.mem_cons, List.not_mem_nil, or_false, Prod.mk.injEq] at m2
      rcases m2 with ⟨i1, i2⟩ | ⟨i1, i2⟩
      · subst i1 i2
        have y := hC.1
        rw [xrho h1 (Nat.le_of_ble_eq_true rfl)] at y
        exact va_gets G.1 rfl y h4 hown5 (G.2.2.1 _ xkw_f) (fun _ z => z) hd (hk _ _ _ _ _ _ _ h ρ H locs ls h1 h2 h3 h4 h5 h6)
      · subst i1 i2
        have y := hC.2.1
        rw [xrho h1 (Nat.le_of_ble_eq_true rfl)] at y
        exact va_gets G.1 rfl y h4 hown5 (G.2.2.1 _ xkw_n) (fun _ z => z) hd (hk _ _ _ _ _ _ _ h ρ H locs ls h1 h2 h3 h4 h5 h6)
    · rw [c1] at hn
      subst c2
      have hown0 : s.vm.findClass RJ0 = some m.cls := by rw [← show X.1 = RJ0 from hn]; exact hown
      simp only [List.mem_cons, List.not_mem_nil, or_false, Prod.mk.injEq] at m2
      rcases m2 with ⟨i1, i2⟩ | ⟨i1, i2⟩
      · subst i1 i2
        exact va_gets G.1 rfl hC.2.2.1 h4 hown0 (G.2.2.1 _ xkw_c) (fun _ z => z) hd (hk _ _ _ _ _ _ _ h ρ H locs ls h1 h2 h3 h4 h5 h6)
      · subst i1 i2
        rcases hC.2.2.2.1 with y | y
        · exact va_gets G.1 rfl y h4 hown0 (G.2.2.1 _ xkw_s) (fun _ z => z) hd (hk _ _ _ _ _ _ _ h.1 ρ H locs ls h1 h2 h3 h4 h5 h6)
        · rw [xrho h1 (Nat.le_of_ble_eq_true rfl)] at y
          exact va_gets G.1 rfl y h4 hown0 (G.2.2.1 _ xkw_s) (fun _ z => z) hd (hk _ _ _ _ _ _ _ h.2 ρ H locs ls h1 h2 h3 h4 h5 h6)
theorem xs_getc (G : XG p R s m args meth D A ρ0 sc d mc ms ini X.1) (hX : xxP X) {idx w : Nat} (hz : xk2 xkO X.2.1 idx = some w) (hd : decode c.code pc = .ok (.getfield idx, 3)) (hk : ∀ lc st sh I J a b, k lc st sh I J a b → XW p l e R s m args below meth c D A al n0 ρ0 Q (pc + 3) lc st sh I J a b) {q : Nat} (h : xso (xlk xkS q) fun e => (match w with
      | 0 => k lc (.ref e.1 :: r) sh I J a b
      | _ => k lc (.int 0 :: r) sh I J a b)) : XW p l e R s m args below meth c D A al n0 ρ0 Q pc lc (.ref q :: r) sh I J a b := by
  have hn := hX.2.2.2.2.2
  obtain ⟨e', he, h⟩ := xso_el h
  obtain ⟨L, m1, m2⟩ := xk2_el hz
  intro ρ H locs ls h1 h2 h3 h4 h5 h6
  have hm := xlk_mem he
  obtain ⟨g1, g2, g3, g4⟩ := G.2.2.2.2.2.2.1.2.2.2.2.2.2 (q, e') hm
  have hge := xkS_ge _ hm
  rw [xrho h1 hge.1] at g2 g3
  rw [xrho h1 hge.2] at g3
  simp only [xkO, List.mem_cons, List.not_mem_nil, or_false, Prod.mk.injEq] at m1
  obtain ⟨c1, c2⟩ := m1
  rw [c1] at hn
  subst c2
  have hown0 : s.vm.findClass RJ0 = some m.cls := by rw [← show X.1 = RJ0 from hn]; exact G.2.1
  simp only [List.mem_cons, List.not_mem_nil, or_false, Prod.mk.injEq] at m2
  rcases m2 with ⟨i1, i2⟩ | ⟨i1, i2⟩
  · subst i1 i2
    exact vk_getf G.1 rfl g3 h4 hown0 (G.2.2.1 _ xkw_v) (fun _ z => z) hd (hk _ _ _ _ _ _ _ h ρ H locs ls h1 h2 h3 h4 h5 h6)
  · subst i1 i2
    exact vk_getf G.1 rfl g2 h4 hown0 (G.2.2.1 _ xkw_o) (fun _ z => z) hd (hk _ _ _ _ _ _ _ h ρ H locs ls h1 h2 h3 h4 h5 h6)
theorem xs_ldcs (G : XG p R s m args meth D A ρ0 sc d mc ms ini X.1) (hX : xxP X) {idx w : Nat} (hz : xk2 xkD X.2.1 idx = some w) (hd : decode c.code pc = .ok (.ldc idx, 2)) (hk : ∀ lc st sh I J a b, k lc st sh I J a b → XW p l e R s m args below meth c D A al n0 ρ0 Q (pc + 2) lc st sh I J a b) (h : k lc (.ref w :: st) sh I J a b) : XW p l e R s m args below meth c D A al n0 ρ0 Q pc lc st sh I J a b := by
  have hn := hX.2.2.2.2.2
  obtain ⟨L, m1, m2⟩ := xk2_el hz
  intro ρ H locs ls h1 h2 h3 h4 h5 h6
  simp only [xkD, List.mem_cons, List.not_mem_nil, or_false, Prod.mk.injEq] at m1
  obtain ⟨c1, c2⟩ := m1
  rw [c1] at hn
  subst c2
  have hown7 : s.vm.findClass RX7 = some m.cls := by rw [← show X.1 = RX7 from hn]; exact G.2.1
  simp only [List.mem_cons, List.not_mem_nil, or_false, Prod.mk.injEq] at m2
  rcases m2 with ⟨i1, i2⟩ | ⟨i1, i2⟩
  · subst i1 i2
    have y := (G.2.2.2.2.2.2.1.2.2.2.2.2.2 _ (List.mem_cons_self : _ ∈ xkS)).2.2.2
    dsimp only at y
    rw [xrho h1 (Nat.le_of_ble_eq_true rfl)] at y
    exact va_ldcS G.1 rfl hown7 y hd (hk _ _ _ _ _ _ _ h ρ H locs ls h1 h2 h3 h4 h5 h6)
  · subst i1 i2
    have y := (G.2.2.2.2.2.2.1.2.2.2.2.2.2 _ (List.mem_cons_of_mem _ List.mem_cons_self : _ ∈ xkS)).2.2.2
    dsimp only at y
    rw [xrho h1 (Nat.le_of_ble_eq_true rfl)] at y
    exact va_ldcS G.1 rfl hown7 y hd (hk _ _ _ _ _ _ _ h ρ H locs ls h1 h2 h3 h4 h5 h6)
theorem xs_alen (G : XG p R s m args meth D A ρ0 sc d mc ms ini X.1) (hd : decode c.code pc = .ok (.arraylength, 1)) (hk : ∀ lc st sh I J a b, k lc st sh I J a b → XW p l e R s m args below meth c D A al n0 ρ0 Q (pc + 1) lc st sh I J a b) {q : Nat} (h : match Nat.beq q 900000 with
    | true => (match sc with
      | some q => k lc (.int (Int32.ofNat q.1) :: r) sh I J a b
      | none => False)
    | false => (match Nat.ble 900001 q with
      | true => xso (xlk xkA q) fun e => k lc (.int (Int32.ofNat e.2.1) :: r) sh I J a b
      | false => (match xn sh q with
        | some (.inr q) => xb (Nat.blt q.1 4) (k lc (.int (Int32.ofNat q.2.1) :: r) sh I J a b)
        | _ => False))) : XW p l e R s m args below meth c D A al n0 ρ0 Q pc lc (.ref q :: r) sh I J a b := by
  intro ρ H locs ls h1 h2 h3 h4 h5 h6
  split at h
  · rename_i hb
    have hq := Nat.eq_of_beq_eq_true hb
    subst hq
    split at h
    · rename_i z
      have hx := G.2.2.2.2.2.1
      simp only [xsc] at hx
      have hρ : ρ 900000 = ρ0 900000 := h1.2 _ (Or.inr (Nat.le_refl _))
      have g := va_slen (rest := r.map (xv ρ)) G.1 rfl hx.1 hx.2.1 hx.2.2 h4 hd (hk _ _ _ _ _ _ _ h ρ H locs ls h1 h2 h3 h4 h5 h6)
      rw [← hρ] at g
      exact g
    · exact h.elim
  · split at h
    · obtain ⟨e', he, h⟩ := xso_el h
      exact va_tlen G.1 rfl (xs_tab G h1 he) h4 rfl hd (hk _ _ _ _ _ _ _ h ρ H locs ls h1 h2 h3 h4 h5 h6)
    split at h
    · rename_i z hz
      obtain ⟨hb, h⟩ := xb_el h
      have hlt : z.1 < 4 := by simpa using hb
      obtain ⟨ty, ht⟩ := xtys_get (D := D) hlt
      exact va_alen G.1 rfl G.2.2.2.2.1 h2 q z.1 (wl_get hz) ht rfl hd (hk _ _ _ _ _ _ _ h ρ H locs ls h1 h2 h3 h4 h5 h6)
    · exact h.elim
theorem xs_iald (G : XG p R s m args meth D A ρ0 sc d mc ms ini X.1) (hd : decode c.code pc = .ok (.iaload, 1)) (hk : ∀ lc st sh I J a b, k lc st sh I J a b → XW p l e R s m args below meth c D A al n0 ρ0 Q (pc + 1) lc st sh I J a b) {q : Nat} {j : Int32} (h : match Nat.beq q 900000 with
    | true => (match sc with
      | some q => vp_in j q.1 ∧ k lc (.int (q.2 j.toNatClampNeg) :: r) sh I J a b
      | none => False)
    | false => (match Nat.ble 900001 q with
      | true => xso (xlk xkA q) fun e => xb (Nat.beq e.1 0) (vp_in j e.2.1 ∧ k lc (.int (e.2.2.getD j.toNatClampNeg 0) :: r) sh I J a b)
      | false => xga sh q 0 fun n _ => vp_in j n ∧ k lc (.int (I q j.toNatClampNeg) :: r) sh I J a b)) : XW p l e R s m args below meth c D A al n0 ρ0 Q pc lc (.int j :: .ref q :: r) sh I J a b := by
  intro ρ H locs ls h1 h2 h3 h4 h5 h6
  split at h
  · rename_i hb
    have hq := Nat.eq_of_beq_eq_true hb
    subst hq
    split at h
    · rename_i z
      obtain ⟨hin, h⟩ := h
      have hx := G.2.2.2.2.2.1
      simp only [xsc] at hx
      have hρ : ρ 900000 = ρ0 900000 := h1.2 _ (Or.inr (Nat.le_refl _))
      have g := va_sld (rest := r.map (xv ρ)) G.1 rfl hx.1 hx.2.1 hx.2.2 h4 hin hd (hk _ _ _ _ _ _ _ h ρ H locs ls h1 h2 h3 h4 h5 h6)
      rw [← hρ] at g
      exact g
    · exact h.elim
  · split at h
    · obtain ⟨e', he, h⟩ := xso_el h
      obtain ⟨hb, hin, h⟩ := xb_el h
      have y := xs_tab G h1 he
      rw [Nat.eq_of_beq_eq_true hb] at y
      exact va_ti G.1 rfl y h4 hin rfl hd (hk _ _ _ _ _ _ _ h ρ H locs ls h1 h2 h3 h4 h5 h6)
    obtain ⟨n, rs, hq, hin, h⟩ := xga_el h
    exact va_iald G.1 rfl G.2.2.2.2.1 h2 q 0 (wl_get hq) rfl hin hd (hk _ _ _ _ _ _ _ h ρ H locs ls h1 h2 h3 h4 h5 h6)
theorem xs_aast (G : XG p R s m args meth D A ρ0 sc d mc ms ini X.1) (hd : decode c.code pc = .ok (.aastore, 1)) (hk : ∀ lc st sh I J a b, k lc st sh I J a b → XW p l e R s m args below meth c D A al n0 ρ0 Q (pc + 1) lc st sh I J a b) {q n : Nat} {rs : List (Option Nat)} {j : Int32} {v : Value} (hq : xn sh q = some (.inr (3, n, rs))) (h : match v with
    | .ref x => (match xn sh x with
      | some (.inl o) => xb (Nat.beq o.1 8) (vp_in j n ∧ xin (xn rs j.toNatClampNeg) (k lc r (xset sh q (.inr (3, n, xsetR rs j.toNatClampNeg (some x)))) I J a b))
      | _ => False)
    | _ => False) : XW p l e R s m args below meth c D A al n0 ρ0 Q pc lc (v :: .int j :: .ref q :: r) sh I J a b := by
  split at h
  · rename_i x
    split at h
    · rename_i o ho
      obtain ⟨hb, hin, h⟩ := xb_el h
      obtain ⟨hl, h⟩ := xin_el h
      have h8 := Nat.eq_of_beq_eq_true hb
      intro ρ H locs ls h1 h2 h3 h4 h5 h6
      refine va_astq (r := (RX8, TX8, 6)) (rest := r.map (xv ρ)) G.1 rfl G.2.2.2.2.1 h2 h3 h4 q 3 x 8 (wl_get hq) rfl (by rw [wl_get ho]; simp only [xel, h8]; rfl) rfl hin hd fun H1 locs1 f1 f2 f3 => ?_
      have hup : (wl D ρ sh I J).set q (ρ q, .inl (D.2 3, n, .inr (.inr (.inr (.inr (va_up (xopt ρ rs) j.toNatClampNeg (some (ρ x)))))))) = wl D ρ (xset sh q (.inr (3, n, xsetR rs j.toNatClampNeg (some x)))) I J := by
        refine wl_upd xset_len (xset_same hq) (fun i hi => xset_ne hi) (fun _ _ => rfl) (fun _ _ => rfl) ?_
        have e2 : xopt ρ (xsetR rs j.toNatClampNeg (some x)) = va_up (xopt ρ rs) j.toNatClampNeg (some (ρ x)) := by
          funext i
          simp only [xopt, va_up, xsetR_eq, xn_eq]
          by_cases hi : i = j.toNatClampNeg
          · subst hi
            rw [List.getElem?_set_self hl]
            simp
          · rw [List.getElem?_set_ne (Ne.symm hi)]
            simp [hi]
        simp [xel, e2]
      exact hk _ _ _ _ _ _ _ h ρ H1 locs1 ls h1 (by rw [← hup]; exact f1) (by rw [← hup]; exact f2) f3 h5 h6
    · exact h.elim
  · exact h.elim
theorem xs_objinit (G : XG p R s m args meth D A ρ0 sc d mc ms ini X.1) {idx : Nat} (hw : ∀ w ∈ [Cond.methodLink X.1 idx objectInit, .instanceMethod objectInit, .code objectInit ⟨#[0xb1]⟩ 1 none], w ∈ xgt) (hd : decode c.code pc = .ok (.invokespecial idx, 3)) (hk : ∀ lc st sh I J a b, k lc st sh I J a b → XW p l e R s m args below meth c D A al n0 ρ0 Q (pc + 3) lc st sh I J a b) {q : Nat} (hr : xcs r ≤ 8) (h : k lc r sh I J a b) : XW p l e R s m args below meth c D A al n0 ρ0 Q pc lc (.ref q :: r) sh I J a b := by
  intro ρ H locs ls h1 h2 h3 h4 h5 h6
  have hRl := G.2.2.2.2.2.2.2.1
  exact W.objInit (rest := r.map (xv ρ)) G.1 rfl G.2.1 (G.2.2.1 _ (hw _ (by simp))) (G.2.2.1 _ (hw _ (by simp))) (G.2.2.1 _ (hw _ (by simp))) rfl h6 rfl hd (by omega) (by rw [xcs_v]; show 2 * 0 + _ + 12 ≤ _; omega) (hk _ _ _ _ _ _ _ h ρ H locs ls h1 h2 h3 h4 h5 h6)
theorem xconstL {X : XX} (hX : xxP X) {idx : Nat} {e : Int64 × Nat} (he : xlk X.2.2.2.2.1 idx = some e) : Cond.constantLong X.1 idx e.1 ∈ xgt := xwj_good hX (q := ([.constantLong X.1 idx e.1], [e.2])) (by
  simp only [xwj, List.mem_append, List.mem_map]
  exact Or.inl (Or.inl (Or.inr ⟨_, xlk_mem he, rfl⟩))) _ List.mem_cons_self
theorem xconstI {X : XX} (hX : xxP X) {idx : Nat} {e : Int32 × Nat} (he : xlk X.2.2.2.2.2.1 idx = some e) : Cond.constant X.1 idx e.1 ∈ xgt := xwj_good hX (q := ([.constant X.1 idx e.1], [e.2])) (by
  simp only [xwj, List.mem_append, List.mem_map]
  exact Or.inl (Or.inr ⟨_, xlk_mem he, rfl⟩)) _ List.mem_cons_self
theorem xac (t : Jvm.ClassFile.ArrayType) (h : xkd t < 3) : Cond.arrayClass (newarray.typeOf t) ∈ xgt := by
  cases t with
  | int => exact xac_int
  | byte => exact xac_byte
  | long => exact xac_long
  | _ => simp [xkd] at h
theorem xcw5 {own : String} {idx : Nat} {e : Nat × XM × Nat × (Nat × Nat) × List Nat} (h : e.1 = 5) : xcw own (idx, e) = [.methodLink own idx Lib.Math.min.name, .static Lib.Math.min.name, .initialized "java/lang/Math", .code Lib.Math.min.name Lib.Math.min.code 2 (some .int)] := by
  obtain ⟨a, e⟩ := e
  dsimp only at h
  subst h
  simp [xcw]
theorem xcw6 {own : String} {idx : Nat} {e : Nat × XM × Nat × (Nat × Nat) × List Nat} (h : e.1 = 6) : xcw own (idx, e) = [.methodLink own idx Lib.Math.max.name, .static Lib.Math.max.name, .initialized "java/lang/Math", .code Lib.Math.max.name Lib.Math.max.code 2 (some .int)] := by
  obtain ⟨a, e⟩ := e
  dsimp only at h
  subst h
  simp [xcw]
theorem xcw7 {own : String} {idx : Nat} {e : Nat × XM × Nat × (Nat × Nat) × List Nat} (h : e.1 = 7) : xcw own (idx, e) = [.methodLink own idx Lib.Math.abs.name, .static Lib.Math.abs.name, .initialized "java/lang/Math", .code Lib.Math.abs.name Lib.Math.abs.code 1 (some .int)] := by
  obtain ⟨a, e⟩ := e
  dsimp only at h
  subst h
  simp [xcw]
theorem xcw8 {own : String} {idx : Nat} {e : Nat × XM × Nat × (Nat × Nat) × List Nat} (h : e.1 = 8) : xcw own (idx, e) = [.methodLink own idx Lib.MathLoose.min_long.x, .static Lib.MathLoose.min_long.x, .initialized "java/lang/Math", .code Lib.MathLoose.min_long.x Lib.MathLoose.min_long.code 4 (some .long)] := by
  obtain ⟨a, e⟩ := e
  dsimp only at h
  subst h
  simp [xcw]
theorem xcw9 {own : String} {idx : Nat} {e : Nat × XM × Nat × (Nat × Nat) × List Nat} (h : e.1 = 9) : xcw own (idx, e) = [.methodLink own idx Lib.MathLoose.max_long.x, .static Lib.MathLoose.max_long.x, .initialized "java/lang/Math", .code Lib.MathLoose.max_long.x Lib.MathLoose.max_long.code 4 (some .long)] := by
  obtain ⟨a, e⟩ := e
  dsimp only at h
  subst h
  simp [xcw]
theorem xcw10 {own : String} {idx : Nat} {e : Nat × XM × Nat × (Nat × Nat) × List Nat} (h : e.1 = 10) : xcw own (idx, e) = [.methodLink own idx arraycopyName, .native arraycopyName, .static arraycopyName, .initialized "java/lang/System"] := by
  obtain ⟨a, e⟩ := e
  dsimp only at h
  subst h
  simp [xcw]
theorem xcw11 {own : String} {idx : Nat} {e : Nat × XM × Nat × (Nat × Nat) × List Nat} (h : e.1 = 11) : xcw own (idx, e) = [.methodLink own idx objectInit, .instanceMethod objectInit, .code objectInit ⟨#[0xb1]⟩ 1 none] := by
  obtain ⟨a, e⟩ := e
  dsimp only at h
  subst h
  simp [xcw]
set_option maxHeartbeats 4000000 in
theorem xs_ok (G : XG p R s m args meth D A ρ0 sc d mc ms ini X.1) (hX : xxP X) {i : Jvm.ClassFile.Instr} (hd : decode c.code pc = .ok (i, xlen i)) (hk : ∀ lc st sh I J a b, k lc st sh I J a b → XW p l e R s m args below meth c D A al n0 ρ0 Q (pc + xlen i) lc st sh I J a b) (h : xs X ini al n0 mc ms sc i lc st sh I J a b k) : XW p l e R s m args below meth c D A al n0 ρ0 Q pc lc st sh I J a b := by
  cases i with
  | iconst n =>
    intro ρ H locs ls h1 h2 h3 h4 h5 h6
    exact lv_iconst G.1 rfl hd rfl (hk _ _ _ _ _ _ _ h ρ H locs ls h1 h2 h3 h4 h5 h6)
  | bipush n =>
    intro ρ H locs ls h1 h2 h3 h4 h5 h6
    exact lv_bipush G.1 rfl hd rfl (hk _ _ _ _ _ _ _ h ρ H locs ls h1 h2 h3 h4 h5 h6)
  | sipush n =>
    intro ρ H locs ls h1 h2 h3 h4 h5 h6
    exact lv_sipush G.1 rfl hd rfl (hk _ _ _ _ _ _ _ h ρ H locs ls h1 h2 h3 h4 h5 h6)
  | lconst n =>
    intro ρ H locs ls h1 h2 h3 h4 h5 h6
    exact lv_lconst G.1 rfl hd rfl (hk _ _ _ _ _ _ _ h ρ H locs ls h1 h2 h3 h4 h5 h6)
  | aconst_null =>
    intro ρ H locs ls h1 h2 h3 h4 h5 h6
    exact lv_null G.1 rfl hd (hk _ _ _ _ _ _ _ h ρ H locs ls h1 h2 h3 h4 h5 h6)
  | iload_n n =>
    obtain ⟨x, hx, h⟩ := xli_el h
    intro ρ H locs ls h1 h2 h3 h4 h5 h6
    exact lv_iload_n G.1 rfl hd rfl (h5.at hx) (hk _ _ _ _ _ _ _ h ρ H locs ls h1 h2 h3 h4 h5 h6)
  | iload n =>
    obtain ⟨x, hx, h⟩ := xli_el h
    intro ρ H locs ls h1 h2 h3 h4 h5 h6
    exact lv_iload G.1 rfl hd (h5.at hx) (hk _ _ _ _ _ _ _ h ρ H locs ls h1 h2 h3 h4 h5 h6)
  | lload_n n =>
    obtain ⟨x, hx, h⟩ := xll_el h
    intro ρ H locs ls h1 h2 h3 h4 h5 h6
    exact lv_lload_n G.1 rfl hd rfl (h5.at hx) (hk _ _ _ _ _ _ _ h ρ H locs ls h1 h2 h3 h4 h5 h6)
  | lload n =>
    obtain ⟨x, hx, h⟩ := xll_el h
    intro ρ H locs ls h1 h2 h3 h4 h5 h6
    exact lv_lload G.1 rfl hd (h5.at hx) (hk _ _ _ _ _ _ _ h ρ H locs ls h1 h2 h3 h4 h5 h6)
  | aload_n n =>
    obtain ⟨x, hx, h⟩ := xla_el h
    intro ρ H locs ls h1 h2 h3 h4 h5 h6
    exact lv_aload_n G.1 rfl hd rfl (h5.at hx) (hk _ _ _ _ _ _ _ h ρ H locs ls h1 h2 h3 h4 h5 h6)
  | aload n =>
    obtain ⟨x, hx, h⟩ := xla_el h
    intro ρ H locs ls h1 h2 h3 h4 h5 h6
    exact lv_aload G.1 rfl hd (h5.at hx) (hk _ _ _ _ _ _ _ h ρ H locs ls h1 h2 h3 h4 h5 h6)
  | istore_n n =>
    obtain ⟨x, r, hst, g⟩ := xi1_el h
    clear h
    subst hst
    have h := g
    clear g
    obtain ⟨hl, h⟩ := xin_el h
    intro ρ H locs ls h1 h2 h3 h4 h5 h6
    exact lv_istore_n G.1 rfl hd rfl h5.has (by rw [h5.1]; exact hl) rfl (fun ls2 g => hk _ _ _ _ _ _ _ h ρ H locs ls2 h1 h2 h3 h4 (xl_store1 h5 hl rfl g) (g.1.trans h6))
  | istore n =>
    obtain ⟨x, r, hst, g⟩ := xi1_el h
    clear h
    subst hst
    have h := g
    clear g
    obtain ⟨hl, h⟩ := xin_el h
    intro ρ H locs ls h1 h2 h3 h4 h5 h6
    exact lv_istore G.1 rfl hd h5.has (by rw [h5.1]; exact hl) rfl (fun ls2 g => hk _ _ _ _ _ _ _ h ρ H locs ls2 h1 h2 h3 h4 (xl_store1 h5 hl rfl g) (g.1.trans h6))
  | astore_n n =>
    obtain ⟨x, r, hst, g⟩ := xr1_el h
    clear h
    subst hst
    have h := g
    clear g
    obtain ⟨hl, h⟩ := xin_el h
    intro ρ H locs ls h1 h2 h3 h4 h5 h6
    exact lv_astore_n G.1 rfl hd rfl h5.has (by rw [h5.1]; exact hl) rfl (fun ls2 g => hk _ _ _ _ _ _ _ h ρ H locs ls2 h1 h2 h3 h4 (xl_store1 h5 hl rfl g) (g.1.trans h6))
  | astore n =>
    obtain ⟨x, r, hst, g⟩ := xr1_el h
    clear h
    subst hst
    have h := g
    clear g
    obtain ⟨hl, h⟩ := xin_el h
    intro ρ H locs ls h1 h2 h3 h4 h5 h6
    exact lv_astore G.1 rfl hd h5.has (by rw [h5.1]; exact hl) rfl (fun ls2 g => hk _ _ _ _ _ _ _ h ρ H locs ls2 h1 h2 h3 h4 (xl_store1 h5 hl rfl g) (g.1.trans h6))
  | lstore_n n =>
    obtain ⟨x, r, hst, g⟩ := xl1_el h
    clear h
    subst hst
    have h := g
    clear g
    obtain ⟨hl, h⟩ := xin_el h
    intro ρ H locs ls h1 h2 h3 h4 h5 h6
    exact lv_lstore_n G.1 rfl hd rfl h5.has (by rw [h5.1]; exact hl) rfl (fun ls2 g => hk _ _ _ _ _ _ _ h ρ H locs ls2 h1 h2 h3 h4 (xl_store2 h5 hl rfl g) (g.1.trans h6))
  | lstore n =>
    obtain ⟨x, r, hst, g⟩ := xl1_el h
    clear h
    subst hst
    have h := g
    clear g
    obtain ⟨hl, h⟩ := xin_el h
    intro ρ H locs ls h1 h2 h3 h4 h5 h6
    exact lv_lstore G.1 rfl hd h5.has (by rw [h5.1]; exact hl) rfl (fun ls2 g => hk _ _ _ _ _ _ _ h ρ H locs ls2 h1 h2 h3 h4 (xl_store2 h5 hl rfl g) (g.1.trans h6))
  | iinc j n =>
    obtain ⟨x, hx, h⟩ := xli_el h
    intro ρ H locs ls h1 h2 h3 h4 h5 h6
    rw [xn_eq] at hx
    have hl := (List.getElem?_eq_some_iff.mp hx).1
    obtain ⟨kk, hkk⟩ := List.getElem?_of_mem (lvL_mem (ρ := ρ) hx)
    exact lv_iinc (k := kk) (v := x + Int32.ofInt n) G.1 rfl hd h5.has hkk rfl (by rw [h5.1]; exact hl) rfl (fun ls2 g => hk _ _ _ _ _ _ _ h ρ H locs ls2 h1 h2 h3 h4 (xl_store1 h5 hl rfl g) (g.1.trans h6))
  | iadd =>
    obtain ⟨x, y, r, hst, g⟩ := xii_el h
    clear h
    subst hst
    have h := g
    clear g
    intro ρ H locs ls h1 h2 h3 h4 h5 h6
    exact lv_iadd G.1 rfl hd (hk _ _ _ _ _ _ _ h ρ H locs ls h1 h2 h3 h4 h5 h6)
  | isub =>
    obtain ⟨x, y, r, hst, g⟩ := xii_el h
    clear h
    subst hst
    have h := g
    clear g
    intro ρ H locs ls h1 h2 h3 h4 h5 h6
    exact lv_isub G.1 rfl hd (hk _ _ _ _ _ _ _ h ρ H locs ls h1 h2 h3 h4 h5 h6)
  | imul =>
    obtain ⟨x, y, r, hst, g⟩ := xii_el h
    clear h
    subst hst
    have h := g
    clear g
    intro ρ H locs ls h1 h2 h3 h4 h5 h6
    exact lv_imul G.1 rfl hd (hk _ _ _ _ _ _ _ h ρ H locs ls h1 h2 h3 h4 h5 h6)
  | iand =>
    obtain ⟨x, y, r, hst, g⟩ := xii_el h
    clear h
    subst hst
    have h := g
    clear g
    intro ρ H locs ls h1 h2 h3 h4 h5 h6
    exact lv_iand G.1 rfl hd (hk _ _ _ _ _ _ _ h ρ H locs ls h1 h2 h3 h4 h5 h6)
  | ior =>
    obtain ⟨x, y, r, hst, g⟩ := xii_el h
    clear h
    subst hst
    have h := g
    clear g
    intro ρ H locs ls h1 h2 h3 h4 h5 h6
    exact lv_ior G.1 rfl hd (hk _ _ _ _ _ _ _ h ρ H locs ls h1 h2 h3 h4 h5 h6)
  | ixor =>
    obtain ⟨x, y, r, hst, g⟩ := xii_el h
    clear h
    subst hst
    have h := g
    clear g
    intro ρ H locs ls h1 h2 h3 h4 h5 h6
    exact lv_ixor G.1 rfl hd (hk _ _ _ _ _ _ _ h ρ H locs ls h1 h2 h3 h4 h5 h6)
  | ishl =>
    obtain ⟨x, y, r, hst, g⟩ := xii_el h
    clear h
    subst hst
    have h := g
    clear g
    intro ρ H locs ls h1 h2 h3 h4 h5 h6
    exact lv_ishl G.1 rfl hd (hk _ _ _ _ _ _ _ h ρ H locs ls h1 h2 h3 h4 h5 h6)
  | ishr =>
    obtain ⟨x, y, r, hst, g⟩ := xii_el h
    clear h
    subst hst
    have h := g
    clear g
    intro ρ H locs ls h1 h2 h3 h4 h5 h6
    exact lv_ishr G.1 rfl hd (hk _ _ _ _ _ _ _ h ρ H locs ls h1 h2 h3 h4 h5 h6)
  | iushr =>
    obtain ⟨x, y, r, hst, g⟩ := xii_el h
    clear h
    subst hst
    have h := g
    clear g
    intro ρ H locs ls h1 h2 h3 h4 h5 h6
    exact lv_iushr G.1 rfl hd rfl (hk _ _ _ _ _ _ _ h ρ H locs ls h1 h2 h3 h4 h5 h6)
  | idiv =>
    obtain ⟨x, y, r, hst, h0, g⟩ := xii_el h
    clear h
    subst hst
    have h := g
    clear g
    intro ρ H locs ls h1 h2 h3 h4 h5 h6
    exact lv_idiv G.1 rfl hd h0 (hk _ _ _ _ _ _ _ h ρ H locs ls h1 h2 h3 h4 h5 h6)
  | irem =>
    obtain ⟨x, y, r, hst, h0, g⟩ := xii_el h
    clear h
    subst hst
    have h := g
    clear g
    intro ρ H locs ls h1 h2 h3 h4 h5 h6
    exact lv_irem G.1 rfl hd h0 (hk _ _ _ _ _ _ _ h ρ H locs ls h1 h2 h3 h4 h5 h6)
  | ineg =>
    obtain ⟨x, r, hst, g⟩ := xi1_el h
    clear h
    subst hst
    have h := g
    clear g
    intro ρ H locs ls h1 h2 h3 h4 h5 h6
    exact lv_ineg G.1 rfl hd (hk _ _ _ _ _ _ _ h ρ H locs ls h1 h2 h3 h4 h5 h6)
  | ladd =>
    obtain ⟨x, y, r, hst, g⟩ := xl2_el h
    clear h
    subst hst
    have h := g
    clear g
    intro ρ H locs ls h1 h2 h3 h4 h5 h6
    exact lv_ladd G.1 rfl hd (hk _ _ _ _ _ _ _ h ρ H locs ls h1 h2 h3 h4 h5 h6)
  | lsub =>
    obtain ⟨x, y, r, hst, g⟩ := xl2_el h
    clear h
    subst hst
    have h := g
    clear g
    intro ρ H locs ls h1 h2 h3 h4 h5 h6
    exact lv_lsub G.1 rfl hd (hk _ _ _ _ _ _ _ h ρ H locs ls h1 h2 h3 h4 h5 h6)
  | lmul =>
    obtain ⟨x, y, r, hst, g⟩ := xl2_el h
    clear h
    subst hst
    have h := g
    clear g
    intro ρ H locs ls h1 h2 h3 h4 h5 h6
    exact lv_lmul G.1 rfl hd (hk _ _ _ _ _ _ _ h ρ H locs ls h1 h2 h3 h4 h5 h6)
  | land =>
    obtain ⟨x, y, r, hst, g⟩ := xl2_el h
    clear h
    subst hst
    have h := g
    clear g
    intro ρ H locs ls h1 h2 h3 h4 h5 h6
    exact lv_land G.1 rfl hd (hk _ _ _ _ _ _ _ h ρ H locs ls h1 h2 h3 h4 h5 h6)
  | lor =>
    obtain ⟨x, y, r, hst, g⟩ := xl2_el h
    clear h
    subst hst
    have h := g
    clear g
    intro ρ H locs ls h1 h2 h3 h4 h5 h6
    exact lv_lor G.1 rfl hd (hk _ _ _ _ _ _ _ h ρ H locs ls h1 h2 h3 h4 h5 h6)
  | ldiv =>
    obtain ⟨x, y, r, hst, h0, g⟩ := xl2_el h
    clear h
    subst hst
    have h := g
    clear g
    intro ρ H locs ls h1 h2 h3 h4 h5 h6
    exact lv_ldiv G.1 rfl hd h0 (hk _ _ _ _ _ _ _ h ρ H locs ls h1 h2 h3 h4 h5 h6)
  | lrem =>
    obtain ⟨x, y, r, hst, h0, g⟩ := xl2_el h
    clear h
    subst hst
    have h := g
    clear g
    intro ρ H locs ls h1 h2 h3 h4 h5 h6
    exact lv_lrem G.1 rfl hd h0 (hk _ _ _ _ _ _ _ h ρ H locs ls h1 h2 h3 h4 h5 h6)
  | lneg =>
    obtain ⟨x, r, hst, g⟩ := xl1_el h
    clear h
    subst hst
    have h := g
    clear g
    intro ρ H locs ls h1 h2 h3 h4 h5 h6
    exact lv_lneg G.1 rfl hd (hk _ _ _ _ _ _ _ h ρ H locs ls h1 h2 h3 h4 h5 h6)
  | lcmp =>
    obtain ⟨x, y, r, hst, g⟩ := xl2_el h
    clear h
    subst hst
    have h := g
    clear g
    intro ρ H locs ls h1 h2 h3 h4 h5 h6
    exact W.lcmp G.1 rfl hd (hk _ _ _ _ _ _ _ h ρ H locs ls h1 h2 h3 h4 h5 h6)
  | i2l =>
    obtain ⟨x, r, hst, g⟩ := xi1_el h
    clear h
    subst hst
    have h := g
    clear g
    intro ρ H locs ls h1 h2 h3 h4 h5 h6
    exact lv_i2l G.1 rfl hd rfl (hk _ _ _ _ _ _ _ h ρ H locs ls h1 h2 h3 h4 h5 h6)
  | l2i =>
    obtain ⟨x, r, hst, g⟩ := xl1_el h
    clear h
    subst hst
    have h := g
    clear g
    intro ρ H locs ls h1 h2 h3 h4 h5 h6
    exact lv_l2i G.1 rfl hd rfl (hk _ _ _ _ _ _ _ h ρ H locs ls h1 h2 h3 h4 h5 h6)
  | i2b =>
    obtain ⟨x, r, hst, g⟩ := xi1_el h
    clear h
    subst hst
    have h := g
    clear g
    intro ρ H locs ls h1 h2 h3 h4 h5 h6
    exact lv_i2b G.1 rfl hd rfl (hk _ _ _ _ _ _ _ h ρ H locs ls h1 h2 h3 h4 h5 h6)
  | i2c =>
    obtain ⟨x, r, hst, g⟩ := xi1_el h
    clear h
    subst hst
    have h := g
    clear g
    intro ρ H locs ls h1 h2 h3 h4 h5 h6
    exact lv_i2c G.1 rfl hd rfl (hk _ _ _ _ _ _ _ h ρ H locs ls h1 h2 h3 h4 h5 h6)
  | dup =>
    obtain ⟨v, r, hst, g⟩ := xv1_el h
    clear h
    subst hst
    have h := g
    clear g
    obtain ⟨hc, h⟩ := xb_el h
    intro ρ H locs ls h1 h2 h3 h4 h5 h6
    exact lv_dup G.1 rfl hd (by rw [xv_cat]; exact Nat.eq_of_beq_eq_true hc) (hk _ _ _ _ _ _ _ h ρ H locs ls h1 h2 h3 h4 h5 h6)
  | pop =>
    obtain ⟨v, r, hst, g⟩ := xv1_el h
    clear h
    subst hst
    have h := g
    clear g
    obtain ⟨hc, h⟩ := xb_el h
    intro ρ H locs ls h1 h2 h3 h4 h5 h6
    exact lv_pop G.1 rfl hd (by rw [xv_cat]; exact Nat.eq_of_beq_eq_true hc) (hk _ _ _ _ _ _ _ h ρ H locs ls h1 h2 h3 h4 h5 h6)
  | dup2 =>
    obtain ⟨v, w, r, hst, g⟩ := xv2_el h
    clear h
    subst hst
    have h := g
    clear g
    obtain ⟨hc, h⟩ := xb_el h
    simp only [Bool.and_eq_true] at hc
    intro ρ H locs ls h1 h2 h3 h4 h5 h6
    exact lv_dup2_11 G.1 rfl hd (by rw [xv_cat]; exact Nat.eq_of_beq_eq_true hc.1) (by rw [xv_cat]; exact Nat.eq_of_beq_eq_true hc.2) (hk _ _ _ _ _ _ _ h ρ H locs ls h1 h2 h3 h4 h5 h6)
  | getfield idx =>
    obtain ⟨q, r, hst, g⟩ := xr1_el h
    clear h
    subst hst
    have h := g
    clear g
    split at h
    · rename_i w hz
      exact xs_getc G hX hz hd hk h
    · exact xs_getfield G hX hd hk h
  | getstatic idx => exact xs_gets G hX hd hk h
  | putfield idx =>
    obtain ⟨v, q, r, hst, g⟩ := xvr_el h
    clear h
    subst hst
    have h := g
    clear g
    exact xs_putfield G hX hd hk h
  | arraylength =>
    obtain ⟨q, r, hst, g⟩ := xr1_el h
    clear h
    subst hst
    have h := g
    clear g
    exact xs_alen G hd hk h
  | iaload =>
    obtain ⟨j, q, r, hst, g⟩ := xir_el h
    clear h
    subst hst
    have h := g
    clear g
    exact xs_iald G hd hk h
  | baload =>
    obtain ⟨j, q, r, hst, g⟩ := xir_el h
    clear h
    subst hst
    have h := g
    clear g
    split at h
    · obtain ⟨e', he, h⟩ := xso_el h
      obtain ⟨hb, hin, h⟩ := xb_el h
      intro ρ H locs ls h1 h2 h3 h4 h5 h6
      have y := xs_tab G h1 he
      rw [Nat.eq_of_beq_eq_true hb] at y
      exact va_tb G.1 rfl y h4 hin rfl hd (hk _ _ _ _ _ _ _ h ρ H locs ls h1 h2 h3 h4 h5 h6)
    obtain ⟨n, rs, hq, hin, h⟩ := xga_el h
    intro ρ H locs ls h1 h2 h3 h4 h5 h6
    exact va_bald G.1 rfl G.2.2.2.2.1 h2 q 1 (wl_get hq) rfl hin hd (hk _ _ _ _ _ _ _ h ρ H locs ls h1 h2 h3 h4 h5 h6)
  | laload =>
    obtain ⟨j, q, r, hst, g⟩ := xir_el h
    clear h
    subst hst
    have h := g
    clear g
    obtain ⟨n, rs, hq, hin, h⟩ := xga_el h
    intro ρ H locs ls h1 h2 h3 h4 h5 h6
    exact va_lald G.1 rfl G.2.2.2.2.1 h2 q 2 (wl_get hq) rfl hin hd (hk _ _ _ _ _ _ _ h ρ H locs ls h1 h2 h3 h4 h5 h6)
  | aaload =>
    obtain ⟨j, q, r, hst, g⟩ := xir_el h
    clear h
    subst hst
    have h := g
    clear g
    obtain ⟨n, rs, hq, hin, h⟩ := xga_el h
    intro ρ H locs ls h1 h2 h3 h4 h5 h6
    refine va_aldq G.1 rfl G.2.2.2.2.1 h2 q 3 (wl_get hq) rfl hin hd ?_
    rw [xopt_ref]
    exact (hk _ _ _ _ _ _ _ h ρ H locs ls h1 h2 h3 h4 h5 h6)
  | iastore =>
    obtain ⟨v, j, q, r, hst, g⟩ := xvir_el h
    clear h
    subst hst
    have h := g
    clear g
    obtain ⟨n, rs, hq, h⟩ := xga_el h
    split at h
    · rename_i x _
      obtain ⟨hin, h⟩ := h
      intro ρ H locs ls h1 h2 h3 h4 h5 h6
      refine va_iast G.1 rfl G.2.2.2.2.1 h2 h3 h4 q 0 (wl_get hq) rfl hin hd fun H1 locs1 f1 f2 f3 => ?_
      have hup := wl_row (D := D) (ρ := ρ) (I := I) (J := J) (I' := uI I q j.toNatClampNeg x) (J' := J) (x := (n, .inl (upd (I q) j.toNatClampNeg x))) hq (fun i hi => uI_ne hi) (fun _ _ => rfl) (by simp [xel, uI_eq])
      exact hk _ _ _ _ _ _ _ h ρ H1 locs1 ls h1 (by rw [← hup]; exact f1) (by rw [← hup]; exact f2) f3 h5 h6
    · exact h.elim
  | bastore =>
    obtain ⟨v, j, q, r, hst, g⟩ := xvir_el h
    clear h
    subst hst
    have h := g
    clear g
    obtain ⟨n, rs, hq, h⟩ := xga_el h
    split at h
    · rename_i x _
      obtain ⟨hin, h⟩ := h
      intro ρ H locs ls h1 h2 h3 h4 h5 h6
      refine va_bast G.1 rfl G.2.2.2.2.1 h2 h3 h4 q 1 (wl_get hq) rfl hin hd fun H1 locs1 f1 f2 f3 => ?_
      have hup := wl_row (D := D) (ρ := ρ) (I := I) (J := J) (I' := uI I q j.toNatClampNeg (vp_nar .byte x)) (J' := J) (x := (n, .inl (upd (I q) j.toNatClampNeg (vp_nar .byte x)))) hq (fun i hi => uI_ne hi) (fun _ _ => rfl) (by simp [xel, uI_eq])
      exact hk _ _ _ _ _ _ _ h ρ H1 locs1 ls h1 (by rw [← hup]; exact f1) (by rw [← hup]; exact f2) f3 h5 h6
    · exact h.elim
  | lastore =>
    obtain ⟨v, j, q, r, hst, g⟩ := xvir_el h
    clear h
    subst hst
    have h := g
    clear g
    obtain ⟨n, rs, hq, h⟩ := xga_el h
    split at h
    · rename_i x _
      obtain ⟨hin, h⟩ := h
      intro ρ H locs ls h1 h2 h3 h4 h5 h6
      refine va_last G.1 rfl G.2.2.2.2.1 h2 h3 h4 q 2 (wl_get hq) rfl hin hd fun H1 locs1 f1 f2 f3 => ?_
      have hup := wl_row (D := D) (ρ := ρ) (I := I) (J := J) (I' := I) (J' := uJ J q j.toNatClampNeg x) (x := (n, .inr (.inl (vp_updL (J q) j.toNatClampNeg x)))) hq (fun _ _ => rfl) (fun i hi => uJ_ne hi) (by simp [xel, uJ_eq])
      exact hk _ _ _ _ _ _ _ h ρ H1 locs1 ls h1 (by rw [← hup]; exact f1) (by rw [← hup]; exact f2) f3 h5 h6
    · exact h.elim
  | aastore =>
    obtain ⟨v, j, q, r, hst, g⟩ := xvir_el h
    clear h
    subst hst
    have h := g
    clear g
    obtain ⟨n, rs, hq, h⟩ := xga_el h
    exact xs_aast G hd hk hq h
  | ldc2_w idx =>
    obtain ⟨e, he, h⟩ := xso_el h
    intro ρ H locs ls h1 h2 h3 h4 h5 h6
    exact lv_ldc2 G.1 rfl G.2.1 (G.2.2.1 _ (xconstL hX he)) hd (hk _ _ _ _ _ _ _ h ρ H locs ls h1 h2 h3 h4 h5 h6)
  | ldc idx =>
    replace h : match xk2 xkD X.2.1 idx with
      | some p => k lc (.ref p :: st) sh I J a b
      | none => xso (xlk X.2.2.2.2.2.1 idx) fun e => k lc (.int e.1 :: st) sh I J a b := h
    split at h
    · rename_i w hz
      exact xs_ldcs G hX hz hd hk h
    obtain ⟨e, he, h⟩ := xso_el h
    intro ρ H locs ls h1 h2 h3 h4 h5 h6
    exact lv_ldc G.1 rfl G.2.1 (G.2.2.1 _ (xconstI hX he)) hd (hk _ _ _ _ _ _ _ h ρ H locs ls h1 h2 h3 h4 h5 h6)
  | ldc_w idx =>
    obtain ⟨e, he, h⟩ := xso_el h
    intro ρ H locs ls h1 h2 h3 h4 h5 h6
    exact lv_ldcw G.1 rfl G.2.1 (G.2.2.1 _ (xconstI hX he)) hd (hk _ _ _ _ _ _ _ h ρ H locs ls h1 h2 h3 h4 h5 h6)
  | new idx =>
    obtain ⟨e, he, h⟩ := xso_el h
    obtain ⟨hb, h⟩ := xb_el h
    exact xs_new G hX hd hk (xlk_mem he) hb h
  | newarray t =>
    obtain ⟨n, r, hst, g⟩ := xi1_el h
    clear h
    subst hst
    have h := g
    clear g
    obtain ⟨hb, h⟩ := xb_el h
    simp only [Bool.and_eq_true, Bool.not_eq_true', decide_eq_false_iff_not] at hb
    exact xs_newarray G hd hk (G.2.2.1 _ (xac t (by simpa using hb.1.1))) (by simpa using hb.1.1) hb.1.2 hb.2 h
  | anewarray idx =>
    obtain ⟨n, r, hst, g⟩ := xi1_el h
    clear h
    subst hst
    obtain ⟨e, he, h⟩ := xso_el g
    obtain ⟨hb, h⟩ := xb_el h
    simp only [Bool.and_eq_true, Bool.not_eq_true', decide_eq_false_iff_not] at hb
    have h8 := Nat.eq_of_beq_eq_true hb.1.1
    exact xs_anewarray G hX hd hk (js := e.2) (by rw [← h8]; exact xlk_mem he) hb.1.2 hb.2 h
  | invokespecial idx =>
    obtain ⟨e, he, h⟩ := xso_el h
    obtain ⟨hb, h⟩ := xb_el h
    obtain ⟨q, r, hst, g⟩ := xr1_el h
    clear h
    subst hst
    obtain ⟨hr, h⟩ := xb_el g
    exact xs_objinit G (by have z := (xcall hX he).1; rw [xcw11 (Nat.eq_of_beq_eq_true hb)] at z; exact z) hd hk (by simpa using hr) h
  | invokestatic idx =>
    obtain ⟨e, he, h⟩ := xso_el h
    · have z := (xcall hX he).1
      have hRl := G.2.2.2.2.2.2.2.1
      split at h
      · rename_i e5
        rw [xcw5 e5] at z
        obtain ⟨x, y, r, hst, g⟩ := xii_el h
        clear h
        subst hst
        have h := g
        clear g
        obtain ⟨hr, h⟩ := xb_el h
        simp only [Bool.and_eq_true, Nat.ble_eq] at hr
        obtain ⟨⟨hr8, ha8⟩, hb8⟩ := hr
        intro ρ H locs ls h1 h2 h3 h4 h5 h6
        exact va_mmin (rest := r.map (xv ρ)) G.1 rfl h6.symm G.2.1 (G.2.2.1 _ (z _ (by simp))) (G.2.2.1 _ (z _ (by simp))) (G.2.2.1 _ (z _ (by simp))) (G.2.2.1 _ (z _ (by simp))) (by omega) (by rw [xcs_v]; omega) (by omega) (by omega) hd (hk _ _ _ _ _ _ _ h ρ H locs ls h1 h2 h3 h4 h5 h6)
      · rename_i e5
        rw [xcw6 e5] at z
        obtain ⟨x, y, r, hst, g⟩ := xii_el h
        clear h
        subst hst
        have h := g
        clear g
        obtain ⟨hr, h⟩ := xb_el h
        simp only [Bool.and_eq_true, Nat.ble_eq] at hr
        obtain ⟨⟨hr8, ha8⟩, hb8⟩ := hr
        intro ρ H locs ls h1 h2 h3 h4 h5 h6
        exact va_mmax (rest := r.map (xv ρ)) G.1 rfl h6.symm G.2.1 (G.2.2.1 _ (z _ (by simp))) (G.2.2.1 _ (z _ (by simp))) (G.2.2.1 _ (z _ (by simp))) (G.2.2.1 _ (z _ (by simp))) (by omega) (by rw [xcs_v]; omega) (by omega) (by omega) hd (hk _ _ _ _ _ _ _ h ρ H locs ls h1 h2 h3 h4 h5 h6)
      · rename_i e5
        rw [xcw7 e5] at z
        obtain ⟨x, r, hst, g⟩ := xi1_el h
        clear h
        subst hst
        have h := g
        clear g
        obtain ⟨hr, h⟩ := xb_el h
        simp only [Bool.and_eq_true, Nat.ble_eq] at hr
        obtain ⟨⟨hr8, ha8⟩, hb8⟩ := hr
        intro ρ H locs ls h1 h2 h3 h4 h5 h6
        exact va_mabs (rest := r.map (xv ρ)) G.1 rfl h6.symm G.2.1 (G.2.2.1 _ (z _ (by simp))) (G.2.2.1 _ (z _ (by simp))) (G.2.2.1 _ (z _ (by simp))) (G.2.2.1 _ (z _ (by simp))) (by omega) (by rw [xcs_v]; omega) (by omega) (by omega) hd (hk _ _ _ _ _ _ _ h ρ H locs ls h1 h2 h3 h4 h5 h6)
      · rename_i e5
        rw [xcw8 e5] at z
        obtain ⟨x, y, r, hst, g⟩ := xl2_el h
        clear h
        subst hst
        have h := g
        clear g
        obtain ⟨hr, h⟩ := xb_el h
        simp only [Bool.and_eq_true, Nat.ble_eq] at hr
        obtain ⟨⟨hr8, ha8⟩, hb8⟩ := hr
        intro ρ H locs ls h1 h2 h3 h4 h5 h6
        exact va_mmin_long (rest := r.map (xv ρ)) G.1 rfl h6.symm G.2.1 (G.2.2.1 _ (z _ (by simp))) (G.2.2.1 _ (z _ (by simp))) (G.2.2.1 _ (z _ (by simp))) (G.2.2.1 _ (z _ (by simp))) (by omega) (by rw [xcs_v]; omega) (by omega) (by omega) hd (hk _ _ _ _ _ _ _ h ρ H locs ls h1 h2 h3 h4 h5 h6)
      · rename_i e5
        rw [xcw9 e5] at z
        obtain ⟨x, y, r, hst, g⟩ := xl2_el h
        clear h
        subst hst
        have h := g
        clear g
        obtain ⟨hr, h⟩ := xb_el h
        simp only [Bool.and_eq_true, Nat.ble_eq] at hr
        obtain ⟨⟨hr8, ha8⟩, hb8⟩ := hr
        intro ρ H locs ls h1 h2 h3 h4 h5 h6
        exact va_mmax_long (rest := r.map (xv ρ)) G.1 rfl h6.symm G.2.1 (G.2.2.1 _ (z _ (by simp))) (G.2.2.1 _ (z _ (by simp))) (G.2.2.1 _ (z _ (by simp))) (G.2.2.1 _ (z _ (by simp))) (by omega) (by rw [xcs_v]; omega) (by omega) (by omega) hd (hk _ _ _ _ _ _ _ h ρ H locs ls h1 h2 h3 h4 h5 h6)
      · rename_i e5
        rw [xcw10 e5] at z
        obtain ⟨n, r1, hst, g⟩ := xi1_el h
        clear h
        subst hst
        have h := g
        clear g
        obtain ⟨dp, p1, r2, hst, g⟩ := xir_el h
        clear h
        subst hst
        have h := g
        clear g
        obtain ⟨sp, p0, r, hst, g⟩ := xir_el h
        clear h
        subst hst
        have h := g
        clear g
        obtain ⟨hr, h⟩ := xb_el h
        obtain ⟨m0, r0, g0, h⟩ := xga_el h
        obtain ⟨m1, r1, g1, hs, h⟩ := xga_el h
        exact xs_copy G z hd hk (by simpa using hr) g0 g1 hs h
      · exact h.elim
  | _ =>
    exact h.elim
end XSOK3
