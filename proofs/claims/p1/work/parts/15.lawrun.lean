-- ===== the law's frame =====
theorem xnest_ok {s : State} {args : Array Value} (hts : ∀ w ∈ lw_tbl, w.before args s = true) : ∀ w ∈ xnestL, va_Nw w s := fun w hw => va_Nw.of (xnest_tab w hw) (hts w (xnest_in w hw))
theorem xao_in : Cond.arrayOver (.object RX8) ∈ lw_tbl := xlook_mem (j := 1052) rfl
theorem xarr_ok {s : State} {args : Array Value} {ty : FieldType} (h : (Cond.arrayClass ty).before args s = true) (hp : ∀ C, ty ≠ .object C) : ∃ cA : ClassId, ArrOfT s cA ty ∧ va_RA s cA ty := by
  obtain ⟨cA, kA, comp, h1, h2, h3⟩ := Cond.arrayClass_spec h
  refine ⟨cA, fun n z => ⟨fun k h => (by cases h), kA, h2, comp, h3⟩, ?_⟩
  cases ty with
  | object C => exact absurd rfl (hp C)
  | _ => exact h1
theorem xarr_text {s : State} {args : Array Value} (h : (Cond.arrayOver (.object RX8)).before args s = true) : ∃ cA : ClassId, ArrOfT s cA (.object RX8) ∧ va_RA s cA (.object RX8) := by
  obtain ⟨comp, cA, kA, h1, -, h2, h3, h4⟩ := Cond.arrayOver_spec h
  exact ⟨cA, fun n z => ⟨fun k h => (by cases h), kA, h2, comp, h3⟩, kA, comp, h2, h3, h1, h4⟩
theorem xknown {s : State} {args : Array Value} (hts : ∀ w ∈ lw_tbl, w.before args s = true) {ci : Nat} {q : vw_C} (h : xn vwCl ci = some q) (hi : Cond.instantiable q.1 q.2.2 ∈ lw_tbl) : ∃ (cC : ClassId) (iS : Nat → Nat), u_Kn s q.1 q.2.1 q.2.2 cC iS := u_known (ws := lw_tbl) hts (fun w hw => xgt_in ((xcl h).2.1 w hw)) (hts _ hi)
theorem xworld {s : State} {args : Array Value} (hts : ∀ w ∈ lw_tbl, w.before args s = true) : ∃ D : XD, va_K D.1 vwCl (xtys D) s := by
  obtain ⟨c0, i0, k0⟩ := xknown hts (ci := 0) (q := (RX0, TX0, 8)) rfl (xlook_mem (j := 2090) rfl)
  obtain ⟨c1, i1, k1⟩ := xknown hts (ci := 1) (q := (RX1, TX1, 10)) rfl (xlook_mem (j := 1054) rfl)
  obtain ⟨c2, i2, k2⟩ := xknown hts (ci := 2) (q := (RX2, TX2, 4)) rfl (xlook_mem (j := 1183) rfl)
  obtain ⟨c3, i3, k3⟩ := xknown hts (ci := 3) (q := (RX3, TX3, 9)) rfl (xlook_mem (j := 2055) rfl)
  obtain ⟨c4, i4, k4⟩ := xknown hts (ci := 4) (q := (RX4, TX4, 8)) rfl (xlook_mem (j := 2123) rfl)
  obtain ⟨c5, i5, k5⟩ := xknown hts (ci := 5) (q := (RX5, TX5, 9)) rfl (xlook_mem (j := 2018) rfl)
  obtain ⟨c6, i6, k6⟩ := xknown hts (ci := 6) (q := (RX6, TX6, 3)) rfl (xlook_mem (j := 1031) rfl)
  obtain ⟨c7, i7, k7⟩ := xknown hts (ci := 7) (q := (RX7, TX7, 6)) rfl (xlook_mem (j := 1227) rfl)
  obtain ⟨c8, i8, k8⟩ := xknown hts (ci := 8) (q := (RX8, TX8, 6)) rfl (xlook_mem (j := 1153) rfl)
  obtain ⟨c9, i9, k9⟩ := xknown hts (ci := 9) (q := (RX9, TX9, 8)) rfl (xlook_mem (j := 1102) rfl)
  obtain ⟨c10, i10, k10⟩ := xknown hts (ci := 10) (q := (RX10, TX10, 3)) rfl (xlook_mem (j := 1205) rfl)
  obtain ⟨c11, i11, k11⟩ := xknown hts (ci := 11) (q := (RX11, TX11, 18)) rfl (xlook_mem (j := 1023) rfl)
  obtain ⟨c12, i12, k12⟩ := xknown hts (ci := 12) (q := (RX12, TX12, 48)) rfl (xlook_mem (j := 5227) rfl)
  obtain ⟨a0, p0, r0⟩ := xarr_ok (ty := .int) (hts _ (xgt_in xac_int)) (fun C h => by cases h)
  obtain ⟨a1, p1, r1⟩ := xarr_ok (ty := .byte) (hts _ (xgt_in xac_byte)) (fun C h => by cases h)
  obtain ⟨a2, p2, r2⟩ := xarr_ok (ty := .long) (hts _ (xgt_in xac_long)) (fun C h => by cases h)
  obtain ⟨a3, p3, r3⟩ := xarr_text (hts _ xao_in)
  refine ⟨((fun k => match k with | 0 => c0 | 1 => c1 | 2 => c2 | 3 => c3 | 4 => c4 | 5 => c5 | 6 => c6 | 7 => c7 | 8 => c8 | 9 => c9 | 10 => c10 | 11 => c11 | _ => c12, fun k => match k with | 0 => i0 | 1 => i1 | 2 => i2 | 3 => i3 | 4 => i4 | 5 => i5 | 6 => i6 | 7 => i7 | 8 => i8 | 9 => i9 | 10 => i10 | 11 => i11 | _ => i12), fun k => match k with | 0 => a0 | 1 => a1 | 2 => a2 | _ => a3), fun k q hq => ?_, fun k q hq => ?_⟩
  · match k, hq with
    | 0, hq => cases hq; exact k0
    | 1, hq => cases hq; exact k1
    | 2, hq => cases hq; exact k2
    | 3, hq => cases hq; exact k3
    | 4, hq => cases hq; exact k4
    | 5, hq => cases hq; exact k5
    | 6, hq => cases hq; exact k6
    | 7, hq => cases hq; exact k7
    | 8, hq => cases hq; exact k8
    | 9, hq => cases hq; exact k9
    | 10, hq => cases hq; exact k10
    | 11, hq => cases hq; exact k11
    | 12, hq => cases hq; exact k12
    | k + 13, hq => simp [vwCl] at hq
  · match k, hq with
    | 0, hq => cases hq; exact ⟨p0, r0⟩
    | 1, hq => cases hq; exact ⟨p1, r1⟩
    | 2, hq => cases hq; exact ⟨p2, r2⟩
    | 3, hq => cases hq; exact ⟨p3, r3⟩
    | k + 4, hq => simp [xtys] at hq
set_option maxRecDepth 100000 in
theorem kL_law : ∀ q ∈ tL_law, decode code q.1 = .ok (q.2.1, q.2.2) := by
  have h : ∀ (n : Nat), n < 11 → xtOK cL_law ((tL_law.drop (100 * n)).take 100) = true := by
    intro n hn
    match n, hn with
    | 0, _ => exact kL_law_0
    | 1, _ => exact kL_law_1
    | 2, _ => exact kL_law_2
    | 3, _ => exact kL_law_3
    | 4, _ => exact kL_law_4
    | 5, _ => exact kL_law_5
    | 6, _ => exact kL_law_6
    | 7, _ => exact kL_law_7
    | 8, _ => exact kL_law_8
    | 9, _ => exact kL_law_9
    | 10, _ => exact kL_law_10
  intro q hq
  obtain ⟨i, hi, rfl⟩ := List.getElem_of_mem hq
  have hlen : tL_law.length = 1003 := by decide +kernel
  have h1 := h (i / 100) (by omega)
  have hm : tL_law[i] ∈ (tL_law.drop (100 * (i / 100))).take 100 := by
    refine List.mem_of_getElem? (i := i % 100) ?_
    rw [List.getElem?_take_of_lt (by omega), List.getElem?_drop, show 100 * (i / 100) + i % 100 = i by omega]
    exact List.getElem?_eq_getElem hi
  exact of_decide_eq_true (List.all_eq_true.mp h1 _ hm)
set_option maxRecDepth 100000 in
theorem law_of_run {p : Program} {e : Env} {s : State} {m : MethodId} {below : List Frame} {meth : Method} {c : Code} (l : Launch) {b L : Nat} {xs : Nat → Int32} (C0 : lw_At p s m meth c b L xs) {stop : List Nat} {n : Nat} {I : XI} {J : XJ} (h : xrun xxL (some .boolean) false true 0 600000 7302249 (some (L, xs)) l 1399 tL_law stop (fun v _ _ _ => v = some (.int 1)) n 0 [some (.ref 900000), none, none, none] [] [] I J 0 0) : W p l e room_1 s m #[Value.ref b] below meth c s.heap [] 0 0 (lw_Z below #[Value.ref b] s) (entryFrame m ([Value.ref b] : List Value).toArray 4) := by
  obtain ⟨hx, hb, hr, hml, hown, hts, hX, hbl, hlocks, hgv⟩ := id C0
  obtain ⟨D, hK⟩ := xworld hts
  have G : XG p room_1 s m #[Value.ref b] meth D (fun q => s.heap.size ≤ q) (fun _ => b) (some (L, xs)) 1399 600000 7302249 false xxL.1 := ⟨hx, hown, fun w hw => hts w (xgt_in hw), fun q h => h, hK, ⟨hX, hbl, fun z => absurd hbl (Nat.not_lt.mpr z)⟩, ⟨xnest_ok hts, va_AO.of (hts _ xao_in)⟩, ⟨Nat.le_of_ble_eq_true rfl, Nat.le_of_ble_eq_true rfl, rfl, rfl⟩, fun z => by cases z⟩
  have hEnd : XEnd p l e room_1 s m #[Value.ref b] below meth c D (fun q => s.heap.size ≤ q) true 0 (fun _ => b) (lw_Z below #[Value.ref b] s) (some .boolean) 600000 7302249 (fun v _ _ _ => v = some (.int 1)) := by
    intro v sh' I' J' a' b' pc i ρ' H locs ls hR ha hb' hd hv h1 h2 h3 h4
    subst hR
    rcases hv with ⟨q, -⟩ | ⟨x, q, rfl, -⟩ | ⟨x, q, -⟩ | ⟨x, q, -⟩
    · cases q
    · cases q
      refine W.widen ha hb' (va_forget (fun q hq => h4.2.2 q hq) ?_)
      exact lw_ret hx hb hr hlocks (by rw [← hb]; exact hd)
    · cases q
    · cases q
  have hl := lv_entry ([.ref b]) (n := 4) (Nat.le_of_ble_eq_true rfl)
  rw [lg_entry_eq]
  generalize (lg_sl ([.ref b]) ++ List.replicate (4 - (lg_sl ([.ref b])).length) Slot.unset).toArray = ls at hl ⊢
  have hxl : xl (fun _ => b) [some (.ref 900000), none, none, none] ls := by
    refine ⟨hl.1, hl.2.1, fun i v hv => ?_⟩
    match i, hv with
    | 0, hv =>
      simp only [List.getElem?_cons_zero, Option.some.injEq] at hv
      subst hv
      exact hl.2.2 (0, .ref b) List.mem_cons_self
    | 1, hv => simp at hv
    | 2, hv => simp at hv
    | 3, hv => simp at hv
    | i + 4, hv => simp at hv
  have hP : va_P D.1 vwCl (wl D (fun _ => b) [] I J) s.heap := fun k q h => by simp [wl] at h
  have hD : va_D (fun q : Nat => s.heap.size ≤ q) (wl D (fun _ => b) [] I J) := ⟨fun i j p q h => by simp [wl] at h, fun k q h => by simp [wl] at h⟩
  exact xrun_ok G xxl (fun q hq => by rw [hb]; exact kL_law q hq) hEnd n 0 _ _ _ _ _ _ _ h (fun _ => b) s.heap [] ls xrel.rf hP hD va_S.rf hxl (hl.1.trans hml.symm)
