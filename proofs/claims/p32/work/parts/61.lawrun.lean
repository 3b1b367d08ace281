-- ===== the law's frame =====
theorem xnest_ok {s : State} {args : Array Value} (hts : ∀ w ∈ lw_tbl, w.before args s = true) : ∀ w ∈ xnestL, va_Nw w s := fun w hw => va_Nw.of (xnest_tab w hw) (hts w (xnest_in w hw))
theorem xao_in : Cond.arrayOver (.object RX8) ∈ lw_tbl := xlook_mem (j := 1052) rfl
theorem xarr_ok {s : State} {args : Array Value} {ty : FieldType} (h : (Cond.arrayClass ty).before args s = true) (hp : ∀ C, ty ≠ .object C) : ∃ cA : ClassId, ArrOfT s cA ty ∧ va_RA s cA ty := by
  obtain ⟨cA, kA, comp, h1, h2, h3⟩ := Cond.arrayClass_spec h
  refine ⟨cA, fun n z => ⟨fun k h => (by cases h), kA, h2, comp, h3⟩, ?_⟩
  cases ty with
  | object C => exact absurd rfl (hp C)
  | _ => exact h1
theorem xarr_text {s : State} {args : Array Value} (h : (Cond.arrayOver (.object RX8)).before args s = true) : ∃ cA : ClassId, ArrOfT s cA (.object RX8) ∧ va_RA s cA (.object RX8) := by
  obtain ⟨comp, cA, kA, h1, -, h2, h3, h4⟩ := Cond.arrayOver_spec h
  exact ⟨cA, fun n z => ⟨fun k h => (by cases h), kA, h2, comp, h3⟩, kA, comp, h2, h3, h1, h4⟩
theorem xknown {s : State} {args : Array Value} (hts : ∀ w ∈ lw_tbl, w.before args s = true) {ci : Nat} {q : vw_C} (h : xn vwCl ci = some q) (hi : Cond.instantiable q.1 q.2.2 ∈ lw_tbl) : ∃ (cC : ClassId) (iS : Nat → Nat), u_Kn s q.1 q.2.1 q.2.2 cC iS := u_known (ws := lw_tbl) hts (fun w hw => xgt_in ((xcl h).2.1 w hw)) (hts _ hi)
theorem xworld {s : State} {args : Array Value} (hts : ∀ w ∈ lw_tbl, w.before args s = true) : ∃ D : XD, va_K D.1 vwCl (xtys D) s := by
  obtain ⟨c0, i0, k0⟩ := xknown hts (ci := 0) (q := (RX0, TX0, 8)) rfl (xlook_mem (j := 2090) rfl)
  obtain ⟨c1, i1, k1⟩ := xknown hts (ci := 1) (q := (RX1, TX1, 10)) rfl (xlook_mem (j := 1054) rfl)
  obtain ⟨c2, i2, k2⟩ := xknown hts (ci := 2) (q := (RX2, TX2, 4)) rfl (xlook_mem (j := 1183) rfl)
  obtain ⟨c3, i3, k3⟩ := xknown hts (ci := 3) (q := (RX3, TX3, 9)) rfl (xlook_mem (j := 2055) rfl)
  obtain ⟨c4, i4, k4⟩ := xknown hts (ci := 4) (q := (RX4, TX4, 8)) rfl (xlook_mem (j := 2123) rfl)
  obtain ⟨c5, i5, k5⟩ := xknown hts (ci := 5) (q := (RX5, TX5, 9)) rfl (xlook_mem (j := 2018) rfl)
  obtain ⟨c6, i6, k6⟩ := xknown hts (ci := 6) (q := (RX6, TX6, 3)) rfl (xlook_mem (j := 1031) rfl)
  obtain ⟨c7, i7, k7⟩ := xknown hts (ci := 7) (q := (RX7, TX7, 6)) rfl (xlook_mem (j := 1227) rfl)
  obtain ⟨c8, i8, k8⟩ := xknown hts (ci := 8) (q := (RX8, TX8, 6)) rfl (xlook_mem (j := 1153) rfl)
  obtain ⟨c9, i9, k9⟩ := xknown hts (ci := 9) (q := (RX9, TX9, 8)) rfl (xlook_mem (j := 1102) rfl)
  obtain ⟨c10, i10, k10⟩ := xknown hts (ci := 10) (q := (RX10, TX10, 3)) rfl (xlook_mem (j := 1205) rfl)
  obtain ⟨c11, i11, k11⟩ := xknown hts (ci := 11) (q := (RX11, TX11, 18)) rfl (xlook_mem (j := 1023) rfl)
  obtain ⟨c12, i12, k12⟩ := xknown hts (ci := 12) (q := (RX12, TX12, 48)) rfl (xlook_mem (j := 5227) rfl)
  obtain ⟨a0, p0, r0⟩ := xarr_ok (ty := .int) (hts _ (xgt_in xac_int)) (fun C h => by cases h)
  obtain ⟨a1, p1, r1⟩ := xarr_ok (ty := .byte) (hts _ (xgt_in xac_byte)) (fun C h => by cases h)
  obtain ⟨a2, p2, r2⟩ := xarr_ok (ty := .long) (hts _ (xgt_in xac_long)) (fun C h => by cases h)
  obtain ⟨a3, p3, r3⟩ := xarr_text (hts _ xao_in)
  refine ⟨((fun k => match k with | 0 => c0 | 1 => c1 | 2 => c2 | 3 => c3 | 4 => c4 | 5 => c5 | 6 => c6 | 7 => c7 | 8 => c8 | 9 => c9 | 10 => c10 | 11 => c11 | _ => c12, fun k => match k with | 0 => i0 | 1 => i1 | 2 => i2 | 3 => i3 | 4 => i4 | 5 => i5 | 6 => i6 | 7 => i7 | 8 => i8 | 9 => i9 | 10 => i10 | 11 => i11 | _ => i12), fun k => match k with | 0 => a0 | 1 => a1 | 2 => a2 | _ => a3), fun k q hq => ?_, fun k q hq => ?_⟩
  · match k, hq with
    | 0, hq => cases hq; exact k0
    | 1, hq => cases hq; exact k1
    | 2, hq => cases hq; exact k2
    | 3, hq => cases hq; exact k3
    | 4, hq => cases hq; exact k4
    | 5, hq => cases hq; exact k5
    | 6, hq => cases hq; exact k6
    | 7, hq => cases hq; exact k7
    | 8, hq => cases hq; exact k8
    | 9, hq => cases hq; exact k9
    | 10, hq => cases hq; exact k10
    | 11, hq => cases hq; exact k11
    | 12, hq => cases hq; exact k12
    | k + 13, hq => simp [vwCl] at hq
  · match k, hq with
    | 0, hq => cases hq; exact ⟨p0, r0⟩
    | 1, hq => cases hq; exact ⟨p1, r1⟩
    | 2, hq => cases hq; exact ⟨p2, r2⟩
    | 3, hq => cases hq; exact ⟨p3, r3⟩
    | k + 4, hq => simp [xtys] at hq
set_option maxRecDepth 100000 in
theorem kL_law : ∀ q ∈ tL_law, decode code q.1 = .ok (q.2.1, q.2.2) := by
  have h : ∀ (n : Nat), n < 11 → xtOK cL_law ((tL_law.drop (100 * n)).take 100) = true := by
    intro n hn
    match n, hn with
    | 0, _ => exact kL_law_0
    | 1, _ => exact kL_law_1
    | 2, _ => exact kL_law_2
    | 3, _ => exact kL_law_3
    | 4, _ => exact kL_law_4
    | 5, _ => exact kL_law_5
    | 6, _ => exact kL_law_6
    | 7, _ => exact kL_law_7
    | 8, _ => exact kL_law_8
    | 9, _ => exact kL_law_9
    | 10, _ => exact kL_law_10
  intro q hq
  obtain ⟨i, hi, rfl⟩ := List.getElem_of_mem hq
  have hlen : tL_law.length = 1003 := by decide +kernel
  have h1 := h (i / 100) (by omega)
  have hm : tL_law[i] ∈ (tL_law.drop (100 * (i / 100))).take 100 := by
    refine List.mem_of_getElem? (i := i % 100) ?_
    rw [List.getElem?_take_of_lt (by omega), List.getElem?_drop, show 100 * (i / 100) + i % 100 = i by omega]
    exact List.getElem?_eq_getElem hi
  exact of_decide_eq_true (List.all_eq_true.mp h1 _ hm)
-- ===== what nobody writes, at the law's entry =====
def xr0 (b k0 k1 v0 v1 f n s : Nat) : Nat → Nat := fun k => match xlk [(900000, b), (900001, k0), (900002, k1), (900003, v0), (900004, v1), (900005, f), (900006, n), (900007, s)] k with
  | some a => a
  | none => b
def kLen : List Nat := [192, 11]
def kByt : List (List Int32) := [((xlk xkA 900003).getD (0, 0, [])).2.2, ((xlk xkA 900004).getD (0, 0, [])).2.2]
def kFor : List Int32 := ((xlk xkA 900005).getD (0, 0, [])).2.2
def kNam : List Int32 := ((xlk xkA 900006).getD (0, 0, [])).2.2
def kTm (i : Nat) : Term := match i with
  | 0 => .string RX7 78
  | _ => .string RX7 59
theorem kb0 : ((flatC (Jvm.Cond.and given_1 narrow_1)).drop 105).take 192 = (List.range 192).map (fun j => Cond.eq (.elem (.field (.string RX7 78) "java/lang/String" "value" "[B") (.int (Int32.ofNat j))) (.int ((kByt.getD 0 []).getD j 0))) := by decide +kernel
theorem kb1 : ((flatC (Jvm.Cond.and given_1 narrow_1)).drop 301).take 11 = (List.range 11).map (fun j => Cond.eq (.elem (.field (.string RX7 59) "java/lang/String" "value" "[B") (.int (Int32.ofNat j))) (.int ((kByt.getD 1 []).getD j 0))) := by decide +kernel
theorem kf0 : ((flatC (Jvm.Cond.and given_1 narrow_1)).drop 20).take 81 = (List.range 81).map (fun j => Cond.eq (.elem (.static RX5 "FORMS" "[I") (.int (Int32.ofNat j))) (.int (kFor.getD j 0))) := by decide +kernel
theorem kn0 : ((flatC (Jvm.Cond.and given_1 narrow_1)).drop 12).take 5 = (List.range 5).map (fun j => Cond.eq (.elem (.static RX5 "NAMES_OF" "[I") (.int (Int32.ofNat j))) (.int (kNam.getD j 0))) := by decide +kernel
theorem kal {α : Type} {xs : List α} {n off : Nat} {f : Nat → α} (h : (xs.drop off).take n = (List.range n).map f) {j : Nat} (hj : j < n) : f j ∈ xs := by
  have y : f j ∈ (List.range n).map f := List.mem_map.mpr ⟨j, List.mem_range.mpr hj, rfl⟩
  rw [← h] at y
  exact List.mem_of_mem_drop (List.mem_of_mem_take y)
theorem kc_of {args : Array Value} {s : State} {A : Nat → Prop} (b : Nat) (hts : ∀ w ∈ lw_tbl, w.before args s = true) (hgv : (Jvm.Cond.and given_1 narrow_1).before args s = true) (hA : ∀ a : Nat, a < s.heap.size → ¬ A a) : ∃ ρ : Nat → Nat, ρ 900000 = b ∧ xKC ρ A s s.heap := by
  have hs := flat_of_before _ hgv
  obtain ⟨adK, adV, hS, hev⟩ := vk_Sof (args := args) (s := s) (N := 2) (tm := kTm) (len := kLen) (byt := kByt) (A := A) (fun i hi => by
      match i, hi with
      | 0, _ => exact Nat.lt_of_lt_of_le (show 192 < 256 by omega) (by decide)
      | 1, _ => exact Nat.lt_of_lt_of_le (show 11 < 256 by omega) (by decide))
    (fun i hi => by
      match i, hi with
      | 0, _ => exact hs _ (by decide +kernel)
      | 1, _ => exact hs _ (by decide +kernel))
    (fun i hi => by
      match i, hi with
      | 0, _ => exact hs _ (by decide +kernel)
      | 1, _ => exact hs _ (by decide +kernel))
    (fun i hi => by
      match i, hi with
      | 0, _ => exact hs _ (by decide +kernel)
      | 1, _ => exact hs _ (by decide +kernel))
    (fun i hi => by
      match i, hi with
      | 0, _ => exact hs _ (by decide +kernel)
      | 1, _ => exact hs _ (by decide +kernel))
    (fun i hi j hj => by
      match i, hi, hj with
      | 0, _, hj => exact hs _ (kal kb0 hj)
      | 1, _, hj => exact hs _ (kal kb1 hj))
    (fun i j hi hj hij => by
      match i, j, hi, hj, hij with
      | 0, 0, _, _, h => exact absurd rfl h
      | 0, 1, _, _, _ => exact Or.inl (hs _ (by decide +kernel))
      | 1, 0, _, _, _ => exact Or.inr (hs _ (by decide +kernel))
      | 1, 1, _, _, h => exact absurd rfl h)
    hA
  obtain ⟨tf, hf1, hf2⟩ := va_Tof (args := args) (s := s) (tm := .static RX5 "FORMS" "[I") (ty := .int) (N := 81) (f := fun j => .int (kFor.getD j 0)) (A := A) (by omega) (hs _ (by decide +kernel)) (va_eqt (hs _ (by decide +kernel))) (fun j hj => va_eqt (hs _ (kal kf0 hj))) hA
  obtain ⟨tn, hn1, hn2⟩ := va_Tof (args := args) (s := s) (tm := .static RX5 "NAMES_OF" "[I") (ty := .int) (N := 5) (f := fun j => .int (kNam.getD j 0)) (A := A) (by omega) (hs _ (by decide +kernel)) (va_eqt (hs _ (by decide +kernel))) (fun j hj => va_eqt (hs _ (kal kn0 hj))) hA
  have iR : (Cond.initialized RX5).before args s = true := hts _ (xlook_mem (j := 1009) rfl)
  have zf : va_Z RX5 "FORMS" "[I" (.ref tf) A s s.heap := va_Zref (hts _ (xlook_mem (j := 4164) rfl)) iR hf1 hA
  have zn : va_Z RX5 "NAMES_OF" "[I" (.ref tn) A s s.heap := va_Zref (hts _ (xlook_mem (j := 4158) rfl)) iR hn1 hA
  have zc : va_Z RJ0 "COMPACT_STRINGS" "Z" (.int 1) A s s.heap := va_Zof (hts _ (xlook_mem (j := 4044) rfl)) (hts _ (xlook_mem (j := 1016) rfl)) (va_eqi (hs _ (by decide +kernel))) hA
  have zq : va_Zq RJ3 "SIOOBE_FORMATTER" "Ljava/util/function/BiFunction;" A s s.heap := va_Zqof (hts _ (xlook_mem (j := 4060) rfl)) (hts _ (xlook_mem (j := 1018) rfl)) (hs _ (by decide +kernel)) hA
  have r0 : vk_R RX7 78 ((xlk xkS 900001).getD (0, 0, "")).2.2 (adK 0) s := vk_R.of (hts _ (xlook_mem (j := 4034) rfl)) (hev 0 (by omega))
  have r1 : vk_R RX7 59 ((xlk xkS 900002).getD (0, 0, "")).2.2 (adK 1) s := vk_R.of (hts _ (xlook_mem (j := 4083) rfl)) (hev 1 (by omega))
  obtain ⟨ts, hz⟩ : ∃ ts, va_Z RJ3 "SIOOBE_FORMATTER" "Ljava/util/function/BiFunction;" .null A s s.heap ∨ va_Z RJ3 "SIOOBE_FORMATTER" "Ljava/util/function/BiFunction;" (.ref ts) A s s.heap := by
    rcases zq with z | ⟨t, z⟩
    · exact ⟨0, Or.inl z⟩
    · exact ⟨t, Or.inr z⟩
  have s0 := hS.1 0 (by omega)
  have s1 := hS.1 1 (by omega)
  refine ⟨xr0 b (adK 0) (adK 1) (adV 0) (adV 1) tf tn ts, rfl, zf, zn, zc, hz, fun q hq => ?_, fun q hq => ?_⟩
  · simp only [xkA, List.mem_cons, List.not_mem_nil, or_false] at hq
    rcases hq with h | h | h | h
    · subst h
      exact s0.2.2.2
    · subst h
      exact s1.2.2.2
    · subst h
      exact hf2
    · subst h
      exact hn2
  · simp only [xkS, List.mem_cons, List.not_mem_nil, or_false] at hq
    rcases hq with h | h
    · subst h
      exact ⟨s0.1, s0.2.1, s0.2.2.1, r0⟩
    · subst h
      exact ⟨s1.1, s1.2.1, s1.2.2.1, r1⟩
set_option maxRecDepth 100000 in
theorem law_of_run {p : Program} {e : Env} {s : State} {m : MethodId} {below : List Frame} {meth : Method} {c : Code} (l : Launch) {b L : Nat} {xs : Nat → Int32} (C0 : lw_At p s m meth c b L xs) {stop : List Nat} {n : Nat} {I : XI} {J : XJ} (h : xrun xxL (some .boolean) false true 0 600000 7302249 (some (L, xs)) l 1399 tL_law stop (fun v _ _ _ => v = some (.int 1)) n 0 [some (.ref 900000), none, none, none] [] [] I J 0 0) : W p l e room_1 s m #[Value.ref b] below meth c s.heap [] 0 0 (lw_Z below #[Value.ref b] s) (entryFrame m ([Value.ref b] : List Value).toArray 4) := by
  obtain ⟨hx, hb, hr, hml, hown, hts, hX, hbl, hlocks, hgv⟩ := id C0
  obtain ⟨D, hK⟩ := xworld hts
  obtain ⟨ρ0, hρ0, hC⟩ := kc_of (A := fun q => s.heap.size ≤ q) b hts hgv (fun a ha => Nat.not_le.mpr ha)
  have G : XG p room_1 s m #[Value.ref b] meth D (fun q => s.heap.size ≤ q) ρ0 (some (L, xs)) 1399 600000 7302249 false xxL.1 := ⟨hx, hown, fun w hw => hts w (xgt_in hw), fun q h => h, hK, ⟨by rw [hρ0]; exact hX, by rw [hρ0]; exact hbl, fun z => by rw [hρ0] at z; exact absurd hbl (Nat.not_lt.mpr z)⟩, ⟨⟨xnest_ok hts, va_AO.of (hts _ xao_in)⟩, hC⟩, ⟨Nat.le_of_ble_eq_true rfl, Nat.le_of_ble_eq_true rfl, rfl, rfl⟩, fun z => by cases z⟩
  have hEnd : XEnd p l e room_1 s m #[Value.ref b] below meth c D (fun q => s.heap.size ≤ q) true 0 ρ0 (lw_Z below #[Value.ref b] s) (some .boolean) 600000 7302249 (fun v _ _ _ => v = some (.int 1)) := by
    intro v sh' I' J' a' b' pc i ρ' H locs ls hR ha hb' hd hv h1 h2 h3 h4
    subst hR
    rcases hv with ⟨q, -⟩ | ⟨x, q, rfl, -⟩ | ⟨x, q, -⟩ | ⟨x, q, -⟩
    · cases q
    · cases q
      refine W.widen ha hb' (va_forget (fun q hq => h4.2.2 q hq) ?_)
      exact lw_ret hx hb hr hlocks (by rw [← hb]; exact hd)
    · cases q
    · cases q
  have hl := lv_entry ([.ref b]) (n := 4) (Nat.le_of_ble_eq_true rfl)
  rw [lg_entry_eq]
  generalize (lg_sl ([.ref b]) ++ List.replicate (4 - (lg_sl ([.ref b])).length) Slot.unset).toArray = ls at hl ⊢
  have hxl : xl ρ0 [some (.ref 900000), none, none, none] ls := by
    refine ⟨hl.1, hl.2.1, fun i v hv => ?_⟩
    match i, hv with
    | 0, hv =>
      simp only [List.getElem?_cons_zero, Option.some.injEq] at hv
      subst hv
      show ls[0]? = some (.val (.ref (ρ0 900000)))
      rw [hρ0]
      exact hl.2.2 (0, .ref b) List.mem_cons_self
    | 1, hv => simp at hv
    | 2, hv => simp at hv
    | 3, hv => simp at hv
    | i + 4, hv => simp at hv
  have hP : va_P D.1 vwCl (wl D ρ0 [] I J) s.heap := fun k q h => by simp [wl] at h
  have hD : va_D (fun q : Nat => s.heap.size ≤ q) (wl D ρ0 [] I J) := ⟨fun i j p q h => by simp [wl] at h, fun k q h => by simp [wl] at h⟩
  exact xrun_ok G xxl (fun q hq => by rw [hb]; exact kL_law q hq) hEnd n 0 _ _ _ _ _ _ _ h ρ0 s.heap [] ls xrel.rf hP hD va_S.rf hxl (hl.1.trans hml.symm)
