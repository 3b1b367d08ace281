section
-- ===== abstract values and heaps: places instead of addresses =====
def xgt : List Cond := lw_tbl.filter goodWord
theorem xgt_in {w : Cond} (h : w ∈ xgt) : w ∈ lw_tbl := (List.mem_filter.mp h).1
theorem xgt_of {w : Cond} (h : w ∈ lw_tbl) (hg : goodWord w = true) : w ∈ xgt := List.mem_filter.mpr ⟨h, hg⟩
def xv (ρ : Nat → Nat) : Value → Value
  | .ref k => .ref (ρ k)
  | v => v
theorem xv_cat (ρ : Nat → Nat) (v : Value) : (xv ρ v).category = v.category := by cases v <;> rfl
theorem xv_cats (ρ : Nat → Nat) (st : List Value) : ((st.map (xv ρ)).map fun v => v.category).sum = (st.map fun v => v.category).sum := by
  rw [List.map_map]
  congr 1
  exact List.map_congr_left (fun v _ => xv_cat ρ v)
abbrev XO : Type := (Nat × List (Option Nat)) ⊕ (Nat × Nat × List (Option Nat))
abbrev XI : Type := Nat → Nat → Int32
abbrev XJ : Type := Nat → Nat → Int64
abbrev XD : Type := va_G × (Nat → ClassId)
abbrev XP : Type := List (Option Value) → List Value → List XO → XI → XJ → Nat → Nat → Prop
abbrev XR : Type := Option Value → List XO → XI → XJ → Prop
def uI (I : XI) (p k : Nat) (v : Int32) : XI := fun q => if q = p then upd (I p) k v else I q
def uJ (J : XJ) (p k : Nat) (v : Int64) : XJ := fun q => if q = p then vp_updL (J p) k v else J q
def zI (I : XI) (p : Nat) : XI := fun q => if q = p then (fun _ => 0) else I q
def zJ (J : XJ) (p : Nat) : XJ := fun q => if q = p then (fun _ => 0) else J q
/-- n places of row p from place sp of row q -/
def cI (I : XI) (q p : Nat) (sp dp n : Nat) : XI := fun r => if r = p then va_cpy (I q) (I p) sp dp n else I r
def xn {α : Type} : List α → Nat → Option α
  | [], _ => none
  | a :: _, 0 => some a
  | _ :: l, n + 1 => xn l n
theorem xn_eq {α : Type} : ∀ (l : List α) (n : Nat), xn l n = l[n]?
  | [], n => by simp [xn]
  | a :: l, 0 => rfl
  | a :: l, n + 1 => by rw [xn, xn_eq l n, List.getElem?_cons_succ]
def xlk {β : Type} : List (Nat × β) → Nat → Option β
  | [], _ => none
  | (a, b) :: l, k => match Nat.beq a k with
    | true => some b
    | false => xlk l k
theorem xlk_mem {β : Type} : ∀ {l : List (Nat × β)} {k : Nat} {b : β}, xlk l k = some b → (k, b) ∈ l
  | (a, c) :: l, k, b, h => by
    unfold xlk at h
    split at h
    · rename_i e
      cases h
      obtain rfl := Nat.eq_of_beq_eq_true e
      exact List.mem_cons_self
    · exact List.mem_cons_of_mem _ (xlk_mem h)
def isRefT : FieldType → Bool
  | .object _ => true
  | .array _ => true
  | _ => false
def xref (rs : List (Option Nat)) (k : Nat) : Value := match xn rs k with
  | some (some q) => .ref q
  | _ => .null
def xopt (ρ : Nat → Nat) (rs : List (Option Nat)) (k : Nat) : Option Nat := match xn rs k with
  | some (some q) => some (ρ q)
  | _ => none
theorem xopt_ref (ρ : Nat → Nat) (rs : List (Option Nat)) (k : Nat) : va_rf (xopt ρ rs k) = xv ρ (xref rs k) := by
  unfold xopt xref
  cases h : xn rs k with
  | none => rfl
  | some o => cases o <;> rfl
def xfv (ρ : Nat → Nat) (Ip : Nat → Int32) (ci : Nat) (rs : List (Option Nat)) (k : Nat) : Value := if isRefT (xty ci k) = true then xv ρ (xref rs k) else .int (Ip k)
def xob (ρ : Nat → Nat) (Ip : Nat → Int32) (ci : Nat) (rs : List (Option Nat)) : List Value := (List.range (xN ci)).map (xfv ρ Ip ci rs)
def xel (D : XD) (ρ : Nat → Nat) (I : XI) (J : XJ) (k : Nat) (o : XO) : Nat × va_E := (ρ k, match o with
  | .inl q => .inr (q.1, xob ρ (I k) q.1 q.2)
  | .inr q => .inl (D.2 q.1, q.2.1, if q.1 = 2 then .inr (.inl (J k)) else if q.1 = 3 then .inr (.inr (.inr (.inr (xopt ρ q.2.2)))) else .inl (I k)))
def wl (D : XD) (ρ : Nat → Nat) (sh : List XO) (I : XI) (J : XJ) : va_W := sh.mapIdx (xel D ρ I J)
theorem wl_get {D : XD} {ρ : Nat → Nat} {sh : List XO} {I : XI} {J : XJ} {k : Nat} {o : XO} (h : xn sh k = some o) : (wl D ρ sh I J)[k]? = some (xel D ρ I J k o) := by
  rw [xn_eq] at h
  simp [wl, List.getElem?_mapIdx, h]
theorem wl_of {D : XD} {ρ : Nat → Nat} {sh : List XO} {I : XI} {J : XJ} {k : Nat} {q : Nat × va_E} (h : (wl D ρ sh I J)[k]? = some q) : ∃ o, xn sh k = some o ∧ q = xel D ρ I J k o := by
  simp only [wl, List.getElem?_mapIdx] at h
  obtain ⟨o, h1, h2⟩ := Option.map_eq_some_iff.mp h
  exact ⟨o, by rw [xn_eq]; exact h1, h2.symm⟩
theorem wl_len {D : XD} {ρ : Nat → Nat} {sh : List XO} {I : XI} {J : XJ} : (wl D ρ sh I J).length = sh.length := by simp [wl]
/-- the world behind a write at place p -/
theorem wl_upd {D : XD} {ρ : Nat → Nat} {sh sh' : List XO} {I I' : XI} {J J' : XJ} {p : Nat} {o : XO} {e : va_E} (hl : sh'.length = sh.length) (hp : xn sh' p = some o) (hs : ∀ i, i ≠ p → xn sh' i = xn sh i) (hI : ∀ i, i ≠ p → I' i = I i) (hJ : ∀ i, i ≠ p → J' i = J i) (he : xel D ρ I' J' p o = (ρ p, e)) : (wl D ρ sh I J).set p (ρ p, e) = wl D ρ sh' I' J' := by
  have hlt : p < sh.length := by
    rw [xn_eq] at hp
    rw [← hl]
    exact (List.getElem?_eq_some_iff.mp hp).1
  apply List.ext_getElem?
  intro i
  by_cases hi : i = p
  · subst hi
    rw [List.getElem?_set_self (by rw [wl_len]; exact hlt), wl_get hp, he]
  · rw [List.getElem?_set_ne (Ne.symm hi)]
    simp only [wl, List.getElem?_mapIdx]
    rw [← xn_eq, ← xn_eq, hs i hi]
    have e2 : ∀ o, xel D ρ I' J' i o = xel D ρ I J i o := fun o => by simp only [xel, hI i hi, hJ i hi]
    rw [funext e2]
def xset : List XO → Nat → XO → List XO
  | [], _, _ => []
  | _ :: l, 0, b => b :: l
  | a :: l, n + 1, b => a :: xset l n b
theorem xset_eq : ∀ (l : List XO) (n : Nat) (b : XO), xset l n b = l.set n b
  | [], n, b => by simp [xset]
  | a :: l, 0, b => rfl
  | a :: l, n + 1, b => by rw [xset, xset_eq l n b, List.set_cons_succ]
def xsetR : List (Option Nat) → Nat → Option Nat → List (Option Nat)
  | [], _, _ => []
  | _ :: l, 0, b => b :: l
  | a :: l, n + 1, b => a :: xsetR l n b
theorem xsetR_eq : ∀ (l : List (Option Nat)) (n : Nat) (b : Option Nat), xsetR l n b = l.set n b
  | [], n, b => by simp [xsetR]
  | a :: l, 0, b => rfl
  | a :: l, n + 1, b => by rw [xsetR, xsetR_eq l n b, List.set_cons_succ]
theorem xob_len {ρ : Nat → Nat} {Ip : Nat → Int32} {ci : Nat} {rs : List (Option Nat)} : (xob ρ Ip ci rs).length = xN ci := by simp [xob]
theorem xob_get {ρ : Nat → Nat} {Ip : Nat → Int32} {ci k : Nat} {rs : List (Option Nat)} (h : k < xN ci) : (xob ρ Ip ci rs)[k]? = some (xfv ρ Ip ci rs k) := by simp [xob, h]
theorem xob_set {ρ : Nat → Nat} {Ip Ip' : Nat → Int32} {ci k : Nat} {rs rs' : List (Option Nat)} {v : Value} (h : k < xN ci) (hv : xfv ρ Ip' ci rs' k = v) (ho : ∀ j, j ≠ k → xfv ρ Ip' ci rs' j = xfv ρ Ip ci rs j) : (xob ρ Ip ci rs).set k v = xob ρ Ip' ci rs' := by
  apply List.ext_getElem?
  intro i
  by_cases hi : i = k
  · subst hi
    rw [List.getElem?_set_self (by rw [xob_len]; exact h), xob_get h, hv]
  · rw [List.getElem?_set_ne (Ne.symm hi)]
    by_cases hN : i < xN ci
    · rw [xob_get hN, xob_get hN, ho i hi]
    · rw [List.getElem?_eq_none (by rw [xob_len]; omega), List.getElem?_eq_none (by rw [xob_len]; omega)]
theorem uI_ne {I : XI} {p k q : Nat} {v : Int32} (h : q ≠ p) : uI I p k v q = I q := by simp [uI, h]
theorem uI_eq {I : XI} {p k : Nat} {v : Int32} : uI I p k v p = upd (I p) k v := by simp [uI]
theorem uJ_ne {J : XJ} {p k q : Nat} {v : Int64} (h : q ≠ p) : uJ J p k v q = J q := by simp [uJ, h]
theorem uJ_eq {J : XJ} {p k : Nat} {v : Int64} : uJ J p k v p = vp_updL (J p) k v := by simp [uJ]
theorem cI_ne {I : XI} {q p sp dp n r : Nat} (h : r ≠ p) : cI I q p sp dp n r = I r := by simp [cI, h]
theorem cI_eq {I : XI} {q p sp dp n : Nat} : cI I q p sp dp n p = va_cpy (I q) (I p) sp dp n := by simp [cI]
theorem zI_ne {I : XI} {p q : Nat} (h : q ≠ p) : zI I p q = I q := by simp [zI, h]
theorem zI_eq {I : XI} {p : Nat} : zI I p p = fun _ => 0 := by simp [zI]
theorem zJ_ne {J : XJ} {p q : Nat} (h : q ≠ p) : zJ J p q = J q := by simp [zJ, h]
theorem zJ_eq {J : XJ} {p : Nat} : zJ J p p = fun _ => 0 := by simp [zJ]
theorem xset_len {l : List XO} {n : Nat} {b : XO} : (xset l n b).length = l.length := by rw [xset_eq]; simp
theorem xset_same {l : List XO} {n : Nat} {a b : XO} (h : xn l n = some a) : xn (xset l n b) n = some b := by
  rw [xn_eq] at h
  rw [xn_eq, xset_eq, List.getElem?_set_self (List.getElem?_eq_some_iff.mp h).1]
theorem xset_ne {l : List XO} {n i : Nat} {b : XO} (h : i ≠ n) : xn (xset l n b) i = xn l i := by
  rw [xn_eq, xn_eq, xset_eq, List.getElem?_set_ne (Ne.symm h)]
-- ===== locals =====
def kL1 (lc : List (Option Value)) (j : Nat) : List (Option Value) := match xn lc j with
  | some (some v) => if v.category = 2 then lc.set j none else lc
  | _ => lc
def kL (lc : List (Option Value)) : Nat → List (Option Value)
  | 0 => lc
  | j + 1 => kL1 lc j
def sL (lc : List (Option Value)) (i : Nat) (v : Value) : List (Option Value) :=
  if v.category = 2 then ((kL lc i).set i (some v)).set (i + 1) none else (kL lc i).set i (some v)
theorem kL1_len {lc : List (Option Value)} {i : Nat} : (kL1 lc i).length = lc.length := by
  unfold kL1
  split
  · split
    · simp
    · rfl
  · rfl
theorem kL_len {lc : List (Option Value)} {i : Nat} : (kL lc i).length = lc.length := by
  cases i with
  | zero => rfl
  | succ j => exact kL1_len
theorem sL_len {lc : List (Option Value)} {i : Nat} {v : Value} : (sL lc i v).length = lc.length := by
  unfold sL
  split <;> simp [kL_len]
theorem kL_get {lc : List (Option Value)} {i j : Nat} {w : Value} (h : (kL lc i)[j]? = some (some w)) : lc[j]? = some (some w) ∧ ¬ (j + 1 = i ∧ w.category = 2) := by
  cases i with
  | zero => exact ⟨h, by omega⟩
  | succ n =>
    replace h : (kL1 lc n)[j]? = some (some w) := h
    unfold kL1 at h
    rw [xn_eq] at h
    split at h
    · rename_i v hv
      split at h
      · rename_i hc
        by_cases hj : j = n
        · subst hj
          have hl := (List.getElem?_eq_some_iff.mp hv).1
          rw [List.getElem?_set_self hl] at h
          cases h
        · rw [List.getElem?_set_ne (Ne.symm hj)] at h
          exact ⟨h, by omega⟩
      · rename_i hc
        refine ⟨h, fun q => ?_⟩
        obtain ⟨q1, q2⟩ := q
        have hj : j = n := by omega
        subst hj
        rw [hv] at h
        cases h
        exact hc q2
    · rename_i hv
      refine ⟨h, fun q => ?_⟩
      obtain ⟨q1, q2⟩ := q
      have hj : j = n := by omega
      subst hj
      exact hv _ h
/-- what the abstract locals say of the machine's -/
def xl (ρ : Nat → Nat) (lc : List (Option Value)) (ls : Array Slot) : Prop := ls.size = lc.length ∧ lv_wf ls ∧ ∀ (i : Nat) (v : Value), lc[i]? = some (some v) → ls[i]? = some (.val (xv ρ v))
def lvL (ρ : Nat → Nat) (lc : List (Option Value)) : List (Nat × Value) := (List.range lc.length).filterMap (fun i => match lc[i]? with
  | some (some v) => some (i, xv ρ v)
  | _ => none)
theorem lvL_mem {ρ : Nat → Nat} {lc : List (Option Value)} {i : Nat} {v : Value} (h : lc[i]? = some (some v)) : (i, xv ρ v) ∈ lvL ρ lc := by
  refine List.mem_filterMap.mpr ⟨i, List.mem_range.mpr (List.getElem?_eq_some_iff.mp h).1, ?_⟩
  rw [h]
theorem xl.has {ρ : Nat → Nat} {lc : List (Option Value)} {ls : Array Slot} (h : xl ρ lc ls) : lv_has ls ls.size (lvL ρ lc) := by
  refine ⟨rfl, h.2.1, fun q hq => ?_⟩
  obtain ⟨i, -, hi⟩ := List.mem_filterMap.mp hq
  split at hi
  · rename_i v hv
    cases hi
    exact h.2.2 i v hv
  · cases hi
theorem xl.at {ρ : Nat → Nat} {lc : List (Option Value)} {ls : Array Slot} (h : xl ρ lc ls) {i : Nat} {v : Value} (hi : xn lc i = some (some v)) : ls[i]? = some (.val (xv ρ v)) := h.2.2 i v (by rw [← xn_eq]; exact hi)
theorem xl_store1 {ρ : Nat → Nat} {lc : List (Option Value)} {ls ls' : Array Slot} {i : Nat} {v : Value} (h : xl ρ lc ls) (hi : i < lc.length) (hc : v.category = 1) (h' : lv_has ls' ls.size ((i, xv ρ v) :: (lvL ρ lc).filter (fun q => !(q.1 == i) && !(q.1 + 1 == i && q.2.category == 2)))) : xl ρ (sL lc i v) ls' := by
  refine ⟨by rw [h'.1, sL_len]; exact h.1, h'.2.1, fun j w hj => ?_⟩
  have hc2 : ¬ v.category = 2 := by omega
  simp only [sL, if_neg hc2] at hj
  by_cases e : j = i
  · subst e
    rw [List.getElem?_set_self (by rw [kL_len]; exact hi)] at hj
    cases hj
    exact h'.2.2 (j, xv ρ v) List.mem_cons_self
  · rw [List.getElem?_set_ne (Ne.symm e)] at hj
    obtain ⟨g1, g2⟩ := kL_get hj
    refine h'.2.2 (j, xv ρ w) (List.mem_cons_of_mem _ (List.mem_filter.mpr ⟨lvL_mem g1, ?_⟩))
    simp only [xv_cat, Bool.and_eq_true, Bool.not_eq_true', beq_eq_false_iff_ne, Bool.and_eq_false_iff, ne_eq]
    refine ⟨e, ?_⟩
    by_cases q : j + 1 = i
    · exact Or.inr (fun z => g2 ⟨q, z⟩)
    · exact Or.inl q
theorem xl_store2 {ρ : Nat → Nat} {lc : List (Option Value)} {ls ls' : Array Slot} {i : Nat} {v : Value} (h : xl ρ lc ls) (hi : i + 1 < lc.length) (hc : v.category = 2) (h' : lv_has ls' ls.size ((i, xv ρ v) :: (lvL ρ lc).filter (fun q => !(q.1 == i) && (!(q.1 == i + 1) && !(q.1 + 1 == i && q.2.category == 2))))) : xl ρ (sL lc i v) ls' := by
  refine ⟨by rw [h'.1, sL_len]; exact h.1, h'.2.1, fun j w hj => ?_⟩
  simp only [sL, if_pos hc] at hj
  by_cases e1 : j = i + 1
  · subst e1
    rw [List.getElem?_set_self (by simp [kL_len]; omega)] at hj
    cases hj
  · rw [List.getElem?_set_ne (Ne.symm e1)] at hj
    by_cases e : j = i
    · subst e
      rw [List.getElem?_set_self (by rw [kL_len]; omega)] at hj
      cases hj
      exact h'.2.2 (j, xv ρ v) List.mem_cons_self
    · rw [List.getElem?_set_ne (Ne.symm e)] at hj
      obtain ⟨g1, g2⟩ := kL_get hj
      refine h'.2.2 (j, xv ρ w) (List.mem_cons_of_mem _ (List.mem_filter.mpr ⟨lvL_mem g1, ?_⟩))
      simp only [xv_cat, Bool.and_eq_true, Bool.not_eq_true', beq_eq_false_iff_ne, Bool.and_eq_false_iff, ne_eq]
      refine ⟨e, e1, ?_⟩
      by_cases q : j + 1 = i
      · exact Or.inr (fun z => g2 ⟨q, z⟩)
      · exact Or.inl q
end
section
/-- entry: index, kind, callee, place of its descriptor, cells and slots made, places of its words -/
abbrev XCe : Type := Nat × Nat × XM × Nat × (Nat × Nat) × List Nat
def m0 : XM := (⟨"", "", ""⟩, ⟨#[]⟩, 0, none)
def ctX0 : List XCe := [(3, 11, m0, 0, (0, 0), [2094, 1028, 1029]), (45, 109, mX9_hasThing, 0, (0, 0), [5122, 3020, 3021, 1005, 3022]), (51, 400, mX0_search, 1, (0, 0), [5123, 5124, 1011, 5125]), (55, 102, mX2_shadow, 2, (0, 0), [5126, 3036, 3037, 1007, 3038]), (59, 100, mX0_grownBehind, 3, (0, 0), [5127, 5129, 39, 1011, 5130]), (63, 102, mX2_growth, 4, (0, 0), [5131, 3177, 3178, 1007, 3179]), (67, 5, m0, 0, (0, 0), [5132, 3064, 1015, 3065])]
def ftX0 : List (Nat × Nat × Nat × Nat) := [(39, 2, 0, 1189), (33, 0, 0, 2095), (9, 0, 1, 2096), (15, 0, 2, 2098), (18, 0, 3, 2100), (21, 0, 4, 2101), (24, 0, 5, 2102), (27, 0, 6, 2103), (30, 0, 7, 2104)]
def ktX0 : List (Nat × Int64 × Nat) := []
def itX0 : List (Nat × Int32 × Nat) := []
def ntX0 : List (Nat × Nat × List Nat) := []
def ctX1 : List XCe := [(3, 11, m0, 0, (0, 0), [1058, 1028, 1029]), (9, 410, mX10_firstRow, 5, (1, 69), [1059, 1060, 1004, 1061]), (23, 306, mX6_init, 6, (1, 2139), [0, 1033, 1002, 1034]), (53, 10, m0, 0, (0, 0), [5193, 3010, 3009, 1014]), (68, 106, mX6_takeFrom, 7, (0, 0), [5194, 5195, 5196, 1002, 5197])]
def ftX1 : List (Nat × Nat × Nat × Nat) := [(59, 6, 0, 1037), (62, 6, 1, 1039), (65, 6, 2, 1041), (15, 1, 0, 1064), (24, 1, 1, 1065), (28, 1, 2, 1066), (31, 1, 3, 1067), (34, 1, 4, 1068), (38, 1, 5, 1070), (41, 1, 6, 1072), (44, 1, 7, 1074), (47, 1, 8, 1076), (50, 1, 9, 1078)]
def ktX1 : List (Nat × Int64 × Nat) := []
def itX1 : List (Nat × Int32 × Nat) := []
def ntX1 : List (Nat × Nat × List Nat) := [(21, 6, [1062, 1031, 1002])]
def ctX2 : List XCe := [(3, 11, m0, 0, (0, 0), [1187, 1028, 1029]), (38, 102, mX2_describeThing, 8, (0, 0), [3039, 3041, 2, 1007, 3042]), (42, 108, mX8_hasLaw, 0, (0, 0), [3043, 3044, 3045, 1006, 3046]), (48, 7, m0, 0, (0, 0), [3047, 3048, 1015, 3049]), (54, 102, mX2_run, 3, (0, 0), [3050, 3052, 3, 1007, 3053]), (73, 8, m0, 0, (0, 0), [3057, 3058, 1015, 3059]), (77, 9, m0, 0, (0, 0), [3060, 3061, 1015, 3062])]
def ftX2 : List (Nat × Nat × Nat × Nat) := [(32, 9, 0, 1108), (27, 9, 1, 1111), (35, 9, 2, 1115), (64, 8, 0, 1159), (58, 8, 2, 1162), (61, 8, 3, 1164), (19, 2, 0, 1188), (23, 2, 1, 1190), (11, 2, 2, 1192), (15, 2, 3, 1193)]
def ktX2 : List (Nat × Int64 × Nat) := [(67, (100), 3054), (69, (-1000000), 3055), (71, (1000000), 3056)]
def itX2 : List (Nat × Int32 × Nat) := []
def ntX2 : List (Nat × Nat × List Nat) := []
def ctX3 : List XCe := [(3, 11, m0, 0, (0, 0), [2059, 1028, 1029]), (47, 109, mX9_hasReaper, 0, (0, 0), [5078, 3024, 3025, 1005, 3026]), (55, 403, mX3_search, 9, (0, 0), [5079, 5080, 1010, 5081]), (62, 10, m0, 0, (0, 0), [5082, 3010, 3009, 1014]), (68, 110, mX10_cutLength, 10, (0, 0), [5083, 3016, 3017, 1004, 3018]), (72, 103, mX3_consider, 11, (0, 0), [5084, 5086, 37, 1010, 5087]), (76, 110, mX10_cutOff, 10, (0, 0), [5088, 3012, 3013, 1004, 3014]), (79, 110, mX10_passHour, 12, (0, 0), [5089, 3164, 3165, 1004, 3166])]
def ftX3 : List (Nat × Nat × Nat × Nat) := [(53, 9, 3, 1119), (59, 10, 0, 1212), (43, 10, 1, 1216), (39, 3, 0, 2060), (13, 3, 1, 2061), (17, 3, 2, 2062), (20, 3, 3, 2063), (23, 3, 4, 2064), (27, 3, 5, 2066), (30, 3, 6, 2067), (33, 3, 7, 2068), (36, 3, 8, 2069)]
def ktX3 : List (Nat × Int64 × Nat) := []
def itX3 : List (Nat × Int32 × Nat) := []
def ntX3 : List (Nat × Nat × List Nat) := []
def ctX4 : List XCe := [(3, 11, m0, 0, (0, 0), [2127, 1028, 1029]), (38, 404, mX4_search, 13, (0, 0), [5168, 5169, 1012, 5170]), (42, 10, m0, 0, (0, 0), [5171, 3010, 3009, 1014]), (48, 110, mX10_hasBale, 0, (0, 0), [5172, 3112, 3113, 1004, 3114])]
def ftX4 : List (Nat × Nat × Nat × Nat) := [(65, 9, 4, 1123), (61, 9, 7, 1133), (54, 10, 0, 1213), (57, 10, 1, 1217), (34, 4, 0, 2128), (11, 4, 1, 2129), (15, 4, 2, 2130), (19, 4, 3, 2131), (22, 4, 4, 2132), (25, 4, 5, 2133), (28, 4, 6, 2134), (31, 4, 7, 2135)]
def ktX4 : List (Nat × Int64 × Nat) := []
def itX4 : List (Nat × Int32 × Nat) := []
def ntX4 : List (Nat × Nat × List Nat) := []
def ctX5 : List XCe := [(3, 11, m0, 0, (0, 0), [2022, 1028, 1029]), (44, 108, mX8_clear, 6, (0, 0), [3231, 3232, 3233, 1006, 3234]), (49, 107, mX7_split, 6, (0, 0), [3235, 3236, 3237, 1008, 3238]), (52, 105, mX5_advance, 6, (0, 0), [4140, 4142, 19, 1009, 4143]), (55, 105, mX5_clause, 0, (0, 0), [4144, 4146, 20, 1009, 4147]), (75, 105, mX5_fail, 0, (0, 0), [4148, 4150, 21, 1009, 4151]), (81, 108, mX8_hasLaw, 0, (0, 0), [4152, 3044, 3045, 1006, 3046]), (84, 108, mX8_addClause, 11, (0, 0), [4153, 4154, 4155, 1006, 4156]), (91, 105, mX5_deed, 0, (0, 0), [4159, 4161, 22, 1009, 4162]), (113, 108, mX8_setNumber, 14, (0, 0), [4165, 4166, 4167, 1006, 4168]), (117, 105, mX5_number, 15, (0, 0), [4169, 4171, 23, 1009, 4172]), (121, 105, mX5_word, 0, (0, 0), [4173, 4175, 24, 1009, 4176]), (78, 105, mX5_isWord, 0, (0, 0), [4177, 4179, 25, 1009, 4180]), (94, 105, mX5_sign, 0, (0, 0), [4181, 4183, 26, 1009, 4184]), (97, 108, mX8_openLaw, 11, (0, 0), [4185, 4186, 4187, 1006, 4188]), (100, 105, mX5_either, 12, (0, 0), [4189, 4191, 27, 1009, 4192]), (124, 105, mX5_ask, 12, (0, 0), [4193, 4195, 28, 1009, 4196]), (104, 105, mX5_sum, 0, (0, 0), [4197, 4199, 29, 1009, 4200]), (134, 105, mX5_product, 0, (0, 0), [4201, 4203, 30, 1009, 4204]), (137, 105, mX5_one, 0, (0, 0), [4205, 4207, 31, 1009, 4208]), (140, 5, m0, 0, (0, 0), [4209, 3064, 1015, 3065]), (127, 108, mX8_emit, 14, (0, 0), [4210, 4211, 4212, 1006, 4213]), (146, 105, mX5_name, 0, (0, 0), [4214, 4216, 32, 1009, 4217]), (149, 105, mX5_part, 0, (0, 0), [4218, 4220, 33, 1009, 4221]), (130, 405, mX5_comparisonOf, 16, (0, 0), [4222, 4223, 1009, 4224]), (107, 108, mX8_closeLaw, 11, (0, 0), [4225, 4226, 4227, 1006, 4228])]
def ftX5 : List (Nat × Nat × Nat × Nat) := [(72, 7, 1, 1234), (62, 7, 2, 1237), (66, 7, 3, 1239), (69, 7, 4, 2001), (59, 7, 5, 2003), (36, 5, 0, 2023), (40, 5, 1, 2024), (9, 5, 2, 2025), (15, 5, 3, 2026), (20, 5, 4, 2027), (23, 5, 5, 2028), (26, 5, 6, 2029), (30, 5, 7, 2031), (33, 5, 8, 2033)]
def ktX5 : List (Nat × Int64 × Nat) := []
def itX5 : List (Nat × Int32 × Nat) := []
def ntX5 : List (Nat × Nat × List Nat) := []
def ctX6 : List XCe := [(3, 11, m0, 0, (0, 0), [1035, 1028, 1029]), (24, 106, mX6_placeOf, 16, (0, 0), [3004, 3006, 0, 1002, 3007]), (28, 10, m0, 0, (0, 0), [3008, 3010, 3009, 1014])]
def ftX6 : List (Nat × Nat × Nat × Nat) := [(13, 6, 0, 1036), (17, 6, 1, 1038), (21, 6, 2, 1040)]
def ktX6 : List (Nat × Int64 × Nat) := []
def itX6 : List (Nat × Int32 × Nat) := []
def ntX6 : List (Nat × Nat × List Nat) := []
def ctX7 : List XCe := [(3, 11, m0, 0, (0, 0), [1231, 1028, 1029]), (31, 107, mX7_byteAt, 16, (0, 0), [3239, 4001, 12, 1008, 4002]), (35, 407, mX7_isDigit, 0, (0, 0), [4003, 4004, 1008, 4005]), (39, 107, mX7_endOfDigits, 16, (0, 0), [4006, 4008, 13, 1008, 4009]), (42, 107, mX7_numberIn, 3, (0, 0), [4010, 4012, 14, 1008, 4013]), (71, 5, m0, 0, (0, 0), [4014, 3064, 1015, 3065]), (46, 107, mX7_addToken, 8, (0, 0), [4015, 4017, 15, 1008, 4018]), (50, 407, mX7_isLetter, 0, (0, 0), [4019, 4020, 1008, 4021]), (53, 107, mX7_endOfLetters, 16, (0, 0), [4022, 4024, 16, 1008, 4025]), (56, 107, mX7_wordIn, 3, (0, 0), [4026, 4028, 17, 1008, 4029]), (74, 107, mX7_isWord, 17, (0, 0), [4030, 4032, 18, 1008, 4033]), (80, 113, mJ0_length_8abf5, 18, (0, 0), [4035, 4036, 4037, 1016, 4038]), (84, 113, mJ0_charAt_5068e, 19, (0, 0), [4045, 4046, 4047, 1016, 4048]), (61, 113, mJ0_indexOf_0f7a4, 16, (0, 0), [4084, 4085, 4086, 1016, 4087]), (66, 6, m0, 0, (0, 0), [4139, 3120, 1015, 3121])]
def ftX7 : List (Nat × Nat × Nat × Nat) := [(9, 7, 0, 1232), (15, 7, 1, 1233), (19, 7, 2, 1236), (22, 7, 3, 1238), (25, 7, 4, 2000), (28, 7, 5, 2002)]
def ktX7 : List (Nat × Int64 × Nat) := []
def itX7 : List (Nat × Int32 × Nat) := []
def ntX7 : List (Nat × Nat × List Nat) := []
def ctX8 : List XCe := [(3, 11, m0, 0, (0, 0), [1157, 1028, 1029])]
def ftX8 : List (Nat × Nat × Nat × Nat) := [(9, 8, 0, 1158), (15, 8, 1, 1160), (19, 8, 2, 1161), (22, 8, 3, 1163), (25, 8, 4, 1165), (28, 8, 5, 1167)]
def ktX8 : List (Nat × Int64 × Nat) := []
def itX8 : List (Nat × Int32 × Nat) := []
def ntX8 : List (Nat × Nat × List Nat) := []
def ctX9 : List XCe := [(3, 11, m0, 0, (0, 0), [1106, 1028, 1029])]
def ftX9 : List (Nat × Nat × Nat × Nat) := [(9, 9, 0, 1107), (15, 9, 1, 1110), (18, 9, 2, 1114), (21, 9, 3, 1118), (24, 9, 4, 1122), (27, 9, 5, 1126), (31, 9, 6, 1129), (34, 9, 7, 1132)]
def ktX9 : List (Nat × Int64 × Nat) := []
def itX9 : List (Nat × Int32 × Nat) := []
def ntX9 : List (Nat × Nat × List Nat) := []
def ctX10 : List XCe := [(5, 11, m0, 0, (0, 0), [1209, 1028, 1029]), (11, 410, mX10_firstRow, 5, (1, 69), [1210, 1060, 1004, 1061]), (95, 110, mX10_cutLength, 10, (0, 0), [3015, 3016, 3017, 1004, 3018]), (46, 109, mX9_hasThing, 0, (0, 0), [3019, 3020, 3021, 1005, 3022]), (80, 109, mX9_hasReaper, 0, (0, 0), [3023, 3024, 3025, 1005, 3026]), (33, 109, mX9_hasBarn, 0, (0, 0), [3027, 3028, 3029, 1005, 3030]), (83, 110, mX10_freeBale, 18, (0, 0), [3031, 3033, 1, 1004, 3034]), (49, 102, mX2_shadow, 2, (0, 0), [3035, 3036, 3037, 1007, 3038]), (90, 5, m0, 0, (0, 0), [3063, 3064, 1015, 3065]), (39, 110, mX10_feetIn, 16, (0, 0), [3066, 3067, 3068, 1004, 3069]), (59, 102, mX2_allows, 20, (0, 0), [3070, 3071, 3072, 1007, 3073]), (99, 110, mX10_shadowOf, 16, (0, 0), [3074, 3075, 3076, 1004, 3077]), (105, 110, mX10_bind, 10, (0, 0), [3078, 3080, 4, 1004, 3081]), (108, 110, mX10_hasRoom, 15, (0, 0), [3094, 3096, 5, 1004, 3097]), (115, 110, mX10_darkest, 16, (0, 0), [3107, 3109, 6, 1004, 3110]), (63, 110, mX10_hasBale, 0, (0, 0), [3111, 3112, 3113, 1004, 3114]), (118, 110, mX10_shorten, 14, (0, 0), [3115, 3117, 7, 1004, 3118]), (112, 6, m0, 0, (0, 0), [3119, 3120, 1015, 3121]), (122, 110, mX10_sellsOf, 16, (0, 0), [3139, 3140, 3141, 1004, 3142]), (69, 102, mX2_describe, 21, (0, 0), [3143, 3144, 3145, 1007, 3146]), (76, 102, mX2_price, 3, (0, 0), [3147, 3148, 3149, 1007, 3150]), (125, 110, mX10_hoursLeft, 18, (0, 0), [3167, 3156, 3157, 1004, 3158]), (128, 110, mX10_draw, 16, (0, 0), [3168, 3170, 9, 1004, 3171]), (135, 110, mX10_growsOf, 16, (0, 0), [3172, 3173, 3174, 1004, 3175]), (55, 102, mX2_growth, 4, (0, 0), [3176, 3177, 3178, 1007, 3179]), (138, 110, mX10_spoilsOf, 16, (0, 0), [3180, 3181, 3182, 1004, 3183]), (66, 110, mX10_balesIn, 16, (0, 0), [3184, 3186, 10, 1004, 3187]), (73, 102, mX2_spoiling, 16, (0, 0), [3188, 3189, 3190, 1007, 3191]), (147, 110, mX10_cutOff, 10, (0, 0), [3200, 3012, 3013, 1004, 3014]), (150, 110, mX10_sellOff, 16, (0, 0), [3201, 3136, 3137, 1004, 3138]), (153, 110, mX10_passHour, 12, (0, 0), [3202, 3164, 3165, 1004, 3166]), (27, 10, m0, 0, (0, 0), [5065, 3010, 3009, 1014])]
def ftX10 : List (Nat × Nat × Nat × Nat) := [(102, 9, 1, 1112), (157, 9, 2, 1117), (87, 9, 3, 1120), (43, 9, 4, 1124), (131, 9, 5, 1128), (141, 9, 6, 1131), (144, 9, 7, 1135), (15, 10, 0, 1211), (19, 10, 1, 1215), (23, 10, 2, 1218)]
def ktX10 : List (Nat × Int64 × Nat) := []
def itX10 : List (Nat × Int32 × Nat) := []
def ntX10 : List (Nat × Nat × List Nat) := []
def ctX11 : List XCe := [(1, 11, m0, 0, (0, 0), [1027, 1028, 1029]), (9, 306, mX6_init, 6, (1, 2139), [1, 1033, 1002, 1034]), (41, 301, mX1_init, 6, (5, 2227), [2, 1056, 1003, 1057]), (48, 309, mX9_init, 6, (5, 32), [3, 1104, 1005, 1105]), (49, 308, mX8_init, 6, (4, 406), [4, 1155, 1006, 1156]), (52, 202, mX2_init, 22, (2, 75), [1184, 1185, 1007, 1186]), (57, 210, mX10_init, 23, (1, 69), [1206, 1207, 1004, 1208]), (62, 307, mX7_init, 6, (4, 1203), [5, 1229, 1008, 1230]), (88, 205, mX5_init, 24, (0, 0), [2019, 2020, 1009, 2021]), (97, 203, mX3_init, 25, (3, 284), [2056, 2057, 1010, 2058]), (106, 200, mX0_init, 26, (0, 0), [2091, 2092, 1011, 2093]), (115, 204, mX4_init, 25, (5, 26), [2124, 2125, 1012, 2126]), (120, 411, mX11_within, 17, (0, 0), [2213, 2214, 1001, 2215]), (124, 109, mX9_addThing, 10, (0, 0), [2216, 2217, 2218, 1005, 2219]), (128, 109, mX9_addReaper, 16, (0, 0), [2224, 2225, 2226, 1005, 2227]), (132, 109, mX9_addBarn, 16, (0, 0), [2232, 2233, 2234, 1005, 2235]), (138, 106, mX6_note, 27, (0, 0), [3000, 3001, 3002, 1002, 3003]), (142, 110, mX10_cutOff, 10, (0, 0), [3011, 3012, 3013, 1004, 3014]), (145, 106, mX6_count, 6, (0, 0), [3082, 3083, 3084, 1002, 3085]), (148, 110, mX10_sendOff, 3, (0, 0), [3090, 3091, 3092, 1004, 3093]), (152, 109, mX9_hasBarn, 0, (0, 0), [3102, 3028, 3029, 1005, 3030]), (156, 110, mX10_takeFeet, 15, (0, 0), [3103, 3104, 3105, 1004, 3106]), (160, 110, mX10_feetIn, 16, (0, 0), [3122, 3067, 3068, 1004, 3069]), (163, 110, mX10_carry, 15, (0, 0), [3127, 3128, 3129, 1004, 3130]), (166, 110, mX10_sellOff, 16, (0, 0), [3135, 3136, 3137, 1004, 3138]), (169, 110, mX10_hoursLeft, 18, (0, 0), [3155, 3156, 3157, 1004, 3158]), (173, 111, mX11_passHours, 16, (0, 0), [3159, 3161, 8, 1001, 3162]), (176, 110, mX10_passHour, 12, (0, 0), [3163, 3164, 3165, 1004, 3166]), (189, 110, mX10_passDecade, 6, (0, 0), [3196, 3197, 3198, 1004, 3199]), (192, 107, mX7_hasRoom, 0, (0, 0), [3207, 3208, 3209, 1008, 3210]), (195, 107, mX7_add, 11, (0, 0), [3211, 3212, 3213, 1008, 3214]), (202, 111, mX11_textAt, 28, (0, 0), [3223, 3225, 11, 1001, 3226]), (206, 105, mX5_read, 29, (0, 0), [3227, 3228, 3229, 1009, 3230]), (220, 111, mX11_setRule, 11, (0, 0), [4238, 5000, 34, 1001, 5001]), (232, 111, mX11_perform, 30, (0, 0), [5006, 5008, 35, 1001, 5009]), (236, 111, mX11_thing, 10, (0, 0), [5010, 2210, 2211, 1001, 2212]), (239, 111, mX11_reaper, 16, (0, 0), [5011, 2221, 2222, 1001, 2223]), (242, 111, mX11_barn, 16, (0, 0), [5012, 2229, 2230, 1001, 2231]), (245, 111, mX11_cut, 10, (0, 0), [5013, 2237, 2238, 1001, 2239]), (248, 111, mX11_last, 3, (0, 0), [5014, 3087, 3088, 1001, 3089]), (251, 111, mX11_use, 3, (0, 0), [5015, 3099, 3100, 1001, 3101]), (254, 111, mX11_move, 15, (0, 0), [5016, 3124, 3125, 1001, 3126]), (257, 111, mX11_sell, 16, (0, 0), [5017, 3132, 3133, 1001, 3134]), (260, 106, mX6_takeBack, 31, (0, 0), [5022, 5023, 5024, 1002, 5025]), (265, 109, mX9_hasThing, 0, (0, 0), [5030, 3020, 3021, 1005, 3022]), (277, 110, mX10_shadowOf, 16, (0, 0), [5031, 3075, 3076, 1004, 3077]), (280, 110, mX10_growsOf, 16, (0, 0), [5032, 3173, 3174, 1004, 3175]), (283, 110, mX10_mayCut, 15, (0, 0), [5033, 5034, 5035, 1004, 5036]), (286, 109, mX9_hasReaper, 0, (0, 0), [5041, 3024, 3025, 1005, 3026]), (292, 110, mX10_hasBale, 0, (0, 0), [5046, 3112, 3113, 1004, 3114]), (295, 110, mX10_spoilsOf, 16, (0, 0), [5047, 3181, 3182, 1004, 3183]), (298, 110, mX10_sellsOf, 16, (0, 0), [5048, 3140, 3141, 1004, 3142]), (307, 111, mX11_foresee, 11, (0, 0), [5057, 5059, 36, 1001, 5060]), (304, 110, mX10_takeFrom, 27, (0, 0), [5061, 5062, 5063, 1004, 5064]), (310, 103, mX3_start, 8, (0, 0), [5074, 5075, 5076, 1010, 5077]), (317, 103, mX3_thingAt, 16, (0, 0), [5090, 5091, 5092, 1010, 5093]), (320, 111, mX11_firstUnmet, 16, (0, 0), [5102, 5104, 38, 1001, 5105]), (323, 110, mX10_longestFeet, 3, (0, 0), [5110, 5111, 5112, 1004, 5113]), (326, 100, mX0_start, 32, (0, 0), [5118, 5119, 5120, 1011, 5121]), (333, 111, mX11_hoursOf, 10, (0, 0), [5137, 5139, 40, 1001, 5140]), (336, 102, mX2_shadow, 2, (0, 0), [5141, 3036, 3037, 1007, 3038]), (340, 416, mJ6_bitCount_0f7a4, 16, (0, 0), [5150, 5151, 1021, 5152]), (345, 110, mX10_shadowsOf, 16, (0, 0), [5156, 5157, 5158, 1004, 5159]), (348, 104, mX4_start, 0, (0, 0), [5164, 5165, 5166, 1012, 5167]), (351, 104, mX4_barnAt, 16, (0, 0), [5173, 5174, 5175, 1012, 5176]), (354, 101, mX1_keepWorld, 33, (0, 0), [5189, 5190, 5191, 1003, 5192]), (358, 101, mX1_keepTold, 8, (0, 0), [5198, 5199, 5200, 1003, 5201]), (361, 101, mX1_keepTexts, 14, (0, 0), [5202, 5203, 5204, 1003, 5205]), (365, 101, mX1_keepNeeds, 34, (0, 0), [5206, 5207, 5208, 1003, 5209]), (369, 101, mX1_giveWorld, 33, (0, 0), [5214, 5215, 5216, 1003, 5217]), (378, 101, mX1_giveNeeds, 35, (0, 0), [5218, 5219, 5220, 1003, 5221])]
def ftX11 : List (Nat × Nat × Nat × Nat) := [(264, 6, 2, 1042), (382, 1, 4, 1069), (372, 1, 5, 1071), (373, 1, 6, 1073), (374, 1, 7, 1075), (375, 1, 8, 1077), (377, 1, 9, 1079), (268, 9, 0, 1109), (271, 9, 1, 1113), (274, 9, 2, 1116), (289, 9, 3, 1121), (301, 9, 4, 1125), (180, 9, 5, 1127), (183, 9, 6, 1130), (186, 9, 7, 1134), (226, 8, 4, 1166), (229, 8, 5, 1168), (223, 2, 1, 1191), (135, 10, 0, 1214), (199, 7, 1, 1235), (210, 5, 6, 2030), (214, 5, 7, 2032), (217, 5, 8, 2034), (314, 3, 4, 2065), (329, 0, 1, 2097), (330, 0, 2, 2099), (350, 4, 7, 2136), (63, 11, 0, 2154), (71, 11, 1, 2155), (75, 11, 2, 2156), (79, 11, 3, 2157), (10, 11, 4, 2158), (16, 11, 5, 2159), (20, 11, 6, 2160), (23, 11, 7, 2161), (82, 11, 8, 2162), (91, 11, 9, 2163), (67, 11, 10, 2164), (29, 11, 11, 2165), (33, 11, 12, 2166), (36, 11, 13, 2167), (42, 11, 14, 2168), (100, 11, 15, 2169), (109, 11, 16, 2170), (116, 11, 17, 2171)]
def ktX11 : List (Nat × Int64 × Nat) := []
def itX11 : List (Nat × Int32 × Nat) := []
def ntX11 : List (Nat × Nat × List Nat) := [(7, 6, [1030, 1031, 1002]), (27, 8, [1051, 1153, 1006]), (39, 1, [1053, 1054, 1003]), (46, 9, [1101, 1102, 1005]), (50, 2, [1182, 1183, 1007]), (55, 10, [1204, 1205, 1004]), (60, 7, [1226, 1227, 1008]), (86, 5, [2017, 2018, 1009]), (95, 3, [2054, 2055, 1010]), (104, 0, [2089, 2090, 1011]), (113, 4, [2122, 2123, 1012])]
def ctX12 : List XCe := [(1, 11, m0, 0, (0, 0), [5231, 1028, 1029]), (112, 112, mX12_copies, 36, (0, 0), [5232, 5234, 41, 1013, 5235]), (116, 412, mX12_in, 17, (0, 0), [6145, 6146, 1013, 6147]), (123, 112, mX12_put, 11, (0, 0), [6164, 6166, 42, 1013, 6167]), (238, 112, mX12_next, 6, (0, 0), [6176, 6178, 43, 1013, 6179]), (203, 412, mX12_isLetter, 0, (0, 0), [6180, 6181, 1013, 6182]), (209, 412, mX12_wordOf, 37, (0, 0), [6184, 6185, 1013, 6186]), (316, 112, mX12_asks, 6, (0, 0), [6220, 6222, 44, 1013, 6223]), (255, 112, mX12_isWord, 0, (0, 0), [6224, 6226, 45, 1013, 6227]), (258, 112, mX12_opensSign, 0, (0, 0), [6228, 6230, 46, 1013, 6231]), (232, 112, mX12_errs, 11, (0, 0), [6232, 6234, 47, 1013, 6235]), (235, 112, mX12_opensFrame, 11, (0, 0), [6236, 6238, 48, 1013, 6239]), (319, 112, mX12_begins, 6, (0, 0), [7000, 7002, 49, 1013, 7003]), (268, 112, mX12_nameNow, 18, (0, 0), [7004, 7006, 50, 1013, 7007]), (248, 112, mX12_emits, 14, (0, 0), [7008, 7010, 51, 1013, 7011]), (272, 112, mX12_oneIsOver, 6, (0, 0), [7012, 7014, 52, 1013, 7015]), (288, 112, mX12_top, 18, (0, 0), [7016, 7018, 53, 1013, 7019]), (278, 412, mX12_mayName, 15, (0, 0), [7020, 7021, 1013, 7022]), (282, 112, mX12_isSign, 0, (0, 0), [7023, 7025, 54, 1013, 7026]), (285, 112, mX12_part, 6, (0, 0), [7027, 7029, 55, 1013, 7030]), (264, 112, mX12_number, 3, (0, 0), [7031, 7033, 56, 1013, 7034]), (322, 112, mX12_goesOn, 6, (0, 0), [7035, 7037, 57, 1013, 7038]), (291, 112, mX12_waitsFor, 11, (0, 0), [7039, 7041, 58, 1013, 7042]), (244, 412, mX12_rank, 16, (0, 0), [7043, 7044, 1013, 7045]), (252, 112, mX12_works, 11, (0, 0), [7046, 7048, 59, 1013, 7049]), (294, 412, mX12_isAsking, 0, (0, 0), [7050, 7051, 1013, 7052]), (297, 112, mX12_askIsOver, 6, (0, 0), [7053, 7055, 60, 1013, 7056]), (300, 112, mX12_clauseIsOver, 6, (0, 0), [7057, 7059, 61, 1013, 7060]), (325, 112, mX12_asksOn, 6, (0, 0), [7061, 7063, 62, 1013, 7064]), (328, 112, mX12_clause, 6, (0, 0), [7065, 7067, 63, 1013, 7068]), (310, 112, mX12_wasTold, 0, (0, 0), [7069, 7071, 64, 1013, 7072]), (313, 112, mX12_doing, 6, (0, 0), [7073, 7075, 65, 1013, 7076]), (306, 112, mX12_numberBehind, 10, (0, 0), [7077, 7079, 66, 1013, 7080]), (405, 112, mX12_keepsStep, 6, (0, 0), [7093, 7095, 67, 1013, 7096]), (408, 112, mX12_laysNow, 6, (0, 0), [7097, 7099, 68, 1013, 7100]), (411, 112, mX12_hourPasses, 6, (0, 0), [7101, 7103, 69, 1013, 7104]), (402, 112, mX12_dayBegins, 6, (0, 0), [7105, 7107, 70, 1013, 7108]), (393, 112, mX12_draw, 16, (0, 0), [7109, 7111, 71, 1013, 7112]), (396, 112, mX12_growsOf, 16, (0, 0), [7113, 7115, 72, 1013, 7116]), (345, 112, mX12_ordersOf, 16, (0, 0), [7117, 7119, 73, 1013, 7120]), (348, 112, mX12_namesOfThing, 11, (0, 0), [7121, 7123, 74, 1013, 7124]), (351, 112, mX12_saysOf, 38, (0, 0), [7125, 7127, 75, 1013, 7128]), (341, 412, mX12_worked, 39, (0, 0), [7130, 7131, 1013, 7132]), (335, 412, mX12_bound, 40, (0, 0), [7133, 7134, 1013, 7135]), (355, 412, mX12_held, 41, (0, 0), [7138, 7139, 1013, 7140]), (378, 412, mX12_least, 3, (0, 0), [7141, 7142, 1013, 7143]), (399, 112, mX12_spoilsOf, 16, (0, 0), [7144, 7146, 76, 1013, 7147]), (362, 112, mX12_namesOfBale, 11, (0, 0), [7148, 7150, 77, 1013, 7151]), (359, 112, mX12_balesIn, 16, (0, 0), [7152, 7154, 78, 1013, 7155]), (387, 112, mX12_shortens, 14, (0, 0), [7156, 7158, 79, 1013, 7159]), (365, 112, mX12_bales, 21, (0, 0), [7160, 7162, 80, 1013, 7163]), (414, 112, mX12_keepsNow, 6, (0, 0), [7164, 7166, 81, 1013, 7167]), (421, 112, mX12_isThing, 0, (0, 0), [7172, 7174, 82, 1013, 7175]), (424, 112, mX12_isReaper, 0, (0, 0), [7176, 7178, 83, 1013, 7179]), (427, 112, mX12_isBarn, 0, (0, 0), [7180, 7182, 84, 1013, 7183]), (430, 112, mX12_cutsNow, 10, (0, 0), [7184, 7186, 85, 1013, 7187]), (372, 112, mX12_longOf, 16, (0, 0), [7188, 7190, 86, 1013, 7191]), (375, 112, mX12_freeBale, 18, (0, 0), [7192, 7194, 87, 1013, 7195]), (381, 112, mX12_mayCut, 15, (0, 0), [7196, 7198, 88, 1013, 7199]), (384, 112, mX12_isRoom, 15, (0, 0), [7200, 7202, 89, 1013, 7203]), (369, 112, mX12_feetIn, 16, (0, 0), [7204, 7206, 90, 1013, 7207]), (433, 112, mX12_usesNow, 14, (0, 0), [7216, 7218, 91, 1013, 7219]), (436, 112, mX12_isBale, 0, (0, 0), [7224, 7226, 92, 1013, 7227]), (439, 112, mX12_sellsNow, 16, (0, 0), [7232, 7234, 93, 1013, 7235]), (390, 112, mX12_sellsOf, 16, (0, 0), [7236, 7238, 94, 1013, 7239]), (445, 112, mX12_happens, 6, (0, 0), [8004, 8006, 95, 1013, 8007]), (442, 112, mX12_passesThrough, 11, (0, 0), [8008, 8010, 96, 1013, 8011]), (417, 112, mX12_canPass, 12, (0, 0), [8012, 8014, 97, 1013, 8015]), (451, 112, mX12_thing, 10, (0, 0), [8020, 6142, 6143, 1013, 6144]), (454, 112, mX12_reaper, 16, (0, 0), [8021, 6149, 6150, 1013, 6151]), (457, 112, mX12_barn, 16, (0, 0), [8022, 6153, 6154, 1013, 6155]), (460, 112, mX12_cut, 10, (0, 0), [8023, 7169, 7170, 1013, 7171]), (463, 112, mX12_last, 3, (0, 0), [8024, 7209, 7210, 1013, 7211]), (466, 112, mX12_use, 3, (0, 0), [8025, 7213, 7214, 1013, 7215]), (469, 112, mX12_move, 15, (0, 0), [8026, 7221, 7222, 1013, 7223]), (472, 112, mX12_sell, 16, (0, 0), [8027, 7229, 7230, 1013, 7231]), (475, 112, mX12_hours, 0, (0, 0), [8028, 8030, 98, 1013, 8031]), (448, 112, mX12_hour, 16, (0, 0), [8032, 7090, 7091, 1013, 7092]), (478, 112, mX12_laysCuts, 14, (0, 0), [8061, 8063, 99, 1013, 8064]), (481, 112, mX12_broughtBy, 10, (0, 0), [8065, 8067, 100, 1013, 8068]), (487, 112, mX12_unmetToday, 18, (0, 0), [8077, 8079, 101, 1013, 8080]), (484, 112, mX12_feetInAll, 18, (0, 0), [8081, 8083, 102, 1013, 8084]), (490, 412, mX12_has, 15, (0, 0), [8089, 8090, 1013, 8091]), (493, 412, mX12_many, 16, (0, 0), [8092, 8093, 1013, 8094]), (496, 112, mX12_givesBy, 4, (0, 0), [8099, 8101, 103, 1013, 8102]), (500, 112, mX12_hoursOf, 10, (0, 0), [8107, 8109, 104, 1013, 8110]), (503, 112, mX12_barnsBy, 16, (0, 0), [8123, 8125, 105, 1013, 8126]), (512, 412, mX12_common, 42, (0, 0), [8138, 8139, 1013, 8140])]
def ftX12 : List (Nat × Nat × Nat × Nat) := [(7, 12, 0, 5236), (13, 12, 1, 5237), (16, 12, 2, 5238), (120, 12, 3, 5239), (20, 12, 4, 6000), (24, 12, 5, 6001), (27, 12, 6, 6002), (30, 12, 7, 6003), (33, 12, 8, 6004), (36, 12, 9, 6005), (39, 12, 10, 6006), (42, 12, 11, 6007), (45, 12, 12, 6008), (48, 12, 13, 6009), (194, 12, 14, 6010), (191, 12, 15, 6011), (197, 12, 16, 6012), (200, 12, 17, 6013), (213, 12, 18, 6014), (217, 12, 19, 6015), (220, 12, 20, 6016), (229, 12, 21, 6017), (226, 12, 22, 6018), (51, 12, 23, 6019), (54, 12, 24, 6020), (241, 12, 25, 6021), (57, 12, 26, 6022), (60, 12, 27, 6023), (261, 12, 28, 6024), (63, 12, 29, 6025), (303, 12, 30, 6026), (275, 12, 31, 6027), (66, 12, 32, 6028), (69, 12, 33, 6029), (72, 12, 34, 6030), (75, 12, 35, 6031), (78, 12, 36, 6032), (223, 12, 37, 6033), (81, 12, 38, 6034), (84, 12, 39, 6035), (87, 12, 40, 6036), (90, 12, 41, 6037), (94, 12, 42, 6038), (97, 12, 43, 6039), (100, 12, 44, 6040), (103, 12, 45, 6041), (106, 12, 46, 6042), (109, 12, 47, 6043)]
def ktX12 : List (Nat × Int64 × Nat) := [(207, (64), 6183), (127, (11729831), 6187), (129, (667614707), 6188), (131, (55578630963), 6189), (133, (865520435), 6190), (135, (186489), 6191), (137, (883071911), 6192), (139, (54316697970), 6193), (141, (9051310), 6194), (143, (146804), 6195), (145, (11672820), 6196), (147, (220389), 6197), (149, (11992485), 6198), (151, (13523756), 6199), (153, (10681714), 6200), (155, (11443108), 6201), (157, (3046), 6202), (159, (2233), 6203), (161, (3375), 6204), (163, (10169325), 6205), (165, (3058), 6206), (167, (138148), 6207), (169, (191476), 6208), (171, (12721332), 6209), (173, (149625), 6210), (175, (43581340212), 6211), (177, (667614702), 6212), (179, (598932836), 6213), (181, (9575595), 6214), (183, (47877618984), 6215), (185, (10640549), 6216), (187, (803137906), 6217), (189, (55440722935), 6218), (339, (100), 7129), (331, (1000000), 7136), (333, (-1000000), 7137), (506, (10), 8135), (508, (2), 8136), (510, (8), 8137)]
def itX12 : List (Nat × Int32 × Nat) := [(216, (99999), 6219)]
def ntX12 : List (Nat × Nat × List Nat) := []
def ctJ6 : List XCe := []
def ftJ6 : List (Nat × Nat × Nat × Nat) := []
def ktJ6 : List (Nat × Int64 × Nat) := []
def itJ6 : List (Nat × Int32 × Nat) := [(265, (1431655765), 5153), (266, (858993459), 5154), (267, (252645135), 5155)]
def ntJ6 : List (Nat × Nat × List Nat) := []
def ctL : List XCe := [(9, 211, mX11_init, 6, (66, 8275), [1024, 1025, 1001, 1026]), (13, 111, mX11_thing, 10, (0, 0), [2209, 2210, 2211, 1001, 2212]), (18, 111, mX11_reaper, 16, (0, 0), [2220, 2221, 2222, 1001, 2223]), (23, 111, mX11_barn, 16, (0, 0), [2228, 2229, 2230, 1001, 2231]), (27, 111, mX11_cut, 10, (0, 0), [2236, 2237, 2238, 1001, 2239]), (31, 111, mX11_last, 3, (0, 0), [3086, 3087, 3088, 1001, 3089]), (36, 111, mX11_use, 3, (0, 0), [3098, 3099, 3100, 1001, 3101]), (40, 111, mX11_move, 15, (0, 0), [3123, 3124, 3125, 1001, 3126]), (45, 111, mX11_sell, 16, (0, 0), [3131, 3132, 3133, 1001, 3134]), (49, 111, mX11_hour, 16, (0, 0), [3151, 3152, 3153, 1001, 3154]), (53, 111, mX11_decades, 3, (0, 0), [3192, 3193, 3194, 1001, 3195]), (57, 111, mX11_feed, 2, (0, 0), [3203, 3204, 3205, 1001, 3206]), (62, 111, mX11_end, 16, (0, 0), [3215, 3216, 3217, 1001, 3218]), (66, 111, mX11_text, 18, (0, 0), [3219, 3220, 3221, 1001, 3222]), (71, 111, mX11_fault, 16, (0, 0), [4230, 4231, 4232, 1001, 4233]), (75, 111, mX11_by, 0, (0, 0), [4234, 4235, 4236, 1001, 4237]), (80, 111, mX11_played, 16, (0, 0), [5002, 5003, 5004, 1001, 5005]), (84, 111, mX11_undo, 18, (0, 0), [5018, 5019, 5020, 1001, 5021]), (88, 111, mX11_of, 3, (0, 0), [5026, 5027, 5028, 1001, 5029]), (92, 111, mX11_ofReaper, 3, (0, 0), [5037, 5038, 5039, 1001, 5040]), (96, 111, mX11_bale, 3, (0, 0), [5042, 5043, 5044, 1001, 5045]), (100, 111, mX11_ofBarn, 3, (0, 0), [5049, 5050, 5051, 1001, 5052]), (104, 111, mX11_foretold, 3, (0, 0), [5053, 5054, 5055, 1001, 5056]), (108, 111, mX11_stored, 3, (0, 0), [5066, 5067, 5068, 1001, 5069]), (112, 111, mX11_most, 4, (0, 0), [5070, 5071, 5072, 1001, 5073]), (117, 111, mX11_need, 3, (0, 0), [5094, 5095, 5096, 1001, 5097]), (121, 111, mX11_unmet, 16, (0, 0), [5098, 5099, 5100, 1001, 5101]), (125, 111, mX11_enough, 3, (0, 0), [5106, 5107, 5108, 1001, 5109]), (129, 111, mX11_over, 4, (0, 0), [5114, 5115, 5116, 1001, 5117]), (133, 111, mX11_whose, 10, (0, 0), [5133, 5134, 5135, 1001, 5136]), (137, 111, mX11_at, 10, (0, 0), [5142, 5143, 5144, 1001, 5145]), (141, 111, mX11_leave, 4, (0, 0), [5146, 5147, 5148, 1001, 5149]), (145, 111, mX11_packed, 3, (0, 0), [5160, 5161, 5162, 1001, 5163]), (149, 111, mX11_when, 10, (0, 0), [5177, 5178, 5179, 1001, 5180]), (153, 111, mX11_hail, 43, (0, 0), [5181, 5182, 5183, 1001, 5184]), (158, 111, mX11_image, 18, (0, 0), [5185, 5186, 5187, 1001, 5188]), (162, 111, mX11_back, 18, (0, 0), [5210, 5211, 5212, 1001, 5213]), (166, 111, mX11_about, 16, (0, 0), [5222, 5223, 5224, 1001, 5225]), (12, 212, mX12_init, 6, (31, 9891), [5228, 5229, 1013, 5230]), (17, 112, mX12_thing, 10, (0, 0), [6141, 6142, 6143, 1013, 6144]), (22, 112, mX12_reaper, 16, (0, 0), [6148, 6149, 6150, 1013, 6151]), (26, 112, mX12_barn, 16, (0, 0), [6152, 6153, 6154, 1013, 6155]), (87, 112, mX12_undo, 18, (0, 0), [6156, 6157, 6158, 1013, 6159]), (61, 112, mX12_feed, 2, (0, 0), [6160, 6161, 6162, 1013, 6163]), (65, 112, mX12_end, 16, (0, 0), [6168, 6169, 6170, 1013, 6171]), (70, 112, mX12_text, 18, (0, 0), [6172, 6173, 6174, 1013, 6175]), (74, 112, mX12_fault, 16, (0, 0), [7081, 7082, 7083, 1013, 7084]), (79, 112, mX12_by, 0, (0, 0), [7085, 7086, 7087, 1013, 7088]), (52, 112, mX12_hour, 16, (0, 0), [7089, 7090, 7091, 1013, 7092]), (30, 112, mX12_cut, 10, (0, 0), [7168, 7169, 7170, 1013, 7171]), (35, 112, mX12_last, 3, (0, 0), [7208, 7209, 7210, 1013, 7211]), (39, 112, mX12_use, 3, (0, 0), [7212, 7213, 7214, 1013, 7215]), (44, 112, mX12_move, 15, (0, 0), [7220, 7221, 7222, 1013, 7223]), (48, 112, mX12_sell, 16, (0, 0), [7228, 7229, 7230, 1013, 7231]), (56, 112, mX12_decades, 3, (0, 0), [8000, 8001, 8002, 1013, 8003]), (83, 112, mX12_played, 16, (0, 0), [8016, 8017, 8018, 1013, 8019]), (91, 112, mX12_of, 3, (0, 0), [8033, 8034, 8035, 1013, 8036]), (95, 112, mX12_ofReaper, 3, (0, 0), [8037, 8038, 8039, 1013, 8040]), (99, 112, mX12_bale, 3, (0, 0), [8041, 8042, 8043, 1013, 8044]), (103, 112, mX12_ofBarn, 3, (0, 0), [8045, 8046, 8047, 1013, 8048]), (107, 112, mX12_foretold, 3, (0, 0), [8049, 8050, 8051, 1013, 8052]), (111, 112, mX12_stored, 3, (0, 0), [8053, 8054, 8055, 1013, 8056]), (116, 112, mX12_most, 4, (0, 0), [8057, 8058, 8059, 1013, 8060]), (120, 112, mX12_need, 3, (0, 0), [8069, 8070, 8071, 1013, 8072]), (124, 112, mX12_unmet, 16, (0, 0), [8073, 8074, 8075, 1013, 8076]), (128, 112, mX12_enough, 3, (0, 0), [8085, 8086, 8087, 1013, 8088]), (132, 112, mX12_over, 4, (0, 0), [8095, 8096, 8097, 1013, 8098]), (136, 112, mX12_whose, 10, (0, 0), [8103, 8104, 8105, 1013, 8106]), (140, 112, mX12_at, 10, (0, 0), [8111, 8112, 8113, 1013, 8114]), (144, 112, mX12_leave, 4, (0, 0), [8115, 8116, 8117, 1013, 8118]), (148, 112, mX12_packed, 3, (0, 0), [8119, 8120, 8121, 1013, 8122]), (152, 112, mX12_when, 10, (0, 0), [8127, 8128, 8129, 1013, 8130]), (157, 112, mX12_hail, 43, (0, 0), [8131, 8132, 8133, 1013, 8134]), (161, 112, mX12_image, 18, (0, 0), [8141, 8142, 8143, 1013, 8144]), (165, 112, mX12_back, 18, (0, 0), [8145, 8146, 8147, 1013, 8148]), (169, 112, mX12_about, 16, (0, 0), [8149, 8150, 8151, 1013, 8152])]
def ftL : List (Nat × Nat × Nat × Nat) := []
def ktL : List (Nat × Int64 × Nat) := []
def itL : List (Nat × Int32 × Nat) := []
def ntL : List (Nat × Nat × List Nat) := [(7, 11, [1022, 1023, 1001]), (10, 12, [5226, 5227, 1013])]
def ctJ0 : List XCe := [(335, 113, mJ0_coder_7d493, 44, (0, 0), [4039, 4040, 4041, 1016, 4042]), (492, 113, mJ0_isLatin1_aae02, 12, (0, 0), [4049, 4050, 4051, 1016, 4052]), (495, 414, mJ1_charAt_3b067, 45, (0, 0), [4053, 4054, 1017, 4055]), (1059, 415, mJ3_checkIndex_8e157, 46, (0, 0), [4061, 4062, 1018, 4063]), (633, 113, mJ0_indexOf_7cf53, 3, (0, 0), [4088, 4089, 4090, 1016, 4091]), (505, 113, mJ0_length_8abf5, 18, (0, 0), [4092, 4036, 4037, 1016, 4038]), (637, 414, mJ1_indexOf_4cfef, 47, (0, 0), [4093, 4094, 1017, 4095])]
def ftJ0 : List (Nat × Nat × Nat × Nat) := []
def ktJ0 : List (Nat × Int64 × Nat) := []
def itJ0 : List (Nat × Int32 × Nat) := []
def ntJ0 : List (Nat × Nat × List Nat) := []
def ctJ1 : List XCe := [(9, 413, mJ0_checkIndex_df160, 14, (0, 0), [4056, 4057, 1016, 4058]), (88, 414, mJ1_canEncode_9a6ad, 0, (0, 0), [4096, 4097, 1017, 4098]), (92, 6, m0, 0, (0, 0), [4099, 3120, 1015, 3121]), (38, 5, m0, 0, (0, 0), [4100, 3064, 1015, 3065]), (95, 414, mJ1_indexOfChar_4cfef, 47, (0, 0), [4101, 4102, 1017, 4103])]
def ftJ1 : List (Nat × Nat × Nat × Nat) := []
def ktJ1 : List (Nat × Int64 × Nat) := []
def itJ1 : List (Nat × Int32 × Nat) := []
def ntJ1 : List (Nat × Nat × List Nat) := []
def ctJ3 : List XCe := []
def ftJ3 : List (Nat × Nat × Nat × Nat) := []
def ktJ3 : List (Nat × Int64 × Nat) := []
def itJ3 : List (Nat × Int32 × Nat) := []
def ntJ3 : List (Nat × Nat × List Nat) := []
def xds : List (String × Nat) := [("(I)Z", 1), ("(LBaledShade$Harvest;IIII)V", 5), ("(IIIII)I", 5), ("(II)I", 2), ("(IIII)I", 4), ("()[I", 0), ("()V", 0), ("([III)V", 3), ("(III)V", 3), ("(LBaledShade$Mowing;II)V", 3), ("(III)I", 3), ("(I)V", 1), ("()Z", 0), ("(LBaledShade$Packing;II)V", 3), ("(II)V", 2), ("(II)Z", 2), ("(I)I", 1), ("(III)Z", 3), ("()I", 0), ("(I)C", 1), ("(IIIII)Z", 5), ("(IIII)V", 4), ("(LBaledShade$Told;LBaledShade$Text;)V", 2), ("(LBaledShade$Told;LBaledShade$Laws;)V", 2), ("(LBaledShade$Tape;LBaledShade$Text;)V", 2), ("(LBaledShade$World;)V", 1), ("(LBaledShade$Laws;)V", 1), ("([I)V", 1), ("(I)LBaledShade$Text;", 1), ("(LBaledShade$Text;)Z", 1), ("(IIII)Z", 4), ("([I)Z", 1), ("(III[I)V", 4), ("([ILBaledShade$Steps;)V", 2), ("([I[II)V", 3), ("([I[I)V", 2), ("(Z)V", 1), ("(J)I", 1), ("(I)J", 1), ("(IJJ)J", 3), ("(J)J", 1), ("(JII)I", 3), ("(JJ)J", 2), ("(IIZ)I", 3), ("()B", 0), ("([BI)C", 2), ("(IILjava/util/function/BiFunction;)I", 3), ("([BIII)I", 4)]
def xnestL : List Cond := [.methodLinkNest RX1 23 yX6_init "BaledShade", .methodLinkNest RX11 9 yX6_init "BaledShade", .methodLinkNest RX11 41 yX1_init "BaledShade", .methodLinkNest RX11 48 yX9_init "BaledShade", .methodLinkNest RX11 49 yX8_init "BaledShade", .methodLinkNest RX11 62 yX7_init "BaledShade"]
def xnestJ : List Nat := [1063, 1032, 1055, 1103, 1154, 1228]
def xsel : List Cond := [.selects "BaledShade$Steps" ⟨"BaledShade$Steps", "placeOf", "(I)I"⟩ ⟨"BaledShade$Steps", "placeOf", "(I)I"⟩, .selects "BaledShade$World" ⟨"BaledShade$World", "freeBale", "()I"⟩ ⟨"BaledShade$World", "freeBale", "()I"⟩, .selects "BaledShade$Laws" ⟨"BaledShade$Laws", "describeThing", "(III)V"⟩ ⟨"BaledShade$Laws", "describeThing", "(III)V"⟩, .selects "BaledShade$Laws" ⟨"BaledShade$Laws", "run", "(II)I"⟩ ⟨"BaledShade$Laws", "run", "(II)I"⟩, .selects "BaledShade$World" ⟨"BaledShade$World", "bind", "(III)I"⟩ ⟨"BaledShade$World", "bind", "(III)I"⟩, .selects "BaledShade$World" ⟨"BaledShade$World", "hasRoom", "(II)Z"⟩ ⟨"BaledShade$World", "hasRoom", "(II)Z"⟩, .selects "BaledShade$World" ⟨"BaledShade$World", "darkest", "(I)I"⟩ ⟨"BaledShade$World", "darkest", "(I)I"⟩, .selects "BaledShade$World" ⟨"BaledShade$World", "shorten", "(II)V"⟩ ⟨"BaledShade$World", "shorten", "(II)V"⟩, .selects "BaledShade" ⟨"BaledShade", "passHours", "(I)I"⟩ ⟨"BaledShade", "passHours", "(I)I"⟩, .selects "BaledShade$World" ⟨"BaledShade$World", "draw", "(I)I"⟩ ⟨"BaledShade$World", "draw", "(I)I"⟩, .selects "BaledShade$World" ⟨"BaledShade$World", "balesIn", "(I)I"⟩ ⟨"BaledShade$World", "balesIn", "(I)I"⟩, .selects "BaledShade" ⟨"BaledShade", "textAt", "(I)LBaledShade$Text;"⟩ ⟨"BaledShade", "textAt", "(I)LBaledShade$Text;"⟩, .selects "BaledShade$Tape" ⟨"BaledShade$Tape", "byteAt", "(I)I"⟩ ⟨"BaledShade$Tape", "byteAt", "(I)I"⟩, .selects "BaledShade$Tape" ⟨"BaledShade$Tape", "endOfDigits", "(I)I"⟩ ⟨"BaledShade$Tape", "endOfDigits", "(I)I"⟩, .selects "BaledShade$Tape" ⟨"BaledShade$Tape", "numberIn", "(II)I"⟩ ⟨"BaledShade$Tape", "numberIn", "(II)I"⟩, .selects "BaledShade$Tape" ⟨"BaledShade$Tape", "addToken", "(III)V"⟩ ⟨"BaledShade$Tape", "addToken", "(III)V"⟩, .selects "BaledShade$Tape" ⟨"BaledShade$Tape", "endOfLetters", "(I)I"⟩ ⟨"BaledShade$Tape", "endOfLetters", "(I)I"⟩, .selects "BaledShade$Tape" ⟨"BaledShade$Tape", "wordIn", "(II)I"⟩ ⟨"BaledShade$Tape", "wordIn", "(II)I"⟩, .selects "BaledShade$Tape" ⟨"BaledShade$Tape", "isWord", "(III)Z"⟩ ⟨"BaledShade$Tape", "isWord", "(III)Z"⟩, .selects "BaledShade$Reader" ⟨"BaledShade$Reader", "advance", "()V"⟩ ⟨"BaledShade$Reader", "advance", "()V"⟩, .selects "BaledShade$Reader" ⟨"BaledShade$Reader", "clause", "(I)Z"⟩ ⟨"BaledShade$Reader", "clause", "(I)Z"⟩, .selects "BaledShade$Reader" ⟨"BaledShade$Reader", "fail", "(I)Z"⟩ ⟨"BaledShade$Reader", "fail", "(I)Z"⟩, .selects "BaledShade$Reader" ⟨"BaledShade$Reader", "deed", "(I)Z"⟩ ⟨"BaledShade$Reader", "deed", "(I)Z"⟩, .selects "BaledShade$Reader" ⟨"BaledShade$Reader", "number", "(II)Z"⟩ ⟨"BaledShade$Reader", "number", "(II)Z"⟩, .selects "BaledShade$Reader" ⟨"BaledShade$Reader", "word", "(I)Z"⟩ ⟨"BaledShade$Reader", "word", "(I)Z"⟩, .selects "BaledShade$Reader" ⟨"BaledShade$Reader", "isWord", "(I)Z"⟩ ⟨"BaledShade$Reader", "isWord", "(I)Z"⟩, .selects "BaledShade$Reader" ⟨"BaledShade$Reader", "sign", "(I)Z"⟩ ⟨"BaledShade$Reader", "sign", "(I)Z"⟩, .selects "BaledShade$Reader" ⟨"BaledShade$Reader", "either", "()Z"⟩ ⟨"BaledShade$Reader", "either", "()Z"⟩, .selects "BaledShade$Reader" ⟨"BaledShade$Reader", "ask", "()Z"⟩ ⟨"BaledShade$Reader", "ask", "()Z"⟩, .selects "BaledShade$Reader" ⟨"BaledShade$Reader", "sum", "(I)Z"⟩ ⟨"BaledShade$Reader", "sum", "(I)Z"⟩, .selects "BaledShade$Reader" ⟨"BaledShade$Reader", "product", "(I)Z"⟩ ⟨"BaledShade$Reader", "product", "(I)Z"⟩, .selects "BaledShade$Reader" ⟨"BaledShade$Reader", "one", "(I)Z"⟩ ⟨"BaledShade$Reader", "one", "(I)Z"⟩, .selects "BaledShade$Reader" ⟨"BaledShade$Reader", "name", "(I)Z"⟩ ⟨"BaledShade$Reader", "name", "(I)Z"⟩, .selects "BaledShade$Reader" ⟨"BaledShade$Reader", "part", "(I)Z"⟩ ⟨"BaledShade$Reader", "part", "(I)Z"⟩, .selects "BaledShade" ⟨"BaledShade", "setRule", "(I)V"⟩ ⟨"BaledShade", "setRule", "(I)V"⟩, .selects "BaledShade" ⟨"BaledShade", "perform", "(IIII)Z"⟩ ⟨"BaledShade", "perform", "(IIII)Z"⟩, .selects "BaledShade" ⟨"BaledShade", "foresee", "(I)V"⟩ ⟨"BaledShade", "foresee", "(I)V"⟩, .selects "BaledShade$Mowing" ⟨"BaledShade$Mowing", "consider", "(I)V"⟩ ⟨"BaledShade$Mowing", "consider", "(I)V"⟩, .selects "BaledShade" ⟨"BaledShade", "firstUnmet", "(I)I"⟩ ⟨"BaledShade", "firstUnmet", "(I)I"⟩, .selects "BaledShade$Harvest" ⟨"BaledShade$Harvest", "grownBehind", "(II)I"⟩ ⟨"BaledShade$Harvest", "grownBehind", "(II)I"⟩, .selects "BaledShade" ⟨"BaledShade", "hoursOf", "(III)I"⟩ ⟨"BaledShade", "hoursOf", "(III)I"⟩, .selects "BaledShadeModel" ⟨"BaledShadeModel", "copies", "(Z)V"⟩ ⟨"BaledShadeModel", "copies", "(Z)V"⟩, .selects "BaledShadeModel" ⟨"BaledShadeModel", "put", "(I)V"⟩ ⟨"BaledShadeModel", "put", "(I)V"⟩, .selects "BaledShadeModel" ⟨"BaledShadeModel", "next", "()V"⟩ ⟨"BaledShadeModel", "next", "()V"⟩, .selects "BaledShadeModel" ⟨"BaledShadeModel", "asks", "()V"⟩ ⟨"BaledShadeModel", "asks", "()V"⟩, .selects "BaledShadeModel" ⟨"BaledShadeModel", "isWord", "(I)Z"⟩ ⟨"BaledShadeModel", "isWord", "(I)Z"⟩, .selects "BaledShadeModel" ⟨"BaledShadeModel", "opensSign", "(I)Z"⟩ ⟨"BaledShadeModel", "opensSign", "(I)Z"⟩, .selects "BaledShadeModel" ⟨"BaledShadeModel", "errs", "(I)V"⟩ ⟨"BaledShadeModel", "errs", "(I)V"⟩, .selects "BaledShadeModel" ⟨"BaledShadeModel", "opensFrame", "(I)V"⟩ ⟨"BaledShadeModel", "opensFrame", "(I)V"⟩, .selects "BaledShadeModel" ⟨"BaledShadeModel", "begins", "()V"⟩ ⟨"BaledShadeModel", "begins", "()V"⟩, .selects "BaledShadeModel" ⟨"BaledShadeModel", "nameNow", "()I"⟩ ⟨"BaledShadeModel", "nameNow", "()I"⟩, .selects "BaledShadeModel" ⟨"BaledShadeModel", "emits", "(II)V"⟩ ⟨"BaledShadeModel", "emits", "(II)V"⟩, .selects "BaledShadeModel" ⟨"BaledShadeModel", "oneIsOver", "()V"⟩ ⟨"BaledShadeModel", "oneIsOver", "()V"⟩, .selects "BaledShadeModel" ⟨"BaledShadeModel", "top", "()I"⟩ ⟨"BaledShadeModel", "top", "()I"⟩, .selects "BaledShadeModel" ⟨"BaledShadeModel", "isSign", "(I)Z"⟩ ⟨"BaledShadeModel", "isSign", "(I)Z"⟩, .selects "BaledShadeModel" ⟨"BaledShadeModel", "part", "()V"⟩ ⟨"BaledShadeModel", "part", "()V"⟩, .selects "BaledShadeModel" ⟨"BaledShadeModel", "number", "(II)I"⟩ ⟨"BaledShadeModel", "number", "(II)I"⟩, .selects "BaledShadeModel" ⟨"BaledShadeModel", "goesOn", "()V"⟩ ⟨"BaledShadeModel", "goesOn", "()V"⟩, .selects "BaledShadeModel" ⟨"BaledShadeModel", "waitsFor", "(I)V"⟩ ⟨"BaledShadeModel", "waitsFor", "(I)V"⟩, .selects "BaledShadeModel" ⟨"BaledShadeModel", "works", "(I)V"⟩ ⟨"BaledShadeModel", "works", "(I)V"⟩, .selects "BaledShadeModel" ⟨"BaledShadeModel", "askIsOver", "()V"⟩ ⟨"BaledShadeModel", "askIsOver", "()V"⟩, .selects "BaledShadeModel" ⟨"BaledShadeModel", "clauseIsOver", "()V"⟩ ⟨"BaledShadeModel", "clauseIsOver", "()V"⟩, .selects "BaledShadeModel" ⟨"BaledShadeModel", "asksOn", "()V"⟩ ⟨"BaledShadeModel", "asksOn", "()V"⟩, .selects "BaledShadeModel" ⟨"BaledShadeModel", "clause", "()V"⟩ ⟨"BaledShadeModel", "clause", "()V"⟩, .selects "BaledShadeModel" ⟨"BaledShadeModel", "wasTold", "(I)Z"⟩ ⟨"BaledShadeModel", "wasTold", "(I)Z"⟩, .selects "BaledShadeModel" ⟨"BaledShadeModel", "doing", "()V"⟩ ⟨"BaledShadeModel", "doing", "()V"⟩, .selects "BaledShadeModel" ⟨"BaledShadeModel", "numberBehind", "(III)I"⟩ ⟨"BaledShadeModel", "numberBehind", "(III)I"⟩, .selects "BaledShadeModel" ⟨"BaledShadeModel", "keepsStep", "()V"⟩ ⟨"BaledShadeModel", "keepsStep", "()V"⟩, .selects "BaledShadeModel" ⟨"BaledShadeModel", "laysNow", "()V"⟩ ⟨"BaledShadeModel", "laysNow", "()V"⟩, .selects "BaledShadeModel" ⟨"BaledShadeModel", "hourPasses", "()V"⟩ ⟨"BaledShadeModel", "hourPasses", "()V"⟩, .selects "BaledShadeModel" ⟨"BaledShadeModel", "dayBegins", "()V"⟩ ⟨"BaledShadeModel", "dayBegins", "()V"⟩, .selects "BaledShadeModel" ⟨"BaledShadeModel", "draw", "(I)I"⟩ ⟨"BaledShadeModel", "draw", "(I)I"⟩, .selects "BaledShadeModel" ⟨"BaledShadeModel", "growsOf", "(I)I"⟩ ⟨"BaledShadeModel", "growsOf", "(I)I"⟩, .selects "BaledShadeModel" ⟨"BaledShadeModel", "ordersOf", "(I)I"⟩ ⟨"BaledShadeModel", "ordersOf", "(I)I"⟩, .selects "BaledShadeModel" ⟨"BaledShadeModel", "namesOfThing", "(I)V"⟩ ⟨"BaledShadeModel", "namesOfThing", "(I)V"⟩, .selects "BaledShadeModel" ⟨"BaledShadeModel", "saysOf", "(I)J"⟩ ⟨"BaledShadeModel", "saysOf", "(I)J"⟩, .selects "BaledShadeModel" ⟨"BaledShadeModel", "spoilsOf", "(I)I"⟩ ⟨"BaledShadeModel", "spoilsOf", "(I)I"⟩, .selects "BaledShadeModel" ⟨"BaledShadeModel", "namesOfBale", "(I)V"⟩ ⟨"BaledShadeModel", "namesOfBale", "(I)V"⟩, .selects "BaledShadeModel" ⟨"BaledShadeModel", "balesIn", "(I)I"⟩ ⟨"BaledShadeModel", "balesIn", "(I)I"⟩, .selects "BaledShadeModel" ⟨"BaledShadeModel", "shortens", "(II)V"⟩ ⟨"BaledShadeModel", "shortens", "(II)V"⟩, .selects "BaledShadeModel" ⟨"BaledShadeModel", "bales", "(IIII)V"⟩ ⟨"BaledShadeModel", "bales", "(IIII)V"⟩, .selects "BaledShadeModel" ⟨"BaledShadeModel", "keepsNow", "()V"⟩ ⟨"BaledShadeModel", "keepsNow", "()V"⟩, .selects "BaledShadeModel" ⟨"BaledShadeModel", "isThing", "(I)Z"⟩ ⟨"BaledShadeModel", "isThing", "(I)Z"⟩, .selects "BaledShadeModel" ⟨"BaledShadeModel", "isReaper", "(I)Z"⟩ ⟨"BaledShadeModel", "isReaper", "(I)Z"⟩, .selects "BaledShadeModel" ⟨"BaledShadeModel", "isBarn", "(I)Z"⟩ ⟨"BaledShadeModel", "isBarn", "(I)Z"⟩, .selects "BaledShadeModel" ⟨"BaledShadeModel", "cutsNow", "(III)I"⟩ ⟨"BaledShadeModel", "cutsNow", "(III)I"⟩, .selects "BaledShadeModel" ⟨"BaledShadeModel", "longOf", "(I)I"⟩ ⟨"BaledShadeModel", "longOf", "(I)I"⟩, .selects "BaledShadeModel" ⟨"BaledShadeModel", "freeBale", "()I"⟩ ⟨"BaledShadeModel", "freeBale", "()I"⟩, .selects "BaledShadeModel" ⟨"BaledShadeModel", "mayCut", "(II)Z"⟩ ⟨"BaledShadeModel", "mayCut", "(II)Z"⟩, .selects "BaledShadeModel" ⟨"BaledShadeModel", "isRoom", "(II)Z"⟩ ⟨"BaledShadeModel", "isRoom", "(II)Z"⟩, .selects "BaledShadeModel" ⟨"BaledShadeModel", "feetIn", "(I)I"⟩ ⟨"BaledShadeModel", "feetIn", "(I)I"⟩, .selects "BaledShadeModel" ⟨"BaledShadeModel", "usesNow", "(II)V"⟩ ⟨"BaledShadeModel", "usesNow", "(II)V"⟩, .selects "BaledShadeModel" ⟨"BaledShadeModel", "isBale", "(I)Z"⟩ ⟨"BaledShadeModel", "isBale", "(I)Z"⟩, .selects "BaledShadeModel" ⟨"BaledShadeModel", "sellsNow", "(I)I"⟩ ⟨"BaledShadeModel", "sellsNow", "(I)I"⟩, .selects "BaledShadeModel" ⟨"BaledShadeModel", "sellsOf", "(I)I"⟩ ⟨"BaledShadeModel", "sellsOf", "(I)I"⟩, .selects "BaledShadeModel" ⟨"BaledShadeModel", "happens", "()V"⟩ ⟨"BaledShadeModel", "happens", "()V"⟩, .selects "BaledShadeModel" ⟨"BaledShadeModel", "passesThrough", "(I)V"⟩ ⟨"BaledShadeModel", "passesThrough", "(I)V"⟩, .selects "BaledShadeModel" ⟨"BaledShadeModel", "canPass", "()Z"⟩ ⟨"BaledShadeModel", "canPass", "()Z"⟩, .selects "BaledShadeModel" ⟨"BaledShadeModel", "hours", "(I)Z"⟩ ⟨"BaledShadeModel", "hours", "(I)Z"⟩, .selects "BaledShadeModel" ⟨"BaledShadeModel", "laysCuts", "(II)V"⟩ ⟨"BaledShadeModel", "laysCuts", "(II)V"⟩, .selects "BaledShadeModel" ⟨"BaledShadeModel", "broughtBy", "(III)I"⟩ ⟨"BaledShadeModel", "broughtBy", "(III)I"⟩, .selects "BaledShadeModel" ⟨"BaledShadeModel", "unmetToday", "()I"⟩ ⟨"BaledShadeModel", "unmetToday", "()I"⟩, .selects "BaledShadeModel" ⟨"BaledShadeModel", "feetInAll", "()I"⟩ ⟨"BaledShadeModel", "feetInAll", "()I"⟩, .selects "BaledShadeModel" ⟨"BaledShadeModel", "givesBy", "(IIII)I"⟩ ⟨"BaledShadeModel", "givesBy", "(IIII)I"⟩, .selects "BaledShadeModel" ⟨"BaledShadeModel", "hoursOf", "(III)I"⟩ ⟨"BaledShadeModel", "hoursOf", "(III)I"⟩, .selects "BaledShadeModel" ⟨"BaledShadeModel", "barnsBy", "(I)I"⟩ ⟨"BaledShadeModel", "barnsBy", "(I)I"⟩]
def xtab : Nat → List Cond := fun g => match g with
  | 0 => xsel
  | 1 => tables_1_1
  | 2 => tables_1_2
  | 3 => tables_1_3
  | 4 => tables_1_4
  | 5 => tables_1_5
  | 6 => tables_1_6
  | 7 => tables_1_7
  | _ => tables_1_8
end
