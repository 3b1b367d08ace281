-- ===== abstract values and heaps: places instead of addresses =====
def xgt : List Cond := lw_tbl.filter goodWord
theorem xgt_in {w : Cond} (h : w ∈ xgt) : w ∈ lw_tbl := (List.mem_filter.mp h).1
theorem xgt_of {w : Cond} (h : w ∈ lw_tbl) (hg : goodWord w = true) : w ∈ xgt := List.mem_filter.mpr ⟨h, hg⟩
def xv (ρ : Nat → Nat) : Value → Value
  | .ref k => .ref (ρ k)
  | v => v
theorem xv_cat (ρ : Nat → Nat) (v : Value) : (xv ρ v).category = v.category := by cases v <;> rfl
theorem xv_cats (ρ : Nat → Nat) (st : List Value) : ((st.map (xv ρ)).map fun v => v.category).sum = (st.map fun v => v.category).sum := by
  rw [List.map_map]
  congr 1
  exact List.map_congr_left (fun v _ => xv_cat ρ v)
abbrev XO : Type := (Nat × List (Option Nat)) ⊕ (Nat × Nat × List (Option Nat))
abbrev XI : Type := Nat → Nat → Int32
abbrev XJ : Type := Nat → Nat → Int64
abbrev XD : Type := va_G × (Nat → ClassId)
abbrev XP : Type := List (Option Value) → List Value → List XO → XI → XJ → Nat → Nat → Prop
abbrev XR : Type := Option Value → List XO → XI → XJ → Prop
def uI (I : XI) (p k : Nat) (v : Int32) : XI := fun q => if q = p then upd (I p) k v else I q
def uJ (J : XJ) (p k : Nat) (v : Int64) : XJ := fun q => if q = p then vp_updL (J p) k v else J q
def zI (I : XI) (p : Nat) : XI := fun q => if q = p then (fun _ => 0) else I q
def zJ (J : XJ) (p : Nat) : XJ := fun q => if q = p then (fun _ => 0) else J q
/-- n places of row p from place sp of row q -/
def cI (I : XI) (q p : Nat) (sp dp n : Nat) : XI := fun r => if r = p then va_cpy (I q) (I p) sp dp n else I r
def xn {α : Type} : List α → Nat → Option α
  | [], _ => none
  | a :: _, 0 => some a
  | _ :: l, n + 1 => xn l n
theorem xn_eq {α : Type} : ∀ (l : List α) (n : Nat), xn l n = l[n]?
  | [], n => by simp [xn]
  | a :: l, 0 => rfl
  | a :: l, n + 1 => by rw [xn, xn_eq l n, List.getElem?_cons_succ]
def xlk {β : Type} : List (Nat × β) → Nat → Option β
  | [], _ => none
  | (a, b) :: l, k => match Nat.beq a k with
    | true => some b
    | false => xlk l k
theorem xlk_mem {β : Type} : ∀ {l : List (Nat × β)} {k : Nat} {b : β}, xlk l k = some b → (k, b) ∈ l
  | (a, c) :: l, k, b, h => by
    unfold xlk at h
    split at h
    · rename_i e
      cases h
      obtain rfl := Nat.eq_of_beq_eq_true e
      exact List.mem_cons_self
    · exact List.mem_cons_of_mem _ (xlk_mem h)
def isRefT : FieldType → Bool
  | .object _ => true
  | .array _ => true
  | _ => false
def xref (rs : List (Option Nat)) (k : Nat) : Value := match xn rs k with
  | some (some q) => .ref q
  | _ => .null
def xopt (ρ : Nat → Nat) (rs : List (Option Nat)) (k : Nat) : Option Nat := match xn rs k with
  | some (some q) => some (ρ q)
  | _ => none
theorem xopt_ref (ρ : Nat → Nat) (rs : List (Option Nat)) (k : Nat) : va_rf (xopt ρ rs k) = xv ρ (xref rs k) := by
  unfold xopt xref
  cases h : xn rs k with
  | none => rfl
  | some o => cases o <;> rfl
def xfv (ρ : Nat → Nat) (Ip : Nat → Int32) (ci : Nat) (rs : List (Option Nat)) (k : Nat) : Value := if isRefT (xty ci k) = true then xv ρ (xref rs k) else .int (Ip k)
def xob (ρ : Nat → Nat) (Ip : Nat → Int32) (ci : Nat) (rs : List (Option Nat)) : List Value := (List.range (xN ci)).map (xfv ρ Ip ci rs)
def xel (D : XD) (ρ : Nat → Nat) (I : XI) (J : XJ) (k : Nat) (o : XO) : Nat × va_E := (ρ k, match o with
  | .inl q => .inr (q.1, xob ρ (I k) q.1 q.2)
  | .inr q => .inl (D.2 q.1, q.2.1, if q.1 = 2 then .inr (.inl (J k)) else if q.1 = 3 then .inr (.inr (.inr (.inr (xopt ρ q.2.2)))) else .inl (I k)))
def wl (D : XD) (ρ : Nat → Nat) (sh : List XO) (I : XI) (J : XJ) : va_W := sh.mapIdx (xel D ρ I J)
theorem wl_get {D : XD} {ρ : Nat → Nat} {sh : List XO} {I : XI} {J : XJ} {k : Nat} {o : XO} (h : xn sh k = some o) : (wl D ρ sh I J)[k]? = some (xel D ρ I J k o) := by
  rw [xn_eq] at h
  simp [wl, List.getElem?_mapIdx, h]
theorem wl_of {D : XD} {ρ : Nat → Nat} {sh : List XO} {I : XI} {J : XJ} {k : Nat} {q : Nat × va_E} (h : (wl D ρ sh I J)[k]? = some q) : ∃ o, xn sh k = some o ∧ q = xel D ρ I J k o := by
  simp only [wl, List.getElem?_mapIdx] at h
  obtain ⟨o, h1, h2⟩ := Option.map_eq_some_iff.mp h
  exact ⟨o, by rw [xn_eq]; exact h1, h2.symm⟩
theorem wl_len {D : XD} {ρ : Nat → Nat} {sh : List XO} {I : XI} {J : XJ} : (wl D ρ sh I J).length = sh.length := by simp [wl]
/-- the world behind a write at place p -/
theorem wl_upd {D : XD} {ρ : Nat → Nat} {sh sh' : List XO} {I I' : XI} {J J' : XJ} {p : Nat} {o : XO} {e : va_E} (hl : sh'.length = sh.length) (hp : xn sh' p = some o) (hs : ∀ i, i ≠ p → xn sh' i = xn sh i) (hI : ∀ i, i ≠ p → I' i = I i) (hJ : ∀ i, i ≠ p → J' i = J i) (he : xel D ρ I' J' p o = (ρ p, e)) : (wl D ρ sh I J).set p (ρ p, e) = wl D ρ sh' I' J' := by
  have hlt : p < sh.length := by
    rw [xn_eq] at hp
    rw [← hl]
    exact (List.getElem?_eq_some_iff.mp hp).1
  apply List.ext_getElem?
  intro i
  by_cases hi : i = p
  · subst hi
    rw [List.getElem?_set_self (by rw [wl_len]; exact hlt), wl_get hp, he]
  · rw [List.getElem?_set_ne (Ne.symm hi)]
    simp only [wl, List.getElem?_mapIdx]
    rw [← xn_eq, ← xn_eq, hs i hi]
    have e2 : ∀ o, xel D ρ I' J' i o = xel D ρ I J i o := fun o => by simp only [xel, hI i hi, hJ i hi]
    rw [funext e2]
def xset : List XO → Nat → XO → List XO
  | [], _, _ => []
  | _ :: l, 0, b => b :: l
  | a :: l, n + 1, b => a :: xset l n b
theorem xset_eq : ∀ (l : List XO) (n : Nat) (b : XO), xset l n b = l.set n b
  | [], n, b => by simp [xset]
  | a :: l, 0, b => rfl
  | a :: l, n + 1, b => by rw [xset, xset_eq l n b, List.set_cons_succ]
def xsetR : List (Option Nat) → Nat → Option Nat → List (Option Nat)
  | [], _, _ => []
  | _ :: l, 0, b => b :: l
  | a :: l, n + 1, b => a :: xsetR l n b
theorem xsetR_eq : ∀ (l : List (Option Nat)) (n : Nat) (b : Option Nat), xsetR l n b = l.set n b
  | [], n, b => by simp [xsetR]
  | a :: l, 0, b => rfl
  | a :: l, n + 1, b => by rw [xsetR, xsetR_eq l n b, List.set_cons_succ]
theorem xob_len {ρ : Nat → Nat} {Ip : Nat → Int32} {ci : Nat} {rs : List (Option Nat)} : (xob ρ Ip ci rs).length = xN ci := by simp [xob]
theorem xob_get {ρ : Nat → Nat} {Ip : Nat → Int32} {ci k : Nat} {rs : List (Option Nat)} (h : k < xN ci) : (xob ρ Ip ci rs)[k]? = some (xfv ρ Ip ci rs k) := by simp [xob, h]
theorem xob_set {ρ : Nat → Nat} {Ip Ip' : Nat → Int32} {ci k : Nat} {rs rs' : List (Option Nat)} {v : Value} (h : k < xN ci) (hv : xfv ρ Ip' ci rs' k = v) (ho : ∀ j, j ≠ k → xfv ρ Ip' ci rs' j = xfv ρ Ip ci rs j) : (xob ρ Ip ci rs).set k v = xob ρ Ip' ci rs' := by
  apply List.ext_getElem?
  intro i
  by_cases hi : i = k
  · subst hi
    rw [List.getElem?_set_self (by rw [xob_len]; exact h), xob_get h, hv]
  · rw [List.getElem?_set_ne (Ne.symm hi)]
    by_cases hN : i < xN ci
    · rw [xob_get hN, xob_get hN, ho i hi]
    · rw [List.getElem?_eq_none (by rw [xob_len]; omega), List.getElem?_eq_none (by rw [xob_len]; omega)]
theorem uI_ne {I : XI} {p k q : Nat} {v : Int32} (h : q ≠ p) : uI I p k v q = I q := by simp [uI, h]
theorem uI_eq {I : XI} {p k : Nat} {v : Int32} : uI I p k v p = upd (I p) k v := by simp [uI]
theorem uJ_ne {J : XJ} {p k q : Nat} {v : Int64} (h : q ≠ p) : uJ J p k v q = J q := by simp [uJ, h]
theorem uJ_eq {J : XJ} {p k : Nat} {v : Int64} : uJ J p k v p = vp_updL (J p) k v := by simp [uJ]
theorem cI_ne {I : XI} {q p sp dp n r : Nat} (h : r ≠ p) : cI I q p sp dp n r = I r := by simp [cI, h]
theorem cI_eq {I : XI} {q p sp dp n : Nat} : cI I q p sp dp n p = va_cpy (I q) (I p) sp dp n := by simp [cI]
theorem zI_ne {I : XI} {p q : Nat} (h : q ≠ p) : zI I p q = I q := by simp [zI, h]
theorem zI_eq {I : XI} {p : Nat} : zI I p p = fun _ => 0 := by simp [zI]
theorem zJ_ne {J : XJ} {p q : Nat} (h : q ≠ p) : zJ J p q = J q := by simp [zJ, h]
theorem zJ_eq {J : XJ} {p : Nat} : zJ J p p = fun _ => 0 := by simp [zJ]
theorem xset_len {l : List XO} {n : Nat} {b : XO} : (xset l n b).length = l.length := by rw [xset_eq]; simp
theorem xset_same {l : List XO} {n : Nat} {a b : XO} (h : xn l n = some a) : xn (xset l n b) n = some b := by
  rw [xn_eq] at h
  rw [xn_eq, xset_eq, List.getElem?_set_self (List.getElem?_eq_some_iff.mp h).1]
theorem xset_ne {l : List XO} {n i : Nat} {b : XO} (h : i ≠ n) : xn (xset l n b) i = xn l i := by
  rw [xn_eq, xn_eq, xset_eq, List.getElem?_set_ne (Ne.symm h)]
-- ===== locals =====
def kL1 (lc : List (Option Value)) (j : Nat) : List (Option Value) := match xn lc j with
  | some (some v) => if v.category = 2 then lc.set j none else lc
  | _ => lc
def kL (lc : List (Option Value)) : Nat → List (Option Value)
  | 0 => lc
  | j + 1 => kL1 lc j
def sL (lc : List (Option Value)) (i : Nat) (v : Value) : List (Option Value) :=
  if v.category = 2 then ((kL lc i).set i (some v)).set (i + 1) none else (kL lc i).set i (some v)
theorem kL1_len {lc : List (Option Value)} {i : Nat} : (kL1 lc i).length = lc.length := by
  unfold kL1
  split
  · split
    · simp
    · rfl
  · rfl
theorem kL_len {lc : List (Option Value)} {i : Nat} : (kL lc i).length = lc.length := by
  cases i with
  | zero => rfl
  | succ j => exact kL1_len
theorem sL_len {lc : List (Option Value)} {i : Nat} {v : Value} : (sL lc i v).length = lc.length := by
  unfold sL
  split <;> simp [kL_len]
theorem kL_get {lc : List (Option Value)} {i j : Nat} {w : Value} (h : (kL lc i)[j]? = some (some w)) : lc[j]? = some (some w) ∧ ¬ (j + 1 = i ∧ w.category = 2) := by
  cases i with
  | zero => exact ⟨h, by omega⟩
  | succ n =>
    replace h : (kL1 lc n)[j]? = some (some w) := h
    unfold kL1 at h
    rw [xn_eq] at h
    split at h
    · rename_i v hv
      split at h
      · rename_i hc
        by_cases hj : j = n
        · subst hj
          have hl := (List.getElem?_eq_some_iff.mp hv).1
          rw [List.getElem?_set_self hl] at h
          cases h
        · rw [List.getElem?_set_ne (Ne.symm hj)] at h
          exact ⟨h, by omega⟩
      · rename_i hc
        refine ⟨h, fun q => ?_⟩
        obtain ⟨q1, q2⟩ := q
        have hj : j = n := by omega
        subst hj
        rw [hv] at h
        cases h
        exact hc q2
    · rename_i hv
      refine ⟨h, fun q => ?_⟩
      obtain ⟨q1, q2⟩ := q
      have hj : j = n := by omega
      subst hj
      exact hv _ h
/-- what the abstract locals say of the machine's -/
def xl (ρ : Nat → Nat) (lc : List (Option Value)) (ls : Array Slot) : Prop := ls.size = lc.length ∧ lv_wf ls ∧ ∀ (i : Nat) (v : Value), lc[i]? = some (some v) → ls[i]? = some (.val (xv ρ v))
def lvL (ρ : Nat → Nat) (lc : List (Option Value)) : List (Nat × Value) := (List.range lc.length).filterMap (fun i => match lc[i]? with
  | some (some v) => some (i, xv ρ v)
  | _ => none)
theorem lvL_mem {ρ : Nat → Nat} {lc : List (Option Value)} {i : Nat} {v : Value} (h : lc[i]? = some (some v)) : (i, xv ρ v) ∈ lvL ρ lc := by
  refine List.mem_filterMap.mpr ⟨i, List.mem_range.mpr (List.getElem?_eq_some_iff.mp h).1, ?_⟩
  rw [h]
theorem xl.has {ρ : Nat → Nat} {lc : List (Option Value)} {ls : Array Slot} (h : xl ρ lc ls) : lv_has ls ls.size (lvL ρ lc) := by
  refine ⟨rfl, h.2.1, fun q hq => ?_⟩
  obtain ⟨i, -, hi⟩ := List.mem_filterMap.mp hq
  split at hi
  · rename_i v hv
    cases hi
    exact h.2.2 i v hv
  · cases hi
theorem xl.at {ρ : Nat → Nat} {lc : List (Option Value)} {ls : Array Slot} (h : xl ρ lc ls) {i : Nat} {v : Value} (hi : xn lc i = some (some v)) : ls[i]? = some (.val (xv ρ v)) := h.2.2 i v (by rw [← xn_eq]; exact hi)
theorem xl_store1 {ρ : Nat → Nat} {lc : List (Option Value)} {ls ls' : Array Slot} {i : Nat} {v : Value} (h : xl ρ lc ls) (hi : i < lc.length) (hc : v.category = 1) (h' : lv_has ls' ls.size ((i, xv ρ v) :: (lvL ρ lc).filter (fun q => !(q.1 == i) && !(q.1 + 1 == i && q.2.category == 2)))) : xl ρ (sL lc i v) ls' := by
  refine ⟨by rw [h'.1, sL_len]; exact h.1, h'.2.1, fun j w hj => ?_⟩
  have hc2 : ¬ v.category = 2 := by omega
  simp only [sL, if_neg hc2] at hj
  by_cases e : j = i
  · subst e
    rw [List.getElem?_set_self (by rw [kL_len]; exact hi)] at hj
    cases hj
    exact h'.2.2 (j, xv ρ v) List.mem_cons_self
  · rw [List.getElem?_set_ne (Ne.symm e)] at hj
    obtain ⟨g1, g2⟩ := kL_get hj
    refine h'.2.2 (j, xv ρ w) (List.mem_cons_of_mem _ (List.mem_filter.mpr ⟨lvL_mem g1, ?_⟩))
    simp only [xv_cat, Bool.and_eq_true, Bool.not_eq_true', beq_eq_false_iff_ne, Bool.and_eq_false_iff, ne_eq]
    refine ⟨e, ?_⟩
    by_cases q : j + 1 = i
    · exact Or.inr (fun z => g2 ⟨q, z⟩)
    · exact Or.inl q
theorem xl_store2 {ρ : Nat → Nat} {lc : List (Option Value)} {ls ls' : Array Slot} {i : Nat} {v : Value} (h : xl ρ lc ls) (hi : i + 1 < lc.length) (hc : v.category = 2) (h' : lv_has ls' ls.size ((i, xv ρ v) :: (lvL ρ lc).filter (fun q => !(q.1 == i) && (!(q.1 == i + 1) && !(q.1 + 1 == i && q.2.category == 2))))) : xl ρ (sL lc i v) ls' := by
  refine ⟨by rw [h'.1, sL_len]; exact h.1, h'.2.1, fun j w hj => ?_⟩
  simp only [sL, if_pos hc] at hj
  by_cases e1 : j = i + 1
  · subst e1
    rw [List.getElem?_set_self (by simp [kL_len]; omega)] at hj
    cases hj
  · rw [List.getElem?_set_ne (Ne.symm e1)] at hj
    by_cases e : j = i
    · subst e
      rw [List.getElem?_set_self (by rw [kL_len]; omega)] at hj
      cases hj
      exact h'.2.2 (j, xv ρ v) List.mem_cons_self
    · rw [List.getElem?_set_ne (Ne.symm e)] at hj
      obtain ⟨g1, g2⟩ := kL_get hj
      refine h'.2.2 (j, xv ρ w) (List.mem_cons_of_mem _ (List.mem_filter.mpr ⟨lvL_mem g1, ?_⟩))
      simp only [xv_cat, Bool.and_eq_true, Bool.not_eq_true', beq_eq_false_iff_ne, Bool.and_eq_false_iff, ne_eq]
      refine ⟨e, e1, ?_⟩
      by_cases q : j + 1 = i
      · exact Or.inr (fun z => g2 ⟨q, z⟩)
      · exact Or.inl q
