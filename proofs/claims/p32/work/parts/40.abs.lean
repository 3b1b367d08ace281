-- ===== abstract states: intervals for symbolic numbers, places for references =====
-- AV: .inl (v, c) the number R[v] + c; .inr (.inl ps) a reference to one of ps; .inr (.inr 1) a long, .inr (.inr 2) null, .inr (.inr 3) a long that is not 0, else anything
abbrev AV : Type := (Nat × Int) ⊕ (List Nat ⊕ Nat)
abbrev AE : Type := List (Int × Int)
abbrev AT : Type := List (Nat × Nat × Nat × Int)
abbrev AS : Type := AE × List AV × List AV × AT
abbrev AO : Type := (Nat × List (Option (List Nat))) ⊕ (Nat × Nat × List (Option (List Nat)))
-- what is so everywhere: shapes; cells (place, index, lo, hi); rows (place, lo, hi)
abbrev AC : Type := List (Nat × AO) × List (Nat × Nat × Int × Int) × List (Nat × Int × Int)
abbrev AG : Type := (Int × Int) ⊕ (List Nat ⊕ Nat)
-- a way out: arguments, answer, cells; a contract: depth, arguments, places that it may write, may it change references, ways out, cells before
abbrev AP : Type := AE × AG × List (Nat × Nat × Int × Int)
abbrev AK : Type := Nat × List AG × List Nat × Bool × List AP × List (Nat × Nat × Int × Int)
-- at a stop: numbers, locals, stack, cells; where the numbers come from; measure
abbrev AA : Type := AE × List AV × List AV × AT × List (Nat × Nat × Nat) × (Int × List Int)
def ile (a b : Int) : Bool := decide (a ≤ b)
theorem ile_el {a b : Int} (h : ile a b = true) : a ≤ b := of_decide_eq_true h
def fr : Int × Int := (-2147483648, 2147483647)
def inF (r : Int × Int) : Bool := ile (-2147483648) r.1 && ile r.2 2147483647
def rgn (r : Int × Int) : Int × Int := match inF r with
  | true => r
  | false => fr
def nmem (p : Nat) : List Nat → Bool
  | [] => false
  | q :: l => match Nat.beq q p with
    | true => true
    | false => nmem p l
theorem nmem_el {p : Nat} : ∀ {l : List Nat}, nmem p l = true → p ∈ l
  | q :: l, h => by
    unfold nmem at h
    split at h
    · rename_i e
      rw [Nat.eq_of_beq_eq_true e]
      exact List.mem_cons_self
    · exact List.mem_cons_of_mem _ (nmem_el h)
def nsub (a b : List Nat) : Bool := a.all fun p => nmem p b
theorem nsub_el {a b : List Nat} (h : nsub a b = true) {p : Nat} (hp : p ∈ a) : p ∈ b := nmem_el (List.all_eq_true.mp h p hp)
/-- the rows of steps of the reference have their columns' cells -/
def wid (p : Nat) : Bool := Nat.beq p 68 || Nat.beq p 69
def nrm (p k : Nat) : Nat := match wid p && Nat.ble 130 k with
  | true => 60 + (k - 130) % 69
  | false => k
def cellI (C : AC) (p k : Nat) : Int × Int := match C.2.1.find? (fun q => Nat.beq q.1 p && Nat.beq q.2.1 (nrm p k)) with
  | some q => q.2.2
  | none => (match xlk C.2.2 p with
    | some r => r
    | none => fr)
def inI (r : Int × Int) (z : Int) : Prop := r.1 ≤ z ∧ z ≤ r.2
theorem inI_fr (x : Int32) : inI fr x.toInt := ⟨Int32.le_toInt x, by have := Int32.toInt_lt x; unfold fr; dsimp only; omega⟩
theorem inI_rgn {r : Int × Int} {x : Int32} (h : inF r = true → inI r x.toInt) : inI (rgn r) x.toInt := by
  unfold rgn
  split
  · rename_i e
    exact h e
  · exact inI_fr x
def rsub (a b : Int × Int) : Bool := ile b.1 a.1 && ile a.2 b.2
theorem rsub_el {a b : Int × Int} (h : rsub a b = true) {z : Int} (hz : inI a z) : inI b z := by
  unfold rsub at h
  simp only [Bool.and_eq_true] at h
  exact ⟨Int.le_trans (ile_el h.1) hz.1, Int.le_trans hz.2 (ile_el h.2)⟩
def iv (E : AE) (q : Nat × Int) : Option (Int × Int) := match xn E q.1 with
  | some r => some (r.1 + q.2, r.2 + q.2)
  | none => none
def tF : AT → Nat → Nat → Option (Nat × Int)
  | [], _, _ => none
  | e :: l, p, k => match Nat.beq e.1 p && Nat.beq e.2.1 k with
    | true => some e.2.2
    | false => tF l p k
def tD : AT → Nat → Nat → AT
  | [], _, _ => []
  | e :: l, p, k => match Nat.beq e.1 p && Nat.beq e.2.1 k with
    | true => tD l p k
    | false => e :: tD l p k
/-- is a row's place p tracked between lo and hi? -/
def tR (T : AT) (p : Nat) (r : Int × Int) : Bool := T.any fun e => Nat.beq e.1 p && ile r.1 (e.2.1 : Nat) && ile (e.2.1 : Nat) r.2
section ABS
variable (C : AC) (Wm : List Nat) (Wf : Bool) (sh0 : List XO) (I0 : XI) (R0 : List Int)
def numO (R : List Int) (q : Nat × Int) (x : Int32) : Prop := ∃ z, xn R q.1 = some z ∧ x.toInt = z + q.2
def avO (R : List Int) (a : AV) (o : Option Value) : Prop := match a with
  | .inl q => ∃ x, o = some (.int x) ∧ numO R q x
  | .inr (.inl ps) => ∃ p, p ∈ ps ∧ o = some (.ref p)
  | .inr (.inr n) => (match n with
    | 1 => ∃ x, o = some (.long x)
    | 2 => o = some .null
    | 3 => ∃ x, o = some (.long x) ∧ ¬ x = 0
    | _ => True)
def envO (R : List Int) (E : AE) : Prop := R.length = E.length ∧ ∀ v z r, xn R v = some z → xn E v = some r → inI r z
def loO (R : List Int) (L : List AV) (lc : List (Option Value)) : Prop := ∀ i a, xn L i = some a → ∃ o, xn lc i = some o ∧ avO R a o
def stO (R : List Int) : List AV → List Value → Prop
  | [], [] => True
  | a :: T, v :: st => avO R a (some v) ∧ stO R T st
  | _, _ => False
def trO (R : List Int) (T : AT) (I : XI) : Prop := ∀ p k q, tF T p k = some q → numO R q (I p k)
def ivO (T : AT) (I : XI) : Prop := ∀ p k, tF T p k = none → inI (cellI C p k) (I p k).toInt
def frO (I : XI) : Prop := ∀ p, nmem p Wm = false → I p = I0 p
def refO (cs : List (Option (List Nat))) (rs : List (Option Nat)) : Prop := cs.length = rs.length ∧ (∀ k ps, xn cs k = some (some ps) → ∃ p, p ∈ ps ∧ xn rs k = some (some p)) ∧ ∀ k, xn cs k = some none → xn rs k = some none
def aoO (o : AO) (x : XO) : Prop := match o, x with
  | .inl a, .inl b => a.1 = b.1 ∧ refO a.2 b.2
  | .inr a, .inr b => a.1 = b.1 ∧ a.2.1 = b.2.1 ∧ refO a.2.2 b.2.2
  | _, _ => False
def shO (sh : List XO) : Prop := ∀ p o, xlk C.1 p = some o → ∃ x, xn sh p = some x ∧ aoO o x
def preO (A R : List Int) : Prop := ∀ i z, xn A i = some z → xn R i = some z
def ga (R : List Int) (S : AS) (lc : List (Option Value)) (st : List Value) (sh : List XO) (I : XI) : Prop :=
  (envO R S.1 ∧ xn R 0 = some 0 ∧ preO R0 R) ∧ (loO R S.2.1 lc ∧ stO R S.2.2.1 st) ∧ (trO R S.2.2.2 I ∧ ivO C S.2.2.2 I ∧ frO Wm I0 I) ∧ shO C sh ∧ (Wf = false → sh = sh0)
end ABS
theorem xn_app {α : Type} : ∀ {l : List α} {m : List α} {i : Nat} {a : α}, xn l i = some a → xn (l ++ m) i = some a
  | _ :: _, _, 0, _, h => h
  | _ :: l, m, i + 1, a, h => xn_app (l := l) (m := m) (i := i) h
theorem xn_app_len {α : Type} (l : List α) (a : α) : xn (l ++ [a]) l.length = some a := by
  rw [xn_eq]
  simp
theorem xn_lt {α : Type} {l : List α} {i : Nat} {a : α} (h : xn l i = some a) : i < l.length := by
  rw [xn_eq] at h
  exact (List.getElem?_eq_some_iff.mp h).1
theorem xn_some {α : Type} {l : List α} {i : Nat} (h : i < l.length) : ∃ a, xn l i = some a := ⟨l[i], by rw [xn_eq]; simp [h]⟩
theorem numO_app {R : List Int} {w : List Int} {q : Nat × Int} {x : Int32} (h : numO R q x) : numO (R ++ w) q x := by
  obtain ⟨z, h1, h2⟩ := h
  exact ⟨z, xn_app h1, h2⟩
theorem avO_app {R w : List Int} {a : AV} {o : Option Value} (h : avO R a o) : avO (R ++ w) a o := by
  unfold avO at h ⊢
  split at h
  · obtain ⟨x, e, h⟩ := h
    exact ⟨x, e, numO_app h⟩
  · exact h
  · exact h
theorem stO_app {R w : List Int} : ∀ {T : List AV} {st : List Value}, stO R T st → stO (R ++ w) T st
  | [], [], h => h
  | _ :: T, _ :: st, h => ⟨avO_app h.1, stO_app h.2⟩
  | [], _ :: _, h => h.elim
  | _ :: _, [], h => h.elim
theorem envO_app {R : List Int} {E : AE} {z : Int} {r : Int × Int} (h : envO R E) (hz : inI r z) : envO (R ++ [z]) (E ++ [r]) := by
  refine ⟨by simp [h.1], fun v y q h1 h2 => ?_⟩
  by_cases hv : v < R.length
  · obtain ⟨y', hy⟩ := xn_some hv
    obtain ⟨q', hq⟩ := xn_some (l := E) (i := v) (by rw [← h.1]; exact hv)
    have e1 := (xn_app (m := [z]) hy).symm.trans h1
    have e2 := (xn_app (m := [r]) hq).symm.trans h2
    cases e1
    cases e2
    exact h.2 v _ _ hy hq
  · have hl := xn_lt h1
    simp only [List.length_append, List.length_cons, List.length_nil] at hl
    have hv2 : v = R.length := by omega
    subst hv2
    have e1 := (xn_app_len R z).symm.trans h1
    rw [h.1] at h2
    have e2 := (xn_app_len E r).symm.trans h2
    cases e1
    cases e2
    exact hz
theorem iv_ok {R : List Int} {E : AE} {q : Nat × Int} {x : Int32} {r : Int × Int} (hE : envO R E) (hx : numO R q x) (h : iv E q = some r) : inI r x.toInt := by
  obtain ⟨z, h1, h2⟩ := hx
  unfold iv at h
  split at h
  · rename_i r' e
    cases h
    have y := hE.2 _ _ _ h1 e
    rw [h2]
    exact ⟨Int.add_le_add_right y.1 _, Int.add_le_add_right y.2 _⟩
  · cases h
section ABS2
variable {C : AC} {Wm : List Nat} {Wf : Bool} {sh0 : List XO} {I0 : XI} {R0 : List Int}
def aPu (S : AS) (T : List AV) (a : AV) : AS := (S.1, S.2.1, a :: T, S.2.2.2)
def aFr (S : AS) (T : List AV) (r : Int × Int) : AS := (S.1 ++ [r], S.2.1, .inl (S.1.length, 0) :: T, S.2.2.2)
def aSt (S : AS) (T : List AV) : AS := (S.1, S.2.1, T, S.2.2.2)
theorem ga_st {R : List Int} {S : AS} {T : List AV} {lc : List (Option Value)} {st st' : List Value} {sh : List XO} {I : XI} (h : ga C Wm Wf sh0 I0 R0 R S lc st sh I) (hT : stO R T st') : ga C Wm Wf sh0 I0 R0 R (aSt S T) lc st' sh I := ⟨h.1, ⟨h.2.1.1, hT⟩, h.2.2⟩
theorem ga_pu {R : List Int} {S : AS} {T : List AV} {a : AV} {v : Value} {lc : List (Option Value)} {st st' : List Value} {sh : List XO} {I : XI} (h : ga C Wm Wf sh0 I0 R0 R S lc st sh I) (hT : stO R T st') (ha : avO R a (some v)) : ga C Wm Wf sh0 I0 R0 R (aPu S T a) lc (v :: st') sh I := ⟨h.1, ⟨h.2.1.1, ha, hT⟩, h.2.2⟩
theorem loO_app {R w : List Int} {L : List AV} {lc : List (Option Value)} (h : loO R L lc) : loO (R ++ w) L lc := by
  intro i a ha
  obtain ⟨o, h1, h2⟩ := h i a ha
  exact ⟨o, h1, avO_app h2⟩
theorem ga_ext {R : List Int} {S : AS} {z : Int} {r : Int × Int} {lc : List (Option Value)} {st : List Value} {sh : List XO} {I : XI} (h : ga C Wm Wf sh0 I0 R0 R S lc st sh I) (hz : inI r z) : ga C Wm Wf sh0 I0 R0 (R ++ [z]) (S.1 ++ [r], S.2) lc st sh I := by
  obtain ⟨⟨a1, a2, a3⟩, ⟨b1, b2⟩, ⟨c1, c2, c3⟩, d⟩ := h
  exact ⟨⟨envO_app a1 hz, xn_app a2, fun i y hy => xn_app (a3 i y hy)⟩, ⟨loO_app b1, stO_app b2⟩, ⟨fun p k q hq => numO_app (c1 p k q hq), c2, c3⟩, d⟩
theorem ga_fr {R : List Int} {S : AS} {T : List AV} {x : Int32} {r : Int × Int} {lc : List (Option Value)} {st st' : List Value} {sh : List XO} {I : XI} (h : ga C Wm Wf sh0 I0 R0 R S lc st sh I) (hT : stO R T st') (hx : inI r x.toInt) : ga C Wm Wf sh0 I0 R0 (R ++ [x.toInt]) (aFr S T r) lc (.int x :: st') sh I := by
  have h2 := ga_ext (ga_st h hT) hx
  refine ⟨h2.1, ⟨h2.2.1.1, ⟨x, rfl, x.toInt, ?_, by simp⟩, h2.2.1.2⟩, h2.2.2⟩
  have e : S.1.length = R.length := h.1.1.1.symm
  show xn (R ++ [x.toInt]) S.1.length = some x.toInt
  rw [e]
  exact xn_app_len _ _
end ABS2
