-- ===== all straight instructions; Math and arraycopy =====
def aCs : List AV → Nat
  | [] => 0
  | .inl _ :: T => 1 + aCs T
  | .inr (.inl _) :: T => 1 + aCs T
  | _ :: T => 2 + aCs T
theorem aCs_ok {R : List Int} : ∀ {T : List AV} {st : List Value}, stO R T st → xcs st ≤ aCs T
  | [], [], _ => Nat.le_refl _
  | .inl q :: T, v :: st, h => by
    obtain ⟨⟨x, e, _⟩, h2⟩ := h
    cases e
    have := aCs_ok h2
    show 1 + xcs st ≤ 1 + aCs T
    omega
  | .inr (.inl q) :: T, v :: st, h => by
    obtain ⟨⟨x, _, e⟩, h2⟩ := h
    cases e
    have := aCs_ok h2
    show 1 + xcs st ≤ 1 + aCs T
    omega
  | .inr (.inr n) :: T, v :: st, h => by
    have := aCs_ok h.2
    have hv : v.category ≤ 2 := by cases v <;> first | exact Nat.le_refl 2 | exact Nat.le_succ 1
    show v.category + xcs st ≤ 2 + aCs T
    omega
  | [], _ :: _, h => h.elim
  | _ :: _, [], h => h.elim
def noCell (C : AC) (p : Nat) : Bool := (C.2.1.all fun q => !(Nat.beq q.1 p)) && rsub fr (rowI C p)
def tOff (T : AT) (p : Nat) : AT := match T with
  | [] => []
  | e :: l => match Nat.beq e.1 p with
    | true => tOff l p
    | false => e :: tOff l p
theorem tOff_ne {p p' k' : Nat} (h : ¬ p' = p) : ∀ {T : AT}, tF (tOff T p) p' k' = tF T p' k'
  | [] => rfl
  | e :: T => by
    obtain ⟨e1, e2, e3⟩ := e
    unfold tOff
    split
    · rename_i z
      have z := Nat.eq_of_beq_eq_true z
      dsimp only at z
      subst z
      rw [tOff_ne h, tF_ne (fun y => h y.1)]
    · rw [tF, tF, tOff_ne h]
theorem tOff_same {p k' : Nat} : ∀ {T : AT}, tF (tOff T p) p k' = none
  | [] => rfl
  | e :: T => by
    obtain ⟨e1, e2, e3⟩ := e
    unfold tOff
    split
    · exact tOff_same
    · rename_i z
      dsimp only at z
      rw [tF]
      dsimp only
      rw [z]
      exact tOff_same
theorem noCell_ok {C : AC} {p kk : Nat} (h : noCell C p = true) (x : Int32) : inI (cellI C p kk) x.toInt := by
  unfold noCell at h
  simp only [Bool.and_eq_true] at h
  unfold cellI
  split
  · rename_i q e
    have hm := List.mem_of_find?_eq_some e
    have hq := List.find?_some e
    simp only [Bool.and_eq_true] at hq
    have y := List.all_eq_true.mp h.1 q hm
    rw [hq.1] at y
    cases y
  · exact rsub_el h.2 (inI_fr x)
/-- intrinsic methods by their number -/
def aIn (C : AC) (Wm : List Nat) (t : Nat) (S : AS) : Option AS := match t with
  | 5 => a2 S fun q r T => (match iv S.1 q, iv S.1 r, Nat.ble (aCs T) 8 with
    | some a, some b, true => some (aFr S T (imin a.1 b.1, imin a.2 b.2))
    | _, _, _ => none)
  | 6 => a2 S fun q r T => (match iv S.1 q, iv S.1 r, Nat.ble (aCs T) 8 with
    | some a, some b, true => some (aFr S T (imax a.1 b.1, imax a.2 b.2))
    | _, _, _ => none)
  | 7 => a1 S fun _ T => (match Nat.ble (aCs T) 8 with
    | true => some (aFr S T fr)
    | false => none)
  | 8 => l2 S fun _ T => (match Nat.ble (aCs T) 8 with
    | true => some (aPu S T (.inr (.inr 1)))
    | false => none)
  | 9 => l2 S fun _ T => (match Nat.ble (aCs T) 8 with
    | true => some (aPu S T (.inr (.inr 1)))
    | false => none)
  | 10 => (match S.2.2.1 with
    | .inl n :: .inl dp :: .inr (.inl [p1]) :: .inl sp :: .inr (.inl [p0]) :: T => (match iv S.1 n, iv S.1 dp, iv S.1 sp, lenA C [p0], lenA C [p1] with
      | some n, some dp, some sp, some l0, some l1 => (match ile 0 n.1 && ile 0 dp.1 && ile 0 sp.1 && ile (sp.2 + n.2) (l0 : Nat) && ile (dp.2 + n.2) (l1 : Nat) && allO C [p0] (isL 0 l0) && allO C [p1] (isL 0 l1) && noCell C p1 && nmem p1 Wm && Nat.ble (aCs T) 8 with
        | true => some (S.1, S.2.1, T, tOff S.2.2.2 p1)
        | false => none)
      | _, _, _, _, _ => none)
    | _ => none)
  | _ => none
section ABSY
variable {C : AC} {Wm : List Nat} {Wf : Bool} {sh0 : List XO} {I0 : XI} {R0 R : List Int} {S S' : AS} {lc : List (Option Value)} {st : List Value} {sh : List XO} {I : XI} {J : XJ} {k : XP} {X : XX} {al : Bool} {n0 mc ms : Nat}
theorem ands_ok {q r : Nat × Int} {x y : Int32} {w : (Nat × Int) ⊕ (Int × Int)} (hE : envO R S.1) (hx : numO R q x) (hy : numO R r y) (h : aAnd S.1 q r = some w) : numP R w (x &&& y) := by
  unfold aAnd at h
  split at h
  · rename_i a b ea eb
    have ha := iv_ok hE hx ea
    have hb := iv_ok hE hy eb
    have key : ∀ u v : Int32, 0 ≤ v.toInt → 0 ≤ (u &&& v).toInt ∧ (u &&& v).toInt ≤ v.toInt := by
      intro u v hv
      have e : (u &&& v).toBitVec = u.toBitVec &&& v.toBitVec := rfl
      have hvn : v.toBitVec.toNat < 2 ^ 31 := by
        have h1 : v.toInt = v.toBitVec.toInt := rfl
        rw [h1, BitVec.toInt_eq_toNat_cond] at hv
        split at hv
        · omega
        · have := v.toBitVec.isLt
          omega
      have h2 : (u &&& v).toBitVec.toNat ≤ v.toBitVec.toNat := by
        rw [e, BitVec.toNat_and]
        exact Nat.and_le_right
      have h3 : (u &&& v).toInt = ((u &&& v).toBitVec.toNat : Int) := by
        have h1 : (u &&& v).toInt = (u &&& v).toBitVec.toInt := rfl
        rw [h1, BitVec.toInt_eq_toNat_cond, if_pos (by omega)]
      have h4 : v.toInt = (v.toBitVec.toNat : Int) := by
        have h1 : v.toInt = v.toBitVec.toInt := rfl
        rw [h1, BitVec.toInt_eq_toNat_cond, if_pos (by omega)]
      rw [h3, h4]
      omega
    split at h
    · rename_i e1
      cases h
      have e1 := ile_el e1
      have := key x y (by have := hb.1; omega)
      exact ⟨this.1, by have := hb.2; dsimp only; omega⟩
    · split at h
      · rename_i e1
        cases h
        have e1 := ile_el e1
        have := key y x (by have := ha.1; omega)
        rw [show y &&& x = x &&& y from Int32.and_comm y x] at this
        exact ⟨this.1, by have := ha.2; dsimp only; omega⟩
      · cases h
        exact inI_fr _
  · cases h
theorem muls_ok {q r : Nat × Int} {x y : Int32} {w : (Nat × Int) ⊕ (Int × Int)} (hE : envO R S.1) (hx : numO R q x) (hy : numO R r y) (h : aMul S.1 q r = some w) : numP R w (x * y) := by
  unfold aMul at h
  split at h
  · rename_i a b ea eb
    cases h
    exact inI_mul (iv_ok hE hx ea) (iv_ok hE hy eb)
  · cases h
theorem toInt_div_pos {x y : Int32} (hy : 1 ≤ y.toInt) : (x / y).toInt = x.toInt.tdiv y.toInt := by
  rw [Int32.toInt_div_of_ne_right]
  intro z
  rw [z] at hy
  have : (-1 : Int32).toInt = -1 := by decide
  omega
theorem divs_ok {q r : Nat × Int} {x y : Int32} {w : (Nat × Int) ⊕ (Int × Int)} (hE : envO R S.1) (hx : numO R q x) (hy : numO R r y) (h : aDiv S.1 q r = some w) : (¬ y = 0) ∧ numP R w (x / y) := by
  unfold aDiv at h
  split at h
  · rename_i a b ea eb
    have ha := iv_ok hE hx ea
    have hb := iv_ok hE hy eb
    split at h
    · rename_i e1
      have e1 := ile_el e1
      have hy1 : 1 ≤ y.toInt := by have := hb.1; omega
      refine ⟨fun z => ?_, ?_⟩
      · rw [z] at hy1
        have : (0 : Int32).toInt = 0 := by decide
        omega
      split at h
      · rename_i e2
        cases h
        have e2 := ile_el e2
        have hx0 : 0 ≤ x.toInt := by have := ha.1; omega
        show inI _ _
        rw [toInt_div_pos hy1]
        have d1 := Int.tdiv_nonneg hx0 (show 0 ≤ y.toInt by omega)
        have d2 : x.toInt.tdiv y.toInt ≤ x.toInt := Int.tdiv_le_self _ hx0
        exact ⟨d1, by have := ha.2; dsimp only; omega⟩
      · cases h
        exact inI_fr _
    · cases h
  · cases h
theorem rem_bound {a b : Int} (hb : 1 ≤ b) : (0 ≤ a → 0 ≤ a - a.tdiv b * b ∧ a - a.tdiv b * b ≤ a) ∧ (a ≤ 0 → a - a.tdiv b * b ≤ 0) ∧ 1 - b ≤ a - a.tdiv b * b ∧ a - a.tdiv b * b ≤ b - 1 := by
  have e : a - a.tdiv b * b = a.tmod b := by
    have := Int.tmod_def a b
    rw [this, Int.mul_comm]
  rw [e]
  refine ⟨fun h => ⟨Int.tmod_nonneg _ h, ?_⟩, fun h => ?_, ?_, ?_⟩
  · rw [← e]
    have d1 := Int.tdiv_nonneg h (show 0 ≤ b by omega)
    have := Int.mul_nonneg d1 (show 0 ≤ b by omega)
    omega
  · have h1 := Int.tmod_nonneg b (show 0 ≤ -a by omega)
    rw [Int.neg_tmod] at h1
    omega
  · have := Int.lt_tmod_of_pos a (show 0 < b by omega)
    omega
  · have := Int.tmod_lt_of_pos a (show 0 < b by omega)
    omega
theorem rems_ok {q r : Nat × Int} {x y : Int32} {w : (Nat × Int) ⊕ (Int × Int)} (hE : envO R S.1) (hx : numO R q x) (hy : numO R r y) (h : aRem S.1 q r = some w) : (¬ y = 0) ∧ numP R w (x - x / y * y) := by
  unfold aRem at h
  split at h
  · rename_i a b ea eb
    have ha := iv_ok hE hx ea
    have hb := iv_ok hE hy eb
    split at h
    · rename_i e1
      have e1 := ile_el e1
      have hy1 : 1 ≤ y.toInt := by have := hb.1; omega
      refine ⟨fun z => ?_, ?_⟩
      · rw [z] at hy1
        have : (0 : Int32).toInt = 0 := by decide
        omega
      have hb1 := rem_bound (a := x.toInt) (b := y.toInt) hy1
      have hd := toInt_div_pos (x := x) hy1
      have hx1 := Int32.le_toInt x
      have hx2 := Int32.toInt_lt x
      have hy2 := Int32.toInt_lt y
      have hsg : (0 ≤ x.toInt ∨ x.toInt ≤ 0) := by omega
      have hm : (x / y * y).toInt = x.toInt.tdiv y.toInt * y.toInt := toInt_mul_of (by rw [hd]) (by rcases hsg with z | z <;> first | (have := hb1.1 z; omega) | (have := hb1.2.1 z; omega)) (by rcases hsg with z | z <;> first | (have := hb1.1 z; omega) | (have := hb1.2.1 z; omega))
      have hs : (x - x / y * y).toInt = x.toInt - x.toInt.tdiv y.toInt * y.toInt := toInt_sub_of (by rw [hm]) (by omega) (by omega)
      split at h
      · rename_i e2
        cases h
        have e2 := ile_el e2
        have hx0 : 0 ≤ x.toInt := by have := ha.1; omega
        show inI _ _
        rw [hs]
        have h3 := hb1.1 hx0
        refine ⟨h3.1, ?_⟩
        show _ ≤ imin a.2 (b.2 - 1)
        unfold imin
        split
        · have := ha.2
          omega
        · have := hb.2
          omega
      · cases h
        show inI _ _
        rw [hs]
        have := hb.2
        exact ⟨by dsimp only; omega, by dsimp only; omega⟩
    · cases h
  · cases h
theorem shr_bound {x : Int32} (n : Int32) (hx : 0 ≤ x.toInt) : 0 ≤ (x >>> n).toInt ∧ (x >>> n).toInt ≤ x.toInt := by
  have h1 : (x >>> n).toInt = (x.toBitVec.sshiftRight' (n.toBitVec.smod 32)).toInt := rfl
  rw [h1, BitVec.sshiftRight', BitVec.toInt_sshiftRight]
  have h2 : x.toInt = x.toBitVec.toInt := rfl
  rw [h2] at hx ⊢
  rw [Int.shiftRight_eq_div_pow]
  generalize (n.toBitVec.smod 32).toNat = m
  have hp : (0 : Int) < ((2 ^ m : Nat) : Int) := by
    have := Nat.two_pow_pos m
    omega
  exact ⟨Int.ediv_nonneg hx (by omega), Int.ediv_le_self _ hx⟩
theorem shrs_ok {q r : Nat × Int} {x y : Int32} {w : (Nat × Int) ⊕ (Int × Int)} (hE : envO R S.1) (hx : numO R q x) (h : aShr S.1 q r = some w) : numP R w (x >>> (y &&& 31)) := by
  unfold aShr at h
  split at h
  · rename_i a b ea eb
    have ha := iv_ok hE hx ea
    split at h
    · rename_i e1
      cases h
      have e1 := ile_el e1
      have := shr_bound (x := x) (y &&& 31) (by have := ha.1; omega)
      exact ⟨this.1, by have := ha.2; dsimp only; omega⟩
    · cases h
      exact inI_fr _
  · cases h
theorem lgx_ok (x y : Int64) : inI (-1, 1) (lg_cmp x y).toInt := by
  unfold lg_cmp
  split
  · exact ⟨by decide, by decide⟩
  · split
    · exact ⟨by decide, by decide⟩
    · exact ⟨by decide, by decide⟩
end ABSY
