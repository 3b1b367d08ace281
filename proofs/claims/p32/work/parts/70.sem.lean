-- ===== the worth of a law's orders =====
def bnd (v : Int) : Int := if 1000000 < v then 1000000 else if v < -1000000 then -1000000 else v
def wrk (o : Nat) (x y : Int) : Int := match o with
  | 43 => bnd (x + y)
  | 45 => bnd (x - y)
  | 42 => bnd (x * y)
  | 47 => if y = 0 then 0 else x.tdiv y
  | 60 => if x < y then 1 else 0
  | 62 => if y < x then 1 else 0
  | 61 => if x = y then 1 else 0
  | 35 => if x = y then 0 else 1
  | 300 => if x ≤ y then 1 else 0
  | 301 => if y ≤ x then 1 else 0
  | 406 => x * y
  | _ => if 0 < x + y then 1 else 0
/-- one order; the pile's top first -/
def sm1 (nm : Nat → Int) (o : Odr) (p : List Int) : List Int := match o.1, p with
  | 400, p => (o.2 : Int) :: p
  | 401, p => nm o.2 :: p
  | 402, x :: p => -x :: p
  | 403, x :: p => (x * (o.2 : Int)).tdiv 100 :: p
  | 405, x :: p => (1 - x) :: p
  | q, y :: x :: p => wrk q x y :: p
  | _, p => p
def smE (nm : Nat → Int) : List Odr → List Int → List Int
  | [], p => p
  | o :: e, p => smE nm e (sm1 nm o p)
abbrev inM (x : Int) : Prop := -1000000 ≤ x ∧ x ≤ 1000000
/-- the pile is as its types say -/
def VT : List Bool → List Int → Prop
  | [], [] => True
  | b :: t, x :: p => (match b with
    | true => x = 0 ∨ x = 1
    | false => inM x) ∧ VT t p
  | _, _ => False
theorem VT.len : ∀ {t : List Bool} {p : List Int}, VT t p → t.length = p.length
  | [], [], _ => rfl
  | _ :: _, _ :: _, h => by
    simp only [List.length_cons]
    rw [VT.len h.2]
  | [], _ :: _, h => h.elim
  | _ :: _, [], h => h.elim
theorem beq_1 {a b : Nat} (h : Nat.beq a b = true) : a = b := Nat.eq_of_beq_eq_true h
theorem tyo_el {k : Nat} {o : Odr} {t u : List Bool} (h : tyo k o t = some u) : (o.1 = 400 ∧ t.length < 64 ∧ o.2 < 10000 ∧ u = false :: t) ∨ (o.1 = 401 ∧ t.length < 64 ∧ myN o.2 k = true ∧ o.2 ≤ 10 ∧ u = false :: t) ∨ (o.1 = 402 ∧ ∃ v, t = false :: v ∧ u = false :: v) ∨ (o.1 = 403 ∧ o.2 ≤ 100 ∧ ∃ v, t = false :: v ∧ u = false :: v) ∨ (o.1 = 405 ∧ ∃ v, t = true :: v ∧ u = true :: v) ∨ ((o.1 = 43 ∨ o.1 = 45 ∨ o.1 = 42 ∨ o.1 = 47) ∧ ∃ v, t = false :: false :: v ∧ u = false :: v) ∨ ((o.1 = 60 ∨ o.1 = 62 ∨ o.1 = 61 ∨ o.1 = 35 ∨ o.1 = 300 ∨ o.1 = 301) ∧ ∃ v, t = false :: false :: v ∧ u = true :: v) ∨ ((o.1 = 406 ∨ o.1 = 407) ∧ ∃ v, t = true :: true :: v ∧ u = true :: v) := by
  unfold tyo at h
  split at h
  · rename_i e
    split at h
    · rename_i e2
      rw [Bool.and_eq_true] at e2
      exact Or.inl ⟨beq_1 e, Nat.blt_eq.mp e2.1, Nat.blt_eq.mp e2.2, (Option.some.inj h).symm⟩
    · cases h
  · split at h
    · rename_i e
      split at h
      · rename_i e2
        unfold NmOK at e2
        rw [Bool.and_eq_true, Bool.and_eq_true] at e2
        exact Or.inr (Or.inl ⟨beq_1 e, Nat.blt_eq.mp e2.1, e2.2.1, Nat.le_of_ble_eq_true e2.2.2, (Option.some.inj h).symm⟩)
      · cases h
    · split at h
      · rename_i e
        rw [Bool.or_eq_true, Bool.and_eq_true] at e
        split at h
        · have e3 := (Option.some.inj h).symm
          rcases e with e | ⟨e, e2⟩
          · exact Or.inr (Or.inr (Or.inl ⟨beq_1 e, _, rfl, e3⟩))
          · exact Or.inr (Or.inr (Or.inr (Or.inl ⟨beq_1 e, Nat.le_of_ble_eq_true e2, _, rfl, e3⟩)))
        · cases h
      · split at h
        · rename_i e
          split at h
          · exact Or.inr (Or.inr (Or.inr (Or.inr (Or.inl ⟨beq_1 e, _, rfl, (Option.some.inj h).symm⟩))))
          · cases h
        · split at h
          · rename_i e
            rw [Bool.or_eq_true, Bool.or_eq_true, Bool.or_eq_true] at e
            split at h
            · refine Or.inr (Or.inr (Or.inr (Or.inr (Or.inr (Or.inl ⟨?_, _, rfl, (Option.some.inj h).symm⟩)))))
              rcases e with (e | e) | (e | e)
              · exact Or.inl (beq_1 e)
              · exact Or.inr (Or.inl (beq_1 e))
              · exact Or.inr (Or.inr (Or.inl (beq_1 e)))
              · exact Or.inr (Or.inr (Or.inr (beq_1 e)))
            · cases h
          · split at h
            · rename_i e
              rw [Bool.or_eq_true, Bool.or_eq_true, Bool.or_eq_true, Bool.or_eq_true, Bool.or_eq_true] at e
              split at h
              · refine Or.inr (Or.inr (Or.inr (Or.inr (Or.inr (Or.inr (Or.inl ⟨?_, _, rfl, (Option.some.inj h).symm⟩))))))
                rcases e with ((e | e) | (e | e)) | (e | e)
                · exact Or.inl (beq_1 e)
                · exact Or.inr (Or.inl (beq_1 e))
                · exact Or.inr (Or.inr (Or.inl (beq_1 e)))
                · exact Or.inr (Or.inr (Or.inr (Or.inl (beq_1 e))))
                · exact Or.inr (Or.inr (Or.inr (Or.inr (Or.inl (beq_1 e)))))
                · exact Or.inr (Or.inr (Or.inr (Or.inr (Or.inr (beq_1 e)))))
              · cases h
            · split at h
              · rename_i e
                rw [Bool.or_eq_true] at e
                split at h
                · refine Or.inr (Or.inr (Or.inr (Or.inr (Or.inr (Or.inr (Or.inr ⟨?_, _, rfl, (Option.some.inj h).symm⟩))))))
                  rcases e with e | e
                  · exact Or.inl (beq_1 e)
                  · exact Or.inr (beq_1 e)
                · cases h
              · cases h
theorem mul_b {x y : Int} (hx : inM x) (hy : inM y) : -1000000000000 ≤ x * y ∧ x * y ≤ 1000000000000 := by
  have e : (x * y).natAbs = x.natAbs * y.natAbs := Int.natAbs_mul x y
  have a : x.natAbs ≤ 1000000 := by omega
  have b : y.natAbs ≤ 1000000 := by omega
  have c : x.natAbs * y.natAbs ≤ 1000000 * 1000000 := Nat.mul_le_mul a b
  omega
theorem bnd_in (v : Int) : inM (bnd v) := by
  unfold bnd
  split
  · exact ⟨by omega, by omega⟩
  · split
    · exact ⟨by omega, by omega⟩
    · exact ⟨by omega, by omega⟩
theorem tdiv_in {x y : Int} (hx : inM x) : inM (x.tdiv y) := by
  have e : (x.tdiv y).natAbs = x.natAbs / y.natAbs := Int.natAbs_tdiv x y
  have a : x.natAbs / y.natAbs ≤ x.natAbs := Nat.div_le_self _ _
  exact ⟨by omega, by omega⟩
theorem part_in {x : Int} {n : Nat} (hx : inM x) (hn : n ≤ 100) : inM ((x * (n : Int)).tdiv 100) := by
  have e : ((x * (n : Int)).tdiv 100).natAbs = (x * (n : Int)).natAbs / (100 : Int).natAbs := Int.natAbs_tdiv _ _
  have e2 : (x * (n : Int)).natAbs = x.natAbs * n := by rw [Int.natAbs_mul, Int.natAbs_natCast]
  have a : x.natAbs ≤ 1000000 := by omega
  have c : x.natAbs * n ≤ 1000000 * 100 := Nat.mul_le_mul a hn
  have d : (100 : Int).natAbs = 100 := rfl
  rw [e2, d] at e
  exact ⟨by omega, by omega⟩
theorem wrk_num {o : Nat} {x y : Int} (ho : o = 43 ∨ o = 45 ∨ o = 42 ∨ o = 47) (hx : inM x) : inM (wrk o x y) := by
  rcases ho with rfl | rfl | rfl | rfl
  · exact bnd_in _
  · exact bnd_in _
  · exact bnd_in _
  · show inM (if y = 0 then 0 else x.tdiv y)
    split
    · exact ⟨by omega, by omega⟩
    · exact tdiv_in hx
theorem wrk_b01 {o : Nat} {x y : Int} (ho : o = 60 ∨ o = 62 ∨ o = 61 ∨ o = 35 ∨ o = 300 ∨ o = 301) : wrk o x y = 0 ∨ wrk o x y = 1 := by
  rcases ho with rfl | rfl | rfl | rfl | rfl | rfl
  · show (if x < y then (1 : Int) else 0) = 0 ∨ (if x < y then (1 : Int) else 0) = 1
    split <;> simp
  · show (if y < x then (1 : Int) else 0) = 0 ∨ (if y < x then (1 : Int) else 0) = 1
    split <;> simp
  · show (if x = y then (1 : Int) else 0) = 0 ∨ (if x = y then (1 : Int) else 0) = 1
    split <;> simp
  · show (if x = y then (0 : Int) else 1) = 0 ∨ (if x = y then (0 : Int) else 1) = 1
    split <;> simp
  · show (if x ≤ y then (1 : Int) else 0) = 0 ∨ (if x ≤ y then (1 : Int) else 0) = 1
    split <;> simp
  · show (if y ≤ x then (1 : Int) else 0) = 0 ∨ (if y ≤ x then (1 : Int) else 0) = 1
    split <;> simp
theorem wrk_and {x y : Int} (hx : x = 0 ∨ x = 1) (hy : y = 0 ∨ y = 1) : wrk 406 x y = 0 ∨ wrk 406 x y = 1 := by
  rcases hx with rfl | rfl <;> rcases hy with rfl | rfl <;> decide
theorem wrk_or {x y : Int} (hx : x = 0 ∨ x = 1) (hy : y = 0 ∨ y = 1) : wrk 407 x y = 0 ∨ wrk 407 x y = 1 := by
  rcases hx with rfl | rfl <;> rcases hy with rfl | rfl <;> decide
theorem VT_2 {a b : Bool} {t : List Bool} {p : List Int} (h : VT (a :: b :: t) p) : ∃ y x q, p = y :: x :: q ∧ VT (a :: b :: t) (y :: x :: q) := by
  match p, h with
  | [], h => exact h.elim
  | [_], h => exact h.2.elim
  | y :: x :: q, h => exact ⟨y, x, q, rfl, h⟩
theorem VT_1 {a : Bool} {t : List Bool} {p : List Int} (h : VT (a :: t) p) : ∃ x q, p = x :: q ∧ VT (a :: t) (x :: q) := by
  match p, h with
  | [], h => exact h.elim
  | x :: q, h => exact ⟨x, q, rfl, h⟩
-- comparing longs
theorem lg_spec (x y : Int64) : (y.toInt < x.toInt ∧ lg_cmp x y = 1) ∨ (x.toInt = y.toInt ∧ lg_cmp x y = 0) ∨ (x.toInt < y.toInt ∧ lg_cmp x y = -1) := by
  unfold lg_cmp
  by_cases h : y < x
  · exact Or.inl ⟨Int64.lt_iff_toInt_lt.mp h, by rw [if_pos h]⟩
  · have h1 : ¬ y.toInt < x.toInt := fun z => h (Int64.lt_iff_toInt_lt.mpr z)
    rw [if_neg h]
    by_cases e : x = y
    · exact Or.inr (Or.inl ⟨by rw [e], by rw [if_pos e]⟩)
    · have e1 : x.toInt ≠ y.toInt := fun z => e (Int64.toInt_inj.mp z)
      exact Or.inr (Or.inr ⟨by omega, by rw [if_neg e]⟩)
theorem lc_eq {x y : Int64} : lg_cmp x y = 0 ↔ x.toInt = y.toInt := by
  rcases lg_spec x y with ⟨a, b⟩ | ⟨a, b⟩ | ⟨a, b⟩ <;> rw [b]
  · exact ⟨fun h => absurd h (by decide), fun h => by omega⟩
  · exact ⟨fun _ => a, fun _ => rfl⟩
  · exact ⟨fun h => absurd h (by decide), fun h => by omega⟩
theorem lc_le {x y : Int64} : lg_cmp x y ≤ 0 ↔ x.toInt ≤ y.toInt := by
  rcases lg_spec x y with ⟨a, b⟩ | ⟨a, b⟩ | ⟨a, b⟩ <;> rw [b]
  · exact ⟨fun h => absurd h (by decide), fun h => by omega⟩
  · exact ⟨fun _ => by omega, fun _ => by decide⟩
  · exact ⟨fun _ => by omega, fun _ => by decide⟩
theorem lc_ge {x y : Int64} : 0 ≤ lg_cmp x y ↔ y.toInt ≤ x.toInt := by
  rcases lg_spec x y with ⟨a, b⟩ | ⟨a, b⟩ | ⟨a, b⟩ <;> rw [b]
  · exact ⟨fun _ => by omega, fun _ => by decide⟩
  · exact ⟨fun _ => by omega, fun _ => by decide⟩
  · exact ⟨fun h => absurd h (by decide), fun h => by omega⟩
theorem lc_lt {x y : Int64} : lg_cmp x y < 0 ↔ x.toInt < y.toInt := by
  rcases lg_spec x y with ⟨a, b⟩ | ⟨a, b⟩ | ⟨a, b⟩ <;> rw [b]
  · exact ⟨fun h => absurd h (by decide), fun h => by omega⟩
  · exact ⟨fun h => absurd h (by decide), fun h => by omega⟩
  · exact ⟨fun _ => a, fun _ => by decide⟩
theorem lc_gt {x y : Int64} : 0 < lg_cmp x y ↔ y.toInt < x.toInt := by
  rcases lg_spec x y with ⟨a, b⟩ | ⟨a, b⟩ | ⟨a, b⟩ <;> rw [b]
  · exact ⟨fun _ => a, fun _ => by decide⟩
  · exact ⟨fun h => absurd h (by decide), fun h => by omega⟩
  · exact ⟨fun h => absurd h (by decide), fun h => by omega⟩
theorem i64_M : (1000000 : Int64).toInt = 1000000 := by decide
theorem i64_mM : (-1000000 : Int64).toInt = -1000000 := by decide
theorem i64_0 : (0 : Int64).toInt = 0 := by decide
theorem i64_1 : (1 : Int64).toInt = 1 := by decide
set_option maxRecDepth 100000 in
theorem ex_bound (l : Launch) (d : Nat) (x : Int64) (sh : List XO) (I : XI) (J : XJ) (Rp : XR) (hR : ∀ r : Int64, r.toInt = bnd x.toInt → Rp (some (.long r)) sh I J) : xm l (d + 1) 0 0 mX12_bound [.long x] sh I J Rp := by
  refine xm_ofK 0 (X := xxX12) (t := tX12_bound) (stop := []) (ini := false) xx12 pl12 rfl kX12_bound (fun h => by cases h) (Nat.le_of_ble_eq_true rfl) (fun K hK => ?_)
  refine And.intro (fun h1 => And.intro (fun h2 => hR x ?_) (fun h2 => hR (-1000000) ?_)) (fun h1 => hR 1000000 ?_)
  · have h1 := lc_le.mp (show lg_cmp x 1000000 ≤ 0 from h1)
    have h2 := lc_ge.mp (show 0 ≤ lg_cmp x (-1000000) from h2)
    rw [i64_M] at h1
    rw [i64_mM] at h2
    unfold bnd
    rw [if_neg (by omega), if_neg (by omega)]
  · have h1 := lc_le.mp (show lg_cmp x 1000000 ≤ 0 from h1)
    have h2 : ¬ _ := fun z => h2 (lc_ge.mpr z)
    have h2 : ¬ (-1000000 : Int64).toInt ≤ x.toInt := h2
    rw [i64_M] at h1
    rw [i64_mM] at h2 ⊢
    unfold bnd
    rw [if_neg (by omega), if_pos (by omega)]
  · have h1 : ¬ x.toInt ≤ (1000000 : Int64).toInt := fun z => h1 (lc_le.mpr z)
    rw [i64_M] at h1 ⊢
    unfold bnd
    rw [if_pos (by omega)]
/-- the orders that make one number of two -/
abbrev op2 (o : Nat) : Prop := o = 43 ∨ o = 45 ∨ o = 42 ∨ o = 47 ∨ o = 60 ∨ o = 62 ∨ o = 61 ∨ o = 35 ∨ o = 300 ∨ o = 301 ∨ o = 406 ∨ o = 407
set_option maxRecDepth 100000 in
theorem ex_worked (l : Launch) (d o : Nat) (ho : op2 o) (x y : Int64) (hx : inM x.toInt) (hy : inM y.toInt) (sh : List XO) (I : XI) (J : XJ) (Rp : XR) (hR : ∀ r : Int64, r.toInt = wrk o x.toInt y.toInt → Rp (some (.long r)) sh I J) : xm l (d + 2) 0 0 mX12_worked [.int (nI o), .long x, .long y] sh I J Rp := by
  refine xm_ofK 0 (X := xxX12) (t := tX12_worked) (stop := []) (ini := false) xx12 pl12 rfl kX12_worked (fun h => by cases h) (Nat.le_of_ble_eq_true rfl) (fun K hK => ?_)
  rcases ho with rfl | rfl | rfl | rfl | rfl | rfl | rfl | rfl | rfl | rfl | rfl | rfl
  · refine And.intro (fun h => absurd h (by decide)) (fun _ => ?_)
    refine And.intro (fun h => absurd h (by decide)) (fun _ => ?_)
    refine And.intro (fun _ => ?_) (fun h => absurd rfl h)
    exact ex_bound l d _ sh I J _ (fun r hr => hR r (by
      rw [hr, l64_add (by omega) (by omega)]
      rfl))
  · refine And.intro (fun h => absurd h (by decide)) (fun _ => ?_)
    refine And.intro (fun h => absurd h (by decide)) (fun _ => ?_)
    refine And.intro (fun h => absurd h (by decide)) (fun _ => ?_)
    refine And.intro (fun _ => ?_) (fun h => absurd rfl h)
    exact ex_bound l d _ sh I J _ (fun r hr => hR r (by
      rw [hr, l64_sub (by omega) (by omega)]
      rfl))
  · refine And.intro (fun h => absurd h (by decide)) (fun _ => ?_)
    refine And.intro (fun _ => ?_) (fun h => absurd rfl h)
    exact ex_bound l d _ sh I J _ (fun r hr => hR r (by
      have b := mul_b hx hy
      rw [hr, l64_mul (by omega) (by omega)]
      rfl))
  · refine And.intro (fun h => absurd h (by decide)) (fun _ => ?_)
    refine And.intro (fun h => absurd h (by decide)) (fun _ => ?_)
    refine And.intro (fun h => absurd h (by decide)) (fun _ => ?_)
    refine And.intro (fun h => absurd h (by decide)) (fun _ => ?_)
    refine And.intro (fun _ => ?_) (fun h => absurd rfl h)
    refine And.intro (fun h => And.intro (lgn h) (hR _ ?_)) (fun h => hR 0 ?_)
    · have h : ¬ y.toInt = (0 : Int64).toInt := fun z => h (lc_eq.mpr z)
      rw [i64_0] at h
      show (x / y).toInt = (if y.toInt = 0 then 0 else x.toInt.tdiv y.toInt)
      rw [if_neg h, Int64.toInt_div_of_ne_left x y (fun e => by
        rw [e] at hx
        exact absurd hx.1 (by decide))]
    · have h := lc_eq.mp h
      have h : y.toInt = 0 := h.trans i64_0
      show (0 : Int64).toInt = (if y.toInt = 0 then 0 else x.toInt.tdiv y.toInt)
      rw [if_pos h]
      rfl
  · refine And.intro (fun h => absurd h (by decide)) (fun _ => ?_)
    refine And.intro (fun h => absurd h (by decide)) (fun _ => ?_)
    refine And.intro (fun h => absurd h (by decide)) (fun _ => ?_)
    refine And.intro (fun h => absurd h (by decide)) (fun _ => ?_)
    refine And.intro (fun h => absurd h (by decide)) (fun _ => ?_)
    refine And.intro (fun _ => ?_) (fun h => absurd rfl h)
    refine And.intro (fun h => hR 0 ?_) (fun h => hR 1 ?_)
    · have h := lc_ge.mp h
      show (0 : Int64).toInt = (if x.toInt < y.toInt then 1 else 0)
      rw [if_neg (by omega)]
      rfl
    · have h : ¬ (y.toInt ≤ x.toInt) := fun z => h (lc_ge.mpr z)
      show (1 : Int64).toInt = (if x.toInt < y.toInt then 1 else 0)
      rw [if_pos (by omega)]
      rfl
  · refine And.intro (fun h => absurd h (by decide)) (fun _ => ?_)
    refine And.intro (fun h => absurd h (by decide)) (fun _ => ?_)
    refine And.intro (fun h => absurd h (by decide)) (fun _ => ?_)
    refine And.intro (fun h => absurd h (by decide)) (fun _ => ?_)
    refine And.intro (fun h => absurd h (by decide)) (fun _ => ?_)
    refine And.intro (fun h => absurd h (by decide)) (fun _ => ?_)
    refine And.intro (fun h => absurd h (by decide)) (fun _ => ?_)
    refine And.intro (fun _ => ?_) (fun h => absurd rfl h)
    refine And.intro (fun h => hR 0 ?_) (fun h => hR 1 ?_)
    · have h := lc_le.mp h
      show (0 : Int64).toInt = (if y.toInt < x.toInt then 1 else 0)
      rw [if_neg (by omega)]
      rfl
    · have h : ¬ (x.toInt ≤ y.toInt) := fun z => h (lc_le.mpr z)
      show (1 : Int64).toInt = (if y.toInt < x.toInt then 1 else 0)
      rw [if_pos (by omega)]
      rfl
  · refine And.intro (fun h => absurd h (by decide)) (fun _ => ?_)
    refine And.intro (fun h => absurd h (by decide)) (fun _ => ?_)
    refine And.intro (fun h => absurd h (by decide)) (fun _ => ?_)
    refine And.intro (fun h => absurd h (by decide)) (fun _ => ?_)
    refine And.intro (fun h => absurd h (by decide)) (fun _ => ?_)
    refine And.intro (fun h => absurd h (by decide)) (fun _ => ?_)
    refine And.intro (fun _ => ?_) (fun h => absurd rfl h)
    refine And.intro (fun h => hR 0 ?_) (fun h => hR 1 ?_)
    · have h : ¬ x.toInt = y.toInt := fun z => h (lc_eq.mpr z)
      show (0 : Int64).toInt = (if x.toInt = y.toInt then 1 else 0)
      rw [if_neg h]
      rfl
    · have h := lc_eq.mp h
      show (1 : Int64).toInt = (if x.toInt = y.toInt then 1 else 0)
      rw [if_pos h]
      rfl
  · refine And.intro (fun _ => ?_) (fun h => absurd rfl h)
    refine And.intro (fun h => hR 0 ?_) (fun h => hR 1 ?_)
    · have h := lc_eq.mp h
      show (0 : Int64).toInt = (if x.toInt = y.toInt then 0 else 1)
      rw [if_pos h]
      rfl
    · have h : ¬ x.toInt = y.toInt := fun z => h (lc_eq.mpr z)
      show (1 : Int64).toInt = (if x.toInt = y.toInt then 0 else 1)
      rw [if_neg h]
      rfl
  · refine And.intro (fun h => absurd h (by decide)) (fun _ => ?_)
    refine And.intro (fun h => absurd h (by decide)) (fun _ => ?_)
    refine And.intro (fun h => absurd h (by decide)) (fun _ => ?_)
    refine And.intro (fun h => absurd h (by decide)) (fun _ => ?_)
    refine And.intro (fun h => absurd h (by decide)) (fun _ => ?_)
    refine And.intro (fun h => absurd h (by decide)) (fun _ => ?_)
    refine And.intro (fun h => absurd h (by decide)) (fun _ => ?_)
    refine And.intro (fun h => absurd h (by decide)) (fun _ => ?_)
    refine And.intro (fun _ => ?_) (fun h => absurd rfl h)
    refine And.intro (fun h => hR 0 ?_) (fun h => hR 1 ?_)
    · have h := lc_gt.mp h
      show (0 : Int64).toInt = (if x.toInt ≤ y.toInt then 1 else 0)
      rw [if_neg (by omega)]
      rfl
    · have h : ¬ (y.toInt < x.toInt) := fun z => h (lc_gt.mpr z)
      show (1 : Int64).toInt = (if x.toInt ≤ y.toInt then 1 else 0)
      rw [if_pos (by omega)]
      rfl
  · refine And.intro (fun h => absurd h (by decide)) (fun _ => ?_)
    refine And.intro (fun h => absurd h (by decide)) (fun _ => ?_)
    refine And.intro (fun h => absurd h (by decide)) (fun _ => ?_)
    refine And.intro (fun h => absurd h (by decide)) (fun _ => ?_)
    refine And.intro (fun h => absurd h (by decide)) (fun _ => ?_)
    refine And.intro (fun h => absurd h (by decide)) (fun _ => ?_)
    refine And.intro (fun h => absurd h (by decide)) (fun _ => ?_)
    refine And.intro (fun h => absurd h (by decide)) (fun _ => ?_)
    refine And.intro (fun h => absurd h (by decide)) (fun _ => ?_)
    refine And.intro (fun _ => ?_) (fun h => absurd rfl h)
    refine And.intro (fun h => hR 0 ?_) (fun h => hR 1 ?_)
    · have h := lc_lt.mp h
      show (0 : Int64).toInt = (if y.toInt ≤ x.toInt then 1 else 0)
      rw [if_neg (by omega)]
      rfl
    · have h : ¬ (x.toInt < y.toInt) := fun z => h (lc_lt.mpr z)
      show (1 : Int64).toInt = (if y.toInt ≤ x.toInt then 1 else 0)
      rw [if_pos (by omega)]
      rfl
  · refine And.intro (fun h => absurd h (by decide)) (fun _ => ?_)
    refine And.intro (fun h => absurd h (by decide)) (fun _ => ?_)
    refine And.intro (fun h => absurd h (by decide)) (fun _ => ?_)
    refine And.intro (fun h => absurd h (by decide)) (fun _ => ?_)
    refine And.intro (fun h => absurd h (by decide)) (fun _ => ?_)
    refine And.intro (fun h => absurd h (by decide)) (fun _ => ?_)
    refine And.intro (fun h => absurd h (by decide)) (fun _ => ?_)
    refine And.intro (fun h => absurd h (by decide)) (fun _ => ?_)
    refine And.intro (fun h => absurd h (by decide)) (fun _ => ?_)
    refine And.intro (fun h => absurd h (by decide)) (fun _ => ?_)
    refine And.intro (fun _ => ?_) (fun h => absurd rfl h)
    refine hR (x * y) ?_
    have b := mul_b hx hy
    rw [l64_mul (by omega) (by omega)]
    rfl
  · refine And.intro (fun h => absurd h (by decide)) (fun _ => ?_)
    refine And.intro (fun h => absurd h (by decide)) (fun _ => ?_)
    refine And.intro (fun h => absurd h (by decide)) (fun _ => ?_)
    refine And.intro (fun h => absurd h (by decide)) (fun _ => ?_)
    refine And.intro (fun h => absurd h (by decide)) (fun _ => ?_)
    refine And.intro (fun h => absurd h (by decide)) (fun _ => ?_)
    refine And.intro (fun h => absurd h (by decide)) (fun _ => ?_)
    refine And.intro (fun h => absurd h (by decide)) (fun _ => ?_)
    refine And.intro (fun h => absurd h (by decide)) (fun _ => ?_)
    refine And.intro (fun h => absurd h (by decide)) (fun _ => ?_)
    refine And.intro (fun h => absurd h (by decide)) (fun _ => ?_)
    refine And.intro (fun h => hR 0 ?_) (fun h => hR 1 ?_)
    · have h := lc_le.mp h
      have h : (x + y).toInt ≤ 0 := by
        have z : (0 : Int64).toInt = 0 := i64_0
        exact h
      rw [l64_add (by omega) (by omega)] at h
      show (0 : Int64).toInt = (if 0 < x.toInt + y.toInt then 1 else 0)
      rw [if_neg (by omega)]
      rfl
    · have h : ¬ (x + y).toInt ≤ (0 : Int64).toInt := fun z => h (lc_le.mpr z)
      rw [i64_0, l64_add (by omega) (by omega)] at h
      show (1 : Int64).toInt = (if 0 < x.toInt + y.toInt then 1 else 0)
      rw [if_pos (by omega)]
      rfl
theorem bin_el {o : Odr} {t u : List Bool} {p : List Int} {nm : Nat → Int} (h : ((o.1 = 43 ∨ o.1 = 45 ∨ o.1 = 42 ∨ o.1 = 47) ∧ ∃ v, t = false :: false :: v ∧ u = false :: v) ∨ ((o.1 = 60 ∨ o.1 = 62 ∨ o.1 = 61 ∨ o.1 = 35 ∨ o.1 = 300 ∨ o.1 = 301) ∧ ∃ v, t = false :: false :: v ∧ u = true :: v) ∨ ((o.1 = 406 ∨ o.1 = 407) ∧ ∃ v, t = true :: true :: v ∧ u = true :: v)) (hV : VT t p) (h64 : t.length ≤ 64) : op2 o.1 ∧ ∃ y0 x0 q, p = y0 :: x0 :: q ∧ sm1 nm o p = wrk o.1 x0 y0 :: q ∧ inM x0 ∧ inM y0 ∧ (VT u (wrk o.1 x0 y0 :: q) ∧ u.length ≤ 64) := by
  have b01 : ∀ x : Int, x = 0 ∨ x = 1 → inM x := fun x hx => by
    rcases hx with e | e <;> rw [e] <;> exact ⟨by decide, by decide⟩
  rcases h with ⟨ho, v, e1, e2⟩ | ⟨ho, v, e1, e2⟩ | ⟨ho, v, e1, e2⟩
  · subst e1 e2
    obtain ⟨y, x, q, rfl, hV⟩ := VT_2 hV
    have hx : inM x := hV.2.1
    have hy : inM y := hV.1
    refine ⟨by unfold op2; omega, y, x, q, rfl, ?_, hx, hy, ⟨wrk_num ho hx, hV.2.2⟩, by simp only [List.length_cons] at h64 ⊢; omega⟩
    unfold sm1
    rcases ho with e | e | e | e <;> rw [e] <;> rfl
  · subst e1 e2
    obtain ⟨y, x, q, rfl, hV⟩ := VT_2 hV
    have hx : inM x := hV.2.1
    have hy : inM y := hV.1
    refine ⟨by unfold op2; omega, y, x, q, rfl, ?_, hx, hy, ⟨wrk_b01 ho, hV.2.2⟩, by simp only [List.length_cons] at h64 ⊢; omega⟩
    unfold sm1
    rcases ho with e | e | e | e | e | e <;> rw [e] <;> rfl
  · subst e1 e2
    obtain ⟨y, x, q, rfl, hV⟩ := VT_2 hV
    have hx : x = 0 ∨ x = 1 := hV.2.1
    have hy : y = 0 ∨ y = 1 := hV.1
    refine ⟨by unfold op2; omega, y, x, q, rfl, ?_, b01 x hx, b01 y hy, ⟨?_, hV.2.2⟩, by simp only [List.length_cons] at h64 ⊢; omega⟩
    · unfold sm1
      rcases ho with e | e <;> rw [e] <;> rfl
    · rcases ho with e | e <;> rw [e]
      · exact wrk_and hx hy
      · exact wrk_or hx hy
-- ===== the reference: what a law says =====
/-- the pile of longs; its top first -/
def PLr (r : Nat → Int64) : List Int → Prop
  | [] => True
  | x :: p => (r p.length).toInt = x ∧ PLr r p
theorem PLr.up {r r' : Nat → Int64} : ∀ {p : List Int}, PLr r p → (∀ i, i < p.length → r' i = r i) → PLr r' p
  | [], _, _ => trivial
  | x :: p, h, e => ⟨by rw [e p.length (by simp)]; exact h.1, PLr.up h.2 (fun i hi => e i (by simp only [List.length_cons]; omega))⟩
theorem updL_s {r : Nat → Int64} {i : Nat} {v : Int64} : vp_updL r i v i = v := by simp [vp_updL]
theorem updL_n {r : Nat → Int64} {i j : Nat} {v : Int64} (h : j ≠ i) : vp_updL r i v j = r j := by simp [vp_updL, h]
theorem PLr.put {r : Nat → Int64} {p : List Int} {v : Int64} {x : Int} {i : Nat} (h : PLr r p) (hi : i = p.length) (hv : v.toInt = x) : PLr (vp_updL r i v) (x :: p) := by
  subst hi
  exact ⟨by rw [updL_s]; exact hv, h.up (fun j hj => updL_n (by omega))⟩
/-- the orders from k on, and their end -/
def OR7 (I : XI) : Nat → List Odr → Prop
  | k, [] => I 77 k = 408
  | k, o :: e => I 77 k = nI o.1 ∧ (o.1 = 402 ∨ I 78 k = nI o.2) ∧ OR7 I (k + 1) e
/-- the names that law kk may use -/
def NMr (r : Nat → Int32) (kk : Nat) (nm : Nat → Int) : Prop := ∀ n, n ≤ 10 → myN n kk = true → (r n).toInt = nm n ∧ inM (nm n)
theorem nI_i64 {n : Nat} (h : n < 2 ^ 31) : (nI n).toInt64.toInt = (n : Int) := by rw [Int32.toInt_toInt64, nI_toInt h]
theorem VT_num {t : List Bool} {p : List Int} {x : Int} (h : VT t p) (hx : inM x) : VT (false :: t) (x :: p) := ⟨hx, h⟩
set_option maxRecDepth 100000 in
set_option maxHeartbeats 4000000 in
theorem ex_says_loop (l : Launch) (d f kk : Nat) (ru ta : Nat) (rs : List XO) (I : XI) (J0 : XJ) (Rp : XR) (nm : Nat → Int) (hnm : NMr (I 91) kk nm) (x : Int) (hR : ∀ (r : Int64) (J' : XJ), r.toInt = x → (∀ q, q ≠ 92 → J' q = J0 q) → Rp (some (.long r)) (shH ru ta rs) I J') : ∀ (e : List Odr) (k : Nat) (t : List Bool) (b : Bool) (p : List Int) (o : Option Value) (J : XJ), OR7 I k e → tyE kk e t = some [b] → VT t p → PLr (J 92) p → (∀ q, q ≠ 92 → J q = J0 q) → t.length ≤ 64 → k + e.length < 1600 → smE nm e p = [x] → xrun xxX12 (some .long) false false (shH ru ta rs).length 0 0 none l (d + 2) tX12_saysOf [4, 208] Rp (2 * e.length + 2) 4 (saysL f p.length k o) [] (shH ru ta rs) I J 0 0 := by
  intro e
  induction e with
  | nil =>
    intro k t b p o J hO hT hV hP hJ h64 hk hx
    have ec : (nI k).toNatClampNeg = k := nI_clamp (by omega)
    have hv : vp_in (nI k) 1600 := vp_in_nI (by simpa using hk) (by omega)
    have hx : p = [x] := hx
    subst hx
    have hO : I 77 k = 408 := hO
    have hc : I 77 (nI k).toNatClampNeg = 408 := by rw [ec, hO]
    refine xrun_step fun K hK => ?_
    refine And.intro hv ?_
    refine And.intro (fun _ => ?_) (fun h => absurd hc h)
    exact And.intro (vp_b (by decide)) (hR _ _ hP.1 hJ)
  | cons o1 e ih =>
    intro k t b p o J hO hT hV hP hJ h64 hk hx
    simp only [List.length_cons] at hk
    obtain ⟨hO1, hO2, hO3⟩ := hO
    have ec : (nI k).toNatClampNeg = k := nI_clamp (by omega)
    have hv : vp_in (nI k) 1600 := vp_in_nI (by omega) (by omega)
    have hl := hV.len
    obtain ⟨u, hu, hT2⟩ : ∃ u, tyo kk o1 t = some u ∧ tyE kk e u = some [b] := by
      unfold tyE at hT
      split at hT
      · rename_i u hu
        exact ⟨u, hu, hT⟩
      · cases hT
    rw [show 2 * (o1 :: e).length + 2 = (2 * e.length + 2) + 1 + 1 by simp only [List.length_cons]; omega]
    have nxt : ∀ (p' : List Int) (o : Option Value) (J' : XJ), sm1 nm o1 p = p' → VT u p' → PLr (J' 92) p' → (∀ q, q ≠ 92 → J' q = J q) → u.length ≤ 64 → xrun xxX12 (some .long) false false (shH ru ta rs).length 0 0 none l (d + 2) tX12_saysOf [4, 208] Rp (2 * e.length + 2 + 1) 208 (saysL f p'.length k o) [] (shH ru ta rs) I J' 0 0 := by
      intro p' o J' hp' hV' hP' hJ' hu64
      refine xrun_step fun K hK => ?_
      refine hK 4 [some (.ref 67), some (.int (nI f)), some (.int (nI p'.length)), some (.int (nI k + 1)), o] [] (shH ru ta rs) I J' 0 0 ?_
      rw [nI_1]
      exact ih (k + 1) u b p' o J' hO3 hT2 hV' hP' (fun q hq => (hJ' q hq).trans (hJ q hq)) hu64 (by omega) (by rw [← hp']; exact hx)
    have fr : ∀ (i : Nat) (v : Int64) (q : Nat), q ≠ 92 → uJ J 92 i v q = J q := fun i v q hq => uJ_ne hq
    refine xrun_step fun K hK => ?_
    refine And.intro hv ?_
    rcases tyo_el hu with ⟨ho, h1, h2, h3⟩ | ⟨ho, h1, h2, h3, h4⟩ | ⟨ho, v, h1, h2⟩ | ⟨ho, h0, v, h1, h2⟩ | ⟨ho, v, h1, h2⟩ | hbin
    · -- a number
      have hc : I 77 (nI k).toNatClampNeg = 400 := by rw [ec, hO1, ho]; rfl
      have hw : vp_in (nI p.length) 200 := vp_in_nI (by omega) (by omega)
      have e2 : I 78 k = nI o1.2 := hO2.resolve_left (by omega)
      refine And.intro (fun z => absurd (hc.symm.trans z) (by decide)) (fun _ => ?_)
      refine And.intro hv ?_
      refine And.intro (fun _ => ?_) (fun z => absurd hc z)
      refine And.intro (fun z => absurd hc z) (fun _ => ?_)
      refine And.intro hv (And.intro hw ?_)
      refine hK 208 [some (.ref 67), some (.int (nI f)), some (.int (nI p.length + 1)), some (.int (nI k)), some (.int _)] [] (shH ru ta rs) I (uJ J 92 (nI p.length).toNatClampNeg (I 78 (nI k).toNatClampNeg).toInt64) 0 0 ?_
      rw [nI_1, nI_clamp (show p.length < 2 ^ 31 by omega), ec, e2]
      refine nxt ((o1.2 : Int) :: p) _ _ ?_ (by rw [h3]; exact ⟨⟨by omega, by omega⟩, hV⟩) ?_ (fr _ _) (by rw [h3, List.length_cons]; omega)
      · unfold sm1
        rw [ho]
        rfl
      · rw [uJ_eq]
        exact hP.put rfl (nI_i64 (by omega))
    · -- a name
      have hc : I 77 (nI k).toNatClampNeg = 401 := by rw [ec, hO1, ho]; rfl
      have hw : vp_in (nI p.length) 200 := vp_in_nI (by omega) (by omega)
      have e2 : I 78 k = nI o1.2 := hO2.resolve_left (by omega)
      have hn : vp_in (I 78 (nI k).toNatClampNeg) 11 := by
        rw [ec, e2]
        exact vp_in_nI (by omega) (by omega)
      have hm := hnm o1.2 h3 h2
      refine And.intro (fun z => absurd (hc.symm.trans z) (by decide)) (fun _ => ?_)
      refine And.intro hv ?_
      refine And.intro (fun z => absurd (hc.symm.trans z) (by decide)) (fun _ => ?_)
      refine And.intro (fun z => absurd hc z) (fun _ => ?_)
      refine And.intro (fun _ => ?_) (fun z => absurd (hc.symm.trans z) (by decide))
      refine And.intro hv (And.intro hn (And.intro hw ?_))
      refine hK 208 [some (.ref 67), some (.int (nI f)), some (.int (nI p.length + 1)), some (.int (nI k)), some (.int _)] [] (shH ru ta rs) I (uJ J 92 (nI p.length).toNatClampNeg (I 91 (I 78 (nI k).toNatClampNeg).toNatClampNeg).toInt64) 0 0 ?_
      rw [nI_1, nI_clamp (show p.length < 2 ^ 31 by omega), ec, e2, nI_clamp (show o1.2 < 2 ^ 31 by omega)]
      refine nxt (nm o1.2 :: p) _ _ ?_ (by rw [h4]; exact ⟨hm.2, hV⟩) ?_ (fr _ _) (by rw [h4, List.length_cons]; omega)
      · unfold sm1
        rw [ho]
        rfl
      · rw [uJ_eq]
        exact hP.put rfl (by rw [Int32.toInt_toInt64]; exact hm.1)
    · -- minus
      subst h1
      obtain ⟨z0, q, rfl, hVq⟩ := VT_1 hV
      have hz := hP.1
      have hin : inM z0 := hVq.1
      have hw : vp_in (nI (z0 :: q).length - 1) 200 := by
        rw [show nI (z0 :: q).length - 1 = nI q.length from nI_pred q.length]
        exact vp_in_nI (by simp only [List.length_cons] at hl h64; omega) (by simp only [List.length_cons] at hl h64; omega)
      have ei : (nI (z0 :: q).length - 1).toNatClampNeg = q.length := by
        rw [show nI (z0 :: q).length - 1 = nI q.length from nI_pred q.length]
        exact nI_clamp (by simp only [List.length_cons] at hl h64; omega)
      have hc : I 77 (nI k).toNatClampNeg = 402 := by rw [ec, hO1, ho]; rfl
      refine And.intro (fun z => absurd (hc.symm.trans z) (by decide)) (fun _ => ?_)
      refine And.intro hv ?_
      refine And.intro (fun z => absurd (hc.symm.trans z) (by decide)) (fun _ => ?_)
      refine And.intro (fun _ => ?_) (fun z => absurd (hc.symm.trans z) (by decide))
      refine And.intro (fun z => absurd hc z) (fun _ => ?_)
      refine And.intro hw (And.intro hw ?_)
      refine hK 208 (saysL f (z0 :: q).length k _) [] (shH ru ta rs) I (uJ J 92 (nI (z0 :: q).length - 1).toNatClampNeg (-(J 92 (nI (z0 :: q).length - 1).toNatClampNeg))) 0 0 ?_
      rw [ei]
      refine nxt (-z0 :: q) _ _ ?_ (by rw [h2]; exact ⟨⟨by have := hin.1; have := hin.2; omega, by have := hin.1; have := hin.2; omega⟩, hVq.2⟩) ?_ (fr _ _) (by rw [h2]; exact h64)
      · unfold sm1
        rw [ho]
        rfl
      · rw [uJ_eq]
        refine hP.2.put rfl ?_
        have h0 : (J 92 q.length).toInt = z0 := hz
        rw [Int64.toInt_neg, h0]
        exact Int.bmod_eq_of_le (by have := hin.1; have := hin.2; omega) (by have := hin.1; have := hin.2; omega)
    · -- part
      subst h1
      obtain ⟨z0, q, rfl, hVq⟩ := VT_1 hV
      have hz := hP.1
      have hin : inM z0 := hVq.1
      have e2 : I 78 k = nI o1.2 := hO2.resolve_left (by omega)
      have hw : vp_in (nI (z0 :: q).length - 1) 200 := by
        rw [show nI (z0 :: q).length - 1 = nI q.length from nI_pred q.length]
        exact vp_in_nI (by simp only [List.length_cons] at hl h64; omega) (by simp only [List.length_cons] at hl h64; omega)
      have ei : (nI (z0 :: q).length - 1).toNatClampNeg = q.length := by
        rw [show nI (z0 :: q).length - 1 = nI q.length from nI_pred q.length]
        exact nI_clamp (by simp only [List.length_cons] at hl h64; omega)
      have hc : I 77 (nI k).toNatClampNeg = 403 := by rw [ec, hO1, ho]; rfl
      refine And.intro (fun z => absurd (hc.symm.trans z) (by decide)) (fun _ => ?_)
      refine And.intro hv ?_
      refine And.intro (fun z => absurd (hc.symm.trans z) (by decide)) (fun _ => ?_)
      refine And.intro (fun _ => ?_) (fun z => absurd (hc.symm.trans z) (by decide))
      refine And.intro (fun _ => ?_) (fun z => absurd (hc.symm.trans z) (by decide))
      refine And.intro (fun z => absurd hc z) (fun _ => ?_)
      refine And.intro hw (And.intro hv (And.intro (show ¬ ((100 : Int64) = 0) by decide) (And.intro hw ?_)))
      refine hK 208 (saysL f (z0 :: q).length k _) [] (shH ru ta rs) I (uJ J 92 (nI (z0 :: q).length - 1).toNatClampNeg (J 92 (nI (z0 :: q).length - 1).toNatClampNeg * (I 78 (nI k).toNatClampNeg).toInt64 / 100)) 0 0 ?_
      rw [ei, ec, e2]
      refine nxt ((z0 * (o1.2 : Int)).tdiv 100 :: q) _ _ ?_ (by rw [h2]; exact ⟨part_in hin h0, hVq.2⟩) ?_ (fr _ _) (by rw [h2]; exact h64)
      · unfold sm1
        rw [ho]
        rfl
      · rw [uJ_eq]
        refine hP.2.put rfl ?_
        have h1 : (J 92 q.length).toInt = z0 := hz
        have h2 : (nI o1.2).toInt64.toInt = (o1.2 : Int) := nI_i64 (by omega)
        have hb := mul_b hin (show inM (o1.2 : Int) from ⟨by omega, by omega⟩)
        have h3 : (J 92 q.length * (nI o1.2).toInt64).toInt = z0 * (o1.2 : Int) := by
          rw [l64_mul (by rw [h1, h2]; omega) (by rw [h1, h2]; omega), h1, h2]
        rw [Int64.toInt_div_of_ne_right _ _ (by decide), h3]
        rfl
    · -- not
      subst h1
      obtain ⟨z0, q, rfl, hVq⟩ := VT_1 hV
      have hz := hP.1
      have hin : z0 = 0 ∨ z0 = 1 := hVq.1
      have hw : vp_in (nI (z0 :: q).length - 1) 200 := by
        rw [show nI (z0 :: q).length - 1 = nI q.length from nI_pred q.length]
        exact vp_in_nI (by simp only [List.length_cons] at hl h64; omega) (by simp only [List.length_cons] at hl h64; omega)
      have ei : (nI (z0 :: q).length - 1).toNatClampNeg = q.length := by
        rw [show nI (z0 :: q).length - 1 = nI q.length from nI_pred q.length]
        exact nI_clamp (by simp only [List.length_cons] at hl h64; omega)
      have hc : I 77 (nI k).toNatClampNeg = 405 := by rw [ec, hO1, ho]; rfl
      refine And.intro (fun z => absurd (hc.symm.trans z) (by decide)) (fun _ => ?_)
      refine And.intro hv ?_
      refine And.intro (fun z => absurd (hc.symm.trans z) (by decide)) (fun _ => ?_)
      refine And.intro (fun _ => ?_) (fun z => absurd (hc.symm.trans z) (by decide))
      refine And.intro (fun _ => ?_) (fun z => absurd (hc.symm.trans z) (by decide))
      refine And.intro (fun _ => ?_) (fun z => absurd (hc.symm.trans z) (by decide))
      refine And.intro (fun z => absurd hc z) (fun _ => ?_)
      refine And.intro hw (And.intro hw ?_)
      refine hK 208 (saysL f (z0 :: q).length k _) [] (shH ru ta rs) I (uJ J 92 (nI (z0 :: q).length - 1).toNatClampNeg (1 - J 92 (nI (z0 :: q).length - 1).toNatClampNeg)) 0 0 ?_
      rw [ei]
      refine nxt ((1 - z0) :: q) _ _ ?_ (by rw [h2]; exact ⟨by rcases hin with e | e <;> rw [e] <;> simp, hVq.2⟩) ?_ (fr _ _) (by rw [h2]; exact h64)
      · unfold sm1
        rw [ho]
        rfl
      · rw [uJ_eq]
        refine hP.2.put rfl ?_
        have h0 : (J 92 q.length).toInt = z0 := hz
        rw [l64_sub (by rw [i64_1, h0]; omega) (by rw [i64_1, h0]; omega), i64_1, h0]
    · -- two numbers become one
      obtain ⟨hop, y0, x0, q, rfl, hsm, hxi, hyi, hVu⟩ : op2 o1.1 ∧ ∃ y0 x0 q, p = y0 :: x0 :: q ∧ sm1 nm o1 p = wrk o1.1 x0 y0 :: q ∧ inM x0 ∧ inM y0 ∧ (VT u (wrk o1.1 x0 y0 :: q) ∧ u.length ≤ 64) := bin_el hbin hV h64
      have ho : ¬ (o1.1 = 400 ∨ o1.1 = 401 ∨ o1.1 = 402 ∨ o1.1 = 403 ∨ o1.1 = 405 ∨ o1.1 = 408) := by
        unfold op2 at hop
        omega
      have hb : o1.1 < 1000 := by
        unfold op2 at hop
        omega
      have hlen : (y0 :: x0 :: q).length = q.length + 2 := rfl
      have hl2 : q.length + 2 ≤ 64 := by
        simp only [List.length_cons] at hl
        omega
      have eo : I 77 (nI k).toNatClampNeg = nI o1.1 := by rw [ec, hO1]
      have ne : ∀ m : Nat, m < 1000 → ¬ o1.1 = m → ¬ I 77 (nI k).toNatClampNeg = nI m := fun m hm h z => h (nI_small (eo.symm.trans z) (by omega) (by omega))
      have e1 : nI (y0 :: x0 :: q).length + (-1) = nI (q.length + 1) := nI_m1 (by simp)
      have hw1 : vp_in (nI (y0 :: x0 :: q).length + (-1)) 200 := by
        rw [e1]
        exact vp_in_nI (by omega) (by omega)
      have e2 : nI (y0 :: x0 :: q).length + (-1) - 1 = nI q.length := by rw [e1]; exact nI_pred q.length
      have hw2 : vp_in (nI (y0 :: x0 :: q).length + (-1) - 1) 200 := by
        rw [e2]
        exact vp_in_nI (by omega) (by omega)
      refine And.intro (fun z => absurd z (ne 408 (by omega) (by omega))) (fun _ => ?_)
      refine And.intro hv ?_
      refine And.intro (fun z => absurd z (ne 400 (by omega) (by omega))) (fun _ => ?_)
      refine And.intro (fun _ => ?_) (fun z => absurd z (ne 401 (by omega) (by omega)))
      refine And.intro (fun _ => ?_) (fun z => absurd z (ne 402 (by omega) (by omega)))
      refine And.intro (fun _ => ?_) (fun z => absurd z (ne 403 (by omega) (by omega)))
      refine And.intro (fun _ => ?_) (fun z => absurd z (ne 405 (by omega) (by omega)))
      refine And.intro hw2 (And.intro hw1 ?_)
      have c1 : (nI (y0 :: x0 :: q).length + (-1)).toNatClampNeg = q.length + 1 := by rw [e1]; exact nI_clamp (by omega)
      have c2 : (nI (y0 :: x0 :: q).length + (-1) - 1).toNatClampNeg = q.length := by rw [e2]; exact nI_clamp (by omega)
      have hy : (J 92 (q.length + 1)).toInt = y0 := hP.1
      have hxx : (J 92 q.length).toInt = x0 := hP.2.1
      refine (show xm l (d + 2) 0 0 mX12_worked [.int (I 77 (nI k).toNatClampNeg), .long (J 92 (nI (y0 :: x0 :: q).length + (-1) - 1).toNatClampNeg), .long (J 92 (nI (y0 :: x0 :: q).length + (-1)).toNatClampNeg)] (shH ru ta rs) I J _ from ?_)
      rw [eo, c1, c2]
      refine ex_worked l d o1.1 hop (J 92 q.length) (J 92 (q.length + 1)) (by rw [hxx]; exact hxi) (by rw [hy]; exact hyi) _ _ _ _ (fun r hr => ?_)
      refine And.intro hw2 ?_
      refine hK 208 [some (.ref 67), some (.int (nI f)), some (.int (nI (y0 :: x0 :: q).length + (-1))), some (.int (nI k)), some (.int _)] [] (shH ru ta rs) I (uJ J 92 (nI (y0 :: x0 :: q).length + (-1) - 1).toNatClampNeg r) 0 0 ?_
      rw [c2, e1]
      refine nxt (wrk o1.1 x0 y0 :: q) _ _ hsm hVu.1 ?_ (fr _ _) hVu.2
      rw [uJ_eq]
      exact hP.2.2.put rfl (by rw [hr, hxx, hy])
set_option maxRecDepth 100000 in
/-- what the orders from f on say -/
theorem ex_says (l : Launch) (d f kk : Nat) (ru ta : Nat) (rs : List XO) (I : XI) (J : XJ) (Rp : XR) (nm : Nat → Int) (hnm : NMr (I 91) kk nm) (e : List Odr) (b : Bool) (x : Int) (hO : OR7 I f e) (hT : tyE kk e [] = some [b]) (hk : f + e.length < 1600) (hl : e.length ≤ 400) (hx : smE nm e [] = [x]) (hR : ∀ (r : Int64) (J' : XJ), r.toInt = x → (∀ q, q ≠ 92 → J' q = J q) → Rp (some (.long r)) (shH ru ta rs) I J') : xm l (d + 3) 0 0 mX12_saysOf [.ref 67, .int (nI f)] (shH ru ta rs) I J Rp := by
  refine xm_ofK (2 * e.length + 2) (X := xxX12) (t := tX12_saysOf) (stop := [4, 208]) (ini := false) xx12 pl12 rfl kX12_saysOf (fun h => by cases h) (Nat.le_of_ble_eq_true rfl) (fun K hK => ?_)
  exact hK 4 (saysL f 0 f none) [] _ _ _ _ _ (ex_says_loop l d f kk ru ta rs I J Rp nm hnm x hR e f [] b [] none J hO hT trivial trivial (fun _ _ => rfl) (by simp) hk hx)
