-- ===== what a text is: its signs and its tokens =====
abbrev TK : Type := Nat × Nat × Nat × Nat
def bBl (x : Int32) : Bool := decide (x = 32) || decide (x = 10)
def bDg (x : Int32) : Bool := decide (48 ≤ x) && decide (x ≤ 57)
def bLt (x : Int32) : Bool := (decide (97 ≤ x) && decide (x ≤ 122)) || (decide (65 ≤ x) && decide (x ≤ 90))
theorem bLt_iff (x : Int32) : bLt x = true ↔ isLet x := by simp [bLt, isLet]
theorem bDg_iff (x : Int32) : bDg x = true ↔ (48 ≤ x ∧ x ≤ 57) := by simp [bDg]
theorem bBl_iff (x : Int32) : bBl x = true ↔ (x = 32 ∨ x = 10) := by simp [bBl]
theorem bF {b : Bool} {P : Prop} (h : b = true ↔ P) (n : ¬ P) : b = false := by
  cases b with
  | false => rfl
  | true => exact absurd (h.mp rfl) n
def skP (f : Int32 → Bool) (B : Nat → Int32) (T : Nat) : Nat → Nat → Nat
  | 0, i => i
  | n + 1, i => match Nat.blt i T && f (B i) with
    | true => skP f B T n (i + 1)
    | false => i
/-- behind the signs that are so -/
def ru (f : Int32 → Bool) (B : Nat → Int32) (T i : Nat) : Nat := skP f B T (T - i) i
section RU
variable {f : Int32 → Bool} {B : Nat → Int32} {T : Nat}
theorem ru_e {i : Nat} (h : T ≤ i) : ru f B T i = i := by
  unfold ru
  rw [show T - i = 0 by omega]
  rfl
theorem ru_t {i : Nat} (h : i < T) (hf : f (B i) = true) : ru f B T i = ru f B T (i + 1) := by
  unfold ru
  obtain ⟨m, hm⟩ : ∃ m, T - i = m + 1 := ⟨T - i - 1, by omega⟩
  have e : (Nat.blt i T && f (B i)) = true := by
    rw [hf, Bool.and_true]
    exact Nat.blt_eq.mpr h
  rw [hm, show T - (i + 1) = m by omega, skP, e]
theorem ru_f {i : Nat} (hf : f (B i) = false) : ru f B T i = i := by
  unfold ru
  cases hm : T - i with
  | zero => rfl
  | succ m =>
    have e : (Nat.blt i T && f (B i)) = false := by rw [hf, Bool.and_false]
    rw [skP, e]
theorem ru_all : ∀ (m i : Nat), T - i ≤ m → i ≤ T → i ≤ ru f B T i ∧ ru f B T i ≤ T ∧ (∀ k, i ≤ k → k < ru f B T i → f (B k) = true) ∧ (ru f B T i < T → f (B (ru f B T i)) = false) := by
  intro m
  induction m with
  | zero =>
    intro i hm hi
    rw [ru_e (f := f) (B := B) (show T ≤ i by omega)]
    exact ⟨Nat.le_refl _, hi, fun k h1 h2 => by omega, fun h => by omega⟩
  | succ m ih =>
    intro i hm hi
    rcases Nat.lt_or_ge i T with h | h
    · cases hf : f (B i) with
      | false =>
        rw [ru_f hf]
        exact ⟨Nat.le_refl _, hi, fun k h1 h2 => by omega, fun _ => hf⟩
      | true =>
        rw [ru_t h hf]
        obtain ⟨a1, a2, a3, a4⟩ := ih (i + 1) (by omega) (by omega)
        refine ⟨by omega, a2, fun k h1 h2 => ?_, a4⟩
        by_cases e : k = i
        · rw [e]
          exact hf
        · exact a3 k (by omega) h2
    · rw [ru_e (f := f) (B := B) h]
      exact ⟨Nat.le_refl _, hi, fun k h1 h2 => by omega, fun h => by omega⟩
theorem ru_ge {i : Nat} (hi : i ≤ T) : i ≤ ru f B T i := (ru_all (T - i) i (Nat.le_refl _) hi).1
theorem ru_le {i : Nat} (hi : i ≤ T) : ru f B T i ≤ T := (ru_all (T - i) i (Nat.le_refl _) hi).2.1
theorem ru_gt {i : Nat} (h : i < T) (hf : f (B i) = true) : i + 1 ≤ ru f B T i := by
  rw [ru_t h hf]
  exact ru_ge (by omega)
end RU
def ltN (B : Nat → Int32) : Nat → Nat → List Int32
  | 0, _ => []
  | n + 1, i => B i :: ltN B n (i + 1)
theorem ltN_len (B : Nat → Int32) : ∀ (n i : Nat), (ltN B n i).length = n
  | 0, _ => rfl
  | n + 1, i => by rw [ltN, List.length_cons, ltN_len B n]
theorem ltN_get (B : Nat → Int32) : ∀ (n i k : Nat), k < n → (ltN B n i).getD k 32 = B (i + k)
  | 0, _, _, h => by omega
  | n + 1, i, 0, _ => rfl
  | n + 1, i, k + 1, h => by
    rw [ltN, List.getD_cons_succ, ltN_get B n (i + 1) k (by omega), show i + 1 + k = i + (k + 1) by omega]
theorem ltN_out (B : Nat → Int32) : ∀ (n i k : Nat), n ≤ k → (ltN B n i).getD k 32 = 32
  | 0, _, _, _ => rfl
  | n + 1, i, 0, h => by omega
  | n + 1, i, k + 1, h => by rw [ltN, List.getD_cons_succ, ltN_out B n (i + 1) k (by omega)]
theorem ltN_mem (B : Nat → Int32) : ∀ (n i : Nat) (x : Int32), x ∈ ltN B n i → ∃ k, i ≤ k ∧ k < i + n ∧ x = B k
  | 0, _, _, h => by cases h
  | n + 1, i, x, h => by
    rcases List.mem_cons.mp h with e | h
    · exact ⟨i, Nat.le_refl _, by omega, e⟩
    · obtain ⟨k, h1, h2, e⟩ := ltN_mem B n (i + 1) x h
      exact ⟨k, by omega, by omega, e⟩
/-- the letters from i on -/
def lts (B : Nat → Int32) (T i : Nat) : List Int32 := ltN B (ru bLt B T i - i) i
theorem lts_let {B : Nat → Int32} {T i : Nat} (hi : i ≤ T) : ∀ x, x ∈ lts B T i → isLet x := by
  intro x hx
  obtain ⟨k, h1, h2, e⟩ := ltN_mem B _ _ x hx
  have y := (ru_all (f := bLt) (B := B) (T - i) i (Nat.le_refl _) hi).2.2.1 k h1 (by have := ru_ge (f := bLt) (B := B) hi; omega)
  rw [e]
  exact (bLt_iff _).mp y
/-- n digits from i on, behind a -/
def nuN (B : Nat → Int32) : Nat → Nat → Nat → Nat
  | 0, _, a => a
  | n + 1, i, a => nuN B n (i + 1) (min 10000 (10 * a + ((B i).toNatClampNeg - 48)))
def nuS (B : Nat → Int32) (T i a : Nat) : Nat := nuN B (ru bDg B T i - i) i a
theorem nuS_e {B : Nat → Int32} {T i a : Nat} (h : T ≤ i) : nuS B T i a = a := by
  unfold nuS
  rw [ru_e h, Nat.sub_self]
  rfl
theorem nuS_f {B : Nat → Int32} {T i a : Nat} (h : bDg (B i) = false) : nuS B T i a = a := by
  unfold nuS
  rw [ru_f h, Nat.sub_self]
  rfl
theorem nuS_t {B : Nat → Int32} {T i a : Nat} (h : i < T) (hf : bDg (B i) = true) : nuS B T i a = nuS B T (i + 1) (min 10000 (10 * a + ((B i).toNatClampNeg - 48))) := by
  unfold nuS
  have y := ru_ge (f := bDg) (B := B) (T := T) (i := i + 1) (by omega)
  rw [ru_t h hf, show ru bDg B T (i + 1) - i = (ru bDg B T (i + 1) - (i + 1)) + 1 by omega, nuN]
theorem nuN_le (B : Nat → Int32) : ∀ (n i a : Nat), a ≤ 10000 → nuN B n i a ≤ 10000
  | 0, _, _, h => h
  | n + 1, i, a, _ => nuN_le B n (i + 1) _ (Nat.min_le_left _ _)
-- ===== words =====
def wT : List (List Int32) := [[108, 111, 110, 103], [103, 114, 111, 119, 115], [115, 112, 111, 105, 108, 115], [115, 101, 108, 108, 115], [109, 97, 121], [116, 104, 105, 110, 103], [114, 101, 97, 112, 101, 114], [98, 97, 114, 110], [99, 117, 116], [108, 97, 115, 116], [117, 115, 101], [109, 111, 118, 101], [115, 101, 108, 108], [104, 111, 117, 114], [107, 105, 110, 100], [111, 102], [98, 121], [116, 111], [102, 114, 111, 109], [111, 114], [97, 110, 100], [110, 111, 116], [112, 97, 114, 116], [100, 97, 121], [104, 101, 105, 103, 104, 116], [103, 114, 111, 119, 110], [99, 108, 111, 117, 100], [100, 97, 114, 107], [108, 101, 110, 103, 116, 104], [104, 101, 114, 101], [111, 119, 110, 101, 114], [115, 104, 97, 100, 111, 119]]
def wC : List (List Int32) := [[108, 111, 110, 103], [103, 114, 111, 119, 115], [115, 112, 111, 105, 108, 115], [115, 101, 108, 108, 115], [109, 97, 121], [116, 104, 105, 110, 103], [114, 101, 97, 112, 101, 114], [98, 97, 114, 110], [99, 117, 116], [108, 97, 115, 116], [117, 115, 101], [109, 111, 118, 101], [115, 101, 108, 108], [104, 111, 117, 114], [100, 97, 121], [107, 105, 110, 100], [104, 101, 105, 103, 104, 116], [103, 114, 111, 119, 110], [99, 108, 111, 117, 100], [100, 97, 114, 107], [108, 101, 110, 103, 116, 104], [104, 101, 114, 101], [111, 119, 110, 101, 114], [115, 104, 97, 100, 111, 119], [111, 102], [98, 121], [116, 111], [102, 114, 111, 109], [111, 114], [97, 110, 100], [110, 111, 116], [112, 97, 114, 116]]
/-- the place of a word of the reference in the other row of words -/
def cwL : List Nat := [0, 1, 2, 3, 4, 5, 6, 7, 8, 9, 10, 11, 12, 13, 15, 24, 25, 26, 27, 28, 29, 30, 31, 14, 16, 17, 18, 19, 20, 21, 22, 23]
def cw (k : Nat) : Nat := cwL.getD k 0
def kW (l : List Int32) : List (List Int32) → Nat → Option Nat
  | [], _ => none
  | w :: r, k => match decide (l = w) with
    | true => some k
    | false => kW l r (k + 1)
theorem kW_some {l : List Int32} : ∀ {ws : List (List Int32)} {k j : Nat}, kW l ws k = some j → ∃ i, j = k + i ∧ ws[i]? = some l
  | [], _, _, h => by cases h
  | w :: r, k, j, h => by
    unfold kW at h
    split at h
    · rename_i e
      cases h
      exact ⟨0, rfl, by rw [of_decide_eq_true e]; rfl⟩
    · obtain ⟨i, h1, h2⟩ := kW_some h
      exact ⟨i + 1, by omega, by simpa using h2⟩
theorem kW_none {l : List Int32} : ∀ {ws : List (List Int32)} {k : Nat}, kW l ws k = none → l ∉ ws
  | [], _, _ => by simp
  | w :: r, k, h => by
    unfold kW at h
    split at h
    · cases h
    · rename_i e
      intro hm
      rcases List.mem_cons.mp hm with z | z
      · exact of_decide_eq_false e z
      · exact kW_none h z
def bLet (x : Int32) : Bool := bLt x
theorem wT_let : ∀ w, w ∈ wT → w.length ≤ 6 ∧ ∀ x, x ∈ w → isLet x := by
  have y : (wT.all fun w => Nat.ble w.length 6 && w.all bLt) = true := by decide +kernel
  intro w hw
  have z := List.all_eq_true.mp y w hw
  rw [Bool.and_eq_true] at z
  exact ⟨Nat.le_of_ble_eq_true z.1, fun x hx => (bLt_iff x).mp (List.all_eq_true.mp z.2 x hx)⟩
theorem wC_let : ∀ w, w ∈ wC → w.length ≤ 6 ∧ ∀ x, x ∈ w → isLet x := by
  have y : (wC.all fun w => Nat.ble w.length 6 && w.all bLt) = true := by decide +kernel
  intro w hw
  have z := List.all_eq_true.mp y w hw
  rw [Bool.and_eq_true] at z
  exact ⟨Nat.le_of_ble_eq_true z.1, fun x hx => (bLt_iff x).mp (List.all_eq_true.mp z.2 x hx)⟩
theorem w_both : ((List.range 32).all fun w => (List.range 32).all fun k => match decide (wC[w]? = wT[k]?) with
  | true => Nat.beq w (cw k)
  | false => true) = true := by decide +kernel
theorem w_sub : ((wT.all fun w => wC.contains w) && wC.all fun w => wT.contains w) = true := by decide +kernel
theorem kW_cls (l : List Int32) : kW l wC 0 = (kW l wT 0).map cw := by
  have s := w_sub
  rw [Bool.and_eq_true] at s
  cases h : kW l wT 0 with
  | some k =>
    obtain ⟨i, h1, h2⟩ := kW_some h
    have e : i = k := by omega
    subst e
    cases g : kW l wC 0 with
    | some w =>
      obtain ⟨j, g1, g2⟩ := kW_some g
      have e : j = w := by omega
      subst e
      have l1 : j < 32 := (List.getElem?_eq_some_iff.mp g2).1
      have l2 : i < 32 := (List.getElem?_eq_some_iff.mp h2).1
      have y := List.all_eq_true.mp (List.all_eq_true.mp w_both j (List.mem_range.mpr l1)) i (List.mem_range.mpr l2)
      rw [g2, h2] at y
      rw [show decide (some l = some l) = true from decide_eq_true rfl] at y
      have y2 : Nat.beq j (cw i) = true := y
      rw [Nat.eq_of_beq_eq_true y2]
      rfl
    | none =>
      exfalso
      refine kW_none g ?_
      have y := List.all_eq_true.mp s.1 l (List.mem_of_getElem? h2)
      simpa using y
  | none =>
    cases g : kW l wC 0 with
    | some w =>
      exfalso
      obtain ⟨j, g1, g2⟩ := kW_some g
      refine kW_none h ?_
      have y := List.all_eq_true.mp s.2 l (List.mem_of_getElem? g2)
      simpa using y
    | none => rfl
theorem cw_lt {k : Nat} : cw k < 32 := by
  have y : (cwL.all fun x => Nat.blt x 32) = true := by decide +kernel
  unfold cw
  rw [List.getD_eq_getElem?_getD]
  cases h : cwL[k]? with
  | none => simp
  | some x =>
    have z := List.all_eq_true.mp y x (List.mem_of_getElem? h)
    have z2 : x < 32 := Nat.blt_eq.mp z
    simpa using z2
theorem kW_lt {l : List Int32} {k : Nat} (h : kW l wT 0 = some k) : k < 32 := by
  obtain ⟨i, h1, h2⟩ := kW_some h
  have l2 : i < 32 := (List.getElem?_eq_some_iff.mp h2).1
  omega
/-- equal where both are filled up with blanks -/
theorem pad_eq : ∀ (n : Nat) (a b : List Int32), a.length ≤ n → b.length ≤ n → (∀ x, x ∈ a → isLet x) → (∀ x, x ∈ b → isLet x) → (∀ i, i < n → a.getD i 32 = b.getD i 32) → a = b := by
  have no : ¬ isLet 32 := by unfold isLet; decide
  intro n
  induction n with
  | zero =>
    intro a b ha hb _ _ _
    rw [List.length_eq_zero_iff.mp (Nat.le_zero.mp ha), List.length_eq_zero_iff.mp (Nat.le_zero.mp hb)]
  | succ n ih =>
    intro a b ha hb la lb h
    have h0 := h 0 (by omega)
    cases a with
    | nil =>
      cases b with
      | nil => rfl
      | cons y b =>
        exfalso
        have e : (32 : Int32) = y := h0
        exact no (by rw [e]; exact lb y List.mem_cons_self)
    | cons x a =>
      cases b with
      | nil =>
        exfalso
        have e : x = (32 : Int32) := h0
        exact no (by rw [← e]; exact la x List.mem_cons_self)
      | cons y b =>
        have e : x = y := h0
        subst e
        rw [ih a b (by simpa using ha) (by simpa using hb) (fun z hz => la z (List.mem_cons_of_mem _ hz)) (fun z hz => lb z (List.mem_cons_of_mem _ hz)) (fun i hi => by
          have := h (i + 1) (by omega)
          rw [List.getD_cons_succ, List.getD_cons_succ] at this
          exact this)]
-- ===== a word as one number =====
def en64 : List Int32 → Int64 → Int64
  | [], L => L
  | x :: r, L => en64 r (64 * L + x.toInt64 - 64)
def enZ : List Int32 → Int → Int
  | [], z => z
  | x :: r, z => enZ r (64 * z + x.toInt - 64)
def evZ : List Int32 → Int
  | [] => 0
  | x :: r => 64 * evZ r + x.toInt - 64
theorem let_rg {x : Int32} (h : isLet x) : 65 ≤ x.toInt ∧ x.toInt ≤ 122 := by
  unfold isLet at h
  rcases h with ⟨h1, h2⟩ | ⟨h1, h2⟩
  · have a := Int32.le_iff_toInt_le.mp h1
    have b := Int32.le_iff_toInt_le.mp h2
    rw [show (97 : Int32).toInt = 97 by decide] at a
    rw [show (122 : Int32).toInt = 122 by decide] at b
    omega
  · have a := Int32.le_iff_toInt_le.mp h1
    have b := Int32.le_iff_toInt_le.mp h2
    rw [show (65 : Int32).toInt = 65 by decide] at a
    rw [show (90 : Int32).toInt = 90 by decide] at b
    omega
theorem l64_add {x y : Int64} (h1 : -9223372036854775808 ≤ x.toInt + y.toInt) (h2 : x.toInt + y.toInt < 9223372036854775808) : (x + y).toInt = x.toInt + y.toInt := by
  rw [Int64.toInt_add]
  exact Int.bmod_eq_of_le (by omega) (by omega)
theorem l64_sub {x y : Int64} (h1 : -9223372036854775808 ≤ x.toInt - y.toInt) (h2 : x.toInt - y.toInt < 9223372036854775808) : (x - y).toInt = x.toInt - y.toInt := by
  rw [Int64.toInt_sub]
  exact Int.bmod_eq_of_le (by omega) (by omega)
theorem l64_mul {x y : Int64} (h1 : -9223372036854775808 ≤ x.toInt * y.toInt) (h2 : x.toInt * y.toInt < 9223372036854775808) : (x * y).toInt = x.toInt * y.toInt := by
  rw [Int64.toInt_mul]
  exact Int.bmod_eq_of_le (by omega) (by omega)
theorem i64_64 : (64 : Int64).toInt = 64 := by decide
theorem en_step {L : Int64} {x : Int32} (h0 : 0 ≤ L.toInt) (h1 : L.toInt < 2 ^ 50) (hx : isLet x) : (64 * L + x.toInt64 - 64).toInt = 64 * L.toInt + x.toInt - 64 := by
  have hl := let_rg hx
  have a : (64 * L).toInt = 64 * L.toInt := by
    rw [l64_mul (by rw [i64_64]; omega) (by rw [i64_64]; omega), i64_64]
  have b : (64 * L + x.toInt64).toInt = 64 * L.toInt + x.toInt := by
    rw [l64_add (by rw [a, Int32.toInt_toInt64]; omega) (by rw [a, Int32.toInt_toInt64]; omega), a, Int32.toInt_toInt64]
  rw [l64_sub (by rw [b, i64_64]; omega) (by rw [b, i64_64]; omega), b, i64_64]
theorem en_toInt : ∀ (l : List Int32) (L : Int64) (k : Nat), (∀ x, x ∈ l → isLet x) → 0 ≤ L.toInt → L.toInt < (64 : Int) ^ k → k + l.length ≤ 8 → (en64 l L).toInt = enZ l L.toInt := by
  intro l
  induction l with
  | nil => intro L k _ _ _ _; rfl
  | cons x r ih =>
    intro L k hl h0 h1 hk
    simp only [List.length_cons] at hk
    have hx := hl x List.mem_cons_self
    have hr := let_rg hx
    have p7 : (64 : Int) ^ k ≤ 64 ^ 7 := by
      have := Nat.pow_le_pow_right (show 1 ≤ 64 by omega) (show k ≤ 7 by omega)
      exact_mod_cast this
    have ps : (64 : Int) ^ (k + 1) = 64 * 64 ^ k := by rw [Int.pow_succ, Int.mul_comm]
    have e := en_step h0 (by omega) hx
    rw [en64, enZ, ih _ (k + 1) (fun y hy => hl y (List.mem_cons_of_mem _ hy)) (by rw [e]; omega) (by rw [e, ps]; omega) (by omega), e]
theorem enZ_ev : ∀ (l s : List Int32), enZ l (evZ s) = evZ (l.reverse ++ s)
  | [], s => rfl
  | x :: r, s => by
    have e : enZ r (evZ (x :: s)) = evZ (r.reverse ++ x :: s) := enZ_ev r (x :: s)
    rw [List.reverse_cons, List.append_assoc]
    exact e
theorem evZ_nn : ∀ (l : List Int32), (∀ x, x ∈ l → isLet x) → 0 ≤ evZ l
  | [], _ => Int.le_refl _
  | x :: r, h => by
    have a := evZ_nn r (fun y hy => h y (List.mem_cons_of_mem _ hy))
    have b := let_rg (h x List.mem_cons_self)
    rw [evZ]
    omega
theorem evZ_inj : ∀ (l m : List Int32), (∀ x, x ∈ l → isLet x) → (∀ x, x ∈ m → isLet x) → evZ l = evZ m → l = m
  | [], [], _, _, _ => rfl
  | [], y :: m, _, hm, h => by
    exfalso
    have a := evZ_nn m (fun z hz => hm z (List.mem_cons_of_mem _ hz))
    have b := let_rg (hm y List.mem_cons_self)
    rw [evZ, evZ] at h
    omega
  | x :: l, [], hl, _, h => by
    exfalso
    have a := evZ_nn l (fun z hz => hl z (List.mem_cons_of_mem _ hz))
    have b := let_rg (hl x List.mem_cons_self)
    rw [evZ, evZ] at h
    omega
  | x :: l, y :: m, hl, hm, h => by
    have b := let_rg (hl x List.mem_cons_self)
    have c := let_rg (hm y List.mem_cons_self)
    rw [evZ, evZ] at h
    have e1 : x.toInt = y.toInt := by omega
    have e2 : evZ l = evZ m := by omega
    rw [Int32.toInt_inj.mp e1, evZ_inj l m (fun z hz => hl z (List.mem_cons_of_mem _ hz)) (fun z hz => hm z (List.mem_cons_of_mem _ hz)) e2]
theorem en_inj {l m : List Int32} (hl : ∀ x, x ∈ l → isLet x) (hm : ∀ x, x ∈ m → isLet x) (nl : l.length ≤ 7) (nm : m.length ≤ 7) (h : en64 l 0 = en64 m 0) : l = m := by
  have z0 : (0 : Int64).toInt = 0 := by decide
  have a := en_toInt l 0 0 hl (by rw [z0]; omega) (by rw [z0]; decide) (by omega)
  have b := en_toInt m 0 0 hm (by rw [z0]; omega) (by rw [z0]; decide) (by omega)
  rw [h, b, z0] at a
  have c1 := enZ_ev l []
  have c2 := enZ_ev m []
  rw [List.append_nil] at c1 c2
  have c : evZ l.reverse = evZ m.reverse := by
    rw [← c1, ← c2]
    exact a.symm
  have d := evZ_inj l.reverse m.reverse (fun x hx => hl x (List.mem_reverse.mp hx)) (fun x hx => hm x (List.mem_reverse.mp hx)) c
  have e := congrArg List.reverse d
  rw [List.reverse_reverse, List.reverse_reverse] at e
  exact e
/-- what the reference makes of the number of a word -/
def wIx (L : Int64) : List Int64 → Nat → Int32
  | [], _ => -1
  | c :: r, k => match decide (L = c) with
    | true => nI k
    | false => wIx L r (k + 1)
theorem wIx_y {L c : Int64} {r : List Int64} {k : Nat} (h : L = c) : wIx L (c :: r) k = nI k := by
  rw [wIx, decide_eq_true h]
theorem wIx_n {L c : Int64} {r : List Int64} {k : Nat} (h : ¬ L = c) : wIx L (c :: r) k = wIx L r (k + 1) := by
  rw [wIx, decide_eq_false h]
theorem wK_en : [11729831, 667614707, 55578630963, 865520435, 186489, 883071911, 54316697970, 9051310, 146804, 11672820, 220389, 11992485, 13523756, 10681714, 11443108, 3046, 2233, 3375, 10169325, 3058, 138148, 191476, 12721332, 149625, 43581340212, 667614702, 598932836, 9575595, 47877618984, 10640549, 803137906, 55440722935] = wT.map fun w => en64 w 0 := by decide +kernel
def oI (o : Option Nat) : Int32 := match o with
  | some k => nI k
  | none => -1
theorem wIx_k {l : List Int32} (hl : ∀ x, x ∈ l → isLet x) (nl : l.length ≤ 7) : ∀ (ws : List (List Int32)) (k : Nat), (∀ w, w ∈ ws → w.length ≤ 6 ∧ ∀ x, x ∈ w → isLet x) → wIx (en64 l 0) (ws.map fun w => en64 w 0) k = oI (kW l ws k)
  | [], _, _ => rfl
  | w :: r, k, hw => by
    have h1 := hw w List.mem_cons_self
    rw [List.map_cons]
    by_cases e : l = w
    · rw [wIx_y (by rw [e]), kW, decide_eq_true e]
      rfl
    · rw [wIx_n (fun z => e (en_inj hl h1.2 nl (by omega) z)), kW, decide_eq_false e]
      exact wIx_k hl nl r (k + 1) (fun v hv => hw v (List.mem_cons_of_mem _ hv))
-- ===== tokens: sort (0 end, 1 word, 2 number, 3 sign, 4 none), what it is, its place, behind it =====
def sgL : List Int32 := [60, 62, 61, 35, 43, 45, 42, 47, 40, 41, 59]
def lexC (B : Nat → Int32) (T i : Nat) : TK := match Nat.ble T i with
  | true => (0, 0, T, T)
  | false => match bLt (B i) with
    | true => (match kW (lts B T i) wT 0 with
      | some k => (1, k, i, ru bLt B T i)
      | none => (4, 0, i, ru bLt B T i))
    | false => match bDg (B i) with
      | true => (2, nuS B T i 0, i, ru bDg B T i)
      | false => match (decide (B i = 60) || decide (B i = 62)) && (Nat.blt (i + 1) T && decide (B (i + 1) = 61)) with
        | true => (3, (match decide (B i = 60) with
          | true => 300
          | false => 301), i, i + 2)
        | false => match sgL.contains (B i) with
          | true => (3, (B i).toNatClampNeg, i, i + 1)
          | false => (4, 0, i, i + 1)
def lexS (B : Nat → Int32) (T i : Nat) : TK := lexC B T (ru bBl B T i)
/-- where the reading stands ahead of token j -/
def pos (B : Nat → Int32) (T : Nat) : Nat → Nat
  | 0 => 0
  | j + 1 => (lexS B T (pos B T j)).2.2.2
def tkS (B : Nat → Int32) (T j : Nat) : TK := lexS B T (pos B T j)
theorem lexC_b {B : Nat → Int32} {T i : Nat} (hi : i ≤ T) : i ≤ (lexC B T i).2.2.2 ∧ (lexC B T i).2.2.2 ≤ T ∧ ((lexC B T i).1 ≠ 0 → i + 1 ≤ (lexC B T i).2.2.2) ∧ (lexC B T i).1 ≤ 4 ∧ (lexC B T i).2.2.1 ≤ T ∧ ((lexC B T i).1 = 1 → (lexC B T i).2.1 < 32) ∧ ((lexC B T i).1 = 2 → (lexC B T i).2.1 ≤ 10000) := by
  unfold lexC
  cases h0 : Nat.ble T i with
  | true =>
    have := Nat.le_of_ble_eq_true h0
    dsimp only
    refine ⟨by omega, by omega, fun z => absurd rfl z, by omega, by omega, fun z => by omega, fun z => by omega⟩
  | false =>
    have hlt : i < T := by
      rcases Nat.lt_or_ge i T with z | z
      · exact z
      · rw [Nat.ble_eq.mpr z] at h0
        cases h0
    dsimp only
    cases h1 : bLt (B i) with
    | true =>
      have a := ru_gt hlt h1
      have b := ru_le (f := bLt) (B := B) hi
      dsimp only
      cases h2 : kW (lts B T i) wT 0 with
      | some k =>
        have := kW_lt h2
        dsimp only
        refine ⟨by omega, b, fun _ => a, by omega, by omega, fun _ => this, fun z => by omega⟩
      | none =>
        dsimp only
        refine ⟨by omega, b, fun _ => a, by omega, by omega, fun z => by omega, fun z => by omega⟩
    | false =>
      dsimp only
      cases h2 : bDg (B i) with
      | true =>
        have a := ru_gt hlt h2
        have b := ru_le (f := bDg) (B := B) hi
        have c : nuS B T i 0 ≤ 10000 := nuN_le B _ _ _ (by omega)
        dsimp only
        refine ⟨by omega, b, fun _ => a, by omega, by omega, fun z => by omega, fun _ => c⟩
      | false =>
        dsimp only
        cases h3 : (decide (B i = 60) || decide (B i = 62)) && (Nat.blt (i + 1) T && decide (B (i + 1) = 61)) with
        | true =>
          rw [Bool.and_eq_true, Bool.and_eq_true] at h3
          have y : i + 1 < T := Nat.blt_eq.mp h3.2.1
          dsimp only
          refine ⟨by omega, by omega, fun _ => by omega, by omega, by omega, fun z => by omega, fun z => by omega⟩
        | false =>
          dsimp only
          cases h4 : sgL.contains (B i) with
          | true =>
            dsimp only
            refine ⟨by omega, by omega, fun _ => by omega, by omega, by omega, fun z => by omega, fun z => by omega⟩
          | false =>
            dsimp only
            refine ⟨by omega, by omega, fun _ => by omega, by omega, by omega, fun z => by omega, fun z => by omega⟩
theorem lexS_b {B : Nat → Int32} {T i : Nat} (hi : i ≤ T) : i ≤ (lexS B T i).2.2.2 ∧ (lexS B T i).2.2.2 ≤ T ∧ ((lexS B T i).1 ≠ 0 → i + 1 ≤ (lexS B T i).2.2.2) ∧ (lexS B T i).1 ≤ 4 ∧ (lexS B T i).2.2.1 ≤ T ∧ ((lexS B T i).1 = 1 → (lexS B T i).2.1 < 32) ∧ ((lexS B T i).1 = 2 → (lexS B T i).2.1 ≤ 10000) := by
  have a := ru_ge (f := bBl) (B := B) hi
  have b := lexC_b (B := B) (ru_le (f := bBl) (B := B) hi)
  unfold lexS
  exact ⟨by omega, b.2.1, fun z => by have := b.2.2.1 z; omega, b.2.2.2⟩
theorem pos_le (B : Nat → Int32) (T : Nat) : ∀ j, pos B T j ≤ T
  | 0 => Nat.zero_le _
  | j + 1 => (lexS_b (pos_le B T j)).2.1
/-- no token so far is the end: so many signs stand ahead -/
theorem pos_ge (B : Nat → Int32) (T : Nat) : ∀ j, (∀ i, i < j → (tkS B T i).1 ≠ 0) → j ≤ pos B T j
  | 0, _ => Nat.zero_le _
  | j + 1, h => by
    have a := pos_ge B T j (fun i hi => h i (by omega))
    have b := (lexS_b (B := B) (pos_le B T j)).2.2.1 (h j (by omega))
    show j + 1 ≤ (lexS B T (pos B T j)).2.2.2
    omega
