-- ===== concrete runs of pure code, decided by the kernel =====
abbrev XQ : Type := List (Option Value) × List Value
def eI (X : XX) (i : Jvm.ClassFile.Instr) (lc : List (Option Value)) (st : List Value) : Option XQ := match i with
  | .iconst n => some (lc, .int (Int32.ofInt n) :: st)
  | .bipush n => some (lc, .int (Int8.ofInt n).toInt32 :: st)
  | .sipush n => some (lc, .int (Int16.ofInt n).toInt32 :: st)
  | .lconst n => some (lc, .long (Int64.ofNat (n : Nat)) :: st)
  | .ldc2_w idx => (match xlk X.2.2.2.2.1 idx with
    | some e => some (lc, .long e.1 :: st)
    | none => none)
  | .iload_n n => (match xn lc (n : Nat) with
    | some (some (.int x)) => some (lc, .int x :: st)
    | _ => none)
  | .iload n => (match xn lc n with
    | some (some (.int x)) => some (lc, .int x :: st)
    | _ => none)
  | .lload_n n => (match xn lc (n : Nat) with
    | some (some (.long x)) => some (lc, .long x :: st)
    | _ => none)
  | .lload n => (match xn lc n with
    | some (some (.long x)) => some (lc, .long x :: st)
    | _ => none)
  | .istore_n n => (match st, xn lc (n : Nat) with
    | .int x :: r, some _ => some (sL lc (n : Nat) (.int x), r)
    | _, _ => none)
  | .istore n => (match st, xn lc n with
    | .int x :: r, some _ => some (sL lc n (.int x), r)
    | _, _ => none)
  | .lstore_n n => (match st, xn lc ((n : Nat) + 1) with
    | .long x :: r, some _ => some (sL lc (n : Nat) (.long x), r)
    | _, _ => none)
  | .lstore n => (match st, xn lc (n + 1) with
    | .long x :: r, some _ => some (sL lc n (.long x), r)
    | _, _ => none)
  | .iinc j n => (match xn lc j with
    | some (some (.int x)) => some (sL lc j (.int (x + Int32.ofInt n)), st)
    | _ => none)
  | .iadd => (match st with
    | .int y :: .int x :: r => some (lc, .int (x + y) :: r)
    | _ => none)
  | .isub => (match st with
    | .int y :: .int x :: r => some (lc, .int (x - y) :: r)
    | _ => none)
  | .imul => (match st with
    | .int y :: .int x :: r => some (lc, .int (x * y) :: r)
    | _ => none)
  | .idiv => (match st with
    | .int y :: .int x :: r => if y = 0 then none else some (lc, .int (x / y) :: r)
    | _ => none)
  | .irem => (match st with
    | .int y :: .int x :: r => if y = 0 then none else some (lc, .int (x - x / y * y) :: r)
    | _ => none)
  | .ladd => (match st with
    | .long y :: .long x :: r => some (lc, .long (x + y) :: r)
    | _ => none)
  | .lmul => (match st with
    | .long y :: .long x :: r => some (lc, .long (x * y) :: r)
    | _ => none)
  | .ldiv => (match st with
    | .long y :: .long x :: r => if y = 0 then none else some (lc, .long (x / y) :: r)
    | _ => none)
  | .lrem => (match st with
    | .long y :: .long x :: r => if y = 0 then none else some (lc, .long (x - x / y * y) :: r)
    | _ => none)
  | .lcmp => (match st with
    | .long y :: .long x :: r => some (lc, .int (lg_cmp x y) :: r)
    | _ => none)
  | .i2l => (match st with
    | .int x :: r => some (lc, .long x.toInt64 :: r)
    | _ => none)
  | .l2i => (match st with
    | .long x :: r => some (lc, .int x.toInt32 :: r)
    | _ => none)
  | _ => none
theorem eI_ok {X : XX} {ini al : Bool} {n0 mc ms : Nat} {sc : XS} {i : Jvm.ClassFile.Instr} {lc : List (Option Value)} {st : List Value} {q : XQ} {sh : List XO} {I : XI} {J : XJ} {a b : Nat} {k : XP} (h : eI X i lc st = some q) (hk : k q.1 q.2 sh I J a b) : xs X ini al n0 mc ms sc i lc st sh I J a b k := by
  cases i <;> simp only [eI] at h <;> first
    | (cases h; exact hk)
    | (split at h <;> first
      | (cases h; rename_i e1; simp only [xs, xso, xli, xll, xii, xl2, xi1, xl1, xin, e1]; exact hk)
      | (cases h; rename_i e1 e2; simp only [xs, xso, xli, xll, xii, xl2, xi1, xl1, xin, e1, e2]; exact hk)
      | (cases h; exact hk)
      | (split at h <;> first
        | (cases h; done)
        | (cases h; rename_i e1; exact And.intro e1 hk))
      | (cases h))
    | (cases h)
