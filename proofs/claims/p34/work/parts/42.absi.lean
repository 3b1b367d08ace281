section
-- ===== one straight instruction =====
def aNum (S : AS) (T : List AV) (w : Option ((Nat × Int) ⊕ (Int × Int))) : Option AS := match w with
  | some (.inl q) => some (aPu S T (.inl q))
  | some (.inr r) => some (aFr S T r)
  | none => none
def aLdI (S : AS) (n : Nat) : Option AS := match xn S.2.1 n with
  | some (.inl q) => some (aPu S S.2.2.1 (.inl q))
  | _ => none
def aLdL (S : AS) (n : Nat) : Option AS := match xn S.2.1 n with
  | some (.inr (.inr 1)) => some (aPu S S.2.2.1 (.inr (.inr 1)))
  | some (.inr (.inr 3)) => some (aPu S S.2.2.1 (.inr (.inr 3)))
  | _ => none
def aLdA (S : AS) (n : Nat) : Option AS := match xn S.2.1 n with
  | some (.inr (.inl ps)) => some (aPu S S.2.2.1 (.inr (.inl ps)))
  | _ => none
def aSto (S : AS) (T : List AV) (i j : Nat) (a : AV) : Option AS := match lgP S.2.1 i, xn S.2.1 j with
  | false, some _ => some (S.1, aSL S.2.1 i a, T, S.2.2.2)
  | _, _ => none
def aStI (S : AS) (i : Nat) : Option AS := match S.2.2.1 with
  | .inl q :: T => aSto S T i i (.inl q)
  | _ => none
def aStL (S : AS) (i : Nat) : Option AS := match S.2.2.1 with
  | .inr (.inr 1) :: T => aSto S T i (i + 1) (.inr (.inr 1))
  | .inr (.inr 3) :: T => aSto S T i (i + 1) (.inr (.inr 3))
  | _ => none
def aStA (S : AS) (i : Nat) : Option AS := match S.2.2.1 with
  | .inr (.inl ps) :: T => aSto S T i i (.inr (.inl ps))
  | _ => none
def aSetN (S : AS) (j : Nat) (w : Option ((Nat × Int) ⊕ (Int × Int))) : Option AS := match w with
  | some (.inl q) => aSto S S.2.2.1 j j (.inl q)
  | some (.inr r) => aSto (S.1 ++ [r], S.2) S.2.2.1 j j (.inl (S.1.length, 0))
  | none => none
def a2 (S : AS) (f : Nat × Int → Nat × Int → List AV → Option AS) : Option AS := match S.2.2.1 with
  | .inl r :: .inl q :: T => f q r T
  | _ => none
def a1 (S : AS) (f : Nat × Int → List AV → Option AS) : Option AS := match S.2.2.1 with
  | .inl q :: T => f q T
  | _ => none
def lgT (a : AV) : Bool := lgA (some a)
def l2 (S : AS) (f : AV → List AV → Option AS) : Option AS := match S.2.2.1 with
  | b :: a :: T => (match lgT b && lgT a with
    | true => f b T
    | false => none)
  | _ => none
def l1 (S : AS) (f : List AV → Option AS) : Option AS := match S.2.2.1 with
  | b :: T => (match lgT b with
    | true => f T
    | false => none)
  | _ => none
def aMul (E : AE) (q r : Nat × Int) : Option ((Nat × Int) ⊕ (Int × Int)) := match iv E q, iv E r with
  | some a, some b => some (.inr (rgn (rMul a b)))
  | _, _ => none
/-- and with a number that isn't below 0 -/
def aAnd (E : AE) (q r : Nat × Int) : Option ((Nat × Int) ⊕ (Int × Int)) := match iv E q, iv E r with
  | some a, some b => (match ile 0 b.1 with
    | true => some (.inr (0, b.2))
    | false => (match ile 0 a.1 with
      | true => some (.inr (0, a.2))
      | false => some (.inr fr)))
  | _, _ => none
def aDiv (E : AE) (q r : Nat × Int) : Option ((Nat × Int) ⊕ (Int × Int)) := match iv E q, iv E r with
  | some a, some b => (match ile 1 b.1 with
    | true => (match ile 0 a.1 with
      | true => some (.inr (0, a.2))
      | false => some (.inr fr))
    | false => none)
  | _, _ => none
def aRem (E : AE) (q r : Nat × Int) : Option ((Nat × Int) ⊕ (Int × Int)) := match iv E q, iv E r with
  | some a, some b => (match ile 1 b.1 with
    | true => (match ile 0 a.1 with
      | true => some (.inr (0, imin a.2 (b.2 - 1)))
      | false => some (.inr (1 - b.2, b.2 - 1)))
    | false => none)
  | _, _ => none
def aShr (E : AE) (q r : Nat × Int) : Option ((Nat × Int) ⊕ (Int × Int)) := match iv E q, iv E r with
  | some a, some _ => (match ile 0 a.1 with
    | true => some (.inr (0, a.2))
    | false => some (.inr fr))
  | _, _ => none
/-- shapes of all the places that a reference may be -/
def allO (C : AC) (ps : List Nat) (f : AO → Bool) : Bool := match ps with
  | [] => false
  | _ => ps.all fun p => match xlk C.1 p with
    | some o => f o
    | none => false
def isO (ci k : Nat) (o : AO) : Bool := match o with
  | .inl q => Nat.beq q.1 ci && Nat.blt k q.2.length
  | _ => false
def isA (kd : Nat) (o : AO) : Bool := match o with
  | .inr q => Nat.beq q.1 kd
  | _ => false
def lenA (C : AC) : List Nat → Option Nat
  | [] => none
  | p :: _ => match xlk C.1 p with
    | some (.inr q) => some q.2.1
    | _ => none
def isL (kd n : Nat) (o : AO) : Bool := match o with
  | .inr q => Nat.beq q.1 kd && Nat.beq q.2.1 n
  | _ => false
def isN (n : Nat) (o : AO) : Bool := match o with
  | .inr q => Nat.blt q.1 4 && Nat.beq q.2.1 n
  | _ => false
def refA (k : Nat) (o : AO) : List Nat := match o with
  | .inl q => (match xn q.2 k with
    | some (some ps) => ps
    | _ => [])
  | .inr q => (match xn q.2.2 k with
    | some (some ps) => ps
    | _ => [])
def hasR (k : Nat) (o : AO) : Bool := match o with
  | .inl q => (match xn q.2 k with
    | some (some _) => true
    | _ => false)
  | .inr q => (match xn q.2.2 k with
    | some (some _) => true
    | _ => false)
def uni : List Nat → List Nat → List Nat
  | [], l => l
  | p :: ps, l => match nmem p l with
    | true => uni ps l
    | false => uni ps (p :: l)
def refU (C : AC) : List Nat → Nat → List Nat
  | [], _ => []
  | p :: ps, k => match xlk C.1 p with
    | some o => uni (refA k o) (refU C ps k)
    | none => refU C ps k
/-- refs of a Text row, at any place -/
def refW (C : AC) (p n : Nat) : Nat → List Nat
  | 0 => []
  | k + 1 => uni (refU C [p] k) (refW C p n k)
def hull (C : AC) (k : Nat) : List Nat → Option (Int × Int)
  | [] => none
  | [p] => some (cellI C p k)
  | p :: ps => match hull C k ps with
    | some r => some (imin (cellI C p k).1 r.1, imax (cellI C p k).2 r.2)
    | none => none
def trk (T : AT) (ps : List Nat) : Bool := T.any fun e => nmem e.1 ps
/-- a number out of a cell -/
def aCell (C : AC) (S : AS) (T : List AV) (ps : List Nat) (k : Nat) : Option AS := match ps with
  | [p] => (match tF S.2.2.2 p k with
    | some q => some (aPu S T (.inl q))
    | none => some (S.1 ++ [cellI C p k], S.2.1, .inl (S.1.length, 0) :: T, (p, k, S.1.length, 0) :: S.2.2.2))
  | _ => (match trk S.2.2.2 ps, hull C k ps with
    | false, some r => some (aFr S T r)
    | _, _ => none)
/-- rows of whose cells none is told alone between two numbers -/
def rowI (C : AC) (p : Nat) : Int × Int := match xlk C.2.2 p with
  | some r => r
  | none => fr
def cellsIn (C : AC) (p : Nat) : Bool := C.2.1.all fun q => !(Nat.beq q.1 p) || rsub q.2.2 (rowI C p)
def hullR (C : AC) : List Nat → Option (Int × Int)
  | [] => none
  | [p] => (match cellsIn C p with
    | true => some (rowI C p)
    | false => none)
  | p :: ps => match hullR C ps, cellsIn C p with
    | some r, true => some (imin (rowI C p).1 r.1, imax (rowI C p).2 r.2)
    | _, _ => none
def inL (r : Int × Int) (n : Nat) : Bool := ile 0 r.1 && ile (r.2 + 1) (n : Nat)
def aLoad (C : AC) (S : AS) (kd : Nat) : Option AS := match S.2.2.1 with
  | .inl q :: .inr (.inl ps) :: T => (match iv S.1 q, lenA C ps with
    | some r, some n => (match inL r n && allO C ps (isL kd n), decide (r.1 = r.2) with
      | true, true => aCell C S T ps r.1.toNat
      | true, false => (match trk S.2.2.2 ps, hullR C ps with
        | false, some w => some (aFr S T w)
        | _, _ => some (aFr S T fr))
      | _, _ => none)
    | _, _ => none)
  | _ => none
def aIdx (C : AC) (S : AS) (kd : Nat) (f : List AV → Option AS) : Option AS := match S.2.2.1 with
  | .inl q :: .inr (.inl ps) :: T => (match iv S.1 q, lenA C ps with
    | some r, some n => (match inL r n && allO C ps (isL kd n) with
      | true => f T
      | false => none)
    | _, _ => none)
  | _ => none
/-- a write into a row at a place between two numbers -/
def cellsOk (C : AC) (p : Nat) (r w : Int × Int) : Bool := rsub w (rowI C p) && C.2.1.all fun q => !(Nat.beq q.1 p && ((ile r.1 (q.2.1 : Nat) && ile (q.2.1 : Nat) r.2) || (wid p && ile 130 r.2 && Nat.ble 60 q.2.1))) || rsub w q.2.2
def aStore (C : AC) (Wm : List Nat) (S : AS) (kd : Nat) (q : Nat × Int) (v : (Nat × Int) ⊕ (Int × Int)) (ps : List Nat) (T : List AV) : Option AS := match ps, iv S.1 q with
  | [p], some r => (match lenA C ps with
    | some n => (match inL r n && allO C ps (isL kd n) && nmem p Wm, decide (r.1 = r.2), v with
      | true, true, .inl u => some (S.1, S.2.1, T, (p, r.1.toNat, u.1, u.2) :: tD S.2.2.2 p r.1.toNat)
      | true, true, .inr w => some (S.1 ++ [w], S.2.1, T, (p, r.1.toNat, S.1.length, 0) :: tD S.2.2.2 p r.1.toNat)
      | true, false, .inl u => (match iv S.1 u with
        | some w => (match cellsOk C p r w && !(tR S.2.2.2 p r) with
          | true => some (aSt S T)
          | false => none)
        | none => none)
      | true, false, .inr w => (match cellsOk C p r w && !(tR S.2.2.2 p r) with
        | true => some (aSt S T)
        | false => none)
      | _, _, _ => none)
    | none => none)
  | _, _ => none
def tyB (t : FieldType) : Bool := match t with
  | .boolean => true
  | _ => false
def tyI (t : FieldType) : Bool := match t with
  | .int => true
  | _ => false
/-- one array that nobody writes -/
def cstA (ps : List Nat) : Option (Nat × Nat × List Int32) := match ps with
  | [p] => (match Nat.ble 900001 p with
    | true => xlk xkA p
    | false => none)
  | _ => none
theorem cstA_el {ps : List Nat} {e : Nat × Nat × List Int32} (h : cstA ps = some e) : ∃ p, ps = [p] ∧ Nat.ble 900001 p = true ∧ Nat.beq p 900000 = false ∧ xlk xkA p = some e := by
  unfold cstA at h
  split at h
  · rename_i p
    split at h
    · rename_i hb
      refine ⟨p, rfl, hb, ?_, h⟩
      have z := Nat.le_of_ble_eq_true hb
      cases y : Nat.beq p 900000 with
      | true =>
        have := Nat.eq_of_beq_eq_true y
        omega
      | false => rfl
    · cases h
  · cases h
/-- no place of those -/
def cstN (ps : List Nat) : Bool := ps.all fun p => Nat.blt p 900000
theorem cstN_el {ps : List Nat} (h : cstN ps = true) {p : Nat} (hp : p ∈ ps) : Nat.beq p 900000 = false ∧ Nat.ble 900001 p = false := by
  have y := List.all_eq_true.mp h p hp
  simp only [Nat.blt_eq] at y
  constructor
  · cases z : Nat.beq p 900000 with
    | true =>
      have := Nat.eq_of_beq_eq_true z
      omega
    | false => rfl
  · cases z : Nat.ble 900001 p with
    | true =>
      have := Nat.le_of_ble_eq_true z
      omega
    | false => rfl
def cstS (ps : List Nat) (kd : Nat) : Bool := match ps with
  | [p] => Nat.ble 900001 p && (xlk xkS p).isSome && Nat.beq kd 113
  | _ => false
theorem cstS_el {ps : List Nat} {kd : Nat} (h : cstS ps kd = true) {p : Nat} (hp : p ∈ ps) : Nat.ble 900001 p = true ∧ (∃ e, xlk xkS p = some e) ∧ kd = 113 := by
  unfold cstS at h
  split at h
  · rename_i p'
    simp only [Bool.and_eq_true] at h
    rw [List.mem_singleton.mp hp]
    exact ⟨h.1.1, Option.isSome_iff_exists.mp h.1.2, Nat.eq_of_beq_eq_true h.2⟩
  · cases h
def aI (C : AC) (Wm : List Nat) (Wf : Bool) (X : XX) (i : Jvm.ClassFile.Instr) (S : AS) : Option AS := match i with
  | .iconst n => some (aPu S S.2.2.1 (.inl (0, (Int32.ofInt n).toInt)))
  | .bipush n => some (aPu S S.2.2.1 (.inl (0, (Int8.ofInt n).toInt32.toInt)))
  | .sipush n => some (aPu S S.2.2.1 (.inl (0, (Int16.ofInt n).toInt32.toInt)))
  | .lconst n => some (aPu S S.2.2.1 (.inr (.inr (match decide (Int64.ofNat (n : Nat) = 0) with
    | true => 1
    | false => 3))))
  | .aconst_null => some (aPu S S.2.2.1 (.inr (.inr 2)))
  | .iload_n n => aLdI S (n : Nat)
  | .iload n => aLdI S n
  | .lload_n n => aLdL S (n : Nat)
  | .lload n => aLdL S n
  | .aload_n n => aLdA S (n : Nat)
  | .aload n => aLdA S n
  | .istore_n n => aStI S (n : Nat)
  | .istore n => aStI S n
  | .lstore_n n => aStL S (n : Nat)
  | .lstore n => aStL S n
  | .astore_n n => aStA S (n : Nat)
  | .astore n => aStA S n
  | .iinc j n => (match xn S.2.1 j with
    | some (.inl q) => aSetN S j (aAdd S.1 q (0, (Int32.ofInt n).toInt))
    | _ => none)
  | .iadd => a2 S fun q r T => aNum S T (aAdd S.1 q r)
  | .isub => a2 S fun q r T => aNum S T (aSub S.1 q r)
  | .imul => a2 S fun q r T => aNum S T (aMul S.1 q r)
  | .iand => a2 S fun q r T => aNum S T (aAnd S.1 q r)
  | .ior => a2 S fun _ _ T => some (aFr S T fr)
  | .ixor => a2 S fun _ _ T => some (aFr S T fr)
  | .idiv => a2 S fun q r T => aNum S T (aDiv S.1 q r)
  | .irem => a2 S fun q r T => aNum S T (aRem S.1 q r)
  | .ineg => a1 S fun _ T => some (aFr S T fr)
  | .ishl => a2 S fun _ _ T => some (aFr S T fr)
  | .ishr => a2 S fun q r T => aNum S T (aShr S.1 q r)
  | .iushr => a2 S fun _ _ T => some (aFr S T fr)
  | .ladd => l2 S fun _ T => some (aPu S T (.inr (.inr 1)))
  | .lsub => l2 S fun _ T => some (aPu S T (.inr (.inr 1)))
  | .lmul => l2 S fun _ T => some (aPu S T (.inr (.inr 1)))
  | .land => l2 S fun _ T => some (aPu S T (.inr (.inr 1)))
  | .lor => l2 S fun _ T => some (aPu S T (.inr (.inr 1)))
  | .ldiv => l2 S fun b T => (match b with
    | .inr (.inr 3) => some (aPu S T (.inr (.inr 1)))
    | _ => none)
  | .lneg => l1 S fun T => some (aPu S T (.inr (.inr 1)))
  | .lcmp => l2 S fun _ T => some (aFr S T (-1, 1))
  | .i2l => a1 S fun _ T => some (aPu S T (.inr (.inr 1)))
  | .l2i => l1 S fun T => some (aFr S T fr)
  | .i2b => a1 S fun _ T => some (aFr S T (-128, 127))
  | .i2c => a1 S fun _ T => some (aFr S T fr)
  | .dup => (match S.2.2.1 with
    | .inl q :: T => some (aPu S (.inl q :: T) (.inl q))
    | .inr (.inl ps) :: T => some (aPu S (.inr (.inl ps) :: T) (.inr (.inl ps)))
    | _ => none)
  | .pop => (match S.2.2.1 with
    | .inl _ :: T => some (aSt S T)
    | .inr (.inl _) :: T => some (aSt S T)
    | _ => none)
  | .dup2 => (match S.2.2.1 with
    | .inl q :: .inr (.inl ps) :: T => some (aSt S (.inl q :: .inr (.inl ps) :: .inl q :: .inr (.inl ps) :: T))
    | _ => none)
  | .getstatic idx => (match xk2 xkZ X.2.1 idx with
    | some w => (match Nat.ble 2 w with
      | true => some (aPu S S.2.2.1 (.inr (.inl [w])))
      | false => none)
    | none => none)
  | .getfield idx => (match xk2 xkO X.2.1 idx with
    | some _ => none
    | none => (match S.2.2.1, xlk X.2.2.1 idx with
    | .inr (.inl ps) :: T, some e => (match allO C ps (isO e.1 e.2.1), isRefT (xty e.1 e.2.1) with
      | true, true => (match allO C ps (hasR e.2.1) with
        | true => some (aPu S T (.inr (.inl (refU C ps e.2.1))))
        | false => none)
      | true, false => aCell C S T ps e.2.1
      | _, _ => none)
    | _, _ => none))
  | .putfield idx => (match S.2.2.1, xlk X.2.2.1 idx with
    | .inl u :: .inr (.inl [p]) :: T, some e => (match allO C [p] (isO e.1 e.2.1) && nmem p Wm && !(xfin e.1 e.2.1), iv S.1 u with
      | true, some w => (match tyI (xty e.1 e.2.1) || (tyB (xty e.1 e.2.1) && rsub w (0, 1)) with
        | true => some (S.1, S.2.1, T, (p, e.2.1, u.1, u.2) :: tD S.2.2.2 p e.2.1)
        | false => none)
      | _, _ => none)
    | .inr (.inl vs) :: .inr (.inl [p]) :: T, some e => (match allO C [p] (isO e.1 e.2.1) && Wf && !(xfin e.1 e.2.1) && isRefT (xty e.1 e.2.1), xlk C.1 p with
      | true, some (.inl q) => (match xn q.2 e.2.1 with
        | some (some ps) => (match nsub vs ps with
          | true => some (aSt S T)
          | false => none)
        | _ => none)
      | _, _ => none)
    | _, _ => none)
  | .arraylength => (match S.2.2.1 with
    | .inr (.inl ps) :: T => (match cstA ps with
      | some e => some (aPu S T (.inl (0, (Int32.ofNat e.2.1).toInt)))
      | none => (match lenA C ps with
        | some n => (match allO C ps (isN n) && cstN ps with
          | true => some (aPu S T (.inl (0, (Int32.ofNat n).toInt)))
          | false => none)
        | none => none))
    | _ => none)
  | .iaload => (match S.2.2.1 with
    | .inl q :: .inr (.inl ps) :: T => (match cstA ps with
      | some e => (match iv S.1 q with
        | some r => (match Nat.beq e.1 0 && inL r e.2.1 with
          | true => some (aFr S T fr)
          | false => none)
        | none => none)
      | none => (match cstN ps with
        | true => aLoad C S 0
        | false => none))
    | _ => none)
  | .baload => (match Nat.beq X.2.1 96 with
    | true => none
    | false => aLoad C S 1)
  | .laload => aIdx C S 2 fun T => some (aPu S T (.inr (.inr 1)))
  | .aaload => (match S.2.2.1 with
    | .inl q :: .inr (.inl [p]) :: T => (match iv S.1 q, lenA C [p] with
      | some r, some n => (match inL r n && allO C [p] (isL 3 n) && (List.range n).all fun k => allO C [p] (hasR k) with
        | true => some (aPu S T (.inr (.inl (refW C p n n))))
        | false => none)
      | _, _ => none)
    | _ => none)
  | .iastore => (match S.2.2.1 with
    | .inl u :: .inl q :: .inr (.inl ps) :: T => aStore C Wm S 0 q (.inl u) ps T
    | _ => none)
  | .bastore => (match S.2.2.1 with
    | .inl _ :: .inl q :: .inr (.inl ps) :: T => aStore C Wm S 1 q (.inr (-128, 127)) ps T
    | _ => none)
  | .lastore => (match S.2.2.1 with
    | b :: .inl q :: .inr (.inl [p]) :: T => (match iv S.1 q, lenA C [p] with
      | some r, some n => (match lgT b && inL r n && allO C [p] (isL 2 n) with
        | true => some (aSt S T)
        | false => none)
      | _, _ => none)
    | _ => none)
  | .ldc2_w idx => (match xlk X.2.2.2.2.1 idx with
    | some e => some (aPu S S.2.2.1 (.inr (.inr (match decide (e.1 = 0) with
      | true => 1
      | false => 3))))
    | none => none)
  | .ldc idx => (match xk2 xkD X.2.1 idx with
    | some w => some (aPu S S.2.2.1 (.inr (.inl [w])))
    | none => (match xlk X.2.2.2.2.2.1 idx with
      | some e => some (aPu S S.2.2.1 (.inl (0, e.1.toInt)))
      | none => none))
  | .ldc_w idx => (match xlk X.2.2.2.2.2.1 idx with
    | some e => some (aPu S S.2.2.1 (.inl (0, e.1.toInt)))
    | none => none)
  | _ => none
end
section
-- ===== the straight instructions are right =====
section ABSI
variable {C : AC} {Wm : List Nat} {Wf : Bool} {sh0 : List XO} {I0 : XI} {R0 R : List Int} {S S' : AS} {lc : List (Option Value)} {st : List Value} {sh : List XO} {I : XI} {J : XJ} {k : XP} {X : XX} {al : Bool} {n0 mc ms : Nat}
/-- what goes on from every state that the abstract one stands for -/
def gk (C : AC) (Wm : List Nat) (Wf : Bool) (sh0 : List XO) (I0 : XI) (R0 : List Int) (S' : AS) (k : XP) : Prop := ∀ (R : List Int) (lc : List (Option Value)) (st : List Value) (sh : List XO) (I : XI) (J : XJ), ga C Wm Wf sh0 I0 R0 R S' lc st sh I → k lc st sh I J 0 0
theorem stO_int {q : Nat × Int} {T : List AV} (h : stO R (.inl q :: T) st) : ∃ x r, st = .int x :: r ∧ numO R q x ∧ stO R T r := by
  cases st with
  | nil => exact h.elim
  | cons v r =>
    obtain ⟨⟨x, e, hx⟩, h2⟩ := h
    cases e
    exact ⟨x, r, rfl, hx, h2⟩
theorem stO_ref {ps : List Nat} {T : List AV} (h : stO R (.inr (.inl ps) :: T) st) : ∃ p r, st = .ref p :: r ∧ p ∈ ps ∧ stO R T r := by
  cases st with
  | nil => exact h.elim
  | cons v r =>
    obtain ⟨⟨x, hx, e⟩, h2⟩ := h
    cases e
    exact ⟨x, r, rfl, hx, h2⟩
theorem avO_lg {a : AV} {v : Value} (h : avO R a (some v)) (hl : lgT a = true) : ∃ x, v = .long x := by
  unfold lgT lgA at hl
  split at hl
  · rename_i n e
    cases e
    simp only [Bool.or_eq_true] at hl
    rcases hl with z | z <;> have z := Nat.eq_of_beq_eq_true z <;> subst z
    · obtain ⟨x, e⟩ := h
      cases e
      exact ⟨x, rfl⟩
    · obtain ⟨x, e, _⟩ := h
      cases e
      exact ⟨x, rfl⟩
  · cases hl
theorem stO_cons {a : AV} {T : List AV} (h : stO R (a :: T) st) : ∃ v r, st = v :: r ∧ avO R a (some v) ∧ stO R T r := by
  cases st with
  | nil => exact h.elim
  | cons v r => exact ⟨v, r, rfl, h.1, h.2⟩
theorem aNum_ok {T : List AV} {w : Option ((Nat × Int) ⊕ (Int × Int))} {x : Int32} {r : List Value} (h : aNum S T w = some S') (hg : ga C Wm Wf sh0 I0 R0 R S lc st sh I) (hT : stO R T r) (hk : gk C Wm Wf sh0 I0 R0 S' k) (hw : ∀ w', w = some w' → numP R w' x) : k lc (.int x :: r) sh I J 0 0 := by
  unfold aNum at h
  split at h
  · cases h
    exact hk _ _ _ _ _ _ (ga_pu hg hT ⟨x, rfl, hw _ rfl⟩)
  · cases h
    exact hk _ _ _ _ _ _ (ga_fr hg hT (hw _ rfl))
  · cases h
theorem ldI_ok {n : Nat} (h : aLdI S n = some S') (hg : ga C Wm Wf sh0 I0 R0 R S lc st sh I) (hk : gk C Wm Wf sh0 I0 R0 S' k) : xli (xn lc n) fun x => k lc (.int x :: st) sh I J 0 0 := by
  unfold aLdI at h
  split at h
  · rename_i q e
    cases h
    obtain ⟨o, h1, x, h2, h3⟩ := hg.2.1.1 n _ e
    rw [h1, h2]
    exact hk _ _ _ _ _ _ (ga_pu hg hg.2.1.2 ⟨x, rfl, h3⟩)
  · cases h
theorem ldA_ok {n : Nat} (h : aLdA S n = some S') (hg : ga C Wm Wf sh0 I0 R0 R S lc st sh I) (hk : gk C Wm Wf sh0 I0 R0 S' k) : xla (xn lc n) fun x => k lc (.ref x :: st) sh I J 0 0 := by
  unfold aLdA at h
  split at h
  · rename_i q e
    cases h
    obtain ⟨o, h1, x, h2, h3⟩ := hg.2.1.1 n _ e
    rw [h1, h3]
    exact hk _ _ _ _ _ _ (ga_pu hg hg.2.1.2 ⟨x, h2, rfl⟩)
  · cases h
theorem ldL_ok {n : Nat} (h : aLdL S n = some S') (hg : ga C Wm Wf sh0 I0 R0 R S lc st sh I) (hk : gk C Wm Wf sh0 I0 R0 S' k) : xll (xn lc n) fun x => k lc (.long x :: st) sh I J 0 0 := by
  unfold aLdL at h
  split at h
  · rename_i e
    cases h
    obtain ⟨o, h1, x, h3⟩ := hg.2.1.1 n _ e
    rw [h1, h3]
    exact hk _ _ _ _ _ _ (ga_pu hg hg.2.1.2 ⟨x, rfl⟩)
  · rename_i e
    cases h
    obtain ⟨o, h1, x, h3, h4⟩ := hg.2.1.1 n _ e
    rw [h1, h3]
    exact hk _ _ _ _ _ _ (ga_pu hg hg.2.1.2 ⟨x, rfl, h4⟩)
  · cases h
theorem sto_ok {T : List AV} {i j : Nat} {a : AV} {v : Value} {r : List Value} (h : aSto S T i j a = some S') (hg : ga C Wm Wf sh0 I0 R0 R S lc st sh I) (hT : stO R T r) (hk : gk C Wm Wf sh0 I0 R0 S' k) (ha : avO R a (some v)) (hc : v.category = 2 ↔ lgA (some a) = true) : xin (xn lc j) (k (sL lc i v) r sh I J 0 0) := by
  unfold aSto at h
  split at h
  · rename_i b e1 e2
    cases h
    obtain ⟨o, h1, _⟩ := hg.2.1.1 j _ e2
    rw [h1]
    exact hk _ _ _ _ _ _ ⟨hg.1, ⟨loO_set hg.2.1.1 e1 ha hc, hT⟩, hg.2.2⟩
  · cases h
theorem stI_ok {n : Nat} (h : aStI S n = some S') (hg : ga C Wm Wf sh0 I0 R0 R S lc st sh I) (hk : gk C Wm Wf sh0 I0 R0 S' k) : xi1 st fun x r => xin (xn lc n) (k (sL lc n (.int x)) r sh I J 0 0) := by
  unfold aStI at h
  split at h
  · rename_i q T e
    have hs := hg.2.1.2
    rw [e] at hs
    obtain ⟨x, r, rfl, hx, hT⟩ := stO_int hs
    exact sto_ok h hg hT hk ⟨x, rfl, hx⟩ ⟨fun z => (by cases z), fun z => (by cases z)⟩
  · cases h
theorem stA_ok {n : Nat} (h : aStA S n = some S') (hg : ga C Wm Wf sh0 I0 R0 R S lc st sh I) (hk : gk C Wm Wf sh0 I0 R0 S' k) : xr1 st fun x r => xin (xn lc n) (k (sL lc n (.ref x)) r sh I J 0 0) := by
  unfold aStA at h
  split at h
  · rename_i ps T e
    have hs := hg.2.1.2
    rw [e] at hs
    obtain ⟨x, r, rfl, hx, hT⟩ := stO_ref hs
    exact sto_ok h hg hT hk ⟨x, hx, rfl⟩ ⟨fun z => (by cases z), fun z => (by cases z)⟩
  · cases h
theorem stL_ok {n : Nat} (h : aStL S n = some S') (hg : ga C Wm Wf sh0 I0 R0 R S lc st sh I) (hk : gk C Wm Wf sh0 I0 R0 S' k) : xl1 st fun x r => xin (xn lc (n + 1)) (k (sL lc n (.long x)) r sh I J 0 0) := by
  unfold aStL at h
  split at h
  · rename_i T e
    have hs := hg.2.1.2
    rw [e] at hs
    obtain ⟨v, r, rfl, ⟨x, ex⟩, hT⟩ := stO_cons hs
    cases ex
    exact sto_ok h hg hT hk ⟨x, rfl⟩ ⟨fun _ => rfl, fun _ => rfl⟩
  · rename_i T e
    have hs := hg.2.1.2
    rw [e] at hs
    obtain ⟨v, r, rfl, ⟨x, ex, hx⟩, hT⟩ := stO_cons hs
    cases ex
    exact sto_ok h hg hT hk ⟨x, rfl, hx⟩ ⟨fun _ => rfl, fun _ => rfl⟩
  · cases h
theorem setN_ok {j : Nat} {w : Option ((Nat × Int) ⊕ (Int × Int))} {x : Int32} (h : aSetN S j w = some S') (hg : ga C Wm Wf sh0 I0 R0 R S lc st sh I) (hk : gk C Wm Wf sh0 I0 R0 S' k) (hw : ∀ w', w = some w' → numP R w' x) : k (sL lc j (.int x)) st sh I J 0 0 := by
  unfold aSetN at h
  split at h
  · have y := sto_ok (J := J) (v := .int x) h hg hg.2.1.2 hk ⟨x, rfl, hw _ rfl⟩ ⟨fun z => (by cases z), fun z => (by cases z)⟩
    unfold xin at y
    split at y
    · exact y
    · exact y.elim
  · rename_i r
    have hx : inI r x.toInt := hw _ rfl
    have hg2 := ga_ext hg hx
    have e : S.1.length = R.length := hg.1.1.1.symm
    have y := sto_ok (J := J) (v := .int x) h hg2 hg2.2.1.2 hk ⟨x, rfl, x.toInt, by rw [e]; exact xn_app_len _ _, by simp⟩ ⟨fun z => (by cases z), fun z => (by cases z)⟩
    unfold xin at y
    split at y
    · exact y
    · exact y.elim
  · cases h
theorem a2_ok {f : Nat × Int → Nat × Int → List AV → Option AS} {g : Int32 → Int32 → List Value → Prop} (h : a2 S f = some S') (hg : ga C Wm Wf sh0 I0 R0 R S lc st sh I) (hf : ∀ q r T x y rest, f q r T = some S' → numO R q x → numO R r y → stO R T rest → g x y rest) : xii st g := by
  unfold a2 at h
  split at h
  · rename_i r q T e
    have hs := hg.2.1.2
    rw [e] at hs
    obtain ⟨y, r1, rfl, hy, hT1⟩ := stO_int hs
    obtain ⟨x, r2, rfl, hx, hT2⟩ := stO_int hT1
    exact hf _ _ _ _ _ _ h hx hy hT2
  · cases h
theorem a1_ok {f : Nat × Int → List AV → Option AS} {g : Int32 → List Value → Prop} (h : a1 S f = some S') (hg : ga C Wm Wf sh0 I0 R0 R S lc st sh I) (hf : ∀ q T x rest, f q T = some S' → numO R q x → stO R T rest → g x rest) : xi1 st g := by
  unfold a1 at h
  split at h
  · rename_i q T e
    have hs := hg.2.1.2
    rw [e] at hs
    obtain ⟨x, r2, rfl, hx, hT2⟩ := stO_int hs
    exact hf _ _ _ _ h hx hT2
  · cases h
theorem l2_ok {f : AV → List AV → Option AS} {g : Int64 → Int64 → List Value → Prop} (h : l2 S f = some S') (hg : ga C Wm Wf sh0 I0 R0 R S lc st sh I) (hf : ∀ b T x y rest, f b T = some S' → avO R b (some (.long y)) → stO R T rest → g x y rest) : xl2 st g := by
  unfold l2 at h
  split at h
  · rename_i b a T e
    have hs := hg.2.1.2
    rw [e] at hs
    split at h
    · rename_i hl
      simp only [Bool.and_eq_true] at hl
      obtain ⟨v, r1, rfl, hv, hT1⟩ := stO_cons hs
      obtain ⟨u, r2, rfl, hu, hT2⟩ := stO_cons hT1
      obtain ⟨y, rfl⟩ := avO_lg hv hl.1
      obtain ⟨x, rfl⟩ := avO_lg hu hl.2
      exact hf _ _ _ _ _ h hv hT2
    · cases h
  · cases h
theorem l1_ok {f : List AV → Option AS} {g : Int64 → List Value → Prop} (h : l1 S f = some S') (hg : ga C Wm Wf sh0 I0 R0 R S lc st sh I) (hf : ∀ T x rest, f T = some S' → stO R T rest → g x rest) : xl1 st g := by
  unfold l1 at h
  split at h
  · rename_i b T e
    have hs := hg.2.1.2
    rw [e] at hs
    split at h
    · rename_i hl
      obtain ⟨v, r1, rfl, hv, hT1⟩ := stO_cons hs
      obtain ⟨y, rfl⟩ := avO_lg hv hl
      exact hf _ _ _ h hT1
    · cases h
  · cases h
end ABSI
end
section
-- ===== cells of abstract states =====
theorem allO_el {C : AC} {ps : List Nat} {f : AO → Bool} (h : allO C ps f = true) {p : Nat} (hp : p ∈ ps) : ∃ o, xlk C.1 p = some o ∧ f o = true := by
  unfold allO at h
  split at h
  · cases h
  · have y := List.all_eq_true.mp h p hp
    split at y
    · rename_i o e
      exact ⟨o, e, y⟩
    · cases y
theorem isO_el {C : AC} {ps : List Nat} {ci kk : Nat} {sh : List XO} (hs : shO C sh) (h : allO C ps (isO ci kk) = true) {p : Nat} (hp : p ∈ ps) : ∃ cs rs, xlk C.1 p = some (.inl (ci, cs)) ∧ xn sh p = some (.inl (ci, rs)) ∧ refO cs rs ∧ kk < rs.length := by
  obtain ⟨o, h1, h2⟩ := allO_el h hp
  unfold isO at h2
  split at h2
  · rename_i q
    simp only [Bool.and_eq_true, Nat.blt_eq] at h2
    obtain ⟨e, h3⟩ := h2
    have e := Nat.eq_of_beq_eq_true e
    obtain ⟨x, hx, ha⟩ := hs p _ h1
    unfold aoO at ha
    split at ha
    · rename_i a b e2
      cases e2
      obtain ⟨a1, a2⟩ := ha
      subst e
      refine ⟨_, b.2, h1, ?_, a2, by rw [← a2.1]; exact h3⟩
      rw [hx, a1]
    · rename_i e2
      cases e2
    · exact ha.elim
  · cases h2
theorem isL_el {C : AC} {ps : List Nat} {kd n : Nat} {sh : List XO} (hs : shO C sh) (h : allO C ps (isL kd n) = true) {p : Nat} (hp : p ∈ ps) : ∃ cs rs, xlk C.1 p = some (.inr (kd, n, cs)) ∧ xn sh p = some (.inr (kd, n, rs)) ∧ refO cs rs := by
  obtain ⟨o, h1, h2⟩ := allO_el h hp
  unfold isL at h2
  split at h2
  · rename_i q
    simp only [Bool.and_eq_true] at h2
    obtain ⟨e, h3⟩ := h2
    have e := Nat.eq_of_beq_eq_true e
    have h3 := Nat.eq_of_beq_eq_true h3
    obtain ⟨x, hx, ha⟩ := hs p _ h1
    unfold aoO at ha
    split at ha
    · rename_i e2
      cases e2
    · rename_i a b e2
      cases e2
      obtain ⟨a1, a2, a3⟩ := ha
      obtain ⟨q1, q2, q3⟩ := q
      obtain ⟨b1, b2, b3⟩ := b
      dsimp only at e h3 a1 a2 a3
      subst e h3 a1 a2
      exact ⟨q3, b3, h1, hx, a3⟩
    · exact ha.elim
  · cases h2
theorem isN_el {C : AC} {ps : List Nat} {n : Nat} {sh : List XO} (hs : shO C sh) (h : allO C ps (isN n) = true) {p : Nat} (hp : p ∈ ps) : ∃ kd rs, xn sh p = some (.inr (kd, n, rs)) ∧ Nat.blt kd 4 = true := by
  obtain ⟨o, h1, h2⟩ := allO_el h hp
  unfold isN at h2
  split at h2
  · rename_i q
    simp only [Bool.and_eq_true] at h2
    obtain ⟨e, h3⟩ := h2
    have h3 := Nat.eq_of_beq_eq_true h3
    obtain ⟨x, hx, ha⟩ := hs p _ h1
    unfold aoO at ha
    split at ha
    · rename_i e2
      cases e2
    · rename_i a b e2
      cases e2
      obtain ⟨a1, a2, a3⟩ := ha
      obtain ⟨q1, q2, q3⟩ := q
      obtain ⟨b1, b2, b3⟩ := b
      dsimp only at e h3 a1 a2 a3
      subst h3 a1 a2
      exact ⟨q1, b3, hx, e⟩
    · exact ha.elim
  · cases h2
theorem uni_mem {p : Nat} : ∀ {a b : List Nat}, (p ∈ a ∨ p ∈ b) → p ∈ uni a b
  | [], b, h => by
    rcases h with h | h
    · cases h
    · exact h
  | q :: a, b, h => by
    unfold uni
    split
    · rename_i e
      refine uni_mem (a := a) ?_
      rcases h with h | h
      · rcases List.mem_cons.mp h with z | z
        · rw [z]
          exact Or.inr (nmem_el e)
        · exact Or.inl z
      · exact Or.inr h
    · refine uni_mem (a := a) ?_
      rcases h with h | h
      · rcases List.mem_cons.mp h with z | z
        · rw [z]
          exact Or.inr List.mem_cons_self
        · exact Or.inl z
      · exact Or.inr (List.mem_cons_of_mem _ h)
theorem refU_mem {C : AC} {kk p p' : Nat} {o : AO} : ∀ {ps : List Nat}, p ∈ ps → xlk C.1 p = some o → p' ∈ refA kk o → p' ∈ refU C ps kk
  | q :: ps, hp, ho, h => by
    unfold refU
    rcases List.mem_cons.mp hp with z | z
    · subst z
      rw [ho]
      exact uni_mem (Or.inl h)
    · split
      · exact uni_mem (Or.inr (refU_mem z ho h))
      · exact refU_mem z ho h
theorem hull_ok {C : AC} {kk p : Nat} {z : Int} : ∀ {ps : List Nat} {r : Int × Int}, hull C kk ps = some r → p ∈ ps → inI (cellI C p kk) z → inI r z
  | [q], r, h, hp, hz => by
    cases h
    rw [← List.mem_singleton.mp hp]
    exact hz
  | q :: q2 :: ps, r, h, hp, hz => by
    unfold hull at h
    split at h
    · rename_i w e
      cases h
      have m1 := imin_le (a := (cellI C q kk).1) (b := w.1)
      have m2 := imax_ge (a := (cellI C q kk).2) (b := w.2)
      rcases List.mem_cons.mp hp with y | y
      · subst y
        exact ⟨Int.le_trans m1.1 hz.1, Int.le_trans hz.2 m2.1⟩
      · have := hull_ok e y hz
        exact ⟨Int.le_trans m1.2 this.1, Int.le_trans this.2 m2.2⟩
    · cases h
theorem tF_mem {p kk : Nat} {q : Nat × Int} : ∀ {T : AT}, tF T p kk = some q → (p, kk, q) ∈ T
  | e :: T, h => by
    unfold tF at h
    split at h
    · rename_i z
      simp only [Bool.and_eq_true] at z
      cases h
      rw [← Nat.eq_of_beq_eq_true z.1, ← Nat.eq_of_beq_eq_true z.2]
      exact List.mem_cons_self
    · exact List.mem_cons_of_mem _ (tF_mem h)
theorem nmem_of {p : Nat} : ∀ {l : List Nat}, p ∈ l → nmem p l = true
  | q :: l, h => by
    unfold nmem
    split
    · rfl
    · rename_i e
      rcases List.mem_cons.mp h with z | z
      · rw [z, Nat.beq_refl] at e
        cases e
      · exact nmem_of z
theorem trk_none {T : AT} {ps : List Nat} {p kk : Nat} (h : trk T ps = false) (hp : p ∈ ps) : tF T p kk = none := by
  cases e : tF T p kk with
  | none => rfl
  | some q =>
    have hm := tF_mem e
    have y : trk T ps = true := List.any_eq_true.mpr ⟨_, hm, nmem_of hp⟩
    rw [h] at y
    cases y
theorem tF_hd {p kk : Nat} {q : Nat × Int} {T : AT} : tF ((p, kk, q) :: T) p kk = some q := by
  unfold tF
  simp
theorem tF_ne {p kk p' k' : Nat} {q : Nat × Int} {T : AT} (h : ¬ (p' = p ∧ k' = kk)) : tF ((p, kk, q) :: T) p' k' = tF T p' k' := by
  rw [tF]
  have e : (Nat.beq p p' && Nat.beq kk k') = false := by
    cases z : (Nat.beq p p' && Nat.beq kk k') with
    | false => rfl
    | true =>
      simp only [Bool.and_eq_true] at z
      exact absurd ⟨(Nat.eq_of_beq_eq_true z.1).symm, (Nat.eq_of_beq_eq_true z.2).symm⟩ h
  simp only [e]
theorem tD_ne {p kk p' k' : Nat} (h : ¬ (p' = p ∧ k' = kk)) : ∀ {T : AT}, tF (tD T p kk) p' k' = tF T p' k'
  | [] => rfl
  | e :: T => by
    obtain ⟨e1, e2, e3⟩ := e
    unfold tD
    split
    · rename_i z
      simp only [Bool.and_eq_true] at z
      rw [tD_ne h, tF_ne]
      rw [Nat.eq_of_beq_eq_true z.1, Nat.eq_of_beq_eq_true z.2]
      exact h
    · rw [tF, tF, tD_ne h]
theorem uI_atA (I : XI) (p k : Nat) (v : Int32) (q j : Nat) : uI I p k v q j = if q = p ∧ j = k then v else I q j := by
  by_cases hq : q = p
  · subst hq
    rw [uI_eq]
    simp [upd]
  · rw [uI_ne hq]
    simp [hq]
theorem cellI_row {C : AC} {p kk : Nat} {z : Int} (h : cellsIn C p = true) (hz : inI (cellI C p kk) z) : inI (rowI C p) z := by
  unfold cellI at hz
  split at hz
  · rename_i q e
    have hm := List.mem_of_find?_eq_some e
    have hq := List.find?_some e
    simp only [Bool.and_eq_true] at hq
    have y := List.all_eq_true.mp h q hm
    rw [hq.1] at y
    exact rsub_el (by simpa using y) hz
  · exact hz
theorem hullR_ok {C : AC} {kk p : Nat} {z : Int} : ∀ {ps : List Nat} {r : Int × Int}, hullR C ps = some r → p ∈ ps → inI (cellI C p kk) z → inI r z
  | [q], r, h, hp, hz => by
    unfold hullR at h
    split at h
    · rename_i e
      cases h
      rw [List.mem_singleton.mp hp] at hz
      exact cellI_row e hz
    · cases h
  | q :: q2 :: ps, r, h, hp, hz => by
    unfold hullR at h
    split at h
    · rename_i w e1 e2
      cases h
      have m1 := imin_le (a := (rowI C q).1) (b := w.1)
      have m2 := imax_ge (a := (rowI C q).2) (b := w.2)
      rcases List.mem_cons.mp hp with y | y
      · subst y
        have hz := cellI_row e2 hz
        exact ⟨Int.le_trans m1.1 hz.1, Int.le_trans hz.2 m2.1⟩
      · have := hullR_ok e1 y hz
        exact ⟨Int.le_trans m1.2 this.1, Int.le_trans this.2 m2.2⟩
    · cases h
theorem cellsOk_el {C : AC} {p kk : Nat} {r w : Int × Int} {z : Int} (h : cellsOk C p r w = true) (hk : inI r (kk : Nat)) (hz : inI w z) : inI (cellI C p kk) z := by
  unfold cellsOk at h
  simp only [Bool.and_eq_true] at h
  unfold cellI
  split
  · rename_i q e
    have hm := List.mem_of_find?_eq_some e
    have hq := List.find?_some e
    simp only [Bool.and_eq_true] at hq
    have y := List.all_eq_true.mp h.2 q hm
    have e1 := Nat.eq_of_beq_eq_true hq.2
    unfold nrm at e1
    split at e1
    · rename_i ew
      simp only [Bool.and_eq_true] at ew
      have b3 : ile 130 r.2 = true := decide_eq_true (by have := Nat.le_of_ble_eq_true ew.2; have := hk.2; omega)
      have b4 : Nat.ble 60 q.2.1 = true := Nat.ble_eq_true_of_le (by omega)
      rw [hq.1, ew.1, b3, b4] at y
      simp only [Bool.and_true, Bool.or_true, Bool.not_true, Bool.false_or] at y
      exact rsub_el y hz
    · have b1 : ile r.1 (q.2.1 : Nat) = true := decide_eq_true (by rw [e1]; exact hk.1)
      have b2 : ile (q.2.1 : Nat) r.2 = true := decide_eq_true (by rw [e1]; exact hk.2)
      rw [hq.1, b1, b2] at y
      simp only [Bool.and_true, Bool.true_or, Bool.not_true, Bool.false_or] at y
      exact rsub_el y hz
  · exact rsub_el h.1 hz
theorem inL_el {r : Int × Int} {n : Nat} {z : Int} (h : inL r n = true) (hz : inI r z) : 0 ≤ z ∧ z < n := by
  unfold inL at h
  simp only [Bool.and_eq_true] at h
  have h1 := ile_el h.1
  have h2 := ile_el h.2
  have := hz.1
  have := hz.2
  omega
section ABSH
variable {C : AC} {Wm : List Nat} {Wf : Bool} {sh0 : List XO} {I0 : XI} {R0 R : List Int} {S S' : AS} {lc : List (Option Value)} {st : List Value} {sh : List XO} {I : XI} {J : XJ} {k : XP} {X : XX} {al : Bool} {n0 mc ms : Nat}
theorem aCell_ok {T : List AV} {ps : List Nat} {kk p : Nat} {r : List Value} (h : aCell C S T ps kk = some S') (hg : ga C Wm Wf sh0 I0 R0 R S lc st sh I) (hT : stO R T r) (hp : p ∈ ps) (hk : gk C Wm Wf sh0 I0 R0 S' k) : k lc (.int (I p kk) :: r) sh I J 0 0 := by
  unfold aCell at h
  split at h
  · rename_i q
    have e := List.mem_singleton.mp hp
    subst e
    split at h
    · rename_i q e
      cases h
      exact hk _ _ _ _ _ _ (ga_pu hg hT ⟨_, rfl, hg.2.2.1.1 _ _ _ e⟩)
    · rename_i e
      cases h
      have hz : inI (cellI C p kk) (I p kk).toInt := hg.2.2.1.2.1 _ _ e
      have y := ga_fr hg hT hz
      have el : S.1.length = R.length := hg.1.1.1.symm
      refine hk _ _ _ _ _ _ ⟨y.1, y.2.1, ⟨fun p' k' q hq => ?_, fun p' k' hq => ?_, y.2.2.1.2.2⟩, y.2.2.2⟩
      · by_cases hh : p' = p ∧ k' = kk
        · obtain ⟨rfl, rfl⟩ := hh
          rw [tF_hd] at hq
          cases hq
          exact ⟨_, by rw [el]; exact xn_app_len _ _, by simp⟩
        · rw [tF_ne hh] at hq
          exact y.2.2.1.1 _ _ _ hq
      · by_cases hh : p' = p ∧ k' = kk
        · obtain ⟨rfl, rfl⟩ := hh
          rw [tF_hd] at hq
          cases hq
        · rw [tF_ne hh] at hq
          exact y.2.2.1.2.1 _ _ hq
  · split at h
    · rename_i w e1 e2
      cases h
      exact hk _ _ _ _ _ _ (ga_fr hg hT (hull_ok e2 hp (hg.2.2.1.2.1 _ _ (trk_none e1 hp))))
    · cases h
theorem aLoad_ok {kd : Nat} (h : aLoad C S kd = some S') (hg : ga C Wm Wf sh0 I0 R0 R S lc st sh I) (hk : gk C Wm Wf sh0 I0 R0 S' k) : xir st fun j p r => xga sh p kd fun n _ => vp_in j n ∧ k lc (.int (I p j.toNatClampNeg) :: r) sh I J 0 0 := by
  unfold aLoad at h
  split at h
  · rename_i q ps T e
    have hs := hg.2.1.2
    rw [e] at hs
    obtain ⟨j, r1, rfl, hj, hT1⟩ := stO_int hs
    obtain ⟨p, r2, rfl, hp, hT2⟩ := stO_ref hT1
    split at h
    · rename_i r n er en
      have hi := iv_ok hg.1.1 hj er
      split at h
      · rename_i e1 e2
        simp only [Bool.and_eq_true] at e1
        obtain ⟨cs, rs, _, hx, _⟩ := isL_el hg.2.2.2.1 e1.2 hp
        have hb := inL_el e1.1 hi
        unfold xir
        dsimp only
        unfold xga
        rw [hx]
        dsimp only
        refine xb_mk (Nat.beq_refl kd) ⟨vp_in_iff.mpr hb, ?_⟩
        have ej : j.toNatClampNeg = r.1.toNat := by
          have e2 := of_decide_eq_true e2
          have := hi.1
          have := hi.2
          show j.toInt.toNat = r.1.toNat
          omega
        rw [ej]
        exact aCell_ok h hg hT2 hp hk
      · rename_i e1 e2
        simp only [Bool.and_eq_true] at e1
        obtain ⟨cs, rs, _, hx, _⟩ := isL_el hg.2.2.2.1 e1.2 hp
        have hb := inL_el e1.1 hi
        unfold xir
        dsimp only
        unfold xga
        rw [hx]
        dsimp only
        refine xb_mk (Nat.beq_refl kd) ⟨vp_in_iff.mpr hb, ?_⟩
        split at h
        · rename_i w e3 e4
          cases h
          exact hk _ _ _ _ _ _ (ga_fr hg hT2 (hullR_ok e4 hp (hg.2.2.1.2.1 _ _ (trk_none e3 hp))))
        · cases h
          exact hk _ _ _ _ _ _ (ga_fr hg hT2 (inI_fr _))
      · cases h
    · cases h
  · cases h
theorem aIdx_ok {kd : Nat} {f : List AV → Option AS} {g : Int32 → Nat → Nat → List (Option Nat) → List Value → Prop} (h : aIdx C S kd f = some S') (hg : ga C Wm Wf sh0 I0 R0 R S lc st sh I) (hf : ∀ T j p n rs r, f T = some S' → stO R T r → vp_in j n → g j p n rs r) : xir st fun j p r => xga sh p kd fun n rs => g j p n rs r := by
  unfold aIdx at h
  split at h
  · rename_i q ps T e
    have hs := hg.2.1.2
    rw [e] at hs
    obtain ⟨j, r1, rfl, hj, hT1⟩ := stO_int hs
    obtain ⟨p, r2, rfl, hp, hT2⟩ := stO_ref hT1
    split at h
    · rename_i r n er en
      have hi := iv_ok hg.1.1 hj er
      split at h
      · rename_i e1
        simp only [Bool.and_eq_true] at e1
        obtain ⟨cs, rs, _, hx, _⟩ := isL_el hg.2.2.2.1 e1.2 hp
        have hb := inL_el e1.1 hi
        unfold xir
        dsimp only
        unfold xga
        rw [hx]
        dsimp only
        exact xb_mk (Nat.beq_refl kd) (hf _ _ _ _ _ _ h hT2 (vp_in_iff.mpr hb))
      · cases h
    · cases h
  · cases h
/-- a cell is written and told from then on -/
theorem ga_trk {T : List AV} {p kk : Nat} {q : Nat × Int} {x : Int32} {r : List Value} (hg : ga C Wm Wf sh0 I0 R0 R S lc st sh I) (hT : stO R T r) (hW : nmem p Wm = true) (hq : numO R q x) : ga C Wm Wf sh0 I0 R0 R (S.1, S.2.1, T, (p, kk, q.1, q.2) :: tD S.2.2.2 p kk) lc r sh (uI I p kk x) := by
  refine ⟨hg.1, ⟨hg.2.1.1, hT⟩, ⟨fun p' k' q' hq' => ?_, fun p' k' hq' => ?_, fun p' hp' => ?_⟩, hg.2.2.2⟩
  · by_cases hh : p' = p ∧ k' = kk
    · obtain ⟨rfl, rfl⟩ := hh
      rw [tF_hd] at hq'
      cases hq'
      rw [uI_atA, if_pos ⟨rfl, rfl⟩]
      exact hq
    · rw [tF_ne hh, tD_ne hh] at hq'
      rw [uI_atA, if_neg hh]
      exact hg.2.2.1.1 _ _ _ hq'
  · by_cases hh : p' = p ∧ k' = kk
    · obtain ⟨rfl, rfl⟩ := hh
      rw [tF_hd] at hq'
      cases hq'
    · rw [tF_ne hh, tD_ne hh] at hq'
      rw [uI_atA, if_neg hh]
      exact hg.2.2.1.2.1 _ _ hq'
  · have hne : p' ≠ p := fun z => by rw [z, hW] at hp'; cases hp'
    rw [uI_ne hne]
    exact hg.2.2.1.2.2 _ hp'
theorem ga_row {T : List AV} {p kk : Nat} {x : Int32} {r : List Value} (hg : ga C Wm Wf sh0 I0 R0 R S lc st sh I) (hT : stO R T r) (hW : nmem p Wm = true) (ht : tF S.2.2.2 p kk = none) (hx : inI (cellI C p kk) x.toInt) : ga C Wm Wf sh0 I0 R0 R (aSt S T) lc r sh (uI I p kk x) := by
  refine ⟨hg.1, ⟨hg.2.1.1, hT⟩, ⟨fun p' k' q' hq' => ?_, fun p' k' hq' => ?_, fun p' hp' => ?_⟩, hg.2.2.2⟩
  · have hh : ¬ (p' = p ∧ k' = kk) := fun z => by
      rw [z.1, z.2] at hq'
      rw [show (aSt S T).2.2.2 = S.2.2.2 from rfl, ht] at hq'
      cases hq'
    rw [uI_atA, if_neg hh]
    exact hg.2.2.1.1 _ _ _ hq'
  · by_cases hh : p' = p ∧ k' = kk
    · obtain ⟨rfl, rfl⟩ := hh
      rw [uI_atA, if_pos ⟨rfl, rfl⟩]
      exact hx
    · rw [uI_atA, if_neg hh]
      exact hg.2.2.1.2.1 _ _ hq'
  · have hne : p' ≠ p := fun z => by rw [z, hW] at hp'; cases hp'
    rw [uI_ne hne]
    exact hg.2.2.1.2.2 _ hp'
theorem tR_none {T : AT} {p kk : Nat} {r : Int × Int} (h : tR T p r = false) (hk : inI r (kk : Nat)) : tF T p kk = none := by
  cases e : tF T p kk with
  | none => rfl
  | some q =>
    have hm := tF_mem e
    have b1 : ile r.1 (kk : Nat) = true := decide_eq_true hk.1
    have b2 : ile (kk : Nat) r.2 = true := decide_eq_true hk.2
    have y : tR T p r = true := List.any_eq_true.mpr ⟨_, hm, by dsimp only; rw [Nat.beq_refl, b1, b2]; rfl⟩
    rw [h] at y
    cases y
theorem aStore_ok {kd : Nat} {q : Nat × Int} {v : (Nat × Int) ⊕ (Int × Int)} {ps : List Nat} {T : List AV} {j x : Int32} {p : Nat} {r : List Value} (h : aStore C Wm S kd q v ps T = some S') (hg : ga C Wm Wf sh0 I0 R0 R S lc st sh I) (hT : stO R T r) (hp : p ∈ ps) (hj : numO R q j) (hv : numP R v x) (hk : gk C Wm Wf sh0 I0 R0 S' k) : xga sh p kd fun n _ => vp_in j n ∧ k lc r sh (uI I p j.toNatClampNeg x) J 0 0 := by
  unfold aStore at h
  split at h
  · rename_i p0 r0 er
    have e := List.mem_singleton.mp hp
    subst e
    have hi := iv_ok hg.1.1 hj er
    split at h
    · rename_i n en
      have main : ∀ (hb : (inL r0 n && allO C [p] (isL kd n) && nmem p Wm) = true), (k lc r sh (uI I p j.toNatClampNeg x) J 0 0) → xga sh p kd fun n _ => vp_in j n ∧ k lc r sh (uI I p j.toNatClampNeg x) J 0 0 := by
        intro hb hh
        simp only [Bool.and_eq_true] at hb
        obtain ⟨cs, rs, _, hx, _⟩ := isL_el hg.2.2.2.1 hb.1.2 hp
        unfold xga
        rw [hx]
        dsimp only
        exact xb_mk (Nat.beq_refl kd) ⟨vp_in_iff.mpr (inL_el hb.1.1 hi), hh⟩
      have ej : ∀ (hd : decide (r0.1 = r0.2) = true), j.toNatClampNeg = r0.1.toNat := by
        intro hd
        have hd := of_decide_eq_true hd
        have := hi.1
        have := hi.2
        show j.toInt.toNat = r0.1.toNat
        omega
      have hkk : ∀ (hb : (inL r0 n && allO C [p] (isL kd n) && nmem p Wm) = true), inI r0 (j.toNatClampNeg : Nat) := by
        intro hb
        simp only [Bool.and_eq_true] at hb
        have := inL_el hb.1.1 hi
        show inI r0 ((j.toInt.toNat : Nat) : Int)
        rw [Int.toNat_of_nonneg this.1]
        exact hi
      have hW : ∀ (hb : (inL r0 n && allO C [p] (isL kd n) && nmem p Wm) = true), nmem p Wm = true := by
        intro hb
        simp only [Bool.and_eq_true] at hb
        exact hb.2
      split at h
      · rename_i u hb hd
        cases h
        refine main hb ?_
        rw [ej hd]
        exact hk _ _ _ _ _ _ (ga_trk (q := u) hg hT (hW hb) hv)
      · rename_i w hb hd
        cases h
        refine main hb ?_
        rw [ej hd]
        have hg2 := ga_ext hg hv
        have el : S.1.length = R.length := hg.1.1.1.symm
        exact hk _ _ _ _ _ _ (ga_trk (q := (S.1.length, 0)) hg2 (stO_app hT) (hW hb) ⟨_, by rw [el]; exact xn_app_len _ _, by simp⟩)
      · rename_i u hb hd
        split at h
        · rename_i w ew
          split at h
          · rename_i e3
            simp only [Bool.and_eq_true, Bool.not_eq_true'] at e3
            cases h
            exact main hb (hk _ _ _ _ _ _ (ga_row hg hT (hW hb) (tR_none e3.2 (hkk hb)) (cellsOk_el e3.1 (hkk hb) (iv_ok hg.1.1 hv ew))))
          · cases h
        · cases h
      · rename_i w hb hd
        split at h
        · rename_i e3
          simp only [Bool.and_eq_true, Bool.not_eq_true'] at e3
          cases h
          exact main hb (hk _ _ _ _ _ _ (ga_row hg hT (hW hb) (tR_none e3.2 (hkk hb)) (cellsOk_el e3.1 (hkk hb) hv)))
        · cases h
      · cases h
    · cases h
  · cases h
end ABSH
end
section
-- ===== the other instructions on cells; all straight instructions =====
section ABSX
variable {C : AC} {Wm : List Nat} {Wf : Bool} {sh0 : List XO} {I0 : XI} {R0 R : List Int} {S S' : AS} {lc : List (Option Value)} {st : List Value} {sh : List XO} {I : XI} {J : XJ} {k : XP} {X : XX} {al : Bool} {n0 mc ms : Nat}
theorem getf_ok {idx : Nat} (h : aI C Wm Wf X (.getfield idx) S = some S') (hg : ga C Wm Wf sh0 I0 R0 R S lc st sh I) (hk : gk C Wm Wf sh0 I0 R0 S' k) : xs X false al n0 mc ms none (.getfield idx) lc st sh I J 0 0 k := by
  unfold aI at h
  dsimp only at h
  unfold xs
  dsimp only
  split at h
  · cases h
  rename_i eo
  try rw [eo]
  try dsimp only
  split at h
  · rename_i ps T e es el
    have hs := hg.2.1.2
    rw [es] at hs
    obtain ⟨p, r, rfl, hp, hT⟩ := stO_ref hs
    unfold xr1
    dsimp only
    unfold xgo
    rw [el]
    dsimp only
    split at h
    · rename_i e1 e2
      obtain ⟨cs, rs, hc, hx, hrf, hlt⟩ := isO_el hg.2.2.2.1 e1 hp
      rw [hx]
      dsimp only
      refine xb_mk (Nat.beq_refl _) ?_
      split at h
      · rename_i e3
        cases h
        obtain ⟨o, ho, hr⟩ := allO_el e3 hp
        rw [hc] at ho
        cases ho
        unfold hasR at hr
        dsimp only at hr
        split at hr
        · rename_i ps' e4
          obtain ⟨p', hp', hx'⟩ := hrf.2.1 _ _ e4
          have ev : xgf I p e.1 e.2.1 rs = .ref p' := by
            unfold xgf
            rw [e2]
            dsimp only
            unfold xref
            rw [hx']
          rw [ev]
          refine hk _ _ _ _ _ _ (ga_pu hg hT ⟨p', refU_mem hp hc ?_, rfl⟩)
          unfold refA
          dsimp only
          rw [e4]
          exact hp'
        · cases hr
      · cases h
    · rename_i e1 e2
      obtain ⟨cs, rs, hc, hx, hrf, hlt⟩ := isO_el hg.2.2.2.1 e1 hp
      rw [hx]
      dsimp only
      refine xb_mk (Nat.beq_refl _) ?_
      have ev : xgf I p e.1 e.2.1 rs = .int (I p e.2.1) := by
        unfold xgf
        rw [e2]
      rw [ev]
      exact aCell_ok h hg hT hp hk
    · cases h
  · cases h
theorem xin_mk {α : Type} {l : List α} {i : Nat} {P : Prop} (h : i < l.length) (hp : P) : xin (xn l i) P := by
  obtain ⟨a, ha⟩ := xn_some h
  rw [ha]
  exact hp
theorem tyI_el {t : FieldType} (h : tyI t = true) : t = .int := by
  unfold tyI at h
  split at h
  · rfl
  · cases h
theorem tyB_el {t : FieldType} (h : tyB t = true) : t = .boolean := by
  unfold tyB at h
  split at h
  · rfl
  · cases h
theorem refO_set {cs : List (Option (List Nat))} {rs : List (Option Nat)} {kk q : Nat} {ps : List Nat} (h : refO cs rs) (hc : xn cs kk = some (some ps)) (hq : q ∈ ps) : refO cs (xsetR rs kk (some q)) := by
  rw [xsetR_eq]
  refine ⟨by rw [List.length_set]; exact h.1, fun j ps' hj => ?_, fun j hj => ?_⟩
  · by_cases hh : kk = j
    · subst hh
      rw [hc] at hj
      cases hj
      exact ⟨q, hq, xn_set_eq (by rw [← h.1]; exact xn_lt hc)⟩
    · rw [xn_set_ne hh]
      exact h.2.1 j ps' hj
  · by_cases hh : kk = j
    · subst hh
      rw [hc] at hj
      cases hj
    · rw [xn_set_ne hh]
      exact h.2.2 j hj
theorem putf_ok {idx : Nat} (h : aI C Wm Wf X (.putfield idx) S = some S') (hg : ga C Wm Wf sh0 I0 R0 R S lc st sh I) (hk : gk C Wm Wf sh0 I0 R0 S' k) : xvr st fun v p r => xgo X sh p idx fun ci kk rs => xin (xn rs kk) (xpf X false ci kk (xpv (xty ci kk) v (fun x => k lc r sh (uI I p kk x) J 0 0) (fun q => k lc r (xset sh p (.inl (ci, xsetR rs kk (some q)))) I J 0 0))) := by
  unfold aI at h
  dsimp only at h
  split at h
  · rename_i u p T e es el
    have hs := hg.2.1.2
    rw [es] at hs
    obtain ⟨x, r1, rfl, hx, hT1⟩ := stO_int hs
    obtain ⟨p0, r, rfl, hp, hT⟩ := stO_ref hT1
    have e0 := List.mem_singleton.mp hp
    subst e0
    split at h
    · rename_i w e1 ew
      simp only [Bool.and_eq_true, Bool.not_eq_true'] at e1
      obtain ⟨cs, rs, hc, hxx, hrf, hlt⟩ := isO_el hg.2.2.2.1 e1.1.1 hp
      unfold xvr
      dsimp only
      unfold xgo
      rw [el]
      dsimp only
      rw [hxx]
      dsimp only
      refine xb_mk (Nat.beq_refl _) (xin_mk hlt ?_)
      unfold xpf
      rw [e1.2]
      dsimp only
      split at h
      · rename_i e2
        cases h
        simp only [Bool.or_eq_true, Bool.and_eq_true] at e2
        have go : k lc r sh (uI I p0 e.2.1 x) J 0 0 := hk _ _ _ _ _ _ (ga_trk (q := u) hg hT e1.1.2 hx)
        rcases e2 with e2 | ⟨e2, e3⟩
        · rw [tyI_el e2]
          exact go
        · rw [tyB_el e2]
          refine ⟨?_, go⟩
          have hi := rsub_el e3 (iv_ok hg.1.1 hx ew)
          have h1 := hi.1
          have h2 := hi.2
          dsimp only at h1 h2
          rcases (show x.toInt = 0 ∨ x.toInt = 1 by omega) with z | z
          · exact Or.inl (Int32.toInt_inj.mp z)
          · exact Or.inr (Int32.toInt_inj.mp z)
      · cases h
    · cases h
  · rename_i vs p T e es el
    have hs := hg.2.1.2
    rw [es] at hs
    obtain ⟨q, r1, rfl, hq, hT1⟩ := stO_ref hs
    obtain ⟨p0, r, rfl, hp, hT⟩ := stO_ref hT1
    have e0 := List.mem_singleton.mp hp
    subst e0
    split at h
    · rename_i o e1 eo
      simp only [Bool.and_eq_true, Bool.not_eq_true'] at e1
      obtain ⟨cs, rs, hc, hxx, hrf, hlt⟩ := isO_el hg.2.2.2.1 e1.1.1.1 hp
      rw [eo] at hc
      cases hc
      unfold xvr
      dsimp only
      unfold xgo
      rw [el]
      dsimp only
      rw [hxx]
      dsimp only
      refine xb_mk (Nat.beq_refl _) (xin_mk hlt ?_)
      unfold xpf
      rw [e1.1.2]
      dsimp only
      split at h
      · rename_i ps ep
        split at h
        · rename_i e2
          cases h
          have go : k lc r (xset sh p0 (.inl (e.1, xsetR rs e.2.1 (some q)))) I J 0 0 := by
            refine hk _ _ _ _ _ _ ⟨hg.1, ⟨hg.2.1.1, hT⟩, hg.2.2.1, fun p' o' ho' => ?_, fun z => ?_⟩
            · by_cases hh : p' = p0
              · subst hh
                rw [eo] at ho'
                cases ho'
                exact ⟨_, xset_same hxx, rfl, refO_set hrf ep (nsub_el e2 hq)⟩
              · rw [xset_ne hh]
                exact hg.2.2.2.1 p' o' ho'
            · rw [e1.1.1.2] at z
              cases z
          have ht := e1.2
          generalize xty e.1 e.2.1 = t at ht ⊢
          cases t <;> first
            | exact go
            | cases ht
        · cases h
      · cases h
    · cases h
  · cases h
theorem alen_ok (h : aI C Wm Wf X .arraylength S = some S') (hg : ga C Wm Wf sh0 I0 R0 R S lc st sh I) (hk : gk C Wm Wf sh0 I0 R0 S' k) : xs X false al n0 mc ms none .arraylength lc st sh I J 0 0 k := by
  unfold aI at h
  dsimp only at h
  split at h
  · rename_i ps T es
    have hs := hg.2.1.2
    rw [es] at hs
    obtain ⟨p, r, rfl, hp, hT⟩ := stO_ref hs
    split at h
    · rename_i e ec
      cases h
      obtain ⟨p', hps, hb, hn, he⟩ := cstA_el ec
      rw [hps] at hp
      have e0 := List.mem_singleton.mp hp
      subst e0
      unfold xs
      dsimp only
      unfold xr1
      dsimp only
      rw [hn]
      dsimp only
      rw [hb]
      dsimp only
      rw [he]
      exact hk _ _ _ _ _ _ (ga_pu hg hT ⟨_, rfl, numO_const hg.1.2.1⟩)
    split at h
    · rename_i n en
      split at h
      · rename_i e1
        cases h
        simp only [Bool.and_eq_true] at e1
        obtain ⟨kd, rs, hx, hb⟩ := isN_el hg.2.2.2.1 e1.1 hp
        obtain ⟨hn, hn2⟩ := cstN_el e1.2 hp
        unfold xs
        dsimp only
        unfold xr1
        dsimp only
        rw [hn]
        dsimp only
        rw [hn2]
        dsimp only
        rw [hx]
        dsimp only
        exact xb_mk hb (hk _ _ _ _ _ _ (ga_pu hg hT ⟨_, rfl, numO_const hg.1.2.1⟩))
      · cases h
    · cases h
  · cases h
theorem iald_ok (h : aI C Wm Wf X .iaload S = some S') (hg : ga C Wm Wf sh0 I0 R0 R S lc st sh I) (hk : gk C Wm Wf sh0 I0 R0 S' k) : xs X false al n0 mc ms none .iaload lc st sh I J 0 0 k := by
  unfold aI at h
  dsimp only at h
  split at h
  · rename_i q ps T es
    split at h
    · rename_i e ec
      have hs := hg.2.1.2
      rw [es] at hs
      obtain ⟨j, r1, rfl, hj, hT1⟩ := stO_int hs
      obtain ⟨p, r, rfl, hp, hT⟩ := stO_ref hT1
      obtain ⟨p', hps, hb, hn, he⟩ := cstA_el ec
      rw [hps] at hp
      have e0 := List.mem_singleton.mp hp
      subst e0
      split at h
      · rename_i w ew
        split at h
        · rename_i e2
          cases h
          simp only [Bool.and_eq_true] at e2
          have hi := inL_el e2.2 (iv_ok hg.1.1 hj ew)
          unfold xs
          dsimp only
          unfold xir
          dsimp only
          rw [hn]
          dsimp only
          rw [hb]
          dsimp only
          rw [he]
          exact xb_mk e2.1 ⟨vp_in_iff.mpr hi, hk _ _ _ _ _ _ (ga_fr hg hT (inI_fr _))⟩
        · cases h
      · cases h
    split at h
    · rename_i e1
      have y := aLoad_ok (J := J) h hg hk
      have hs := hg.2.1.2
      rw [es] at hs
      obtain ⟨j, r1, rfl, hj, hT1⟩ := stO_int hs
      obtain ⟨p, r, rfl, hp, hT⟩ := stO_ref hT1
      obtain ⟨hn, hn2⟩ := cstN_el e1 hp
      unfold xs
      dsimp only
      unfold xir at y ⊢
      dsimp only at y ⊢
      rw [hn]
      dsimp only
      rw [hn2]
      exact y
    · cases h
  · cases h
theorem refW_mem {p n kk p' : Nat} {o : AO} : ∀ {m : Nat}, kk < m → xlk C.1 p = some o → p' ∈ refA kk o → p' ∈ refW C p n m
  | m + 1, hm, ho, h => by
    unfold refW
    by_cases hh : kk = m
    · subst hh
      exact uni_mem (Or.inl (refU_mem List.mem_cons_self ho h))
    · exact uni_mem (Or.inr (refW_mem (by omega) ho h))
theorem aald_ok (h : aI C Wm Wf X .aaload S = some S') (hg : ga C Wm Wf sh0 I0 R0 R S lc st sh I) (hk : gk C Wm Wf sh0 I0 R0 S' k) : xs X false al n0 mc ms none .aaload lc st sh I J 0 0 k := by
  unfold aI at h
  dsimp only at h
  split at h
  · rename_i q p T es
    have hs := hg.2.1.2
    rw [es] at hs
    obtain ⟨j, r1, rfl, hj, hT1⟩ := stO_int hs
    obtain ⟨p0, r, rfl, hp, hT⟩ := stO_ref hT1
    have e0 := List.mem_singleton.mp hp
    subst e0
    split at h
    · rename_i r0 n er en
      have hi := iv_ok hg.1.1 hj er
      split at h
      · rename_i e1
        cases h
        simp only [Bool.and_eq_true] at e1
        obtain ⟨cs, rs, hc, hx, hrf⟩ := isL_el hg.2.2.2.1 e1.1.2 hp
        have hb := inL_el e1.1.1 hi
        have hj2 : j.toNatClampNeg < n := by
          show j.toInt.toNat < n
          omega
        unfold xs
        dsimp only
        unfold xir
        dsimp only
        unfold xga
        rw [hx]
        dsimp only
        refine xb_mk rfl ⟨vp_in_iff.mpr hb, ?_⟩
        have hh := List.all_eq_true.mp e1.2 _ (List.mem_range.mpr hj2)
        obtain ⟨o, ho, hr⟩ := allO_el hh hp
        rw [hc] at ho
        cases ho
        unfold hasR at hr
        dsimp only at hr
        split at hr
        · rename_i ps' e4
          obtain ⟨p', hp', hx'⟩ := hrf.2.1 _ _ e4
          have ev : xref rs j.toNatClampNeg = .ref p' := by
            unfold xref
            rw [hx']
          rw [ev]
          refine hk _ _ _ _ _ _ (ga_pu hg hT ⟨p', refW_mem hj2 hc ?_, rfl⟩)
          unfold refA
          dsimp only
          rw [e4]
          exact hp'
        · cases hr
      · cases h
    · cases h
  · cases h
theorem iast_ok (h : aI C Wm Wf X .iastore S = some S') (hg : ga C Wm Wf sh0 I0 R0 R S lc st sh I) (hk : gk C Wm Wf sh0 I0 R0 S' k) : xs X false al n0 mc ms none .iastore lc st sh I J 0 0 k := by
  unfold aI at h
  dsimp only at h
  split at h
  · rename_i u q ps T es
    have hs := hg.2.1.2
    rw [es] at hs
    obtain ⟨x, r0, rfl, hx, hT0⟩ := stO_int hs
    obtain ⟨j, r1, rfl, hj, hT1⟩ := stO_int hT0
    obtain ⟨p, r, rfl, hp, hT⟩ := stO_ref hT1
    unfold xs
    dsimp only
    unfold xvir
    dsimp only
    exact aStore_ok (v := .inl u) h hg hT hp hj hx hk
  · cases h
theorem bast_ok (h : aI C Wm Wf X .bastore S = some S') (hg : ga C Wm Wf sh0 I0 R0 R S lc st sh I) (hk : gk C Wm Wf sh0 I0 R0 S' k) : xs X false al n0 mc ms none .bastore lc st sh I J 0 0 k := by
  unfold aI at h
  dsimp only at h
  split at h
  · rename_i u q ps T es
    have hs := hg.2.1.2
    rw [es] at hs
    obtain ⟨x, r0, rfl, hx, hT0⟩ := stO_int hs
    obtain ⟨j, r1, rfl, hj, hT1⟩ := stO_int hT0
    obtain ⟨p, r, rfl, hp, hT⟩ := stO_ref hT1
    unfold xs
    dsimp only
    unfold xvir
    dsimp only
    refine aStore_ok (v := .inr (-128, 127)) (x := vp_nar .byte x) h hg hT hp hj ?_ hk
    rw [vp_nar_byte]
    have a1 := Int8.le_toInt x.toInt8
    have a2 := Int8.toInt_lt x.toInt8
    show inI (-128, 127) x.toInt8.toInt32.toInt
    rw [Int8.toInt_toInt32]
    exact ⟨a1, by dsimp only; omega⟩
  · cases h
theorem last_ok (h : aI C Wm Wf X .lastore S = some S') (hg : ga C Wm Wf sh0 I0 R0 R S lc st sh I) (hk : gk C Wm Wf sh0 I0 R0 S' k) : xs X false al n0 mc ms none .lastore lc st sh I J 0 0 k := by
  unfold aI at h
  dsimp only at h
  split at h
  · rename_i b q p T es
    have hs := hg.2.1.2
    rw [es] at hs
    obtain ⟨v, r0, rfl, hv, hT0⟩ := stO_cons hs
    obtain ⟨j, r1, rfl, hj, hT1⟩ := stO_int hT0
    obtain ⟨p0, r, rfl, hp, hT⟩ := stO_ref hT1
    split at h
    · rename_i r0 n er en
      have hi := iv_ok hg.1.1 hj er
      split at h
      · rename_i e1
        cases h
        simp only [Bool.and_eq_true] at e1
        obtain ⟨x, rfl⟩ := avO_lg hv e1.1.1
        obtain ⟨cs, rs, hc, hx, hrf⟩ := isL_el hg.2.2.2.1 e1.2 hp
        unfold xs
        dsimp only
        unfold xvir
        dsimp only
        unfold xga
        rw [hx]
        dsimp only
        exact xb_mk rfl ⟨vp_in_iff.mpr (inL_el e1.1.2 hi), hk _ _ _ _ _ _ (ga_st hg hT)⟩
      · cases h
    · cases h
  · cases h
end ABSX
end
section
-- ===== all straight instructions; Math and arraycopy =====
def aCs : List AV → Nat
  | [] => 0
  | .inl _ :: T => 1 + aCs T
  | .inr (.inl _) :: T => 1 + aCs T
  | _ :: T => 2 + aCs T
theorem aCs_ok {R : List Int} : ∀ {T : List AV} {st : List Value}, stO R T st → xcs st ≤ aCs T
  | [], [], _ => Nat.le_refl _
  | .inl q :: T, v :: st, h => by
    obtain ⟨⟨x, e, _⟩, h2⟩ := h
    cases e
    have := aCs_ok h2
    show 1 + xcs st ≤ 1 + aCs T
    omega
  | .inr (.inl q) :: T, v :: st, h => by
    obtain ⟨⟨x, _, e⟩, h2⟩ := h
    cases e
    have := aCs_ok h2
    show 1 + xcs st ≤ 1 + aCs T
    omega
  | .inr (.inr n) :: T, v :: st, h => by
    have := aCs_ok h.2
    have hv : v.category ≤ 2 := by cases v <;> first | exact Nat.le_refl 2 | exact Nat.le_succ 1
    show v.category + xcs st ≤ 2 + aCs T
    omega
  | [], _ :: _, h => h.elim
  | _ :: _, [], h => h.elim
def noCell (C : AC) (p : Nat) : Bool := (C.2.1.all fun q => !(Nat.beq q.1 p)) && rsub fr (rowI C p)
def tOff (T : AT) (p : Nat) : AT := match T with
  | [] => []
  | e :: l => match Nat.beq e.1 p with
    | true => tOff l p
    | false => e :: tOff l p
theorem tOff_ne {p p' k' : Nat} (h : ¬ p' = p) : ∀ {T : AT}, tF (tOff T p) p' k' = tF T p' k'
  | [] => rfl
  | e :: T => by
    obtain ⟨e1, e2, e3⟩ := e
    unfold tOff
    split
    · rename_i z
      have z := Nat.eq_of_beq_eq_true z
      dsimp only at z
      subst z
      rw [tOff_ne h, tF_ne (fun y => h y.1)]
    · rw [tF, tF, tOff_ne h]
theorem tOff_same {p k' : Nat} : ∀ {T : AT}, tF (tOff T p) p k' = none
  | [] => rfl
  | e :: T => by
    obtain ⟨e1, e2, e3⟩ := e
    unfold tOff
    split
    · exact tOff_same
    · rename_i z
      dsimp only at z
      rw [tF]
      dsimp only
      rw [z]
      exact tOff_same
theorem noCell_ok {C : AC} {p kk : Nat} (h : noCell C p = true) (x : Int32) : inI (cellI C p kk) x.toInt := by
  unfold noCell at h
  simp only [Bool.and_eq_true] at h
  unfold cellI
  split
  · rename_i q e
    have hm := List.mem_of_find?_eq_some e
    have hq := List.find?_some e
    simp only [Bool.and_eq_true] at hq
    have y := List.all_eq_true.mp h.1 q hm
    rw [hq.1] at y
    cases y
  · exact rsub_el h.2 (inI_fr x)
/-- intrinsic methods by their number -/
def aIn (C : AC) (Wm : List Nat) (t : Nat) (S : AS) : Option AS := match t with
  | 5 => a2 S fun q r T => (match iv S.1 q, iv S.1 r, Nat.ble (aCs T) 8 with
    | some a, some b, true => some (aFr S T (imin a.1 b.1, imin a.2 b.2))
    | _, _, _ => none)
  | 6 => a2 S fun q r T => (match iv S.1 q, iv S.1 r, Nat.ble (aCs T) 8 with
    | some a, some b, true => some (aFr S T (imax a.1 b.1, imax a.2 b.2))
    | _, _, _ => none)
  | 7 => a1 S fun _ T => (match Nat.ble (aCs T) 8 with
    | true => some (aFr S T fr)
    | false => none)
  | 8 => l2 S fun _ T => (match Nat.ble (aCs T) 8 with
    | true => some (aPu S T (.inr (.inr 1)))
    | false => none)
  | 9 => l2 S fun _ T => (match Nat.ble (aCs T) 8 with
    | true => some (aPu S T (.inr (.inr 1)))
    | false => none)
  | 10 => (match S.2.2.1 with
    | .inl n :: .inl dp :: .inr (.inl [p1]) :: .inl sp :: .inr (.inl [p0]) :: T => (match iv S.1 n, iv S.1 dp, iv S.1 sp, lenA C [p0], lenA C [p1] with
      | some n, some dp, some sp, some l0, some l1 => (match ile 0 n.1 && ile 0 dp.1 && ile 0 sp.1 && ile (sp.2 + n.2) (l0 : Nat) && ile (dp.2 + n.2) (l1 : Nat) && allO C [p0] (isL 0 l0) && allO C [p1] (isL 0 l1) && noCell C p1 && nmem p1 Wm && Nat.ble (aCs T) 8 with
        | true => some (S.1, S.2.1, T, tOff S.2.2.2 p1)
        | false => none)
      | _, _, _, _, _ => none)
    | _ => none)
  | _ => none
section ABSY
variable {C : AC} {Wm : List Nat} {Wf : Bool} {sh0 : List XO} {I0 : XI} {R0 R : List Int} {S S' : AS} {lc : List (Option Value)} {st : List Value} {sh : List XO} {I : XI} {J : XJ} {k : XP} {X : XX} {al : Bool} {n0 mc ms : Nat}
theorem ands_ok {q r : Nat × Int} {x y : Int32} {w : (Nat × Int) ⊕ (Int × Int)} (hE : envO R S.1) (hx : numO R q x) (hy : numO R r y) (h : aAnd S.1 q r = some w) : numP R w (x &&& y) := by
  unfold aAnd at h
  split at h
  · rename_i a b ea eb
    have ha := iv_ok hE hx ea
    have hb := iv_ok hE hy eb
    have key : ∀ u v : Int32, 0 ≤ v.toInt → 0 ≤ (u &&& v).toInt ∧ (u &&& v).toInt ≤ v.toInt := by
      intro u v hv
      have e : (u &&& v).toBitVec = u.toBitVec &&& v.toBitVec := rfl
      have hvn : v.toBitVec.toNat < 2 ^ 31 := by
        have h1 : v.toInt = v.toBitVec.toInt := rfl
        rw [h1, BitVec.toInt_eq_toNat_cond] at hv
        split at hv
        · omega
        · have := v.toBitVec.isLt
          omega
      have h2 : (u &&& v).toBitVec.toNat ≤ v.toBitVec.toNat := by
        rw [e, BitVec.toNat_and]
        exact Nat.and_le_right
      have h3 : (u &&& v).toInt = ((u &&& v).toBitVec.toNat : Int) := by
        have h1 : (u &&& v).toInt = (u &&& v).toBitVec.toInt := rfl
        rw [h1, BitVec.toInt_eq_toNat_cond, if_pos (by omega)]
      have h4 : v.toInt = (v.toBitVec.toNat : Int) := by
        have h1 : v.toInt = v.toBitVec.toInt := rfl
        rw [h1, BitVec.toInt_eq_toNat_cond, if_pos (by omega)]
      rw [h3, h4]
      omega
    split at h
    · rename_i e1
      cases h
      have e1 := ile_el e1
      have := key x y (by have := hb.1; omega)
      exact ⟨this.1, by have := hb.2; dsimp only; omega⟩
    · split at h
      · rename_i e1
        cases h
        have e1 := ile_el e1
        have := key y x (by have := ha.1; omega)
        rw [show y &&& x = x &&& y from Int32.and_comm y x] at this
        exact ⟨this.1, by have := ha.2; dsimp only; omega⟩
      · cases h
        exact inI_fr _
  · cases h
theorem muls_ok {q r : Nat × Int} {x y : Int32} {w : (Nat × Int) ⊕ (Int × Int)} (hE : envO R S.1) (hx : numO R q x) (hy : numO R r y) (h : aMul S.1 q r = some w) : numP R w (x * y) := by
  unfold aMul at h
  split at h
  · rename_i a b ea eb
    cases h
    exact inI_mul (iv_ok hE hx ea) (iv_ok hE hy eb)
  · cases h
theorem toInt_div_pos {x y : Int32} (hy : 1 ≤ y.toInt) : (x / y).toInt = x.toInt.tdiv y.toInt := by
  rw [Int32.toInt_div_of_ne_right]
  intro z
  rw [z] at hy
  have : (-1 : Int32).toInt = -1 := by decide
  omega
theorem divs_ok {q r : Nat × Int} {x y : Int32} {w : (Nat × Int) ⊕ (Int × Int)} (hE : envO R S.1) (hx : numO R q x) (hy : numO R r y) (h : aDiv S.1 q r = some w) : (¬ y = 0) ∧ numP R w (x / y) := by
  unfold aDiv at h
  split at h
  · rename_i a b ea eb
    have ha := iv_ok hE hx ea
    have hb := iv_ok hE hy eb
    split at h
    · rename_i e1
      have e1 := ile_el e1
      have hy1 : 1 ≤ y.toInt := by have := hb.1; omega
      refine ⟨fun z => ?_, ?_⟩
      · rw [z] at hy1
        have : (0 : Int32).toInt = 0 := by decide
        omega
      split at h
      · rename_i e2
        cases h
        have e2 := ile_el e2
        have hx0 : 0 ≤ x.toInt := by have := ha.1; omega
        show inI _ _
        rw [toInt_div_pos hy1]
        have d1 := Int.tdiv_nonneg hx0 (show 0 ≤ y.toInt by omega)
        have d2 : x.toInt.tdiv y.toInt ≤ x.toInt := Int.tdiv_le_self _ hx0
        exact ⟨d1, by have := ha.2; dsimp only; omega⟩
      · cases h
        exact inI_fr _
    · cases h
  · cases h
theorem rem_bound {a b : Int} (hb : 1 ≤ b) : (0 ≤ a → 0 ≤ a - a.tdiv b * b ∧ a - a.tdiv b * b ≤ a) ∧ (a ≤ 0 → a - a.tdiv b * b ≤ 0) ∧ 1 - b ≤ a - a.tdiv b * b ∧ a - a.tdiv b * b ≤ b - 1 := by
  have e : a - a.tdiv b * b = a.tmod b := by
    have := Int.tmod_def a b
    rw [this, Int.mul_comm]
  rw [e]
  refine ⟨fun h => ⟨Int.tmod_nonneg _ h, ?_⟩, fun h => ?_, ?_, ?_⟩
  · rw [← e]
    have d1 := Int.tdiv_nonneg h (show 0 ≤ b by omega)
    have := Int.mul_nonneg d1 (show 0 ≤ b by omega)
    omega
  · have h1 := Int.tmod_nonneg b (show 0 ≤ -a by omega)
    rw [Int.neg_tmod] at h1
    omega
  · have := Int.lt_tmod_of_pos a (show 0 < b by omega)
    omega
  · have := Int.tmod_lt_of_pos a (show 0 < b by omega)
    omega
theorem rems_ok {q r : Nat × Int} {x y : Int32} {w : (Nat × Int) ⊕ (Int × Int)} (hE : envO R S.1) (hx : numO R q x) (hy : numO R r y) (h : aRem S.1 q r = some w) : (¬ y = 0) ∧ numP R w (x - x / y * y) := by
  unfold aRem at h
  split at h
  · rename_i a b ea eb
    have ha := iv_ok hE hx ea
    have hb := iv_ok hE hy eb
    split at h
    · rename_i e1
      have e1 := ile_el e1
      have hy1 : 1 ≤ y.toInt := by have := hb.1; omega
      refine ⟨fun z => ?_, ?_⟩
      · rw [z] at hy1
        have : (0 : Int32).toInt = 0 := by decide
        omega
      have hb1 := rem_bound (a := x.toInt) (b := y.toInt) hy1
      have hd := toInt_div_pos (x := x) hy1
      have hx1 := Int32.le_toInt x
      have hx2 := Int32.toInt_lt x
      have hy2 := Int32.toInt_lt y
      have hsg : (0 ≤ x.toInt ∨ x.toInt ≤ 0) := by omega
      have hm : (x / y * y).toInt = x.toInt.tdiv y.toInt * y.toInt := toInt_mul_of (by rw [hd]) (by rcases hsg with z | z <;> first | (have := hb1.1 z; omega) | (have := hb1.2.1 z; omega)) (by rcases hsg with z | z <;> first | (have := hb1.1 z; omega) | (have := hb1.2.1 z; omega))
      have hs : (x - x / y * y).toInt = x.toInt - x.toInt.tdiv y.toInt * y.toInt := toInt_sub_of (by rw [hm]) (by omega) (by omega)
      split at h
      · rename_i e2
        cases h
        have e2 := ile_el e2
        have hx0 : 0 ≤ x.toInt := by have := ha.1; omega
        show inI _ _
        rw [hs]
        have h3 := hb1.1 hx0
        refine ⟨h3.1, ?_⟩
        show _ ≤ imin a.2 (b.2 - 1)
        unfold imin
        split
        · have := ha.2
          omega
        · have := hb.2
          omega
      · cases h
        show inI _ _
        rw [hs]
        have := hb.2
        exact ⟨by dsimp only; omega, by dsimp only; omega⟩
    · cases h
  · cases h
theorem shr_bound {x : Int32} (n : Int32) (hx : 0 ≤ x.toInt) : 0 ≤ (x >>> n).toInt ∧ (x >>> n).toInt ≤ x.toInt := by
  have h1 : (x >>> n).toInt = (x.toBitVec.sshiftRight' (n.toBitVec.smod 32)).toInt := rfl
  rw [h1, BitVec.sshiftRight', BitVec.toInt_sshiftRight]
  have h2 : x.toInt = x.toBitVec.toInt := rfl
  rw [h2] at hx ⊢
  rw [Int.shiftRight_eq_div_pow]
  generalize (n.toBitVec.smod 32).toNat = m
  have hp : (0 : Int) < ((2 ^ m : Nat) : Int) := by
    have := Nat.two_pow_pos m
    omega
  exact ⟨Int.ediv_nonneg hx (by omega), Int.ediv_le_self _ hx⟩
theorem shrs_ok {q r : Nat × Int} {x y : Int32} {w : (Nat × Int) ⊕ (Int × Int)} (hE : envO R S.1) (hx : numO R q x) (h : aShr S.1 q r = some w) : numP R w (x >>> (y &&& 31)) := by
  unfold aShr at h
  split at h
  · rename_i a b ea eb
    have ha := iv_ok hE hx ea
    split at h
    · rename_i e1
      cases h
      have e1 := ile_el e1
      have := shr_bound (x := x) (y &&& 31) (by have := ha.1; omega)
      exact ⟨this.1, by have := ha.2; dsimp only; omega⟩
    · cases h
      exact inI_fr _
  · cases h
theorem lgx_ok (x y : Int64) : inI (-1, 1) (lg_cmp x y).toInt := by
  unfold lg_cmp
  split
  · exact ⟨by decide, by decide⟩
  · split
    · exact ⟨by decide, by decide⟩
    · exact ⟨by decide, by decide⟩
end ABSY
end
section
-- ===== all of them; conditions =====
section ABSZ
variable {C : AC} {Wm : List Nat} {Wf : Bool} {sh0 : List XO} {I0 : XI} {R0 R : List Int} {S S' : AS} {lc : List (Option Value)} {st : List Value} {sh : List XO} {I : XI} {J : XJ} {k : XP} {X : XX} {al : Bool} {n0 mc ms : Nat}
theorem pull {α : Type} {o : Option α} {P : α → Prop} {w : α} (h : o = some w) (hP : P w) : ∀ w', o = some w' → P w' := fun w' hw => by
  rw [h] at hw
  cases hw
  exact hP
set_option maxHeartbeats 4000000 in
theorem aI_ok {i : Jvm.ClassFile.Instr} (h : aI C Wm Wf X i S = some S') (hg : ga C Wm Wf sh0 I0 R0 R S lc st sh I) (hk : gk C Wm Wf sh0 I0 R0 S' k) : xs X false al n0 mc ms none i lc st sh I J 0 0 k := by
  have hE := hg.1.1
  have h0 := hg.1.2.1
  cases i with
  | iconst n =>
    cases h
    exact hk _ _ _ _ _ _ (ga_pu hg hg.2.1.2 ⟨_, rfl, numO_const h0⟩)
  | bipush n =>
    cases h
    exact hk _ _ _ _ _ _ (ga_pu hg hg.2.1.2 ⟨_, rfl, numO_const h0⟩)
  | sipush n =>
    cases h
    exact hk _ _ _ _ _ _ (ga_pu hg hg.2.1.2 ⟨_, rfl, numO_const h0⟩)
  | lconst n =>
    cases h
    refine hk _ _ _ _ _ _ (ga_pu hg hg.2.1.2 ?_)
    split
    · exact ⟨_, rfl⟩
    · rename_i e
      exact ⟨_, rfl, of_decide_eq_false e⟩
  | aconst_null =>
    cases h
    exact hk _ _ _ _ _ _ (ga_pu hg hg.2.1.2 rfl)
  | iload_n n => exact ldI_ok h hg hk
  | iload n => exact ldI_ok h hg hk
  | lload_n n => exact ldL_ok h hg hk
  | lload n => exact ldL_ok h hg hk
  | aload_n n => exact ldA_ok h hg hk
  | aload n => exact ldA_ok h hg hk
  | istore_n n => exact stI_ok h hg hk
  | istore n => exact stI_ok h hg hk
  | lstore_n n => exact stL_ok h hg hk
  | lstore n => exact stL_ok h hg hk
  | astore_n n => exact stA_ok h hg hk
  | astore n => exact stA_ok h hg hk
  | iinc j n =>
    dsimp only [aI] at h
    split at h
    · rename_i q e
      obtain ⟨o, h1, x, h2, h3⟩ := hg.2.1.1 j _ e
      show xli (xn lc j) _
      rw [h1, h2]
      exact setN_ok h hg hk (fun w hw => aAdd_ok hE h0 h3 (numO_const h0) hw)
    · cases h
  | iadd => exact a2_ok h hg (fun q r T x y rest hf hx hy hT => aNum_ok hf hg hT hk (fun w hw => aAdd_ok hE h0 hx hy hw))
  | isub => exact a2_ok h hg (fun q r T x y rest hf hx hy hT => aNum_ok hf hg hT hk (fun w hw => aSub_ok hE h0 hx hy hw))
  | imul => exact a2_ok h hg (fun q r T x y rest hf hx hy hT => aNum_ok hf hg hT hk (fun w hw => muls_ok hE hx hy hw))
  | iand => exact a2_ok h hg (fun q r T x y rest hf hx hy hT => aNum_ok hf hg hT hk (fun w hw => ands_ok hE hx hy hw))
  | ior => exact a2_ok h hg (fun q r T x y rest hf hx hy hT => by cases hf; exact hk _ _ _ _ _ _ (ga_fr hg hT (inI_fr _)))
  | ixor => exact a2_ok h hg (fun q r T x y rest hf hx hy hT => by cases hf; exact hk _ _ _ _ _ _ (ga_fr hg hT (inI_fr _)))
  | idiv =>
    refine a2_ok h hg (fun q r T x y rest hf hx hy hT => ?_)
    have hw : ∃ w, aDiv S.1 q r = some w := by
      cases e : aDiv S.1 q r with
      | none =>
        rw [e] at hf
        cases hf
      | some w => exact ⟨w, rfl⟩
    obtain ⟨w, hw⟩ := hw
    exact ⟨(divs_ok hE hx hy hw).1, aNum_ok hf hg hT hk (fun w hw => (divs_ok hE hx hy hw).2)⟩
  | irem =>
    refine a2_ok h hg (fun q r T x y rest hf hx hy hT => ?_)
    have hw : ∃ w, aRem S.1 q r = some w := by
      cases e : aRem S.1 q r with
      | none =>
        rw [e] at hf
        cases hf
      | some w => exact ⟨w, rfl⟩
    obtain ⟨w, hw⟩ := hw
    exact ⟨(rems_ok hE hx hy hw).1, aNum_ok hf hg hT hk (fun w hw => (rems_ok hE hx hy hw).2)⟩
  | ineg => exact a1_ok h hg (fun q T x rest hf hx hT => by cases hf; exact hk _ _ _ _ _ _ (ga_fr hg hT (inI_fr _)))
  | ishl => exact a2_ok h hg (fun q r T x y rest hf hx hy hT => by cases hf; exact hk _ _ _ _ _ _ (ga_fr hg hT (inI_fr _)))
  | ishr => exact a2_ok h hg (fun q r T x y rest hf hx hy hT => aNum_ok hf hg hT hk (fun w hw => shrs_ok hE hx hw))
  | iushr => exact a2_ok h hg (fun q r T x y rest hf hx hy hT => by cases hf; exact hk _ _ _ _ _ _ (ga_fr hg hT (inI_fr _)))
  | ladd => exact l2_ok h hg (fun b T x y rest hf hb hT => by cases hf; exact hk _ _ _ _ _ _ (ga_pu hg hT ⟨_, rfl⟩))
  | lsub => exact l2_ok h hg (fun b T x y rest hf hb hT => by cases hf; exact hk _ _ _ _ _ _ (ga_pu hg hT ⟨_, rfl⟩))
  | lmul => exact l2_ok h hg (fun b T x y rest hf hb hT => by cases hf; exact hk _ _ _ _ _ _ (ga_pu hg hT ⟨_, rfl⟩))
  | land => exact l2_ok h hg (fun b T x y rest hf hb hT => by cases hf; exact hk _ _ _ _ _ _ (ga_pu hg hT ⟨_, rfl⟩))
  | lor => exact l2_ok h hg (fun b T x y rest hf hb hT => by cases hf; exact hk _ _ _ _ _ _ (ga_pu hg hT ⟨_, rfl⟩))
  | ldiv =>
    refine l2_ok h hg (fun b T x y rest hf hb hT => ?_)
    split at hf
    · cases hf
      obtain ⟨z, e, hz⟩ := hb
      cases e
      exact ⟨hz, hk _ _ _ _ _ _ (ga_pu hg hT ⟨_, rfl⟩)⟩
    · cases hf
  | lneg => exact l1_ok h hg (fun T x rest hf hT => by cases hf; exact hk _ _ _ _ _ _ (ga_pu hg hT ⟨_, rfl⟩))
  | lcmp => exact l2_ok h hg (fun b T x y rest hf hb hT => by cases hf; exact hk _ _ _ _ _ _ (ga_fr hg hT (lgx_ok _ _)))
  | i2l => exact a1_ok h hg (fun q T x rest hf hx hT => by cases hf; exact hk _ _ _ _ _ _ (ga_pu hg hT ⟨_, rfl⟩))
  | l2i => exact l1_ok h hg (fun T x rest hf hT => by cases hf; exact hk _ _ _ _ _ _ (ga_fr hg hT (inI_fr _)))
  | i2b =>
    refine a1_ok h hg (fun q T x rest hf hx hT => ?_)
    cases hf
    refine hk _ _ _ _ _ _ (ga_fr hg hT ?_)
    have a1 := Int8.le_toInt x.toInt8
    have a2 := Int8.toInt_lt x.toInt8
    rw [Int8.toInt_toInt32]
    exact ⟨a1, by dsimp only; omega⟩
  | i2c => exact a1_ok h hg (fun q T x rest hf hx hT => by cases hf; exact hk _ _ _ _ _ _ (ga_fr hg hT (inI_fr _)))
  | dup =>
    dsimp only [aI] at h
    split at h
    · rename_i q T e
      cases h
      have hs := hg.2.1.2
      rw [e] at hs
      obtain ⟨x, r, rfl, hx, hT⟩ := stO_int hs
      exact xb_mk rfl (hk _ _ _ _ _ _ (ga_pu hg ⟨⟨_, rfl, hx⟩, hT⟩ ⟨_, rfl, hx⟩))
    · rename_i q T e
      cases h
      have hs := hg.2.1.2
      rw [e] at hs
      obtain ⟨x, r, rfl, hx, hT⟩ := stO_ref hs
      exact xb_mk rfl (hk _ _ _ _ _ _ (ga_pu hg ⟨⟨_, hx, rfl⟩, hT⟩ ⟨_, hx, rfl⟩))
    · cases h
  | pop =>
    dsimp only [aI] at h
    split at h
    · rename_i q T e
      cases h
      have hs := hg.2.1.2
      rw [e] at hs
      obtain ⟨x, r, rfl, hx, hT⟩ := stO_int hs
      exact xb_mk rfl (hk _ _ _ _ _ _ (ga_st hg hT))
    · rename_i q T e
      cases h
      have hs := hg.2.1.2
      rw [e] at hs
      obtain ⟨x, r, rfl, hx, hT⟩ := stO_ref hs
      exact xb_mk rfl (hk _ _ _ _ _ _ (ga_st hg hT))
    · cases h
  | dup2 =>
    dsimp only [aI] at h
    split at h
    · rename_i q ps T e
      cases h
      have hs := hg.2.1.2
      rw [e] at hs
      obtain ⟨x, r1, rfl, hx, hT1⟩ := stO_int hs
      obtain ⟨p, r, rfl, hp, hT⟩ := stO_ref hT1
      exact xb_mk rfl (hk _ _ _ _ _ _ (ga_st hg ⟨⟨_, rfl, hx⟩, ⟨_, hp, rfl⟩, ⟨_, rfl, hx⟩, ⟨_, hp, rfl⟩, hT⟩))
    · cases h
  | getfield idx => exact getf_ok h hg hk
  | putfield idx => exact putf_ok h hg hk
  | arraylength => exact alen_ok h hg hk
  | iaload => exact iald_ok h hg hk
  | baload =>
    dsimp only [aI] at h
    split at h
    · cases h
    rename_i eb
    have y := aLoad_ok (J := J) h hg hk
    unfold xs
    dsimp only
    rw [eb]
    exact y
  | getstatic idx =>
    dsimp only [aI] at h
    split at h
    · rename_i w ew
      split at h
      · rename_i e2
        cases h
        have z := Nat.le_of_ble_eq_true e2
        unfold xs
        dsimp only
        rw [ew]
        match w, z with
        | w + 2, _ => exact hk _ _ _ _ _ _ (ga_pu hg hg.2.1.2 ⟨w + 2, List.mem_singleton.mpr rfl, rfl⟩)
      · cases h
    · cases h
  | laload =>
    refine aIdx_ok (g := fun j p n rs r => vp_in j n ∧ k lc (.long (J p j.toNatClampNeg) :: r) sh I J 0 0) h hg (fun T j p n rs r hf hT hv => ⟨hv, ?_⟩)
    cases hf
    exact hk _ _ _ _ _ _ (ga_pu hg hT ⟨_, rfl⟩)
  | aaload => exact aald_ok h hg hk
  | iastore => exact iast_ok h hg hk
  | bastore => exact bast_ok h hg hk
  | lastore => exact last_ok h hg hk
  | ldc2_w idx =>
    dsimp only [aI] at h
    show xso (xlk X.2.2.2.2.1 idx) _
    split at h
    · rename_i e he
      cases h
      rw [he]
      refine hk _ _ _ _ _ _ (ga_pu hg hg.2.1.2 ?_)
      split
      · exact ⟨_, rfl⟩
      · rename_i z
        exact ⟨_, rfl, of_decide_eq_false z⟩
    · cases h
  | ldc idx =>
    dsimp only [aI] at h
    unfold xs
    dsimp only
    split at h
    · rename_i w ew
      cases h
      try rw [ew]
      exact hk _ _ _ _ _ _ (ga_pu hg hg.2.1.2 ⟨w, List.mem_singleton.mpr rfl, rfl⟩)
    rename_i ew
    try rw [ew]
    try dsimp only
    split at h
    · rename_i e he
      cases h
      rw [he]
      exact hk _ _ _ _ _ _ (ga_pu hg hg.2.1.2 ⟨_, rfl, numO_const h0⟩)
    · cases h
  | ldc_w idx =>
    dsimp only [aI] at h
    show xso (xlk X.2.2.2.2.2.1 idx) _
    split at h
    · rename_i e he
      cases h
      rw [he]
      exact hk _ _ _ _ _ _ (ga_pu hg hg.2.1.2 ⟨_, rfl, numO_const h0⟩)
    · cases h
  | _ => cases h
end ABSZ
end
section
-- ===== intrinsics; conditions =====
section ABSIN
variable {C : AC} {Wm : List Nat} {Wf : Bool} {sh0 : List XO} {I0 : XI} {R0 R : List Int} {S S' : AS} {lc : List (Option Value)} {st : List Value} {sh : List XO} {I : XI} {J : XJ} {k : XP} {X : XX} {al : Bool} {n0 mc ms : Nat}
theorem ble3 {a b c : Bool} (h1 : a = true) (h2 : b = true) (h3 : c = true) : (a && b && c) = true := by rw [h1, h2, h3]; rfl
theorem xcs_ble {T : List AV} {r : List Value} (hT : stO R T r) (h : Nat.ble (aCs T) 8 = true) : Nat.ble (xcs r) 8 = true := Nat.ble_eq.mpr (Nat.le_trans (aCs_ok hT) (Nat.ble_eq.mp h))
theorem min_in {a b : Int × Int} {x y : Int32} (hx : inI a x.toInt) (hy : inI b y.toInt) : inI (imin a.1 b.1, imin a.2 b.2) (if y < x then y else x).toInt := by
  have m1 := imin_le (a := a.1) (b := b.1)
  have e : (y < x) ↔ y.toInt < x.toInt := Int32.lt_iff_toInt_lt
  have k2 : imin a.2 b.2 = a.2 ∨ imin a.2 b.2 = b.2 := by
    unfold imin
    split
    · exact Or.inl rfl
    · exact Or.inr rfl
  have := hx.1
  have := hx.2
  have := hy.1
  have := hy.2
  unfold inI
  dsimp only
  by_cases hl : y < x
  · have hl2 := e.mp hl
    rw [if_pos hl]
    rcases k2 with z | z <;> rw [z] <;> omega
  · have hl2 : ¬ y.toInt < x.toInt := fun z => hl (e.mpr z)
    rw [if_neg hl]
    rcases k2 with z | z <;> rw [z] <;> omega
theorem max_in {a b : Int × Int} {x y : Int32} (hx : inI a x.toInt) (hy : inI b y.toInt) : inI (imax a.1 b.1, imax a.2 b.2) (if x < y then y else x).toInt := by
  have m1 := imax_ge (a := a.2) (b := b.2)
  have e : (x < y) ↔ x.toInt < y.toInt := Int32.lt_iff_toInt_lt
  have k2 : imax a.1 b.1 = a.1 ∨ imax a.1 b.1 = b.1 := by
    unfold imax
    split
    · exact Or.inr rfl
    · exact Or.inl rfl
  have := hx.1
  have := hx.2
  have := hy.1
  have := hy.2
  unfold inI
  dsimp only
  by_cases hl : x < y
  · have hl2 := e.mp hl
    rw [if_pos hl]
    rcases k2 with z | z <;> rw [z] <;> omega
  · have hl2 : ¬ x.toInt < y.toInt := fun z => hl (e.mpr z)
    rw [if_neg hl]
    rcases k2 with z | z <;> rw [z] <;> omega
theorem nneg_of {x : Int32} (h : 0 ≤ x.toInt) : ¬ x < 0 := by
  intro z
  have := Int32.lt_iff_toInt_lt.mp z
  have e : (0 : Int32).toInt = 0 := by decide
  omega
theorem aIn_ok {idx : Nat} {e : Nat × XM × Nat × (Nat × Nat) × List Nat} (he : xlk X.2.2.2.1 idx = some e) (h : aIn C Wm e.1 S = some S') (hg : ga C Wm Wf sh0 I0 R0 R S lc st sh I) (hk : gk C Wm Wf sh0 I0 R0 S' k) : xs X false al n0 mc ms none (.invokestatic idx) lc st sh I J 0 0 k := by
  show xso (xlk X.2.2.2.1 idx) _
  rw [he]
  unfold xso
  dsimp only
  generalize e.1 = t at h
  unfold aIn at h
  split at h
  · refine a2_ok h hg (fun q r T x y rest hf hx hy hT => ?_)
    split at hf
    · rename_i a b ea eb e8
      cases hf
      exact xb_mk (ble3 (xcs_ble hT e8) (Nat.ble_eq.mpr (Nat.zero_le _)) (Nat.ble_eq.mpr (Nat.zero_le _))) (hk _ _ _ _ _ _ (ga_fr hg hT (min_in (iv_ok hg.1.1 hx ea) (iv_ok hg.1.1 hy eb))))
    · cases hf
  · refine a2_ok h hg (fun q r T x y rest hf hx hy hT => ?_)
    split at hf
    · rename_i a b ea eb e8
      cases hf
      exact xb_mk (ble3 (xcs_ble hT e8) (Nat.ble_eq.mpr (Nat.zero_le _)) (Nat.ble_eq.mpr (Nat.zero_le _))) (hk _ _ _ _ _ _ (ga_fr hg hT (max_in (iv_ok hg.1.1 hx ea) (iv_ok hg.1.1 hy eb))))
    · cases hf
  · refine a1_ok h hg (fun q T x rest hf hx hT => ?_)
    split at hf
    · rename_i e8
      cases hf
      exact xb_mk (ble3 (xcs_ble hT e8) (Nat.ble_eq.mpr (Nat.zero_le _)) (Nat.ble_eq.mpr (Nat.zero_le _))) (hk _ _ _ _ _ _ (ga_fr hg hT (inI_fr _)))
    · cases hf
  · refine l2_ok h hg (fun b T x y rest hf hb hT => ?_)
    split at hf
    · rename_i e8
      cases hf
      exact xb_mk (ble3 (xcs_ble hT e8) (Nat.ble_eq.mpr (Nat.zero_le _)) (Nat.ble_eq.mpr (Nat.zero_le _))) (hk _ _ _ _ _ _ (ga_pu hg hT ⟨_, rfl⟩))
    · cases hf
  · refine l2_ok h hg (fun b T x y rest hf hb hT => ?_)
    split at hf
    · rename_i e8
      cases hf
      exact xb_mk (ble3 (xcs_ble hT e8) (Nat.ble_eq.mpr (Nat.zero_le _)) (Nat.ble_eq.mpr (Nat.zero_le _))) (hk _ _ _ _ _ _ (ga_pu hg hT ⟨_, rfl⟩))
    · cases hf
  · split at h
    · rename_i n dp p1 sp p0 T es
      have hs := hg.2.1.2
      rw [es] at hs
      obtain ⟨xn', r1, rfl, hn, hT1⟩ := stO_int hs
      obtain ⟨xd, r2, rfl, hd, hT2⟩ := stO_int hT1
      obtain ⟨q1, r3, rfl, hq1, hT3⟩ := stO_ref hT2
      obtain ⟨xsp, r4, rfl, hsp, hT4⟩ := stO_int hT3
      obtain ⟨q0, r5, rfl, hq0, hT5⟩ := stO_ref hT4
      have z1 := List.mem_singleton.mp hq1
      have z0 := List.mem_singleton.mp hq0
      subst z1 z0
      split at h
      · rename_i wn wd wsp l0 l1 en ed esp el0 el1
        split at h
        · rename_i eb
          simp only [Bool.and_eq_true] at eb
          obtain ⟨⟨⟨⟨⟨⟨⟨⟨⟨b1, b2⟩, b3⟩, b4⟩, b5⟩, b6⟩, b7⟩, b8⟩, b9⟩, b10⟩ := eb
          cases h
          have i1 := iv_ok hg.1.1 hn en
          have i2 := iv_ok hg.1.1 hd ed
          have i3 := iv_ok hg.1.1 hsp esp
          have b1 := ile_el b1
          have b2 := ile_el b2
          have b3 := ile_el b3
          have b4 := ile_el b4
          have b5 := ile_el b5
          have := i1.1
          have := i1.2
          have := i2.1
          have := i2.2
          have := i3.1
          have := i3.2
          obtain ⟨cs0, rs0, _, hx0, _⟩ := isL_el hg.2.2.2.1 b6 hq0
          obtain ⟨cs1, rs1, _, hx1, _⟩ := isL_el hg.2.2.2.1 b7 hq1
          refine xb_mk (xcs_ble hT5 b10) ?_
          unfold xga
          rw [hx0]
          dsimp only
          refine xb_mk rfl ?_
          rw [hx1]
          dsimp only
          refine xb_mk rfl ⟨⟨nneg_of (by omega), nneg_of (by omega), nneg_of (by omega), ?_, ?_⟩, hk _ _ _ _ _ _ ⟨hg.1, ⟨hg.2.1.1, hT5⟩, ⟨fun p' k' q' hq' => ?_, fun p' k' hq' => ?_, fun p' hp' => ?_⟩, hg.2.2.2⟩⟩
          · show xsp.toInt.toNat + xn'.toInt.toNat ≤ l0
            omega
          · show xd.toInt.toNat + xn'.toInt.toNat ≤ l1
            omega
          · by_cases hh : p' = q1
            · subst hh
              rw [tOff_same] at hq'
              cases hq'
            · rw [tOff_ne hh] at hq'
              rw [cI_ne hh]
              exact hg.2.2.1.1 _ _ _ hq'
          · by_cases hh : p' = q1
            · subst hh
              exact noCell_ok b8 _
            · rw [tOff_ne hh] at hq'
              rw [cI_ne hh]
              exact hg.2.2.1.2.1 _ _ hq'
          · have hne : p' ≠ q1 := fun z => by rw [z, b9] at hp'; cases hp'
            rw [cI_ne hne]
            exact hg.2.2.1.2.2 _ hp'
        · cases h
      · cases h
    · cases h
  · cases h
-- conditions
def cdH (q : Jvm.ClassFile.Cond) (x y : Int) : Prop := match q with
  | .eq => x = y
  | .ne => ¬ x = y
  | .lt => x < y
  | .ge => y ≤ x
  | .gt => y < x
  | .le => x ≤ y
def ngC (q : Jvm.ClassFile.Cond) : Jvm.ClassFile.Cond := match q with
  | .eq => .ne
  | .ne => .eq
  | .lt => .ge
  | .ge => .lt
  | .gt => .le
  | .le => .gt
def trim (a : Int × Int) (c : Int) : Int × Int := (match decide (a.1 = c) with
  | true => a.1 + 1
  | false => a.1, match decide (a.2 = c) with
  | true => a.2 - 1
  | false => a.2)
def rfC (q : Jvm.ClassFile.Cond) (a b : Int × Int) : (Int × Int) × (Int × Int) := match q with
  | .eq => ((imax a.1 b.1, imin a.2 b.2), (imax a.1 b.1, imin a.2 b.2))
  | .ne => (match decide (b.1 = b.2) with
    | true => trim a b.1
    | false => a, match decide (a.1 = a.2) with
    | true => trim b a.1
    | false => b)
  | .lt => ((a.1, imin a.2 (b.2 - 1)), (imax b.1 (a.1 + 1), b.2))
  | .ge => ((imax a.1 b.1, a.2), (b.1, imin b.2 a.2))
  | .gt => ((imax a.1 (b.1 + 1), a.2), (b.1, imin b.2 (a.2 - 1)))
  | .le => ((a.1, imin a.2 b.2), (imax b.1 a.1, b.2))
theorem le_imin {a b x : Int} (h1 : x ≤ a) (h2 : x ≤ b) : x ≤ imin a b := by
  unfold imin
  split
  · exact h1
  · exact h2
theorem imax_le {a b x : Int} (h1 : a ≤ x) (h2 : b ≤ x) : imax a b ≤ x := by
  unfold imax
  split
  · exact h2
  · exact h1
theorem trim_ok {a : Int × Int} {c x : Int} (hx : inI a x) (h : ¬ x = c) : inI (trim a c) x := by
  have h1 := hx.1
  have h2 := hx.2
  unfold trim
  constructor
  · dsimp only
    split
    · rename_i e
      have e := of_decide_eq_true e
      omega
    · exact h1
  · dsimp only
    split
    · rename_i e
      have e := of_decide_eq_true e
      omega
    · exact h2
theorem rfC_ok {q : Jvm.ClassFile.Cond} {a b : Int × Int} {x y : Int} (h : cdH q x y) (hx : inI a x) (hy : inI b y) : inI (rfC q a b).1 x ∧ inI (rfC q a b).2 y := by
  have x1 := hx.1
  have x2 := hx.2
  have y1 := hy.1
  have y2 := hy.2
  cases q with
  | eq =>
    have h : x = y := h
    exact ⟨⟨imax_le x1 (by omega), le_imin x2 (by omega)⟩, ⟨imax_le (by omega) y1, le_imin (by omega) y2⟩⟩
  | ne =>
    have h : ¬ x = y := h
    constructor
    · show inI (match decide (b.1 = b.2) with | true => trim a b.1 | false => a) x
      split
      · rename_i e
        have e := of_decide_eq_true e
        exact trim_ok hx (by omega)
      · exact hx
    · show inI (match decide (a.1 = a.2) with | true => trim b a.1 | false => b) y
      split
      · rename_i e
        have e := of_decide_eq_true e
        exact trim_ok hy (by omega)
      · exact hy
  | lt =>
    have h : x < y := h
    exact ⟨⟨x1, le_imin x2 (by omega)⟩, ⟨imax_le y1 (by omega), y2⟩⟩
  | ge =>
    have h : y ≤ x := h
    exact ⟨⟨imax_le x1 (by omega), x2⟩, ⟨y1, le_imin y2 (by omega)⟩⟩
  | gt =>
    have h : y < x := h
    exact ⟨⟨imax_le x1 (by omega), x2⟩, ⟨y1, le_imin y2 (by omega)⟩⟩
  | le =>
    have h : x ≤ y := h
    exact ⟨⟨x1, le_imin x2 (by omega)⟩, ⟨imax_le y1 (by omega), y2⟩⟩
def meet (E : AE) (q : Nat × Int) (r : Int × Int) : AE := match xn E q.1 with
  | some o => E.set q.1 (imax o.1 (r.1 - q.2), imin o.2 (r.2 - q.2))
  | none => E
def deadE (E : AE) : Bool := E.any fun r => !(ile r.1 r.2)
theorem meet_ok {E : AE} {q : Nat × Int} {r : Int × Int} {x : Int32} (hE : envO R E) (hx : numO R q x) (hr : inI r x.toInt) : envO R (meet E q r) := by
  unfold meet
  split
  · rename_i o e
    obtain ⟨z, h1, h2⟩ := hx
    refine ⟨by rw [List.length_set]; exact hE.1, fun v y w hv hw => ?_⟩
    by_cases hh : q.1 = v
    · subst hh
      rw [xn_set_eq (xn_lt e)] at hw
      cases hw
      rw [h1] at hv
      cases hv
      have ho := hE.2 _ _ _ h1 e
      have := hr.1
      have := hr.2
      exact ⟨imax_le ho.1 (by omega), le_imin ho.2 (by omega)⟩
    · rw [xn_set_ne hh] at hw
      exact hE.2 v y w hv hw
  · exact hE
theorem dead_el {E : AE} (hE : envO R E) : deadE E = false := by
  cases e : deadE E with
  | false => rfl
  | true =>
    obtain ⟨r, hr, h⟩ := List.any_eq_true.mp e
    simp only [Bool.not_eq_true'] at h
    obtain ⟨i, hi, rfl⟩ := List.getElem_of_mem hr
    have h1 : xn E i = some E[i] := by rw [xn_eq]; simp [hi]
    obtain ⟨z, hz⟩ := xn_some (l := R) (i := i) (by rw [hE.1]; exact hi)
    have := hE.2 i z _ hz h1
    have h2 : ¬ (E[i].1 ≤ E[i].2) := of_decide_eq_false h
    exact absurd (Int.le_trans this.1 this.2) h2
/-- the numbers where the condition holds; none: it can't -/
def aBr (q : Jvm.ClassFile.Cond) (S : AS) (T : List AV) (x y : Nat × Int) : Option AS := match iv S.1 x, iv S.1 y with
  | some a, some b => (match deadE (meet (meet S.1 x (rfC q a b).1) y (rfC q a b).2) with
    | true => none
    | false => some (meet (meet S.1 x (rfC q a b).1) y (rfC q a b).2, S.2.1, T, S.2.2.2))
  | _, _ => some (aSt S T)
theorem aBr_ok {q : Jvm.ClassFile.Cond} {T : List AV} {x y : Nat × Int} {u v : Int32} {r : List Value} (hg : ga C Wm Wf sh0 I0 R0 R S lc st sh I) (hT : stO R T r) (hx : numO R x u) (hy : numO R y v) (h : cdH q u.toInt v.toInt) : ∃ S', aBr q S T x y = some S' ∧ ga C Wm Wf sh0 I0 R0 R S' lc r sh I := by
  unfold aBr
  split
  · rename_i a b ea eb
    have hr := rfC_ok h (iv_ok hg.1.1 hx ea) (iv_ok hg.1.1 hy eb)
    have hE := meet_ok (meet_ok hg.1.1 hx hr.1) hy hr.2
    rw [dead_el hE]
    exact ⟨_, rfl, ⟨hE, hg.1.2⟩, ⟨hg.2.1.1, hT⟩, hg.2.2⟩
  · exact ⟨_, rfl, ga_st hg hT⟩
theorem xc1_of {q : Jvm.ClassFile.Cond} {x : Int32} {T F : Prop} (hT : cdH q x.toInt 0 → T) (hF : cdH (ngC q) x.toInt 0 → F) : xc1 q x T F := by
  have e0 : (0 : Int32).toInt = 0 := by decide
  have he : x = 0 ↔ x.toInt = 0 := ⟨fun z => by rw [z]; exact e0, fun z => Int32.toInt_inj.mp (z.trans e0.symm)⟩
  have hl : x < 0 ↔ x.toInt < 0 := by rw [Int32.lt_iff_toInt_lt, e0]
  have hl2 : 0 < x ↔ 0 < x.toInt := by rw [Int32.lt_iff_toInt_lt, e0]
  have hg : 0 ≤ x ↔ 0 ≤ x.toInt := by rw [Int32.le_iff_toInt_le, e0]
  have hg2 : x ≤ 0 ↔ x.toInt ≤ 0 := by rw [Int32.le_iff_toInt_le, e0]
  cases q with
  | eq => exact ⟨fun z => hT (he.mp z), fun z => hF (fun y => z (he.mpr y))⟩
  | ne => exact ⟨fun z => hT (fun y => z (he.mpr y)), fun z => hF (he.mp z)⟩
  | lt => exact ⟨fun z => hT (hl.mp z), fun z => hF (by have : ¬ x.toInt < 0 := fun y => z (hl.mpr y); show 0 ≤ x.toInt; omega)⟩
  | ge => exact ⟨fun z => hT (hg.mp z), fun z => hF (by have : ¬ 0 ≤ x.toInt := fun y => z (hg.mpr y); show x.toInt < 0; omega)⟩
  | gt => exact ⟨fun z => hT (hl2.mp z), fun z => hF (by have : ¬ 0 < x.toInt := fun y => z (hl2.mpr y); show x.toInt ≤ 0; omega)⟩
  | le => exact ⟨fun z => hT (hg2.mp z), fun z => hF (by have : ¬ x.toInt ≤ 0 := fun y => z (hg2.mpr y); show 0 < x.toInt; omega)⟩
theorem xc2_of {q : Jvm.ClassFile.Cond} {x w : Int32} {T F : Prop} (hT : cdH q x.toInt w.toInt → T) (hF : cdH (ngC q) x.toInt w.toInt → F) : xc2 q x w T F := by
  have he : x = w ↔ x.toInt = w.toInt := ⟨fun z => by rw [z], fun z => Int32.toInt_inj.mp z⟩
  have hl : x < w ↔ x.toInt < w.toInt := Int32.lt_iff_toInt_lt
  have hl2 : w < x ↔ w.toInt < x.toInt := Int32.lt_iff_toInt_lt
  have hg : w ≤ x ↔ w.toInt ≤ x.toInt := Int32.le_iff_toInt_le
  have hg2 : x ≤ w ↔ x.toInt ≤ w.toInt := Int32.le_iff_toInt_le
  cases q with
  | eq => exact ⟨fun z => hT (he.mp z), fun z => hF (fun y => z (he.mpr y))⟩
  | ne => exact ⟨fun z => hT (fun y => z (he.mpr y)), fun z => hF (he.mp z)⟩
  | lt => exact ⟨fun z => hT (hl.mp z), fun z => hF (by have : ¬ x.toInt < w.toInt := fun y => z (hl.mpr y); show w.toInt ≤ x.toInt; omega)⟩
  | ge => exact ⟨fun z => hT (hg.mp z), fun z => hF (by have : ¬ w.toInt ≤ x.toInt := fun y => z (hg.mpr y); show x.toInt < w.toInt; omega)⟩
  | gt => exact ⟨fun z => hT (hl2.mp z), fun z => hF (by have : ¬ w.toInt < x.toInt := fun y => z (hl2.mpr y); show x.toInt ≤ w.toInt; omega)⟩
  | le => exact ⟨fun z => hT (hg2.mp z), fun z => hF (by have : ¬ x.toInt ≤ w.toInt := fun y => z (hg2.mpr y); show w.toInt < x.toInt; omega)⟩
end ABSIN
end
section
-- ===== calls, ways out, control =====
def atk : Nat → List AV → List AV → Option (List AV × List AV)
  | 0, r, acc => some (acc, r)
  | n + 1, v :: r, acc => atk n r (v :: acc)
  | _ + 1, [], _ => none
theorem atk_ok {R : List Int} : ∀ {n : Nat} {T acc : List AV} {st acc' : List Value} {w : List AV × List AV}, stO R T st → stO R acc acc' → atk n T acc = some w → ∃ br, xtk n st acc' = some br ∧ stO R w.1 br.1 ∧ stO R w.2 br.2
  | 0, T, acc, st, acc', w, h1, h2, h => by
    cases h
    exact ⟨(acc', st), rfl, h2, h1⟩
  | n + 1, a :: T, acc, v :: st, acc', w, h1, h2, h => atk_ok (n := n) (T := T) (acc := a :: acc) (st := st) (acc' := v :: acc') h1.2 ⟨h1.1, h2⟩ h
  | n + 1, [], acc, st, acc', w, h1, h2, h => by cases h
  | n + 1, a :: T, acc, [], acc', w, h1, h2, h => h1.elim
def fit (E : AE) : List AV → List AG → Bool
  | [], [] => true
  | .inl q :: as, .inl r :: gs => (match iv E q with
    | some a => rsub a r
    | none => false) && fit E as gs
  | .inr (.inl ps) :: as, .inr (.inl qs) :: gs => nsub ps qs && fit E as gs
  | .inr (.inr n) :: as, .inr (.inr _) :: gs => lgT (.inr (.inr n)) && fit E as gs
  | _, _ => false
def numsV : List Value → List Int
  | [] => []
  | .int x :: r => x.toInt :: numsV r
  | _ :: r => numsV r
def agO : List AG → List Value → Prop
  | [], [] => True
  | .inl r :: gs, .int x :: vs => inI r x.toInt ∧ agO gs vs
  | .inr (.inl ps) :: gs, .ref p :: vs => p ∈ ps ∧ agO gs vs
  | .inr (.inr _) :: gs, .long _ :: vs => agO gs vs
  | _, _ => False
theorem fit_ok {R : List Int} {E : AE} (hE : envO R E) : ∀ {as : List AV} {gs : List AG} {vs : List Value}, stO R as vs → fit E as gs = true → agO gs vs
  | [], [], [], _, _ => trivial
  | .inl q :: as, .inl r :: gs, v :: vs, h, hf => by
    obtain ⟨⟨x, e, hx⟩, h2⟩ := h
    cases e
    unfold fit at hf
    simp only [Bool.and_eq_true] at hf
    refine ⟨?_, fit_ok hE h2 hf.2⟩
    have h3 := hf.1
    split at h3
    · rename_i a ea
      exact rsub_el h3 (iv_ok hE hx ea)
    · cases h3
  | .inr (.inl ps) :: as, .inr (.inl qs) :: gs, v :: vs, h, hf => by
    obtain ⟨⟨x, hx, e⟩, h2⟩ := h
    cases e
    unfold fit at hf
    simp only [Bool.and_eq_true] at hf
    exact ⟨nsub_el hf.1 hx, fit_ok hE h2 hf.2⟩
  | .inr (.inr n) :: as, .inr (.inr _) :: gs, v :: vs, h, hf => by
    unfold fit at hf
    simp only [Bool.and_eq_true] at hf
    obtain ⟨x, rfl⟩ := avO_lg h.1 hf.1
    show agO gs vs
    exact fit_ok hE h.2 hf.2
  | [], _ :: _, _, _, hf => by cases hf
  | .inl _ :: _, [], _, _, hf => by cases hf
  | .inr (.inl _) :: _, [], _, _, hf => by cases hf
  | .inr (.inr _) :: _, [], _, _, hf => by cases hf
  | .inl _ :: _, .inr (.inl _) :: _, _, _, hf => by cases hf
  | .inl _ :: _, .inr (.inr _) :: _, _, _, hf => by cases hf
  | .inr (.inl _) :: _, .inl _ :: _, _, _, hf => by cases hf
  | .inr (.inl _) :: _, .inr (.inr _) :: _, _, _, hf => by cases hf
  | .inr (.inr _) :: _, .inl _ :: _, _, _, hf => by cases hf
  | .inr (.inr _) :: _, .inr (.inl _) :: _, _, _, hf => by cases hf
  | [], [], _ :: _, h, _ => h.elim
  | _ :: _, _, [], h, _ => h.elim
def rvO (g : AG) (v : Option Value) : Prop := match g with
  | .inl r => ∃ x, v = some (.int x) ∧ inI r x.toInt
  | .inr (.inl ps) => ∃ p, p ∈ ps ∧ v = some (.ref p)
  | .inr (.inr 1) => ∃ x, v = some (.long x)
  | .inr (.inr _) => v = none
def celO (L : List (Nat × Nat × Int × Int)) (I : XI) : Prop := ∀ e, e ∈ L → inI e.2.2 (I e.1 e.2.1).toInt
def pstO (as : List Value) (P : AP) (v : Option Value) (I : XI) : Prop := (∀ i r z, xn P.1 i = some r → xn (numsV as) i = some z → inI r z) ∧ rvO P.2.1 v ∧ celO P.2.2 I
def rfA : AE → List AV → AE → AE
  | E, .inl q :: as, r :: rs => rfA (meet E q r) as rs
  | E, .inl _ :: _, [] => E
  | E, .inr _ :: as, rs => rfA E as rs
  | E, [], _ => E
theorem numsV_ref {p : Nat} {r : List Value} : numsV (.ref p :: r) = numsV r := rfl
theorem numsV_in {R : List Int} {a : List Nat ⊕ Nat} {v : Value} {r : List Value} (h : avO R (.inr a) (some v)) (hl : lgT (.inr a) = true ∨ ∃ ps, a = .inl ps) : numsV (v :: r) = numsV r := by
  rcases hl with hl | ⟨ps, rfl⟩
  · obtain ⟨x, rfl⟩ := avO_lg h hl
    rfl
  · obtain ⟨p, _, e⟩ := h
    cases e
    rfl
theorem rfA_ok {R : List Int} : ∀ {as : List AV} {gs : List AG} {vs : List Value} {E E0 rs : AE}, envO R E → stO R as vs → fit E0 as gs = true → (∀ i r z, xn rs i = some r → xn (numsV vs) i = some z → inI r z) → envO R (rfA E as rs)
  | [], gs, vs, E, E0, rs, hE, h, hf, hp => by
    unfold rfA
    exact hE
  | .inl q :: as, .inl g :: gs, v :: vs, E, E0, rs, hE, h, hf, hp => by
    obtain ⟨⟨x, e, hx⟩, h2⟩ := h
    cases e
    cases rs with
    | nil => exact hE
    | cons r rs =>
      unfold fit at hf
      simp only [Bool.and_eq_true] at hf
      unfold rfA
      exact rfA_ok (meet_ok hE hx (hp 0 r _ rfl rfl)) h2 hf.2 (fun i r' z h1 h3 => hp (i + 1) r' z h1 h3)
  | .inr (.inl ps) :: as, .inr (.inl qs) :: gs, v :: vs, E, E0, rs, hE, h, hf, hp => by
    unfold fit at hf
    simp only [Bool.and_eq_true] at hf
    rw [numsV_in h.1 (Or.inr ⟨_, rfl⟩)] at hp
    unfold rfA
    exact rfA_ok hE h.2 hf.2 hp
  | .inr (.inr n) :: as, .inr (.inr m) :: gs, v :: vs, E, E0, rs, hE, h, hf, hp => by
    unfold fit at hf
    simp only [Bool.and_eq_true] at hf
    rw [numsV_in h.1 (Or.inl hf.1)] at hp
    unfold rfA
    exact rfA_ok hE h.2 hf.2 hp
  | .inl _ :: _, [], _, _, _, _, _, _, hf, _ => by cases hf
  | .inr (.inl _) :: _, [], _, _, _, _, _, _, hf, _ => by cases hf
  | .inr (.inr _) :: _, [], _, _, _, _, _, _, hf, _ => by cases hf
  | .inl _ :: _, .inr (.inl _) :: _, _, _, _, _, _, _, hf, _ => by cases hf
  | .inl _ :: _, .inr (.inr _) :: _, _, _, _, _, _, _, hf, _ => by cases hf
  | .inr (.inl _) :: _, .inl _ :: _, _, _, _, _, _, _, hf, _ => by cases hf
  | .inr (.inl _) :: _, .inr (.inr _) :: _, _, _, _, _, _, _, hf, _ => by cases hf
  | .inr (.inr _) :: _, .inl _ :: _, _, _, _, _, _, _, hf, _ => by cases hf
  | .inr (.inr _) :: _, .inr (.inl _) :: _, _, _, _, _, _, _, hf, _ => by cases hf
  | _ :: _, _, [], _, _, _, _, h, _, _ => h.elim
def tCut : AT → List Nat → AT
  | [], _ => []
  | e :: l, ps => match nmem e.1 ps with
    | true => tCut l ps
    | false => e :: tCut l ps
theorem tCut_el {p kk : Nat} {q : Nat × Int} {ps : List Nat} : ∀ {T : AT}, tF (tCut T ps) p kk = some q → tF T p kk = some q ∧ nmem p ps = false
  | e :: T, h => by
    obtain ⟨e1, e2, e3⟩ := e
    unfold tCut at h
    split at h
    · rename_i z
      have y := tCut_el h
      dsimp only at z
      refine ⟨?_, y.2⟩
      rw [tF_ne]
      · exact y.1
      · intro w
        rw [w.1, z] at y
        cases y.2
    · rename_i z
      dsimp only at z
      by_cases hh : p = e1 ∧ kk = e2
      · obtain ⟨rfl, rfl⟩ := hh
        rw [tF_hd] at h ⊢
        exact ⟨h, z⟩
      · rw [tF_ne hh] at h ⊢
        exact tCut_el h
def tOk (C : AC) (E : AE) (T : AT) : Bool := T.all fun e => match iv E e.2.2 with
  | some r => rsub r (cellI C e.1 e.2.1)
  | none => false
theorem tOk_el {C : AC} {R : List Int} {E : AE} {T : AT} {I : XI} (h : tOk C E T = true) (hE : envO R E) (h1 : trO R T I) (h2 : ivO C T I) : ivO C [] I := by
  intro p kk _
  cases e : tF T p kk with
  | none => exact h2 p kk e
  | some q =>
    have y := List.all_eq_true.mp h _ (tF_mem e)
    dsimp only at y
    split at y
    · rename_i r er
      exact rsub_el y (iv_ok hE (h1 p kk q e) er)
    · cases y
def ctrO (Q : XI → Prop) (C : AC) (c : AK) (M : XM) : Prop := ∀ (l : Launch) (d : Nat) (sh : List XO) (I : XI) (J : XJ) (as : List Value) (Rp : XR), agO c.2.1 as → celO c.2.2.2.2.2 I → shO C sh → ivO C [] I → Q I → (∀ (v : Option Value) (sh' : List XO) (I' : XI) (J' : XJ), shO C sh' → (c.2.2.2.1 = false → sh' = sh) → ivO C [] I' → Q I' → frO c.2.2.1 I I' → (∃ P, P ∈ c.2.2.2.2.1 ∧ pstO as P v I') → Rp v sh' I' J') → xm l (d + c.1) 0 0 M as sh I J Rp
def ctsO (Q : XI → Prop) (C : AC) (X : XX) (G : List (Nat × AK)) : Prop := ∀ q, q ∈ G → ∃ e, xlk X.2.2.2.1 q.1 = some e ∧ ctrO Q C q.2 e.2.1
def aRv (S : AS) (g : AG) : AS := match g with
  | .inl r => (S.1 ++ [r], S.2.1, .inl (S.1.length, 0) :: S.2.2.1, S.2.2.2)
  | .inr (.inl ps) => (S.1, S.2.1, .inr (.inl ps) :: S.2.2.1, S.2.2.2)
  | .inr (.inr 1) => (S.1, S.2.1, .inr (.inr 1) :: S.2.2.1, S.2.2.2)
  | .inr (.inr _) => S
/-- cells that a call told of -/
def aCe (S : AS) : List (Nat × Nat × Int × Int) → AS
  | [] => S
  | e :: l => aCe (S.1 ++ [e.2.2], S.2.1, S.2.2.1, (e.1, e.2.1, S.1.length, 0) :: S.2.2.2) l
/-- behind a call that ended so -/
def aPo (S : AS) (as T : List AV) (c : AK) (P : AP) : Option AS := match deadE (rfA S.1 as P.1) with
  | true => none
  | false => some (aCe (aRv (rfA S.1 as P.1, S.2.1, T, tCut S.2.2.2 c.2.2.1) P.2.1) P.2.2)
def cOk (C : AC) (S : AS) (L : List (Nat × Nat × Int × Int)) : Bool := L.all fun e => match tF S.2.2.2 e.1 e.2.1 with
  | some q => (match iv S.1 q with
    | some r => rsub r e.2.2
    | none => false)
  | none => rsub (cellI C e.1 e.2.1) e.2.2
def aCa (C : AC) (Wm : List Nat) (Wf : Bool) (G : List (Nat × AK)) (dep : Nat) (S : AS) (idx : Nat) (as T : List AV) (nx : AS → Bool) : Bool := match G.find? (fun q => Nat.beq q.1 idx && (fit S.1 as q.2.2.1 && cOk C S q.2.2.2.2.2.2)) with
  | some q => Nat.ble q.2.1 dep && nsub q.2.2.2.1 Wm && (!q.2.2.2.2.1 || Wf) && tOk C S.1 S.2.2.2 && Nat.ble (aCs T) 8 && q.2.2.2.2.2.1.all fun P => match aPo S as T q.2 P with
    | some S' => nx S'
    | none => true
  | none => false
section ABSR
variable {C : AC} {Wm : List Nat} {Wf : Bool} {sh0 : List XO} {I0 : XI} {R0 R : List Int} {S S' : AS} {lc : List (Option Value)} {st : List Value} {sh : List XO} {I : XI} {J : XJ} {k : XP} {X : XX} {al : Bool} {n0 mc ms : Nat} {l : Launch} {G : List (Nat × AK)} {Q : XI → Prop}
theorem aRv_ok {g : AG} {v : Option Value} (hg : ga C Wm Wf sh0 I0 R0 R S lc st sh I) (h : rvO g v) : ∃ R', ga C Wm Wf sh0 I0 R0 R' (aRv S g) lc (v.toList ++ st) sh I := by
  unfold rvO at h
  unfold aRv
  split at h
  · obtain ⟨x, rfl, hx⟩ := h
    exact ⟨_, ga_fr hg hg.2.1.2 hx⟩
  · obtain ⟨p, hp, rfl⟩ := h
    exact ⟨R, ga_pu hg hg.2.1.2 ⟨p, hp, rfl⟩⟩
  · obtain ⟨x, rfl⟩ := h
    exact ⟨R, ga_pu hg hg.2.1.2 ⟨x, rfl⟩⟩
  · rename_i n hn
    subst h
    exact ⟨R, hg⟩
theorem aCe_ok : ∀ {L : List (Nat × Nat × Int × Int)} {S : AS} {R : List Int}, ga C Wm Wf sh0 I0 R0 R S lc st sh I → celO L I → ∃ R', ga C Wm Wf sh0 I0 R0 R' (aCe S L) lc st sh I
  | [], S, R, hg, _ => ⟨R, hg⟩
  | e :: L, S, R, hg, h => by
    have hz := h e List.mem_cons_self
    have hg2 := ga_ext hg hz
    have el : S.1.length = R.length := hg.1.1.1.symm
    refine aCe_ok (L := L) (R := R ++ [(I e.1 e.2.1).toInt]) (S := (S.1 ++ [e.2.2], S.2.1, S.2.2.1, (e.1, e.2.1, S.1.length, 0) :: S.2.2.2)) ⟨hg2.1, hg2.2.1, ⟨fun p kk q hq => ?_, fun p kk hn => ?_, hg2.2.2.1.2.2⟩, hg2.2.2.2⟩ (fun e' he' => h e' (List.mem_cons_of_mem _ he'))
    · by_cases hh : p = e.1 ∧ kk = e.2.1
      · obtain ⟨rfl, rfl⟩ := hh
        replace hq : tF ((e.1, e.2.1, S.1.length, 0) :: S.2.2.2) e.1 e.2.1 = some q := hq
        rw [tF_hd] at hq
        cases hq
        exact ⟨_, by rw [el]; exact xn_app_len _ _, by simp⟩
      · replace hq : tF ((e.1, e.2.1, S.1.length, 0) :: S.2.2.2) p kk = some q := hq
        rw [tF_ne hh] at hq
        exact hg2.2.2.1.1 p kk q hq
    · by_cases hh : p = e.1 ∧ kk = e.2.1
      · obtain ⟨rfl, rfl⟩ := hh
        replace hn : tF ((e.1, e.2.1, S.1.length, 0) :: S.2.2.2) e.1 e.2.1 = none := hn
        rw [tF_hd] at hn
        cases hn
      · replace hn : tF ((e.1, e.2.1, S.1.length, 0) :: S.2.2.2) p kk = none := hn
        rw [tF_ne hh] at hn
        exact hg2.2.2.1.2.1 p kk hn
theorem cOk_ok {L : List (Nat × Nat × Int × Int)} (h : cOk C S L = true) (hg : ga C Wm Wf sh0 I0 R0 R S lc st sh I) : celO L I := by
  intro e he
  have y := List.all_eq_true.mp h e he
  split at y
  · rename_i q eq
    split at y
    · rename_i r er
      exact rsub_el y (iv_ok hg.1.1 (hg.2.2.1.1 _ _ _ eq) er)
    · cases y
  · rename_i eq
    exact rsub_el y (hg.2.2.1.2.1 _ _ eq)
theorem aCa_ok {dep d idx : Nat} {as T : List AV} {vs r : List Value} {nx : AS → Bool} {e : Nat × XM × Nat × (Nat × Nat) × List Nat} (hQ : ∀ I', frO Wm I0 I' → Q I') (hG : ctsO Q C X G) (he : xlk X.2.2.2.1 idx = some e) (h : aCa C Wm Wf G dep S idx as T nx = true) (hg : ga C Wm Wf sh0 I0 R0 R S lc st sh I) (hv : stO R as vs) (hT : stO R T r) (hk : ∀ S', nx S' = true → gk C Wm Wf sh0 I0 R0 S' k) : xm l (d + dep) 0 0 e.2.1 vs sh I J (fun v sh' I' J' => k lc (v.toList ++ r) sh' I' J' 0 0) := by
  unfold aCa at h
  split at h
  · rename_i q eq
    have hm := List.mem_of_find?_eq_some eq
    have hq := List.find?_some eq
    simp only [Bool.and_eq_true] at hq
    have hi := Nat.eq_of_beq_eq_true hq.1
    simp only [Bool.and_eq_true] at h
    obtain ⟨⟨⟨⟨⟨h1, h2⟩, h3⟩, h4⟩, h5⟩, h6⟩ := h
    obtain ⟨e', he', hc⟩ := hG q hm
    rw [hi, he] at he'
    cases he'
    have h1 := Nat.ble_eq.mp h1
    have hiv := tOk_el h4 hg.1.1 hg.2.2.1.1 hg.2.2.1.2.1
    have y := hc l (d + (dep - q.2.1)) sh I J vs (fun v sh' I' J' => k lc (v.toList ++ r) sh' I' J' 0 0) (fit_ok hg.1.1 hv hq.2.1) (cOk_ok hq.2.2 hg) hg.2.2.2.1 hiv (hQ _ hg.2.2.1.2.2)
    rw [show d + (dep - q.2.1) + q.2.1 = d + dep by omega] at y
    refine y (fun v sh' I' J' a1 a2 a3 _ a4 ⟨P, hP, hps⟩ => ?_)
    have hE := rfA_ok hg.1.1 hv hq.2.1 hps.1
    have hall := List.all_eq_true.mp h6 P hP
    have htr : trO R (tCut S.2.2.2 q.2.2.2.1) I' := by
      intro p kk u hu
      obtain ⟨u1, u2⟩ := tCut_el hu
      rw [a4 p u2]
      exact hg.2.2.1.1 p kk u u1
    have hiv' : ivO C (tCut S.2.2.2 q.2.2.2.1) I' := fun p kk _ => a3 p kk rfl
    have hfr : frO Wm I0 I' := by
      intro p hp
      have hp2 : nmem p q.2.2.2.1 = false := by
        cases z : nmem p q.2.2.2.1 with
        | false => rfl
        | true =>
          rw [nmem_of (nsub_el h2 (nmem_el z))] at hp
          cases hp
      rw [a4 p hp2]
      exact hg.2.2.1.2.2 p hp
    have hsh : Wf = false → sh' = sh0 := by
      intro z
      rw [z] at h3
      simp only [Bool.or_false, Bool.not_eq_true'] at h3
      rw [a2 h3]
      exact hg.2.2.2.2 z
    unfold aPo at hall
    rw [dead_el hE] at hall
    dsimp only at hall
    obtain ⟨R', hga⟩ := aRv_ok (S := (rfA S.1 as P.1, S.2.1, T, tCut S.2.2.2 q.2.2.2.1)) (st := r) ⟨⟨hE, hg.1.2⟩, ⟨hg.2.1.1, hT⟩, ⟨htr, hiv', hfr⟩, a1, hsh⟩ hps.2.1
    obtain ⟨R2, hga2⟩ := aCe_ok hga hps.2.2
    exact hk _ hall _ _ _ _ _ _ hga2
  · cases h
end ABSR
end
section
-- ===== control =====
def ajmp (t : XT) (stop : List Nat) (kk : Nat → AS → Bool) (rn : XT → AS → Bool) (tg : Int) (S : AS) : Bool := match tg with
  | .ofNat g => (match xmem stop g with
    | true => kk g S
    | false => (match xdrop t g with
      | [] => false
      | e :: r => (match Nat.beq e.1 g with
        | true => rn (e :: r) S
        | false => false)))
  | _ => false
def anxt (stop : List Nat) (kk : Nat → AS → Bool) (rn : XT → AS → Bool) (es : XT) (g : Nat) (S : AS) : Bool := match es with
  | [] => false
  | e :: r => (match Nat.beq e.1 g with
    | true => (match xmem stop g with
      | true => kk g S
      | false => rn (e :: r) S)
    | false => false)
def cont (o : Option AS) (f : AS → Bool) : Bool := match o with
  | none => true
  | some S => f S
def need (o : Option AS) (f : AS → Bool) : Bool := match o with
  | none => false
  | some S => f S
def aSw (S : AS) (T : List AV) (x : Nat × Int) (df : Int) (f : Int → AS → Bool) : List (Int × Int) → Bool
  | [] => f df (aSt S T)
  | q :: ps => cont (aBr .eq S T x (0, q.1)) (f q.2) && (match aBr .ne S S.2.2.1 x (0, q.1) with
    | none => true
    | some S' => aSw S' T x df f ps)
def envX : AE → AE → Bool
  | _, [] => true
  | a :: E, b :: P => rsub a b && envX E P
  | [], _ :: _ => false
def rvX (E : AE) (a : AV) (g : AG) : Bool := match a, g with
  | .inl q, .inl r => (match iv E q with
    | some w => rsub w r
    | none => false)
  | .inr (.inl ps), .inr (.inl qs) => nsub ps qs
  | .inr (.inr n), .inr (.inr 1) => lgT (.inr (.inr n))
  | _, _ => false
def aEx (C : AC) (posts : List AP) (S : AS) (f : AG → Bool) : Bool := tOk C S.1 S.2.2.2 && posts.any fun P => envX S.1.tail P.1 && f P.2.1 && cOk C S P.2.2
def isVd (g : AG) : Bool := match g with
  | .inr (.inr 9) => true
  | _ => false
def isK (e : Nat) (o : AO) : Bool := match o with
  | .inl q => Nat.beq e (100 + q.1) && Nat.blt q.1 13
  | _ => false
def rtI (rt : Option FieldType) (E : AE) (q : Nat × Int) : Bool := match rt with
  | some .int => true
  | some .boolean => (match iv E q with
    | some w => rsub w (0, 1)
    | none => false)
  | _ => false
def rtA (rt : Option FieldType) : Bool := match rt with
  | some (.object _) => true
  | some (.array _) => true
  | _ => false
def aS (C : AC) (Wm : List Nat) (Wf : Bool) (G : List (Nat × AK)) (dep : Nat) (posts : List AP) (X : XX) (rt : Option FieldType) (t : XT) (stop : List Nat) (kk : Nat → AS → Bool) (rn : XT → AS → Bool) (pc ln : Nat) (es : XT) (i : Jvm.ClassFile.Instr) (S : AS) : Bool := match i with
  | .goto off => Nat.beq ln 3 && ajmp t stop kk rn (pc + off) S
  | .ifCond q off => Nat.beq ln 3 && decide (0 ≤ (pc : Int) + off) && (match S.2.2.1 with
    | .inl x :: T => cont (aBr q S T x (0, 0)) (ajmp t stop kk rn (pc + off)) && cont (aBr (ngC q) S T x (0, 0)) (anxt stop kk rn es (pc + 3))
    | _ => false)
  | .if_icmp q off => Nat.beq ln 3 && decide (0 ≤ (pc : Int) + off) && (match S.2.2.1 with
    | .inl y :: .inl x :: T => cont (aBr q S T x y) (ajmp t stop kk rn (pc + off)) && cont (aBr (ngC q) S T x y) (anxt stop kk rn es (pc + 3))
    | _ => false)
  | .ifnonnull off => Nat.beq ln 3 && (match S.2.2.1 with
    | .inr (.inl _) :: T => ajmp t stop kk rn (pc + off) (aSt S T)
    | .inr (.inr 2) :: T => anxt stop kk rn es (pc + 3) (aSt S T)
    | _ => false)
  | .tableswitch df lo hi offs => (match S.2.2.1 with
    | .inl x :: T => decide (hi + 1 = lo + (offs.size : Int)) && xrg (xtp lo offs.toList) && aSw S T x df (fun o => ajmp t stop kk rn (pc + o)) (xtp lo offs.toList)
    | _ => false)
  | .lookupswitch df ps => (match S.2.2.1 with
    | .inl x :: T => (ps.toList.zip (ps.toList.drop 1)).all (fun (a, next) => a.1 < next.1) && xrg ps.toList && aSw S T x df (fun o => ajmp t stop kk rn (pc + o)) ps.toList
    | _ => false)
  | .ireturn => Nat.beq ln 1 && (match S.2.2.1 with
    | [.inl q] => rtI rt S.1 q && aEx C posts S (rvX S.1 (.inl q))
    | _ => false)
  | .lreturn => Nat.beq ln 1 && decide (rt = some .long) && (match S.2.2.1 with
    | [.inr (.inr n)] => lgT (.inr (.inr n)) && aEx C posts S (rvX S.1 (.inr (.inr n)))
    | _ => false)
  | .areturn => Nat.beq ln 1 && rtA rt && (match S.2.2.1 with
    | [.inr (.inl ps)] => aEx C posts S (rvX S.1 (.inr (.inl ps)))
    | _ => false)
  | .return_ => Nat.beq ln 1 && rt.isNone && (match S.2.2.1 with
    | [] => aEx C posts S isVd
    | _ => false)
  | .invokevirtual idx => Nat.beq ln 3 && (match xlk X.2.2.2.1 idx with
    | some e => (match xn xds e.2.2.1 with
      | some q => (match atk q.2 S.2.2.1 [] with
        | some (as, .inr (.inl ps) :: T) => ((cstN ps && allO C ps (isK e.1)) || cstS ps e.1) && Nat.beq e.2.2.2.1.1 0 && Nat.beq e.2.2.2.1.2 0 && Nat.ble (aCs T) 8 && aCa C Wm Wf G dep S idx (.inr (.inl ps) :: as) T (anxt stop kk rn es (pc + 3))
        | _ => false)
      | none => false)
    | none => false)
  | .invokestatic idx => Nat.beq ln 3 && (match xlk X.2.2.2.1 idx with
    | some e => (match Nat.beq (e.1 / 100) 4 with
      | true => (match xn xds e.2.2.1 with
        | some q => (match atk q.2 S.2.2.1 [] with
          | some (as, T) => Nat.beq e.2.2.2.1.1 0 && Nat.beq e.2.2.2.1.2 0 && Nat.ble (aCs T) 8 && aCa C Wm Wf G dep S idx as T (anxt stop kk rn es (pc + 3))
          | none => false)
        | none => false)
      | false => need (aIn C Wm e.1 S) (anxt stop kk rn es (pc + 3)))
    | none => false)
  | .invokespecial _ => false
  | j => Nat.beq ln (xlen j) && need (aI C Wm Wf X j S) (anxt stop kk rn es (pc + xlen j))
section ABST
variable {C : AC} {Wm : List Nat} {Wf : Bool} {sh0 : List XO} {I0 : XI} {R0 R : List Int} {S S' : AS} {lc : List (Option Value)} {st : List Value} {sh : List XO} {I : XI} {J : XJ} {X : XX} {al : Bool} {n0 mc ms : Nat} {l : Launch} {d : Nat} {t : XT} {stop : List Nat} {Rp : XR} {K : Nat → XP} {kk : Nat → AS → Bool} {rn : XT → AS → Bool} {rn' : XT → XP} {G : List (Nat × AK)} {dep : Nat} {posts : List AP} {rt : Option FieldType} {args : List Value} {Q : XI → Prop}
/-- every way on from there is right -/
def gks (C : AC) (Wm : List Nat) (Wf : Bool) (sh0 : List XO) (I0 : XI) (R0 : List Int) (f : AS → Bool) (k : XP) : Prop := ∀ S, f S = true → gk C Wm Wf sh0 I0 R0 S k
theorem ajmp_ok (hK : ∀ g, gks C Wm Wf sh0 I0 R0 (kk g) (K g)) (hr : ∀ es, gks C Wm Wf sh0 I0 R0 (rn es) (rn' es)) {tg : Int} : gks C Wm Wf sh0 I0 R0 (ajmp t stop kk rn tg) (xjmp t stop K rn' tg) := by
  intro S h R lc st sh I J hg
  unfold ajmp at h
  unfold xjmp
  split at h
  · rename_i g
    try dsimp only
    split at h
    · rename_i e
      try rw [e]
      exact hK _ _ h _ _ _ _ _ _ hg
    · rename_i e
      try rw [e]
      try dsimp only
      split at h
      · cases h
      · rename_i e' r he
        try rw [he]
        try dsimp only
        split at h
        · rename_i e2
          try rw [e2]
          exact hr _ _ h _ _ _ _ _ _ hg
        · cases h
  · cases h
theorem anxt_ok (hK : ∀ g, gks C Wm Wf sh0 I0 R0 (kk g) (K g)) (hr : ∀ es, gks C Wm Wf sh0 I0 R0 (rn es) (rn' es)) {es : XT} {g : Nat} : gks C Wm Wf sh0 I0 R0 (anxt stop kk rn es g) (xnxt stop K rn' es g) := by
  intro S h R lc st sh I J hg
  unfold anxt at h
  unfold xnxt
  split at h
  · cases h
  · rename_i e' r
    try dsimp only
    split at h
    · rename_i e2
      refine xb_mk e2 ?_
      split at h
      · rename_i e3
        try rw [e3]
        exact hK _ _ h _ _ _ _ _ _ hg
      · rename_i e3
        try rw [e3]
        exact hr _ _ h _ _ _ _ _ _ hg
    · cases h
theorem cont_ok {o : Option AS} {f : AS → Bool} {k : XP} (hf : gks C Wm Wf sh0 I0 R0 f k) (h : cont o f = true) (hg : ∃ S', o = some S' ∧ ga C Wm Wf sh0 I0 R0 R S' lc st sh I) : k lc st sh I J 0 0 := by
  obtain ⟨S', e, hg⟩ := hg
  rw [e] at h
  exact hf _ h _ _ _ _ _ _ hg
theorem cst_num (h0 : xn R 0 = some 0) {c : Int} {x : Int32} (h : x.toInt = c) : numO R (0, c) x := ⟨0, h0, by rw [h]; simp⟩
theorem aSw_ok {x : Nat × Int} {u : Int32} {T : List AV} {r : List Value} {df : Int} {f : Int → AS → Bool} {jp : Int → XP} (hf : ∀ o, gks C Wm Wf sh0 I0 R0 (f o) (jp o)) : ∀ {ps : List (Int × Int)} {S : AS} {st : List Value}, ga C Wm Wf sh0 I0 R0 R S lc st sh I → stO R T r → numO R x u → xrg ps = true → aSw S T x df f ps = true → xsw u df (fun o => jp o lc r sh I J 0 0) ps
  | [], S, st, hg, hT, hx, hr, h => hf _ _ h _ _ _ _ _ _ (ga_st hg hT)
  | q :: ps, S, st, hg, hT, hx, hr, h => by
    unfold aSw at h
    simp only [Bool.and_eq_true] at h
    unfold xrg at hr
    rw [List.all_cons] at hr
    simp only [Bool.and_eq_true] at hr
    have hq : (Int32.ofInt q.1).toInt = q.1 := of_decide_eq_true hr.1
    have hc : numO R (0, q.1) (Int32.ofInt q.1) := cst_num hg.1.2.1 hq
    refine ⟨fun e => ?_, fun e => ?_⟩
    · exact cont_ok (hf q.2) h.1 (aBr_ok (q := .eq) hg hT hx hc (by rw [e]; exact rfl))
    · obtain ⟨S', e1, hg'⟩ := aBr_ok (q := .ne) hg hg.2.1.2 hx hc (fun z => e (Int32.toInt_inj.mp z))
      have h2 := h.2
      rw [e1] at h2
      exact aSw_ok hf hg' hT hx hr.2 h2
theorem envX_el : ∀ {E P : AE}, envX E P = true → ∀ {i : Nat} {r : Int × Int}, xn P i = some r → ∃ a, xn E i = some a ∧ rsub a r = true
  | a :: E, b :: P, h, 0, r, hr => by
    unfold envX at h
    simp only [Bool.and_eq_true] at h
    cases hr
    exact ⟨a, rfl, h.1⟩
  | a :: E, b :: P, h, i + 1, r, hr => by
    unfold envX at h
    simp only [Bool.and_eq_true] at h
    exact envX_el (E := E) (P := P) h.2 (i := i) hr
  | [], _ :: _, h, _, _, _ => by cases h
theorem xn_tail {α : Type} : ∀ {l : List α} {i : Nat}, xn l.tail i = xn l (i + 1)
  | [], _ => rfl
  | _ :: _, _ => rfl
/-- a way out is one of the told ones -/
def outO (Q : XI → Prop) (C : AC) (Wm : List Nat) (Wf : Bool) (sh0 : List XO) (I0 : XI) (posts : List AP) (args : List Value) (Rp : XR) : Prop := ∀ (v : Option Value) (sh' : List XO) (I' : XI) (J' : XJ), shO C sh' → (Wf = false → sh' = sh0) → ivO C [] I' → Q I' → frO Wm I0 I' → (∃ P, P ∈ posts ∧ pstO args P v I') → Rp v sh' I' J'
theorem aEx_ok {f : AG → Bool} {v : Option Value} (hQ : ∀ I', frO Wm I0 I' → Q I') (hO : outO Q C Wm Wf sh0 I0 posts args Rp) (hA : preO (0 :: numsV args) R0) (h : aEx C posts S f = true) (hg : ga C Wm Wf sh0 I0 R0 R S lc st sh I) (hf : ∀ g, f g = true → rvO g v) : Rp v sh I J := by
  unfold aEx at h
  simp only [Bool.and_eq_true] at h
  obtain ⟨P, hP, h2⟩ := List.any_eq_true.mp h.2
  simp only [Bool.and_eq_true] at h2
  refine hO v sh I J hg.2.2.2.1 hg.2.2.2.2 (tOk_el h.1 hg.1.1 hg.2.2.1.1 hg.2.2.1.2.1) (hQ _ hg.2.2.1.2.2) hg.2.2.1.2.2 ⟨P, hP, fun i r z hr hz => ?_, hf _ h2.1.2, cOk_ok h2.2 hg⟩
  obtain ⟨a, ha, hb⟩ := envX_el h2.1.1 hr
  rw [xn_tail] at ha
  have hz2 : xn R (i + 1) = some z := hg.1.2.2 _ _ (hA (i + 1) z hz)
  exact rsub_el hb (hg.1.1.2 _ _ _ hz2 ha)
theorem rvX_ok {a : AV} {v : Value} {g : AG} (hE : envO R S.1) (ha : avO R a (some v)) (h : rvX S.1 a g = true) : rvO g (some v) := by
  unfold rvX at h
  split at h
  · obtain ⟨x, e, hx⟩ := ha
    cases e
    split at h
    · rename_i w ew
      exact ⟨x, rfl, rsub_el h (iv_ok hE hx ew)⟩
    · cases h
  · obtain ⟨p, hp, e⟩ := ha
    cases e
    exact ⟨p, nsub_el h hp, rfl⟩
  · obtain ⟨x, rfl⟩ := avO_lg ha h
    exact ⟨x, rfl⟩
  · cases h
theorem isK_el {ps : List Nat} {e p : Nat} (hs : shO C sh) (h : allO C ps (isK e) = true) (hp : p ∈ ps) : ∃ o, xn sh p = some (.inl o) ∧ Nat.beq e (100 + o.1) = true ∧ Nat.blt o.1 13 = true := by
  obtain ⟨o, h1, h2⟩ := allO_el h hp
  unfold isK at h2
  split at h2
  · rename_i q
    simp only [Bool.and_eq_true] at h2
    obtain ⟨x, hx, ha⟩ := hs p _ h1
    unfold aoO at ha
    split at ha
    · rename_i a b e2
      cases e2
      rw [ha.1] at h2
      exact ⟨b, hx, h2.1, h2.2⟩
    · rename_i e2
      cases e2
    · exact ha.elim
  · cases h2
theorem xbud_ok {T : List AV} {r : List Value} (hT : stO R T r) (h : Nat.ble (aCs T) 8 = true) : xbud al n0 mc ms lc r sh 0 0 0 0 = true := by
  unfold xbud
  rw [xcs_ble hT h, show Nat.ble (0 + 0) mc = true from Nat.ble_eq.mpr (Nat.zero_le _), show Nat.ble (0 + 0) ms = true from Nat.ble_eq.mpr (Nat.zero_le _)]
  rfl
end ABST
end
section
-- ===== one step; stretches between stops =====
section ABSM
variable {C : AC} {Wm : List Nat} {Wf : Bool} {sh0 : List XO} {I0 : XI} {R0 R : List Int} {S S' : AS} {lc : List (Option Value)} {st : List Value} {sh : List XO} {I : XI} {J : XJ} {X : XX} {al : Bool} {n0 mc ms : Nat} {l : Launch} {d : Nat} {t : XT} {stop : List Nat} {Rp : XR} {K : Nat → XP} {kk : Nat → AS → Bool} {rn : XT → AS → Bool} {rn' : XT → XP} {G : List (Nat × AK)} {dep : Nat} {posts : List AP} {rt : Option FieldType} {args : List Value} {Q : XI → Prop}
theorem xso_mk {β : Type} {o : Option β} {f : β → Prop} {e : β} (h : o = some e) (hf : f e) : xso o f := by
  rw [h]
  exact hf
theorem need_ok {o : Option AS} {f : AS → Bool} (h : need o f = true) : ∃ S', o = some S' ∧ f S' = true := by
  unfold need at h
  split at h
  · cases h
  · rename_i S' 
    exact ⟨S', rfl, h⟩
set_option maxHeartbeats 4000000 in
theorem aS_ok (hQ : ∀ I', frO Wm I0 I' → Q I') (hG : ctsO Q C X G) (hO : outO Q C Wm Wf sh0 I0 posts args Rp) (hA : preO (0 :: numsV args) R0) (hK : ∀ g, gks C Wm Wf sh0 I0 R0 (kk g) (K g)) (hr : ∀ es, gks C Wm Wf sh0 I0 R0 (rn es) (rn' es)) {pc ln : Nat} {es : XT} {i : Jvm.ClassFile.Instr} (h : aS C Wm Wf G dep posts X rt t stop kk rn pc ln es i S = true) (hg : ga C Wm Wf sh0 I0 R0 R S lc st sh I) : xst X rt false al n0 mc ms none l (d + dep) t stop K Rp rn' pc ln es i lc st sh I J 0 0 := by
  have h0 := hg.1.2.1
  have hx0 : numO R (0, 0) 0 := cst_num h0 (by decide)
  have ez : (0 : Int32).toInt = 0 := by decide
  have hb : ∀ {c : Bool}, c = true → (c && Nat.ble 0 mc && Nat.ble 0 ms) = true := fun z => by rw [z, show Nat.ble 0 mc = true from Nat.ble_eq.mpr (Nat.zero_le _), show Nat.ble 0 ms = true from Nat.ble_eq.mpr (Nat.zero_le _)]; rfl
  have hs := hg.2.1.2
  cases i with
  | goto off =>
    dsimp only [aS] at h
    simp only [Bool.and_eq_true] at h
    exact xb_mk h.1 (ajmp_ok hK hr _ h.2 _ _ _ _ _ _ hg)
  | ifCond q off =>
    dsimp only [aS] at h
    simp only [Bool.and_eq_true] at h
    obtain ⟨⟨h1, h2⟩, h3⟩ := h
    refine xb_mk (by rw [h1, h2]; rfl) ?_
    split at h3
    · rename_i x T e
      rw [e] at hs
      obtain ⟨u, r, rfl, hx, hT⟩ := stO_int hs
      simp only [Bool.and_eq_true] at h3
      refine xc1_of (fun z => ?_) (fun z => ?_)
      · exact cont_ok (ajmp_ok hK hr) h3.1 (aBr_ok hg hT hx hx0 (by rw [ez]; exact z))
      · exact cont_ok (anxt_ok hK hr) h3.2 (aBr_ok hg hT hx hx0 (by rw [ez]; exact z))
    · cases h3
  | if_icmp q off =>
    dsimp only [aS] at h
    simp only [Bool.and_eq_true] at h
    obtain ⟨⟨h1, h2⟩, h3⟩ := h
    refine xb_mk (by rw [h1, h2]; rfl) ?_
    split at h3
    · rename_i y x T e
      rw [e] at hs
      obtain ⟨w, r1, rfl, hy, hT1⟩ := stO_int hs
      obtain ⟨u, r, rfl, hx, hT⟩ := stO_int hT1
      simp only [Bool.and_eq_true] at h3
      refine xc2_of (fun z => ?_) (fun z => ?_)
      · exact cont_ok (ajmp_ok hK hr) h3.1 (aBr_ok hg hT hx hy z)
      · exact cont_ok (anxt_ok hK hr) h3.2 (aBr_ok hg hT hx hy z)
    · cases h3
  | ifnonnull off =>
    dsimp only [aS] at h
    simp only [Bool.and_eq_true] at h
    refine xb_mk h.1 ?_
    have h3 := h.2
    split at h3
    · rename_i ps T e
      rw [e] at hs
      obtain ⟨p, r, rfl, hp, hT⟩ := stO_ref hs
      exact ajmp_ok hK hr _ h3 _ _ _ _ _ _ (ga_st hg hT)
    · rename_i T e
      rw [e] at hs
      obtain ⟨v, r, rfl, hv, hT⟩ := stO_cons hs
      cases hv
      exact anxt_ok hK hr _ h3 _ _ _ _ _ _ (ga_st hg hT)
    · cases h3
  | tableswitch df lo hi offs =>
    dsimp only [aS] at h
    split at h
    · rename_i x T e
      rw [e] at hs
      obtain ⟨u, r, rfl, hx, hT⟩ := stO_int hs
      simp only [Bool.and_eq_true] at h
      exact xb_mk (by rw [h.1.1, h.1.2]; rfl) (aSw_ok (jp := fun o => xjmp t stop K rn' (pc + o)) (fun o => ajmp_ok hK hr) hg hT hx h.1.2 h.2)
    · cases h
  | lookupswitch df ps =>
    dsimp only [aS] at h
    split at h
    · rename_i x T e
      rw [e] at hs
      obtain ⟨u, r, rfl, hx, hT⟩ := stO_int hs
      rw [Bool.and_eq_true, Bool.and_eq_true] at h
      exact xb_mk (by rw [h.1.1, h.1.2]; rfl) (aSw_ok (jp := fun o => xjmp t stop K rn' (pc + o)) (fun o => ajmp_ok hK hr) hg hT hx h.1.2 h.2)
    · cases h
  | ireturn =>
    dsimp only [aS] at h
    simp only [Bool.and_eq_true] at h
    refine xb_mk (hb h.1) ?_
    have h3 := h.2
    split at h3
    · rename_i q e
      rw [e] at hs
      obtain ⟨u, r, rfl, hx, hT⟩ := stO_int hs
      cases r with
      | cons _ _ => exact hT.elim
      | nil =>
        simp only [Bool.and_eq_true] at h3
        have hR : Rp (some (.int u)) sh I J := aEx_ok hQ hO hA h3.2 hg (fun g hgg => rvX_ok (a := .inl q) hg.1.1 ⟨u, rfl, hx⟩ hgg)
        have h4 := h3.1
        show xrt rt u _
        unfold rtI at h4
        unfold xrt
        split at h4
        · exact hR
        · split at h4
          · rename_i w ew
            have hi := rsub_el h4 (iv_ok hg.1.1 hx ew)
            have i1 := hi.1
            have i2 := hi.2
            dsimp only at i1 i2
            refine ⟨?_, hR⟩
            rcases (show u.toInt = 0 ∨ u.toInt = 1 by omega) with z | z
            · exact Or.inl (Int32.toInt_inj.mp z)
            · exact Or.inr (Int32.toInt_inj.mp z)
          · cases h4
        · cases h4
    · cases h3
  | lreturn =>
    dsimp only [aS] at h
    simp only [Bool.and_eq_true] at h
    obtain ⟨⟨h1, h2⟩, h3⟩ := h
    refine xb_mk (by rw [hb h1, h2]; rfl) ?_
    split at h3
    · rename_i n e
      rw [e] at hs
      obtain ⟨v, r, rfl, hv, hT⟩ := stO_cons hs
      cases r with
      | cons _ _ => exact hT.elim
      | nil =>
        simp only [Bool.and_eq_true] at h3
        have hR : Rp (some v) sh I J := aEx_ok hQ hO hA h3.2 hg (fun g hgg => rvX_ok hg.1.1 hv hgg)
        obtain ⟨x, rfl⟩ := avO_lg hv h3.1
        exact hR
    · cases h3
  | areturn =>
    dsimp only [aS] at h
    simp only [Bool.and_eq_true] at h
    obtain ⟨⟨h1, h2⟩, h3⟩ := h
    refine xb_mk (hb h1) ?_
    split at h3
    · rename_i ps e
      rw [e] at hs
      obtain ⟨p, r, rfl, hp, hT⟩ := stO_ref hs
      cases r with
      | cons _ _ => exact hT.elim
      | nil =>
        have hR : Rp (some (.ref p)) sh I J := aEx_ok hQ hO hA h3 hg (fun g hgg => rvX_ok (a := .inr (.inl ps)) hg.1.1 ⟨p, hp, rfl⟩ hgg)
        show xra rt _
        unfold rtA at h2
        unfold xra
        split at h2
        · exact hR
        · exact hR
        · cases h2
    · cases h3
  | return_ =>
    dsimp only [aS] at h
    simp only [Bool.and_eq_true] at h
    obtain ⟨⟨h1, h2⟩, h3⟩ := h
    refine xb_mk (by rw [hb h1, h2]; rfl) ?_
    split at h3
    · rename_i e
      rw [e] at hs
      cases st with
      | cons _ _ => exact hs.elim
      | nil =>
        refine aEx_ok hQ hO hA h3 hg (fun g hgg => ?_)
        unfold isVd at hgg
        split at hgg
        · rfl
        · cases hgg
    · cases h3
  | invokevirtual idx =>
    dsimp only [aS] at h
    simp only [Bool.and_eq_true] at h
    refine xb_mk h.1 ?_
    have h3 := h.2
    unfold xcv
    split at h3
    · rename_i e he
      refine xso_mk he ?_
      split at h3
      · rename_i q hq
        refine xso_mk hq ?_
        split at h3
        · rename_i as ps T ht
          obtain ⟨br, hbr, hv1, hv2⟩ := atk_ok hs (show stO R [] [] from trivial) ht
          refine xso_mk hbr ?_
          obtain ⟨vs, rest⟩ := br
          dsimp only at hv1 hv2
          obtain ⟨p, r, rfl, hp, hT⟩ := stO_ref hv2
          simp only [Bool.and_eq_true] at h3
          obtain ⟨⟨⟨⟨c1, c2⟩, c3⟩, c4⟩, c5⟩ := h3
          have y := aCa_ok (d := d) (l := l) (J := J) (vs := .ref p :: vs) hQ hG he c5 hg ⟨⟨p, hp, rfl⟩, hv1⟩ hT (anxt_ok hK hr)
          obtain ⟨e1, e2, e3, ⟨m1, m2⟩, e5⟩ := e
          have z1 := Nat.eq_of_beq_eq_true c2
          have z2 := Nat.eq_of_beq_eq_true c3
          dsimp only at z1 z2
          subst z1 z2
          unfold xr1
          dsimp only
          simp only [Bool.or_eq_true, Bool.and_eq_true] at c1
          rcases c1 with ⟨c0, c1⟩ | c1
          · obtain ⟨o, ho, ho1, ho2⟩ := isK_el hg.2.2.2.1 c1 hp
            rw [(cstN_el c0 hp).2]
            dsimp only
            rw [ho]
            dsimp only
            exact xb_mk (by rw [ho1, ho2, xbud_ok hT c4]; rfl) y
          · obtain ⟨g1, ⟨e', g2⟩, g3⟩ := cstS_el c1 hp
            rw [g1]
            dsimp only
            rw [g2]
            exact xb_mk (by rw [g3, xbud_ok hT c4]; rfl) y
        · cases h3
      · cases h3
    · cases h3
  | invokestatic idx =>
    dsimp only [aS] at h
    simp only [Bool.and_eq_true] at h
    refine xb_mk h.1 ?_
    have h3 := h.2
    split at h3
    · rename_i e he
      refine xso_mk he ?_
      split at h3
      · rename_i eb
        try rw [eb]
        try dsimp only
        unfold xcst
        split at h3
        · rename_i q hq
          refine xso_mk hq ?_
          split at h3
          · rename_i as T ht
            obtain ⟨br, hbr, hv1, hv2⟩ := atk_ok hs (show stO R [] [] from trivial) ht
            refine xso_mk hbr ?_
            obtain ⟨vs, rest⟩ := br
            dsimp only at hv1 hv2
            simp only [Bool.and_eq_true] at h3
            obtain ⟨⟨⟨c2, c3⟩, c4⟩, c5⟩ := h3
            have y := aCa_ok (d := d) (l := l) (J := J) hQ hG he c5 hg hv1 hv2 (anxt_ok hK hr)
            obtain ⟨e1, e2, e3, ⟨m1, m2⟩, e5⟩ := e
            have z1 := Nat.eq_of_beq_eq_true c2
            have z2 := Nat.eq_of_beq_eq_true c3
            dsimp only at z1 z2
            subst z1 z2
            exact xb_mk (xbud_ok hv2 c4) y
          · cases h3
        · cases h3
      · rename_i eb
        try rw [eb]
        try dsimp only
        obtain ⟨S', e1, e2⟩ := need_ok h3
        exact aIn_ok he e1 hg (anxt_ok hK hr S' e2)
    · cases h3
  | invokespecial idx => cases h
  | _ =>
    dsimp only [aS] at h
    rw [Bool.and_eq_true] at h
    obtain ⟨S', e1, e2⟩ := need_ok h.2
    exact xb_mk h.1 (aI_ok e1 hg (anxt_ok hK hr S' e2))
end ABSM
end
section
-- ===== stops, measures, a method =====
def aS0 (C : AC) (Wm : List Nat) (Wf : Bool) (G : List (Nat × AK)) (dep : Nat) (posts : List AP) (X : XX) (rt : Option FieldType) (t : XT) (stop : List Nat) (kk : Nat → AS → Bool) (rn : XT → AS → Bool) (es : XT) (S : AS) : Bool := match es with
  | [] => false
  | e :: r => aS C Wm Wf G dep posts X rt t stop kk rn e.1 e.2.2 r e.2.1 S
def aW (C : AC) (Wm : List Nat) (Wf : Bool) (G : List (Nat × AK)) (dep : Nat) (posts : List AP) (X : XX) (rt : Option FieldType) (t : XT) (stop : List Nat) (kk : Nat → AS → Bool) (n : Nat) : XT → AS → Bool := Nat.rec (fun _ _ => false) (fun _ rn => aS0 C Wm Wf G dep posts X rt t stop kk rn) n
def aN (C : AC) (Wm : List Nat) (Wf : Bool) (G : List (Nat × AK)) (dep : Nat) (posts : List AP) (X : XX) (rt : Option FieldType) (t : XT) (stop : List Nat) (kk : Nat → AS → Bool) (pc : Nat) (S : AS) : Bool := match xdrop t pc with
  | [] => false
  | e :: r => (match Nat.beq e.1 pc with
    | true => aW C Wm Wf G dep posts X rt t stop kk 1200 (e :: r) S
    | false => false)
def srcA (S : AS) (s : Nat × Nat × Nat) : Option (Nat × Int) := match s.1 with
  | 0 => (match xn S.2.1 s.2.1 with
    | some (.inl q) => some q
    | _ => none)
  | 1 => (match xn S.2.2.1 s.2.1 with
    | some (.inl q) => some q
    | _ => none)
  | _ => tF S.2.2.2 s.2.1 s.2.2
def sigA (S : AS) : List (Nat × Nat × Nat) → Option (List (Nat × Int))
  | [] => some []
  | s :: l => match srcA S s, sigA S l with
    | some q, some r => some (q :: r)
    | _, _ => none
def idS : Nat → Nat → List (Nat × Int)
  | _, 0 => []
  | i, n + 1 => (i, 0) :: idS (i + 1) n
def sgE (E : AE) : List (Nat × Int) → AE → Bool
  | [], [] => true
  | q :: s, r :: F => (match iv E q with
    | some a => rsub a r
    | none => false) && sgE E s F
  | _, _ => false
def nuM (sig : List (Nat × Int)) (q' q : Nat × Int) : Bool := match xn sig q'.1 with
  | some s => Nat.beq s.1 q.1 && decide (s.2 + q'.2 = q.2)
  | none => false
def avM (sig : List (Nat × Int)) (a' a : AV) : Bool := match a', a with
  | .inr (.inr 0), _ => true
  | .inl q', .inl q => nuM sig q' q
  | .inr (.inl ps'), .inr (.inl ps) => nsub ps ps'
  | .inr (.inr 1), .inr (.inr n) => lgT (.inr (.inr n))
  | .inr (.inr 2), .inr (.inr 2) => true
  | _, _ => false
def lsM (sig : List (Nat × Int)) : List AV → List AV → Bool
  | [], _ => true
  | a' :: L', a :: L => avM sig a' a && lsM sig L' L
  | _ :: _, [] => false
def tsM (sig : List (Nat × Int)) : List AV → List AV → Bool
  | [], [] => true
  | a' :: L', a :: L => avM sig a' a && tsM sig L' L
  | _, _ => false
def trM (sig : List (Nat × Int)) (T' T : AT) : Bool := T'.all fun e => match tF T e.1 e.2.1 with
  | some q => nuM sig e.2.2 q
  | none => false
def trD (C : AC) (E : AE) (T' T : AT) : Bool := T.all fun e => (match tF T' e.1 e.2.1 with
  | some _ => true
  | none => (match iv E e.2.2 with
    | some r => rsub r (cellI C e.1 e.2.1)
    | none => false))
-- linear forms
def dot : List Int → List Int → Int
  | a :: as, b :: bs => a * b + dot as bs
  | _, _ => 0
def addAt : List Int → Nat → Int → List Int
  | [], _, _ => []
  | a :: l, 0, x => (a + x) :: l
  | a :: l, n + 1, x => a :: addAt l n x
def ubL : List Int → AE → Int
  | d :: ds, r :: E => (match ile 0 d with
    | true => d * r.2
    | false => d * r.1) + ubL ds E
  | _, _ => 0
def dSig : List Int → List (Nat × Int) → List Int → List Int
  | k :: ks, s :: ss, D => dSig ks ss (addAt D s.1 k)
  | _, _, D => D
def kSig : List Int → List (Nat × Int) → Int
  | k :: ks, s :: ss => k * s.2 + kSig ks ss
  | _, _ => 0
def padN : List Int → Nat → List Int
  | _, 0 => []
  | [], n + 1 => 0 :: padN [] n
  | a :: l, n + 1 => (-a) :: padN l n
def muV (u : Int × List Int) (R : List Int) : Int := u.1 + dot u.2 R
/-- the measure u' after sig is below u before -/
def muL (E : AE) (sig : List (Nat × Int)) (u' u : Int × List Int) : Bool := ile (u'.1 - u.1 + kSig u'.2 sig + ubL (dSig u'.2 sig (padN u.2 E.length)) E) (-1)
def valS (R : List Int) (sig : List (Nat × Int)) : List Int := sig.map fun s => (xn R s.1).getD 0 + s.2
/-- the abstract state S is one of A's; m numbers are the arguments' -/
def aMat (C : AC) (m : Nat) (A : AA) (S : AS) (f : List (Nat × Int) → Bool) : Bool := match sigA S A.2.2.2.2.1 with
  | some s => sgE S.1 (idS 0 m ++ s) A.1 && lsM (idS 0 m ++ s) A.2.1 S.2.1 && tsM (idS 0 m ++ s) A.2.2.1 S.2.2.1 && trM (idS 0 m ++ s) A.2.2.2.1 S.2.2.2 && trD C S.1 A.2.2.2.1 S.2.2.2 && f (idS 0 m ++ s)
  | none => false
def kkA (C : AC) (m : Nat) (anns : List (Nat × AA)) (u : Option (Int × List Int)) (g : Nat) (S : AS) : Bool := match xlk anns g with
  | some A => aMat C m A S fun sig => (match u with
    | some u => muL S.1 sig A.2.2.2.2.2 u
    | none => true)
  | none => false
theorem dot_addAt : ∀ {D R : List Int} {v : Nat} {x z : Int}, D.length = R.length → xn R v = some z → dot (addAt D v x) R = dot D R + x * z
  | a :: D, b :: R, 0, x, z, _, h => by
    cases h
    show (a + x) * b + dot D R = a * b + dot D R + x * b
    rw [Int.add_mul]
    omega
  | a :: D, b :: R, v + 1, x, z, hl, h => by
    have ih := dot_addAt (D := D) (R := R) (v := v) (x := x) (z := z) (by simpa using hl) h
    show a * b + dot (addAt D v x) R = a * b + dot D R + x * z
    rw [ih]
    omega
  | [], [], _, _, _, _, h => by cases h
  | [], _ :: _, _, _, _, hl, _ => by cases hl
  | _ :: _, [], _, _, _, hl, _ => by cases hl
theorem addAt_len : ∀ {D : List Int} {v : Nat} {x : Int}, (addAt D v x).length = D.length
  | [], _, _ => rfl
  | _ :: _, 0, _ => rfl
  | a :: D, v + 1, x => by
    show (addAt D v x).length + 1 = D.length + 1
    rw [addAt_len]
theorem padN_len : ∀ {l : List Int} {n : Nat}, (padN l n).length = n
  | [], 0 => rfl
  | _ :: _, 0 => rfl
  | [], n + 1 => by
    show (padN [] n).length + 1 = n + 1
    rw [padN_len]
  | a :: l, n + 1 => by
    show (padN l n).length + 1 = n + 1
    rw [padN_len]
theorem padN_nil : ∀ {R : List Int}, dot (padN [] R.length) R = 0
  | [] => rfl
  | b :: R => by
    show 0 * b + dot (padN [] R.length) R = 0
    rw [padN_nil]
    omega
theorem dot_pad : ∀ {l R0 R : List Int}, l.length ≤ R0.length → (∀ i z, xn R0 i = some z → xn R i = some z) → dot (padN l R.length) R = - dot l R0
  | [], R0, R, _, _ => by
    rw [padN_nil]
    show (0 : Int) = -0
    rfl
  | a :: l, b :: R0, c :: R, hl, h => by
    have ih := dot_pad (l := l) (R0 := R0) (R := R) (by simpa using hl) (fun i z hz => h (i + 1) z hz)
    have h0 := h 0 b rfl
    cases h0
    show -a * b + dot (padN l R.length) R = -(a * b + dot l R0)
    rw [ih, Int.neg_mul]
    omega
  | a :: l, [], _, hl, _ => by cases hl
  | a :: l, b :: R0, [], _, h => by
    have := h 0 b rfl
    cases this
theorem ubL_ok : ∀ {D : List Int} {E : AE} {R : List Int}, R.length = E.length → (∀ i z r, xn R i = some z → xn E i = some r → inI r z) → dot D R ≤ ubL D E
  | [], _, [], _, _ => Int.le_refl _
  | [], _, _ :: _, _, _ => Int.le_refl _
  | d :: D, [], [], _, _ => Int.le_refl _
  | d :: D, r :: E, z :: R, hl, h => by
    have ih := ubL_ok (D := D) (E := E) (R := R) (by simpa using hl) (fun i y q h1 h2 => h (i + 1) y q h1 h2)
    have h0 := h 0 z r rfl rfl
    have h1 : d * z ≤ (match ile 0 d with
      | true => d * r.2
      | false => d * r.1) := by
      split
      · rename_i e
        exact Int.mul_le_mul_of_nonneg_left h0.2 (ile_el e)
      · rename_i e
        have e := of_decide_eq_false e
        exact Int.mul_le_mul_of_nonpos_left (by omega) h0.1
    show d * z + dot D R ≤ _ + ubL D E
    exact Int.add_le_add h1 ih
  | d :: D, [], _ :: _, hl, _ => by cases hl
  | d :: D, _ :: _, [], hl, _ => by cases hl
theorem dSig_ok : ∀ {ks : List Int} {sig : List (Nat × Int)} {D R : List Int}, D.length = R.length → (∀ s, s ∈ sig → ∃ z, xn R s.1 = some z) → dot ks (valS R sig) = dot (dSig ks sig D) R - dot D R + kSig ks sig
  | [], [], D, R, _, _ => by
    show (0 : Int) = dot D R - dot D R + 0
    omega
  | [], _ :: _, D, R, _, _ => by
    show (0 : Int) = dot D R - dot D R + 0
    omega
  | _ :: _, [], D, R, _, _ => by
    show (0 : Int) = dot D R - dot D R + 0
    omega
  | k :: ks, s :: sig, D, R, hl, h => by
    obtain ⟨z, hz⟩ := h s List.mem_cons_self
    have ih := dSig_ok (ks := ks) (sig := sig) (D := addAt D s.1 k) (R := R) (by rw [addAt_len]; exact hl) (fun q hq => h q (List.mem_cons_of_mem _ hq))
    rw [dot_addAt hl hz] at ih
    show k * ((xn R s.1).getD 0 + s.2) + dot ks (valS R sig) = dot (dSig ks sig (addAt D s.1 k)) R - dot D R + (k * s.2 + kSig ks sig)
    rw [ih, hz]
    show k * (z + s.2) + _ = _
    rw [Int.mul_add]
    omega
theorem muL_ok {E : AE} {R R0 : List Int} {sig : List (Nat × Int)} {u' u : Int × List Int} (hE : envO R E) (h : muL E sig u' u = true) (hs : ∀ s, s ∈ sig → ∃ z, xn R s.1 = some z) (hl : u.2.length ≤ R0.length) (hp : preO R0 R) : muV u' (valS R sig) < muV u R0 := by
  have h := ile_el h
  have e1 := dSig_ok (ks := u'.2) (sig := sig) (D := padN u.2 E.length) (R := R) (by rw [padN_len, hE.1]) hs
  have e2 := dot_pad (l := u.2) (R0 := R0) (R := R) hl hp
  rw [← hE.1] at e1 h
  have e3 := ubL_ok (D := dSig u'.2 sig (padN u.2 R.length)) (E := E) (R := R) hE.1 (fun i z r h1 h2 => hE.2 i z r h1 h2)
  unfold muV
  omega
end
section
-- ===== a method's check is right =====
def stA (A : AA) : AS := (A.1, A.2.1, A.2.2.1, A.2.2.2.1)
def muOk (N : Nat) (A : AA) : Bool := Nat.ble A.2.2.2.2.2.2.length A.1.length && ile (ubL (A.2.2.2.2.2.2.map fun x => -x) A.1) A.2.2.2.2.2.1 && ile (A.2.2.2.2.2.1 + ubL A.2.2.2.2.2.2 A.1 + 1) N
def aArgs : Nat → List AG → List AV
  | _, [] => []
  | j, .inl _ :: gs => .inl (j, 0) :: aArgs (j + 1) gs
  | j, .inr (.inl ps) :: gs => .inr (.inl ps) :: aArgs j gs
  | j, .inr (.inr _) :: gs => .inr (.inr 1) :: .inr (.inr 0) :: aArgs j gs
def aInts : List AG → AE
  | [] => []
  | .inl r :: gs => r :: aInts gs
  | .inr _ :: gs => aInts gs
def aPad : Nat → List AV → List AV
  | 0, l => l
  | n + 1, [] => .inr (.inr 0) :: aPad n []
  | n + 1, a :: l => a :: aPad n l
def preT : Nat → List (Nat × Nat × Int × Int) → AT
  | _, [] => []
  | j, e :: l => (e.1, e.2.1, j, 0) :: preT (j + 1) l
def aChk (QP : List Nat) (C : AC) (c : AK) (G : List (Nat × AK)) (X : XX) (M : XM) (t : XT) (anns : List (Nat × AA)) (skip : List Nat) (N : Nat) : Bool := (QP.all fun p => !(nmem p c.2.2.1)) && Nat.ble 1 c.1 && Nat.ble (aArgs 1 c.2.1).length M.2.2.1 && aN C c.2.2.1 c.2.2.2.1 G (c.1 - 1) c.2.2.2.2.1 X M.2.2.2 t (anns.map fun q => q.1) (kkA C ((aInts c.2.1).length + 1) anns none) 0 ((0, 0) :: (aInts c.2.1 ++ c.2.2.2.2.2.map fun e => e.2.2), aPad M.2.2.1 (aArgs 1 c.2.1), [], preT ((aInts c.2.1).length + 1) c.2.2.2.2.2) && anns.all fun q => muOk N q.2 && (nmem q.1 skip || aN C c.2.2.1 c.2.2.2.1 G (c.1 - 1) c.2.2.2.2.1 X M.2.2.2 t (anns.map fun q => q.1) (kkA C ((aInts c.2.1).length + 1) anns (some q.2.2.2.2.2.2)) q.1 (stA q.2))
theorem iv_okZ {R : List Int} {E : AE} {q : Nat × Int} {z : Int} {r : Int × Int} (hE : envO R E) (hz : xn R q.1 = some z) (h : iv E q = some r) : inI r (z + q.2) := by
  unfold iv at h
  split at h
  · rename_i r' e
    cases h
    have y := hE.2 _ _ _ hz e
    exact ⟨Int.add_le_add_right y.1 _, Int.add_le_add_right y.2 _⟩
  · cases h
theorem iv_has {R : List Int} {E : AE} {q : Nat × Int} {r : Int × Int} (hE : envO R E) (h : iv E q = some r) : ∃ z, xn R q.1 = some z := by
  unfold iv at h
  split at h
  · rename_i r' e
    exact xn_some (by rw [hE.1]; exact xn_lt e)
  · cases h
theorem sgE_ok {R : List Int} {E : AE} (hE : envO R E) : ∀ {sig : List (Nat × Int)} {F : AE}, sgE E sig F = true → envO (valS R sig) F ∧ ∀ s, s ∈ sig → ∃ z, xn R s.1 = some z
  | [], [], _ => ⟨⟨rfl, fun v z r h => by cases h⟩, fun s hs => by cases hs⟩
  | q :: sig, r :: F, h => by
    unfold sgE at h
    simp only [Bool.and_eq_true] at h
    obtain ⟨ih1, ih2⟩ := sgE_ok hE h.2
    have h1 := h.1
    split at h1
    · rename_i a ea
      obtain ⟨z, hz⟩ := iv_has hE ea
      have hi := rsub_el h1 (iv_okZ hE hz ea)
      refine ⟨⟨?_, fun v y w hv hw => ?_⟩, fun s hs => ?_⟩
      · show (valS R sig).length + 1 = F.length + 1
        rw [ih1.1]
      · cases v with
        | zero =>
          cases hw
          have e : xn (valS R (q :: sig)) 0 = some ((xn R q.1).getD 0 + q.2) := rfl
          rw [e, hz] at hv
          cases hv
          exact hi
        | succ v => exact ih1.2 v y w hv hw
      · rcases List.mem_cons.mp hs with e | e
        · rw [e]
          exact ⟨z, hz⟩
        · exact ih2 s e
    · cases h1
  | [], _ :: _, h => by cases h
  | _ :: _, [], h => by cases h
theorem valS_get {R : List Int} : ∀ {sig : List (Nat × Int)} {v : Nat} {s : Nat × Int} {z : Int}, xn sig v = some s → xn R s.1 = some z → xn (valS R sig) v = some (z + s.2)
  | q :: sig, 0, s, z, h, hz => by
    cases h
    show some ((xn R q.1).getD 0 + q.2) = some (z + q.2)
    rw [hz]
    rfl
  | q :: sig, v + 1, s, z, h, hz => valS_get (sig := sig) (v := v) h hz
theorem nuM_ok {R : List Int} {sig : List (Nat × Int)} {q' q : Nat × Int} {x : Int32} (h : nuM sig q' q = true) (hx : numO R q x) : numO (valS R sig) q' x := by
  unfold nuM at h
  split at h
  · rename_i s es
    simp only [Bool.and_eq_true] at h
    obtain ⟨z, h1, h2⟩ := hx
    have e1 := Nat.eq_of_beq_eq_true h.1
    have e2 := of_decide_eq_true h.2
    rw [← e1] at h1
    refine ⟨_, valS_get es h1, ?_⟩
    rw [h2, ← e2]
    omega
  · cases h
theorem avM_ok {R : List Int} {sig : List (Nat × Int)} {a' a : AV} {o : Option Value} (h : avM sig a' a = true) (ha : avO R a o) : avO (valS R sig) a' o := by
  unfold avM at h
  split at h
  · trivial
  · obtain ⟨x, e, hx⟩ := ha
    exact ⟨x, e, nuM_ok h hx⟩
  · obtain ⟨p, hp, e⟩ := ha
    exact ⟨p, nsub_el h hp, e⟩
  · rename_i n
    unfold lgT lgA at h
    dsimp only at h
    simp only [Bool.or_eq_true] at h
    rcases h with z | z <;> have z := Nat.eq_of_beq_eq_true z <;> subst z
    · exact ha
    · obtain ⟨x, e, _⟩ := ha
      exact ⟨x, e⟩
  · exact ha
  · cases h
theorem lsM_ok {sig : List (Nat × Int)} : ∀ {L' L : List AV}, lsM sig L' L = true → ∀ {i : Nat} {a' : AV}, xn L' i = some a' → ∃ a, xn L i = some a ∧ avM sig a' a = true
  | a' :: L', a :: L, h, 0, b, hb => by
    unfold lsM at h
    simp only [Bool.and_eq_true] at h
    cases hb
    exact ⟨a, rfl, h.1⟩
  | a' :: L', a :: L, h, i + 1, b, hb => by
    unfold lsM at h
    simp only [Bool.and_eq_true] at h
    exact lsM_ok (L' := L') (L := L) h.2 (i := i) hb
  | _ :: _, [], h, _, _, _ => by cases h
theorem tsM_ok {R : List Int} {sig : List (Nat × Int)} : ∀ {L' L : List AV} {st : List Value}, tsM sig L' L = true → stO R L st → stO (valS R sig) L' st
  | [], [], st, _, h => by
    cases st with
    | nil => trivial
    | cons _ _ => exact h.elim
  | a' :: L', a :: L, v :: st, h, hs => by
    unfold tsM at h
    simp only [Bool.and_eq_true] at h
    exact ⟨avM_ok h.1 hs.1, tsM_ok h.2 hs.2⟩
  | a' :: L', a :: L, [], _, hs => hs.elim
  | [], _ :: _, _, h, _ => by cases h
  | _ :: _, [], _, h, _ => by cases h
theorem idS_get : ∀ {n j i : Nat} {s : List (Nat × Int)}, i < n → xn (idS j n ++ s) i = some (j + i, 0)
  | n + 1, j, 0, s, _ => rfl
  | n + 1, j, i + 1, s, h => by
    have y := idS_get (n := n) (j := j + 1) (i := i) (s := s) (by omega)
    rw [show j + (i + 1) = j + 1 + i by omega]
    exact y
section ABSQ
variable {C : AC} {Wm : List Nat} {Wf : Bool} {sh0 : List XO} {I0 : XI} {R0 R : List Int} {S S' : AS} {lc : List (Option Value)} {st : List Value} {sh : List XO} {I : XI} {J : XJ} {X : XX} {al : Bool} {n0 mc ms : Nat} {l : Launch} {d : Nat} {t : XT} {stop : List Nat} {Rp : XR} {K : Nat → XP} {kk : Nat → AS → Bool} {G : List (Nat × AK)} {dep : Nat} {posts : List AP} {rt : Option FieldType} {args : List Value} {Q : XI → Prop}
theorem aMat_ok {m : Nat} {A : AA} {f : List (Nat × Int) → Bool} (h : aMat C (m + 1) A S f = true) (hg : ga C Wm Wf sh0 I0 R0 R S lc st sh I) : ∃ sig, f sig = true ∧ ga C Wm Wf sh0 I0 (valS R sig) (valS R sig) (stA A) lc st sh I ∧ (∀ s, s ∈ sig → ∃ z, xn R s.1 = some z) ∧ (∀ i z, i < m + 1 → xn R i = some z → xn (valS R sig) i = some z) := by
  unfold aMat at h
  split at h
  · rename_i s es
    simp only [Bool.and_eq_true] at h
    obtain ⟨⟨⟨⟨⟨h1, h2⟩, h3⟩, h4⟩, h5⟩, h6⟩ := h
    obtain ⟨k1, k2⟩ := sgE_ok hg.1.1 h1
    have kid : ∀ i z, i < m + 1 → xn R i = some z → xn (valS R (idS 0 (m + 1) ++ s)) i = some z := by
      intro i z hi hz
      have y := valS_get (R := R) (idS_get (n := m + 1) (j := 0) (s := s) hi) (by rw [Nat.zero_add]; exact hz)
      rw [y]
      simp
    refine ⟨_, h6, ⟨⟨k1, kid 0 0 (by omega) hg.1.2.1, fun i z hz => hz⟩, ⟨fun i a' ha' => ?_, tsM_ok h3 hg.2.1.2⟩, ⟨fun p kk q' hq' => ?_, fun p kk hn => ?_, hg.2.2.1.2.2⟩, hg.2.2.2⟩, k2, kid⟩
    · obtain ⟨a, ha, hm⟩ := lsM_ok h2 ha'
      obtain ⟨o, ho, hao⟩ := hg.2.1.1 i a ha
      exact ⟨o, ho, avM_ok hm hao⟩
    · have y := List.all_eq_true.mp h4 _ (tF_mem hq')
      dsimp only at y
      split at y
      · rename_i q eq
        exact nuM_ok y (hg.2.2.1.1 p kk q eq)
      · cases y
    · replace hn : tF A.2.2.2.1 p kk = none := hn
      cases e : tF S.2.2.2 p kk with
      | none => exact hg.2.2.1.2.1 p kk e
      | some q =>
        have y := List.all_eq_true.mp h5 _ (tF_mem e)
        dsimp only at y
        rw [hn] at y
        dsimp only at y
        split at y
        · rename_i r er
          exact rsub_el y (iv_ok hg.1.1 (hg.2.2.1.1 p kk q e) er)
        · cases y
  · cases h
theorem aW_ok (hQ : ∀ I', frO Wm I0 I' → Q I') (hG : ctsO Q C X G) (hO : outO Q C Wm Wf sh0 I0 posts args Rp) (hA : preO (0 :: numsV args) R0) (hK : ∀ g, gks C Wm Wf sh0 I0 R0 (kk g) (K g)) : ∀ (n : Nat) (es : XT), gks C Wm Wf sh0 I0 R0 (aW C Wm Wf G dep posts X rt t stop kk n es) (xwp X rt false al n0 mc ms none l (d + dep) t stop K Rp n es) := by
  intro n
  induction n with
  | zero =>
    intro es S h
    cases h
  | succ n ih =>
    intro es S h R lc st sh I J hg
    replace h : aS0 C Wm Wf G dep posts X rt t stop kk (aW C Wm Wf G dep posts X rt t stop kk n) es S = true := h
    show xst0 X rt false al n0 mc ms none l (d + dep) t stop K Rp (xwp X rt false al n0 mc ms none l (d + dep) t stop K Rp n) es lc st sh I J 0 0
    unfold aS0 at h
    unfold xst0
    split at h
    · cases h
    · rename_i e r
      exact aS_ok hQ hG hO hA hK ih h hg
theorem aN_ok (hQ : ∀ I', frO Wm I0 I' → Q I') (hG : ctsO Q C X G) (hO : outO Q C Wm Wf sh0 I0 posts args Rp) (hA : preO (0 :: numsV args) R0) (hK : ∀ g, gks C Wm Wf sh0 I0 R0 (kk g) (K g)) {pc : Nat} : gks C Wm Wf sh0 I0 R0 (aN C Wm Wf G dep posts X rt t stop kk pc) (xrn X rt false al n0 mc ms none l (d + dep) t stop Rp K pc) := by
  intro S h R lc st sh I J hg
  unfold aN at h
  unfold xrn
  split at h
  · cases h
  · rename_i e r he
    try rw [he]
    try dsimp only
    split at h
    · rename_i e2
      exact xb_mk e2 (aW_ok hQ hG hO hA hK 1200 (e :: r) S h R lc st sh I J hg)
    · cases h
/-- from a stop on all goes well to the next ones -/
def segO (C : AC) (Wm : List Nat) (Wf : Bool) (sh0 : List XO) (I0 : XI) (X : XX) (rt : Option FieldType) (al : Bool) (n0 mc ms : Nat) (l : Launch) (D : Nat) (t : XT) (stop : List Nat) (Rp : XR) (args : List Value) (anns : List (Nat × AA)) (m : Nat) (q : Nat × AA) : Prop := ∀ (K : Nat → XP) (R : List Int) (lc : List (Option Value)) (st : List Value) (sh : List XO) (I : XI) (J : XJ), (∀ g, gks C Wm Wf sh0 I0 R (kkA C (m + 1) anns (some q.2.2.2.2.2.2) g) (K g)) → ga C Wm Wf sh0 I0 R R (stA q.2) lc st sh I → preO (0 :: numsV args) R → xrn X rt false al n0 mc ms none l D t stop Rp K q.1 lc st sh I J 0 0
theorem run_ok {anns : List (Nat × AA)} {m N : Nat} (hm : (numsV args).length = m) (hall : ∀ q, q ∈ anns → muOk N q.2 = true ∧ segO C Wm Wf sh0 I0 X rt al n0 mc ms l (d + dep) t stop Rp args anns m q) : ∀ (n g : Nat) (A : AA) (R : List Int) (lc : List (Option Value)) (st : List Value) (sh : List XO) (I : XI) (J : XJ), xlk anns g = some A → ga C Wm Wf sh0 I0 R R (stA A) lc st sh I → preO (0 :: numsV args) R → muV A.2.2.2.2.2 R < n → xrun X rt false al n0 mc ms none l (d + dep) t stop Rp n g lc st sh I J 0 0 := by
  intro n
  induction n with
  | zero =>
    intro g A R lc st sh I J hA hg hp hmu
    exfalso
    have h1 := (hall _ (xlk_mem hA)).1
    unfold muOk at h1
    simp only [Bool.and_eq_true] at h1
    have h2 := ile_el h1.1.2
    have h3 := ubL_ok (D := A.2.2.2.2.2.2.map fun x => -x) (E := A.1) (R := R) hg.1.1.1 (fun i z r a b => hg.1.1.2 i z r a b)
    have h4 : ∀ (D R : List Int), dot (D.map fun x => -x) R = - dot D R := by
      intro D
      induction D with
      | nil =>
        intro R
        show (0 : Int) = -0
        rfl
      | cons a D ih =>
        intro R
        cases R with
        | nil =>
          show (0 : Int) = -0
          rfl
        | cons b R =>
          show -a * b + dot (D.map fun x => -x) R = -(a * b + dot D R)
          rw [ih R, Int.neg_mul]
          omega
    rw [h4] at h3
    unfold muV at hmu
    omega
  | succ n ih =>
    intro g A R lc st sh I J hA hg hp hmu
    have hq := hall _ (xlk_mem hA)
    refine hq.2 _ R lc st sh I J (fun g' S' hS' R' lc' st' sh' I' J' hg' => ?_) hg hp
    unfold kkA at hS'
    split at hS'
    · rename_i A' hA'
      obtain ⟨sig, f1, f2, f3, f4⟩ := aMat_ok hS' hg'
      have h1 := hq.1
      unfold muOk at h1
      simp only [Bool.and_eq_true] at h1
      have hlt := muL_ok (R0 := R) hg'.1.1 f1 f3 (by rw [hg.1.1.1]; exact Nat.ble_eq.mp h1.1.1) hg'.1.2.2
      refine ih g' A' (valS R' sig) lc' st' sh' I' J' hA' f2 (fun i z hz => ?_) (by dsimp only at hlt; omega)
      have hi := xn_lt hz
      simp only [List.length_cons, hm] at hi
      exact f4 i z hi (hg'.1.2.2 i z (hp i z hz))
    · cases hS'
-- the entry
theorem agO_len : ∀ {gs : List AG} {as : List Value}, agO gs as → (numsV as).length = (aInts gs).length
  | [], [], _ => rfl
  | .inl r :: gs, .int x :: as, h => by
    have := agO_len h.2
    show (numsV as).length + 1 = (aInts gs).length + 1
    omega
  | .inr (.inl ps) :: gs, .ref p :: as, h => agO_len (gs := gs) (as := as) h.2
  | .inr (.inr n) :: gs, .long x :: as, h => agO_len (gs := gs) (as := as) h
  | [], _ :: _, h => by cases h
  | .inl _ :: _, [], h => by cases h
  | .inr (.inl _) :: _, [], h => by cases h
  | .inr (.inr _) :: _, [], h => by cases h
theorem agO_in : ∀ {gs : List AG} {as : List Value}, agO gs as → ∀ {i : Nat} {z : Int} {r : Int × Int}, xn (numsV as) i = some z → xn (aInts gs) i = some r → inI r z
  | .inl r :: gs, .int x :: as, h, 0, z, w, h1, h2 => by
    cases h1
    cases h2
    exact h.1
  | .inl r :: gs, .int x :: as, h, i + 1, z, w, h1, h2 => agO_in (gs := gs) (as := as) h.2 (i := i) h1 h2
  | .inr (.inl ps) :: gs, .ref p :: as, h, i, z, w, h1, h2 => agO_in (gs := gs) (as := as) h.2 (i := i) h1 h2
  | .inr (.inr n) :: gs, .long x :: as, h, i, z, w, h1, h2 => agO_in (gs := gs) (as := as) h (i := i) h1 h2
  | [], [], _, _, _, _, h1, _ => by cases h1
  | [], _ :: _, h, _, _, _, _, _ => by cases h
  | .inl _ :: _, [], h, _, _, _, _, _ => by cases h
  | .inr (.inl _) :: _, [], h, _, _, _, _, _ => by cases h
  | .inr (.inr _) :: _, [], h, _, _, _, _, _ => by cases h
theorem args_ok {R : List Int} : ∀ {gs : List AG} {as : List Value} {j : Nat}, agO gs as → (∀ i z, xn (numsV as) i = some z → xn R (j + i) = some z) → (xargs as).length = (aArgs j gs).length ∧ loO R (aArgs j gs) (xargs as)
  | [], [], j, _, _ => ⟨rfl, fun i a h => by cases h⟩
  | .inl r :: gs, .int x :: as, j, h, hr => by
    obtain ⟨k1, k2⟩ := args_ok (j := j + 1) h.2 (fun i z hz => by rw [show j + 1 + i = j + (i + 1) by omega]; exact hr (i + 1) z hz)
    refine ⟨by show (xargs as).length + 1 = (aArgs (j + 1) gs).length + 1; rw [k1], fun i a ha => ?_⟩
    cases i with
    | zero =>
      cases ha
      exact ⟨_, rfl, x, rfl, x.toInt, hr 0 _ rfl, by simp⟩
    | succ i => exact k2 i a ha
  | .inr (.inl ps) :: gs, .ref p :: as, j, h, hr => by
    obtain ⟨k1, k2⟩ := args_ok (j := j) h.2 hr
    refine ⟨by show (xargs as).length + 1 = (aArgs j gs).length + 1; rw [k1], fun i a ha => ?_⟩
    cases i with
    | zero =>
      cases ha
      exact ⟨_, rfl, p, h.1, rfl⟩
    | succ i => exact k2 i a ha
  | .inr (.inr n) :: gs, .long x :: as, j, h, hr => by
    obtain ⟨k1, k2⟩ := args_ok (gs := gs) (as := as) (j := j) h hr
    refine ⟨by show (xargs as).length + 1 + 1 = (aArgs j gs).length + 1 + 1; rw [k1], fun i a ha => ?_⟩
    match i, ha with
    | 0, ha =>
      cases ha
      exact ⟨_, rfl, x, rfl⟩
    | 1, ha =>
      cases ha
      exact ⟨_, rfl, trivial⟩
    | i + 2, ha => exact k2 i a ha
  | [], _ :: _, _, h, _ => by cases h
  | .inl _ :: _, [], _, h, _ => by cases h
  | .inr (.inl _) :: _, [], _, h, _ => by cases h
  | .inr (.inr _) :: _, [], _, h, _ => by cases h
theorem pad_ok {R : List Int} : ∀ {n : Nat} {L : List AV} {lc : List (Option Value)}, lc.length = L.length → loO R L lc → loO R (aPad n L) (xpad n lc)
  | 0, L, lc, _, h => h
  | n + 1, [], [], _, h => by
    have ih := pad_ok (n := n) (L := []) (lc := []) rfl h
    intro i a ha
    cases i with
    | zero =>
      cases ha
      exact ⟨none, rfl, trivial⟩
    | succ i => exact ih i a ha
  | n + 1, b :: L, o :: lc, hl, h => by
    have ih := pad_ok (n := n) (L := L) (lc := lc) (by simpa using hl) (fun i a ha => h (i + 1) a ha)
    intro i a ha
    cases i with
    | zero => exact h 0 a ha
    | succ i => exact ih i a ha
  | n + 1, [], _ :: _, hl, _ => by cases hl
  | n + 1, _ :: _, [], hl, _ => by cases hl
end ABSQ
def qpO (Q : XI → Prop) (QP : List Nat) : Prop := ∀ I I' : XI, (∀ p, p ∈ QP → I' p = I p) → Q I → Q I'
theorem preT_ok {I : XI} : ∀ {L : List (Nat × Nat × Int × Int)} {j : Nat} {R : List Int}, (∀ i e, xn L i = some e → xn R (j + i) = some (I e.1 e.2.1).toInt) → trO R (preT j L) I
  | [], j, R, _ => fun p k q hq => by cases hq
  | e :: L, j, R, h => by
    intro p k q hq
    unfold preT at hq
    by_cases hh : p = e.1 ∧ k = e.2.1
    · obtain ⟨rfl, rfl⟩ := hh
      rw [tF_hd] at hq
      cases hq
      exact ⟨_, h 0 e rfl, by simp⟩
    · rw [tF_ne hh] at hq
      exact preT_ok (L := L) (j := j + 1) (fun i e' he' => by rw [show j + 1 + i = j + (i + 1) by omega]; exact h (i + 1) e' he') p k q hq
theorem xn_appR {α : Type} : ∀ {l m : List α} {i : Nat}, xn (l ++ m) (l.length + i) = xn m i
  | [], m, i => by simp
  | _ :: l, m, i => by
    rw [List.length_cons, show l.length + 1 + i = (l.length + i) + 1 by omega]
    exact xn_appR (l := l)
theorem xn_appL {α : Type} {l m : List α} {i : Nat} (h : i < l.length) : xn (l ++ m) i = xn l i := by
  obtain ⟨a, ha⟩ := xn_some h
  rw [ha]
  exact xn_app ha
theorem xn_map {α β : Type} {f : α → β} : ∀ {l : List α} {i : Nat}, xn (l.map f) i = (xn l i).map f
  | [], _ => rfl
  | _ :: _, 0 => rfl
  | _ :: l, i + 1 => xn_map (l := l)
/-- a contract that the check has passed holds -/
theorem chk_okS {Q : XI → Prop} {QP : List Nat} {C : AC} {c : AK} {G : List (Nat × AK)} {X : XX} {M : XM} {t : XT} {anns : List (Nat × AA)} (skip : List Nat) (N : Nat) (hX : xxP X) (hpl : plainName X.1 = true) (hcls : M.1.cls = X.1) (ht : xtOK M.2.1 t = true) (hq : qpO Q QP) (hG : ctsO Q C X G) (hsk : ∀ q, q ∈ anns → nmem q.1 skip = true → ∀ (l : Launch) (d : Nat) (sh : List XO) (I : XI) (as : List Value) (Rp : XR), agO c.2.1 as → (∀ I', frO c.2.2.1 I I' → Q I') → outO Q C c.2.2.1 c.2.2.2.1 sh I c.2.2.2.2.1 as Rp → segO C c.2.2.1 c.2.2.2.1 sh I X M.2.2.2 (!(Nat.beq 0 0)) sh.length 0 0 l (d + (c.1 - 1)) t (anns.map fun q => q.1) Rp as anns (aInts c.2.1).length q) (h : aChk QP C c G X M t anns skip N = true) : ctrO Q C c M := by
  intro l d sh I J as Rp ha hce hs hi hQ0 hR
  unfold aChk at h
  simp only [Bool.and_eq_true] at h
  obtain ⟨⟨⟨⟨h0, h1⟩, h2⟩, h3⟩, h4⟩ := h
  have hQ : ∀ I', frO c.2.2.1 I I' → Q I' := by
    intro I' hf
    refine hq I I' (fun p hp => hf p ?_) hQ0
    have y := List.all_eq_true.mp h0 p hp
    simp only [Bool.not_eq_true'] at y
    exact y
  have h1 := Nat.ble_eq.mp h1
  have hO : outO Q C c.2.2.1 c.2.2.2.1 sh I c.2.2.2.2.1 as Rp := hR
  have hlen := agO_len ha
  have hall : ∀ q, q ∈ anns → muOk N q.2 = true ∧ segO C c.2.2.1 c.2.2.2.1 sh I X M.2.2.2 (!(Nat.beq 0 0)) sh.length 0 0 l (d + (c.1 - 1)) t (anns.map fun q => q.1) Rp as anns (aInts c.2.1).length q := by
    intro q hq
    have y := List.all_eq_true.mp h4 q hq
    simp only [Bool.and_eq_true, Bool.or_eq_true] at y
    refine ⟨y.1, ?_⟩
    rcases y.2 with z | z
    · exact hsk q hq z l d sh I as Rp ha hQ hO
    · intro K R lc st sh' I' J' hK hg hp
      exact aN_ok (d := d) (Rp := Rp) hQ hG hO hp hK (stA q.2) z R lc st sh' I' J' hg
  have hRv : ∀ i z, xn (numsV as) i = some z → xn (0 :: (numsV as ++ c.2.2.2.2.2.map fun e => (I e.1 e.2.1).toInt)) (1 + i) = some z := fun i z hz => by
    rw [Nat.add_comm]
    exact xn_app (l := numsV as) hz
  obtain ⟨k1, k2⟩ := args_ok (R := 0 :: (numsV as ++ c.2.2.2.2.2.map fun e => (I e.1 e.2.1).toInt)) (j := 1) ha hRv
  have hpr : preO (0 :: numsV as) (0 :: (numsV as ++ c.2.2.2.2.2.map fun e => (I e.1 e.2.1).toInt)) := fun i z hz => xn_app (l := 0 :: numsV as) hz
  have htr : trO (0 :: (numsV as ++ c.2.2.2.2.2.map fun e => (I e.1 e.2.1).toInt)) (preT ((aInts c.2.1).length + 1) c.2.2.2.2.2) I := by
    refine preT_ok (fun i e he => ?_)
    rw [← hlen, show (numsV as).length + 1 + i = ((numsV as).length + i) + 1 by omega]
    show xn (numsV as ++ c.2.2.2.2.2.map fun e => (I e.1 e.2.1).toInt) ((numsV as).length + i) = _
    rw [xn_appR, xn_map, he]
    rfl
  have hg : ga C c.2.2.1 c.2.2.2.1 sh I (0 :: (numsV as ++ c.2.2.2.2.2.map fun e => (I e.1 e.2.1).toInt)) (0 :: (numsV as ++ c.2.2.2.2.2.map fun e => (I e.1 e.2.1).toInt)) ((0, 0) :: (aInts c.2.1 ++ c.2.2.2.2.2.map fun e => e.2.2), aPad M.2.2.1 (aArgs 1 c.2.1), [], preT ((aInts c.2.1).length + 1) c.2.2.2.2.2) (xpad M.2.2.1 (xargs as)) [] sh I := by
    refine ⟨⟨⟨by simp [hlen], fun v z r hv hr => ?_⟩, rfl, fun i z hz => hz⟩, ⟨pad_ok k1 k2, trivial⟩, ⟨htr, fun p kk _ => hi p kk rfl, fun p _ => rfl⟩, hs, fun _ => rfl⟩
    cases v with
    | zero =>
      cases hv
      cases hr
      exact ⟨Int.le_refl _, Int.le_refl _⟩
    | succ v =>
      replace hv : xn (numsV as ++ c.2.2.2.2.2.map fun e => (I e.1 e.2.1).toInt) v = some z := hv
      replace hr : xn (aInts c.2.1 ++ c.2.2.2.2.2.map fun e => e.2.2) v = some r := hr
      by_cases hlt : v < (numsV as).length
      · rw [xn_appL hlt] at hv
        rw [xn_appL (by rw [← hlen]; exact hlt)] at hr
        exact agO_in ha hv hr
      · obtain ⟨i, rfl⟩ : ∃ i, v = (numsV as).length + i := ⟨v - (numsV as).length, by omega⟩
        rw [xn_appR, xn_map] at hv
        rw [hlen, xn_appR, xn_map] at hr
        cases e : xn c.2.2.2.2.2 i with
        | none =>
          rw [e] at hv
          cases hv
        | some w =>
          rw [e] at hv hr
          cases hv
          cases hr
          refine hce w ?_
          rw [xn_eq] at e
          exact List.mem_of_getElem? e
  rw [show d + c.1 = (d + (c.1 - 1)) + 1 by omega]
  refine xm_ofK N (X := X) (t := t) (stop := anns.map fun q => q.1) (ini := false) hX hpl hcls ht (fun z => by cases z) (by rw [k1]; exact Nat.ble_eq.mp h2) (fun K hK => ?_)
  refine aN_ok (d := d) (Rp := Rp) (R0 := 0 :: (numsV as ++ c.2.2.2.2.2.map fun e => (I e.1 e.2.1).toInt)) hQ hG hO hpr (fun g' S' hS' R' lc' st' sh' I' J' hg' => ?_) _ h3 _ _ _ _ _ _ hg
  unfold kkA at hS'
  split at hS'
  · rename_i A' hA'
    obtain ⟨sig, f1, f2, f3, f4⟩ := aMat_ok hS' hg'
    refine hK _ _ _ _ _ _ _ _ (run_ok (d := d) (Rp := Rp) (N := N) hlen hall N g' A' (valS R' sig) lc' st' sh' I' J' hA' f2 (fun i z hz => ?_) ?_)
    · have hi := xn_lt hz
      simp only [List.length_cons, hlen] at hi
      exact f4 i z hi (hg'.1.2.2 i z (hpr i z hz))
    · have y := (hall _ (xlk_mem hA')).1
      unfold muOk at y
      simp only [Bool.and_eq_true] at y
      have y2 := ile_el y.2
      have y3 := ubL_ok (D := A'.2.2.2.2.2.2) (E := A'.1) (R := valS R' sig) f2.1.1.1 (fun i z r a b => f2.1.1.2 i z r a b)
      unfold muV
      omega
  · cases hS'
theorem chk_ok {Q : XI → Prop} {QP : List Nat} {C : AC} {c : AK} {G : List (Nat × AK)} {X : XX} {M : XM} {t : XT} {anns : List (Nat × AA)} (N : Nat) (hX : xxP X) (hpl : plainName X.1 = true) (hcls : M.1.cls = X.1) (ht : xtOK M.2.1 t = true) (hq : qpO Q QP) (hG : ctsO Q C X G) (h : aChk QP C c G X M t anns [] N = true) : ctrO Q C c M := chk_okS [] N hX hpl hcls ht hq hG (fun q hq hz => by cases hz) h
end
section
-- ===== tables of contracts =====
theorem ctsO_nil {Q : XI → Prop} {C : AC} {X : XX} : ctsO Q C X [] := fun _ h => by cases h
theorem ctsO_cons {Q : XI → Prop} {C : AC} {X : XX} {G : List (Nat × AK)} {idx : Nat} {c : AK} {e : Nat × XM × Nat × (Nat × Nat) × List Nat} (he : xlk X.2.2.2.1 idx = some e) (hc : ctrO Q C c e.2.1) (h : ctsO Q C X G) : ctsO Q C X ((idx, c) :: G) := by
  intro q hq
  rcases List.mem_cons.mp hq with z | z
  · rw [z]
    exact ⟨e, he, hc⟩
  · exact h q z
end
section
-- ===== a stop whose stretch is right for each value of one number =====
def enS (A : AA) (vi : Nat) (z : Int) : AS := (A.1.set vi (z, z), A.2.1, A.2.2.1, A.2.2.2.1)
theorem seg_enum {Q : XI → Prop} {G : List (Nat × AK)} {dep : Nat} {posts : List AP} {C : AC} {Wm : List Nat} {Wf : Bool} {sh0 : List XO} {I0 : XI} {X : XX} {rt : Option FieldType} {al : Bool} {n0 mc ms : Nat} {l : Launch} {D : Nat} {t : XT} {stop : List Nat} {Rp : XR} {args : List Value} {anns : List (Nat × AA)} {m : Nat} {q : Nat × AA} (hQ : ∀ I', frO Wm I0 I' → Q I') (hG : ctsO Q C X G) (hO : outO Q C Wm Wf sh0 I0 posts args Rp) (vi n : Nat) (lo : Int) (hE : xn q.2.1 vi = some (lo, lo + n)) (h : ∀ k, k ≤ n → aN C Wm Wf G dep posts X rt t stop (kkA C (m + 1) anns (some q.2.2.2.2.2.2)) q.1 (enS q.2 vi (lo + (k : Int))) = true) : segO C Wm Wf sh0 I0 X rt al n0 mc ms l (D + dep) t stop Rp args anns m q := by
  intro K R lc st sh I J hK hg hp
  have hv : ∃ z, xn R vi = some z ∧ lo ≤ z ∧ z ≤ lo + n := by
    have hl := hg.1.1.1
    have hlt : vi < q.2.1.length := by
      rw [xn_eq] at hE
      exact (List.getElem?_eq_some_iff.mp hE).1
    have hlt2 : vi < R.length := by
      rw [hl]
      exact hlt
    have hz : xn R vi = some R[vi] := by rw [xn_eq]; exact List.getElem?_eq_getElem hlt2
    have hi := hg.1.1.2 vi _ _ hz hE
    exact ⟨_, hz, hi.1, hi.2⟩
  obtain ⟨z, hz, h1, h2⟩ := hv
  have y := h (z - lo).toNat (by omega)
  rw [show lo + ((z - lo).toNat : Int) = z by omega] at y
  have hg' : ga C Wm Wf sh0 I0 R R (enS q.2 vi z) lc st sh I := by
    refine ⟨⟨⟨?_, fun v w r hw hr => ?_⟩, hg.1.2⟩, hg.2⟩
    · show R.length = (q.2.1.set vi (z, z)).length
      rw [List.length_set]
      exact hg.1.1.1
    · replace hr : xn (q.2.1.set vi (z, z)) v = some r := hr
      rw [xn_eq] at hr
      by_cases e : v = vi
      · subst e
        rw [hz] at hw
        cases hw
        rw [List.getElem?_set_self (by rw [xn_eq] at hE; exact (List.getElem?_eq_some_iff.mp hE).1)] at hr
        cases hr
        exact ⟨Int.le_refl _, Int.le_refl _⟩
      · rw [List.getElem?_set_ne (Ne.symm e), ← xn_eq] at hr
        exact hg.1.1.2 v w r hw hr
  exact aN_ok (d := D) (Rp := Rp) hQ hG hO hp hK (enS q.2 vi z) y R lc st sh I J hg'
end
section
-- ===== what else is so everywhere: the orders of the texts can be worked =====
/-- from order k on, with h numbers in the pile, the reference comes to the end in n orders -/
def stW (I : XI) : Nat → Nat → Nat → Prop
  | 0, _, _ => False
  | n + 1, k, h => k < 1600 ∧ (I 77 k = 408 ∨ ((I 77 k = 400 ∨ (I 77 k = 401 ∧ 0 ≤ (I 78 k).toInt ∧ (I 78 k).toInt ≤ 10)) ∧ h < 200 ∧ stW I n (k + 1) (h + 1)) ∨ ((I 77 k = 402 ∨ I 77 k = 403 ∨ I 77 k = 405) ∧ 1 ≤ h ∧ stW I n (k + 1) h) ∨ (¬ (I 77 k = 408 ∨ I 77 k = 400 ∨ I 77 k = 401 ∨ I 77 k = 402 ∨ I 77 k = 403 ∨ I 77 k = 405) ∧ 2 ≤ h ∧ stW I n (k + 1) (h - 1)))
/-- the same, and never at or behind lim -/
def stL (I : XI) (lim : Nat) : Nat → Nat → Nat → Prop
  | 0, _, _ => False
  | n + 1, k, h => k < lim ∧ (I 77 k = 408 ∨ ((I 77 k = 400 ∨ (I 77 k = 401 ∧ 0 ≤ (I 78 k).toInt ∧ (I 78 k).toInt ≤ 10)) ∧ h < 200 ∧ stL I lim n (k + 1) (h + 1)) ∨ ((I 77 k = 402 ∨ I 77 k = 403 ∨ I 77 k = 405) ∧ 1 ≤ h ∧ stL I lim n (k + 1) h) ∨ (¬ (I 77 k = 408 ∨ I 77 k = 400 ∨ I 77 k = 401 ∨ I 77 k = 402 ∨ I 77 k = 403 ∨ I 77 k = 405) ∧ 2 ≤ h ∧ stL I lim n (k + 1) (h - 1)))
theorem stL_W {I : XI} {lim : Nat} (hl : lim ≤ 1600) : ∀ (n k h : Nat), stL I lim n k h → stW I n k h
  | 0, _, _, z => z
  | n + 1, k, h, z => by
    unfold stL at z
    unfold stW
    refine ⟨by have := z.1; omega, ?_⟩
    rcases z.2 with y | y | y | y
    · exact Or.inl y
    · exact Or.inr (Or.inl ⟨y.1, y.2.1, stL_W hl n _ _ y.2.2⟩)
    · exact Or.inr (Or.inr (Or.inl ⟨y.1, y.2.1, stL_W hl n _ _ y.2.2⟩))
    · exact Or.inr (Or.inr (Or.inr ⟨y.1, y.2.1, stL_W hl n _ _ y.2.2⟩))
theorem stL_keep {I I' : XI} {lim lo : Nat} (h : ∀ i, lo ≤ i → i < lim → I' 77 i = I 77 i ∧ I' 78 i = I 78 i) : ∀ (n k h : Nat), lo ≤ k → stL I lim n k h → stL I' lim n k h
  | 0, _, _, _, z => z
  | n + 1, k, h0, hk, z => by
    unfold stL at z ⊢
    have e := h k hk z.1
    rw [e.1, e.2]
    refine ⟨z.1, ?_⟩
    rcases z.2 with y | y | y | y
    · exact Or.inl y
    · exact Or.inr (Or.inl ⟨y.1, y.2.1, stL_keep h n _ _ (by omega) y.2.2⟩)
    · exact Or.inr (Or.inr (Or.inl ⟨y.1, y.2.1, stL_keep h n _ _ (by omega) y.2.2⟩))
    · exact Or.inr (Or.inr (Or.inr ⟨y.1, y.2.1, stL_keep h n _ _ (by omega) y.2.2⟩))
def QQ (I : XI) : Prop := ∀ t j : Nat, t < 4 → (j : Int) < (I 71 t).toInt → (I 72 (24 * t + j)).toInt ≤ 4 → ∃ f : Nat, (I 73 (24 * t + j)).toInt = (f : Int) ∧ 400 * t ≤ f ∧ stL I (400 * t + 400) 1601 f 0
def QPl : List Nat := [71, 72, 73, 77, 78]
theorem stW_keep {I I' : XI} (h1 : I' 77 = I 77) (h2 : I' 78 = I 78) : ∀ (n k h : Nat), stW I n k h → stW I' n k h
  | 0, _, _, z => z
  | n + 1, k, h, z => by
    unfold stW at z ⊢
    rw [h1, h2]
    refine ⟨z.1, ?_⟩
    rcases z.2 with y | y | y | y
    · exact Or.inl y
    · exact Or.inr (Or.inl ⟨y.1, y.2.1, stW_keep h1 h2 n _ _ y.2.2⟩)
    · exact Or.inr (Or.inr (Or.inl ⟨y.1, y.2.1, stW_keep h1 h2 n _ _ y.2.2⟩))
    · exact Or.inr (Or.inr (Or.inr ⟨y.1, y.2.1, stW_keep h1 h2 n _ _ y.2.2⟩))
theorem qq_ok : qpO QQ QPl := by
  intro I I' h hq t j ht hj hw
  have e1 := h 71 (by decide)
  have e2 := h 72 (by decide)
  have e3 := h 73 (by decide)
  rw [e1] at hj
  rw [e2] at hw
  rw [e3]
  obtain ⟨f, hf, hl, hs⟩ := hq t j ht hj hw
  exact ⟨f, hf, hl, stL_keep (lo := 0) (fun i _ _ => ⟨congrFun (h 77 (by decide)) i, congrFun (h 78 (by decide)) i⟩) _ _ _ (Nat.zero_le _) hs⟩
end
section
def CFs : List (Nat × AO) := [(0, .inl (11, [some [12], some [23], some [26], some [28], some [1], some [3], some [4], none, some [30], some [35], some [18], some [5], none, none, some [6], some [36], some [40], some [41]])), (1, .inl (6, [some [2], none, none])), (2, .inr (0, 2139, [])), (3, .inr (0, 8, [])), (4, .inr (0, 8, [])), (5, .inr (3, 4, [some [47], some [52], some [57], some [62]])), (6, .inl (1, [some [7], some [8], some [10], some [11], none, none, none, none, none, none])), (7, .inr (0, 69, [])), (8, .inl (6, [some [9], none, none])), (9, .inr (0, 2139, [])), (10, .inr (0, 8, [])), (11, .inr (0, 8, [])), (12, .inl (9, [some [13], some [14], some [15], some [16], some [17], none, none, none])), (13, .inr (0, 8, [])), (14, .inr (0, 8, [])), (15, .inr (0, 8, [])), (16, .inr (0, 4, [])), (17, .inr (0, 4, [])), (18, .inl (8, [some [19], none, some [20], some [21], some [22], none])), (19, .inr (0, 300, [])), (20, .inr (0, 5, [])), (21, .inr (0, 5, [])), (22, .inr (0, 96, [])), (23, .inl (2, [some [12], some [18, 47, 52, 57, 62], some [24], some [25]])), (24, .inr (0, 11, [])), (25, .inr (2, 64, [])), (26, .inl (10, [some [27], some [12], some [23]])), (27, .inr (0, 69, [])), (28, .inl (10, [some [29], some [12], some [23]])), (29, .inr (0, 69, [])), (30, .inl (7, [some [31], none, some [32], some [33], some [34], none])), (31, .inr (0, 300, [])), (32, .inr (0, 301, [])), (33, .inr (0, 301, [])), (34, .inr (0, 301, [])), (35, .inl (5, [some [30], some [18, 47, 52, 57, 62], none, none, none, none, none, none, none])), (36, .inl (3, [some [28], some [37], some [38], some [39], none, none, none, none, none])), (37, .inr (0, 276, [])), (38, .inr (0, 4, [])), (39, .inr (0, 4, [])), (40, .inl (0, [some [23], none, none, none, none, none, none, none])), (41, .inl (4, [some [26], some [42], none, some [43], some [44], some [45], some [46], none])), (42, .inr (0, 6, [])), (43, .inr (0, 4, [])), (44, .inr (0, 4, [])), (45, .inr (0, 6, [])), (46, .inr (0, 6, [])), (47, .inl (8, [some [48], none, some [49], some [50], some [51], none])), (48, .inr (0, 300, [])), (49, .inr (0, 5, [])), (50, .inr (0, 5, [])), (51, .inr (0, 96, [])), (52, .inl (8, [some [53], none, some [54], some [55], some [56], none])), (53, .inr (0, 300, [])), (54, .inr (0, 5, [])), (55, .inr (0, 5, [])), (56, .inr (0, 96, [])), (57, .inl (8, [some [58], none, some [59], some [60], some [61], none])), (58, .inr (0, 300, [])), (59, .inr (0, 5, [])), (60, .inr (0, 5, [])), (61, .inr (0, 96, [])), (62, .inl (8, [some [63], none, some [64], some [65], some [66], none])), (63, .inr (0, 300, [])), (64, .inr (0, 5, [])), (65, .inr (0, 5, [])), (66, .inr (0, 96, [])), (67, .inl (12, [some [68], some [69], some [70], none, none, none, some [71], some [72], some [73], some [74], some [75], some [76], some [77], some [78], none, none, none, none, none, none, none, none, none, some [79], some [80], none, some [81], some [82], none, some [83], none, none, some [84], some [85], some [86], some [87], some [88], none, some [89], some [90], some [91], some [92], some [93], some [94], some [95], some [96], some [97], some [98]])), (68, .inr (0, 2200, [])), (69, .inr (0, 2200, [])), (70, .inr (1, 300, [])), (71, .inr (0, 4, [])), (72, .inr (0, 96, [])), (73, .inr (0, 96, [])), (74, .inr (0, 96, [])), (75, .inr (0, 96, [])), (76, .inr (0, 96, [])), (77, .inr (0, 1600, [])), (78, .inr (0, 1600, [])), (79, .inr (0, 40, [])), (80, .inr (0, 41, [])), (81, .inr (0, 80, [])), (82, .inr (0, 80, [])), (83, .inr (0, 40, [])), (84, .inr (0, 24, [])), (85, .inr (0, 24, [])), (86, .inr (0, 24, [])), (87, .inr (0, 24, [])), (88, .inr (0, 24, [])), (89, .inr (0, 400, [])), (90, .inr (0, 400, [])), (91, .inr (0, 11, [])), (92, .inr (2, 200, [])), (93, .inr (0, 69, [])), (94, .inr (0, 4, [])), (95, .inr (0, 4, [])), (96, .inr (0, 6, [])), (97, .inr (0, 6, [])), (98, .inr (0, 6, []))]
def CFc : List (Nat × Nat × Int × Int) := [(0, 7, (.ofNat 0, .ofNat 8)), (0, 12, (.ofNat 0, .ofNat 4)), (0, 13, (.negSucc 0, .ofNat 3)), (1, 1, (.ofNat 0, .ofNat 30)), (1, 2, (.ofNat 0, .ofNat 30)), (6, 4, (.ofNat 0, .ofNat 8)), (6, 5, (.ofNat 0, .ofNat 8)), (6, 6, (.ofNat 0, .ofNat 4)), (6, 7, (.ofNat 0, .ofNat 4)), (6, 8, (.ofNat 0, .ofNat 4)), (6, 9, (.negSucc 0, .ofNat 3)), (8, 1, (.ofNat 0, .ofNat 30)), (8, 2, (.ofNat 0, .ofNat 30)), (12, 5, (.ofNat 0, .ofNat 8)), (12, 6, (.ofNat 0, .ofNat 4)), (12, 7, (.ofNat 0, .ofNat 4)), (18, 1, (.ofNat 0, .ofNat 300)), (18, 5, (.ofNat 0, .ofNat 24)), (30, 1, (.ofNat 0, .ofNat 300)), (30, 5, (.ofNat 0, .ofNat 301)), (41, 2, (.ofNat 0, .ofNat 6)), (47, 1, (.ofNat 0, .ofNat 300)), (47, 5, (.ofNat 0, .ofNat 24)), (52, 1, (.ofNat 0, .ofNat 300)), (52, 5, (.ofNat 0, .ofNat 24)), (57, 1, (.ofNat 0, .ofNat 300)), (57, 5, (.ofNat 0, .ofNat 24)), (62, 1, (.ofNat 0, .ofNat 300)), (62, 5, (.ofNat 0, .ofNat 24)), (67, 3, (.ofNat 0, .ofNat 300)), (68, 0, (.ofNat 0, .ofNat 8)), (68, 1, (.ofNat 0, .ofNat 4)), (68, 2, (.ofNat 0, .ofNat 4)), (68, 3, (.ofNat 0, .ofNat 4)), (68, 4, (.negSucc 0, .ofNat 3)), (68, 5, (.ofNat 0, .ofNat 30)), (68, 6, (.ofNat 0, .ofNat 8)), (68, 34, (.ofNat 0, .ofNat 999)), (68, 35, (.ofNat 0, .ofNat 999)), (68, 36, (.ofNat 0, .ofNat 999)), (68, 37, (.ofNat 0, .ofNat 999)), (68, 88, (.ofNat 0, .ofNat 999)), (68, 89, (.ofNat 0, .ofNat 999)), (68, 90, (.ofNat 0, .ofNat 999)), (68, 91, (.ofNat 0, .ofNat 999)), (68, 92, (.ofNat 0, .ofNat 999)), (68, 93, (.ofNat 0, .ofNat 999)), (68, 94, (.ofNat 0, .ofNat 999)), (68, 95, (.ofNat 0, .ofNat 999)), (68, 96, (.ofNat 0, .ofNat 999)), (68, 97, (.ofNat 0, .ofNat 999)), (68, 98, (.ofNat 0, .ofNat 999)), (68, 99, (.ofNat 0, .ofNat 999)), (69, 0, (.ofNat 0, .ofNat 8)), (69, 1, (.ofNat 0, .ofNat 4)), (69, 2, (.ofNat 0, .ofNat 4)), (69, 3, (.ofNat 0, .ofNat 4)), (69, 4, (.negSucc 0, .ofNat 3)), (69, 5, (.ofNat 0, .ofNat 30)), (69, 6, (.ofNat 0, .ofNat 8)), (69, 34, (.ofNat 0, .ofNat 999)), (69, 35, (.ofNat 0, .ofNat 999)), (69, 36, (.ofNat 0, .ofNat 999)), (69, 37, (.ofNat 0, .ofNat 999)), (69, 88, (.ofNat 0, .ofNat 999)), (69, 89, (.ofNat 0, .ofNat 999)), (69, 90, (.ofNat 0, .ofNat 999)), (69, 91, (.ofNat 0, .ofNat 999)), (69, 92, (.ofNat 0, .ofNat 999)), (69, 93, (.ofNat 0, .ofNat 999)), (69, 94, (.ofNat 0, .ofNat 999)), (69, 95, (.ofNat 0, .ofNat 999)), (69, 96, (.ofNat 0, .ofNat 999)), (69, 97, (.ofNat 0, .ofNat 999)), (69, 98, (.ofNat 0, .ofNat 999)), (69, 99, (.ofNat 0, .ofNat 999)), (93, 28, (.ofNat 0, .ofNat 999)), (93, 29, (.ofNat 0, .ofNat 999)), (93, 30, (.ofNat 0, .ofNat 999)), (93, 31, (.ofNat 0, .ofNat 999)), (93, 32, (.ofNat 0, .ofNat 999)), (93, 33, (.ofNat 0, .ofNat 999)), (93, 34, (.ofNat 0, .ofNat 999)), (93, 35, (.ofNat 0, .ofNat 999)), (93, 36, (.ofNat 0, .ofNat 999)), (93, 37, (.ofNat 0, .ofNat 999)), (93, 38, (.ofNat 0, .ofNat 999)), (93, 39, (.ofNat 0, .ofNat 999))]
def CFr : List (Nat × Int × Int) := [(71, (.ofNat 0, .ofNat 24)), (94, (.ofNat 0, .ofNat 8)), (96, (.ofNat 0, .ofNat 11))]
def CF : AC := (CFs, CFc, CFr)
theorem ex13 {α : Type} {l : List α} {o : α} (h : xn l 12 = some o) : ∃ a0 a1 a2 a3 a4 a5 a6 a7 a8 a9 a10 a11 a12 r, l = a0 :: a1 :: a2 :: a3 :: a4 :: a5 :: a6 :: a7 :: a8 :: a9 :: a10 :: a11 :: a12 :: r := by
  match l, h with
  | a0 :: a1 :: a2 :: a3 :: a4 :: a5 :: a6 :: a7 :: a8 :: a9 :: a10 :: a11 :: a12 :: r, _ => exact ⟨a0, a1, a2, a3, a4, a5, a6, a7, a8, a9, a10, a11, a12, r, rfl⟩
  | [], h => cases h
  | [_], h => cases h
  | [_, _], h => cases h
  | [_, _, _], h => cases h
  | [_, _, _, _], h => cases h
  | [_, _, _, _, _], h => cases h
  | [_, _, _, _, _, _], h => cases h
  | [_, _, _, _, _, _, _], h => cases h
  | [_, _, _, _, _, _, _, _], h => cases h
  | [_, _, _, _, _, _, _, _, _], h => cases h
  | [_, _, _, _, _, _, _, _, _, _], h => cases h
  | [_, _, _, _, _, _, _, _, _, _, _], h => cases h
  | [_, _, _, _, _, _, _, _, _, _, _, _], h => cases h
end
section
/-- the shapes of all places, the two references that change, and what lies behind -/
def shH (ru ta : Nat) (rs : List XO) : List XO := .inl (11, [some 12, some 23, some 26, some 28, some 1, some 3, some 4, none, some 30, some 35, some 18, some 5, none, none, some 6, some 36, some 40, some 41]) :: .inl (6, [some 2, none, none]) :: .inr (0, 2139, []) :: .inr (0, 8, []) :: .inr (0, 8, []) :: .inr (3, 4, [some 47, some 52, some 57, some 62]) :: .inl (1, [some 7, some 8, some 10, some 11, none, none, none, none, none, none]) :: .inr (0, 69, []) :: .inl (6, [some 9, none, none]) :: .inr (0, 2139, []) :: .inr (0, 8, []) :: .inr (0, 8, []) :: .inl (9, [some 13, some 14, some 15, some 16, some 17, none, none, none]) :: .inr (0, 8, []) :: .inr (0, 8, []) :: .inr (0, 8, []) :: .inr (0, 4, []) :: .inr (0, 4, []) :: .inl (8, [some 19, none, some 20, some 21, some 22, none]) :: .inr (0, 300, []) :: .inr (0, 5, []) :: .inr (0, 5, []) :: .inr (0, 96, []) :: .inl (2, [some 12, some ru, some 24, some 25]) :: .inr (0, 11, []) :: .inr (2, 64, []) :: .inl (10, [some 27, some 12, some 23]) :: .inr (0, 69, []) :: .inl (10, [some 29, some 12, some 23]) :: .inr (0, 69, []) :: .inl (7, [some 31, none, some 32, some 33, some 34, none]) :: .inr (0, 300, []) :: .inr (0, 301, []) :: .inr (0, 301, []) :: .inr (0, 301, []) :: .inl (5, [some 30, some ta, none, none, none, none, none, none, none]) :: .inl (3, [some 28, some 37, some 38, some 39, none, none, none, none, none]) :: .inr (0, 276, []) :: .inr (0, 4, []) :: .inr (0, 4, []) :: .inl (0, [some 23, none, none, none, none, none, none, none]) :: .inl (4, [some 26, some 42, none, some 43, some 44, some 45, some 46, none]) :: .inr (0, 6, []) :: .inr (0, 4, []) :: .inr (0, 4, []) :: .inr (0, 6, []) :: .inr (0, 6, []) :: .inl (8, [some 48, none, some 49, some 50, some 51, none]) :: .inr (0, 300, []) :: .inr (0, 5, []) :: .inr (0, 5, []) :: .inr (0, 96, []) :: .inl (8, [some 53, none, some 54, some 55, some 56, none]) :: .inr (0, 300, []) :: .inr (0, 5, []) :: .inr (0, 5, []) :: .inr (0, 96, []) :: .inl (8, [some 58, none, some 59, some 60, some 61, none]) :: .inr (0, 300, []) :: .inr (0, 5, []) :: .inr (0, 5, []) :: .inr (0, 96, []) :: .inl (8, [some 63, none, some 64, some 65, some 66, none]) :: .inr (0, 300, []) :: .inr (0, 5, []) :: .inr (0, 5, []) :: .inr (0, 96, []) :: .inl (12, [some 68, some 69, some 70, none, none, none, some 71, some 72, some 73, some 74, some 75, some 76, some 77, some 78, none, none, none, none, none, none, none, none, none, some 79, some 80, none, some 81, some 82, none, some 83, none, none, some 84, some 85, some 86, some 87, some 88, none, some 89, some 90, some 91, some 92, some 93, some 94, some 95, some 96, some 97, some 98]) :: .inr (0, 2200, []) :: .inr (0, 2200, []) :: .inr (1, 300, []) :: .inr (0, 4, []) :: .inr (0, 96, []) :: .inr (0, 96, []) :: .inr (0, 96, []) :: .inr (0, 96, []) :: .inr (0, 96, []) :: .inr (0, 1600, []) :: .inr (0, 1600, []) :: .inr (0, 40, []) :: .inr (0, 41, []) :: .inr (0, 80, []) :: .inr (0, 80, []) :: .inr (0, 40, []) :: .inr (0, 24, []) :: .inr (0, 24, []) :: .inr (0, 24, []) :: .inr (0, 24, []) :: .inr (0, 24, []) :: .inr (0, 400, []) :: .inr (0, 400, []) :: .inr (0, 11, []) :: .inr (2, 200, []) :: .inr (0, 69, []) :: .inr (0, 4, []) :: .inr (0, 4, []) :: .inr (0, 6, []) :: .inr (0, 6, []) :: .inr (0, 6, []) :: rs
def cncR : List (Option (List Nat)) → Option (List (Option Nat))
  | [] => some []
  | none :: l => (match cncR l with
    | some r => some (none :: r)
    | none => none)
  | some [p] :: l => (match cncR l with
    | some r => some (some p :: r)
    | none => none)
  | some _ :: _ => none
def cnc (o : AO) : Option XO := match o with
  | .inl q => (match cncR q.2 with
    | some r => some (.inl (q.1, r))
    | none => none)
  | .inr q => (match cncR q.2.2 with
    | some r => some (.inr (q.1, q.2.1, r))
    | none => none)
theorem cncR_ok : ∀ {cs : List (Option (List Nat))} {r rs : List (Option Nat)}, cncR cs = some r → refO cs rs → rs = r
  | [], r, rs, h, hr => by
    cases h
    exact List.length_eq_zero_iff.mp hr.1.symm
  | c :: cs, r, [], h, hr => by cases hr.1
  | none :: cs, r, x :: rs, h, hr => by
    unfold cncR at h
    split at h
    · rename_i r' e
      cases h
      have e0 := hr.2.2 0 rfl
      cases e0
      rw [cncR_ok e ⟨by simpa using hr.1, fun k ps hk => hr.2.1 (k + 1) ps hk, fun k hk => hr.2.2 (k + 1) hk⟩]
    · cases h
  | some [p] :: cs, r, x :: rs, h, hr => by
    unfold cncR at h
    split at h
    · rename_i r' e
      cases h
      obtain ⟨q, hq, e0⟩ := hr.2.1 0 [p] rfl
      cases e0
      rw [List.mem_singleton.mp hq]
      rw [cncR_ok e ⟨by simpa using hr.1, fun k ps hk => hr.2.1 (k + 1) ps hk, fun k hk => hr.2.2 (k + 1) hk⟩]
    · cases h
  | some [] :: cs, r, x :: rs, h, hr => by cases h
  | some (_ :: _ :: _) :: cs, r, x :: rs, h, hr => by cases h
theorem cnc_ok {o : AO} {x y : XO} (h : cnc o = some y) (ha : aoO o x) : x = y := by
  unfold cnc at h
  unfold aoO at ha
  split at h
  · rename_i q
    split at h
    · rename_i r e
      cases h
      cases x with
      | inl b => rw [show b = (q.1, r) from Prod.ext ha.1.symm (cncR_ok e ha.2)]
      | inr b => exact ha.elim
    · cases h
  · rename_i q
    split at h
    · rename_i r e
      cases h
      cases x with
      | inl b => exact ha.elim
      | inr b => rw [show b = (q.1, q.2.1, r) from Prod.ext ha.1.symm (Prod.ext ha.2.1.symm (cncR_ok e ha.2.2))]
    · cases h
theorem xn_pre {α : Type} : ∀ {l m : List α}, (∀ i, i < l.length → xn m i = xn l i) → ∃ r, m = l ++ r
  | [], m, _ => ⟨m, rfl⟩
  | a :: l, [], h => by
    have := h 0 (by simp)
    cases this
  | a :: l, b :: m, h => by
    have e := h 0 (by simp)
    cases e
    obtain ⟨r, hr⟩ := xn_pre (l := l) (m := m) (fun i hi => h (i + 1) (by simpa using hi))
    exact ⟨r, by rw [hr]; rfl⟩
def txP : List Nat := [18, 47, 52, 57, 62]
def okPl (ru ta p : Nat) : Bool := match xlk CFs p with
  | some o => (match cnc o with
    | some y => decide (xn (shH ru ta []) p = some y)
    | none => false)
  | none => false
set_option maxRecDepth 100000 in
theorem okPl_all : ∀ p, p < 99 → p ≠ 23 → p ≠ 35 → okPl 0 0 p = true := by decide +kernel
set_option maxRecDepth 100000 in
theorem shH_ne (ru ta p : Nat) (h1 : p ≠ 23) (h2 : p ≠ 35) : xn (shH ru ta []) p = xn (shH 0 0 []) p := by
  by_cases hp : p < 99
  · have : ∀ p, p < 99 → p ≠ 23 → p ≠ 35 → ∀ ru ta, xn (shH ru ta []) p = xn (shH 0 0 []) p := by
      intro p hp h1 h2 ru ta
      revert h1 h2
      revert hp
      match p with
      | 0 => intro _ h1 h2; first | rfl | exact absurd rfl h1 | exact absurd rfl h2
      | 1 => intro _ h1 h2; first | rfl | exact absurd rfl h1 | exact absurd rfl h2
      | 2 => intro _ h1 h2; first | rfl | exact absurd rfl h1 | exact absurd rfl h2
      | 3 => intro _ h1 h2; first | rfl | exact absurd rfl h1 | exact absurd rfl h2
      | 4 => intro _ h1 h2; first | rfl | exact absurd rfl h1 | exact absurd rfl h2
      | 5 => intro _ h1 h2; first | rfl | exact absurd rfl h1 | exact absurd rfl h2
      | 6 => intro _ h1 h2; first | rfl | exact absurd rfl h1 | exact absurd rfl h2
      | 7 => intro _ h1 h2; first | rfl | exact absurd rfl h1 | exact absurd rfl h2
      | 8 => intro _ h1 h2; first | rfl | exact absurd rfl h1 | exact absurd rfl h2
      | 9 => intro _ h1 h2; first | rfl | exact absurd rfl h1 | exact absurd rfl h2
      | 10 => intro _ h1 h2; first | rfl | exact absurd rfl h1 | exact absurd rfl h2
      | 11 => intro _ h1 h2; first | rfl | exact absurd rfl h1 | exact absurd rfl h2
      | 12 => intro _ h1 h2; first | rfl | exact absurd rfl h1 | exact absurd rfl h2
      | 13 => intro _ h1 h2; first | rfl | exact absurd rfl h1 | exact absurd rfl h2
      | 14 => intro _ h1 h2; first | rfl | exact absurd rfl h1 | exact absurd rfl h2
      | 15 => intro _ h1 h2; first | rfl | exact absurd rfl h1 | exact absurd rfl h2
      | 16 => intro _ h1 h2; first | rfl | exact absurd rfl h1 | exact absurd rfl h2
      | 17 => intro _ h1 h2; first | rfl | exact absurd rfl h1 | exact absurd rfl h2
      | 18 => intro _ h1 h2; first | rfl | exact absurd rfl h1 | exact absurd rfl h2
      | 19 => intro _ h1 h2; first | rfl | exact absurd rfl h1 | exact absurd rfl h2
      | 20 => intro _ h1 h2; first | rfl | exact absurd rfl h1 | exact absurd rfl h2
      | 21 => intro _ h1 h2; first | rfl | exact absurd rfl h1 | exact absurd rfl h2
      | 22 => intro _ h1 h2; first | rfl | exact absurd rfl h1 | exact absurd rfl h2
      | 23 => intro _ h1 h2; first | rfl | exact absurd rfl h1 | exact absurd rfl h2
      | 24 => intro _ h1 h2; first | rfl | exact absurd rfl h1 | exact absurd rfl h2
      | 25 => intro _ h1 h2; first | rfl | exact absurd rfl h1 | exact absurd rfl h2
      | 26 => intro _ h1 h2; first | rfl | exact absurd rfl h1 | exact absurd rfl h2
      | 27 => intro _ h1 h2; first | rfl | exact absurd rfl h1 | exact absurd rfl h2
      | 28 => intro _ h1 h2; first | rfl | exact absurd rfl h1 | exact absurd rfl h2
      | 29 => intro _ h1 h2; first | rfl | exact absurd rfl h1 | exact absurd rfl h2
      | 30 => intro _ h1 h2; first | rfl | exact absurd rfl h1 | exact absurd rfl h2
      | 31 => intro _ h1 h2; first | rfl | exact absurd rfl h1 | exact absurd rfl h2
      | 32 => intro _ h1 h2; first | rfl | exact absurd rfl h1 | exact absurd rfl h2
      | 33 => intro _ h1 h2; first | rfl | exact absurd rfl h1 | exact absurd rfl h2
      | 34 => intro _ h1 h2; first | rfl | exact absurd rfl h1 | exact absurd rfl h2
      | 35 => intro _ h1 h2; first | rfl | exact absurd rfl h1 | exact absurd rfl h2
      | 36 => intro _ h1 h2; first | rfl | exact absurd rfl h1 | exact absurd rfl h2
      | 37 => intro _ h1 h2; first | rfl | exact absurd rfl h1 | exact absurd rfl h2
      | 38 => intro _ h1 h2; first | rfl | exact absurd rfl h1 | exact absurd rfl h2
      | 39 => intro _ h1 h2; first | rfl | exact absurd rfl h1 | exact absurd rfl h2
      | 40 => intro _ h1 h2; first | rfl | exact absurd rfl h1 | exact absurd rfl h2
      | 41 => intro _ h1 h2; first | rfl | exact absurd rfl h1 | exact absurd rfl h2
      | 42 => intro _ h1 h2; first | rfl | exact absurd rfl h1 | exact absurd rfl h2
      | 43 => intro _ h1 h2; first | rfl | exact absurd rfl h1 | exact absurd rfl h2
      | 44 => intro _ h1 h2; first | rfl | exact absurd rfl h1 | exact absurd rfl h2
      | 45 => intro _ h1 h2; first | rfl | exact absurd rfl h1 | exact absurd rfl h2
      | 46 => intro _ h1 h2; first | rfl | exact absurd rfl h1 | exact absurd rfl h2
      | 47 => intro _ h1 h2; first | rfl | exact absurd rfl h1 | exact absurd rfl h2
      | 48 => intro _ h1 h2; first | rfl | exact absurd rfl h1 | exact absurd rfl h2
      | 49 => intro _ h1 h2; first | rfl | exact absurd rfl h1 | exact absurd rfl h2
      | 50 => intro _ h1 h2; first | rfl | exact absurd rfl h1 | exact absurd rfl h2
      | 51 => intro _ h1 h2; first | rfl | exact absurd rfl h1 | exact absurd rfl h2
      | 52 => intro _ h1 h2; first | rfl | exact absurd rfl h1 | exact absurd rfl h2
      | 53 => intro _ h1 h2; first | rfl | exact absurd rfl h1 | exact absurd rfl h2
      | 54 => intro _ h1 h2; first | rfl | exact absurd rfl h1 | exact absurd rfl h2
      | 55 => intro _ h1 h2; first | rfl | exact absurd rfl h1 | exact absurd rfl h2
      | 56 => intro _ h1 h2; first | rfl | exact absurd rfl h1 | exact absurd rfl h2
      | 57 => intro _ h1 h2; first | rfl | exact absurd rfl h1 | exact absurd rfl h2
      | 58 => intro _ h1 h2; first | rfl | exact absurd rfl h1 | exact absurd rfl h2
      | 59 => intro _ h1 h2; first | rfl | exact absurd rfl h1 | exact absurd rfl h2
      | 60 => intro _ h1 h2; first | rfl | exact absurd rfl h1 | exact absurd rfl h2
      | 61 => intro _ h1 h2; first | rfl | exact absurd rfl h1 | exact absurd rfl h2
      | 62 => intro _ h1 h2; first | rfl | exact absurd rfl h1 | exact absurd rfl h2
      | 63 => intro _ h1 h2; first | rfl | exact absurd rfl h1 | exact absurd rfl h2
      | 64 => intro _ h1 h2; first | rfl | exact absurd rfl h1 | exact absurd rfl h2
      | 65 => intro _ h1 h2; first | rfl | exact absurd rfl h1 | exact absurd rfl h2
      | 66 => intro _ h1 h2; first | rfl | exact absurd rfl h1 | exact absurd rfl h2
      | 67 => intro _ h1 h2; first | rfl | exact absurd rfl h1 | exact absurd rfl h2
      | 68 => intro _ h1 h2; first | rfl | exact absurd rfl h1 | exact absurd rfl h2
      | 69 => intro _ h1 h2; first | rfl | exact absurd rfl h1 | exact absurd rfl h2
      | 70 => intro _ h1 h2; first | rfl | exact absurd rfl h1 | exact absurd rfl h2
      | 71 => intro _ h1 h2; first | rfl | exact absurd rfl h1 | exact absurd rfl h2
      | 72 => intro _ h1 h2; first | rfl | exact absurd rfl h1 | exact absurd rfl h2
      | 73 => intro _ h1 h2; first | rfl | exact absurd rfl h1 | exact absurd rfl h2
      | 74 => intro _ h1 h2; first | rfl | exact absurd rfl h1 | exact absurd rfl h2
      | 75 => intro _ h1 h2; first | rfl | exact absurd rfl h1 | exact absurd rfl h2
      | 76 => intro _ h1 h2; first | rfl | exact absurd rfl h1 | exact absurd rfl h2
      | 77 => intro _ h1 h2; first | rfl | exact absurd rfl h1 | exact absurd rfl h2
      | 78 => intro _ h1 h2; first | rfl | exact absurd rfl h1 | exact absurd rfl h2
      | 79 => intro _ h1 h2; first | rfl | exact absurd rfl h1 | exact absurd rfl h2
      | 80 => intro _ h1 h2; first | rfl | exact absurd rfl h1 | exact absurd rfl h2
      | 81 => intro _ h1 h2; first | rfl | exact absurd rfl h1 | exact absurd rfl h2
      | 82 => intro _ h1 h2; first | rfl | exact absurd rfl h1 | exact absurd rfl h2
      | 83 => intro _ h1 h2; first | rfl | exact absurd rfl h1 | exact absurd rfl h2
      | 84 => intro _ h1 h2; first | rfl | exact absurd rfl h1 | exact absurd rfl h2
      | 85 => intro _ h1 h2; first | rfl | exact absurd rfl h1 | exact absurd rfl h2
      | 86 => intro _ h1 h2; first | rfl | exact absurd rfl h1 | exact absurd rfl h2
      | 87 => intro _ h1 h2; first | rfl | exact absurd rfl h1 | exact absurd rfl h2
      | 88 => intro _ h1 h2; first | rfl | exact absurd rfl h1 | exact absurd rfl h2
      | 89 => intro _ h1 h2; first | rfl | exact absurd rfl h1 | exact absurd rfl h2
      | 90 => intro _ h1 h2; first | rfl | exact absurd rfl h1 | exact absurd rfl h2
      | 91 => intro _ h1 h2; first | rfl | exact absurd rfl h1 | exact absurd rfl h2
      | 92 => intro _ h1 h2; first | rfl | exact absurd rfl h1 | exact absurd rfl h2
      | 93 => intro _ h1 h2; first | rfl | exact absurd rfl h1 | exact absurd rfl h2
      | 94 => intro _ h1 h2; first | rfl | exact absurd rfl h1 | exact absurd rfl h2
      | 95 => intro _ h1 h2; first | rfl | exact absurd rfl h1 | exact absurd rfl h2
      | 96 => intro _ h1 h2; first | rfl | exact absurd rfl h1 | exact absurd rfl h2
      | 97 => intro _ h1 h2; first | rfl | exact absurd rfl h1 | exact absurd rfl h2
      | 98 => intro _ h1 h2; first | rfl | exact absurd rfl h1 | exact absurd rfl h2
      | n + 99 =>
        intro hp
        omega
    exact this p hp h1 h2 ru ta
  · rw [xn_eq, xn_eq, List.getElem?_eq_none (by show 99 ≤ p; omega), List.getElem?_eq_none (by show 99 ≤ p; omega)]
set_option maxRecDepth 100000 in
theorem shX {sh : List XO} (h : shO CF sh) : ∃ ru ta rs, ru ∈ txP ∧ ta ∈ txP ∧ sh = shH ru ta rs := by
  have h23 : ∃ ru, ru ∈ txP ∧ xn sh 23 = some (.inl (2, [some 12, some ru, some 24, some 25])) := by
    obtain ⟨x, hx, ha⟩ := h 23 (.inl (2, [some [12], some [18, 47, 52, 57, 62], some [24], some [25]])) (by decide +kernel)
    cases x with
    | inr b => exact ha.elim
    | inl b =>
      obtain ⟨b1, b2⟩ := b
      obtain ⟨a1, a2⟩ := ha
      dsimp only at a1 a2
      obtain ⟨ru, hru, e1⟩ := a2.2.1 1 _ rfl
      refine ⟨ru, hru, ?_⟩
      obtain ⟨p0, hp0, e0⟩ := a2.2.1 0 _ rfl
      obtain ⟨p2, hp2, e2⟩ := a2.2.1 2 _ rfl
      obtain ⟨p3, hp3, e3⟩ := a2.2.1 3 _ rfl
      rw [List.mem_singleton.mp hp0] at e0
      rw [List.mem_singleton.mp hp2] at e2
      rw [List.mem_singleton.mp hp3] at e3
      have hl := a2.1
      match b2, hl, e0, e1, e2, e3 with
      | [x0, x1, x2, x3], _, e0, e1, e2, e3 =>
        cases e0
        cases e1
        cases e2
        cases e3
        rw [hx, ← a1]
  have h35 : ∃ ta, ta ∈ txP ∧ xn sh 35 = some (.inl (5, [some 30, some ta, none, none, none, none, none, none, none])) := by
    obtain ⟨x, hx, ha⟩ := h 35 (.inl (5, [some [30], some [18, 47, 52, 57, 62], none, none, none, none, none, none, none])) (by decide +kernel)
    cases x with
    | inr b => exact ha.elim
    | inl b =>
      obtain ⟨b1, b2⟩ := b
      obtain ⟨a1, a2⟩ := ha
      dsimp only at a1 a2
      obtain ⟨ta, hta, e1⟩ := a2.2.1 1 _ rfl
      refine ⟨ta, hta, ?_⟩
      obtain ⟨p0, hp0, e0⟩ := a2.2.1 0 _ rfl
      rw [List.mem_singleton.mp hp0] at e0
      have e2 := a2.2.2 2 rfl
      have e3 := a2.2.2 3 rfl
      have e4 := a2.2.2 4 rfl
      have e5 := a2.2.2 5 rfl
      have e6 := a2.2.2 6 rfl
      have e7 := a2.2.2 7 rfl
      have e8 := a2.2.2 8 rfl
      have hl := a2.1
      match b2, hl, e0, e1, e2, e3, e4, e5, e6, e7, e8 with
      | [x0, x1, x2, x3, x4, x5, x6, x7, x8], _, e0, e1, e2, e3, e4, e5, e6, e7, e8 =>
        cases e0
        cases e1
        cases e2
        cases e3
        cases e4
        cases e5
        cases e6
        cases e7
        cases e8
        rw [hx, ← a1]
  obtain ⟨ru, hru, e23⟩ := h23
  obtain ⟨ta, hta, e35⟩ := h35
  have hall : ∀ i, i < (shH ru ta []).length → xn sh i = xn (shH ru ta []) i := by
    intro i hi
    by_cases h1 : i = 23
    · subst h1
      exact e23
    · by_cases h2 : i = 35
      · subst h2
        exact e35
      · rw [shH_ne ru ta i h1 h2]
        have y := okPl_all i hi h1 h2
        unfold okPl at y
        split at y
        · rename_i o eo
          split at y
          · rename_i z ez
            obtain ⟨x, hx, ha⟩ := h i o eo
            rw [hx, cnc_ok ez ha]
            exact (of_decide_eq_true y).symm
          · cases y
        · cases y
  obtain ⟨rs, hrs⟩ := xn_pre hall
  exact ⟨ru, ta, rs, hru, hta, hrs⟩
/-- contracts made by hand -/
theorem ag1 {p : Nat} {as : List Value} (h : agO [.inr (.inl [p])] as) : as = [.ref p] := by
  match as, h with
  | [.ref q], h => rw [List.mem_singleton.mp h.1]
theorem ag1i {p : Nat} {r : Int × Int} {as : List Value} (h : agO [.inr (.inl [p]), .inl r] as) : ∃ x, as = [.ref p, .int x] ∧ inI r x.toInt := by
  match as, h with
  | [.ref q, .int x], h => exact ⟨x, by rw [List.mem_singleton.mp h.1], h.2.1⟩
theorem ag1ii {p : Nat} {r s : Int × Int} {as : List Value} (h : agO [.inr (.inl [p]), .inl r, .inl s] as) : ∃ x y, as = [.ref p, .int x, .int y] ∧ inI r x.toInt ∧ inI s y.toInt := by
  match as, h with
  | [.ref q, .int x, .int y], h => exact ⟨x, y, by rw [List.mem_singleton.mp h.1], h.2.1, h.2.2.1⟩
theorem ag1iii {p : Nat} {r s t : Int × Int} {as : List Value} (h : agO [.inr (.inl [p]), .inl r, .inl s, .inl t] as) : ∃ x y z, as = [.ref p, .int x, .int y, .int z] ∧ inI r x.toInt ∧ inI s y.toInt ∧ inI t z.toInt := by
  match as, h with
  | [.ref q, .int x, .int y, .int z], h => exact ⟨x, y, z, by rw [List.mem_singleton.mp h.1], h.2.1, h.2.2.1, h.2.2.2.1⟩
theorem agi {r : Int × Int} {as : List Value} (h : agO [.inl r] as) : ∃ x, as = [.int x] ∧ inI r x.toInt := by
  match as, h with
  | [.int x], h => exact ⟨x, rfl, h.1⟩
theorem one_post {gs : List AG} {as : List Value} {g : AG} {v : Option Value} {I : XI} (ha : agO gs as) (hv : rvO g v) : pstO as (aInts gs, g, []) v I := ⟨fun _ _ _ h1 h2 => agO_in ha h2 h1, hv, fun e he => by cases he⟩
end
