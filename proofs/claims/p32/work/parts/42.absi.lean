-- ===== one straight instruction =====
def aNum (S : AS) (T : List AV) (w : Option ((Nat × Int) ⊕ (Int × Int))) : Option AS := match w with
  | some (.inl q) => some (aPu S T (.inl q))
  | some (.inr r) => some (aFr S T r)
  | none => none
def aLdI (S : AS) (n : Nat) : Option AS := match xn S.2.1 n with
  | some (.inl q) => some (aPu S S.2.2.1 (.inl q))
  | _ => none
def aLdL (S : AS) (n : Nat) : Option AS := match xn S.2.1 n with
  | some (.inr (.inr 1)) => some (aPu S S.2.2.1 (.inr (.inr 1)))
  | some (.inr (.inr 3)) => some (aPu S S.2.2.1 (.inr (.inr 3)))
  | _ => none
def aLdA (S : AS) (n : Nat) : Option AS := match xn S.2.1 n with
  | some (.inr (.inl ps)) => some (aPu S S.2.2.1 (.inr (.inl ps)))
  | _ => none
def aSto (S : AS) (T : List AV) (i j : Nat) (a : AV) : Option AS := match lgP S.2.1 i, xn S.2.1 j with
  | false, some _ => some (S.1, aSL S.2.1 i a, T, S.2.2.2)
  | _, _ => none
def aStI (S : AS) (i : Nat) : Option AS := match S.2.2.1 with
  | .inl q :: T => aSto S T i i (.inl q)
  | _ => none
def aStL (S : AS) (i : Nat) : Option AS := match S.2.2.1 with
  | .inr (.inr 1) :: T => aSto S T i (i + 1) (.inr (.inr 1))
  | .inr (.inr 3) :: T => aSto S T i (i + 1) (.inr (.inr 3))
  | _ => none
def aStA (S : AS) (i : Nat) : Option AS := match S.2.2.1 with
  | .inr (.inl ps) :: T => aSto S T i i (.inr (.inl ps))
  | _ => none
def aSetN (S : AS) (j : Nat) (w : Option ((Nat × Int) ⊕ (Int × Int))) : Option AS := match w with
  | some (.inl q) => aSto S S.2.2.1 j j (.inl q)
  | some (.inr r) => aSto (S.1 ++ [r], S.2) S.2.2.1 j j (.inl (S.1.length, 0))
  | none => none
def a2 (S : AS) (f : Nat × Int → Nat × Int → List AV → Option AS) : Option AS := match S.2.2.1 with
  | .inl r :: .inl q :: T => f q r T
  | _ => none
def a1 (S : AS) (f : Nat × Int → List AV → Option AS) : Option AS := match S.2.2.1 with
  | .inl q :: T => f q T
  | _ => none
def lgT (a : AV) : Bool := lgA (some a)
def l2 (S : AS) (f : AV → List AV → Option AS) : Option AS := match S.2.2.1 with
  | b :: a :: T => (match lgT b && lgT a with
    | true => f b T
    | false => none)
  | _ => none
def l1 (S : AS) (f : List AV → Option AS) : Option AS := match S.2.2.1 with
  | b :: T => (match lgT b with
    | true => f T
    | false => none)
  | _ => none
def aMul (E : AE) (q r : Nat × Int) : Option ((Nat × Int) ⊕ (Int × Int)) := match iv E q, iv E r with
  | some a, some b => some (.inr (rgn (rMul a b)))
  | _, _ => none
/-- and with a number that isn't below 0 -/
def aAnd (E : AE) (q r : Nat × Int) : Option ((Nat × Int) ⊕ (Int × Int)) := match iv E q, iv E r with
  | some a, some b => (match ile 0 b.1 with
    | true => some (.inr (0, b.2))
    | false => (match ile 0 a.1 with
      | true => some (.inr (0, a.2))
      | false => some (.inr fr)))
  | _, _ => none
def aDiv (E : AE) (q r : Nat × Int) : Option ((Nat × Int) ⊕ (Int × Int)) := match iv E q, iv E r with
  | some a, some b => (match ile 1 b.1 with
    | true => (match ile 0 a.1 with
      | true => some (.inr (0, a.2))
      | false => some (.inr fr))
    | false => none)
  | _, _ => none
def aRem (E : AE) (q r : Nat × Int) : Option ((Nat × Int) ⊕ (Int × Int)) := match iv E q, iv E r with
  | some a, some b => (match ile 1 b.1 with
    | true => (match ile 0 a.1 with
      | true => some (.inr (0, imin a.2 (b.2 - 1)))
      | false => some (.inr (1 - b.2, b.2 - 1)))
    | false => none)
  | _, _ => none
def aShr (E : AE) (q r : Nat × Int) : Option ((Nat × Int) ⊕ (Int × Int)) := match iv E q, iv E r with
  | some a, some _ => (match ile 0 a.1 with
    | true => some (.inr (0, a.2))
    | false => some (.inr fr))
  | _, _ => none
/-- shapes of all the places that a reference may be -/
def allO (C : AC) (ps : List Nat) (f : AO → Bool) : Bool := match ps with
  | [] => false
  | _ => ps.all fun p => match xlk C.1 p with
    | some o => f o
    | none => false
def isO (ci k : Nat) (o : AO) : Bool := match o with
  | .inl q => Nat.beq q.1 ci && Nat.blt k q.2.length
  | _ => false
def isA (kd : Nat) (o : AO) : Bool := match o with
  | .inr q => Nat.beq q.1 kd
  | _ => false
def lenA (C : AC) : List Nat → Option Nat
  | [] => none
  | p :: _ => match xlk C.1 p with
    | some (.inr q) => some q.2.1
    | _ => none
def isL (kd n : Nat) (o : AO) : Bool := match o with
  | .inr q => Nat.beq q.1 kd && Nat.beq q.2.1 n
  | _ => false
def isN (n : Nat) (o : AO) : Bool := match o with
  | .inr q => Nat.blt q.1 4 && Nat.beq q.2.1 n
  | _ => false
def refA (k : Nat) (o : AO) : List Nat := match o with
  | .inl q => (match xn q.2 k with
    | some (some ps) => ps
    | _ => [])
  | .inr q => (match xn q.2.2 k with
    | some (some ps) => ps
    | _ => [])
def hasR (k : Nat) (o : AO) : Bool := match o with
  | .inl q => (match xn q.2 k with
    | some (some _) => true
    | _ => false)
  | .inr q => (match xn q.2.2 k with
    | some (some _) => true
    | _ => false)
def uni : List Nat → List Nat → List Nat
  | [], l => l
  | p :: ps, l => match nmem p l with
    | true => uni ps l
    | false => uni ps (p :: l)
def refU (C : AC) : List Nat → Nat → List Nat
  | [], _ => []
  | p :: ps, k => match xlk C.1 p with
    | some o => uni (refA k o) (refU C ps k)
    | none => refU C ps k
/-- refs of a Text row, at any place -/
def refW (C : AC) (p n : Nat) : Nat → List Nat
  | 0 => []
  | k + 1 => uni (refU C [p] k) (refW C p n k)
def hull (C : AC) (k : Nat) : List Nat → Option (Int × Int)
  | [] => none
  | [p] => some (cellI C p k)
  | p :: ps => match hull C k ps with
    | some r => some (imin (cellI C p k).1 r.1, imax (cellI C p k).2 r.2)
    | none => none
def trk (T : AT) (ps : List Nat) : Bool := T.any fun e => nmem e.1 ps
/-- a number out of a cell -/
def aCell (C : AC) (S : AS) (T : List AV) (ps : List Nat) (k : Nat) : Option AS := match ps with
  | [p] => (match tF S.2.2.2 p k with
    | some q => some (aPu S T (.inl q))
    | none => some (S.1 ++ [cellI C p k], S.2.1, .inl (S.1.length, 0) :: T, (p, k, S.1.length, 0) :: S.2.2.2))
  | _ => (match trk S.2.2.2 ps, hull C k ps with
    | false, some r => some (aFr S T r)
    | _, _ => none)
/-- rows of whose cells none is told alone between two numbers -/
def rowI (C : AC) (p : Nat) : Int × Int := match xlk C.2.2 p with
  | some r => r
  | none => fr
def cellsIn (C : AC) (p : Nat) : Bool := C.2.1.all fun q => !(Nat.beq q.1 p) || rsub q.2.2 (rowI C p)
def hullR (C : AC) : List Nat → Option (Int × Int)
  | [] => none
  | [p] => (match cellsIn C p with
    | true => some (rowI C p)
    | false => none)
  | p :: ps => match hullR C ps, cellsIn C p with
    | some r, true => some (imin (rowI C p).1 r.1, imax (rowI C p).2 r.2)
    | _, _ => none
def inL (r : Int × Int) (n : Nat) : Bool := ile 0 r.1 && ile (r.2 + 1) (n : Nat)
def aLoad (C : AC) (S : AS) (kd : Nat) : Option AS := match S.2.2.1 with
  | .inl q :: .inr (.inl ps) :: T => (match iv S.1 q, lenA C ps with
    | some r, some n => (match inL r n && allO C ps (isL kd n), decide (r.1 = r.2) with
      | true, true => aCell C S T ps r.1.toNat
      | true, false => (match trk S.2.2.2 ps, hullR C ps with
        | false, some w => some (aFr S T w)
        | _, _ => some (aFr S T fr))
      | _, _ => none)
    | _, _ => none)
  | _ => none
def aIdx (C : AC) (S : AS) (kd : Nat) (f : List AV → Option AS) : Option AS := match S.2.2.1 with
  | .inl q :: .inr (.inl ps) :: T => (match iv S.1 q, lenA C ps with
    | some r, some n => (match inL r n && allO C ps (isL kd n) with
      | true => f T
      | false => none)
    | _, _ => none)
  | _ => none
/-- a write into a row at a place between two numbers -/
def cellsOk (C : AC) (p : Nat) (r w : Int × Int) : Bool := rsub w (rowI C p) && C.2.1.all fun q => !(Nat.beq q.1 p && ((ile r.1 (q.2.1 : Nat) && ile (q.2.1 : Nat) r.2) || (wid p && ile 130 r.2 && Nat.ble 60 q.2.1))) || rsub w q.2.2
def aStore (C : AC) (Wm : List Nat) (S : AS) (kd : Nat) (q : Nat × Int) (v : (Nat × Int) ⊕ (Int × Int)) (ps : List Nat) (T : List AV) : Option AS := match ps, iv S.1 q with
  | [p], some r => (match lenA C ps with
    | some n => (match inL r n && allO C ps (isL kd n) && nmem p Wm, decide (r.1 = r.2), v with
      | true, true, .inl u => some (S.1, S.2.1, T, (p, r.1.toNat, u.1, u.2) :: tD S.2.2.2 p r.1.toNat)
      | true, true, .inr w => some (S.1 ++ [w], S.2.1, T, (p, r.1.toNat, S.1.length, 0) :: tD S.2.2.2 p r.1.toNat)
      | true, false, .inl u => (match iv S.1 u with
        | some w => (match cellsOk C p r w && !(tR S.2.2.2 p r) with
          | true => some (aSt S T)
          | false => none)
        | none => none)
      | true, false, .inr w => (match cellsOk C p r w && !(tR S.2.2.2 p r) with
        | true => some (aSt S T)
        | false => none)
      | _, _, _ => none)
    | none => none)
  | _, _ => none
def tyB (t : FieldType) : Bool := match t with
  | .boolean => true
  | _ => false
def tyI (t : FieldType) : Bool := match t with
  | .int => true
  | _ => false
/-- one array that nobody writes -/
def cstA (ps : List Nat) : Option (Nat × Nat × List Int32) := match ps with
  | [p] => (match Nat.ble 900001 p with
    | true => xlk xkA p
    | false => none)
  | _ => none
theorem cstA_el {ps : List Nat} {e : Nat × Nat × List Int32} (h : cstA ps = some e) : ∃ p, ps = [p] ∧ Nat.ble 900001 p = true ∧ Nat.beq p 900000 = false ∧ xlk xkA p = some e := by
  unfold cstA at h
  split at h
  · rename_i p
    split at h
    · rename_i hb
      refine ⟨p, rfl, hb, ?_, h⟩
      have z := Nat.le_of_ble_eq_true hb
      cases y : Nat.beq p 900000 with
      | true =>
        have := Nat.eq_of_beq_eq_true y
        omega
      | false => rfl
    · cases h
  · cases h
/-- no place of those -/
def cstN (ps : List Nat) : Bool := ps.all fun p => Nat.blt p 900000
theorem cstN_el {ps : List Nat} (h : cstN ps = true) {p : Nat} (hp : p ∈ ps) : Nat.beq p 900000 = false ∧ Nat.ble 900001 p = false := by
  have y := List.all_eq_true.mp h p hp
  simp only [Nat.blt_eq] at y
  constructor
  · cases z : Nat.beq p 900000 with
    | true =>
      have := Nat.eq_of_beq_eq_true z
      omega
    | false => rfl
  · cases z : Nat.ble 900001 p with
    | true =>
      have := Nat.le_of_ble_eq_true z
      omega
    | false => rfl
def cstS (ps : List Nat) (kd : Nat) : Bool := match ps with
  | [p] => Nat.ble 900001 p && (xlk xkS p).isSome && Nat.beq kd 113
  | _ => false
theorem cstS_el {ps : List Nat} {kd : Nat} (h : cstS ps kd = true) {p : Nat} (hp : p ∈ ps) : Nat.ble 900001 p = true ∧ (∃ e, xlk xkS p = some e) ∧ kd = 113 := by
  unfold cstS at h
  split at h
  · rename_i p'
    simp only [Bool.and_eq_true] at h
    rw [List.mem_singleton.mp hp]
    exact ⟨h.1.1, Option.isSome_iff_exists.mp h.1.2, Nat.eq_of_beq_eq_true h.2⟩
  · cases h
def aI (C : AC) (Wm : List Nat) (Wf : Bool) (X : XX) (i : Jvm.ClassFile.Instr) (S : AS) : Option AS := match i with
  | .iconst n => some (aPu S S.2.2.1 (.inl (0, (Int32.ofInt n).toInt)))
  | .bipush n => some (aPu S S.2.2.1 (.inl (0, (Int8.ofInt n).toInt32.toInt)))
  | .sipush n => some (aPu S S.2.2.1 (.inl (0, (Int16.ofInt n).toInt32.toInt)))
  | .lconst n => some (aPu S S.2.2.1 (.inr (.inr (match decide (Int64.ofNat (n : Nat) = 0) with
    | true => 1
    | false => 3))))
  | .aconst_null => some (aPu S S.2.2.1 (.inr (.inr 2)))
  | .iload_n n => aLdI S (n : Nat)
  | .iload n => aLdI S n
  | .lload_n n => aLdL S (n : Nat)
  | .lload n => aLdL S n
  | .aload_n n => aLdA S (n : Nat)
  | .aload n => aLdA S n
  | .istore_n n => aStI S (n : Nat)
  | .istore n => aStI S n
  | .lstore_n n => aStL S (n : Nat)
  | .lstore n => aStL S n
  | .astore_n n => aStA S (n : Nat)
  | .astore n => aStA S n
  | .iinc j n => (match xn S.2.1 j with
    | some (.inl q) => aSetN S j (aAdd S.1 q (0, (Int32.ofInt n).toInt))
    | _ => none)
  | .iadd => a2 S fun q r T => aNum S T (aAdd S.1 q r)
  | .isub => a2 S fun q r T => aNum S T (aSub S.1 q r)
  | .imul => a2 S fun q r T => aNum S T (aMul S.1 q r)
  | .iand => a2 S fun q r T => aNum S T (aAnd S.1 q r)
  | .ior => a2 S fun _ _ T => some (aFr S T fr)
  | .ixor => a2 S fun _ _ T => some (aFr S T fr)
  | .idiv => a2 S fun q r T => aNum S T (aDiv S.1 q r)
  | .irem => a2 S fun q r T => aNum S T (aRem S.1 q r)
  | .ineg => a1 S fun _ T => some (aFr S T fr)
  | .ishl => a2 S fun _ _ T => some (aFr S T fr)
  | .ishr => a2 S fun q r T => aNum S T (aShr S.1 q r)
  | .iushr => a2 S fun _ _ T => some (aFr S T fr)
  | .ladd => l2 S fun _ T => some (aPu S T (.inr (.inr 1)))
  | .lsub => l2 S fun _ T => some (aPu S T (.inr (.inr 1)))
  | .lmul => l2 S fun _ T => some (aPu S T (.inr (.inr 1)))
  | .land => l2 S fun _ T => some (aPu S T (.inr (.inr 1)))
  | .lor => l2 S fun _ T => some (aPu S T (.inr (.inr 1)))
  | .ldiv => l2 S fun b T => (match b with
    | .inr (.inr 3) => some (aPu S T (.inr (.inr 1)))
    | _ => none)
  | .lneg => l1 S fun T => some (aPu S T (.inr (.inr 1)))
  | .lcmp => l2 S fun _ T => some (aFr S T (-1, 1))
  | .i2l => a1 S fun _ T => some (aPu S T (.inr (.inr 1)))
  | .l2i => l1 S fun T => some (aFr S T fr)
  | .i2b => a1 S fun _ T => some (aFr S T (-128, 127))
  | .i2c => a1 S fun _ T => some (aFr S T fr)
  | .dup => (match S.2.2.1 with
    | .inl q :: T => some (aPu S (.inl q :: T) (.inl q))
    | .inr (.inl ps) :: T => some (aPu S (.inr (.inl ps) :: T) (.inr (.inl ps)))
    | _ => none)
  | .pop => (match S.2.2.1 with
    | .inl _ :: T => some (aSt S T)
    | .inr (.inl _) :: T => some (aSt S T)
    | _ => none)
  | .dup2 => (match S.2.2.1 with
    | .inl q :: .inr (.inl ps) :: T => some (aSt S (.inl q :: .inr (.inl ps) :: .inl q :: .inr (.inl ps) :: T))
    | _ => none)
  | .getstatic idx => (match xk2 xkZ X.2.1 idx with
    | some w => (match Nat.ble 2 w with
      | true => some (aPu S S.2.2.1 (.inr (.inl [w])))
      | false => none)
    | none => none)
  | .getfield idx => (match xk2 xkO X.2.1 idx with
    | some _ => none
    | none => (match S.2.2.1, xlk X.2.2.1 idx with
    | .inr (.inl ps) :: T, some e => (match allO C ps (isO e.1 e.2.1), isRefT (xty e.1 e.2.1) with
      | true, true => (match allO C ps (hasR e.2.1) with
        | true => some (aPu S T (.inr (.inl (refU C ps e.2.1))))
        | false => none)
      | true, false => aCell C S T ps e.2.1
      | _, _ => none)
    | _, _ => none))
  | .putfield idx => (match S.2.2.1, xlk X.2.2.1 idx with
    | .inl u :: .inr (.inl [p]) :: T, some e => (match allO C [p] (isO e.1 e.2.1) && nmem p Wm && !(xfin e.1 e.2.1), iv S.1 u with
      | true, some w => (match tyI (xty e.1 e.2.1) || (tyB (xty e.1 e.2.1) && rsub w (0, 1)) with
        | true => some (S.1, S.2.1, T, (p, e.2.1, u.1, u.2) :: tD S.2.2.2 p e.2.1)
        | false => none)
      | _, _ => none)
    | .inr (.inl vs) :: .inr (.inl [p]) :: T, some e => (match allO C [p] (isO e.1 e.2.1) && Wf && !(xfin e.1 e.2.1) && isRefT (xty e.1 e.2.1), xlk C.1 p with
      | true, some (.inl q) => (match xn q.2 e.2.1 with
        | some (some ps) => (match nsub vs ps with
          | true => some (aSt S T)
          | false => none)
        | _ => none)
      | _, _ => none)
    | _, _ => none)
  | .arraylength => (match S.2.2.1 with
    | .inr (.inl ps) :: T => (match cstA ps with
      | some e => some (aPu S T (.inl (0, (Int32.ofNat e.2.1).toInt)))
      | none => (match lenA C ps with
        | some n => (match allO C ps (isN n) && cstN ps with
          | true => some (aPu S T (.inl (0, (Int32.ofNat n).toInt)))
          | false => none)
        | none => none))
    | _ => none)
  | .iaload => (match S.2.2.1 with
    | .inl q :: .inr (.inl ps) :: T => (match cstA ps with
      | some e => (match iv S.1 q with
        | some r => (match Nat.beq e.1 0 && inL r e.2.1 with
          | true => some (aFr S T fr)
          | false => none)
        | none => none)
      | none => (match cstN ps with
        | true => aLoad C S 0
        | false => none))
    | _ => none)
  | .baload => (match Nat.beq X.2.1 96 with
    | true => none
    | false => aLoad C S 1)
  | .laload => aIdx C S 2 fun T => some (aPu S T (.inr (.inr 1)))
  | .aaload => (match S.2.2.1 with
    | .inl q :: .inr (.inl [p]) :: T => (match iv S.1 q, lenA C [p] with
      | some r, some n => (match inL r n && allO C [p] (isL 3 n) && (List.range n).all fun k => allO C [p] (hasR k) with
        | true => some (aPu S T (.inr (.inl (refW C p n n))))
        | false => none)
      | _, _ => none)
    | _ => none)
  | .iastore => (match S.2.2.1 with
    | .inl u :: .inl q :: .inr (.inl ps) :: T => aStore C Wm S 0 q (.inl u) ps T
    | _ => none)
  | .bastore => (match S.2.2.1 with
    | .inl _ :: .inl q :: .inr (.inl ps) :: T => aStore C Wm S 1 q (.inr (-128, 127)) ps T
    | _ => none)
  | .lastore => (match S.2.2.1 with
    | b :: .inl q :: .inr (.inl [p]) :: T => (match iv S.1 q, lenA C [p] with
      | some r, some n => (match lgT b && inL r n && allO C [p] (isL 2 n) with
        | true => some (aSt S T)
        | false => none)
      | _, _ => none)
    | _ => none)
  | .ldc2_w idx => (match xlk X.2.2.2.2.1 idx with
    | some e => some (aPu S S.2.2.1 (.inr (.inr (match decide (e.1 = 0) with
      | true => 1
      | false => 3))))
    | none => none)
  | .ldc idx => (match xk2 xkD X.2.1 idx with
    | some w => some (aPu S S.2.2.1 (.inr (.inl [w])))
    | none => (match xlk X.2.2.2.2.2.1 idx with
      | some e => some (aPu S S.2.2.1 (.inl (0, e.1.toInt)))
      | none => none))
  | .ldc_w idx => (match xlk X.2.2.2.2.2.1 idx with
    | some e => some (aPu S S.2.2.1 (.inl (0, e.1.toInt)))
    | none => none)
  | _ => none
