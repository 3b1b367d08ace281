def xcs : List Value → Nat
  | [] => 0
  | v :: r => v.category + xcs r
theorem xcs_eq : ∀ st : List Value, xcs st = (st.map fun v => v.category).sum
  | [] => rfl
  | v :: r => by rw [xcs, xcs_eq r, List.map_cons, List.sum_cons]
theorem xcs_v (ρ : Nat → Nat) (st : List Value) : ((st.map (xv ρ)).map fun v => v.category).sum = xcs st := by rw [xv_cats, xcs_eq]
def xso {β : Type} (o : Option β) (f : β → Prop) : Prop := match o with
  | some e => f e
  | none => False
theorem xso_el {β : Type} {o : Option β} {f : β → Prop} (h : xso o f) : ∃ e, o = some e ∧ f e := by
  cases o with
  | some e => exact ⟨e, rfl, h⟩
  | none => exact h.elim
def xkd (t : Jvm.ClassFile.ArrayType) : Nat := match t with
  | .int => 0
  | .byte => 1
  | .long => 2
  | _ => 9
def xnw (al : Bool) (n0 mc ms : Nat) (lc : List (Option Value)) (st : List Value) (sh : List XO) (a b n : Nat) : Bool := al && Nat.ble n0 sh.length && Nat.blt sh.length 900000 && Nat.ble (a + 1) mc && Nat.ble (b + n) ms && Nat.ble n 100000 && xwf sh.length lc st sh
def xs (X : XX) (ini al : Bool) (n0 mc ms : Nat) (sc : XS) (i : Jvm.ClassFile.Instr) (lc : List (Option Value)) (st : List Value) (sh : List XO) (I : XI) (J : XJ) (a b : Nat) (k : XP) : Prop := match i with
  | .iconst n => k lc (.int (Int32.ofInt n) :: st) sh I J a b
  | .bipush n => k lc (.int (Int8.ofInt n).toInt32 :: st) sh I J a b
  | .sipush n => k lc (.int (Int16.ofInt n).toInt32 :: st) sh I J a b
  | .lconst n => k lc (.long (Int64.ofNat (n : Nat)) :: st) sh I J a b
  | .aconst_null => k lc (.null :: st) sh I J a b
  | .iload_n n => xli (xn lc (n : Nat)) fun x => k lc (.int x :: st) sh I J a b
  | .iload n => xli (xn lc n) fun x => k lc (.int x :: st) sh I J a b
  | .lload_n n => xll (xn lc (n : Nat)) fun x => k lc (.long x :: st) sh I J a b
  | .lload n => xll (xn lc n) fun x => k lc (.long x :: st) sh I J a b
  | .aload_n n => xla (xn lc (n : Nat)) fun x => k lc (.ref x :: st) sh I J a b
  | .aload n => xla (xn lc n) fun x => k lc (.ref x :: st) sh I J a b
  | .istore_n n => xi1 st fun x r => xin (xn lc (n : Nat)) (k (sL lc (n : Nat) (.int x)) r sh I J a b)
  | .istore n => xi1 st fun x r => xin (xn lc n) (k (sL lc n (.int x)) r sh I J a b)
  | .lstore_n n => xl1 st fun x r => xin (xn lc ((n : Nat) + 1)) (k (sL lc (n : Nat) (.long x)) r sh I J a b)
  | .lstore n => xl1 st fun x r => xin (xn lc (n + 1)) (k (sL lc n (.long x)) r sh I J a b)
  | .astore_n n => xr1 st fun x r => xin (xn lc (n : Nat)) (k (sL lc (n : Nat) (.ref x)) r sh I J a b)
  | .astore n => xr1 st fun x r => xin (xn lc n) (k (sL lc n (.ref x)) r sh I J a b)
  | .iinc j n => xli (xn lc j) fun x => k (sL lc j (.int (x + Int32.ofInt n))) st sh I J a b
  | .iadd => xii st fun x y r => k lc (.int (x + y) :: r) sh I J a b
  | .isub => xii st fun x y r => k lc (.int (x - y) :: r) sh I J a b
  | .imul => xii st fun x y r => k lc (.int (x * y) :: r) sh I J a b
  | .iand => xii st fun x y r => k lc (.int (x &&& y) :: r) sh I J a b
  | .ior => xii st fun x y r => k lc (.int (x ||| y) :: r) sh I J a b
  | .ixor => xii st fun x y r => k lc (.int (x ^^^ y) :: r) sh I J a b
  | .idiv => xii st fun x y r => (¬ y = 0) ∧ k lc (.int (x / y) :: r) sh I J a b
  | .irem => xii st fun x y r => (¬ y = 0) ∧ k lc (.int (x - x / y * y) :: r) sh I J a b
  | .ineg => xi1 st fun x r => k lc (.int (-x) :: r) sh I J a b
  | .ishl => xii st fun x y r => k lc (.int (x <<< (y &&& 31)) :: r) sh I J a b
  | .ishr => xii st fun x y r => k lc (.int (x >>> (y &&& 31)) :: r) sh I J a b
  | .iushr => xii st fun x y r => k lc (.int (x.toUInt32 >>> (y.toUInt32 &&& Int32.toUInt32 31)).toInt32 :: r) sh I J a b
  | .ladd => xl2 st fun x y r => k lc (.long (x + y) :: r) sh I J a b
  | .lsub => xl2 st fun x y r => k lc (.long (x - y) :: r) sh I J a b
  | .lmul => xl2 st fun x y r => k lc (.long (x * y) :: r) sh I J a b
  | .land => xl2 st fun x y r => k lc (.long (x &&& y) :: r) sh I J a b
  | .lor => xl2 st fun x y r => k lc (.long (x ||| y) :: r) sh I J a b
  | .ldiv => xl2 st fun x y r => (¬ y = 0) ∧ k lc (.long (x / y) :: r) sh I J a b
  | .lrem => xl2 st fun x y r => (¬ y = 0) ∧ k lc (.long (x - x / y * y) :: r) sh I J a b
  | .lneg => xl1 st fun x r => k lc (.long (-x) :: r) sh I J a b
  | .lcmp => xl2 st fun x y r => k lc (.int (lg_cmp x y) :: r) sh I J a b
  | .i2l => xi1 st fun x r => k lc (.long x.toInt64 :: r) sh I J a b
  | .l2i => xl1 st fun x r => k lc (.int x.toInt32 :: r) sh I J a b
  | .i2b => xi1 st fun x r => k lc (.int x.toInt8.toInt32 :: r) sh I J a b
  | .i2c => xi1 st fun x r => k lc (.int (x.toUInt32 % 65536).toInt32 :: r) sh I J a b
  | .dup => xv1 st fun v r => xb (Nat.beq v.category 1) (k lc (v :: v :: r) sh I J a b)
  | .pop => xv1 st fun v r => xb (Nat.beq v.category 1) (k lc r sh I J a b)
  | .dup2 => xv2 st fun v w r => xb (Nat.beq v.category 1 && Nat.beq w.category 1) (k lc (v :: w :: v :: w :: r) sh I J a b)
  | .getstatic idx => (match xk2 xkZ X.2.1 idx with
    | some 0 => k lc (.int 1 :: st) sh I J a b
    | some 1 => k lc (.null :: st) sh I J a b ∧ k lc (.ref 900007 :: st) sh I J a b
    | some p => k lc (.ref p :: st) sh I J a b
    | none => False)
  | .getfield idx => xr1 st fun p r => (match xk2 xkO X.2.1 idx with
    | some w => xso (xlk xkS p) fun e => (match w with
      | 0 => k lc (.ref e.1 :: r) sh I J a b
      | _ => k lc (.int 0 :: r) sh I J a b)
    | none => xgo X sh p idx fun ci kk rs => k lc (xgf I p ci kk rs :: r) sh I J a b)
  | .putfield idx => xvr st fun v p r => xgo X sh p idx fun ci kk rs => xin (xn rs kk) (xpf X ini ci kk (xpv (xty ci kk) v (fun x => k lc r sh (uI I p kk x) J a b) (fun q => k lc r (xset sh p (.inl (ci, xsetR rs kk (some q)))) I J a b)))
  | .arraylength => xr1 st fun p r => match Nat.beq p 900000 with
    | true => (match sc with
      | some q => k lc (.int (Int32.ofNat q.1) :: r) sh I J a b
      | none => False)
    | false => (match Nat.ble 900001 p with
      | true => xso (xlk xkA p) fun e => k lc (.int (Int32.ofNat e.2.1) :: r) sh I J a b
      | false => (match xn sh p with
        | some (.inr q) => xb (Nat.blt q.1 4) (k lc (.int (Int32.ofNat q.2.1) :: r) sh I J a b)
        | _ => False))
  | .iaload => xir st fun j p r => match Nat.beq p 900000 with
    | true => (match sc with
      | some q => vp_in j q.1 ∧ k lc (.int (q.2 j.toNatClampNeg) :: r) sh I J a b
      | none => False)
    | false => (match Nat.ble 900001 p with
      | true => xso (xlk xkA p) fun e => xb (Nat.beq e.1 0) (vp_in j e.2.1 ∧ k lc (.int (e.2.2.getD j.toNatClampNeg 0) :: r) sh I J a b)
      | false => xga sh p 0 fun n _ => vp_in j n ∧ k lc (.int (I p j.toNatClampNeg) :: r) sh I J a b)
  | .baload => xir st fun j p r => (match Nat.beq X.2.1 96 with
    | true => xso (xlk xkA p) fun e => xb (Nat.beq e.1 1) (vp_in j e.2.1 ∧ k lc (.int (e.2.2.getD j.toNatClampNeg 0) :: r) sh I J a b)
    | false => xga sh p 1 fun n _ => vp_in j n ∧ k lc (.int (I p j.toNatClampNeg) :: r) sh I J a b)
  | .laload => xir st fun j p r => xga sh p 2 fun n _ => vp_in j n ∧ k lc (.long (J p j.toNatClampNeg) :: r) sh I J a b
  | .aaload => xir st fun j p r => xga sh p 3 fun n rs => vp_in j n ∧ k lc (xref rs j.toNatClampNeg :: r) sh I J a b
  | .iastore => xvir st fun v j p r => xga sh p 0 fun n _ => match v with
    | .int x => vp_in j n ∧ k lc r sh (uI I p j.toNatClampNeg x) J a b
    | _ => False
  | .bastore => xvir st fun v j p r => xga sh p 1 fun n _ => match v with
    | .int x => vp_in j n ∧ k lc r sh (uI I p j.toNatClampNeg (vp_nar .byte x)) J a b
    | _ => False
  | .lastore => xvir st fun v j p r => xga sh p 2 fun n _ => match v with
    | .long x => vp_in j n ∧ k lc r sh I (uJ J p j.toNatClampNeg x) a b
    | _ => False
  | .aastore => xvir st fun v j p r => xga sh p 3 fun n rs => match v with
    | .ref x => (match xn sh x with
      | some (.inl o) => xb (Nat.beq o.1 8) (vp_in j n ∧ xin (xn rs j.toNatClampNeg) (k lc r (xset sh p (.inr (3, n, xsetR rs j.toNatClampNeg (some x)))) I J a b))
      | _ => False)
    | _ => False
  | .ldc2_w idx => xso (xlk X.2.2.2.2.1 idx) fun e => k lc (.long e.1 :: st) sh I J a b
  | .ldc idx => (match xk2 xkD X.2.1 idx with
    | some p => k lc (.ref p :: st) sh I J a b
    | none => xso (xlk X.2.2.2.2.2.1 idx) fun e => k lc (.int e.1 :: st) sh I J a b)
  | .ldc_w idx => xso (xlk X.2.2.2.2.2.1 idx) fun e => k lc (.int e.1 :: st) sh I J a b
  | .new idx => xso (xlk X.2.2.2.2.2.2 idx) fun e => xb (xnw al n0 mc ms lc st sh a b (xN e.1)) (k lc (.ref sh.length :: st) (sh ++ [.inl (e.1, List.replicate (xN e.1) none)]) (zI I sh.length) J (a + 1) (b + xN e.1))
  | .newarray t => xi1 st fun n r => xb (Nat.blt (xkd t) 3 && !(decide (n < 0)) && xnw al n0 mc ms lc r sh a b n.toNatClampNeg) (k lc (.ref sh.length :: r) (sh ++ [.inr (xkd t, n.toNatClampNeg, [])]) (zI I sh.length) (zJ J sh.length) (a + 1) (b + n.toNatClampNeg))
  | .anewarray idx => xi1 st fun n r => xso (xlk X.2.2.2.2.2.2 idx) fun e => xb (Nat.beq e.1 8 && !(decide (n < 0)) && xnw al n0 mc ms lc r sh a b n.toNatClampNeg) (k lc (.ref sh.length :: r) (sh ++ [.inr (3, n.toNatClampNeg, List.replicate n.toNatClampNeg none)]) I J (a + 1) (b + n.toNatClampNeg))
  | .invokespecial idx => xso (xlk X.2.2.2.1 idx) fun e => xb (Nat.beq e.1 11) (xr1 st fun _ r => xb (Nat.ble (xcs r) 8) (k lc r sh I J a b))
  | .invokestatic idx => xso (xlk X.2.2.2.1 idx) fun e => (match e.1 with
      | 5 => xii st fun x y r => xb (Nat.ble (xcs r) 8 && Nat.ble a mc && Nat.ble b ms) (k lc (.int (if y < x then y else x) :: r) sh I J a b)
      | 6 => xii st fun x y r => xb (Nat.ble (xcs r) 8 && Nat.ble a mc && Nat.ble b ms) (k lc (.int (if x < y then y else x) :: r) sh I J a b)
      | 7 => xi1 st fun x r => xb (Nat.ble (xcs r) 8 && Nat.ble a mc && Nat.ble b ms) (k lc (.int (if 0 ≤ x then x else 0 - x) :: r) sh I J a b)
      | 8 => xl2 st fun x y r => xb (Nat.ble (xcs r) 8 && Nat.ble a mc && Nat.ble b ms) (k lc (.long (if y < x then y else x) :: r) sh I J a b)
      | 9 => xl2 st fun x y r => xb (Nat.ble (xcs r) 8 && Nat.ble a mc && Nat.ble b ms) (k lc (.long (if y < x then x else y) :: r) sh I J a b)
      | 10 => xi1 st fun n r1 => xir r1 fun dp p1 r2 => xir r2 fun sp p0 r => xb (Nat.ble (xcs r) 8) (xga sh p0 0 fun n0 _ => xga sh p1 0 fun n1 _ => (¬ sp < 0 ∧ ¬ dp < 0 ∧ ¬ n < 0 ∧ sp.toNatClampNeg + n.toNatClampNeg ≤ n0 ∧ dp.toNatClampNeg + n.toNatClampNeg ≤ n1) ∧ k lc r sh (cI I p0 p1 sp.toNatClampNeg dp.toNatClampNeg n.toNatClampNeg) J a b)
      | _ => False)
  | _ => False
