-- ===== control flow and calls =====
def xmem : List Nat → Nat → Bool
  | [], _ => false
  | a :: l, g => match Nat.beq a g with
    | true => true
    | false => xmem l g
def xdrop : XT → Nat → XT
  | [], _ => []
  | e :: r, g => match Nat.beq e.1 g with
    | true => e :: r
    | false => xdrop r g
theorem xdrop_sub : ∀ {t : XT} {g : Nat}, ∀ e ∈ xdrop t g, e ∈ t
  | [], g, e, h => by simp [xdrop] at h
  | a :: t, g, e, h => by
    unfold xdrop at h
    split at h
    · exact h
    · exact List.mem_cons_of_mem _ (xdrop_sub e h)
def xjmp (t : XT) (stop : List Nat) (K : Nat → XP) (rn : XT → XP) (tg : Int) : XP := fun lc st sh I J a b => match tg with
  | .ofNat g => (match xmem stop g with
    | true => K g lc st sh I J a b
    | false => (match xdrop t g with
      | [] => False
      | e :: r => xb (Nat.beq e.1 g) (rn (e :: r) lc st sh I J a b)))
  | _ => False
def xnxt (stop : List Nat) (K : Nat → XP) (rn : XT → XP) (es : XT) (g : Nat) : XP := fun lc st sh I J a b => match es with
  | [] => False
  | e :: r => xb (Nat.beq e.1 g) (match xmem stop g with
    | true => K g lc st sh I J a b
    | false => rn (e :: r) lc st sh I J a b)
def xc1 (q : Jvm.ClassFile.Cond) (x : Int32) (T F : Prop) : Prop := match q with
  | .eq => (x = 0 → T) ∧ (¬ x = 0 → F)
  | .ne => (¬ x = 0 → T) ∧ (x = 0 → F)
  | .lt => (x < 0 → T) ∧ (¬ x < 0 → F)
  | .ge => (0 ≤ x → T) ∧ (¬ 0 ≤ x → F)
  | .gt => (0 < x → T) ∧ (¬ 0 < x → F)
  | .le => (x ≤ 0 → T) ∧ (¬ x ≤ 0 → F)
def xc2 (q : Jvm.ClassFile.Cond) (x y : Int32) (T F : Prop) : Prop := match q with
  | .eq => (x = y → T) ∧ (¬ x = y → F)
  | .ne => (¬ x = y → T) ∧ (x = y → F)
  | .lt => (x < y → T) ∧ (¬ x < y → F)
  | .ge => (y ≤ x → T) ∧ (¬ y ≤ x → F)
  | .gt => (y < x → T) ∧ (¬ y < x → F)
  | .le => (x ≤ y → T) ∧ (¬ x ≤ y → F)
def xsw (x : Int32) (d : Int) (jp : Int → Prop) : List (Int × Int) → Prop
  | [] => jp d
  | q :: ps => (x = Int32.ofInt q.1 → jp q.2) ∧ (¬ x = Int32.ofInt q.1 → xsw x d jp ps)
def xtp : Int → List Int → List (Int × Int)
  | _, [] => []
  | lo, o :: os => (lo, o) :: xtp (lo + 1) os
def xrg (ps : List (Int × Int)) : Bool := ps.all (fun q => decide ((Int32.ofInt q.1).toInt = q.1))
def xnl (st : List Value) (P : Prop) : Prop := match st with
  | [] => P
  | _ => False
def xrt (rt : Option FieldType) (x : Int32) (P : Prop) : Prop := match rt with
  | some .int => P
  | some .boolean => (x = 0 ∨ x = 1) ∧ P
  | some .char => narrow .char (.int x) = .int x ∧ P
  | some .byte => narrow .byte (.int x) = .int x ∧ P
  | _ => False
def xra (rt : Option FieldType) (P : Prop) : Prop := match rt with
  | some (.object _) => P
  | some (.array _) => P
  | _ => False
def xtk : Nat → List Value → List Value → Option (List Value × List Value)
  | 0, r, acc => some (acc, r)
  | n + 1, v :: r, acc => xtk n r (v :: acc)
  | _ + 1, [], _ => none
theorem xtk_spec : ∀ {n : Nat} {st acc as r : List Value}, xtk n st acc = some (as, r) → ∃ bs, as = bs.reverse ++ acc ∧ st = bs ++ r ∧ bs.length = n
  | 0, st, acc, as, r, h => by
    simp only [xtk, Option.some.injEq, Prod.mk.injEq] at h
    exact ⟨[], by simp [h.1], by simp [h.2], rfl⟩
  | n + 1, v :: st, acc, as, r, h => by
    obtain ⟨bs, h1, h2, h3⟩ := xtk_spec (n := n) h
    exact ⟨v :: bs, by rw [h1]; simp, by rw [h2]; simp, by simp [h3]⟩
  | n + 1, [], acc, as, r, h => by simp [xtk] at h
def xok (n : Nat) (v : Value) : Bool := match v with
  | .ref k => Nat.blt k n || Nat.ble 900000 k
  | _ => true
def xokl (n : Nat) (o : Option Value) : Bool := match o with
  | some v => xok n v
  | none => true
/-- room and references around a call that makes mc cells of ms slots -/
def xbud (al : Bool) (n0 mc ms : Nat) (lc : List (Option Value)) (r : List Value) (sh : List XO) (a b mc' ms' : Nat) : Bool := Nat.ble (xcs r) 8 && Nat.ble (a + mc') mc && Nat.ble (b + ms') ms && (Nat.beq mc' 0 || (al && Nat.ble n0 sh.length && lc.all (xokl sh.length) && r.all (xok sh.length)))
def xwsM (M : XM) : List Cond := .code M.1 M.2.1 M.2.2.1 M.2.2.2 :: xgt
def xrm (d mc ms : Nat) : Room := { frames := d, cells := mc, slots := ms, locals := 60 * d }
def xPc (D : XD) (ρ : Nat → Nat) (as : List Value) (sh : List XO) (I : XI) (J : XJ) (sz : Nat) : Array Value → State → Prop := va_Pc (as.map (xv ρ)) (fun U => U.heap.size = sz ∧ va_P D.1 vwCl (wl D ρ sh I J) U.heap ∧ va_K D.1 vwCl (xtys D) U ∧ va_D (fun _ => True) (wl D ρ sh I J) ∧ xE ρ (va_A (wl D ρ sh I J) sz) U U.heap)
def xQc (al : Bool) (D : XD) (ρ : Nat → Nat) (sh : List XO) (I : XI) (J : XJ) (sz : Nat) (Rp : XR) : Array Value → State → Outcome → State → Prop := fun _ st o t =>
  (∃ (v : Option Value) (ρ' : Nat → Nat) (sh' : List XO) (I' : XI) (J' : XJ), Rp v sh' I' J' ∧ xrel al sh.length ρ ρ' ∧ o = .returned (v.map (xv ρ')) ∧ va_P D.1 vwCl (wl D ρ' sh' I' J') t.heap ∧ va_D (va_A (wl D ρ sh I J) sz) (wl D ρ' sh' I' J')) ∧ va_F (va_A (wl D ρ sh I J) sz) st t
/-- a method's contract over abstract heaps -/
def xm (l : Launch) (d mc ms : Nat) (M : XM) (as : List Value) (sh : List XO) (I : XI) (J : XJ) (Rp : XR) : Prop :=
  ∀ (D : XD) (ρ : Nat → Nat) (sz : Nat), Met l M.1 (xwsM M) (xrm d mc ms) (xPc D ρ as sh I J sz) (xQc (!(Nat.beq mc 0)) D ρ sh I J sz Rp) mc ms (va_A (wl D ρ sh I J) sz)
def xcv (X : XX) (al : Bool) (n0 mc ms : Nat) (l : Launch) (d : Nat) (idx : Nat) (lc : List (Option Value)) (st : List Value) (sh : List XO) (I : XI) (J : XJ) (a b : Nat) (nx : XP) : Prop := xso (xlk X.2.2.2.1 idx) fun e => xso (xn xds e.2.2.1) fun q => xso (xtk q.2 st []) fun ar => xr1 ar.2 fun p r => (match Nat.ble 900001 p with
 | true => xso (xlk xkS p) fun _ => xb (Nat.beq e.1 113 && xbud al n0 mc ms lc r sh a b e.2.2.2.1.1 e.2.2.2.1.2) (xm l d e.2.2.2.1.1 e.2.2.2.1.2 e.2.1 (.ref p :: ar.1) sh I J fun v sh' I' J' => nx lc (v.toList ++ r) sh' I' J' (a + e.2.2.2.1.1) (b + e.2.2.2.1.2))
 | false => (match xn sh p with
  | some (.inl o) => xb (Nat.beq e.1 (100 + o.1) && Nat.blt o.1 13 && xbud al n0 mc ms lc r sh a b e.2.2.2.1.1 e.2.2.2.1.2) (xm l d e.2.2.2.1.1 e.2.2.2.1.2 e.2.1 (.ref p :: ar.1) sh I J fun v sh' I' J' => nx lc (v.toList ++ r) sh' I' J' (a + e.2.2.2.1.1) (b + e.2.2.2.1.2))
  | _ => False))
def xcst (X : XX) (al : Bool) (n0 mc ms : Nat) (l : Launch) (d : Nat) (e : Nat × XM × Nat × (Nat × Nat) × List Nat) (lc : List (Option Value)) (st : List Value) (sh : List XO) (I : XI) (J : XJ) (a b : Nat) (nx : XP) : Prop := xso (xn xds e.2.2.1) fun q => xso (xtk q.2 st []) fun ar => xb (xbud al n0 mc ms lc ar.2 sh a b e.2.2.2.1.1 e.2.2.2.1.2) (xm l d e.2.2.2.1.1 e.2.2.2.1.2 e.2.1 ar.1 sh I J fun v sh' I' J' => nx lc (v.toList ++ ar.2) sh' I' J' (a + e.2.2.2.1.1) (b + e.2.2.2.1.2))
def xcsp (X : XX) (al : Bool) (n0 mc ms : Nat) (l : Launch) (d : Nat) (e : Nat × XM × Nat × (Nat × Nat) × List Nat) (lc : List (Option Value)) (st : List Value) (sh : List XO) (I : XI) (J : XJ) (a b : Nat) (nx : XP) : Prop := xso (xn xds e.2.2.1) fun q => xso (xtk q.2 st []) fun ar => xr1 ar.2 fun p r => xb (xbud al n0 mc ms lc r sh a b e.2.2.2.1.1 e.2.2.2.1.2) (xm l d e.2.2.2.1.1 e.2.2.2.1.2 e.2.1 (.ref p :: ar.1) sh I J fun v sh' I' J' => nx lc (v.toList ++ r) sh' I' J' (a + e.2.2.2.1.1) (b + e.2.2.2.1.2))
def xst (X : XX) (rt : Option FieldType) (ini al : Bool) (n0 mc ms : Nat) (sc : XS) (l : Launch) (d : Nat) (t : XT) (stop : List Nat) (K : Nat → XP) (Rp : XR) (rn : XT → XP) (pc ln : Nat) (es : XT) (i : Jvm.ClassFile.Instr) : XP := fun lc st sh I J a b => match i with
  | .goto off => xb (Nat.beq ln 3) (xjmp t stop K rn (pc + off) lc st sh I J a b)
  | .ifCond q off => xb (Nat.beq ln 3 && decide (0 ≤ (pc : Int) + off)) (xi1 st fun x r => xc1 q x (xjmp t stop K rn (pc + off) lc r sh I J a b) (xnxt stop K rn es (pc + 3) lc r sh I J a b))
  | .if_icmp q off => xb (Nat.beq ln 3 && decide (0 ≤ (pc : Int) + off)) (xii st fun x y r => xc2 q x y (xjmp t stop K rn (pc + off) lc r sh I J a b) (xnxt stop K rn es (pc + 3) lc r sh I J a b))
  | .ifnonnull off => xb (Nat.beq ln 3) (xv1 st fun v r => (match v with
    | .ref _ => xjmp t stop K rn (pc + off) lc r sh I J a b
    | .null => xnxt stop K rn es (pc + 3) lc r sh I J a b
    | _ => False))
  | .tableswitch df lo hi offs => xi1 st fun x r => xb (decide (hi + 1 = lo + (offs.size : Int)) && xrg (xtp lo offs.toList)) (xsw x df (fun o => xjmp t stop K rn (pc + o) lc r sh I J a b) (xtp lo offs.toList))
  | .lookupswitch df ps => xi1 st fun x r => xb ((ps.toList.zip (ps.toList.drop 1)).all (fun (a, next) => a.1 < next.1) && xrg ps.toList) (xsw x df (fun o => xjmp t stop K rn (pc + o) lc r sh I J a b) ps.toList)
  | .ireturn => xb (Nat.beq ln 1 && Nat.ble a mc && Nat.ble b ms) (xi1 st fun x r => xnl r (xrt rt x (Rp (some (.int x)) sh I J)))
  | .lreturn => xb (Nat.beq ln 1 && Nat.ble a mc && Nat.ble b ms && decide (rt = some .long)) (xl1 st fun x r => xnl r (Rp (some (.long x)) sh I J))
  | .areturn => xb (Nat.beq ln 1 && Nat.ble a mc && Nat.ble b ms) (xr1 st fun x r => xnl r (xra rt (Rp (some (.ref x)) sh I J)))
  | .return_ => xb (Nat.beq ln 1 && Nat.ble a mc && Nat.ble b ms && rt.isNone) (xnl st (Rp none sh I J))
  | .invokevirtual idx => xb (Nat.beq ln 3) (xcv X al n0 mc ms l d idx lc st sh I J a b (xnxt stop K rn es (pc + 3)))
  | .invokestatic idx => xb (Nat.beq ln 3) (xso (xlk X.2.2.2.1 idx) fun e => (match Nat.beq (e.1 / 100) 4 with
    | true => xcst X al n0 mc ms l d e lc st sh I J a b (xnxt stop K rn es (pc + 3))
    | false => xs X ini al n0 mc ms sc (.invokestatic idx) lc st sh I J a b (xnxt stop K rn es (pc + 3))))
  | .invokespecial idx => xb (Nat.beq ln 3) (xso (xlk X.2.2.2.1 idx) fun e => (match Nat.beq (e.1 / 100) 2 || Nat.beq (e.1 / 100) 3 with
    | true => xcsp X al n0 mc ms l d e lc st sh I J a b (xnxt stop K rn es (pc + 3))
    | false => xs X ini al n0 mc ms sc (.invokespecial idx) lc st sh I J a b (xnxt stop K rn es (pc + 3))))
  | j => xb (Nat.beq ln (xlen j)) (xs X ini al n0 mc ms sc j lc st sh I J a b (xnxt stop K rn es (pc + xlen j)))
def xst0 (X : XX) (rt : Option FieldType) (ini al : Bool) (n0 mc ms : Nat) (sc : XS) (l : Launch) (d : Nat) (t : XT) (stop : List Nat) (K : Nat → XP) (Rp : XR) (rn : XT → XP) (es : XT) : XP := match es with
  | [] => fun _ _ _ _ _ _ _ => False
  | e :: r => xst X rt ini al n0 mc ms sc l d t stop K Rp rn e.1 e.2.2 r e.2.1
def xwp (X : XX) (rt : Option FieldType) (ini al : Bool) (n0 mc ms : Nat) (sc : XS) (l : Launch) (d : Nat) (t : XT) (stop : List Nat) (K : Nat → XP) (Rp : XR) (n : Nat) : XT → XP :=
  Nat.rec (fun _ _ _ _ _ _ _ _ => False) (fun _ rn => xst0 X rt ini al n0 mc ms sc l d t stop K Rp rn) n
def xrn (X : XX) (rt : Option FieldType) (ini al : Bool) (n0 mc ms : Nat) (sc : XS) (l : Launch) (d : Nat) (t : XT) (stop : List Nat) (Rp : XR) (K : Nat → XP) (pc : Nat) : XP := fun lc st sh I J a b => match xdrop t pc with
  | [] => False
  | e :: r => xb (Nat.beq e.1 pc) (xwp X rt ini al n0 mc ms sc l d t stop K Rp 1200 (e :: r) lc st sh I J a b)
def xrun (X : XX) (rt : Option FieldType) (ini al : Bool) (n0 mc ms : Nat) (sc : XS) (l : Launch) (d : Nat) (t : XT) (stop : List Nat) (Rp : XR) (n : Nat) : Nat → XP :=
  Nat.rec (fun _ _ _ _ _ _ _ _ => False) (fun _ K => xrn X rt ini al n0 mc ms sc l d t stop Rp K) n
