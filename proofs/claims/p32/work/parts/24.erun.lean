def eC1 (q : Jvm.ClassFile.Cond) (x : Int32) : Bool := match q with
  | .eq => decide (x = 0)
  | .ne => !(decide (x = 0))
  | .lt => decide (x < 0)
  | .ge => decide (0 ≤ x)
  | .gt => decide (0 < x)
  | .le => decide (x ≤ 0)
def eC2 (q : Jvm.ClassFile.Cond) (x y : Int32) : Bool := match q with
  | .eq => decide (x = y)
  | .ne => !(decide (x = y))
  | .lt => decide (x < y)
  | .ge => decide (y ≤ x)
  | .gt => decide (y < x)
  | .le => decide (x ≤ y)
abbrev XKK : Type := Nat → List (Option Value) → List Value → Option XQ
abbrev XRN : Type := XT → List (Option Value) → List Value → Option XQ
def ejmp (t : XT) (stop : List Nat) (kk : XKK) (rn : XRN) (tg : Int) (lc : List (Option Value)) (st : List Value) : Option XQ := match tg with
  | .ofNat g => (match xmem stop g with
    | true => kk g lc st
    | false => (match xdrop t g with
      | [] => none
      | e :: r => (match Nat.beq e.1 g with
        | true => rn (e :: r) lc st
        | false => none)))
  | _ => none
def enxt (stop : List Nat) (kk : XKK) (rn : XRN) (es : XT) (g : Nat) (lc : List (Option Value)) (st : List Value) : Option XQ := match es with
  | [] => none
  | e :: r => (match Nat.beq e.1 g with
    | true => (match xmem stop g with
      | true => kk g lc st
      | false => rn (e :: r) lc st)
    | false => none)
def eS (X : XX) (t : XT) (stop : List Nat) (kk : XKK) (rn : XRN) (pc ln : Nat) (es : XT) (i : Jvm.ClassFile.Instr) (lc : List (Option Value)) (st : List Value) : Option XQ := match i with
  | .goto off => (match Nat.beq ln 3 with
    | true => ejmp t stop kk rn (pc + off) lc st
    | false => none)
  | .ifCond q off => (match Nat.beq ln 3 && decide (0 ≤ (pc : Int) + off), st with
    | true, .int x :: r => (match eC1 q x with
      | true => ejmp t stop kk rn (pc + off) lc r
      | false => enxt stop kk rn es (pc + 3) lc r)
    | _, _ => none)
  | .if_icmp q off => (match Nat.beq ln 3 && decide (0 ≤ (pc : Int) + off), st with
    | true, .int y :: .int x :: r => (match eC2 q x y with
      | true => ejmp t stop kk rn (pc + off) lc r
      | false => enxt stop kk rn es (pc + 3) lc r)
    | _, _ => none)
  | .invokestatic _ => none
  | .invokevirtual _ => none
  | .invokespecial _ => none
  | .tableswitch _ _ _ _ => none
  | .lookupswitch _ _ => none
  | .ifnonnull _ => none
  | .ireturn => none
  | .lreturn => none
  | .areturn => none
  | .return_ => none
  | j => (match Nat.beq ln (xlen j), eI X j lc st with
    | true, some q => enxt stop kk rn es (pc + xlen j) q.1 q.2
    | _, _ => none)
def eS0 (X : XX) (t : XT) (stop : List Nat) (kk : XKK) (rn : XRN) (es : XT) (lc : List (Option Value)) (st : List Value) : Option XQ := match es with
  | [] => none
  | e :: r => eS X t stop kk rn e.1 e.2.2 r e.2.1 lc st
def eW (X : XX) (t : XT) (stop : List Nat) (kk : XKK) (n : Nat) : XRN := Nat.rec (fun _ _ _ => none) (fun _ rn => eS0 X t stop kk rn) n
def eN (X : XX) (t : XT) (stop : List Nat) (tg : Nat) (K : XKK) (pc : Nat) (lc : List (Option Value)) (st : List Value) : Option XQ := match xdrop t pc with
  | [] => none
  | e :: r => (match Nat.beq e.1 pc with
    | true => eW X t stop (fun g lc st => match Nat.beq g tg with
      | true => some (lc, st)
      | false => K g lc st) 1200 (e :: r) lc st
    | false => none)
section ERUN
variable {X : XX} {rt : Option FieldType} {ini al : Bool} {n0 mc ms : Nat} {sc : XS} {l : Launch} {d : Nat} {t : XT} {stop : List Nat} {Rp : XR} {K : Nat → XP} {sh : List XO} {I : XI} {J : XJ} {a b : Nat} {w : XQ} {kk : XKK}
theorem xb_mk {c : Bool} {P : Prop} (h : c = true) (hp : P) : xb c P := by
  rw [h]
  exact hp
end ERUN

