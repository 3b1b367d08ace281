def eC1 (q : Jvm.ClassFile.Cond) (x : Int32) : Bool := match q with
  | .eq => decide (x = 0)
  | .ne => !(decide (x = 0))
  | .lt => decide (x < 0)
  | .ge => decide (0 ≤ x)
  | .gt => decide (0 < x)
  | .le => decide (x ≤ 0)
def eC2 (q : Jvm.ClassFile.Cond) (x y : Int32) : Bool := match q with
  | .eq => decide (x = y)
  | .ne => !(decide (x = y))
  | .lt => decide (x < y)
  | .ge => decide (y ≤ x)
  | .gt => decide (y < x)
  | .le => decide (x ≤ y)
theorem eC1_ok {q : Jvm.ClassFile.Cond} {x : Int32} {T F : Prop} (h : if eC1 q x = true then T else F) : xc1 q x T F := by
  cases q <;> simp only [eC1, xc1, Bool.not_eq_true', decide_eq_true_eq, decide_eq_false_iff_not] at h ⊢ <;> split at h <;> first
    | exact ⟨fun _ => h, fun z => absurd (by assumption) z⟩
    | exact ⟨fun z => absurd z (by assumption), fun _ => h⟩
    | (rename_i e; exact ⟨fun z => absurd z e, fun _ => h⟩)
    | (rename_i e; exact ⟨fun _ => h, fun z => absurd z e⟩)
    | (rename_i e; exact ⟨fun z => absurd z e, fun z => h⟩)
theorem eC2_ok {q : Jvm.ClassFile.Cond} {x y : Int32} {T F : Prop} (h : if eC2 q x y = true then T else F) : xc2 q x y T F := by
  cases q <;> simp only [eC2, xc2, Bool.not_eq_true', decide_eq_true_eq, decide_eq_false_iff_not] at h ⊢ <;> split at h <;> first
    | exact ⟨fun _ => h, fun z => absurd (by assumption) z⟩
    | exact ⟨fun z => absurd z (by assumption), fun _ => h⟩
    | (rename_i e; exact ⟨fun z => absurd z e, fun _ => h⟩)
    | (rename_i e; exact ⟨fun _ => h, fun z => absurd z e⟩)
abbrev XKK : Type := Nat → List (Option Value) → List Value → Option XQ
abbrev XRN : Type := XT → List (Option Value) → List Value → Option XQ
def ejmp (t : XT) (stop : List Nat) (kk : XKK) (rn : XRN) (tg : Int) (lc : List (Option Value)) (st : List Value) : Option XQ := match tg with
  | .ofNat g => (match xmem stop g with
    | true => kk g lc st
    | false => (match xdrop t g with
      | [] => none
      | e :: r => (match Nat.beq e.1 g with
        | true => rn (e :: r) lc st
        | false => none)))
  | _ => none
def enxt (stop : List Nat) (kk : XKK) (rn : XRN) (es : XT) (g : Nat) (lc : List (Option Value)) (st : List Value) : Option XQ := match es with
  | [] => none
  | e :: r => (match Nat.beq e.1 g with
    | true => (match xmem stop g with
      | true => kk g lc st
      | false => rn (e :: r) lc st)
    | false => none)
def eS (X : XX) (t : XT) (stop : List Nat) (kk : XKK) (rn : XRN) (pc ln : Nat) (es : XT) (i : Jvm.ClassFile.Instr) (lc : List (Option Value)) (st : List Value) : Option XQ := match i with
  | .goto off => (match Nat.beq ln 3 with
    | true => ejmp t stop kk rn (pc + off) lc st
    | false => none)
  | .ifCond q off => (match Nat.beq ln 3 && decide (0 ≤ (pc : Int) + off), st with
    | true, .int x :: r => (match eC1 q x with
      | true => ejmp t stop kk rn (pc + off) lc r
      | false => enxt stop kk rn es (pc + 3) lc r)
    | _, _ => none)
  | .if_icmp q off => (match Nat.beq ln 3 && decide (0 ≤ (pc : Int) + off), st with
    | true, .int y :: .int x :: r => (match eC2 q x y with
      | true => ejmp t stop kk rn (pc + off) lc r
      | false => enxt stop kk rn es (pc + 3) lc r)
    | _, _ => none)
  | .invokestatic _ => none
  | .invokevirtual _ => none
  | .invokespecial _ => none
  | .tableswitch _ _ _ _ => none
  | .lookupswitch _ _ => none
  | .ifnonnull _ => none
  | .ireturn => none
  | .lreturn => none
  | .areturn => none
  | .return_ => none
  | j => (match Nat.beq ln (xlen j), eI X j lc st with
    | true, some q => enxt stop kk rn es (pc + xlen j) q.1 q.2
    | _, _ => none)
def eS0 (X : XX) (t : XT) (stop : List Nat) (kk : XKK) (rn : XRN) (es : XT) (lc : List (Option Value)) (st : List Value) : Option XQ := match es with
  | [] => none
  | e :: r => eS X t stop kk rn e.1 e.2.2 r e.2.1 lc st
def eW (X : XX) (t : XT) (stop : List Nat) (kk : XKK) (n : Nat) : XRN := Nat.rec (fun _ _ _ => none) (fun _ rn => eS0 X t stop kk rn) n
def eN (X : XX) (t : XT) (stop : List Nat) (tg : Nat) (K : XKK) (pc : Nat) (lc : List (Option Value)) (st : List Value) : Option XQ := match xdrop t pc with
  | [] => none
  | e :: r => (match Nat.beq e.1 pc with
    | true => eW X t stop (fun g lc st => match Nat.beq g tg with
      | true => some (lc, st)
      | false => K g lc st) 1200 (e :: r) lc st
    | false => none)
def eRun (X : XX) (t : XT) (stop : List Nat) (tg : Nat) (m : Nat) : XKK := Nat.rec (fun _ _ _ => none) (fun _ K => eN X t stop tg K) m
section ERUN
variable {X : XX} {rt : Option FieldType} {ini al : Bool} {n0 mc ms : Nat} {sc : XS} {l : Launch} {d : Nat} {t : XT} {stop : List Nat} {Rp : XR} {K : Nat → XP} {sh : List XO} {I : XI} {J : XJ} {a b : Nat} {w : XQ} {kk : XKK}
theorem ejmp_ok {rn : XRN} {rn' : XT → XP} (hK : ∀ g lc st, kk g lc st = some w → K g lc st sh I J a b) (hr : ∀ es lc st, rn es lc st = some w → rn' es lc st sh I J a b) {tg : Int} {lc : List (Option Value)} {st : List Value} (h : ejmp t stop kk rn tg lc st = some w) : xjmp t stop K rn' tg lc st sh I J a b := by
  unfold ejmp at h
  unfold xjmp
  split at h
  · rename_i g
    try dsimp only
    split at h
    · rename_i e
      try rw [e]
      exact hK _ _ _ h
    · rename_i e
      try rw [e]
      try dsimp only
      split at h
      · cases h
      · rename_i e' r he
        try rw [he]
        try dsimp only
        split at h
        · rename_i e2
          try rw [e2]
          exact hr _ _ _ h
        · cases h
  · cases h
theorem xb_mk {c : Bool} {P : Prop} (h : c = true) (hp : P) : xb c P := by
  rw [h]
  exact hp
theorem enxt_ok {rn : XRN} {rn' : XT → XP} (hK : ∀ g lc st, kk g lc st = some w → K g lc st sh I J a b) (hr : ∀ es lc st, rn es lc st = some w → rn' es lc st sh I J a b) {es : XT} {g : Nat} {lc : List (Option Value)} {st : List Value} (h : enxt stop kk rn es g lc st = some w) : xnxt stop K rn' es g lc st sh I J a b := by
  unfold enxt at h
  unfold xnxt
  split at h
  · cases h
  · rename_i e' r
    try dsimp only
    split at h
    · rename_i e2
      refine xb_mk e2 ?_
      split at h
      · rename_i e3
        try rw [e3]
        exact hK _ _ _ h
      · rename_i e3
        try rw [e3]
        exact hr _ _ _ h
    · cases h
set_option maxHeartbeats 4000000 in
theorem eS_ok {rn : XRN} {rn' : XT → XP} (hK : ∀ g lc st, kk g lc st = some w → K g lc st sh I J a b) (hr : ∀ es lc st, rn es lc st = some w → rn' es lc st sh I J a b) {pc ln : Nat} {es : XT} {i : Jvm.ClassFile.Instr} {lc : List (Option Value)} {st : List Value} (h : eS X t stop kk rn pc ln es i lc st = some w) : xst X rt ini al n0 mc ms sc l d t stop K Rp rn' pc ln es i lc st sh I J a b := by
  cases i with
  | goto off =>
    dsimp only [eS] at h
    split at h
    · rename_i e
      exact xb_mk e (ejmp_ok hK hr h)
    · cases h
  | ifCond q off =>
    dsimp only [eS] at h
    split at h
    · rename_i x r e
      refine xb_mk e ?_
      show xc1 q x _ _
      apply eC1_ok
      split at h
      · rename_i e2
        rw [if_pos e2]
        exact ejmp_ok hK hr h
      · rename_i e2
        rw [if_neg (by rw [e2]; decide)]
        exact enxt_ok hK hr h
    · cases h
  | if_icmp q off =>
    dsimp only [eS] at h
    split at h
    · rename_i y x r e
      refine xb_mk e ?_
      show xc2 q x y _ _
      apply eC2_ok
      split at h
      · rename_i e2
        rw [if_pos e2]
        exact ejmp_ok hK hr h
      · rename_i e2
        rw [if_neg (by rw [e2]; decide)]
        exact enxt_ok hK hr h
    · cases h
  | invokestatic _ => cases h
  | invokevirtual _ => cases h
  | invokespecial _ => cases h
  | tableswitch _ _ _ _ => cases h
  | lookupswitch _ _ => cases h
  | ifnonnull _ => cases h
  | ireturn => cases h
  | lreturn => cases h
  | areturn => cases h
  | return_ => cases h
  | _ =>
    dsimp only [eS] at h
    split at h
    · rename_i q e1 e2
      exact xb_mk e1 (eI_ok e2 (enxt_ok hK hr h))
    · cases h
theorem eW_ok (hK : ∀ g lc st, kk g lc st = some w → K g lc st sh I J a b) : ∀ (n : Nat) (es : XT) (lc : List (Option Value)) (st : List Value), eW X t stop kk n es lc st = some w → xwp X rt ini al n0 mc ms sc l d t stop K Rp n es lc st sh I J a b := by
  intro n
  induction n with
  | zero =>
    intro es lc st h
    cases h
  | succ n ih =>
    intro es lc st h
    replace h : eS0 X t stop kk (eW X t stop kk n) es lc st = some w := h
    show xst0 X rt ini al n0 mc ms sc l d t stop K Rp (xwp X rt ini al n0 mc ms sc l d t stop K Rp n) es lc st sh I J a b
    unfold eS0 at h
    unfold xst0
    split at h
    · cases h
    · exact eS_ok hK ih h
theorem eRun_ok {tg : Nat} : ∀ (m : Nat) (n : Nat), (∀ j, xrun X rt ini al n0 mc ms sc l d t stop Rp (n + j) tg w.1 w.2 sh I J a b) → ∀ (pc : Nat) (lc : List (Option Value)) (st : List Value), eRun X t stop tg m pc lc st = some w → xrun X rt ini al n0 mc ms sc l d t stop Rp (n + m) pc lc st sh I J a b := by
  intro m n hn
  induction m with
  | zero =>
    intro pc lc st h
    cases h
  | succ m ih =>
    intro pc lc st h
    replace h : eN X t stop tg (eRun X t stop tg m) pc lc st = some w := h
    show xrn X rt ini al n0 mc ms sc l d t stop Rp (xrun X rt ini al n0 mc ms sc l d t stop Rp (n + m)) pc lc st sh I J a b
    unfold eN at h
    unfold xrn
    split at h
    · cases h
    · rename_i e r he
      try rw [he]
      try dsimp only
      split at h
      · rename_i e1
        refine xb_mk e1 (eW_ok (kk := fun g lc st => match Nat.beq g tg with
          | true => some (lc, st)
          | false => eRun X t stop tg m g lc st) ?_ 1200 _ _ _ h)
        intro g lc st hg
        split at hg
        · rename_i e2
          have e3 := Nat.eq_of_beq_eq_true e2
          subst e3
          cases hg
          exact hn m
        · exact ih _ _ _ hg
      · cases h
end ERUN
