-- ===== stops, measures, a method =====
def aS0 (C : AC) (Wm : List Nat) (Wf : Bool) (G : List (Nat × AK)) (dep : Nat) (posts : List AP) (X : XX) (rt : Option FieldType) (t : XT) (stop : List Nat) (kk : Nat → AS → Bool) (rn : XT → AS → Bool) (es : XT) (S : AS) : Bool := match es with
  | [] => false
  | e :: r => aS C Wm Wf G dep posts X rt t stop kk rn e.1 e.2.2 r e.2.1 S
def aW (C : AC) (Wm : List Nat) (Wf : Bool) (G : List (Nat × AK)) (dep : Nat) (posts : List AP) (X : XX) (rt : Option FieldType) (t : XT) (stop : List Nat) (kk : Nat → AS → Bool) (n : Nat) : XT → AS → Bool := Nat.rec (fun _ _ => false) (fun _ rn => aS0 C Wm Wf G dep posts X rt t stop kk rn) n
def aN (C : AC) (Wm : List Nat) (Wf : Bool) (G : List (Nat × AK)) (dep : Nat) (posts : List AP) (X : XX) (rt : Option FieldType) (t : XT) (stop : List Nat) (kk : Nat → AS → Bool) (pc : Nat) (S : AS) : Bool := match xdrop t pc with
  | [] => false
  | e :: r => (match Nat.beq e.1 pc with
    | true => aW C Wm Wf G dep posts X rt t stop kk 1200 (e :: r) S
    | false => false)
def srcA (S : AS) (s : Nat × Nat × Nat) : Option (Nat × Int) := match s.1 with
  | 0 => (match xn S.2.1 s.2.1 with
    | some (.inl q) => some q
    | _ => none)
  | 1 => (match xn S.2.2.1 s.2.1 with
    | some (.inl q) => some q
    | _ => none)
  | _ => tF S.2.2.2 s.2.1 s.2.2
def sigA (S : AS) : List (Nat × Nat × Nat) → Option (List (Nat × Int))
  | [] => some []
  | s :: l => match srcA S s, sigA S l with
    | some q, some r => some (q :: r)
    | _, _ => none
def idS : Nat → Nat → List (Nat × Int)
  | _, 0 => []
  | i, n + 1 => (i, 0) :: idS (i + 1) n
def sgE (E : AE) : List (Nat × Int) → AE → Bool
  | [], [] => true
  | q :: s, r :: F => (match iv E q with
    | some a => rsub a r
    | none => false) && sgE E s F
  | _, _ => false
def nuM (sig : List (Nat × Int)) (q' q : Nat × Int) : Bool := match xn sig q'.1 with
  | some s => Nat.beq s.1 q.1 && decide (s.2 + q'.2 = q.2)
  | none => false
def avM (sig : List (Nat × Int)) (a' a : AV) : Bool := match a', a with
  | .inr (.inr 0), _ => true
  | .inl q', .inl q => nuM sig q' q
  | .inr (.inl ps'), .inr (.inl ps) => nsub ps ps'
  | .inr (.inr 1), .inr (.inr n) => lgT (.inr (.inr n))
  | .inr (.inr 2), .inr (.inr 2) => true
  | _, _ => false
def lsM (sig : List (Nat × Int)) : List AV → List AV → Bool
  | [], _ => true
  | a' :: L', a :: L => avM sig a' a && lsM sig L' L
  | _ :: _, [] => false
def tsM (sig : List (Nat × Int)) : List AV → List AV → Bool
  | [], [] => true
  | a' :: L', a :: L => avM sig a' a && tsM sig L' L
  | _, _ => false
def trM (sig : List (Nat × Int)) (T' T : AT) : Bool := T'.all fun e => match tF T e.1 e.2.1 with
  | some q => nuM sig e.2.2 q
  | none => false
def trD (C : AC) (E : AE) (T' T : AT) : Bool := T.all fun e => (match tF T' e.1 e.2.1 with
  | some _ => true
  | none => (match iv E e.2.2 with
    | some r => rsub r (cellI C e.1 e.2.1)
    | none => false))
-- linear forms
def dot : List Int → List Int → Int
  | a :: as, b :: bs => a * b + dot as bs
  | _, _ => 0
def addAt : List Int → Nat → Int → List Int
  | [], _, _ => []
  | a :: l, 0, x => (a + x) :: l
  | a :: l, n + 1, x => a :: addAt l n x
def ubL : List Int → AE → Int
  | d :: ds, r :: E => (match ile 0 d with
    | true => d * r.2
    | false => d * r.1) + ubL ds E
  | _, _ => 0
def dSig : List Int → List (Nat × Int) → List Int → List Int
  | k :: ks, s :: ss, D => dSig ks ss (addAt D s.1 k)
  | _, _, D => D
def kSig : List Int → List (Nat × Int) → Int
  | k :: ks, s :: ss => k * s.2 + kSig ks ss
  | _, _ => 0
def padN : List Int → Nat → List Int
  | _, 0 => []
  | [], n + 1 => 0 :: padN [] n
  | a :: l, n + 1 => (-a) :: padN l n
def muV (u : Int × List Int) (R : List Int) : Int := u.1 + dot u.2 R
/-- the measure u' after sig is below u before -/
def muL (E : AE) (sig : List (Nat × Int)) (u' u : Int × List Int) : Bool := ile (u'.1 - u.1 + kSig u'.2 sig + ubL (dSig u'.2 sig (padN u.2 E.length)) E) (-1)
def valS (R : List Int) (sig : List (Nat × Int)) : List Int := sig.map fun s => (xn R s.1).getD 0 + s.2
/-- the abstract state S is one of A's; m numbers are the arguments' -/
def aMat (C : AC) (m : Nat) (A : AA) (S : AS) (f : List (Nat × Int) → Bool) : Bool := match sigA S A.2.2.2.2.1 with
  | some s => sgE S.1 (idS 0 m ++ s) A.1 && lsM (idS 0 m ++ s) A.2.1 S.2.1 && tsM (idS 0 m ++ s) A.2.2.1 S.2.2.1 && trM (idS 0 m ++ s) A.2.2.2.1 S.2.2.2 && trD C S.1 A.2.2.2.1 S.2.2.2 && f (idS 0 m ++ s)
  | none => false
def kkA (C : AC) (m : Nat) (anns : List (Nat × AA)) (u : Option (Int × List Int)) (g : Nat) (S : AS) : Bool := match xlk anns g with
  | some A => aMat C m A S fun sig => (match u with
    | some u => muL S.1 sig A.2.2.2.2.2 u
    | none => true)
  | none => false
theorem dot_addAt : ∀ {D R : List Int} {v : Nat} {x z : Int}, D.length = R.length → xn R v = some z → dot (addAt D v x) R = dot D R + x * z
  | a :: D, b :: R, 0, x, z, _, h => by
    cases h
    show (a + x) * b + dot D R = a * b + dot D R + x * b
    rw [Int.add_mul]
    omega
  | a :: D, b :: R, v + 1, x, z, hl, h => by
    have ih := dot_addAt (D := D) (R := R) (v := v) (x := x) (z := z) (by simpa using hl) h
    show a * b + dot (addAt D v x) R = a * b + dot D R + x * z
    rw [ih]
    omega
  | [], [], _, _, _, _, h => by cases h
  | [], _ :: _, _, _, _, hl, _ => by cases hl
  | _ :: _, [], _, _, _, hl, _ => by cases hl
theorem addAt_len : ∀ {D : List Int} {v : Nat} {x : Int}, (addAt D v x).length = D.length
  | [], _, _ => rfl
  | _ :: _, 0, _ => rfl
  | a :: D, v + 1, x => by
    show (addAt D v x).length + 1 = D.length + 1
    rw [addAt_len]
theorem padN_len : ∀ {l : List Int} {n : Nat}, (padN l n).length = n
  | [], 0 => rfl
  | _ :: _, 0 => rfl
  | [], n + 1 => by
    show (padN [] n).length + 1 = n + 1
    rw [padN_len]
  | a :: l, n + 1 => by
    show (padN l n).length + 1 = n + 1
    rw [padN_len]
theorem padN_nil : ∀ {R : List Int}, dot (padN [] R.length) R = 0
  | [] => rfl
  | b :: R => by
    show 0 * b + dot (padN [] R.length) R = 0
    rw [padN_nil]
    omega
theorem dot_pad : ∀ {l R0 R : List Int}, l.length ≤ R0.length → (∀ i z, xn R0 i = some z → xn R i = some z) → dot (padN l R.length) R = - dot l R0
  | [], R0, R, _, _ => by
    rw [padN_nil]
    show (0 : Int) = -0
    rfl
  | a :: l, b :: R0, c :: R, hl, h => by
    have ih := dot_pad (l := l) (R0 := R0) (R := R) (by simpa using hl) (fun i z hz => h (i + 1) z hz)
    have h0 := h 0 b rfl
    cases h0
    show -a * b + dot (padN l R.length) R = -(a * b + dot l R0)
    rw [ih, Int.neg_mul]
    omega
  | a :: l, [], _, hl, _ => by cases hl
  | a :: l, b :: R0, [], _, h => by
    have := h 0 b rfl
    cases this
theorem ubL_ok : ∀ {D : List Int} {E : AE} {R : List Int}, R.length = E.length → (∀ i z r, xn R i = some z → xn E i = some r → inI r z) → dot D R ≤ ubL D E
  | [], _, [], _, _ => Int.le_refl _
  | [], _, _ :: _, _, _ => Int.le_refl _
  | d :: D, [], [], _, _ => Int.le_refl _
  | d :: D, r :: E, z :: R, hl, h => by
    have ih := ubL_ok (D := D) (E := E) (R := R) (by simpa using hl) (fun i y q h1 h2 => h (i + 1) y q h1 h2)
    have h0 := h 0 z r rfl rfl
    have h1 : d * z ≤ (match ile 0 d with
      | true => d * r.2
      | false => d * r.1) := by
      split
      · rename_i e
        exact Int.mul_le_mul_of_nonneg_left h0.2 (ile_el e)
      · rename_i e
        have e := of_decide_eq_false e
        exact Int.mul_le_mul_of_nonpos_left (by omega) h0.1
    show d * z + dot D R ≤ _ + ubL D E
    exact Int.add_le_add h1 ih
  | d :: D, [], _ :: _, hl, _ => by cases hl
  | d :: D, _ :: _, [], hl, _ => by cases hl
theorem dSig_ok : ∀ {ks : List Int} {sig : List (Nat × Int)} {D R : List Int}, D.length = R.length → (∀ s, s ∈ sig → ∃ z, xn R s.1 = some z) → dot ks (valS R sig) = dot (dSig ks sig D) R - dot D R + kSig ks sig
  | [], [], D, R, _, _ => by
    show (0 : Int) = dot D R - dot D R + 0
    omega
  | [], _ :: _, D, R, _, _ => by
    show (0 : Int) = dot D R - dot D R + 0
    omega
  | _ :: _, [], D, R, _, _ => by
    show (0 : Int) = dot D R - dot D R + 0
    omega
  | k :: ks, s :: sig, D, R, hl, h => by
    obtain ⟨z, hz⟩ := h s List.mem_cons_self
    have ih := dSig_ok (ks := ks) (sig := sig) (D := addAt D s.1 k) (R := R) (by rw [addAt_len]; exact hl) (fun q hq => h q (List.mem_cons_of_mem _ hq))
    rw [dot_addAt hl hz] at ih
    show k * ((xn R s.1).getD 0 + s.2) + dot ks (valS R sig) = dot (dSig ks sig (addAt D s.1 k)) R - dot D R + (k * s.2 + kSig ks sig)
    rw [ih, hz]
    show k * (z + s.2) + _ = _
    rw [Int.mul_add]
    omega
theorem muL_ok {E : AE} {R R0 : List Int} {sig : List (Nat × Int)} {u' u : Int × List Int} (hE : envO R E) (h : muL E sig u' u = true) (hs : ∀ s, s ∈ sig → ∃ z, xn R s.1 = some z) (hl : u.2.length ≤ R0.length) (hp : preO R0 R) : muV u' (valS R sig) < muV u R0 := by
  have h := ile_el h
  have e1 := dSig_ok (ks := u'.2) (sig := sig) (D := padN u.2 E.length) (R := R) (by rw [padN_len, hE.1]) hs
  have e2 := dot_pad (l := u.2) (R0 := R0) (R := R) hl hp
  rw [← hE.1] at e1 h
  have e3 := ubL_ok (D := dSig u'.2 sig (padN u.2 R.length)) (E := E) (R := R) hE.1 (fun i z r h1 h2 => hE.2 i z r h1 h2)
  unfold muV
  omega
