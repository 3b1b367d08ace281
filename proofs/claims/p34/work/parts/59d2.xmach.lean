section
-- ===== the orders that the machine makes =====
/-- an order, and its number -/
abbrev Odr : Type := Nat × Nat
/-- of each frame: its number, what waits in it (the last first) -/
abbrev Fdr : Type := List (Nat × List Nat)
/-- of each clause: where its orders begin, its numbers -/
abbrev Adr : Type := List (Nat × List Nat)
abbrev Wdr : Type := Fdr × List Odr × Adr
def rkn (y : Nat) : Nat := match Nat.beq y 407 with
  | true => 1
  | false => match Nat.beq y 406 with
    | true => 2
    | false => match Nat.beq y 43 || Nat.beq y 45 with
      | true => 3
      | false => 4
/-- those that wait with such a rank, as long as they do -/
def wk (r : Nat) : List Nat → List Nat × List Odr
  | [] => ([], [])
  | y :: a => match Nat.ble r (rkn y) with
    | true => ((wk r a).1, (y, 0) :: (wk r a).2)
    | false => (y :: a, [])
def x78 : List Nat → Fdr → List Odr → Fdr × List Odr
  | k :: K, d :: D, E => match Nat.beq k 7 with
    | true => x78 K D (E ++ [(402, 0)])
    | false => match Nat.beq k 8 with
      | true => x78 K D (E ++ [(403, d.1)])
      | false => (d :: D, E)
  | _, D, E => (D, E)
def x3 : List Nat → Fdr → List Odr → Fdr × List Odr
  | k :: K, d :: D, E => match Nat.beq k 3 with
    | true => x3 K D (E ++ [(405, 0)])
    | false => (d :: D, E)
  | _, D, E => (D, E)
section XMACH
variable (tk : Nat → TK)
def deN : List (Nat × Nat × Nat) → Nat → List Nat
  | [], _ => []
  | (_, _, w) :: r, j => (tk j).2.1 :: (match Nat.beq w 99 with
    | true => []
    | false => deN r (j + 2))
def z1x (K : List Nat) (X : Wdr) (o : Odr) : Wdr := ((x78 K X.1 (X.2.1 ++ [o])).1, (x78 K X.1 (X.2.1 ++ [o])).2, X.2.2)
def y1x (K : List Nat) (j : Nat) (X : Wdr) : Wdr := match Nat.beq (tk j).1 2 with
  | true => z1x K X (400, (tk j).2.1)
  | false => match Nat.beq (tk j).1 1 with
    | true => (match nmO (tk j).2.1 with
      | some n => z1x K X (401, n)
      | none => (((tk (j + 1)).2.1, []) :: X.1, X.2))
    | false => ((0, []) :: X.1, X.2)
/-- an operation begins to wait -/
def z2x (d : Nat × List Nat) (D : Fdr) (E : List Odr) (A : Adr) (y : Nat) : Wdr := ((d.1, y :: (wk (rkn y) d.2).1) :: D, E ++ (wk (rkn y) d.2).2, A)
def z2e (d : Nat × List Nat) (E : List Odr) (A : Adr) : Wdr := ([], E ++ (wk 1 d.2).2 ++ [(408, 0)], A)
def y2x (K : List Nat) (j : Nat) (X : Wdr) : Wdr := match X.1 with
  | [] => X
  | d :: D => match isOp (tk j) with
    | true => z2x d D X.2.1 X.2.2 (tk j).2.1
    | false => match K with
      | [] => X
      | t :: K' => match Nat.beq t 6 with
        | true => ((x78 K' D (X.2.1 ++ (wk 3 d.2).2)).1, (x78 K' D (X.2.1 ++ (wk 3 d.2).2)).2, X.2.2)
        | false => match Nat.beq t 4 with
          | true => (((tk j).2.1, (wk 3 d.2).1) :: D, X.2.1 ++ (wk 3 d.2).2, X.2.2)
          | false => match Nat.beq t 5 with
            | true => ((x3 K' D (X.2.1 ++ (wk 3 d.2).2 ++ [(d.1, 0)])).1, (x3 K' D (X.2.1 ++ (wk 3 d.2).2 ++ [(d.1, 0)])).2, X.2.2)
            | false => z2e d X.2.1 X.2.2
def y3x (j : Nat) (X : Wdr) : Wdr := match X.1 with
  | [] => X
  | d :: D => match isWd (tk j) 19 with
    | true => z2x d D X.2.1 X.2.2 407
    | false => match isWd (tk j) 20 with
      | true => z2x d D X.2.1 X.2.2 406
      | false => z2e d X.2.1 X.2.2
def y4x (j : Nat) (X : Wdr) : Wdr := match Nat.ble (tk j).2.1 4 with
  | true => ([(0, [])], X.2.1, X.2.2 ++ [(X.2.1.length, [])])
  | false => ([], X.2.1 ++ [(408, 0)], X.2.2 ++ [(X.2.1.length, deN tk (fmS (tk j).2.1) (j + 1))])
def xeff (s : MS) (X : Wdr) : Wdr := match s.1 with
  | 0 => ((0, []) :: X.1, X.2)
  | 1 => y1x tk s.2.1 s.2.2.2.2 X
  | 2 => y2x tk s.2.1 s.2.2.2.2 X
  | 3 => y3x tk s.2.2.2.2 X
  | _ => y4x tk s.2.2.2.2 X
theorem xeff_2 {K : List Nat} {k : Nat} {ws : List Nat} {j : Nat} {X : Wdr} : xeff tk (2, K, k, ws, j) X = y2x tk K j X := rfl
theorem xeff_3 {K : List Nat} {k : Nat} {ws : List Nat} {j : Nat} {X : Wdr} : xeff tk (3, K, k, ws, j) X = y3x tk j X := rfl
def xstep (x : MS × Wdr) : (MS × Wdr) ⊕ (Nat × Nat) := match mstep tk x.1 with
  | .inl s' => .inl (s', xeff tk x.1 x.2)
  | .inr r => .inr r
def xit : Nat → MS × Wdr → (MS × Wdr) ⊕ (Nat × Nat)
  | 0, x => .inl x
  | n + 1, x => match xstep tk x with
    | .inl x' => xit n x'
    | .inr r => .inr r
/-- it comes there, with these orders -/
def Rx (x y : MS × Wdr) : Prop := ∃ n, xit tk n x = .inl y
/-- it ends so, there, with these orders -/
def Ex (x : MS × Wdr) (r : Nat × Nat) (y : MS × Wdr) : Prop := Rx tk x y ∧ mstep tk y.1 = .inr r
variable {tk}
theorem Rx.rf (x : MS × Wdr) : Rx tk x x := ⟨0, rfl⟩
theorem xit_s {n : Nat} {x x' : MS × Wdr} (h : xstep tk x = .inl x') : xit tk (n + 1) x = xit tk n x' := by rw [xit, h]
theorem Rx.one {s s' : MS} {X X' : Wdr} (h : mstep tk s = .inl s') (e : xeff tk s X = X') : Rx tk (s, X) (s', X') := by
  refine ⟨1, ?_⟩
  have y : xstep tk (s, X) = .inl (s', X') := by
    unfold xstep
    dsimp only
    rw [h, e]
  rw [xit_s y]
  rfl
theorem xit_add : ∀ (n m : Nat) (x x' : MS × Wdr), xit tk n x = .inl x' → xit tk (n + m) x = xit tk m x'
  | 0, m, x, x', h => by
    have e : x = x' := Sum.inl.inj h
    rw [Nat.zero_add, e]
  | n + 1, m, x, x', h => by
    unfold xit at h
    split at h
    · rename_i t e
      rw [show n + 1 + m = (n + m) + 1 by omega, xit_s e]
      exact xit_add n m _ _ h
    · cases h
theorem Rx.tr {x y z : MS × Wdr} (h : Rx tk x y) (g : Rx tk y z) : Rx tk x z := by
  obtain ⟨n, h⟩ := h
  obtain ⟨m, g⟩ := g
  exact ⟨n + m, (xit_add n m _ _ h).trans g⟩
theorem Ex.pre {x y z : MS × Wdr} {r : Nat × Nat} (h : Rx tk x y) (g : Ex tk y r z) : Ex tk x r z := ⟨h.tr g.1, g.2⟩
theorem xit_end {n : Nat} {x y : MS × Wdr} {r : Nat × Nat} (h : xit tk n x = .inl y) (g : mstep tk y.1 = .inr r) : ∀ m (y' : MS × Wdr) (r' : Nat × Nat), xit tk m x = .inl y' → mstep tk y'.1 = .inr r' → r = r' ∧ y = y' := by
  induction n generalizing x with
  | zero =>
    have e : x = y := Sum.inl.inj h
    subst e
    intro m y' r' h' g'
    cases m with
    | zero =>
      have e : x = y' := Sum.inl.inj h'
      subst e
      exact ⟨Sum.inr.inj (g.symm.trans g'), rfl⟩
    | succ m =>
      exfalso
      unfold xit xstep at h'
      rw [g] at h'
      cases h'
  | succ n ih =>
    intro m y' r' h' g'
    unfold xit at h
    split at h
    · rename_i t e
      cases m with
      | zero =>
        exfalso
        have e' : x = y' := Sum.inl.inj h'
        subst e'
        unfold xstep at e
        rw [g'] at e
        cases e
      | succ m =>
        unfold xit at h'
        rw [e] at h'
        exact ih h m y' r' h' g'
    · cases h
theorem Ex.det {x y y' : MS × Wdr} {r r' : Nat × Nat} (h : Ex tk x r y) (g : Ex tk x r' y') : r = r' ∧ y = y' := by
  obtain ⟨⟨n, h1⟩, h2⟩ := h
  obtain ⟨⟨m, g1⟩, g2⟩ := g
  exact xit_end h1 h2 m y' r' g1 g2
theorem Rx.rch {x y : MS × Wdr} (h : Rx tk x y) : Rch tk x.1 y.1 := by
  obtain ⟨n, h⟩ := h
  induction n generalizing x with
  | zero =>
    have e : x = y := Sum.inl.inj h
    rw [e]
    exact Rch.rf _
  | succ n ih =>
    unfold xit at h
    split at h
    · rename_i t e
      have y := ih h
      unfold xstep at e
      split at e
      · rename_i s' e'
        have e := Sum.inl.inj e
        rw [← e] at y
        exact Rch.step e' y
      · cases e
    · cases h
theorem Ex.ends {x y : MS × Wdr} {r : Nat × Nat} (h : Ex tk x r y) : Ends tk x.1 r := h.1.rch.ends (Ends.now h.2)
end XMACH
-- what waits
theorem wk_p {r : Nat} : ∀ {p a : List Nat}, (∀ y, y ∈ p → r ≤ rkn y) → (∀ y, a.head? = some y → rkn y < r) → wk r (p ++ a) = (a, p.map fun y => (y, 0))
  | [], [], _, _ => rfl
  | [], y :: a, _, h => by
    have e : Nat.ble r (rkn y) = false := blef (h y rfl)
    show wk r (y :: a) = _
    rw [wk, e]
    rfl
  | y :: p, a, hp, h => by
    have e : Nat.ble r (rkn y) = true := Nat.ble_eq.mpr (hp y List.mem_cons_self)
    show wk r (y :: (p ++ a)) = _
    rw [wk, e, wk_p (fun z hz => hp z (List.mem_cons_of_mem _ hz)) h]
    rfl
theorem x78_id {K : List Nat} {D : Fdr} {E : List Odr} (h : cl78 K = K) : x78 K D E = (D, E) := by
  match K, D, h with
  | [], _, _ => rfl
  | _ :: _, [], _ => rfl
  | k :: K, d :: D, h =>
    rw [cl78] at h
    have x : (Nat.beq k 7 || Nat.beq k 8) = false := by
      cases e : (Nat.beq k 7 || Nat.beq k 8) with
      | false => rfl
      | true =>
        exfalso
        rw [e] at h
        have h : cl78 K = k :: K := h
        have : ∀ L : List Nat, (cl78 L).length ≤ L.length := by
          intro L
          induction L with
          | nil => exact Nat.le_refl _
          | cons a L ih =>
            rw [cl78]
            split
            · simp only [List.length_cons]
              omega
            · exact Nat.le_refl _
        have y := this K
        rw [h] at y
        simp only [List.length_cons] at y
        omega
    rw [Bool.or_eq_false_iff] at x
    rw [x78, x.1, x.2]
-- what a piece of a clause makes
def NmOK (k n : Nat) : Bool := myN n k && Nat.ble n 10
def tyo (k : Nat) (o : Odr) (t : List Bool) : Option (List Bool) := match Nat.beq o.1 400 with
  | true => (match Nat.blt t.length 64 && Nat.blt o.2 10000 with
    | true => some (false :: t)
    | false => none)
  | false => match Nat.beq o.1 401 with
    | true => (match Nat.blt t.length 64 && NmOK k o.2 with
      | true => some (false :: t)
      | false => none)
    | false => match Nat.beq o.1 402 || (Nat.beq o.1 403 && Nat.ble o.2 100) with
      | true => (match t with
        | false :: t => some (false :: t)
        | _ => none)
      | false => match Nat.beq o.1 405 with
        | true => (match t with
          | true :: t => some (true :: t)
          | _ => none)
        | false => match Nat.beq o.1 43 || Nat.beq o.1 45 || (Nat.beq o.1 42 || Nat.beq o.1 47) with
          | true => (match t with
            | false :: false :: t => some (false :: t)
            | _ => none)
          | false => match Nat.beq o.1 60 || Nat.beq o.1 62 || (Nat.beq o.1 61 || Nat.beq o.1 35) || (Nat.beq o.1 300 || Nat.beq o.1 301) with
            | true => (match t with
              | false :: false :: t => some (true :: t)
              | _ => none)
            | false => match Nat.beq o.1 406 || Nat.beq o.1 407 with
              | true => (match t with
                | true :: true :: t => some (true :: t)
                | _ => none)
              | false => none
def tyE (k : Nat) : List Odr → List Bool → Option (List Bool)
  | [], t => some t
  | o :: e, t => match tyo k o t with
    | some t' => tyE k e t'
    | none => none
theorem tyE_app {k : Nat} : ∀ {e f : List Odr} {t u v : List Bool}, tyE k e t = some u → tyE k f u = some v → tyE k (e ++ f) t = some v
  | [], f, t, u, v, h, g => by
    have e := Option.some.inj h
    subst e
    exact g
  | o :: e, f, t, u, v, h, g => by
    unfold tyE at h
    show tyE k (o :: (e ++ f)) t = _
    unfold tyE
    split at h
    · rename_i t' e'
      exact tyE_app h g
    · cases h
theorem tyE_1 {k : Nat} {o : Odr} {t u : List Bool} (h : tyo k o t = some u) : tyE k [o] t = some u := by
  unfold tyE
  rw [h]
  rfl
/-- whatever is on the pile, one number (or one yes or no) more -/
def Typ (k m : Nat) (b : Bool) (e : List Odr) : Prop := ∀ t : List Bool, t.length + m ≤ 64 → tyE k e t = some (b :: t)
section PIECE
variable {tk : Nat → TK}
def Q1 (tk : Nat → TK) (s t : MS) (e : List Odr) : Prop := ∀ (D : Fdr) (E : List Odr) (A : Adr), D.length = s.2.1.length → Rx tk (s, D, E, A) (t, (x78 s.2.1 D (E ++ e)).1, (x78 s.2.1 D (E ++ e)).2, A)
def Qs (tk : Nat → TK) (r : Nat) (s t : MS) (e : List Odr) : Prop := ∀ (d : Nat) (a : List Nat) (D : Fdr) (E : List Odr) (A : Adr), D.length + 1 = s.2.1.length → (∀ y, a.head? = some y → rkn y < r) → ∃ p e1, e = e1 ++ p.map (fun y => ((y, 0) : Odr)) ∧ (∀ y, y ∈ p → r ≤ rkn y) ∧ Rx tk (s, (d, a) :: D, E, A) (t, (d, p ++ a) :: D, E ++ e1, A)
theorem Qs.mono {r r2 : Nat} (hr : r ≤ r2) {s t : MS} {e : List Odr} (h : Qs tk r2 s t e) : Qs tk r s t e := by
  intro d a D E A hl ha
  obtain ⟨p, e1, h1, h2, h3⟩ := h d a D E A hl (fun y hy => Nat.lt_of_lt_of_le (ha y hy) hr)
  exact ⟨p, e1, h1, fun y hy => Nat.le_trans hr (h2 y hy), h3⟩
theorem Q1.rs {s t : MS} {e : List Odr} (hK : cl78 s.2.1 = s.2.1) (h : Q1 tk s t e) : Qs tk 5 s t e := by
  intro d a D E A hl _
  have y := h ((d, a) :: D) E A (by rw [List.length_cons]; exact hl)
  rw [x78_id hK] at y
  exact ⟨[], e, by simp, fun y hy => (by cases hy), y⟩
variable {K : List Nat} {k : Nat} {ws : List Nat} {j : Nat}
theorem Qs.op {r r2 j' j2 : Nat} {s : MS} {K2 : List Nat} (hs : s.2.1 = K) {e0 e1 : List Odr} (h0 : Qs tk r s (2, K, k, ws, j') e0) (ho : isOp (tk j') = true) (hr : rkn (tk j').2.1 = r) (hr2 : r < r2) (h1 : Qs tk r2 (1, K, k, ws, j' + 1) (2, K2, k, ws, j2) e1) : Qs tk r s (2, K2, k, ws, j2) (e0 ++ e1 ++ [((tk j').2.1, 0)]) := by
  intro d a D E A hl ha
  obtain ⟨p, f, g1, g2, g3⟩ := h0 d a D E A hl ha
  have w := wk_p (r := r) g2 ha
  have stp : Rx tk ((2, K, k, ws, j'), (d, p ++ a) :: D, E ++ f, A) ((1, K, k, ws, j' + 1), (d, (tk j').2.1 :: a) :: D, E ++ f ++ p.map (fun y => ((y, 0) : Odr)), A) := by
    refine Rx.one (s2_op ho) ?_
    show y2x tk K j' ((d, p ++ a) :: D, E ++ f, A) = _
    unfold y2x
    dsimp only
    rw [ho]
    dsimp only
    unfold z2x
    rw [hr]
    dsimp only
    rw [w]
  obtain ⟨p2, f2, k1, k2, k3⟩ := h1 d ((tk j').2.1 :: a) D (E ++ f ++ p.map (fun y => ((y, 0) : Odr))) A (by show D.length + 1 = K.length; rw [← hs]; exact hl) (fun y hy => by
    have e : (tk j').2.1 = y := Option.some.inj hy
    rw [← e, hr]
    exact hr2)
  refine ⟨p2 ++ [(tk j').2.1], f ++ p.map (fun y => ((y, 0) : Odr)) ++ f2, ?_, fun y hy => ?_, ?_⟩
  · rw [g1, k1]
    simp [List.append_assoc]
  · rcases List.mem_append.mp hy with z | z
    · have := k2 y z
      omega
    · rw [List.mem_singleton.mp z, hr]
      exact Nat.le_refl _
  · have z := (g3.tr stp).tr k3
    simpa [List.append_assoc] using z
theorem Q1.leaf {s : MS} {o : Odr} {j' : Nat} (hs : s = (1, K, k, ws, j)) (hm : mstep tk s = .inl (2, cl78 K, k, ws, j')) (hx : ∀ X, xeff tk s X = z1x K X o) : Q1 tk s (2, cl78 K, k, ws, j') [o] := by
  subst hs
  intro D E A hl
  exact Rx.one hm (hx _)
theorem Q1.num (h : (tk j).1 = 2) (hv : (tk j).2.1 < 10000) : Q1 tk (1, K, k, ws, j) (2, cl78 K, k, ws, j + 1) [(400, (tk j).2.1)] := by
  refine Q1.leaf rfl (s1_num h hv) (fun X => ?_)
  show y1x tk K j X = _
  unfold y1x
  rw [h]
theorem Q1.name {n : Nat} (h : (tk j).1 = 1) (hn : nmO (tk j).2.1 = some n) (hm : myN n k = true) : Q1 tk (1, K, k, ws, j) (2, cl78 K, k, ws, j + 1) [(401, n)] := by
  refine Q1.leaf rfl (s1_name h hn hm) (fun X => ?_)
  show y1x tk K j X = _
  unfold y1x
  rw [h, hn]
/-- behind a sign or a part that opens -/
theorem Q1.opn {q j1 j' v : Nat} {e : List Odr} {o : Odr} (hm : mstep tk (1, K, k, ws, j) = .inl (1, q :: K, k, ws, j1)) (hx : ∀ X : Wdr, xeff tk (1, K, k, ws, j) X = ((v, []) :: X.1, X.2)) (hq : ∀ D E, x78 (q :: K) ((v, []) :: D) E = x78 K D (E ++ [o])) (h : Q1 tk (1, q :: K, k, ws, j1) (2, cl78 K, k, ws, j') e) : Q1 tk (1, K, k, ws, j) (2, cl78 K, k, ws, j') (e ++ [o]) := by
  intro D E A hl
  have y := h ((v, []) :: D) E A (by show D.length + 1 = K.length + 1; rw [hl])
  have z := (Rx.one hm (hx (D, E, A))).tr y
  dsimp only at z
  rw [hq, List.append_assoc] at z
  exact z
theorem Q1.minus {j' : Nat} {e : List Odr} (hz : isSg (tk j) 45 = true) (h8 : opK K < 8) (h : Q1 tk (1, 7 :: K, k, ws, j + 1) (2, cl78 K, k, ws, j') e) : Q1 tk (1, K, k, ws, j) (2, cl78 K, k, ws, j') (e ++ [(402, 0)]) := by
  refine Q1.opn (v := 0) (s1_mi hz h8) (fun X => ?_) (fun D E => rfl) h
  show y1x tk K j X = _
  unfold y1x
  rw [(sg_1 hz).1]
theorem Q1.part {j' i : Nat} {e : List Odr} (h1 : (tk j).1 = 1) (h2 : (tk j).2.1 = 22) (hm : mstep tk (1, K, k, ws, j) = .inl (1, 8 :: K, k, ws, i)) (h : Q1 tk (1, 8 :: K, k, ws, i) (2, cl78 K, k, ws, j') e) : Q1 tk (1, K, k, ws, j) (2, cl78 K, k, ws, j') (e ++ [(403, (tk (j + 1)).2.1)]) := by
  refine Q1.opn (v := (tk (j + 1)).2.1) hm (fun X => ?_) (fun D E => rfl) h
  show y1x tk K j X = _
  unfold y1x
  rw [h1, h2]
  rfl
theorem Q1.paren {j2 : Nat} {e : List Odr} (hz : isSg (tk j) 40 = true) (h8 : opK K < 8) (h : Qs tk 3 (1, 6 :: K, k, ws, j + 1) (2, 6 :: K, k, ws, j2) e) (ho : isOp (tk j2) = false) (hc : isSg (tk j2) 41 = true) : Q1 tk (1, K, k, ws, j) (2, cl78 K, k, ws, j2 + 1) e := by
  intro D E A hl
  obtain ⟨p, e1, g1, g2, g3⟩ := h 0 [] D E A (by show D.length + 1 = K.length + 1; rw [hl]) (fun y hy => by cases hy)
  have w := wk_p (r := 3) (a := []) g2 (fun y hy => by cases hy)
  have s1 : Rx tk ((1, K, k, ws, j), D, E, A) ((1, 6 :: K, k, ws, j + 1), (0, []) :: D, E, A) := by
    refine Rx.one (s1_br hz h8) ?_
    show y1x tk K j (D, E, A) = _
    unfold y1x
    rw [(sg_1 hz).1]
  have s2 : Rx tk ((2, 6 :: K, k, ws, j2), (0, p ++ []) :: D, E ++ e1, A) ((2, cl78 K, k, ws, j2 + 1), (x78 K D (E ++ e)).1, (x78 K D (E ++ e)).2, A) := by
    refine Rx.one (s2_br ho hc) ?_
    show y2x tk (6 :: K) j2 ((0, p ++ []) :: D, E ++ e1, A) = _
    unfold y2x
    dsimp only
    rw [ho]
    show ((x78 K D (E ++ e1 ++ (wk 3 (p ++ [])).2)).1, (x78 K D (E ++ e1 ++ (wk 3 (p ++ [])).2)).2, A) = _
    rw [w, g1, List.append_assoc]
  exact (s1.tr g3).tr s2
end PIECE
-- the class's word for an order
def rnm (n : Nat) : Nat := match n with
  | 0 => 1
  | 1 => 2
  | 2 => 3
  | 3 => 4
  | 4 => 0
  | n => n
def opc (y : Nat) : Nat := match y with
  | 402 => 2
  | 405 => 4
  | 43 => 5
  | 45 => 6
  | 42 => 7
  | 47 => 8
  | 60 => 9
  | 300 => 10
  | 62 => 11
  | 301 => 12
  | 61 => 13
  | 35 => 14
  | 406 => 15
  | _ => 16
def ccd (o : Odr) : Int32 := match o.1 with
  | 400 => nI o.2
  | 401 => nI (10000 + rnm o.2)
  | 403 => nI (30000 + o.2)
  | y => nI (10000 * opc y)
def Cds (row : Nat → Int32) : Nat → List Odr → Prop
  | _, [] => True
  | c, o :: e => row c = ccd o ∧ Cds row (c + 1) e
theorem Cds.app {row : Nat → Int32} : ∀ {e f : List Odr} {c : Nat}, Cds row c e → Cds row (c + e.length) f → Cds row c (e ++ f)
  | [], f, c, _, g => g
  | o :: e, f, c, h, g => ⟨h.1, Cds.app h.2 (by rw [List.length_cons] at g; rw [show c + 1 + e.length = c + (e.length + 1) by omega]; exact g)⟩
theorem Cds.up {row row' : Nat → Int32} : ∀ {e : List Odr} {c : Nat}, Cds row c e → (∀ i, c ≤ i → i < c + e.length → row' i = row i) → Cds row' c e
  | [], _, _, _ => trivial
  | o :: e, c, h, g => by
    rw [List.length_cons] at g
    exact ⟨by rw [g c (Nat.le_refl _) (by omega)]; exact h.1, Cds.up h.2 (fun i h1 h2 => g i (by omega) (by omega))⟩
/-- the orders that came behind the first c -/
def Cem (ta : Nat) (I I' : XI) (c c' : Nat) (e : List Odr) : Prop := (∀ i, i < c → I' (ta + 1) i = I (ta + 1) i) ∧ c' = c + e.length ∧ Cds (I' (ta + 1)) c e
theorem Cem.rf {ta : Nat} {I I' : XI} {c : Nat} (h : I' (ta + 1) = I (ta + 1)) : Cem ta I I' c c [] := ⟨fun i _ => by rw [h], rfl, trivial⟩
theorem Cem.base {ta : Nat} {I I1 I' : XI} {c c' : Nat} {e : List Odr} (h : Cem ta I1 I' c c' e) (g : I1 (ta + 1) = I (ta + 1)) : Cem ta I I' c c' e := ⟨fun i hi => by rw [h.1 i hi, g], h.2⟩
theorem Cem.tip {ta : Nat} {I I1 I' : XI} {c c' : Nat} {e : List Odr} (h : Cem ta I I1 c c' e) (g : I' (ta + 1) = I1 (ta + 1)) : Cem ta I I' c c' e := by
  unfold Cem
  rw [g]
  exact h
theorem Cem.tr {ta : Nat} {I I1 I' : XI} {c c1 c' : Nat} {e f : List Odr} (h : Cem ta I I1 c c1 e) (g : Cem ta I1 I' c1 c' f) : Cem ta I I' c c' (e ++ f) := by
  obtain ⟨h1, h2, h3⟩ := h
  obtain ⟨g1, g2, g3⟩ := g
  refine ⟨fun i hi => ?_, by rw [g2, h2, List.length_append]; omega, Cds.app (h3.up (fun i a b => g1 i (by omega))) (by rw [← h2]; exact g3)⟩
  rw [g1 i (by omega), h1 i hi]
-- one order of a sum or a product
theorem op42 {q : TK} (h : isSg q 42 = true) : ccd (q.2.1, 0) = 7 * 10000 + 0 ∧ rkn q.2.1 = 4 ∧ ∀ k t, tyo k (q.2.1, 0) (false :: false :: t) = some (false :: t) := by
  rw [(sg_1 h).2]
  exact ⟨by decide, by decide, fun k t => rfl⟩
theorem op47 {q : TK} (h : isSg q 47 = true) : ccd (q.2.1, 0) = 8 * 10000 + 0 ∧ rkn q.2.1 = 4 ∧ ∀ k t, tyo k (q.2.1, 0) (false :: false :: t) = some (false :: t) := by
  rw [(sg_1 h).2]
  exact ⟨by decide, by decide, fun k t => rfl⟩
theorem op43 {q : TK} (h : isSg q 43 = true) : ccd (q.2.1, 0) = 5 * 10000 + 0 ∧ rkn q.2.1 = 3 ∧ ∀ k t, tyo k (q.2.1, 0) (false :: false :: t) = some (false :: t) := by
  rw [(sg_1 h).2]
  exact ⟨by decide, by decide, fun k t => rfl⟩
theorem op45 {q : TK} (h : isSg q 45 = true) : ccd (q.2.1, 0) = 6 * 10000 + 0 ∧ rkn q.2.1 = 3 ∧ ∀ k t, tyo k (q.2.1, 0) (false :: false :: t) = some (false :: t) := by
  rw [(sg_1 h).2]
  exact ⟨by decide, by decide, fun k t => rfl⟩
theorem Typ.mono {k m m2 : Nat} (hm : m ≤ m2) {b : Bool} {e : List Odr} (h : Typ k m b e) : Typ k m2 b e := fun t ht => h t (by omega)
theorem Typ.op {k m : Nat} {e f : List Odr} {o : Odr} (h : Typ k (m + 1) false e) (g : Typ k m false f) (ho : ∀ t, tyo k o (false :: false :: t) = some (false :: t)) : Typ k (m + 1) false (e ++ f ++ [o]) := fun t ht =>
  tyE_app (tyE_app (h t ht) (g (false :: t) (by rw [List.length_cons]; omega))) (tyE_1 (ho t))
theorem Typ.un {k m : Nat} {e : List Odr} {o : Odr} (h : Typ k m false e) (ho : ∀ t, tyo k o (false :: t) = some (false :: t)) : Typ k m false (e ++ [o]) := fun t ht => tyE_app (h t ht) (tyE_1 (ho t))
theorem Typ.num {k v m : Nat} (hv : v < 10000) (hm : 1 ≤ m) : Typ k m false [(400, v)] := fun t ht => tyE_1 (by
  unfold tyo
  have a : Nat.blt t.length 64 = true := Nat.blt_eq.mpr (by omega)
  have b : Nat.blt v 10000 = true := Nat.blt_eq.mpr hv
  show (match Nat.blt t.length 64 && Nat.blt v 10000 with
    | true => some (false :: t)
    | false => none) = _
  rw [a, b]
  rfl)
theorem nmO_le {v n : Nat} (hv : v < 32) (h : nmO v = some n) : n ≤ 10 := by
  unfold nmO at h
  split at h
  · cases h
    omega
  · split at h
    · cases h
      omega
    · split at h
      · cases h
        omega
      · split at h
        · cases h
        · split at h
          · rename_i e
            have := Nat.blt_eq.mp e
            cases h
            omega
          · cases h
            omega
theorem Typ.name {k n m : Nat} (hn : n ≤ 10) (hy : myN n k = true) (hm : 1 ≤ m) : Typ k m false [(401, n)] := fun t ht => tyE_1 (by
  unfold tyo NmOK
  have a : Nat.blt t.length 64 = true := Nat.blt_eq.mpr (by omega)
  have b : Nat.ble n 10 = true := Nat.ble_eq.mpr hn
  show (match Nat.blt t.length 64 && (myN n k && Nat.ble n 10) with
    | true => some (false :: t)
    | false => none) = _
  rw [a, b, hy]
  rfl)
end
section
-- ===== the reader: its small methods =====
def SGN : List Nat := [60, 62, 61, 35, 43, 45, 42, 47, 40, 41, 59, 300, 301]
def tkOK (q : TK) : Prop := q.1 ≤ 4 ∧ (q.1 = 1 → q.2.1 < 32) ∧ (q.1 = 2 → q.2.1 ≤ 10000) ∧ (q.1 = 3 → q.2.1 ∈ SGN) ∧ q.2.2.1 ≤ 300
theorem lexC_s3 {B : Nat → Int32} {T i : Nat} : (lexC B T i).1 = 3 → (lexC B T i).2.1 ∈ SGN := by
  unfold lexC
  cases h0 : Nat.ble T i with
  | true => exact fun z => by cases z
  | false =>
    cases h1 : bLt (B i) with
    | true =>
      dsimp only
      cases h2 : kW (lts B T i) wT 0 with
      | some k => exact fun z => by cases z
      | none => exact fun z => by cases z
    | false =>
      cases h2 : bDg (B i) with
      | true => exact fun z => by cases z
      | false =>
        cases h3 : (decide (B i = 60) || decide (B i = 62)) && (Nat.blt (i + 1) T && decide (B (i + 1) = 61)) with
        | true =>
          dsimp only
          cases h4 : decide (B i = 60) with
          | true => exact fun _ => by decide
          | false => exact fun _ => by decide
        | false =>
          dsimp only
          cases h4 : sgL.contains (B i) with
          | true =>
            have y : ∀ z, z ∈ sgL → z.toNatClampNeg ∈ SGN := by decide
            exact fun _ => y (B i) (by simpa using h4)
          | false => exact fun z => by cases z
theorem tkS_ok {B : Nat → Int32} {T : Nat} (hT : T ≤ 300) (j : Nat) : tkOK (tkS B T j) := by
  have a := lexS_b (B := B) (pos_le B T j)
  exact ⟨a.2.2.2.1, a.2.2.2.2.2.1, a.2.2.2.2.2.2, lexC_s3, Nat.le_trans a.2.2.2.2.1 hT⟩
theorem tk_five {q : TK} (h : q.1 ≤ 4) : q.1 = 0 ∨ q.1 = 1 ∨ q.1 = 2 ∨ q.1 = 3 ∨ q.1 = 4 := by omega
theorem cw_inj {a b : Nat} (ha : a < 32) (hb : b < 32) (h : cw a = cw b) : a = b := by
  have y : ((List.range 32).all fun a => (List.range 32).all fun b => match Nat.beq (cw a) (cw b) with
    | true => Nat.beq a b
    | false => true) = true := by decide +kernel
  have z := List.all_eq_true.mp (List.all_eq_true.mp y a (List.mem_range.mpr ha)) b (List.mem_range.mpr hb)
  rw [h, show Nat.beq (cw b) (cw b) = true by simp] at z
  exact Nat.eq_of_beq_eq_true z
theorem sgC_ge {v : Nat} (h : v ∈ SGN) : 35 ≤ sgC v ∧ sgC v ≤ 257 := by
  have y : ∀ z, z ∈ SGN → 35 ≤ sgC z ∧ sgC z ≤ 257 := by decide
  exact y v h
theorem sgC_inj {a b : Nat} (ha : a ∈ SGN) (hb : b ∈ SGN) (h : sgC a = sgC b) : a = b := by
  have y : ∀ z, z ∈ SGN → ∀ w, w ∈ SGN → sgC z = sgC w → z = w := by decide
  exact y a ha b hb h
theorem tkC_el {s v : Int32} {q : TK} (h : tkC s v q) (ok : tkOK q) : (q.1 = 0 ∧ s = 0) ∨ (q.1 = 1 ∧ s = 3 ∧ v = nI (cw q.2.1)) ∨ (q.1 = 2 ∧ s = 2 ∧ v = nI q.2.1) ∨ (q.1 = 3 ∧ s = nI (sgC q.2.1)) ∨ (q.1 = 4 ∧ (s = 1 ∨ (s = 3 ∧ v = -1))) := by
  obtain ⟨a, b, c, d⟩ := q
  unfold tkC at h
  rcases tk_five ok.1 with e | e | e | e | e
  · have e : a = 0 := e
    subst e
    exact Or.inl ⟨rfl, h⟩
  · have e : a = 1 := e
    subst e
    exact Or.inr (Or.inl ⟨rfl, h⟩)
  · have e : a = 2 := e
    subst e
    exact Or.inr (Or.inr (Or.inl ⟨rfl, h⟩))
  · have e : a = 3 := e
    subst e
    exact Or.inr (Or.inr (Or.inr (Or.inl ⟨rfl, h⟩)))
  · have e : a = 4 := e
    subst e
    exact Or.inr (Or.inr (Or.inr (Or.inr ⟨rfl, h⟩)))
theorem tkC_end {s v : Int32} {q : TK} (h : tkC s v q) (ok : tkOK q) : s = 0 ↔ q.1 = 0 := by
  rcases tkC_el h ok with ⟨e, z⟩ | ⟨e, z, _⟩ | ⟨e, z, _⟩ | ⟨e, z⟩ | ⟨e, z | ⟨z, _⟩⟩
  · exact ⟨fun _ => e, fun _ => z⟩
  · rw [z, e]; decide
  · rw [z, e]; decide
  · have y := sgC_ge (ok.2.2.2.1 e)
    rw [z, e]
    exact ⟨fun w => absurd w (nI_ne0 (by omega) (by omega)), fun w => by cases w⟩
  · rw [z, e]; decide
  · rw [z, e]; decide
theorem tkC_num {s v : Int32} {q : TK} (h : tkC s v q) (ok : tkOK q) : s = 2 ↔ q.1 = 2 := by
  rcases tkC_el h ok with ⟨e, z⟩ | ⟨e, z, _⟩ | ⟨e, z, _⟩ | ⟨e, z⟩ | ⟨e, z | ⟨z, _⟩⟩
  · rw [z, e]; decide
  · rw [z, e]; decide
  · exact ⟨fun _ => e, fun _ => z⟩
  · have y := sgC_ge (ok.2.2.2.1 e)
    rw [z, e]
    refine ⟨fun w => ?_, fun w => by cases w⟩
    have w : nI (sgC q.2.1) = nI 2 := w
    have := (nI_eq (by omega) (by omega)).mp w
    omega
  · rw [z, e]; decide
  · rw [z, e]; decide
theorem tkC_val {s v : Int32} {q : TK} (h : tkC s v q) (ok : tkOK q) (e : q.1 = 2) : v = nI q.2.1 := by
  rcases tkC_el h ok with ⟨z, _⟩ | ⟨z, _⟩ | ⟨_, _, z⟩ | ⟨z, _⟩ | ⟨z, _⟩
  · omega
  · omega
  · exact z
  · omega
  · omega
theorem tkC_wd {s v : Int32} {q : TK} (h : tkC s v q) (ok : tkOK q) {w : Nat} (hw : w < 32) : (s = 3 ∧ v = nI (cw w)) ↔ isWd q w = true := by
  rcases tkC_el h ok with ⟨e, z⟩ | ⟨e, z, y⟩ | ⟨e, z, _⟩ | ⟨e, z⟩ | ⟨e, z | ⟨z, y⟩⟩
  · exact ⟨fun g => absurd (z.symm.trans g.1) (by decide), fun g => by have := (wd_1 g).1; omega⟩
  · constructor
    · rintro ⟨_, g⟩
      rw [y] at g
      have h1 := cw_lt (k := q.2.1)
      have h2 := cw_lt (k := w)
      exact wd_of e (cw_inj (ok.2.1 e) hw ((nI_eq (by omega) (by omega)).mp g))
    · intro g
      exact ⟨z, by rw [y, (wd_1 g).2]⟩
  · exact ⟨fun g => absurd (z.symm.trans g.1) (by decide), fun g => by have := (wd_1 g).1; omega⟩
  · refine ⟨fun g => ?_, fun g => by have := (wd_1 g).1; omega⟩
    have y := sgC_ge (ok.2.2.2.1 e)
    have w : nI (sgC q.2.1) = nI 3 := z.symm.trans g.1
    have := (nI_eq (by omega) (by omega)).mp w
    omega
  · exact ⟨fun g => absurd (z.symm.trans g.1) (by decide), fun g => by have := (wd_1 g).1; omega⟩
  · refine ⟨fun g => ?_, fun g => by have := (wd_1 g).1; omega⟩
    exfalso
    have g2 := g.2
    rw [y] at g2
    have h2 := cw_lt (k := w)
    have := nI_pos' (n := cw w) (by omega)
    rw [← g2] at this
    exact absurd this (by decide)
theorem tkC_sg {s v : Int32} {q : TK} (h : tkC s v q) (ok : tkOK q) {w : Nat} (hw : w ∈ SGN) : s = nI (sgC w) ↔ isSg q w = true := by
  have gw := sgC_ge hw
  have no : ∀ m : Nat, m < 35 → ¬ nI m = nI (sgC w) := fun m hm z => by
    have := (nI_eq (by omega) (by omega)).mp z
    omega
  rcases tkC_el h ok with ⟨e, z⟩ | ⟨e, z, y⟩ | ⟨e, z, _⟩ | ⟨e, z⟩ | ⟨e, z | ⟨z, y⟩⟩
  · exact ⟨fun g => absurd (z.symm.trans g) (no 0 (by omega)), fun g => by have := (sg_1 g).1; omega⟩
  · exact ⟨fun g => absurd (z.symm.trans g) (no 3 (by omega)), fun g => by have := (sg_1 g).1; omega⟩
  · exact ⟨fun g => absurd (z.symm.trans g) (no 2 (by omega)), fun g => by have := (sg_1 g).1; omega⟩
  · have gq := sgC_ge (ok.2.2.2.1 e)
    constructor
    · intro g
      rw [z] at g
      exact sg_of e (sgC_inj (ok.2.2.2.1 e) hw ((nI_eq (by omega) (by omega)).mp g))
    · intro g
      rw [z, (sg_1 g).2]
  · exact ⟨fun g => absurd (z.symm.trans g) (no 1 (by omega)), fun g => by have := (sg_1 g).1; omega⟩
  · exact ⟨fun g => absurd (z.symm.trans g) (no 3 (by omega)), fun g => by have := (sg_1 g).1; omega⟩
-- where a text is written
def TSP (ta : Nat) : Prop := ta = 18 ∨ ta = 47 ∨ ta = 52 ∨ ta = 57 ∨ ta = 62
def FE (ta : Nat) (I I' : XI) : Prop := (∀ p, p ≠ 35 → p ≠ ta → p ≠ ta + 1 → I' p = I p) ∧ (∀ k, k ≠ 3 → k ≠ 4 → k ≠ 5 → k ≠ 7 → k ≠ 8 → I' 35 k = I 35 k) ∧ ∀ k, k ≠ 1 → I' ta k = I ta k
def FS (ta : Nat) (I I' : XI) : Prop := FE ta I I' ∧ I' 35 7 = I 35 7 ∧ I' 35 8 = I 35 8
theorem FE.rf {ta : Nat} {I : XI} : FE ta I I := ⟨fun _ _ _ _ => rfl, fun _ _ _ _ _ _ => rfl, fun _ _ => rfl⟩
theorem FE.tr {ta : Nat} {I I' I'' : XI} (h : FE ta I I') (g : FE ta I' I'') : FE ta I I'' := ⟨fun p a b c => (g.1 p a b c).trans (h.1 p a b c), fun k a b c d e => (g.2.1 k a b c d e).trans (h.2.1 k a b c d e), fun k a => (g.2.2 k a).trans (h.2.2 k a)⟩
theorem FS.rf {ta : Nat} {I : XI} : FS ta I I := ⟨FE.rf, rfl, rfl⟩
theorem FS.tr {ta : Nat} {I I' I'' : XI} (h : FS ta I I') (g : FS ta I' I'') : FS ta I I'' := ⟨h.1.tr g.1, g.2.1.trans h.2.1, g.2.2.trans h.2.2⟩
/-- the tokens stand in the rows -/
def EV (I : XI) (tk : Nat → TK) (N : Nat) : Prop := I 30 5 = nI N ∧ ∀ j, j < N → tkC (I 32 j) (I 33 j) (tk j) ∧ I 34 j = nI (tk j).2.2.1
/-- the tokens themselves -/
def TKN (tk : Nat → TK) (N : Nat) : Prop := 1 ≤ N ∧ N ≤ 301 ∧ (tk (N - 1)).1 = 0 ∧ (∀ j, j + 1 < N → (tk j).1 ≠ 0) ∧ ∀ j, tkOK (tk j)
def ATt (ta : Nat) (I : XI) (j c : Nat) : Prop := I 35 3 = nI j ∧ I 35 4 = I 32 j ∧ I 35 5 = I 33 j ∧ I ta 1 = nI c
theorem TSP.ne {ta : Nat} (h : TSP ta) : ta ≠ 35 ∧ ta ≠ 30 ∧ ta ≠ 32 ∧ ta ≠ 33 ∧ ta ≠ 34 ∧ ta + 1 ≠ 35 ∧ ta + 1 ≠ 30 ∧ ta + 1 ≠ 32 ∧ ta + 1 ≠ 33 ∧ ta + 1 ≠ 34 ∧ ta < 63 := by
  unfold TSP at h
  omega
theorem FE.row {ta : Nat} {I I' : XI} (ht : TSP ta) (h : FE ta I I') : I' 30 = I 30 ∧ I' 32 = I 32 ∧ I' 33 = I 33 ∧ I' 34 = I 34 := by
  have n := ht.ne
  exact ⟨h.1 30 (by decide) (by omega) (by omega), h.1 32 (by decide) (by omega) (by omega), h.1 33 (by decide) (by omega) (by omega), h.1 34 (by decide) (by omega) (by omega)⟩
theorem EV.fe {ta : Nat} {I I' : XI} {tk : Nat → TK} {N : Nat} (ht : TSP ta) (h : EV I tk N) (f : FE ta I I') : EV I' tk N := by
  obtain ⟨a, b, c, d⟩ := f.row ht
  unfold EV
  rw [a, b, c, d]
  exact h
theorem ATt.tk {ta : Nat} {I : XI} {j c N : Nat} {tk : Nat → TK} (h : ATt ta I j c) (e : EV I tk N) (hj : j < N) : tkC (I 35 4) (I 35 5) (tk j) := by
  rw [h.2.1, h.2.2.1]
  exact (e.2 j hj).1
theorem TKN.nx {tk : Nat → TK} {N j : Nat} (h : TKN tk N) (hj : j < N) (h0 : (tk j).1 ≠ 0) : j + 1 < N := by
  rcases Nat.lt_or_ge (j + 1) N with z | z
  · exact z
  · exfalso
    rw [show j = N - 1 by omega] at h0
    exact h0 h.2.2.1
def avI (I : XI) (i : Nat) : XI := uI (uI (uI I 35 3 (nI i)) 35 4 (I 32 i)) 35 5 (I 33 i)
theorem avI_fs {ta : Nat} {I : XI} {i : Nat} (ht : TSP ta) : FS ta I (avI I i) := by
  have n := ht.ne
  have e : ∀ k, k ≠ 3 → k ≠ 4 → k ≠ 5 → avI I i 35 k = I 35 k := fun k a b c => by
    unfold avI
    rw [uI_atC, if_neg c, uI_atC, if_neg b, uI_atC, if_neg a]
  refine ⟨⟨fun p a _ _ => ?_, fun k a b c _ _ => e k a b c, fun k _ => ?_⟩, e 7 (by decide) (by decide) (by decide), e 8 (by decide) (by decide) (by decide)⟩
  · unfold avI
    rw [uI_ne a, uI_ne a, uI_ne a]
  · unfold avI
    rw [uI_ne n.1, uI_ne n.1, uI_ne n.1]
theorem avI_at {ta : Nat} {I : XI} {i c : Nat} (ht : TSP ta) (h : I ta 1 = nI c) : ATt ta (avI I i) i c := by
  have n := ht.ne
  refine ⟨rfl, rfl, rfl, ?_⟩
  unfold avI
  rw [uI_ne n.1, uI_ne n.1, uI_ne n.1]
  exact h
def FI (I : XI) (f j : Nat) : XI := uI (uI I 35 7 (nI f)) 35 8 (I 34 j)
theorem FI_fe {ta : Nat} {I : XI} {f j : Nat} (ht : TSP ta) : FE ta I (FI I f j) := by
  have n := ht.ne
  refine ⟨fun p a _ _ => ?_, fun k _ _ _ a b => ?_, fun k _ => ?_⟩
  · unfold FI
    rw [uI_ne a, uI_ne a]
  · unfold FI
    rw [uI_atC, if_neg b, uI_atC, if_neg a]
  · unfold FI
    rw [uI_ne n.1, uI_ne n.1]
/-- not so: the fault, and the machine ends so too -/
def NOR (ta : Nat) (tk : Nat → TK) (I : XI) (s : MS) (I' : XI) : Prop := ∃ f p c', FE ta I I' ∧ I' 35 7 = nI f ∧ I' 35 8 = nI p ∧ c' ≤ 300 ∧ I' ta 1 = nI c' ∧ Ends tk s (f, p) ∧ 1 ≤ f
theorem NOR.pre {ta : Nat} {tk : Nat → TK} {I I1 I' : XI} {s s1 : MS} (f : FE ta I I1) (r : Rch tk s s1) (h : NOR ta tk I1 s1 I') : NOR ta tk I s I' := by
  obtain ⟨a, p, c, h1, h2⟩ := h
  exact ⟨a, p, c, f.tr h1, h2.1, h2.2.1, h2.2.2.1, h2.2.2.2.1, r.ends h2.2.2.2.2.1, h2.2.2.2.2.2⟩
theorem NOR.fi {ta : Nat} {tk : Nat → TK} {I : XI} {s : MS} {f j c N : Nat} (ht : TSP ta) (ev : EV I tk N) (hj : j < N) (hc : c ≤ 300) (h1 : I ta 1 = nI c) (h : Ends tk s (ft tk f j)) (hf : 1 ≤ f := by decide) : NOR ta tk I s (FI I f j) := by
  have n := ht.ne
  refine ⟨f, (tk j).2.2.1, c, FI_fe ht, rfl, (ev.2 j hj).2, hc, ?_, h, hf⟩
  unfold FI
  rw [uI_ne n.1, uI_ne n.1]
  exact h1
section LEAF
variable (l : Launch) (ru_ ta : Nat) (rs : List XO) (I : XI) (J : XJ) (Rp : XR)
set_option maxRecDepth 100000 in
theorem rd_advance (n : Nat) (hn : 1 ≤ n) (i N : Nat) (hN : N ≤ 301) (hi : i < N) (e : I 35 3 + 1 = nI i) (eN : I 30 5 = nI N) (hR : Rp none (shH ru_ ta rs) (avI I i) J) : xm l n 0 0 mX5_advance [.ref 35] (shH ru_ ta rs) I J Rp := by
  obtain ⟨n, rfl⟩ : ∃ n', n = n' + 1 := ⟨n - 1, by omega⟩
  have hv : vp_in (I 35 3 + 1) 301 := by rw [e]; exact vp_in_nI (by omega) (by omega)
  refine xm_ofK 0 (X := xxX5) (t := tX5_advance) (stop := []) (ini := false) xx5 pl5 rfl kX5_advance (fun h => by cases h) (Nat.le_of_ble_eq_true rfl) (fun K hK => ?_)
  refine And.intro (fun h => absurd (show I 35 3 + 1 < 0 from h) (by rw [e]; exact nI_pos (by omega))) (fun _ => ?_)
  refine And.intro (fun h => absurd (show I 30 5 ≤ I 35 3 + 1 from h) (by rw [e, eN]; exact nI_ge hi (by omega))) (fun _ => ?_)
  refine And.intro (fun h => absurd (show nI 301 ≤ I 35 3 + 1 from h) (by rw [e]; exact nI_ge (by omega) (by omega))) (fun _ => ?_)
  refine And.intro (fun h => absurd h (by decide)) (fun _ => And.intro hv ?_)
  refine And.intro (fun h => absurd h (by decide)) (fun _ => And.intro hv ?_)
  show Rp none (shH ru_ ta rs) (uI (uI (uI I 35 3 (I 35 3 + 1)) 35 4 (I 32 (I 35 3 + 1).toNatClampNeg)) 35 5 (I 33 (I 35 3 + 1).toNatClampNeg)) J
  rw [e, nI_clamp (by omega)]
  exact hR
set_option maxRecDepth 100000 in
theorem rd_fail (n : Nat) (hn : 1 ≤ n) (f j : Nat) (hj : j < 301) (e : I 35 3 = nI j) (hR : Rp (some (.int 0)) (shH ru_ ta rs) (FI I f j) J) : xm l n 0 0 mX5_fail [.ref 35, .int (nI f)] (shH ru_ ta rs) I J Rp := by
  obtain ⟨n, rfl⟩ : ∃ n', n = n' + 1 := ⟨n - 1, by omega⟩
  have hv : vp_in (I 35 3) 301 := by rw [e]; exact vp_in_nI (by omega) (by omega)
  refine xm_ofK 0 (X := xxX5) (t := tX5_fail) (stop := []) (ini := false) xx5 pl5 rfl kX5_fail (fun h => by cases h) (Nat.le_of_ble_eq_true rfl) (fun K hK => ?_)
  refine And.intro (fun h => absurd (show I 35 3 < 0 from h) (by rw [e]; exact nI_pos (by omega))) (fun _ => ?_)
  refine And.intro (fun h => absurd (show nI 301 ≤ I 35 3 from h) (by rw [e]; exact nI_ge (by omega) (by omega))) (fun _ => And.intro hv ?_)
  refine And.intro (Or.inl rfl) ?_
  show Rp (some (.int 0)) (shH ru_ ta rs) (uI (uI I 35 7 (nI f)) 35 8 (I 34 (I 35 3).toNatClampNeg)) J
  rw [e, nI_clamp (by omega)]
  exact hR
set_option maxRecDepth 100000 in
theorem rd_isWord (n : Nat) (hn : 1 ≤ n) (w : Int32) (h1 : I 35 4 = 3 ∧ I 35 5 = w → Rp (some (.int 1)) (shH ru_ ta rs) I J) (h0 : ¬ (I 35 4 = 3 ∧ I 35 5 = w) → Rp (some (.int 0)) (shH ru_ ta rs) I J) : xm l n 0 0 mX5_isWord [.ref 35, .int w] (shH ru_ ta rs) I J Rp := by
  obtain ⟨n, rfl⟩ : ∃ n', n = n' + 1 := ⟨n - 1, by omega⟩
  refine xm_ofK 0 (X := xxX5) (t := tX5_isWord) (stop := []) (ini := false) xx5 pl5 rfl kX5_isWord (fun h => by cases h) (Nat.le_of_ble_eq_true rfl) (fun K hK => ?_)
  refine And.intro (fun h => And.intro (Or.inl rfl) (h0 fun z => h z.1)) (fun h => ?_)
  exact And.intro (fun g => And.intro (Or.inl rfl) (h0 fun z => g z.2)) (fun g => And.intro (Or.inr rfl) (h1 ⟨h, g⟩))
set_option maxRecDepth 100000 in
theorem rd_sign (n : Nat) (hn : 2 ≤ n) (s : Int32) (i N : Nat) (hN : N ≤ 301) (hi : i < N) (e : I 35 3 = nI i) (eN : I 30 5 = nI N) (h1 : I 35 4 = s → i + 1 < N) (hS : I 35 4 = s → Rp (some (.int 1)) (shH ru_ ta rs) (avI I (i + 1)) J) (hF : ¬ I 35 4 = s → Rp (some (.int 0)) (shH ru_ ta rs) (FI I 1 i) J) : xm l n 0 0 mX5_sign [.ref 35, .int s] (shH ru_ ta rs) I J Rp := by
  obtain ⟨n, rfl⟩ : ∃ n', n = n' + 1 := ⟨n - 1, by omega⟩
  refine xm_ofK 0 (X := xxX5) (t := tX5_sign) (stop := []) (ini := false) xx5 pl5 rfl kX5_sign (fun h => by cases h) (Nat.le_of_ble_eq_true rfl) (fun K hK => ?_)
  refine And.intro (fun h => ?_) (fun h => ?_)
  · refine rd_advance l ru_ ta rs I J _ n (by omega) (i + 1) N hN (h1 h) (by rw [e, nI_1]) eN ?_
    exact And.intro (Or.inr rfl) (hS h)
  · refine rd_fail l ru_ ta rs I J _ n (by omega) 1 i (by omega) e ?_
    exact And.intro (Or.inl rfl) (hF h)
set_option maxRecDepth 100000 in
theorem rd_word (n : Nat) (hn : 2 ≤ n) (w : Int32) (i N : Nat) (hN : N ≤ 301) (hi : i < N) (e : I 35 3 = nI i) (eN : I 30 5 = nI N) (h1 : I 35 4 = 3 ∧ I 35 5 = w → i + 1 < N) (hS : I 35 4 = 3 ∧ I 35 5 = w → Rp (some (.int 1)) (shH ru_ ta rs) (avI I (i + 1)) J) (hF : ¬ (I 35 4 = 3 ∧ I 35 5 = w) → Rp (some (.int 0)) (shH ru_ ta rs) (FI I 1 i) J) : xm l n 0 0 mX5_word [.ref 35, .int w] (shH ru_ ta rs) I J Rp := by
  obtain ⟨n, rfl⟩ : ∃ n', n = n' + 1 := ⟨n - 1, by omega⟩
  refine xm_ofK 0 (X := xxX5) (t := tX5_word) (stop := []) (ini := false) xx5 pl5 rfl kX5_word (fun h => by cases h) (Nat.le_of_ble_eq_true rfl) (fun K hK => ?_)
  refine rd_isWord l ru_ ta rs I J _ n (by omega) w (fun g => ?_) (fun g => ?_)
  · refine And.intro (fun _ => ?_) (fun h => absurd h (by decide))
    refine rd_advance l ru_ ta rs I J _ n (by omega) (i + 1) N hN (h1 g) (by rw [e, nI_1]) eN ?_
    exact And.intro (Or.inr rfl) (hS g)
  · refine And.intro (fun h => absurd rfl h) (fun _ => ?_)
    refine rd_fail l ru_ ta rs I J _ n (by omega) 1 i (by omega) e ?_
    exact And.intro (Or.inl rfl) (hF g)
set_option maxRecDepth 100000 in
theorem rd_number (n : Nat) (hn : 2 ≤ n) (lo hi : Int32) (i N : Nat) (hN : N ≤ 301) (hii : i < N) (e : I 35 3 = nI i) (eN : I 30 5 = nI N) (h1 : I 35 4 = 2 → i + 1 < N) (hS : I 35 4 = 2 → ¬ I 35 5 < lo → I 35 5 ≤ hi → Rp (some (.int 1)) (shH ru_ ta rs) (avI I (i + 1)) J) (hO : I 35 4 = 2 → I 35 5 < lo ∨ ¬ I 35 5 ≤ hi → Rp (some (.int 0)) (shH ru_ ta rs) (FI I 2 i) J) (hF : ¬ I 35 4 = 2 → Rp (some (.int 0)) (shH ru_ ta rs) (FI I 1 i) J) : xm l n 0 0 mX5_number [.ref 35, .int lo, .int hi] (shH ru_ ta rs) I J Rp := by
  obtain ⟨n, rfl⟩ : ∃ n', n = n' + 1 := ⟨n - 1, by omega⟩
  refine xm_ofK 0 (X := xxX5) (t := tX5_number) (stop := []) (ini := false) xx5 pl5 rfl kX5_number (fun h => by cases h) (Nat.le_of_ble_eq_true rfl) (fun K hK => ?_)
  refine And.intro (fun h => ?_) (fun h => ?_)
  · refine And.intro (fun g => ?_) (fun g => And.intro (fun g2 => ?_) (fun g2 => ?_))
    · refine rd_fail l ru_ ta rs I J _ n (by omega) 2 i (by omega) e ?_
      exact And.intro (Or.inl rfl) (hO h (Or.inl g))
    · refine rd_advance l ru_ ta rs I J _ n (by omega) (i + 1) N hN (h1 h) (by rw [e, nI_1]) eN ?_
      exact And.intro (Or.inr rfl) (hS h g g2)
    · refine rd_fail l ru_ ta rs I J _ n (by omega) 2 i (by omega) e ?_
      exact And.intro (Or.inl rfl) (hO h (Or.inr g2))
  · refine rd_fail l ru_ ta rs I J _ n (by omega) 1 i (by omega) e ?_
    exact And.intro (Or.inl rfl) (hF h)
/-- an order more, where there is room -/
def EM (ta : Nat) (I I' : XI) (c : Nat) (o v : Int32) : Prop := (∀ p, p ≠ ta → p ≠ ta + 1 → I' p = I p) ∧ (∀ k, k ≠ 1 → I' ta k = I ta k) ∧ I' ta 1 = nI (if c < 300 then c + 1 else c) ∧ (c < 300 → I' (ta + 1) = upd (I (ta + 1)) c (o * 10000 + v))
theorem EM.fs {ta : Nat} {I I' : XI} {c : Nat} {o v : Int32} (ht : TSP ta) (h : EM ta I I' c o v) : FS ta I I' := by
  have n := ht.ne
  have e : I' 35 = I 35 := h.1 35 (by omega) (by omega)
  exact ⟨⟨fun p _ b d => h.1 p b d, fun k _ _ _ _ _ => by rw [e], h.2.1⟩, by rw [e], by rw [e]⟩
theorem EM.at {ta : Nat} {I I' : XI} {c j : Nat} {o v : Int32} (ht : TSP ta) (h : EM ta I I' c o v) (a : ATt ta I j c) : ATt ta I' j (if c < 300 then c + 1 else c) := by
  have n := ht.ne
  have e : I' 35 = I 35 := h.1 35 (by omega) (by omega)
  have e2 : I' 32 = I 32 := h.1 32 (by omega) (by omega)
  have e3 : I' 33 = I 33 := h.1 33 (by omega) (by omega)
  unfold ATt
  rw [e, e2, e3]
  exact ⟨a.1, a.2.1, a.2.2.1, h.2.2.1⟩
theorem NOR.em {ta : Nat} {tk : Nat → TK} {I I1 : XI} {s : MS} (ht : TSP ta) (h : NOR ta tk I s I1) : ∃ c, c ≤ 300 ∧ I1 ta 1 = nI c ∧ ∀ (o v : Int32) (I' : XI), EM ta I1 I' c o v → NOR ta tk I s I' := by
  obtain ⟨f, p, c, h1, h2, h3, h4, h5, h6⟩ := h
  have n := ht.ne
  refine ⟨c, h4, h5, fun o v I' e => ⟨f, p, (if c < 300 then c + 1 else c), h1.tr (e.fs ht).1, by rw [(e.fs ht).2.1]; exact h2, by rw [(e.fs ht).2.2]; exact h3, ?_, e.2.2.1, h6⟩⟩
  split <;> omega
set_option maxRecDepth 100000 in
theorem rd_emit (ht : TSP ta) (n : Nat) (hn : 1 ≤ n) (c : Nat) (hc : c ≤ 300) (o v : Int32) (e : I ta 1 = nI c) (hR : ∀ I', EM ta I I' c o v → Rp none (shH ru_ ta rs) I' J) : xm l n 0 0 mX8_emit [.ref ta, .int o, .int v] (shH ru_ ta rs) I J Rp := by
  obtain ⟨n, rfl⟩ : ∃ n', n = n' + 1 := ⟨n - 1, by omega⟩
  have big : 300 ≤ c → EM ta I I c o v := fun z => ⟨fun _ _ _ => rfl, fun _ _ => rfl, by rw [if_neg (by omega)]; exact e, fun y => by omega⟩
  have small : c < 300 → EM ta I (uI (uI I (ta + 1) c (o * 10000 + v)) ta 1 (nI (c + 1))) c o v := fun z => by
    refine ⟨fun p a b => by rw [uI_ne a, uI_ne b], fun k hk => ?_, ?_, fun _ => ?_⟩
    · rw [uI_atC, if_neg hk, uI_ne (by omega)]
    · rw [uI_atC, if_pos rfl, if_pos z]
    · rw [uI_ne (by omega), uI_eq]
  have key : (c < 300 → vp_in (I ta 1) 300 ∧ Rp none (shH ru_ ta rs) (uI (uI I (ta + 1) (I ta 1).toNatClampNeg (o * 10000 + v)) ta 1 (I ta 1 + 1)) J) := fun z => by
    rw [e, nI_clamp (by omega), nI_1]
    exact ⟨vp_in_nI z (by omega), hR _ (small z)⟩
  have ge : ¬ nI 300 ≤ I ta 1 → c < 300 := fun z => by
    rcases Nat.lt_or_ge c 300 with y | y
    · exact y
    · exact absurd (by rw [e]; exact nI_le y (by omega)) z
  have le : nI 300 ≤ I ta 1 → 300 ≤ c := fun z => by
    rcases Nat.lt_or_ge c 300 with y | y
    · exact absurd z (by rw [e]; exact nI_ge y (by omega))
    · exact y
  unfold TSP at ht
  rcases ht with rfl | rfl | rfl | rfl | rfl
  · refine xm_ofK 0 (X := xxX8) (t := tX8_emit) (stop := []) (ini := false) xx8 pl8 rfl kX8_emit (fun h => by cases h) (Nat.le_of_ble_eq_true rfl) (fun K hK => ?_)
    exact And.intro (fun h => hR I (big (le h))) (fun h => And.intro (key (ge h)).1 (key (ge h)).2)
  · refine xm_ofK 0 (X := xxX8) (t := tX8_emit) (stop := []) (ini := false) xx8 pl8 rfl kX8_emit (fun h => by cases h) (Nat.le_of_ble_eq_true rfl) (fun K hK => ?_)
    exact And.intro (fun h => hR I (big (le h))) (fun h => And.intro (key (ge h)).1 (key (ge h)).2)
  · refine xm_ofK 0 (X := xxX8) (t := tX8_emit) (stop := []) (ini := false) xx8 pl8 rfl kX8_emit (fun h => by cases h) (Nat.le_of_ble_eq_true rfl) (fun K hK => ?_)
    exact And.intro (fun h => hR I (big (le h))) (fun h => And.intro (key (ge h)).1 (key (ge h)).2)
  · refine xm_ofK 0 (X := xxX8) (t := tX8_emit) (stop := []) (ini := false) xx8 pl8 rfl kX8_emit (fun h => by cases h) (Nat.le_of_ble_eq_true rfl) (fun K hK => ?_)
    exact And.intro (fun h => hR I (big (le h))) (fun h => And.intro (key (ge h)).1 (key (ge h)).2)
  · refine xm_ofK 0 (X := xxX8) (t := tX8_emit) (stop := []) (ini := false) xx8 pl8 rfl kX8_emit (fun h => by cases h) (Nat.le_of_ble_eq_true rfl) (fun K hK => ?_)
    exact And.intro (fun h => hR I (big (le h))) (fun h => And.intro (key (ge h)).1 (key (ge h)).2)
end LEAF
end
section
-- ===== the reader: what sums are made of =====
def naL (k : Nat) : Nat := [63, 62, 454, 199, 1567].getD k 0
/-- so: the machine comes there too -/
def OKR (ta N : Nat) (tk : Nat → TK) (I : XI) (j c : Nat) (s : MS) (t : Nat → MS) (R : MS → MS → List Odr → Prop) (P : Nat → Prop) (I' : XI) : Prop := ∃ j' c', FS ta I I' ∧ ATt ta I' j' c' ∧ j' < N ∧ c + 1 ≤ c' ∧ j + c' ≤ j' + c ∧ (Rch tk s (t j') ∧ ∃ e, Cem ta I I' c c' e ∧ R s (t j') e) ∧ P j'
theorem OKR.pre {ta N : Nat} {tk : Nat → TK} {I I1 I' : XI} {j c : Nat} {s : MS} {t : Nat → MS} {R R' : MS → MS → List Odr → Prop} {P : Nat → Prop} (f : FS ta I I1) (q : I1 (ta + 1) = I (ta + 1)) (hR : ∀ a b e, R a b e → R' a b e) (h : OKR ta N tk I1 j c s t R P I') : OKR ta N tk I j c s t R' P I' := by
  obtain ⟨j', c', h1, h2, h3, h4, h5, ⟨h6, e, ce, rr⟩, h7⟩ := h
  exact ⟨j', c', f.tr h1, h2, h3, h4, h5, ⟨h6, e, ce.base q, hR _ _ _ rr⟩, h7⟩
theorem avI_row {ta i : Nat} {I : XI} (ht : TSP ta) : avI I i (ta + 1) = I (ta + 1) := by
  have := ht.ne
  unfold avI
  rw [uI_ne (by omega), uI_ne (by omega), uI_ne (by omega)]
theorem Cem.em {ta : Nat} {I I' : XI} {c : Nat} {o v : Int32} {q : Odr} (h : EM ta I I' c o v) (hc : c < 300) (hq : ccd q = o * 10000 + v) : Cem ta I I' c (c + 1) [q] := by
  have e := h.2.2.2 hc
  refine ⟨fun i hi => ?_, rfl, ?_, trivial⟩
  · rw [e]
    simp only [upd, if_neg (show ¬ i = c by omega)]
  · rw [e, hq]
    simp [upd]
def nmB (k v : Nat) : Int32 := (nI (naL k) >>> (nI (cw v - 13) &&& 31)) &&& 1
theorem nm_tab : ((List.range 5).all fun k => (List.range 32).all fun v => match nmO v with
  | some n => (Nat.ble 13 (cw v) && Nat.ble (cw v) 23) && (decide (nmB k v = 0) == !(myN n k))
  | none => !(Nat.ble 13 (cw v) && Nat.ble (cw v) 23)) = true := by decide +kernel
theorem nm_some {k v n : Nat} (hk : k < 5) (hv : v < 32) (h : nmO v = some n) : (13 ≤ cw v ∧ cw v ≤ 23) ∧ (nmB k v = 0 ↔ myN n k = false) := by
  have y := List.all_eq_true.mp (List.all_eq_true.mp nm_tab k (List.mem_range.mpr hk)) v (List.mem_range.mpr hv)
  rw [h] at y
  have y : ((Nat.ble 13 (cw v) && Nat.ble (cw v) 23) && (decide (nmB k v = 0) == !(myN n k))) = true := y
  rw [Bool.and_eq_true, Bool.and_eq_true] at y
  refine ⟨⟨Nat.le_of_ble_eq_true y.1.1, Nat.le_of_ble_eq_true y.1.2⟩, ?_⟩
  have z := eq_of_beq y.2
  cases e : myN n k with
  | true =>
    rw [e] at z
    exact ⟨fun w => absurd w (of_decide_eq_false z), fun w => by cases w⟩
  | false =>
    rw [e] at z
    exact ⟨fun _ => rfl, fun _ => of_decide_eq_true z⟩
theorem nm_none {v : Nat} (hv : v < 32) (h : nmO v = none) : ¬ (13 ≤ cw v ∧ cw v ≤ 23) := by
  have y := List.all_eq_true.mp (List.all_eq_true.mp nm_tab 0 (List.mem_range.mpr (by omega))) v (List.mem_range.mpr hv)
  rw [h] at y
  have y : (!(Nat.ble 13 (cw v) && Nat.ble (cw v) 23)) = true := y
  intro z
  rw [Nat.ble_eq.mpr z.1, Nat.ble_eq.mpr z.2] at y
  cases y
theorem nI_subI {a b : Nat} (h : b ≤ a) (ha : a < 2 ^ 31) : nI a - nI b = nI (a - b) := by
  apply Int32.toInt_inj.mp
  rw [i32_sub (by rw [nI_toInt (by omega), nI_toInt (by omega)]; omega) (by rw [nI_toInt (by omega), nI_toInt (by omega)]; omega), nI_toInt (by omega), nI_toInt (by omega), nI_toInt (by omega)]
  omega
def Qo (tk : Nat → TK) (k m : Nat) (s t : MS) (e : List Odr) : Prop := Q1 tk s t e ∧ Typ k (2 * m + 1) false e
def Qp (tk : Nat → TK) (k m : Nat) (s t : MS) (e : List Odr) : Prop := Qs tk 4 s t e ∧ Typ k (2 * m + 2) false e
def Qu (tk : Nat → TK) (k m : Nat) (s t : MS) (e : List Odr) : Prop := Qs tk 3 s t e ∧ Typ k (2 * m + 3) false e
section READ
variable (l : Launch) (ru_ ta : Nat) (rs : List XO) (tk : Nat → TK) (N : Nat) (k : Nat) (ws : List Nat)
def CN (l : Launch) (ru_ ta : Nat) (rs : List XO) (tk : Nat → TK) (N : Nat) (k : Nat) (ws : List Nat) (M : XM) (up : Nat) (t : List Nat → Nat → MS) (R : MS → MS → List Odr → Prop) (Q : List Nat → Prop) (P : Nat → Prop) (m n : Nat) : Prop := ∀ (δ j c : Nat) (K : List Nat) (I : XI) (J : XJ) (Rp : XR), δ + m = 8 → opK K + up = δ → Q K → EV I tk N → ATt ta I (j + up) c → j + up < N → c ≤ j → I 35 2 = nI (naL k) → (up = 1 → (tk j).1 = 1 ∧ (tk j).2.1 = 22) → (∀ I', OKR ta N tk I j c (1, K, k, ws, j) (t K) R P I' → Rp (some (.int 1)) (shH ru_ ta rs) I' J) → (∀ I', NOR ta tk I (1, K, k, ws, j) I' → Rp (some (.int 0)) (shH ru_ ta rs) I' J) → xm l n 0 0 M [.ref 35, .int (nI δ)] (shH ru_ ta rs) I J Rp
abbrev C1 (l : Launch) (ru_ ta : Nat) (rs : List XO) (tk : Nat → TK) (N : Nat) (k : Nat) (ws : List Nat) (m n : Nat) : Prop := CN l ru_ ta rs tk N k ws mX5_one 0 (fun K j' => (2, cl78 K, k, ws, j')) (Qo tk k m) (fun _ => True) (fun _ => True) m n
abbrev CP (l : Launch) (ru_ ta : Nat) (rs : List XO) (tk : Nat → TK) (N : Nat) (k : Nat) (ws : List Nat) (m n : Nat) : Prop := CN l ru_ ta rs tk N k ws mX5_part 1 (fun K j' => (2, cl78 K, k, ws, j')) (Qo tk k m) (fun _ => True) (fun _ => True) m n
abbrev C2 (l : Launch) (ru_ ta : Nat) (rs : List XO) (tk : Nat → TK) (N : Nat) (k : Nat) (ws : List Nat) (m n : Nat) : Prop := CN l ru_ ta rs tk N k ws mX5_product 0 (fun K j' => (2, K, k, ws, j')) (Qp tk k m) (fun K => cl78 K = K) (fun j' => isSg (tk j') 42 = false ∧ isSg (tk j') 47 = false) m n
abbrev C3 (l : Launch) (ru_ ta : Nat) (rs : List XO) (tk : Nat → TK) (N : Nat) (k : Nat) (ws : List Nat) (m n : Nat) : Prop := CN l ru_ ta rs tk N k ws mX5_sum 0 (fun K j' => (2, K, k, ws, j')) (Qu tk k m) (fun K => cl78 K = K) (fun j' => isOp (tk j') = false) m n
variable {l ru_ ta rs tk N k ws}
theorem end_sg {tk : Nat → TK} {N j s : Nat} (h : TKN tk N) (hj : j < N) (h3 : 300 ≤ j) : isSg (tk j) s = false := by
  have e : j = N - 1 := by have := h.2.1; omega
  cases z : isSg (tk j) s with
  | false => rfl
  | true =>
    have := (sg_1 z).1
    rw [e, h.2.2.1] at this
    cases this
theorem rch78 {K : List Nat} {s : MS} {j2 : Nat} (hK : cl78 K = K) (h : Rch tk s (2, cl78 K, k, ws, j2)) : Rch tk s (2, K, k, ws, j2) := by
  rw [hK] at h
  exact h
theorem q178 {K : List Nat} {s : MS} {j2 : Nat} {e : List Odr} (hK : cl78 K = K) (h : Q1 tk s (2, cl78 K, k, ws, j2) e) : Q1 tk s (2, K, k, ws, j2) e := by
  rw [hK] at h
  exact h
theorem op_1 {q : TK} (h : isSg q 42 = true ∨ isSg q 47 = true ∨ isSg q 43 = true ∨ isSg q 45 = true) : isOp q = true ∧ q.1 ≠ 0 := by
  refine ⟨?_, fun z => ?_⟩
  · unfold isOp
    rcases h with e | e | e | e <;> rw [e] <;> simp
  · rcases h with e | e | e | e <;> have := (sg_1 e).1 <;> omega
theorem op_0 {q : TK} (h : isSg q 42 = false ∧ isSg q 47 = false) (g : isSg q 43 = false ∧ isSg q 45 = false) : isOp q = false := by
  unfold isOp
  rw [h.1, h.2, g.1, g.2]
  rfl
/-- where a sum stands that has begun -/
def BG (ta N : Nat) (tk : Nat → TK) (I : XI) (j c : Nat) (s : MS) (t : Nat → MS) (R : MS → MS → List Odr → Prop) (I' : XI) (j' c' : Nat) : Prop := FS ta I I' ∧ ATt ta I' j' c' ∧ j' < N ∧ c + 1 ≤ c' ∧ j + c' ≤ j' + c ∧ (Rch tk s (t j') ∧ ∃ e, Cem ta I I' c c' e ∧ R s (t j') e)
set_option maxRecDepth 100000 in
set_option maxHeartbeats 1000000 in
theorem rd_product_fail (n δ j S i : Nat) (hs : 0 < S) (K : List Nat) (I I' : XI) (J : XJ) (Rp : XR) (o4 : Option Value) (hF : ∀ I', NOR ta tk I (1, K, k, ws, j) I' → Rp (some (.int 0)) (shH ru_ ta rs) I' J) (h : NOR ta tk I (1, K, k, ws, j) I') : xrun xxX5 (some .boolean) false false (shH ru_ ta rs).length 0 0 none l n tX5_product [8, 55] Rp S 8 [some (.ref 35), some (.int (nI δ)), some (.int 0), some (.int (nI i)), o4] [] (shH ru_ ta rs) I' J 0 0 := by
  obtain ⟨S, rfl⟩ : ∃ n', S = n' + 1 := ⟨S - 1, by omega⟩
  refine xrun_step fun K hK => ?_
  exact And.intro (fun _ => And.intro (Or.inl rfl) (hF I' h)) (fun _ => And.intro (fun _ => And.intro (Or.inl rfl) (hF I' h)) (fun z => absurd rfl z))
set_option maxRecDepth 100000 in
set_option maxHeartbeats 1000000 in
theorem rd_product_op (ht : TSP ta) (hk : TKN tk N) {m n : Nat} (hn : 2 ≤ n) (hC : C1 l ru_ ta rs tk N k ws m n) (δ j c : Nat) (K : List Nat) (I : XI) (J : XJ) (Rp : XR) (hδ : δ + m = 8) (hop : opK K = δ) (hK : cl78 K = K) (hev : EV I tk N) (hc : c ≤ j) (ha : I 35 2 = nI (naL k)) (hF : ∀ I', NOR ta tk I (1, K, k, ws, j) I' → Rp (some (.int 0)) (shH ru_ ta rs) I' J) (S i j' c' : Nat) (I' : XI) (o : Int32) (h : BG ta N tk I j c (1, K, k, ws, j) (fun j' => (2, K, k, ws, j')) (Qp tk k m) I' j' c') (hS : 0 < S) (ho : isOp (tk j') = true ∧ (tk j').1 ≠ 0) (hcd : ccd ((tk j').2.1, 0) = o * 10000 + 0 ∧ rkn (tk j').2.1 = 4 ∧ ∀ k t, tyo k ((tk j').2.1, 0) (false :: false :: t) = some (false :: t)) (go : ∀ (j2 c2 : Nat) (I2 : XI), BG ta N tk I j c (1, K, k, ws, j) (fun j' => (2, K, k, ws, j')) (Qp tk k m) I2 j2 c2 → j' + 1 ≤ j2 → (True) → xrun xxX5 (some .boolean) false false (shH ru_ ta rs).length 0 0 none l n tX5_product [8, 55] Rp S 8 [some (.ref 35), some (.int (nI δ)), some (.int 1), some (.int (nI (i + 1))), some (.int o)] [] (shH ru_ ta rs) I2 J 0 0) : xrun xxX5 (some .boolean) false false (shH ru_ ta rs).length 0 0 none l n tX5_product [8, 55] Rp (S + 1) 55 [some (.ref 35), some (.int (nI δ)), some (.int 1), some (.int (nI i)), some (.int o)] [] (shH ru_ ta rs) I' J 0 0 := by
  obtain ⟨h1, h2, h3, h4, h5, h6, e0, ce0, rr0, ty0⟩ := h
  have hN := hk.2.1
  have ev' := hev.fe ht h1.1
  have hlt := hk.nx h3 ho.2
  have f1 : FS ta I (avI I' (j' + 1)) := h1.tr (avI_fs ht)
  have r1 : Rch tk (1, K, k, ws, j) (1, K, k, ws, j' + 1) := h6.tr (Rch.step (s2_op ho.1) (Rch.rf _))
  refine xrun_step fun Kk hKk => ?_
  refine rd_advance l ru_ ta rs I' J _ n (by omega) (j' + 1) N hN hlt (by rw [h2.1, nI_1]) ev'.1 ?_
  refine hC δ (j' + 1) c' K (avI I' (j' + 1)) J _ hδ hop trivial (hev.fe ht f1.1) (avI_at ht h2.2.2.2) hlt (by omega) (by rw [f1.1.2.1 2 (by decide) (by decide) (by decide) (by decide) (by decide)]; exact ha) (fun z => absurd z (by decide)) (fun I2 ok => ?_) (fun I2 no => ?_)
  · obtain ⟨j2, c2, g1, g2, g3, g4, g5, ⟨g6, e1, ce1, rr1, ty1⟩, g7⟩ := ok
    have rr2 := Qs.op (K := K) rfl rr0 ho.1 hcd.2.1 (show 4 < 5 by omega) (Q1.rs (s := (1, K, k, ws, j' + 1)) hK (q178 hK rr1))
    have ce2 := ce0.tr (ce1.base (avI_row (i := j' + 1) (I := I') ht))
    obtain rfl | rfl | rfl | rfl | rfl := id ht
    all_goals
      refine rd_emit l ru_ _ rs I2 J _ ht n (by omega) c2 (by omega) o 0 g2.2.2.2 (fun I3 em => ?_)
      have e3 := em.at ht g2
      rw [if_pos (show c2 < 300 by omega)] at e3
      refine hKk 8 [some (.ref 35), some (.int (nI δ)), some (.int 1), some (.int (nI i + 1)), some (.int o)] [] (shH ru_ _ rs) I3 J 0 0 ?_
      rw [nI_1]
      refine go j2 (c2 + 1) I3 ⟨(f1.tr g1).tr (em.fs ht), e3, g3, by omega, by omega, r1.tr ?_, e0 ++ e1 ++ [((tk j').2.1, 0)], ce2.tr (Cem.em em (by omega) hcd.1), rr2, Typ.op ty0 ty1 (hcd.2.2 k)⟩ (by omega) trivial
      exact rch78 hK g6
  · have no' := NOR.pre f1.1 r1 no
    obtain ⟨c0, hc0, e0, hem⟩ := no'.em ht
    obtain rfl | rfl | rfl | rfl | rfl := id ht
    all_goals
      refine rd_emit l ru_ _ rs I2 J _ ht n (by omega) c0 hc0 o 0 e0 (fun I3 em => ?_)
      refine hKk 8 [some (.ref 35), some (.int (nI δ)), some (.int 0), some (.int (nI i + 1)), some (.int o)] [] (shH ru_ _ rs) I3 J 0 0 ?_
      rw [nI_1]
      exact rd_product_fail n δ j S (i + 1) hS K I I3 J Rp _ hF (hem o 0 I3 em)
set_option maxRecDepth 100000 in
set_option maxHeartbeats 1000000 in
theorem rd_product_loop (ht : TSP ta) (hk : TKN tk N) {m n : Nat} (hn : 2 ≤ n) (hC : C1 l ru_ ta rs tk N k ws m n) (δ j c : Nat) (K : List Nat) (I : XI) (J : XJ) (Rp : XR) (hδ : δ + m = 8) (hop : opK K = δ) (hK : cl78 K = K) (hev : EV I tk N) (hc : c ≤ j) (ha : I 35 2 = nI (naL k)) (hS : ∀ I', OKR ta N tk I j c (1, K, k, ws, j) (fun j' => (2, K, k, ws, j')) (Qp tk k m) (fun j' => isSg (tk j') 42 = false ∧ isSg (tk j') 47 = false) I' → Rp (some (.int 1)) (shH ru_ ta rs) I' J) (hF : ∀ I', NOR ta tk I (1, K, k, ws, j) I' → Rp (some (.int 0)) (shH ru_ ta rs) I' J) : ∀ (M i S j' c' : Nat) (I' : XI) (o4 : Option Value), N - j' ≤ M → 2 * M + 2 < S → i ≤ j' → BG ta N tk I j c (1, K, k, ws, j) (fun j' => (2, K, k, ws, j')) (Qp tk k m) I' j' c' → (True) → xrun xxX5 (some .boolean) false false (shH ru_ ta rs).length 0 0 none l n tX5_product [8, 55] Rp S 8 [some (.ref 35), some (.int (nI δ)), some (.int 1), some (.int (nI i)), o4] [] (shH ru_ ta rs) I' J 0 0 := by
  intro M
  induction M with
  | zero =>
    intro i S j' c' I' o4 hM _ _ h
    have := h.2.2.1
    omega
  | succ M ih =>
    intro i S j' c' I' o4 hM hS' hi h hp
    obtain ⟨S, rfl⟩ : ∃ n', S = n' + 2 := ⟨S - 2, by omega⟩
    have hN := hk.2.1
    have ev' := hev.fe ht h.1.1
    have tkj := h.2.1.tk ev' h.2.2.1
    have okj := hk.2.2.2.2 j'
    have out : (isSg (tk j') 42 = false ∧ isSg (tk j') 47 = false) → (((1 : Int32) = 0 ∨ (1 : Int32) = 1) ∧ Rp (some (.int 1)) (shH ru_ ta rs) I' J) := fun hq => ⟨Or.inr rfl, hS I' ⟨j', c', h.1, h.2.1, h.2.2.1, h.2.2.2.1, h.2.2.2.2.1, h.2.2.2.2.2, hq⟩⟩
    have cA : I' 35 4 = nI (sgC 42) ↔ isSg (tk j') 42 = true := tkC_sg tkj okj (by decide)
    have cB : I' 35 4 = nI (sgC 47) ↔ isSg (tk j') 47 = true := tkC_sg tkj okj (by decide)
    refine xrun_step fun Kk hKk => ?_
    have go : ∀ o : Int32, (isOp (tk j') = true ∧ (tk j').1 ≠ 0) → (ccd ((tk j').2.1, 0) = o * 10000 + 0 ∧ rkn (tk j').2.1 = 4 ∧ ∀ k t, tyo k ((tk j').2.1, 0) (false :: false :: t) = some (false :: t)) → Kk 55 [some (.ref 35), some (.int (nI δ)), some (.int 1), some (.int (nI i)), some (.int o)] [] (shH ru_ ta rs) I' J 0 0 := fun o ho hcd => by
      refine hKk 55 [some (.ref 35), some (.int (nI δ)), some (.int 1), some (.int (nI i)), some (.int o)] [] (shH ru_ ta rs) I' J 0 0 ?_
      refine rd_product_op ht hk hn hC δ j c K I J Rp hδ hop hK hev hc ha hF S i j' c' I' o h (by omega) ho hcd (fun j2 c2 I2 b hj hq => ?_)
      exact ih (i + 1) S j2 c2 I2 _ (by omega) (by omega) (by omega) b hq
    refine And.intro (fun h3 => ?_) (fun h3 => ?_)
    · have h3 : nI 300 ≤ nI i := h3
      have hj := h.2.2.1
      rw [nI_leI (by omega) (by omega)] at h3
      have x : ∀ s, isSg (tk j') s = false := fun s => end_sg hk hj (by omega)
      exact out ⟨x _, x _⟩
    · refine And.intro (fun z => absurd z (by decide)) (fun _ => ?_)
      refine And.intro (fun gA => ?_) (fun gA => And.intro (fun gB => ?_) (fun gB => ?_))
      · have tA : isSg (tk j') 42 = true := cA.mp gA
        exact And.intro (fun z => absurd gA z) (fun _ => go 7 (op_1 (Or.inl tA)) (op42 tA))
      · exact out ⟨bF Iff.rfl (fun z => gA (cA.mpr z)), bF Iff.rfl (fun z => gB (cB.mpr z))⟩
      · have tB : isSg (tk j') 47 = true := cB.mp gB
        exact And.intro (fun _ => go 8 (op_1 (Or.inr (Or.inl tB))) (op47 tB)) (fun z => absurd z gA)
set_option maxRecDepth 100000 in
set_option maxHeartbeats 1000000 in
theorem rd_product (ht : TSP ta) (hk : TKN tk N) {m n : Nat} (hn : 2 ≤ n) (hC : C1 l ru_ ta rs tk N k ws m n) : C2 l ru_ ta rs tk N k ws m (n + 1) := by
  intro δ j c K I J Rp hδ hop hK hev hat hj hc ha _ hS hF
  have hN := hk.2.1
  refine xm_ofK 700 (X := xxX5) (t := tX5_product) (stop := [8, 55]) (ini := false) xx5 pl5 rfl kX5_product (fun h => by cases h) (Nat.le_of_ble_eq_true rfl) (fun Kk hKk => ?_)
  refine hC δ j c K I J _ hδ hop trivial hev hat hj hc ha (fun z => absurd z (by decide)) (fun I2 ok => ?_) (fun I2 no => ?_)
  · obtain ⟨j2, c2, g1, g2, g3, g4, g5, ⟨g6, e1, ce1, rr1, ty1⟩, g7⟩ := ok
    refine hKk 8 [some (.ref 35), some (.int (nI δ)), some (.int 1), some (.int (nI 0)), none] [] (shH ru_ ta rs) I2 J 0 0 ?_
    refine rd_product_loop ht hk hn hC δ j c K I J Rp hδ hop hK hev hc ha hS hF 301 0 700 j2 c2 I2 none (by omega) (by omega) (by omega) ⟨g1, g2, g3, g4, g5, ?_, e1, ce1, Qs.mono (by omega) (Q1.rs (s := (1, K, k, ws, j)) hK (q178 hK rr1)), ty1.mono (by omega)⟩ trivial
    exact rch78 hK g6
  · exact hKk 8 [some (.ref 35), some (.int (nI δ)), some (.int 0), some (.int (nI 0)), none] [] (shH ru_ ta rs) I2 J 0 0 (rd_product_fail n δ j 700 0 (by omega) K I I2 J Rp none hF no)
set_option maxRecDepth 100000 in
set_option maxHeartbeats 1000000 in
theorem rd_sum_fail (n δ j S i : Nat) (hs : 0 < S) (K : List Nat) (I I' : XI) (J : XJ) (Rp : XR) (o4 : Option Value) (hF : ∀ I', NOR ta tk I (1, K, k, ws, j) I' → Rp (some (.int 0)) (shH ru_ ta rs) I' J) (h : NOR ta tk I (1, K, k, ws, j) I') : xrun xxX5 (some .boolean) false false (shH ru_ ta rs).length 0 0 none l n tX5_sum [8, 54] Rp S 8 [some (.ref 35), some (.int (nI δ)), some (.int 0), some (.int (nI i)), o4] [] (shH ru_ ta rs) I' J 0 0 := by
  obtain ⟨S, rfl⟩ : ∃ n', S = n' + 1 := ⟨S - 1, by omega⟩
  refine xrun_step fun K hK => ?_
  exact And.intro (fun _ => And.intro (Or.inl rfl) (hF I' h)) (fun _ => And.intro (fun _ => And.intro (Or.inl rfl) (hF I' h)) (fun z => absurd rfl z))
set_option maxRecDepth 100000 in
set_option maxHeartbeats 1000000 in
theorem rd_sum_op (ht : TSP ta) (hk : TKN tk N) {m n : Nat} (hn : 2 ≤ n) (hC : C2 l ru_ ta rs tk N k ws m n) (δ j c : Nat) (K : List Nat) (I : XI) (J : XJ) (Rp : XR) (hδ : δ + m = 8) (hop : opK K = δ) (hK : cl78 K = K) (hev : EV I tk N) (hc : c ≤ j) (ha : I 35 2 = nI (naL k)) (hF : ∀ I', NOR ta tk I (1, K, k, ws, j) I' → Rp (some (.int 0)) (shH ru_ ta rs) I' J) (S i j' c' : Nat) (I' : XI) (o : Int32) (h : BG ta N tk I j c (1, K, k, ws, j) (fun j' => (2, K, k, ws, j')) (Qu tk k m) I' j' c') (hS : 0 < S) (ho : isOp (tk j') = true ∧ (tk j').1 ≠ 0) (hcd : ccd ((tk j').2.1, 0) = o * 10000 + 0 ∧ rkn (tk j').2.1 = 3 ∧ ∀ k t, tyo k ((tk j').2.1, 0) (false :: false :: t) = some (false :: t)) (go : ∀ (j2 c2 : Nat) (I2 : XI), BG ta N tk I j c (1, K, k, ws, j) (fun j' => (2, K, k, ws, j')) (Qu tk k m) I2 j2 c2 → j' + 1 ≤ j2 → (isSg (tk j2) 42 = false ∧ isSg (tk j2) 47 = false) → xrun xxX5 (some .boolean) false false (shH ru_ ta rs).length 0 0 none l n tX5_sum [8, 54] Rp S 8 [some (.ref 35), some (.int (nI δ)), some (.int 1), some (.int (nI (i + 1))), some (.int o)] [] (shH ru_ ta rs) I2 J 0 0) : xrun xxX5 (some .boolean) false false (shH ru_ ta rs).length 0 0 none l n tX5_sum [8, 54] Rp (S + 1) 54 [some (.ref 35), some (.int (nI δ)), some (.int 1), some (.int (nI i)), some (.int o)] [] (shH ru_ ta rs) I' J 0 0 := by
  obtain ⟨h1, h2, h3, h4, h5, h6, e0, ce0, rr0, ty0⟩ := h
  have hN := hk.2.1
  have ev' := hev.fe ht h1.1
  have hlt := hk.nx h3 ho.2
  have f1 : FS ta I (avI I' (j' + 1)) := h1.tr (avI_fs ht)
  have r1 : Rch tk (1, K, k, ws, j) (1, K, k, ws, j' + 1) := h6.tr (Rch.step (s2_op ho.1) (Rch.rf _))
  refine xrun_step fun Kk hKk => ?_
  refine rd_advance l ru_ ta rs I' J _ n (by omega) (j' + 1) N hN hlt (by rw [h2.1, nI_1]) ev'.1 ?_
  refine hC δ (j' + 1) c' K (avI I' (j' + 1)) J _ hδ hop hK (hev.fe ht f1.1) (avI_at ht h2.2.2.2) hlt (by omega) (by rw [f1.1.2.1 2 (by decide) (by decide) (by decide) (by decide) (by decide)]; exact ha) (fun z => absurd z (by decide)) (fun I2 ok => ?_) (fun I2 no => ?_)
  · obtain ⟨j2, c2, g1, g2, g3, g4, g5, ⟨g6, e1, ce1, rr1, ty1⟩, g7⟩ := ok
    have rr2 := Qs.op (K := K) rfl rr0 ho.1 hcd.2.1 (show 3 < 4 by omega) rr1
    have ce2 := ce0.tr (ce1.base (avI_row (i := j' + 1) (I := I') ht))
    obtain rfl | rfl | rfl | rfl | rfl := id ht
    all_goals
      refine rd_emit l ru_ _ rs I2 J _ ht n (by omega) c2 (by omega) o 0 g2.2.2.2 (fun I3 em => ?_)
      have e3 := em.at ht g2
      rw [if_pos (show c2 < 300 by omega)] at e3
      refine hKk 8 [some (.ref 35), some (.int (nI δ)), some (.int 1), some (.int (nI i + 1)), some (.int o)] [] (shH ru_ _ rs) I3 J 0 0 ?_
      rw [nI_1]
      refine go j2 (c2 + 1) I3 ⟨(f1.tr g1).tr (em.fs ht), e3, g3, by omega, by omega, r1.tr ?_, e0 ++ e1 ++ [((tk j').2.1, 0)], ce2.tr (Cem.em em (by omega) hcd.1), rr2, Typ.op ty0 ty1 (hcd.2.2 k)⟩ (by omega) g7
      exact g6
  · have no' := NOR.pre f1.1 r1 no
    obtain ⟨c0, hc0, e0, hem⟩ := no'.em ht
    obtain rfl | rfl | rfl | rfl | rfl := id ht
    all_goals
      refine rd_emit l ru_ _ rs I2 J _ ht n (by omega) c0 hc0 o 0 e0 (fun I3 em => ?_)
      refine hKk 8 [some (.ref 35), some (.int (nI δ)), some (.int 0), some (.int (nI i + 1)), some (.int o)] [] (shH ru_ _ rs) I3 J 0 0 ?_
      rw [nI_1]
      exact rd_sum_fail n δ j S (i + 1) hS K I I3 J Rp _ hF (hem o 0 I3 em)
set_option maxRecDepth 100000 in
set_option maxHeartbeats 1000000 in
theorem rd_sum_loop (ht : TSP ta) (hk : TKN tk N) {m n : Nat} (hn : 2 ≤ n) (hC : C2 l ru_ ta rs tk N k ws m n) (δ j c : Nat) (K : List Nat) (I : XI) (J : XJ) (Rp : XR) (hδ : δ + m = 8) (hop : opK K = δ) (hK : cl78 K = K) (hev : EV I tk N) (hc : c ≤ j) (ha : I 35 2 = nI (naL k)) (hS : ∀ I', OKR ta N tk I j c (1, K, k, ws, j) (fun j' => (2, K, k, ws, j')) (Qu tk k m) (fun j' => isOp (tk j') = false) I' → Rp (some (.int 1)) (shH ru_ ta rs) I' J) (hF : ∀ I', NOR ta tk I (1, K, k, ws, j) I' → Rp (some (.int 0)) (shH ru_ ta rs) I' J) : ∀ (M i S j' c' : Nat) (I' : XI) (o4 : Option Value), N - j' ≤ M → 2 * M + 2 < S → i ≤ j' → BG ta N tk I j c (1, K, k, ws, j) (fun j' => (2, K, k, ws, j')) (Qu tk k m) I' j' c' → (isSg (tk j') 42 = false ∧ isSg (tk j') 47 = false) → xrun xxX5 (some .boolean) false false (shH ru_ ta rs).length 0 0 none l n tX5_sum [8, 54] Rp S 8 [some (.ref 35), some (.int (nI δ)), some (.int 1), some (.int (nI i)), o4] [] (shH ru_ ta rs) I' J 0 0 := by
  intro M
  induction M with
  | zero =>
    intro i S j' c' I' o4 hM _ _ h
    have := h.2.2.1
    omega
  | succ M ih =>
    intro i S j' c' I' o4 hM hS' hi h hp
    obtain ⟨S, rfl⟩ : ∃ n', S = n' + 2 := ⟨S - 2, by omega⟩
    have hN := hk.2.1
    have ev' := hev.fe ht h.1.1
    have tkj := h.2.1.tk ev' h.2.2.1
    have okj := hk.2.2.2.2 j'
    have out : (isSg (tk j') 43 = false ∧ isSg (tk j') 45 = false) → (((1 : Int32) = 0 ∨ (1 : Int32) = 1) ∧ Rp (some (.int 1)) (shH ru_ ta rs) I' J) := fun hq => ⟨Or.inr rfl, hS I' ⟨j', c', h.1, h.2.1, h.2.2.1, h.2.2.2.1, h.2.2.2.2.1, h.2.2.2.2.2, op_0 hp hq⟩⟩
    have cA : I' 35 4 = nI (sgC 43) ↔ isSg (tk j') 43 = true := tkC_sg tkj okj (by decide)
    have cB : I' 35 4 = nI (sgC 45) ↔ isSg (tk j') 45 = true := tkC_sg tkj okj (by decide)
    refine xrun_step fun Kk hKk => ?_
    have go : ∀ o : Int32, (isOp (tk j') = true ∧ (tk j').1 ≠ 0) → (ccd ((tk j').2.1, 0) = o * 10000 + 0 ∧ rkn (tk j').2.1 = 3 ∧ ∀ k t, tyo k ((tk j').2.1, 0) (false :: false :: t) = some (false :: t)) → Kk 54 [some (.ref 35), some (.int (nI δ)), some (.int 1), some (.int (nI i)), some (.int o)] [] (shH ru_ ta rs) I' J 0 0 := fun o ho hcd => by
      refine hKk 54 [some (.ref 35), some (.int (nI δ)), some (.int 1), some (.int (nI i)), some (.int o)] [] (shH ru_ ta rs) I' J 0 0 ?_
      refine rd_sum_op ht hk hn hC δ j c K I J Rp hδ hop hK hev hc ha hF S i j' c' I' o h (by omega) ho hcd (fun j2 c2 I2 b hj hq => ?_)
      exact ih (i + 1) S j2 c2 I2 _ (by omega) (by omega) (by omega) b hq
    refine And.intro (fun h3 => ?_) (fun h3 => ?_)
    · have h3 : nI 300 ≤ nI i := h3
      have hj := h.2.2.1
      rw [nI_leI (by omega) (by omega)] at h3
      have x : ∀ s, isSg (tk j') s = false := fun s => end_sg hk hj (by omega)
      exact out ⟨x _, x _⟩
    · refine And.intro (fun z => absurd z (by decide)) (fun _ => ?_)
      refine And.intro (fun gA => ?_) (fun gA => And.intro (fun gB => ?_) (fun gB => ?_))
      · have tA : isSg (tk j') 43 = true := cA.mp gA
        exact And.intro (fun z => absurd gA z) (fun _ => go 5 (op_1 (Or.inr (Or.inr (Or.inl tA)))) (op43 tA))
      · exact out ⟨bF Iff.rfl (fun z => gA (cA.mpr z)), bF Iff.rfl (fun z => gB (cB.mpr z))⟩
      · have tB : isSg (tk j') 45 = true := cB.mp gB
        exact And.intro (fun _ => go 6 (op_1 (Or.inr (Or.inr (Or.inr tB)))) (op45 tB)) (fun z => absurd z gA)
set_option maxRecDepth 100000 in
set_option maxHeartbeats 1000000 in
theorem rd_sum (ht : TSP ta) (hk : TKN tk N) {m n : Nat} (hn : 2 ≤ n) (hC : C2 l ru_ ta rs tk N k ws m n) : C3 l ru_ ta rs tk N k ws m (n + 1) := by
  intro δ j c K I J Rp hδ hop hK hev hat hj hc ha _ hS hF
  have hN := hk.2.1
  refine xm_ofK 700 (X := xxX5) (t := tX5_sum) (stop := [8, 54]) (ini := false) xx5 pl5 rfl kX5_sum (fun h => by cases h) (Nat.le_of_ble_eq_true rfl) (fun Kk hKk => ?_)
  refine hC δ j c K I J _ hδ hop hK hev hat hj hc ha (fun z => absurd z (by decide)) (fun I2 ok => ?_) (fun I2 no => ?_)
  · obtain ⟨j2, c2, g1, g2, g3, g4, g5, ⟨g6, e1, ce1, rr1, ty1⟩, g7⟩ := ok
    refine hKk 8 [some (.ref 35), some (.int (nI δ)), some (.int 1), some (.int (nI 0)), none] [] (shH ru_ ta rs) I2 J 0 0 ?_
    refine rd_sum_loop ht hk hn hC δ j c K I J Rp hδ hop hK hev hc ha hS hF 301 0 700 j2 c2 I2 none (by omega) (by omega) (by omega) ⟨g1, g2, g3, g4, g5, ?_, e1, ce1, rr1.mono (by omega), ty1.mono (by omega)⟩ g7
    exact g6
  · exact hKk 8 [some (.ref 35), some (.int (nI δ)), some (.int 0), some (.int (nI 0)), none] [] (shH ru_ ta rs) I2 J 0 0 (rd_sum_fail n δ j 700 0 (by omega) K I I2 J Rp none hF no)
end READ
end
section
-- ===== the reader: one =====
theorem i32_nlt {a b : Int32} (h : a ≤ b) : ¬ b < a := fun z => by
  have h := Int32.le_iff_toInt_le.mp h
  have z := Int32.lt_iff_toInt_lt.mp z
  omega
theorem rnm_tab : ((List.range 32).all fun v => match nmO v with
  | some n => decide (ccd (401, n) = 1 * 10000 + nI (cw v - 13))
  | none => true) = true := by decide +kernel
theorem rnm_ok {v n : Nat} (hv : v < 32) (h : nmO v = some n) : ccd (401, n) = 1 * 10000 + nI (cw v - 13) := by
  have y := List.all_eq_true.mp rnm_tab v (List.mem_range.mpr hv)
  rw [h] at y
  exact of_decide_eq_true y
theorem cc403 {v : Nat} : ccd (403, v) = 3 * 10000 + nI v := by
  show nI (30000 + v) = nI 30000 + nI v
  rw [nI_add]
theorem ty403 {k v : Nat} {t : List Bool} (h : v ≤ 100) : tyo k (403, v) (false :: t) = some (false :: t) := by
  unfold tyo
  have b : Nat.ble v 100 = true := Nat.ble_eq.mpr h
  show (match Nat.beq 403 402 || (Nat.beq 403 403 && Nat.ble v 100) with
    | true => _
    | false => _) = _
  rw [b]
  rfl
section ONE
variable {l : Launch} {ru_ ta : Nat} {rs : List XO} {tk : Nat → TK} {N : Nat} {k : Nat} {ws : List Nat}
theorem yP_ok {K : List Nat} {j i : Nat} (h8 : opK K < 8) (h : deS tk [(0, 100, 15)] (j + 1) = .inl i) : yPm tk K k ws j = .inl (1, 8 :: K, k, ws, i) := by
  unfold yPm
  rw [ble8f h8, h]
theorem yP_er {K : List Nat} {j : Nat} {r : Nat × Nat} (h8 : opK K < 8) (h : deS tk [(0, 100, 15)] (j + 1) = .inr r) : yPm tk K k ws j = .inr r := by
  unfold yPm
  rw [ble8f h8, h]
theorem yP_dp {K : List Nat} {j : Nat} (h8 : 8 ≤ opK K) : yPm tk K k ws j = .inr (ft tk 3 j) := by
  unfold yPm
  rw [Nat.ble_eq.mpr h8]
set_option maxRecDepth 100000 in
set_option maxHeartbeats 1000000 in
theorem rd_name (ht : TSP ta) (hk : TKN tk N) (h5 : k < 5) {m n : Nat} (hn : 1 ≤ n) (j c v x : Nat) (K : List Nat) (I : XI) (J : XJ) (Rp : XR) (hev : EV I tk N) (hat : ATt ta I j c) (hj : j < N) (hc : c ≤ j) (ha : I 35 2 = nI (naL k)) (h1 : (tk j).1 = 1) (hv : (tk j).2.1 = v) (hx : nmO v = some x) (hS : ∀ I', OKR ta N tk I j c (1, K, k, ws, j) (fun j' => (2, cl78 K, k, ws, j')) (Qo tk k m) (fun _ => True) I' → Rp (some (.int 1)) (shH ru_ ta rs) I' J) (hF : ∀ I', NOR ta tk I (1, K, k, ws, j) I' → Rp (some (.int 0)) (shH ru_ ta rs) I' J) : xm l (n + 1) 0 0 mX5_name [.ref 35, .int (nI (cw v - 13))] (shH ru_ ta rs) I J Rp := by
  have hN := hk.2.1
  have okj := hk.2.2.2.2 j
  have hv32 : v < 32 := by rw [← hv]; exact okj.2.1 h1
  have hnm := nm_some h5 hv32 hx
  have hlt := hk.nx hj (by omega)
  have ex : (I 35 2 >>> (nI (cw v - 13) &&& 31)) &&& 1 = nmB k v := by rw [ha]; rfl
  refine xm_ofK 0 (X := xxX5) (t := tX5_name) (stop := []) (ini := false) xx5 pl5 rfl kX5_name (fun h => by cases h) (Nat.le_of_ble_eq_true rfl) (fun Kk hKk => ?_)
  refine And.intro (fun h => ?_) (fun h => ?_)
  · have h : ¬ (I 35 2 >>> (nI (cw v - 13) &&& 31)) &&& 1 = 0 := h
    rw [ex] at h
    have hm : myN x k = true := by
      cases e : myN x k with
      | true => rfl
      | false => exact absurd (hnm.2.mpr e) h
    have fin : ∀ (I1 : XI), EM ta I I1 c 1 (nI (cw v - 13)) → ((1 : Int32) = 0 ∨ (1 : Int32) = 1) ∧ Rp (some (.int 1)) (shH ru_ ta rs) (avI I1 (j + 1)) J := by
      intro I1 em
      have a1 := em.at ht hat
      rw [if_pos (show c < 300 by omega)] at a1
      exact ⟨Or.inr rfl, hS _ ⟨j + 1, c + 1, (em.fs ht).tr (avI_fs ht), avI_at ht a1.2.2.2, hlt, by omega, by omega, ⟨Rch.step (s1_name h1 (by rw [hv]; exact hx) hm) (Rch.rf _), [(401, x)], (Cem.em em (by omega) (rnm_ok hv32 hx)).tip (avI_row ht), Q1.name h1 (by rw [hv]; exact hx) hm, Typ.name (nmO_le hv32 hx) hm (by omega)⟩, trivial⟩⟩
    have e3 : ∀ (I1 : XI) (o w : Int32), EM ta I I1 c o w → I1 35 3 + 1 = nI (j + 1) ∧ I1 30 5 = nI N := fun I1 o w em => by
      have a1 := em.at ht hat
      exact ⟨by rw [a1.1, nI_1], (hev.fe ht (em.fs ht).1).1⟩
    obtain rfl | rfl | rfl | rfl | rfl := id ht
    all_goals
      refine rd_emit l ru_ _ rs I J _ ht n (by omega) c (by omega) 1 _ hat.2.2.2 (fun I1 em => ?_)
      refine rd_advance l ru_ _ rs I1 J _ n (by omega) (j + 1) N hN hlt (e3 I1 _ _ em).1 (e3 I1 _ _ em).2 ?_
      exact fin I1 em
  · have h : (I 35 2 >>> (nI (cw v - 13) &&& 31)) &&& 1 = 0 := h
    rw [ex] at h
    refine rd_fail l ru_ ta rs I J _ n (by omega) 5 j (by omega) hat.1 ?_
    exact And.intro (Or.inl rfl) (hF _ (NOR.fi ht hev hj (by omega) hat.2.2.2 (Ends.now (s1_wrong h1 (by rw [hv]; exact hx) (hnm.2.mp h)))))
set_option maxRecDepth 100000 in
set_option maxHeartbeats 1000000 in
theorem rd_part (ht : TSP ta) (hk : TKN tk N) {m n : Nat} (hn : 2 ≤ n) (hC : C1 l ru_ ta rs tk N k ws m n) : CP l ru_ ta rs tk N k ws m (n + 1) := by
  intro δ j c K I J Rp hδ hop _ hev hat hj hc ha hp hS hF
  obtain ⟨p1, p22⟩ := hp rfl
  have hN := hk.2.1
  have h8 : opK K < 8 := by omega
  have ok1 := hk.2.2.2.2 (j + 1)
  have tk1 := hat.tk hev hj
  have hnum := tkC_num tk1 ok1
  have er : ∀ {r : Nat × Nat}, deS tk [(0, 100, 15)] (j + 1) = .inr r → Ends tk (1, K, k, ws, j) r := fun h => Ends.now ((s1_part p1 p22).trans (yP_er h8 h))
  have fail1 : ∀ (f : Nat), 1 ≤ f → deS tk [(0, 100, 15)] (j + 1) = .inr (ft tk f (j + 1)) → NOR ta tk I (1, K, k, ws, j) (FI I f (j + 1)) := fun f hf h => NOR.fi ht hev hj (by omega) hat.2.2.2 (er h) hf
  refine xm_ofK 0 (X := xxX5) (t := tX5_part) (stop := []) (ini := false) xx5 pl5 rfl kX5_part (fun h => by cases h) (Nat.le_of_ble_eq_true rfl) (fun Kk hKk => ?_)
  refine rd_number l ru_ ta rs I J _ n hn 0 100 (j + 1) N hN hj hat.1 hev.1 (fun g => hk.nx hj (by rw [hnum.mp g]; decide)) (fun g1 g2 g3 => ?_) (fun g1 g2 => ?_) (fun g => ?_)
  · have q2 := hnum.mp g1
    have ev := tkC_val tk1 ok1 q2
    have hv := ok1.2.2.1 q2
    have hlt := hk.nx hj (by rw [q2]; decide)
    have le100 : (tk (j + 1)).2.1 ≤ 100 := by
      rw [ev] at g3
      exact (nI_leI (by omega) (by omega)).mp (show nI _ ≤ nI 100 from g3)
    have f1 : FS ta I (avI I (j + 2)) := avI_fs ht
    have ev1 := hev.fe ht f1.1
    have at1 : ATt ta (avI I (j + 2)) (j + 2) c := avI_at ht hat.2.2.2
    have tk2 := at1.tk ev1 hlt
    have hwd := tkC_wd tk2 (hk.2.2.2.2 (j + 2)) (w := 15) (by omega)
    have ew : (24 : Int32) = nI (cw 15) := by decide
    refine And.intro (fun h => absurd h (by decide)) (fun _ => ?_)
    refine rd_word l ru_ ta rs (avI I (j + 2)) J _ n hn 24 (j + 2) N hN hlt at1.1 ev1.1 (fun g => hk.nx hlt (by
      rw [ew] at g
      rw [(wd_1 (hwd.mp g)).1]
      decide)) (fun g => ?_) (fun g => ?_)
    · rw [ew] at g
      have w15 := hwd.mp g
      have hlt2 := hk.nx hlt (by rw [(wd_1 w15).1]; decide)
      have f2 : FS ta I (avI (avI I (j + 2)) (j + 3)) := f1.tr (avI_fs ht)
      have sm : mstep tk (1, K, k, ws, j) = .inl (1, 8 :: K, k, ws, j + 3) := (s1_part p1 p22).trans (yP_ok h8 (de_word q2 ⟨Nat.zero_le _, le100⟩ (by decide) w15))
      have r1 : Rch tk (1, K, k, ws, j) (1, 8 :: K, k, ws, j + 3) := Rch.step sm (Rch.rf _)
      have row2 : avI (avI I (j + 2)) (j + 3) (ta + 1) = I (ta + 1) := (avI_row ht).trans (avI_row ht)
      have ew5 : I 35 5 = nI (tk (j + 1)).2.1 := ev
      have hop8 : opK (8 :: K) = δ := by
        rw [opK, if_pos (by decide)]
        omega
      refine And.intro (fun _ => ?_) (fun h => absurd h (by decide))
      refine hC δ (j + 3) c (8 :: K) (avI (avI I (j + 2)) (j + 3)) J _ hδ hop8 trivial (hev.fe ht f2.1) (avI_at ht at1.2.2.2) hlt2 (by omega) (by rw [f2.1.2.1 2 (by decide) (by decide) (by decide) (by decide) (by decide)]; exact ha) (fun z => absurd z (by decide)) (fun I2 ok => ?_) (fun I2 no => ?_)
      · obtain ⟨j2, c2, g1, g2, g3, g4, g5, ⟨g6, e1, ce1, rr1, ty1⟩, g7⟩ := ok
        have ce2 := ce1.base row2
        have rr2 := Q1.part p1 p22 sm rr1
        have ty2 : Typ k (2 * m + 1) false (e1 ++ [(403, (tk (j + 1)).2.1)]) := ty1.un (fun t => ty403 le100)
        obtain rfl | rfl | rfl | rfl | rfl := id ht
        all_goals
          refine rd_emit l ru_ _ rs I2 J _ ht n (by omega) c2 (by omega) 3 (I 35 5) g2.2.2.2 (fun I3 em => ?_)
          have e3 := em.at ht g2
          rw [if_pos (show c2 < 300 by omega)] at e3
          exact And.intro (Or.inr rfl) (hS _ ⟨j2, c2 + 1, (f2.tr g1).tr (em.fs ht), e3, g3, by omega, by omega, ⟨r1.tr g6, _, ce2.tr (Cem.em em (by omega) (by rw [ew5]; exact cc403)), rr2, ty2⟩, trivial⟩)
      · have no' := NOR.pre f2.1 r1 no
        obtain ⟨c0, hc0, e0, hem⟩ := no'.em ht
        obtain rfl | rfl | rfl | rfl | rfl := id ht
        all_goals
          refine rd_emit l ru_ _ rs I2 J _ ht n (by omega) c0 hc0 3 _ e0 (fun I3 em => ?_)
          exact And.intro (Or.inl rfl) (hF _ (hem _ _ I3 em))
    · rw [ew] at g
      refine And.intro (fun h => absurd rfl h) (fun _ => ?_)
      refine And.intro (Or.inl rfl) (hF _ (NOR.pre f1.1 (Rch.rf _) (NOR.fi ht ev1 hlt (by omega) at1.2.2.2 (er (de_odd q2 ⟨Nat.zero_le _, le100⟩ (by decide) (bF Iff.rfl (fun z => g (hwd.mpr z))))))))
  · have q2 := hnum.mp g1
    have ev := tkC_val tk1 ok1 q2
    have hv := ok1.2.2.1 q2
    refine And.intro (fun _ => ?_) (fun h => absurd rfl h)
    refine And.intro (Or.inl rfl) (hF _ (fail1 2 (by decide) (de_out q2 (fun z => ?_))))
    rcases g2 with g2 | g2
    · rw [ev] at g2
      exact nI_pos (by omega) g2
    · rw [ev] at g2
      exact g2 (show nI _ ≤ nI 100 from nI_le z.2 (by omega))
  · refine And.intro (fun _ => ?_) (fun h => absurd rfl h)
    exact And.intro (Or.inl rfl) (hF _ (fail1 1 (by decide) (de_no (fun z => g (hnum.mpr z)))))
set_option maxRecDepth 100000 in
set_option maxHeartbeats 1000000 in
theorem rd_one_118 (ht : TSP ta) (hk : TKN tk N) {m n : Nat} (hn : 2 ≤ n) (hsub : ∀ m', m = m' + 1 → CP l ru_ ta rs tk N k ws m' n ∧ C3 l ru_ ta rs tk N k ws m' n ∧ C1 l ru_ ta rs tk N k ws m' n) (δ j c : Nat) (K : List Nat) (I : XI) (J : XJ) (Rp : XR) (hδ : δ + m = 8) (hop : opK K = δ) (hev : EV I tk N) (hat : ATt ta I j c) (hj : j < N) (hc : c ≤ j) (ha : I 35 2 = nI (naL k)) (hS : ∀ I', OKR ta N tk I j c (1, K, k, ws, j) (fun j' => (2, cl78 K, k, ws, j')) (Qo tk k m) (fun _ => True) I' → Rp (some (.int 1)) (shH ru_ ta rs) I' J) (hF : ∀ I', NOR ta tk I (1, K, k, ws, j) I' → Rp (some (.int 0)) (shH ru_ ta rs) I' J) (S : Nat) (pq mq : Int32) (hcase : (pq = 1 ∧ isWd (tk j) 22 = true) ∨ (pq = 0 ∧ mq = 1 ∧ isSg (tk j) 45 = true) ∨ (pq = 0 ∧ mq = 0 ∧ isSg (tk j) 40 = true)) (o : Option Value) : xrun xxX5 (some .boolean) false false (shH ru_ ta rs).length 0 0 none l n tX5_one [73, 118] Rp (S + 1) 118 [some (.ref 35), some (.int (nI δ)), some (.int pq), some (.int mq), o] [] (shH ru_ ta rs) I J 0 0 := by
  have hN := hk.2.1
  have hn0 : (tk j).1 ≠ 0 := by
    rcases hcase with ⟨_, z⟩ | ⟨_, _, z⟩ | ⟨_, _, z⟩
    · rw [(wd_1 z).1]; decide
    · rw [(sg_1 z).1]; decide
    · rw [(sg_1 z).1]; decide
  have hlt := hk.nx hj hn0
  have f1 : FS ta I (avI I (j + 1)) := avI_fs ht
  have ev1 := hev.fe ht f1.1
  have at1 : ATt ta (avI I (j + 1)) (j + 1) c := avI_at ht hat.2.2.2
  have ha1 : avI I (j + 1) 35 2 = nI (naL k) := by rw [f1.1.2.1 2 (by decide) (by decide) (by decide) (by decide) (by decide)]; exact ha
  refine xrun_step fun Kk hKk => ?_
  refine And.intro (fun h8 => ?_) (fun h8 => ?_)
  · have h8 : nI δ < nI 8 := h8
    rw [nI_ltI (by omega) (by omega)] at h8
    obtain ⟨m', rfl⟩ : ∃ m', m = m' + 1 := ⟨m - 1, by omega⟩
    obtain ⟨sP, sS, s1⟩ := hsub m' rfl
    refine rd_advance l ru_ ta rs I J _ n (by omega) (j + 1) N hN hlt (by rw [hat.1, nI_1]) hev.1 ?_
    have hd1 : (δ + 1) + m' = 8 := by omega
    rcases hcase with ⟨rfl, z⟩ | ⟨rfl, rfl, z⟩ | ⟨rfl, rfl, z⟩
    · refine And.intro (fun h => absurd h (by decide)) (fun _ => ?_)
      show xm l n 0 0 mX5_part [.ref 35, .int (nI δ + 1)] (shH ru_ ta rs) (avI I (j + 1)) J _
      rw [nI_1]
      refine sP (δ + 1) j c K (avI I (j + 1)) J _ hd1 (by omega) trivial ev1 at1 hlt hc ha1 (fun _ => wd_1 z) (fun I2 ok => ?_) (fun I2 no => ?_)
      · exact And.intro (Or.inr rfl) (hS _ (OKR.pre f1 (avI_row ht) (fun _ _ _ q => ⟨q.1, q.2.mono (by omega)⟩) ok))
      · exact And.intro (Or.inl rfl) (hF _ (NOR.pre f1.1 (Rch.rf _) no))
    · have r1 : Rch tk (1, K, k, ws, j) (1, 7 :: K, k, ws, j + 1) := Rch.step (s1_mi z (by omega)) (Rch.rf _)
      refine And.intro (fun _ => ?_) (fun h => absurd rfl h)
      refine And.intro (fun _ => ?_) (fun h => absurd h (by decide))
      show xm l n 0 0 mX5_one [.ref 35, .int (nI δ + 1)] (shH ru_ ta rs) (avI I (j + 1)) J _
      rw [nI_1]
      refine s1 (δ + 1) (j + 1) c (7 :: K) (avI I (j + 1)) J _ hd1 (by rw [opK, if_pos (by decide)]; omega) trivial ev1 at1 hlt (by omega) ha1 (fun w => absurd w (by decide)) (fun I2 ok => ?_) (fun I2 no => ?_)
      · obtain ⟨j2, c2, g1, g2, g3, g4, g5, ⟨g6, e1, ce1, rr1, ty1⟩, g7⟩ := ok
        have ce2 := ce1.base (avI_row ht)
        have rr2 := Q1.minus z (by omega) rr1
        have ty2 : Typ k (2 * (m' + 1) + 1) false (e1 ++ [(402, 0)]) := (ty1.mono (by omega)).un (fun t => rfl)
        obtain rfl | rfl | rfl | rfl | rfl := id ht
        all_goals
          refine rd_emit l ru_ _ rs I2 J _ ht n (by omega) c2 (by omega) 2 0 g2.2.2.2 (fun I3 em => ?_)
          have e3 := em.at ht g2
          rw [if_pos (show c2 < 300 by omega)] at e3
          exact And.intro (Or.inr rfl) (hS _ ⟨j2, c2 + 1, (f1.tr g1).tr (em.fs ht), e3, g3, by omega, by omega, ⟨r1.tr g6, _, ce2.tr (Cem.em em (by omega) (by decide)), rr2, ty2⟩, trivial⟩)
      · have no' := NOR.pre f1.1 r1 no
        obtain ⟨c0, hc0, e0, hem⟩ := no'.em ht
        obtain rfl | rfl | rfl | rfl | rfl := id ht
        all_goals
          refine rd_emit l ru_ _ rs I2 J _ ht n (by omega) c0 hc0 2 0 e0 (fun I3 em => ?_)
          exact And.intro (Or.inl rfl) (hF _ (hem _ _ I3 em))
    · have r1 : Rch tk (1, K, k, ws, j) (1, 6 :: K, k, ws, j + 1) := Rch.step (s1_br z (by omega)) (Rch.rf _)
      refine And.intro (fun _ => ?_) (fun h => absurd rfl h)
      refine And.intro (fun h => absurd rfl h) (fun _ => ?_)
      show xm l n 0 0 mX5_sum [.ref 35, .int (nI δ + 1)] (shH ru_ ta rs) (avI I (j + 1)) J _
      rw [nI_1]
      refine sS (δ + 1) (j + 1) c (6 :: K) (avI I (j + 1)) J _ hd1 (by rw [opK, if_pos (by decide)]; omega) rfl ev1 at1 hlt (by omega) ha1 (fun w => absurd w (by decide)) (fun I2 ok => ?_) (fun I2 no => ?_)
      · obtain ⟨j2, c2, g1, g2, g3, g4, g5, ⟨g6, e1, ce1, rr1, ty1⟩, g7⟩ := ok
        have f2 : FS ta I I2 := f1.tr g1
        have ev2 := hev.fe ht f2.1
        have tk2 := g2.tk ev2 g3
        have hsg := tkC_sg tk2 (hk.2.2.2.2 j2) (w := 41) (by decide)
        have nx : isSg (tk j2) 41 = true → j2 + 1 < N := fun w => hk.nx g3 (by rw [(sg_1 w).1]; decide)
        refine And.intro (fun h => absurd h (by decide)) (fun _ => ?_)
        refine rd_sign l ru_ ta rs I2 J _ n hn 41 j2 N hN g3 g2.1 ev2.1 (fun w => nx (hsg.mp w)) (fun w => ?_) (fun w => ?_)
        · refine And.intro (fun h => absurd h (by decide)) (fun _ => ?_)
          exact And.intro (Or.inr rfl) (hS _ ⟨j2 + 1, c2, f2.tr (avI_fs ht), avI_at ht g2.2.2.2, nx (hsg.mp w), g4, by omega, ⟨(r1.tr g6).tr (Rch.step (s2_br g7 (hsg.mp w)) (Rch.rf _)), e1, (ce1.base (avI_row ht)).tip (avI_row ht), Q1.paren z (by omega) rr1 g7 (hsg.mp w), ty1.mono (by omega)⟩, trivial⟩)
        · refine And.intro (fun _ => ?_) (fun h => absurd rfl h)
          exact And.intro (Or.inl rfl) (hF _ (NOR.pre f2.1 (r1.tr g6) (NOR.fi ht ev2 g3 (by omega) g2.2.2.2 (Ends.now (s2_brE g7 (bF Iff.rfl (fun y => w (hsg.mpr y))))))))
      · refine And.intro (fun _ => ?_) (fun h => absurd rfl h)
        exact And.intro (Or.inl rfl) (hF _ (NOR.pre f1.1 r1 no))
  · have h8 : ¬ nI δ < nI 8 := h8
    rw [nI_ltI (by omega) (by omega)] at h8
    refine rd_fail l ru_ ta rs I J _ n (by omega) 3 j (by omega) hat.1 ?_
    refine And.intro (Or.inl rfl) (hF _ (NOR.fi ht hev hj (by omega) hat.2.2.2 (Ends.now ?_)))
    rcases hcase with ⟨rfl, z⟩ | ⟨rfl, rfl, z⟩ | ⟨rfl, rfl, z⟩
    · exact (s1_part (wd_1 z).1 (wd_1 z).2).trans (yP_dp (by omega))
    · exact s1_miD z (by omega)
    · exact s1_brD z (by omega)
theorem nm_22 : nmO 22 = none := by decide
theorem cw_31 : ((List.range 32).all fun v => match decide (cw v = 31) with
  | true => Nat.beq v 22
  | false => true) = true := by decide +kernel
set_option maxRecDepth 100000 in
set_option maxHeartbeats 1000000 in
theorem rd_one_73 (ht : TSP ta) (hk : TKN tk N) {m n : Nat} (hn : 2 ≤ n) (hsub : ∀ m', m = m' + 1 → CP l ru_ ta rs tk N k ws m' n ∧ C3 l ru_ ta rs tk N k ws m' n ∧ C1 l ru_ ta rs tk N k ws m' n) (δ j c : Nat) (K : List Nat) (I : XI) (J : XJ) (Rp : XR) (hδ : δ + m = 8) (hop : opK K = δ) (hev : EV I tk N) (hat : ATt ta I j c) (hj : j < N) (hc : c ≤ j) (ha : I 35 2 = nI (naL k)) (hS : ∀ I', OKR ta N tk I j c (1, K, k, ws, j) (fun j' => (2, cl78 K, k, ws, j')) (Qo tk k m) (fun _ => True) I' → Rp (some (.int 1)) (shH ru_ ta rs) I' J) (hF : ∀ I', NOR ta tk I (1, K, k, ws, j) I' → Rp (some (.int 0)) (shH ru_ ta rs) I' J) (S : Nat) (n2 : (tk j).1 ≠ 2) (nn : (tk j).1 = 1 → nmO (tk j).2.1 = none) : xrun xxX5 (some .boolean) false false (shH ru_ ta rs).length 0 0 none l n tX5_one [73, 118] Rp (S + 2) 73 [some (.ref 35), some (.int (nI δ)), none, none, none] [] (shH ru_ ta rs) I J 0 0 := by
  have hN := hk.2.1
  have okj := hk.2.2.2.2 j
  have tkj := hat.tk hev hj
  have hwd := tkC_wd tkj okj (w := 22) (by omega)
  have h45 := tkC_sg tkj okj (w := 45) (by decide)
  have h40 := tkC_sg tkj okj (w := 40) (by decide)
  have go : ∀ (pq mq : Int32), _ := fun pq mq hcase => rd_one_118 ht hk hn hsub δ j c K I J Rp hδ hop hev hat hj hc ha hS hF S pq mq hcase none
  have ew : (31 : Int32) = nI (cw 22) := by decide
  refine xrun_step fun Kk hKk => ?_
  refine rd_isWord l ru_ ta rs I J _ n (by omega) 31 (fun g => ?_) (fun g => ?_)
  · rw [ew] at g
    have z := hwd.mp g
    have n45 : ¬ I 35 4 = 45 := fun w => by
      have := (sg_1 (h45.mp w)).1
      have := (wd_1 z).1
      omega
    refine And.intro (fun _ => ?_) (fun w => absurd w n45)
    refine And.intro (fun _ => ?_) (fun h => absurd h (by decide))
    exact hKk 118 [some (.ref 35), some (.int (nI δ)), some (.int 1), some (.int 0), none] [] (shH ru_ ta rs) I J 0 0 (go 1 0 (Or.inl ⟨rfl, z⟩))
  · rw [ew] at g
    have n22 : isWd (tk j) 22 = false := bF Iff.rfl (fun z => g (hwd.mpr z))
    refine And.intro (fun g45 => ?_) (fun g45 => ?_)
    · refine And.intro (fun h => absurd rfl h) (fun _ => ?_)
      refine And.intro (fun h => absurd rfl h) (fun _ => ?_)
      refine And.intro (fun g40 => ?_) (fun g40 => ?_)
      · exact hKk 118 [some (.ref 35), some (.int (nI δ)), some (.int 0), some (.int 0), none] [] (shH ru_ ta rs) I J 0 0 (go 0 0 (Or.inr (Or.inr ⟨rfl, rfl, h40.mp g40⟩)))
      · refine rd_fail l ru_ ta rs I J _ n (by omega) 1 j (by omega) hat.1 ?_
        refine And.intro (Or.inl rfl) (hF _ (NOR.fi ht hev hj (by omega) hat.2.2.2 (Ends.now ?_)))
        by_cases e1 : (tk j).1 = 1
        · refine s1_word e1 (nn e1) (fun z => ?_)
          rw [wd_of e1 z] at n22
          cases n22
        · exact s1_no n2 e1 (bF Iff.rfl (fun z => g40 (h40.mpr z))) (bF Iff.rfl (fun z => g45 (h45.mpr z)))
    · refine And.intro (fun h => absurd rfl h) (fun _ => ?_)
      refine And.intro (fun _ => ?_) (fun h => absurd h (by decide))
      exact hKk 118 [some (.ref 35), some (.int (nI δ)), some (.int 0), some (.int 1), none] [] (shH ru_ ta rs) I J 0 0 (go 0 1 (Or.inr (Or.inl ⟨rfl, rfl, h45.mp g45⟩)))
set_option maxRecDepth 100000 in
set_option maxHeartbeats 1000000 in
theorem rd_one (ht : TSP ta) (hk : TKN tk N) (h5 : k < 5) {m n : Nat} (hn : 2 ≤ n) (hsub : ∀ m', m = m' + 1 → CP l ru_ ta rs tk N k ws m' n ∧ C3 l ru_ ta rs tk N k ws m' n ∧ C1 l ru_ ta rs tk N k ws m' n) : C1 l ru_ ta rs tk N k ws m (n + 1) := by
  intro δ j c K I J Rp hδ hop _ hev hat hj hc ha _ hS hF
  have hat : ATt ta I j c := hat
  have hj : j < N := hj
  have hop : opK K = δ := hop
  have hN := hk.2.1
  have okj := hk.2.2.2.2 j
  have tkj := hat.tk hev hj
  have hnum := tkC_num tkj okj
  have go : ∀ (n2 : (tk j).1 ≠ 2) (nn : (tk j).1 = 1 → nmO (tk j).2.1 = none), _ := fun n2 nn => rd_one_73 ht hk hn hsub δ j c K I J Rp hδ hop hev hat hj hc ha hS hF 0 n2 nn
  refine xm_ofK 2 (X := xxX5) (t := tX5_one) (stop := [73, 118]) (ini := false) xx5 pl5 rfl kX5_one (fun h => by cases h) (Nat.le_of_ble_eq_true rfl) (fun Kk hKk => ?_)
  have k73 : (tk j).1 ≠ 2 → ((tk j).1 = 1 → nmO (tk j).2.1 = none) → Kk 73 [some (.ref 35), some (.int (nI δ)), none, none, none] [] (shH ru_ ta rs) I J 0 0 := fun n2 nn => hKk 73 [some (.ref 35), some (.int (nI δ)), none, none, none] [] (shH ru_ ta rs) I J 0 0 (go n2 nn)
  refine And.intro (fun h2 => ?_) (fun h2 => ?_)
  · have n2 : (tk j).1 ≠ 2 := fun z => h2 (hnum.mpr z)
    -- is it a word?
    rcases tkC_el tkj okj with ⟨e, z⟩ | ⟨e, z, y⟩ | ⟨e, z, _⟩ | ⟨e, z⟩ | ⟨e, z⟩
    · refine And.intro (fun _ => k73 n2 (fun w => by omega)) (fun w => absurd (z.symm.trans w) (by decide))
    · have hv := okj.2.1 e
      have hcw := cw_lt (k := (tk j).2.1)
      refine And.intro (fun w => absurd z w) (fun _ => ?_)
      have no : ¬ (13 ≤ cw (tk j).2.1 ∧ cw (tk j).2.1 ≤ 23) → nmO (tk j).2.1 = none := fun w => by
        cases hq : nmO (tk j).2.1 with
        | none => rfl
        | some x => exact absurd (nm_some h5 hv hq).1 w
      refine And.intro (fun w => ?_) (fun w => And.intro (fun w2 => ?_) (fun w2 => ?_))
      · have w : I 35 5 < nI 13 := w
        rw [y, nI_ltI (by omega) (by omega)] at w
        exact k73 n2 (fun _ => no (fun u => by omega))
      · have w2 : nI 23 < I 35 5 := w2
        rw [y, nI_ltI (by omega) (by omega)] at w2
        exact k73 n2 (fun _ => no (fun u => by omega))
      · have w : ¬ I 35 5 < nI 13 := w
        have w2 : ¬ nI 23 < I 35 5 := w2
        rw [y, nI_ltI (by omega) (by omega)] at w w2
        cases hq : nmO (tk j).2.1 with
        | none => exact absurd ⟨by omega, by omega⟩ (nm_none hv hq)
        | some x =>
          obtain ⟨n, rfl⟩ : ∃ n', n = n' + 1 := ⟨n - 1, by omega⟩
          show xm l (n + 1) 0 0 mX5_name [.ref 35, .int (I 35 5 - nI 13)] (shH ru_ ta rs) I J _
          rw [y, nI_subI (by omega) (by omega)]
          refine rd_name (m := m) (ws := ws) ht hk h5 (by omega) j c (tk j).2.1 x K I J _ hev hat hj hc ha e rfl hq (fun I2 ok => ?_) (fun I2 no => ?_)
          · exact And.intro (Or.inr rfl) (hS _ ok)
          · exact And.intro (Or.inl rfl) (hF _ no)
    · exact absurd e n2
    · have gs := sgC_ge (okj.2.2.2.1 e)
      refine And.intro (fun _ => k73 n2 (fun w => by omega)) (fun w => ?_)
      have w : I 35 4 = nI 3 := w
      rw [z] at w
      have := (nI_eq (by omega) (by omega)).mp w
      omega
    · refine And.intro (fun _ => k73 n2 (fun w => by omega)) (fun w3 => ?_)
      rcases z with z | ⟨z, y⟩
      · exact absurd (z.symm.trans w3) (by decide)
      · refine And.intro (fun _ => k73 n2 (fun w => by omega)) (fun w => ?_)
        exfalso
        have w : ¬ I 35 5 < 13 := w
        rw [y] at w
        exact w (by decide)
  · have q2 := hnum.mp h2
    have ev := tkC_val tkj okj q2
    have hv := okj.2.2.1 q2
    have hlt := hk.nx hj (by rw [q2]; decide)
    have big : ∀ (I1 : XI), (∃ o w, EM ta I I1 c o w) → (I1 35 5 < 0 ∨ ¬ I1 35 5 ≤ nI 9999) → NOR ta tk I (1, K, k, ws, j) (FI I1 2 j) := by
      rintro I1 ⟨o, w, em⟩ h
      have a1 := em.at ht hat
      have f1 := em.fs ht
      have e5 : I1 35 5 = nI (tk j).2.1 := by rw [em.1 35 (by have := ht.ne; omega) (by have := ht.ne; omega)]; exact ev
      rw [e5] at h
      refine NOR.pre f1.1 (Rch.rf _) (NOR.fi ht (hev.fe ht f1.1) hj ?_ a1.2.2.2 (Ends.now (s1_big q2 ?_)))
      · split <;> omega
      · rcases h with h | h
        · exact absurd h (nI_pos (by omega))
        · rw [nI_leI (by omega) (by omega)] at h
          omega
    have good : ∀ (I1 : XI) (w : Int32), EM ta I I1 c 0 w → (I 35 5 ≤ nI 9999 → w = I 35 5) → I1 35 5 ≤ nI 9999 → OKR ta N tk I j c (1, K, k, ws, j) (fun j' => (2, cl78 K, k, ws, j')) (Qo tk k m) (fun _ => True) (avI I1 (j + 1)) := by
      intro I1 w em hw h
      have a1 := em.at ht hat
      rw [if_pos (show c < 300 by omega)] at a1
      have e5 : I1 35 5 = nI (tk j).2.1 := by rw [em.1 35 (by have := ht.ne; omega) (by have := ht.ne; omega)]; exact ev
      have h0 := h
      rw [e5, nI_leI (by omega) (by omega)] at h
      have ew : ccd (400, (tk j).2.1) = 0 * 10000 + w := by
        rw [hw (by rw [ev, ← e5]; exact h0), ev, Int32.zero_mul, Int32.zero_add]
        rfl
      exact ⟨j + 1, c + 1, (em.fs ht).tr (avI_fs ht), avI_at ht a1.2.2.2, hlt, by omega, by omega, ⟨Rch.step (s1_num q2 (by omega)) (Rch.rf _), [(400, (tk j).2.1)], (Cem.em em (by omega) ew).tip (avI_row ht), Q1.num q2 (by omega), Typ.num (by omega) (by omega)⟩, trivial⟩
    have e35 : ∀ (I1 : XI), (∃ o w, EM ta I I1 c o w) → I1 35 3 = nI j ∧ I1 30 5 = nI N ∧ I1 35 4 = 2 := by
      rintro I1 ⟨o, w, em⟩
      have f1 := em.fs ht
      have e := em.1 35 (by have := ht.ne; omega) (by have := ht.ne; omega)
      exact ⟨by rw [e]; exact hat.1, (hev.fe ht f1.1).1, by rw [e]; exact h2⟩
    obtain rfl | rfl | rfl | rfl | rfl := id ht
    all_goals
      refine rd_emit l ru_ _ rs I J _ ht n (by omega) c (by omega) 0 _ hat.2.2.2 (fun I1 em => ?_)
      have e1 := e35 I1 ⟨_, _, em⟩
      refine rd_number l ru_ _ rs I1 J _ n hn 0 9999 j N hN hj e1.1 e1.2.1 (fun _ => hlt) (fun _ _ g3 => ?_) (fun _ g2 => ?_) (fun g => absurd e1.2.2 g)
      · exact And.intro (Or.inr rfl) (hS _ (good I1 _ em (fun h => if_neg (i32_nlt h)) g3))
      · exact And.intro (Or.inl rfl) (hF _ (big I1 ⟨_, _, em⟩ g2))
/-- all of them, as deep as is asked -/
theorem rd_all (ht : TSP ta) (hk : TKN tk N) (h5 : k < 5) : ∀ (m n : Nat), 3 * m + 3 ≤ n → C1 l ru_ ta rs tk N k ws m n := by
  intro m
  induction m with
  | zero =>
    intro n hn
    obtain ⟨n, rfl⟩ : ∃ n', n = n' + 1 := ⟨n - 1, by omega⟩
    exact rd_one ht hk h5 (by omega) (fun m' h => by omega)
  | succ m ih =>
    intro n hn
    obtain ⟨n, rfl⟩ : ∃ n', n = n' + 3 := ⟨n - 3, by omega⟩
    refine rd_one ht hk h5 (by omega) (fun m' h => ?_)
    have e : m = m' := by omega
    subst e
    exact ⟨rd_part ht hk (by omega) (ih (n + 1) (by omega)), rd_sum ht hk (by omega) (rd_product ht hk (by omega) (ih n (by omega))), ih (n + 2) (by omega)⟩
theorem rd_sums (ht : TSP ta) (hk : TKN tk N) (h5 : k < 5) (m n : Nat) (hn : 3 * m + 5 ≤ n) : C3 l ru_ ta rs tk N k ws m n := by
  obtain ⟨n, rfl⟩ : ∃ n', n = n' + 2 := ⟨n - 2, by omega⟩
  exact rd_sum ht hk (by omega) (rd_product ht hk (by omega) (rd_all ht hk h5 m n (by omega)))
end ONE
end
section
-- ===== the reader: asks =====
def cmpS (x : Int32) : Prop := x = nI 60 ∨ x = nI 62 ∨ x = nI 61 ∨ x = nI 35 ∨ x = nI 256 ∨ x = nI 257
theorem tkC_as {s v : Int32} {q : TK} (h : tkC s v q) (ok : tkOK q) : cmpS s ↔ isAs q = true := by
  have a := tkC_sg h ok (w := 60) (by decide)
  have b := tkC_sg h ok (w := 62) (by decide)
  have c := tkC_sg h ok (w := 61) (by decide)
  have d := tkC_sg h ok (w := 35) (by decide)
  have e := tkC_sg h ok (w := 300) (by decide)
  have f := tkC_sg h ok (w := 301) (by decide)
  have a : s = nI 60 ↔ _ := a
  have b : s = nI 62 ↔ _ := b
  have c : s = nI 61 ↔ _ := c
  have d : s = nI 35 ↔ _ := d
  have e : s = nI 256 ↔ _ := e
  have f : s = nI 257 ↔ _ := f
  unfold cmpS isAs
  rw [a, b, c, d, e, f]
  simp only [Bool.or_eq_true]
  constructor
  · rintro (z | z | z | z | z | z)
    · exact Or.inl (Or.inl (Or.inl z))
    · exact Or.inl (Or.inl (Or.inr z))
    · exact Or.inl (Or.inr (Or.inl z))
    · exact Or.inl (Or.inr (Or.inr z))
    · exact Or.inr (Or.inl z)
    · exact Or.inr (Or.inr z)
  · rintro (((z | z) | (z | z)) | (z | z))
    · exact Or.inl z
    · exact Or.inr (Or.inl z)
    · exact Or.inr (Or.inr (Or.inl z))
    · exact Or.inr (Or.inr (Or.inr (Or.inl z)))
    · exact Or.inr (Or.inr (Or.inr (Or.inr (Or.inl z))))
    · exact Or.inr (Or.inr (Or.inr (Or.inr (Or.inr z))))
theorem end_wd {tk : Nat → TK} {N j s : Nat} (h : TKN tk N) (hj : j < N) (h3 : 300 ≤ j) : isWd (tk j) s = false := by
  have e : j = N - 1 := by have := h.2.1; omega
  cases z : isWd (tk j) s with
  | false => rfl
  | true =>
    have := (wd_1 z).1
    rw [e, h.2.2.1] at this
    cases this
def Kn (r : Nat) : List Nat := List.replicate r 3 ++ [2]
theorem Kn_s (r : Nat) : 3 :: Kn r = Kn (r + 1) := by unfold Kn; rw [List.replicate_succ]; rfl
theorem opK_n : ∀ r, opK (Kn r) = r
  | 0 => rfl
  | r + 1 => by
    rw [← Kn_s, opK, opK_n r, if_pos (by decide)]
    omega
theorem cl3_n : ∀ r, cl3 (Kn r) = [2]
  | 0 => rfl
  | r + 1 => by
    rw [← Kn_s]
    exact cl3_n r
section PIECE
variable {tk : Nat → TK} {k : Nat} {ws : List Nat} {j : Nat}
/-- the pieces of an ask -/
theorem Rx.ask {r j1 j2 : Nat} {a : List Nat} {E el er : List Odr} {A : Adr} (hl : Qs tk 3 (1, 4 :: Kn r, k, ws, j) (2, 4 :: Kn r, k, ws, j1) el) (o1 : isOp (tk j1) = false) (as : isAs (tk j1) = true) (hr : Qs tk 3 (1, 5 :: Kn r, k, ws, j1 + 1) (2, 5 :: Kn r, k, ws, j2) er) (o2 : isOp (tk j2) = false) : Rx tk ((1, 4 :: Kn r, k, ws, j), (0, []) :: (List.replicate r (0, []) ++ [(0, a)]), E, A) ((3, [2], k, ws, j2), [(0, a)], E ++ (el ++ er ++ [((tk j1).2.1, 0)] ++ List.replicate r (405, 0)), A) := by
  have hlen : (List.replicate r ((0, []) : Nat × List Nat) ++ [(0, a)]).length + 1 = (4 :: Kn r).length := by
    unfold Kn
    simp
  have hlen2 : (List.replicate r ((0, []) : Nat × List Nat) ++ [(0, a)]).length + 1 = (5 :: Kn r).length := hlen
  obtain ⟨p, e1, g1, g2, g3⟩ := hl 0 [] _ E A hlen (fun y hy => by cases hy)
  have w := wk_p (r := 3) (a := []) g2 (fun y hy => by cases hy)
  have s2 : Rx tk ((2, 4 :: Kn r, k, ws, j1), (0, p ++ []) :: (List.replicate r (0, []) ++ [(0, a)]), E ++ e1, A) ((1, 5 :: Kn r, k, ws, j1 + 1), ((tk j1).2.1, []) :: (List.replicate r (0, []) ++ [(0, a)]), E ++ el, A) := by
    refine Rx.one (s2_as o1 as) ?_
    rw [xeff_2]
    unfold y2x
    dsimp only
    rw [o1]
    show (((tk j1).2.1, (wk 3 (p ++ [])).1) :: (List.replicate r (0, []) ++ [(0, a)]), E ++ e1 ++ (wk 3 (p ++ [])).2, A) = _
    rw [w, g1, List.append_assoc]
  obtain ⟨p', e1', g1', g2', g3'⟩ := hr (tk j1).2.1 [] _ (E ++ el) A hlen2 (fun y hy => by cases hy)
  have w' := wk_p (r := 3) (a := []) g2' (fun y hy => by cases hy)
  have x3r : ∀ (r : Nat) (E' : List Odr), x3 (Kn r) (List.replicate r (0, []) ++ [(0, a)]) E' = ([(0, a)], E' ++ List.replicate r (405, 0)) := by
    intro r
    induction r with
    | zero =>
      intro E'
      simp [Kn, x3]
    | succ r ih =>
      intro E'
      rw [← Kn_s, List.replicate_succ, List.cons_append, x3]
      show x3 (Kn r) _ (E' ++ [(405, 0)]) = _
      rw [ih, List.append_assoc]
      rfl
  have s3 : Rx tk ((2, 5 :: Kn r, k, ws, j2), ((tk j1).2.1, p' ++ []) :: (List.replicate r (0, []) ++ [(0, a)]), E ++ el ++ e1', A) ((3, [2], k, ws, j2), [(0, a)], E ++ (el ++ er ++ [((tk j1).2.1, 0)] ++ List.replicate r (405, 0)), A) := by
    refine Rx.one (by rw [s2_cmp o2, cl3_n]) ?_
    rw [xeff_2]
    unfold y2x
    dsimp only
    rw [o2]
    show ((x3 (Kn r) (List.replicate r (0, []) ++ [(0, a)]) (E ++ el ++ e1' ++ (wk 3 (p' ++ [])).2 ++ [((tk j1).2.1, 0)])).1, (x3 (Kn r) (List.replicate r (0, []) ++ [(0, a)]) (E ++ el ++ e1' ++ (wk 3 (p' ++ [])).2 ++ [((tk j1).2.1, 0)])).2, A) = _
    rw [x3r, w', g1']
    simp [List.append_assoc]
  exact ((g3.tr s2).tr g3').tr s3
end PIECE
-- the class's word for a comparison
def cmO (x cm : Int32) : Prop := (x = nI 60 ∧ cm = 9) ∨ (x = nI 62 ∧ cm = 11) ∨ (x = nI 61 ∧ cm = 13) ∨ (x = nI 35 ∧ cm = 14) ∨ (x = nI 256 ∧ cm = 10) ∨ (x = nI 257 ∧ cm = 12)
theorem cmO_ok {s v : Int32} {q : TK} (h : tkC s v q) (ok : tkOK q) {cm : Int32} (hc : cmO s cm) : ccd (q.2.1, 0) = cm * 10000 + 0 ∧ ∀ k t, tyo k (q.2.1, 0) (false :: false :: t) = some (true :: t) := by
  have a := tkC_sg h ok (w := 60) (by decide)
  have b := tkC_sg h ok (w := 62) (by decide)
  have c := tkC_sg h ok (w := 61) (by decide)
  have d := tkC_sg h ok (w := 35) (by decide)
  have e := tkC_sg h ok (w := 300) (by decide)
  have f := tkC_sg h ok (w := 301) (by decide)
  rcases hc with ⟨z, y⟩ | ⟨z, y⟩ | ⟨z, y⟩ | ⟨z, y⟩ | ⟨z, y⟩ | ⟨z, y⟩
  · rw [(sg_1 (a.mp z)).2, y]
    exact ⟨by decide, fun k t => rfl⟩
  · rw [(sg_1 (b.mp z)).2, y]
    exact ⟨by decide, fun k t => rfl⟩
  · rw [(sg_1 (c.mp z)).2, y]
    exact ⟨by decide, fun k t => rfl⟩
  · rw [(sg_1 (d.mp z)).2, y]
    exact ⟨by decide, fun k t => rfl⟩
  · rw [(sg_1 (e.mp z)).2, y]
    exact ⟨by decide, fun k t => rfl⟩
  · rw [(sg_1 (f.mp z)).2, y]
    exact ⟨by decide, fun k t => rfl⟩
theorem cmO_ne {x cm : Int32} (h : cmO x cm) : ¬ cm = -1 := by
  rcases h with ⟨_, y⟩ | ⟨_, y⟩ | ⟨_, y⟩ | ⟨_, y⟩ | ⟨_, y⟩ | ⟨_, y⟩ <;> rw [y] <;> decide
theorem tyNots {k : Nat} {t : List Bool} : ∀ r, tyE k (List.replicate r (405, 0)) (true :: t) = some (true :: t)
  | 0 => rfl
  | r + 1 => by
    rw [List.replicate_succ]
    unfold tyE
    exact tyNots r
/-- an ask: one yes or no more -/
def Qa (tk : Nat → TK) (k : Nat) (s t : MS) (e : List Odr) : Prop := (∀ (a : List Nat) (E : List Odr) (A : Adr), Rx tk (s, [(0, a)], E, A) (t, [(0, a)], E ++ e, A)) ∧ Typ k 20 true e
theorem Typ.ask {k m r : Nat} {el er : List Odr} {o : Odr} (h : Typ k m false el) (g : Typ k m false er) (hm : m + 1 ≤ 20) (ho : ∀ t, tyo k o (false :: false :: t) = some (true :: t)) : Typ k 20 true (el ++ er ++ [o] ++ List.replicate r (405, 0)) := fun t ht =>
  tyE_app (tyE_app (tyE_app (h t (by omega)) (g (false :: t) (by rw [List.length_cons]; omega))) (tyE_1 (ho t))) (tyNots r)
section ASK
variable {l : Launch} {ru_ ta : Nat} {rs : List XO} {tk : Nat → TK} {N : Nat} {k : Nat} {ws : List Nat}
set_option maxRecDepth 100000 in
theorem rd_cmp (l : Launch) (n : Nat) (hn : 1 ≤ n) (x : Int32) (sh : List XO) (I : XI) (J : XJ) (Rp : XR) (h1 : ∀ r : Int32, cmO x r → Rp (some (.int r)) sh I J) (h0 : ¬ cmpS x → Rp (some (.int (-1))) sh I J) : xm l n 0 0 mX5_comparisonOf [.int x] sh I J Rp := by
  obtain ⟨n, rfl⟩ : ∃ n', n = n' + 1 := ⟨n - 1, by omega⟩
  refine xm_ofK 0 (X := xxX5) (t := tX5_comparisonOf) (stop := []) (ini := false) xx5 pl5 rfl kX5_comparisonOf (fun h => by cases h) (Nat.le_of_ble_eq_true rfl) (fun K hK => ?_)
  refine And.intro (fun h => h1 14 (Or.inr (Or.inr (Or.inr (Or.inl ⟨h, rfl⟩))))) (fun n1 => ?_)
  refine And.intro (fun h => h1 9 (Or.inl ⟨h, rfl⟩)) (fun n2 => ?_)
  refine And.intro (fun h => h1 13 (Or.inr (Or.inr (Or.inl ⟨h, rfl⟩)))) (fun n3 => ?_)
  refine And.intro (fun h => h1 11 (Or.inr (Or.inl ⟨h, rfl⟩))) (fun n4 => ?_)
  refine And.intro (fun h => h1 10 (Or.inr (Or.inr (Or.inr (Or.inr (Or.inl ⟨h, rfl⟩)))))) (fun n5 => ?_)
  refine And.intro (fun h => h1 12 (Or.inr (Or.inr (Or.inr (Or.inr (Or.inr ⟨h, rfl⟩)))))) (fun n6 => ?_)
  refine h0 (fun z => ?_)
  rcases z with z | z | z | z | z | z
  · exact n2 z
  · exact n4 z
  · exact n3 z
  · exact n1 z
  · exact n5 z
  · exact n6 z
abbrev akr (l : Launch) (ru_ ta : Nat) (rs : List XO) (J : XJ) (Rp : XR) (n S pc : Nat) (lc : List (Option Value)) (I : XI) : Prop := xrun xxX5 (some .boolean) false false (shH ru_ ta rs).length 0 0 none l n tX5_ask [2, 27, 93] Rp S pc lc [] (shH ru_ ta rs) I J 0 0
set_option maxRecDepth 100000 in
set_option maxHeartbeats 1000000 in
theorem ak_93 (ht : TSP ta) {n : Nat} (hn : 1 ≤ n) (I : XI) (J : XJ) (Rp : XR) (r j2 c0 : Nat) (hr : r ≤ 8) (cm : Int32) (hc : c0 + r ≤ 300) (hR : ∀ I', FS ta I I' → ATt ta I' j2 (c0 + r) → Cem ta I I' c0 (c0 + r) (List.replicate r (405, 0)) → Rp (some (.int 1)) (shH ru_ ta rs) I' J) : ∀ (m i S : Nat) (I' : XI), i + m = r → m < S → FS ta I I' → ATt ta I' j2 (c0 + i) → Cem ta I I' c0 (c0 + i) (List.replicate i (405, 0)) → akr l ru_ ta rs J Rp n S 93 [some (.ref 35), some (.int (nI r)), some (.int cm), some (.int 1), some (.int (nI i))] I' := by
  intro m
  induction m with
  | zero =>
    intro i S I' hi hS f at1 ce
    obtain ⟨S, rfl⟩ : ∃ n', S = n' + 1 := ⟨S - 1, by omega⟩
    have e : i = r := by omega
    subst e
    refine xrun_step fun Kk hKk => ?_
    exact And.intro (fun _ => And.intro (Or.inr rfl) (hR I' f at1 ce)) (fun h => absurd (Int32.le_refl _) h)
  | succ m ih =>
    intro i S I' hi hS f at1 ce
    obtain ⟨S, rfl⟩ : ∃ n', S = n' + 1 := ⟨S - 1, by omega⟩
    refine xrun_step fun Kk hKk => ?_
    refine And.intro (fun h => absurd (show nI r ≤ nI i from h) (nI_ge (by omega) (by omega))) (fun _ => ?_)
    have go : ∀ I3, EM ta I' I3 (c0 + i) 4 0 → Kk 93 [some (.ref 35), some (.int (nI r)), some (.int cm), some (.int 1), some (.int (nI i + 1))] [] (shH ru_ ta rs) I3 J 0 0 := fun I3 em => by
      have e3 := em.at ht at1
      rw [if_pos (show c0 + i < 300 by omega)] at e3
      refine hKk 93 [some (.ref 35), some (.int (nI r)), some (.int cm), some (.int 1), some (.int (nI i + 1))] [] (shH ru_ ta rs) I3 J 0 0 ?_
      rw [nI_1]
      refine ih (i + 1) S I3 (by omega) (by omega) (f.tr (em.fs ht)) e3 ?_
      have z := ce.tr (Cem.em (q := (405, 0)) em (by omega) (by decide))
      rw [List.replicate_succ']
      exact z
    obtain rfl | rfl | rfl | rfl | rfl := id ht
    all_goals exact rd_emit l ru_ _ rs I' J _ ht n hn (c0 + i) (by omega) 4 0 at1.2.2.2 (fun I3 em => go I3 em)
set_option maxRecDepth 100000 in
set_option maxHeartbeats 1000000 in
theorem ak_93F (ht : TSP ta) {n : Nat} (hn : 1 ≤ n) (I : XI) (J : XJ) (Rp : XR) (s : MS) (r : Nat) (hr : r ≤ 8) (cm : Int32) (hF : ∀ I', NOR ta tk I s I' → Rp (some (.int 0)) (shH ru_ ta rs) I' J) : ∀ (m i S : Nat) (I' : XI), i + m = r → m < S → NOR ta tk I s I' → akr l ru_ ta rs J Rp n S 93 [some (.ref 35), some (.int (nI r)), some (.int cm), some (.int 0), some (.int (nI i))] I' := by
  intro m
  induction m with
  | zero =>
    intro i S I' hi hS f
    obtain ⟨S, rfl⟩ : ∃ n', S = n' + 1 := ⟨S - 1, by omega⟩
    have e : i = r := by omega
    subst e
    refine xrun_step fun Kk hKk => ?_
    exact And.intro (fun _ => And.intro (Or.inl rfl) (hF I' f)) (fun h => absurd (Int32.le_refl _) h)
  | succ m ih =>
    intro i S I' hi hS f
    obtain ⟨S, rfl⟩ : ∃ n', S = n' + 1 := ⟨S - 1, by omega⟩
    obtain ⟨c0, hc0, e0, hem⟩ := f.em ht
    refine xrun_step fun Kk hKk => ?_
    refine And.intro (fun h => absurd (show nI r ≤ nI i from h) (nI_ge (by omega) (by omega))) (fun _ => ?_)
    have go : ∀ I3, EM ta I' I3 c0 4 0 → Kk 93 [some (.ref 35), some (.int (nI r)), some (.int cm), some (.int 0), some (.int (nI i + 1))] [] (shH ru_ ta rs) I3 J 0 0 := fun I3 em => by
      refine hKk 93 [some (.ref 35), some (.int (nI r)), some (.int cm), some (.int 0), some (.int (nI i + 1))] [] (shH ru_ ta rs) I3 J 0 0 ?_
      rw [nI_1]
      exact ih (i + 1) S I3 (by omega) (by omega) (hem 4 0 I3 em)
    obtain rfl | rfl | rfl | rfl | rfl := id ht
    all_goals exact rd_emit l ru_ _ rs I' J _ ht n hn c0 hc0 4 0 e0 (fun I3 em => go I3 em)
set_option maxRecDepth 100000 in
set_option maxHeartbeats 2000000 in
theorem ak_27 (ht : TSP ta) (hk : TKN tk N) {n : Nat} (hn : 2 ≤ n) (hC : ∀ m, C3 l ru_ ta rs tk N k ws m n) (j c : Nat) (I : XI) (J : XJ) (Rp : XR) (hev : EV I tk N) (hc : c ≤ j) (ha : I 35 2 = nI (naL k)) (hS : ∀ I', OKR ta N tk I j c (0, [2], k, ws, j) (fun j' => (3, [2], k, ws, j')) (Qa tk k) (fun _ => True) I' → Rp (some (.int 1)) (shH ru_ ta rs) I' J) (hF : ∀ I', NOR ta tk I (0, [2], k, ws, j) I' → Rp (some (.int 0)) (shH ru_ ta rs) I' J) (r : Nat) (hr : r ≤ 8) (I1 : XI) (f1 : FS ta I I1) (at1 : ATt ta I1 (j + r) c) (hj : j + r < N) (r1 : Rch tk (0, [2], k, ws, j) (0, Kn r, k, ws, j + r)) (row1 : I1 (ta + 1) = I (ta + 1)) (x1 : ∀ (a : List Nat) (E : List Odr) (A : Adr), Rx tk ((0, [2], k, ws, j), [(0, a)], E, A) ((0, Kn r, k, ws, j + r), List.replicate r (0, []) ++ [(0, a)], E, A)) (hw : r < 8 → isWd (tk (j + r)) 21 = false) (S : Nat) (hSS : 10 < S) : akr l ru_ ta rs J Rp n (S + 1) 27 [some (.ref 35), some (.int (nI r)), none, none, none] I1 := by
  have hN := hk.2.1
  have ev1 := hev.fe ht f1.1
  have tk1 := at1.tk ev1 hj
  have hwd := tkC_wd tk1 (hk.2.2.2.2 (j + r)) (w := 21) (by omega)
  have ew : (30 : Int32) = nI (cw 21) := by decide
  refine xrun_step fun Kk hKk => ?_
  refine rd_isWord l ru_ ta rs I1 J _ n (by omega) 30 (fun g => ?_) (fun g => ?_)
  · rw [ew] at g
    have z := hwd.mp g
    have e8 : r = 8 := by
      rcases Nat.lt_or_ge r 8 with y | y
      · rw [hw y] at z
        cases z
      · omega
    refine And.intro (fun h => absurd h (by decide)) (fun _ => ?_)
    refine rd_fail l ru_ ta rs I1 J _ n (by omega) 3 (j + r) (by omega) at1.1 ?_
    exact And.intro (Or.inl rfl) (hF _ (NOR.pre f1.1 r1 (NOR.fi ht ev1 hj (by omega) at1.2.2.2 (Ends.now (s0_deep z (by rw [opK_n]; omega))))))
  · rw [ew] at g
    have nz : isWd (tk (j + r)) 21 = false := bF Iff.rfl (fun y => g (hwd.mpr y))
    have r2 : Rch tk (0, [2], k, ws, j) (1, 4 :: Kn r, k, ws, j + r) := r1.tr (Rch.step (s0_go nz) (Rch.rf _))
    have ha1 : I1 35 2 = nI (naL k) := by rw [f1.1.2.1 2 (by decide) (by decide) (by decide) (by decide) (by decide)]; exact ha
    refine And.intro (fun _ => ?_) (fun h => absurd rfl h)
    refine hC (8 - r) r (j + r) c (4 :: Kn r) I1 J _ (by omega) (by rw [opK, opK_n, if_neg (by decide)]; omega) rfl ev1 at1 hj (by omega) ha1 (fun w => absurd w (by decide)) (fun I2 ok => ?_) (fun I2 no => ?_)
    · obtain ⟨j2, c2, g1, g2, g3, g4, g5, ⟨g6, el, cel, rrl, tyl⟩, g7⟩ := ok
      have f2 : FS ta I I2 := f1.tr g1
      have ev2 := hev.fe ht f2.1
      have tk2 := g2.tk ev2 g3
      have has := tkC_as tk2 (hk.2.2.2.2 j2)
      have r3 := r2.tr g6
      refine And.intro (fun _ => ?_) (fun h => absurd h (by decide))
      refine rd_cmp l n (by omega) (I2 35 4) _ _ _ _ (fun cm hco => ?_) (fun hcm => ?_)
      · have hcm1 := cmO_ne hco
        have hcm : cmpS (I2 35 4) := by
          rcases hco with ⟨z, _⟩ | ⟨z, _⟩ | ⟨z, _⟩ | ⟨z, _⟩ | ⟨z, _⟩ | ⟨z, _⟩
          · exact Or.inl z
          · exact Or.inr (Or.inl z)
          · exact Or.inr (Or.inr (Or.inl z))
          · exact Or.inr (Or.inr (Or.inr (Or.inl z)))
          · exact Or.inr (Or.inr (Or.inr (Or.inr (Or.inl z))))
          · exact Or.inr (Or.inr (Or.inr (Or.inr (Or.inr z))))
        have hco2 := cmO_ok tk2 (hk.2.2.2.2 j2) hco
        have as := has.mp hcm
        have hlt2 : j2 + 1 < N := hk.nx g3 (by
          intro z
          unfold isAs isSg at as
          rw [z] at as
          simp at as)
        have f3 : FS ta I (avI I2 (j2 + 1)) := f2.tr (avI_fs ht)
        have r4 : Rch tk (0, [2], k, ws, j) (1, 5 :: Kn r, k, ws, j2 + 1) := r3.tr (Rch.step (s2_as g7 as) (Rch.rf _))
        refine And.intro (fun _ => ?_) (fun h => absurd h hcm1)
        refine rd_advance l ru_ ta rs I2 J _ n (by omega) (j2 + 1) N hN hlt2 (by rw [g2.1, nI_1]) ev2.1 ?_
        refine hC (8 - r) r (j2 + 1) c2 (5 :: Kn r) (avI I2 (j2 + 1)) J _ (by omega) (by rw [opK, opK_n, if_neg (by decide)]; omega) rfl (hev.fe ht f3.1) (avI_at ht g2.2.2.2) hlt2 (by omega) (by rw [f3.1.2.1 2 (by decide) (by decide) (by decide) (by decide) (by decide)]; exact ha) (fun w => absurd w (by decide)) (fun I4 ok => ?_) (fun I4 no => ?_)
        · obtain ⟨j4, c4, k1, k2, k3, k4, k5, ⟨k6, er, cer, rrr, tyr⟩, k7⟩ := ok
          have fin : ∀ I5, EM ta I4 I5 c4 cm 0 → Kk 93 [some (.ref 35), some (.int (nI r)), some (.int cm), some (.int 1), some (.int (nI 0))] [] (shH ru_ ta rs) I5 J 0 0 := fun I5 em => by
            have e5 := em.at ht k2
            rw [if_pos (show c4 < 300 by omega)] at e5
            refine hKk 93 [some (.ref 35), some (.int (nI r)), some (.int cm), some (.int 1), some (.int (nI 0))] [] (shH ru_ ta rs) I5 J 0 0 ?_
            refine ak_93 ht (by omega) I5 J Rp r j4 (c4 + 1) hr cm (by omega) (fun I' f' at' ce' => ?_) r 0 S I5 (by omega) (by omega) FS.rf e5 (Cem.rf rfl)
            refine hS I' ⟨j4, c4 + 1 + r, ((f3.tr k1).tr (em.fs ht)).tr f', at', k3, by omega, by omega, ⟨(r4.tr k6).tr (Rch.step (s2_cmp k7) ?_), el ++ er ++ [((tk j2).2.1, 0)] ++ List.replicate r (405, 0), (((cel.base row1).tr (cer.base (avI_row ht))).tr (Cem.em em (by omega) hco2.1)).tr ce', fun a E A => ?_, Typ.ask tyl tyr (by omega) (hco2.2 k)⟩, trivial⟩
            · rw [cl3_n]
              exact Rch.rf _
            · have s0 : Rx tk ((0, Kn r, k, ws, j + r), List.replicate r (0, []) ++ [(0, a)], E, A) ((1, 4 :: Kn r, k, ws, j + r), (0, []) :: (List.replicate r (0, []) ++ [(0, a)]), E, A) := Rx.one (s0_go nz) rfl
              exact ((x1 a E A).tr s0).tr (Rx.ask rrl g7 as rrr k7)
          obtain rfl | rfl | rfl | rfl | rfl := id ht
          all_goals exact rd_emit l ru_ _ rs I4 J _ ht n (by omega) c4 (by omega) cm 0 k2.2.2.2 (fun I5 em => fin I5 em)
        · have no' := NOR.pre f3.1 r4 no
          obtain ⟨c0, hc0, e0, hem⟩ := no'.em ht
          have fin : ∀ I5, EM ta I4 I5 c0 cm 0 → Kk 93 [some (.ref 35), some (.int (nI r)), some (.int cm), some (.int 0), some (.int (nI 0))] [] (shH ru_ ta rs) I5 J 0 0 := fun I5 em => by
            refine hKk 93 [some (.ref 35), some (.int (nI r)), some (.int cm), some (.int 0), some (.int (nI 0))] [] (shH ru_ ta rs) I5 J 0 0 ?_
            exact ak_93F ht (by omega) I J Rp (0, [2], k, ws, j) r hr cm hF r 0 S I5 (by omega) (by omega) (hem cm 0 I5 em)
          obtain rfl | rfl | rfl | rfl | rfl := id ht
          all_goals exact rd_emit l ru_ _ rs I4 J _ ht n (by omega) c0 hc0 cm 0 e0 (fun I5 em => fin I5 em)
      · refine And.intro (fun h => absurd rfl h) (fun _ => ?_)
        refine rd_fail l ru_ ta rs I2 J _ n (by omega) 1 j2 (by omega) g2.1 ?_
        exact And.intro (Or.inl rfl) (hF _ (NOR.pre f2.1 r3 (NOR.fi ht ev2 g3 (by omega) g2.2.2.2 (Ends.now (s2_asE g7 (bF Iff.rfl (fun y => hcm (has.mpr y))))))))
    · refine And.intro (fun h => absurd rfl h) (fun _ => ?_)
      exact And.intro (Or.inl rfl) (hF _ (NOR.pre f1.1 r2 no))
set_option maxRecDepth 100000 in
set_option maxHeartbeats 1000000 in
theorem rd_ask (ht : TSP ta) (hk : TKN tk N) {n : Nat} (hn : 2 ≤ n) (hC : ∀ m, C3 l ru_ ta rs tk N k ws m n) (j c : Nat) (I : XI) (J : XJ) (Rp : XR) (hev : EV I tk N) (hat : ATt ta I j c) (hj : j < N) (hc : c ≤ j) (ha : I 35 2 = nI (naL k)) (hS : ∀ I', OKR ta N tk I j c (0, [2], k, ws, j) (fun j' => (3, [2], k, ws, j')) (Qa tk k) (fun _ => True) I' → Rp (some (.int 1)) (shH ru_ ta rs) I' J) (hF : ∀ I', NOR ta tk I (0, [2], k, ws, j) I' → Rp (some (.int 0)) (shH ru_ ta rs) I' J) : xm l (n + 1) 0 0 mX5_ask [.ref 35] (shH ru_ ta rs) I J Rp := by
  have hN := hk.2.1
  have loop : ∀ (m r S : Nat) (I1 : XI), r + m = 8 → 20 + m < S → FS ta I I1 → ATt ta I1 (j + r) c → j + r < N → Rch tk (0, [2], k, ws, j) (0, Kn r, k, ws, j + r) → I1 (ta + 1) = I (ta + 1) → (∀ (a : List Nat) (E : List Odr) (A : Adr), Rx tk ((0, [2], k, ws, j), [(0, a)], E, A) ((0, Kn r, k, ws, j + r), List.replicate r (0, []) ++ [(0, a)], E, A)) → akr l ru_ ta rs J Rp n S 2 [some (.ref 35), some (.int (nI r)), none, none, none] I1 := by
    intro m
    induction m with
    | zero =>
      intro r S I1 hr hS' f1 at1 hj1 r1 row1 x1
      obtain ⟨S, rfl⟩ : ∃ n', S = n' + 2 := ⟨S - 2, by omega⟩
      refine xrun_step fun Kk hKk => ?_
      refine And.intro (fun _ => ?_) (fun h => absurd (show nI 8 ≤ nI r from nI_le (by omega) (by omega)) h)
      exact hKk 27 [some (.ref 35), some (.int (nI r)), none, none, none] [] (shH ru_ ta rs) I1 J 0 0 (ak_27 ht hk hn hC j c I J Rp hev hc ha hS hF r (by omega) I1 f1 at1 hj1 r1 row1 x1 (fun y => by omega) S (by omega))
    | succ m ih =>
      intro r S I1 hr hS' f1 at1 hj1 r1 row1 x1
      obtain ⟨S, rfl⟩ : ∃ n', S = n' + 2 := ⟨S - 2, by omega⟩
      have ev1 := hev.fe ht f1.1
      have tk1 := at1.tk ev1 hj1
      have hwd := tkC_wd tk1 (hk.2.2.2.2 (j + r)) (w := 21) (by omega)
      have ew : (30 : Int32) = nI (cw 21) := by decide
      refine xrun_step fun Kk hKk => ?_
      refine And.intro (fun h => absurd (show nI 8 ≤ nI r from h) (nI_ge (by omega) (by omega))) (fun _ => ?_)
      refine rd_isWord l ru_ ta rs I1 J _ n (by omega) 30 (fun g => ?_) (fun g => ?_)
      · rw [ew] at g
        have z := hwd.mp g
        have hlt := hk.nx hj1 (by rw [(wd_1 z).1]; decide)
        refine And.intro (fun h => absurd h (by decide)) (fun _ => ?_)
        refine rd_advance l ru_ ta rs I1 J _ n (by omega) (j + r + 1) N hN hlt (by rw [at1.1, nI_1]) ev1.1 ?_
        refine hKk 2 [some (.ref 35), some (.int (nI r + 1)), none, none, none] [] (shH ru_ ta rs) (avI I1 (j + r + 1)) J 0 0 ?_
        rw [nI_1]
        refine ih (r + 1) (S + 1) (avI I1 (j + r + 1)) (by omega) (by omega) (f1.tr (avI_fs ht)) (avI_at ht at1.2.2.2) hlt (r1.tr (Rch.step (s0_not z (by rw [opK_n]; omega)) ?_)) ((avI_row ht).trans row1) (fun a E A => ?_)
        · rw [Kn_s]
          exact Rch.rf _
        · have q : Rx tk ((0, Kn r, k, ws, j + r), List.replicate r (0, []) ++ [(0, a)], E, A) ((0, 3 :: Kn r, k, ws, j + r + 1), (0, []) :: (List.replicate r (0, []) ++ [(0, a)]), E, A) := Rx.one (s0_not z (by rw [opK_n]; omega)) rfl
          rw [Kn_s] at q
          exact (x1 a E A).tr q
      · rw [ew] at g
        refine And.intro (fun _ => ?_) (fun h => absurd rfl h)
        exact hKk 27 [some (.ref 35), some (.int (nI r)), none, none, none] [] (shH ru_ ta rs) I1 J 0 0 (ak_27 ht hk hn hC j c I J Rp hev hc ha hS hF r (by omega) I1 f1 at1 hj1 r1 row1 x1 (fun _ => bF Iff.rfl (fun y => g (hwd.mpr y))) S (by omega))
  refine xm_ofK 40 (X := xxX5) (t := tX5_ask) (stop := [2, 27, 93]) (ini := false) xx5 pl5 rfl kX5_ask (fun h => by cases h) (Nat.le_of_ble_eq_true rfl) (fun Kk hKk => ?_)
  exact hKk 2 [some (.ref 35), some (.int (nI 0)), none, none, none] [] (shH ru_ ta rs) I J 0 0 (loop 8 0 40 I (by omega) (by omega) FS.rf hat hj (Rch.rf _) rfl (fun a E A => Rx.rf _))
-- either
def nT (n : Nat) (t : List Bool) : List Bool := List.replicate n true ++ t
theorem nT_s (n : Nat) (t : List Bool) : nT (n + 1) t = true :: nT n t := by unfold nT; rw [List.replicate_succ]; rfl
theorem nT_1 (t : List Bool) : nT 1 t = true :: t := rfl
theorem nT_l (n : Nat) (t : List Bool) : (nT n t).length = n + t.length := by unfold nT; simp
def tl7 (w : Nat) : List Nat := if w = 1 then [407] else []
def EiR (tk : Nat → TK) (k w : Nat) (s t : MS) (e : List Odr) : Prop := (∀ (E : List Odr) (A : Adr), ∃ q e1, (q = [] ∨ q = [406]) ∧ e = e1 ++ q.map (fun y => ((y, 0) : Odr)) ∧ Rx tk (s, [(0, [])], E, A) (t, [(0, q ++ tl7 w)], E ++ e1, A)) ∧ ∀ u : List Bool, u.length + 22 ≤ 64 → tyE k e u = some (nT (w + 1) u)
def EiB (tk : Nat → TK) (k a w : Nat) (s t : MS) (e : List Odr) : Prop := (∀ (E : List Odr) (A : Adr), Rx tk (s, [(0, [])], E, A) (t, [(0, (if a = 1 then [406] else []) ++ tl7 w)], E ++ e, A)) ∧ ∀ u : List Bool, u.length + 22 ≤ 64 → tyE k e u = some (nT (a + w) u)
/-- a law: what waits at its end comes behind -/
def Ql (tk : Nat → TK) (k : Nat) (b : Bool) (s t : MS) (e : List Odr) : Prop := (∀ (E : List Odr) (A : Adr), ∃ p e1, e = e1 ++ p.map (fun y => ((y, 0) : Odr)) ∧ Rx tk (s, [(0, [])], E, A) (t, [(0, p)], E ++ e1, A)) ∧ Typ k 22 b e
theorem tyE_or {k : Nat} {u : List Bool} : tyE k [(407, 0)] (true :: true :: u) = some (true :: u) := rfl
theorem tyE_and {k : Nat} {u : List Bool} : tyE k [(406, 0)] (true :: true :: u) = some (true :: u) := rfl
section EIT
variable {tk : Nat → TK} {k : Nat} {ws : List Nat} {s : MS} {j' j2 : Nat} {e e2 : List Odr}
theorem EiR.of {t : MS} (h : Qa tk k s t e) : EiR tk k 0 s t e := ⟨fun E A => ⟨[], e, Or.inl rfl, by simp, h.1 [] E A⟩, fun u hu => h.2 u (by omega)⟩
theorem q_rk {q : List Nat} (h : q = [] ∨ q = [406]) : ∀ y, y ∈ q → 2 ≤ rkn y := by
  rcases h with rfl | rfl
  · intro y hy
    cases hy
  · intro y hy
    rw [List.mem_singleton.mp hy]
    decide
theorem tl_rk {w : Nat} : ∀ y, (tl7 w).head? = some y → rkn y < 2 := by
  intro y hy
  unfold tl7 at hy
  split at hy
  · have e : 407 = y := Option.some.inj hy
    rw [← e]
    decide
  · cases hy
theorem rk1 (y : Nat) : 1 ≤ rkn y := by
  unfold rkn
  split
  · omega
  · split
    · omega
    · split <;> omega
theorem wk_1 (p : List Nat) : wk 1 p = ([], p.map fun y => (y, 0)) := by
  have := wk_p (r := 1) (p := p) (a := []) (fun y _ => rk1 y) (fun y hy => by cases hy)
  rw [List.append_nil] at this
  exact this
theorem EiB.and {w : Nat} (h : EiR tk k w s (3, [2], k, ws, j') e) (z : isWd (tk j') 20 = true) (z19 : isWd (tk j') 19 = false) : EiB tk k 1 w s (0, [2], k, ws, j' + 1) e := by
  refine ⟨fun E A => ?_, fun u hu => by rw [h.2 u hu, Nat.add_comm]⟩
  obtain ⟨q, e1, hq, he, hr⟩ := h.1 E A
  have w2 := wk_p (r := 2) (q_rk hq) (tl_rk (w := w))
  have st : Rx tk ((3, [2], k, ws, j'), [(0, q ++ tl7 w)], E ++ e1, A) ((0, [2], k, ws, j' + 1), [(0, [406] ++ tl7 w)], E ++ e, A) := by
    refine Rx.one (s3_go (by rw [z, Bool.or_true])) ?_
    rw [xeff_3]
    unfold y3x
    dsimp only
    rw [z19, z]
    show ((0, 406 :: (wk 2 (q ++ tl7 w)).1) :: [], E ++ e1 ++ (wk 2 (q ++ tl7 w)).2, A) = _
    rw [w2, he, List.append_assoc]
    rfl
  exact hr.tr st
theorem EiB.or {w : Nat} (h : EiR tk k w s (3, [2], k, ws, j') e) (z : isWd (tk j') 19 = true) : ∀ (E : List Odr) (A : Adr), Rx tk (s, [(0, [])], E, A) ((0, [2], k, ws, j' + 1), [(0, [] ++ tl7 1)], E ++ (e ++ (tl7 w).map (fun y => ((y, 0) : Odr))), A) := by
  intro E A
  obtain ⟨q, e1, hq, he, hr⟩ := h.1 E A
  have st : Rx tk ((3, [2], k, ws, j'), [(0, q ++ tl7 w)], E ++ e1, A) ((0, [2], k, ws, j' + 1), [(0, [] ++ tl7 1)], E ++ (e ++ (tl7 w).map (fun y => ((y, 0) : Odr))), A) := by
    refine Rx.one (s3_go (by rw [z, Bool.true_or])) ?_
    rw [xeff_3]
    unfold y3x
    dsimp only
    rw [z]
    show ((0, 407 :: (wk 1 (q ++ tl7 w)).1) :: [], E ++ e1 ++ (wk 1 (q ++ tl7 w)).2, A) = _
    rw [wk_1, he, List.map_append]
    simp [List.append_assoc, tl7]
  exact hr.tr st
theorem EiB.or0 (h : EiR tk k 0 s (3, [2], k, ws, j') e) (z : isWd (tk j') 19 = true) : EiB tk k 0 1 s (0, [2], k, ws, j' + 1) e := by
  refine ⟨fun E A => ?_, fun u hu => h.2 u hu⟩
  have y := EiB.or h z E A
  have x : e ++ (tl7 0).map (fun y => ((y, 0) : Odr)) = e := by simp [tl7]
  rw [x] at y
  exact y
theorem EiB.or1 (h : EiR tk k 1 s (3, [2], k, ws, j') e) (z : isWd (tk j') 19 = true) : EiB tk k 0 1 s (0, [2], k, ws, j' + 1) (e ++ [(407, 0)]) := ⟨fun E A => EiB.or h z E A, fun u hu => tyE_app (h.2 u hu) tyE_or⟩
theorem EiR.ask1 {w : Nat} (hw : w ≤ 1) (h : EiB tk k 1 w s (0, [2], k, ws, j') e) (g : Qa tk k (0, [2], k, ws, j') (3, [2], k, ws, j2) e2) : EiR tk k w s (3, [2], k, ws, j2) (e ++ e2 ++ [(406, 0)]) := by
  refine ⟨fun E A => ⟨[406], e ++ e2, Or.inr rfl, rfl, ?_⟩, fun u hu => ?_⟩
  · have y := (h.1 E A).tr (g.1 _ _ _)
    rw [List.append_assoc] at y
    exact y
  · have a := h.2 u hu
    have b := g.2 (nT (1 + w) u) (by rw [nT_l]; omega)
    refine tyE_app (tyE_app a b) ?_
    rw [Nat.add_comm 1 w, nT_s]
    exact tyE_and
theorem EiR.ask0 (h : EiB tk k 0 1 s (0, [2], k, ws, j') e) (g : Qa tk k (0, [2], k, ws, j') (3, [2], k, ws, j2) e2) : EiR tk k 1 s (3, [2], k, ws, j2) (e ++ e2) := by
  refine ⟨fun E A => ⟨[], e ++ e2, Or.inl rfl, by simp, ?_⟩, fun u hu => ?_⟩
  · have y := (h.1 E A).tr (g.1 _ _ _)
    rw [List.append_assoc] at y
    exact y
  · exact tyE_app (h.2 u hu) (g.2 (nT (0 + 1) u) (by rw [nT_l]; omega))
theorem Ql.e0 {t : MS} (h : EiR tk k 0 s t e) : Ql tk k true s t e := by
  refine ⟨fun E A => ?_, fun u hu => h.2 u hu⟩
  obtain ⟨q, e1, _, he, hr⟩ := h.1 E A
  refine ⟨q, e1, he, ?_⟩
  have x : q ++ tl7 0 = q := by simp [tl7]
  rw [x] at hr
  exact hr
theorem Ql.e1 {t : MS} (h : EiR tk k 1 s t e) : Ql tk k true s t (e ++ [(407, 0)]) := by
  refine ⟨fun E A => ?_, fun u hu => tyE_app (h.2 u hu) tyE_or⟩
  obtain ⟨q, e1, _, he, hr⟩ := h.1 E A
  refine ⟨q ++ tl7 1, e1, ?_, hr⟩
  rw [he, List.map_append, List.append_assoc]
  rfl
theorem Ql.sum {K : List Nat} (hK : s.2.1 = [K.headD 0]) {t : MS} {m : Nat} (hm : m ≤ 22) (h : Qs tk 3 s t e) (g : Typ k m false e) : Ql tk k false s t e := by
  refine ⟨fun E A => ?_, g.mono hm⟩
  obtain ⟨p, e1, h1, _, h3⟩ := h 0 [] [] E A (by rw [hK]; rfl) (fun y hy => by cases hy)
  rw [List.append_nil] at h3
  exact ⟨p, e1, h1, h3⟩
/-- the end of a law: `;` -/
theorem Ql.end2 {b : Bool} {j4 w : Nat} {ws' : List Nat} (h : Ql tk k b s (2, [1], w, ws', j4) e) (o : isOp (tk j4) = false) (z : isSg (tk j4) 59 = true) (E : List Odr) (A : Adr) : Rx tk (s, [(0, [])], E, A) ((4, [], w, ws', j4 + 1), [], E ++ e ++ [(408, 0)], A) := by
  obtain ⟨p, e1, he, hr⟩ := h.1 E A
  refine hr.tr (Rx.one (s2_end o z) ?_)
  rw [xeff_2]
  unfold y2x
  dsimp only
  rw [o]
  show ([], E ++ e1 ++ (wk 1 p).2 ++ [(408, 0)], A) = _
  rw [wk_1, he]
  simp [List.append_assoc]
theorem Ql.end3 {b : Bool} {j4 w : Nat} {ws' : List Nat} (h : Ql tk k b s (3, [2], w, ws', j4) e) (o : (isWd (tk j4) 19 || isWd (tk j4) 20) = false) (z : isSg (tk j4) 59 = true) (E : List Odr) (A : Adr) : Rx tk (s, [(0, [])], E, A) ((4, [], w, ws', j4 + 1), [], E ++ e ++ [(408, 0)], A) := by
  obtain ⟨p, e1, he, hr⟩ := h.1 E A
  have o' := Bool.or_eq_false_iff.mp o
  refine hr.tr (Rx.one (s3_end o z) ?_)
  rw [xeff_3]
  unfold y3x
  dsimp only
  rw [o'.1, o'.2]
  show ([], E ++ e1 ++ (wk 1 p).2 ++ [(408, 0)], A) = _
  rw [wk_1, he]
  simp [List.append_assoc]
end EIT
abbrev eir (l : Launch) (ru_ ta : Nat) (rs : List XO) (J : XJ) (Rp : XR) (n S pc : Nat) (lc : List (Option Value)) (I : XI) : Prop := xrun xxX5 (some .boolean) false false (shH ru_ ta rs).length 0 0 none l n tX5_either [9, 80, 110] Rp S pc lc [] (shH ru_ ta rs) I J 0 0
abbrev EOK (ta N : Nat) (tk : Nat → TK) (I : XI) (j c k : Nat) (ws : List Nat) (I' : XI) : Prop := OKR ta N tk I j c (0, [2], k, ws, j) (fun j' => (3, [2], k, ws, j')) (Ql tk k true) (fun j' => (isWd (tk j') 19 || isWd (tk j') 20) = false) I'
set_option maxRecDepth 100000 in
set_option maxHeartbeats 1000000 in
theorem ei_110F (ht : TSP ta) {n : Nat} (hn : 1 ≤ n) (I : XI) (J : XJ) (Rp : XR) (s : MS) (hF : ∀ I', NOR ta tk I s I' → Rp (some (.int 0)) (shH ru_ ta rs) I' J) (I' : XI) (S : Nat) (w : Int32) (i4 : Option Value) (i : Nat) (h : NOR ta tk I s I') : eir l ru_ ta rs J Rp n (S + 1) 110 [some (.ref 35), some (.int 0), some (.int w), some (.int (nI i)), i4] I' := by
  obtain ⟨c0, hc0, e0, hem⟩ := h.em ht
  refine xrun_step fun Kk hKk => ?_
  refine And.intro (fun _ => And.intro (Or.inl rfl) (hF I' h)) (fun _ => ?_)
  obtain rfl | rfl | rfl | rfl | rfl := id ht
  all_goals exact rd_emit l ru_ _ rs I' J _ ht n hn c0 hc0 16 0 e0 (fun I5 em => And.intro (Or.inl rfl) (hF _ (hem 16 0 I5 em)))
set_option maxRecDepth 100000 in
set_option maxHeartbeats 1000000 in
theorem ei_110 (ht : TSP ta) {n : Nat} (hn : 1 ≤ n) (hN : N ≤ 301) (j c : Nat) (hc : c ≤ j) (I : XI) (J : XJ) (Rp : XR) (hS : ∀ I', EOK ta N tk I j c k ws I' → Rp (some (.int 1)) (shH ru_ ta rs) I' J) (I' : XI) (S j' c' w i : Nat) (i4 : Option Value) (hw : w ≤ 1) (f : FS ta I I') (at1 : ATt ta I' j' c') (hj : j' < N) (h1 : c + 1 ≤ c') (h2 : j + c' + w ≤ j' + c) (r : Rch tk (0, [2], k, ws, j) (3, [2], k, ws, j')) (ce : ∃ e, Cem ta I I' c c' e ∧ EiR tk k w (0, [2], k, ws, j) (3, [2], k, ws, j') e) (hP : (isWd (tk j') 19 || isWd (tk j') 20) = false) : eir l ru_ ta rs J Rp n (S + 1) 110 [some (.ref 35), some (.int 1), some (.int (nI w)), some (.int (nI i)), i4] I' := by
  refine xrun_step fun Kk hKk => ?_
  obtain ⟨e, ce1, ce2⟩ := ce
  refine And.intro (fun hz0 => ?_) (fun hn0 => ?_)
  · have e0 : w = 0 := by
      rcases Nat.eq_zero_or_pos w with z | z
      · exact z
      · exact absurd hz0 (nI_ne0 z (by omega))
    subst e0
    exact And.intro (Or.inr rfl) (hS I' ⟨j', c', f, at1, hj, h1, by omega, ⟨r, e, ce1, Ql.e0 ce2⟩, hP⟩)
  have e1 : w = 1 := by
    rcases Nat.eq_zero_or_pos w with z | z
    · rw [z] at hn0
      exact absurd rfl hn0
    · omega
  have fin : ∀ I5, EM ta I' I5 c' 16 0 → (((1 : Int32) = 0 ∨ (1 : Int32) = 1) ∧ Rp (some (.int 1)) (shH ru_ ta rs) I5 J) := fun I5 em => by
    have e5 := em.at ht at1
    rw [if_pos (show c' < 300 by omega)] at e5
    exact ⟨Or.inr rfl, hS I5 ⟨j', c' + 1, f.tr (em.fs ht), e5, hj, by omega, by omega, ⟨r, e ++ [(407, 0)], ce1.tr (Cem.em em (by omega) (by decide)), Ql.e1 (by rw [e1] at ce2; exact ce2)⟩, hP⟩⟩
  obtain rfl | rfl | rfl | rfl | rfl := id ht
  all_goals exact rd_emit l ru_ _ rs I' J _ ht n hn c' (by omega) 16 0 at1.2.2.2 (fun I5 em => fin I5 em)
set_option maxRecDepth 100000 in
set_option maxHeartbeats 1000000 in
theorem ei_9F (ht : TSP ta) {n : Nat} (hn : 1 ≤ n) (I : XI) (J : XJ) (Rp : XR) (s : MS) (hF : ∀ I', NOR ta tk I s I' → Rp (some (.int 0)) (shH ru_ ta rs) I' J) (I' : XI) (S : Nat) (w : Int32) (i4 : Option Value) (i : Nat) (h : NOR ta tk I s I') : eir l ru_ ta rs J Rp n (S + 2) 9 [some (.ref 35), some (.int 0), some (.int w), some (.int (nI i)), i4] I' := by
  refine xrun_step fun Kk hKk => ?_
  have x := hKk 110 [some (.ref 35), some (.int 0), some (.int w), some (.int (nI i)), i4] [] (shH ru_ ta rs) I' J 0 0 (ei_110F ht hn I J Rp s hF I' S w i4 i h)
  exact And.intro (fun _ => x) (fun _ => And.intro (fun _ => x) (fun z => absurd rfl z))
set_option maxRecDepth 100000 in
set_option maxHeartbeats 1000000 in
theorem ei_80 (ht : TSP ta) (hk : TKN tk N) {n : Nat} (hn : 2 ≤ n) (hC : ∀ m, C3 l ru_ ta rs tk N k ws m n) (j c : Nat) (I : XI) (J : XJ) (Rp : XR) (hev : EV I tk N) (hc : c ≤ j) (ha : I 35 2 = nI (naL k)) (hF : ∀ I', NOR ta tk I (0, [2], k, ws, j) I' → Rp (some (.int 0)) (shH ru_ ta rs) I' J) (I' : XI) (S j' c' w a i : Nat) (ha1 : a ≤ 1) (f : FS ta I I') (at1 : ATt ta I' j' c') (hj : j' < N) (h1 : c + 1 ≤ c') (h2 : j + c' + w + a ≤ j' + 1 + c) (hw : w ≤ 1) (ha0 : a = 0 → w = 1) (r : Rch tk (0, [2], k, ws, j) (3, [2], k, ws, j')) (ce : ∃ e, Cem ta I I' c c' e ∧ EiB tk k a w (0, [2], k, ws, j) (0, [2], k, ws, j' + 1) e) (hP : (isWd (tk j') 19 || isWd (tk j') 20) = true) (go : ∀ (I2 : XI) (j2 c2 : Nat), FS ta I I2 → ATt ta I2 j2 c2 → j2 < N → c + 1 ≤ c2 → j + c2 + w ≤ j2 + c → j' + 1 ≤ j2 → Rch tk (0, [2], k, ws, j) (3, [2], k, ws, j2) → (∃ e, Cem ta I I2 c c2 e ∧ EiR tk k w (0, [2], k, ws, j) (3, [2], k, ws, j2) e) → eir l ru_ ta rs J Rp (n + 1) (S + 2) 9 [some (.ref 35), some (.int 1), some (.int (nI w)), some (.int (nI (i + 1))), some (.int (nI a))] I2) : eir l ru_ ta rs J Rp (n + 1) (S + 3) 80 [some (.ref 35), some (.int 1), some (.int (nI w)), some (.int (nI i)), some (.int (nI a))] I' := by
  have hN := hk.2.1
  have ev' := hev.fe ht f.1
  have hlt := hk.nx hj (by
    rw [Bool.or_eq_true] at hP
    rcases hP with z | z <;> rw [(wd_1 z).1] <;> decide)
  have f1 : FS ta I (avI I' (j' + 1)) := f.tr (avI_fs ht)
  have r1 : Rch tk (0, [2], k, ws, j) (0, [2], k, ws, j' + 1) := r.tr (Rch.step (s3_go hP) (Rch.rf _))
  refine xrun_step fun Kk hKk => ?_
  refine rd_advance l ru_ ta rs I' J _ (n + 1) (by omega) (j' + 1) N hN hlt (by rw [at1.1, nI_1]) ev'.1 ?_
  refine rd_ask ht hk hn hC (j' + 1) c' (avI I' (j' + 1)) J _ (hev.fe ht f1.1) (avI_at ht at1.2.2.2) hlt (by omega) (by rw [f1.1.2.1 2 (by decide) (by decide) (by decide) (by decide) (by decide)]; exact ha) (fun I2 ok => ?_) (fun I2 no => ?_)
  · obtain ⟨j2, c2, g1, g2, g3, g4, g5, ⟨g6, e2, ce2, qa2⟩, g7⟩ := ok
    obtain ⟨e, ce1, eb⟩ := ce
    have ce3 := ce1.tr (ce2.base (avI_row (i := j' + 1) (I := I') ht))
    have k9 : ∀ (I3 : XI) (c3 : Nat), FS ta I I3 → ATt ta I3 j2 c3 → c + 1 ≤ c3 → j + c3 + w ≤ j2 + c → (∃ e, Cem ta I I3 c c3 e ∧ EiR tk k w (0, [2], k, ws, j) (3, [2], k, ws, j2) e) → Kk 9 [some (.ref 35), some (.int 1), some (.int (nI w)), some (.int (nI i + 1)), some (.int (nI a))] [] (shH ru_ ta rs) I3 J 0 0 := fun I3 c3 q1 q2 q3 q4 q5 => by
      refine hKk 9 [some (.ref 35), some (.int 1), some (.int (nI w)), some (.int (nI i + 1)), some (.int (nI a))] [] (shH ru_ ta rs) I3 J 0 0 ?_
      rw [nI_1]
      exact go I3 j2 c3 q1 q2 g3 q3 q4 (by omega) (r1.tr g6) q5
    refine And.intro (fun h0 => ?_) (fun h0 => ?_)
    · have e0 : a = 0 := by
        rcases Nat.eq_zero_or_pos a with z | z
        · exact z
        · exact absurd h0 (nI_ne0 z (by omega))
      have ew := ha0 e0
      subst e0
      subst ew
      exact k9 I2 c2 (f1.tr g1) g2 (by omega) (by omega) ⟨_, ce3, EiR.ask0 eb qa2⟩
    · have e1 : a = 1 := by
        rcases Nat.eq_zero_or_pos a with z | z
        · rw [z] at h0
          exact absurd rfl h0
        · omega
      have fin : ∀ I5, EM ta I2 I5 c2 15 0 → Kk 9 [some (.ref 35), some (.int 1), some (.int (nI w)), some (.int (nI i + 1)), some (.int (nI a))] [] (shH ru_ ta rs) I5 J 0 0 := fun I5 em => by
        have e5 := em.at ht g2
        rw [if_pos (show c2 < 300 by omega)] at e5
        exact k9 I5 (c2 + 1) ((f1.tr g1).tr (em.fs ht)) e5 (by omega) (by omega) ⟨_, ce3.tr (Cem.em em (by omega) (by decide)), EiR.ask1 hw (by rw [e1] at eb; exact eb) qa2⟩
      obtain rfl | rfl | rfl | rfl | rfl := id ht
      all_goals exact rd_emit l ru_ _ rs I2 J _ ht (n + 1) (by omega) c2 (by omega) 15 0 g2.2.2.2 (fun I5 em => fin I5 em)
  · have no' := NOR.pre f1.1 r1 no
    obtain ⟨c0, hc0, e0, hem⟩ := no'.em ht
    have k9 : ∀ (I3 : XI), NOR ta tk I (0, [2], k, ws, j) I3 → Kk 9 [some (.ref 35), some (.int 0), some (.int (nI w)), some (.int (nI i + 1)), some (.int (nI a))] [] (shH ru_ ta rs) I3 J 0 0 := fun I3 q => by
      refine hKk 9 [some (.ref 35), some (.int 0), some (.int (nI w)), some (.int (nI i + 1)), some (.int (nI a))] [] (shH ru_ ta rs) I3 J 0 0 ?_
      rw [nI_1]
      exact ei_9F ht (by omega) I J Rp _ hF I3 S (nI w) _ (i + 1) q
    refine And.intro (fun _ => k9 I2 no') (fun _ => ?_)
    obtain rfl | rfl | rfl | rfl | rfl := id ht
    all_goals exact rd_emit l ru_ _ rs I2 J _ ht (n + 1) (by omega) c0 hc0 15 0 e0 (fun I5 em => k9 I5 (hem 15 0 I5 em))
set_option maxRecDepth 100000 in
set_option maxHeartbeats 1000000 in
theorem ei_9 (ht : TSP ta) (hk : TKN tk N) {n : Nat} (hn : 2 ≤ n) (hC : ∀ m, C3 l ru_ ta rs tk N k ws m n) (j c : Nat) (I : XI) (J : XJ) (Rp : XR) (hev : EV I tk N) (hc : c ≤ j) (ha : I 35 2 = nI (naL k)) (hS : ∀ I', EOK ta N tk I j c k ws I' → Rp (some (.int 1)) (shH ru_ ta rs) I' J) (hF : ∀ I', NOR ta tk I (0, [2], k, ws, j) I' → Rp (some (.int 0)) (shH ru_ ta rs) I' J) : ∀ (M i S j' c' w : Nat) (I' : XI) (i4 : Option Value), N - j' ≤ M → 2 * M + 4 < S → i ≤ j' → w ≤ 1 → FS ta I I' → ATt ta I' j' c' → j' < N → c + 1 ≤ c' → j + c' + w ≤ j' + c → Rch tk (0, [2], k, ws, j) (3, [2], k, ws, j') → (∃ e, Cem ta I I' c c' e ∧ EiR tk k w (0, [2], k, ws, j) (3, [2], k, ws, j') e) → eir l ru_ ta rs J Rp (n + 1) S 9 [some (.ref 35), some (.int 1), some (.int (nI w)), some (.int (nI i)), i4] I' := by
  intro M
  induction M with
  | zero =>
    intro i S j' c' w I' i4 hM _ _ _ _ _ hj
    omega
  | succ M ih =>
    intro i S j' c' w I' i4 hM hS' hi hw f at1 hj h1 h2 r ce
    obtain ⟨S, rfl⟩ : ∃ n', S = n' + 4 := ⟨S - 4, by omega⟩
    have hN := hk.2.1
    have ev' := hev.fe ht f.1
    have tkj := at1.tk ev' hj
    have okj := hk.2.2.2.2 j'
    have w19 := tkC_wd tkj okj (w := 19) (by omega)
    have w20 := tkC_wd tkj okj (w := 20) (by omega)
    have e19 : (28 : Int32) = nI (cw 19) := by decide
    have e20 : (29 : Int32) = nI (cw 20) := by decide
    refine xrun_step fun Kk hKk => ?_
    have out : (isWd (tk j') 19 || isWd (tk j') 20) = false → Kk 110 [some (.ref 35), some (.int 1), some (.int (nI w)), some (.int (nI i)), i4] [] (shH ru_ ta rs) I' J 0 0 := fun hP => hKk 110 [some (.ref 35), some (.int 1), some (.int (nI w)), some (.int (nI i)), i4] [] (shH ru_ ta rs) I' J 0 0 (ei_110 ht (by omega) hN j c hc I J Rp hS I' (S + 2) j' c' w i i4 hw f at1 hj h1 h2 r ce hP)
    have go : ∀ (I3 : XI) (c3 w3 a : Nat), a ≤ 1 → w3 ≤ 1 → (a = 0 → w3 = 1) → (∃ e, Cem ta I I3 c c3 e ∧ EiB tk k a w3 (0, [2], k, ws, j) (0, [2], k, ws, j' + 1) e) → FS ta I I3 → ATt ta I3 j' c3 → c + 1 ≤ c3 → j + c3 + w3 + a ≤ j' + 1 + c → (isWd (tk j') 19 || isWd (tk j') 20) = true → Kk 80 [some (.ref 35), some (.int 1), some (.int (nI w3)), some (.int (nI i)), some (.int (nI a))] [] (shH ru_ ta rs) I3 J 0 0 := fun I3 c3 w3 a q1 q2 qa qe q3 q4 q5 q6 q7 => by
      refine hKk 80 [some (.ref 35), some (.int 1), some (.int (nI w3)), some (.int (nI i)), some (.int (nI a))] [] (shH ru_ ta rs) I3 J 0 0 ?_
      refine ei_80 ht hk hn hC j c I J Rp hev hc ha hF I3 S j' c3 w3 a i q1 q3 q4 hj q5 q6 q2 qa r qe q7 (fun I2 j2 c2 z1 z2 z3 z4 z5 z6 z7 z8 => ?_)
      exact ih (i + 1) (S + 2) j2 c2 w3 I2 _ (by omega) (by omega) (by omega) q2 z1 z2 z3 z4 z5 z7 z8
    refine And.intro (fun h3 => ?_) (fun h3 => ?_)
    · have h3 : nI 300 ≤ nI i := h3
      rw [nI_leI (by omega) (by omega)] at h3
      exact out (by rw [end_wd hk hj (by omega), end_wd hk hj (by omega)]; rfl)
    · refine And.intro (fun z => absurd z (by decide)) (fun _ => ?_)
      refine rd_isWord l ru_ ta rs I' J _ (n + 1) (by omega) 28 (fun g => ?_) (fun g => ?_)
      · rw [e19] at g
        have z := w19.mp g
        have hP : (isWd (tk j') 19 || isWd (tk j') 20) = true := by rw [z]; rfl
        have n20 : ¬ (I' 35 4 = 3 ∧ I' 35 5 = 29) := fun y => by
          rw [e20] at y
          have := (wd_1 (w20.mp y)).2
          have := (wd_1 z).2
          omega
        refine And.intro (fun _ => ?_) (fun h => absurd h (by decide))
        refine rd_isWord l ru_ ta rs I' J _ (n + 1) (by omega) 29 (fun y => absurd y n20) (fun _ => ?_)
        refine And.intro (fun h => absurd rfl h) (fun _ => ?_)
        refine And.intro (fun hw0 => ?_) (fun hw0 => ?_)
        · have e0 : w = 0 := by
            rcases Nat.eq_zero_or_pos w with y | y
            · exact y
            · exact absurd hw0 (nI_ne0 y (by omega))
          refine And.intro (fun y => absurd hw0 y) (fun _ => ?_)
          refine And.intro (fun y => absurd rfl y) (fun _ => ?_)
          subst e0
          obtain ⟨e, ce1, ce2⟩ := ce
          exact go I' c' 1 0 (by omega) (by omega) (fun _ => rfl) ⟨e, ce1, EiB.or0 ce2 z⟩ f at1 h1 (by omega) hP
        · have e1 : w = 1 := by
            rcases Nat.eq_zero_or_pos w with y | y
            · rw [y] at hw0
              exact absurd rfl hw0
            · omega
          have fin : ∀ I5, EM ta I' I5 c' 16 0 → Kk 80 [some (.ref 35), some (.int 1), some (.int (nI 1)), some (.int (nI i)), some (.int (nI 0))] [] (shH ru_ ta rs) I5 J 0 0 := fun I5 em => by
            have e5 := em.at ht at1
            rw [if_pos (show c' < 300 by omega)] at e5
            obtain ⟨e, ce1, ce2⟩ := ce
            exact go I5 (c' + 1) 1 0 (by omega) (by omega) (fun _ => rfl) ⟨e ++ [(407, 0)], ce1.tr (Cem.em em (by omega) (by decide)), EiB.or1 (by rw [e1] at ce2; exact ce2) z⟩ (f.tr (em.fs ht)) e5 (by omega) (by omega) hP
          obtain rfl | rfl | rfl | rfl | rfl := id ht
          all_goals exact rd_emit l ru_ _ rs I' J _ ht (n + 1) (by omega) c' (by omega) 16 0 at1.2.2.2 (fun I5 em => And.intro (fun _ => fin I5 em) (fun y => absurd y hw0))
      · rw [e19] at g
        have n19 : isWd (tk j') 19 = false := bF Iff.rfl (fun y => g (w19.mpr y))
        refine And.intro (fun h => absurd rfl h) (fun _ => ?_)
        refine rd_isWord l ru_ ta rs I' J _ (n + 1) (by omega) 29 (fun g2 => ?_) (fun g2 => ?_)
        · have hg2 := g2
          rw [e20] at g2
          have z := w20.mp g2
          have hP : (isWd (tk j') 19 || isWd (tk j') 20) = true := by rw [z, Bool.or_true]
          refine And.intro (fun h => absurd h (by decide)) (fun _ => ?_)
          refine rd_isWord l ru_ ta rs I' J _ (n + 1) (by omega) 29 (fun _ => ?_) (fun y => absurd hg2 y)
          refine And.intro (fun _ => ?_) (fun h => absurd h (by decide))
          refine And.intro (fun hw0 => ?_) (fun hw0 => ?_)
          · have e1 : w = 1 := by
              rcases Nat.eq_zero_or_pos w with y | y
              · rw [y] at hw0
                exact absurd rfl hw0
              · omega
            subst e1
            obtain ⟨e, ce1, ce2⟩ := ce
            exact go I' c' 1 1 (by omega) (by omega) (fun y => absurd y (by decide)) ⟨e, ce1, EiB.and ce2 z n19⟩ f at1 h1 (by omega) hP
          · have e0 : w = 0 := by
              rcases Nat.eq_zero_or_pos w with y | y
              · exact y
              · exact absurd hw0 (nI_ne0 y (by omega))
            refine And.intro (fun _ => ?_) (fun h => absurd h (by decide))
            subst e0
            obtain ⟨e, ce1, ce2⟩ := ce
            exact go I' c' 0 1 (by omega) (by omega) (fun y => absurd y (by decide)) ⟨e, ce1, EiB.and ce2 z n19⟩ f at1 h1 (by omega) hP
        · rw [e20] at g2
          refine And.intro (fun _ => ?_) (fun h => absurd rfl h)
          exact out (by rw [n19, bF Iff.rfl (fun y => g2 (w20.mpr y))]; rfl)
set_option maxRecDepth 100000 in
set_option maxHeartbeats 1000000 in
theorem rd_either (ht : TSP ta) (hk : TKN tk N) {n : Nat} (hn : 2 ≤ n) (hC : ∀ m, C3 l ru_ ta rs tk N k ws m n) (j c : Nat) (I : XI) (J : XJ) (Rp : XR) (hev : EV I tk N) (hat : ATt ta I j c) (hj : j < N) (hc : c ≤ j) (ha : I 35 2 = nI (naL k)) (hS : ∀ I', EOK ta N tk I j c k ws I' → Rp (some (.int 1)) (shH ru_ ta rs) I' J) (hF : ∀ I', NOR ta tk I (0, [2], k, ws, j) I' → Rp (some (.int 0)) (shH ru_ ta rs) I' J) : xm l (n + 2) 0 0 mX5_either [.ref 35] (shH ru_ ta rs) I J Rp := by
  have hN := hk.2.1
  refine xm_ofK 700 (X := xxX5) (t := tX5_either) (stop := [9, 80, 110]) (ini := false) xx5 pl5 rfl kX5_either (fun h => by cases h) (Nat.le_of_ble_eq_true rfl) (fun Kk hKk => ?_)
  refine rd_ask ht hk hn hC j c I J _ hev hat hj hc ha (fun I2 ok => ?_) (fun I2 no => ?_)
  · obtain ⟨j2, c2, g1, g2, g3, g4, g5, ⟨g6, e, ce1, qa⟩, g7⟩ := ok
    exact hKk 9 [some (.ref 35), some (.int 1), some (.int (nI 0)), some (.int (nI 0)), none] [] (shH ru_ ta rs) I2 J 0 0 (ei_9 ht hk hn hC j c I J Rp hev hc ha hS hF 301 0 700 j2 c2 0 I2 none (by omega) (by omega) (by omega) (by omega) g1 g2 g3 g4 (by omega) g6 ⟨e, ce1, EiR.of qa⟩)
  · exact hKk 9 [some (.ref 35), some (.int 0), some (.int (nI 0)), some (.int (nI 0)), none] [] (shH ru_ ta rs) I2 J 0 0 (ei_9F ht (by omega) I J Rp _ hF I2 698 (nI 0) none 0 no)
end ASK
end
section
-- ===== the reader: clauses =====
theorem vp_96 {x : Int32} (h0 : ¬ x < 0) (h1 : ¬ nI 96 ≤ x) : vp_in x 96 := by
  obtain ⟨j, hj, rfl⟩ := nI_of h0
  refine vp_in_nI ?_ (by omega)
  rcases Nat.lt_or_ge j 96 with z | z
  · exact z
  · exact absurd (nI_le z (by omega)) h1
def opI (I : XI) (ta v : Nat) : XI := uI I (ta + 2) v (I ta 1)
def clsI (I : XI) (ta v : Nat) : XI := uI I (ta + 3) v (I ta 1)
def cl0 (I : XI) (ta i : Nat) : XI := uI (uI I (ta + 2) i 0) (ta + 3) i 0
def clrI (I : XI) (ta : Nat) : XI := cl0 (cl0 (cl0 (cl0 (cl0 (uI (uI I ta 1 0) ta 5 0) ta 0) ta 1) ta 2) ta 3) ta 4
theorem cl0_ne {I : XI} {ta i p : Nat} (h2 : p ≠ ta + 2) (h3 : p ≠ ta + 3) : cl0 I ta i p = I p := by
  unfold cl0
  rw [uI_ne h3, uI_ne h2]
theorem cl0_2 {I : XI} {ta i w : Nat} : cl0 I ta i (ta + 2) w = if w = i then 0 else I (ta + 2) w := by
  unfold cl0
  rw [uI_ne (by omega), uI_atC]
theorem cl0_3 {I : XI} {ta i w : Nat} : cl0 I ta i (ta + 3) w = if w = i then 0 else I (ta + 3) w := by
  unfold cl0
  rw [uI_atC, uI_ne (by omega)]
theorem clrI_ne {I : XI} {ta p : Nat} (h0 : p ≠ ta) (h2 : p ≠ ta + 2) (h3 : p ≠ ta + 3) : clrI I ta p = I p := by
  unfold clrI
  rw [cl0_ne h2 h3, cl0_ne h2 h3, cl0_ne h2 h3, cl0_ne h2 h3, cl0_ne h2 h3, uI_ne h0, uI_ne h0]
theorem clrI_ta {I : XI} {ta : Nat} : clrI I ta ta 1 = 0 ∧ clrI I ta ta 5 = 0 := by
  unfold clrI
  rw [cl0_ne (by omega) (by omega), cl0_ne (by omega) (by omega), cl0_ne (by omega) (by omega), cl0_ne (by omega) (by omega), cl0_ne (by omega) (by omega)]
  refine ⟨?_, ?_⟩
  · rw [uI_atC, if_neg (by decide), uI_atC, if_pos rfl]
  · rw [uI_atC, if_pos rfl]
theorem clrI_law {I : XI} {ta w : Nat} (hw : w < 5) : clrI I ta (ta + 2) w = 0 ∧ clrI I ta (ta + 3) w = 0 := by
  unfold clrI
  rw [cl0_2, cl0_2, cl0_2, cl0_2, cl0_2, cl0_3, cl0_3, cl0_3, cl0_3, cl0_3]
  have y : w = 0 ∨ w = 1 ∨ w = 2 ∨ w = 3 ∨ w = 4 := by omega
  rcases y with rfl | rfl | rfl | rfl | rfl <;> exact ⟨rfl, rfl⟩
/-- a clause more: its word; those ahead of it stay -/
def AC4 (ta : Nat) (I I' : XI) (i : Nat) (v : Int32) : Prop := I' (ta + 4) (4 * i) = v ∧ ∀ x, x < 4 * i → I' (ta + 4) x = I (ta + 4) x
section TXT
variable (l : Launch) (ru_ ta : Nat) (rs : List XO) (I : XI) (J : XJ) (Rp : XR)
set_option maxRecDepth 100000 in
set_option maxHeartbeats 1000000 in
theorem rd_clear (ht : TSP ta) (n : Nat) (hn : 1 ≤ n) (hR : Rp none (shH ru_ ta rs) (clrI I ta) J) : xm l n 0 0 mX8_clear [.ref ta] (shH ru_ ta rs) I J Rp := by
  obtain ⟨n, rfl⟩ : ∃ n', n = n' + 1 := ⟨n - 1, by omega⟩
  obtain rfl | rfl | rfl | rfl | rfl := id ht
  all_goals
    refine xm_ofK 0 (X := xxX8) (t := tX8_clear) (stop := []) (ini := false) xx8 pl8 rfl kX8_clear (fun h => by cases h) (Nat.le_of_ble_eq_true rfl) (fun K hK => ?_)
    refine And.intro (fun h => absurd h (by decide)) (fun _ => And.intro (vp_b (by decide)) (And.intro (vp_b (by decide)) ?_))
    refine And.intro (fun h => absurd h (by decide)) (fun _ => And.intro (vp_b (by decide)) (And.intro (vp_b (by decide)) ?_))
    refine And.intro (fun h => absurd h (by decide)) (fun _ => And.intro (vp_b (by decide)) (And.intro (vp_b (by decide)) ?_))
    refine And.intro (fun h => absurd h (by decide)) (fun _ => And.intro (vp_b (by decide)) (And.intro (vp_b (by decide)) ?_))
    refine And.intro (fun h => absurd h (by decide)) (fun _ => And.intro (vp_b (by decide)) (And.intro (vp_b (by decide)) ?_))
    exact And.intro (fun _ => hR) (fun h => absurd (by decide) h)
set_option maxRecDepth 100000 in
theorem rd_hasLaw (ht : TSP ta) (n : Nat) (hn : 1 ≤ n) (v : Nat) (hv : v < 100) (h1 : v < 5 → I (ta + 2) v < I (ta + 3) v → Rp (some (.int 1)) (shH ru_ ta rs) I J) (h0 : ¬ (v < 5 ∧ I (ta + 2) v < I (ta + 3) v) → Rp (some (.int 0)) (shH ru_ ta rs) I J) : xm l n 0 0 mX8_hasLaw [.ref ta, .int (nI v)] (shH ru_ ta rs) I J Rp := by
  obtain ⟨n, rfl⟩ : ∃ n', n = n' + 1 := ⟨n - 1, by omega⟩
  have e : (nI v).toNatClampNeg = v := nI_clamp (by omega)
  rcases Nat.lt_or_ge v 5 with c | c
  · have hp : vp_in (nI v) 5 := vp_in_nI c (by omega)
    have kA : I (ta + 3) (nI v).toNatClampNeg ≤ I (ta + 2) (nI v).toNatClampNeg → ((0 : Int32) = 0 ∨ (0 : Int32) = 1) ∧ Rp (some (.int 0)) (shH ru_ ta rs) I J := fun h => ⟨Or.inl rfl, h0 (fun z => by
      rw [e] at h
      exact absurd z.2 (Int32.not_lt.mpr h))⟩
    have kB : ¬ I (ta + 3) (nI v).toNatClampNeg ≤ I (ta + 2) (nI v).toNatClampNeg → ((1 : Int32) = 0 ∨ (1 : Int32) = 1) ∧ Rp (some (.int 1)) (shH ru_ ta rs) I J := fun h => ⟨Or.inr rfl, h1 c (by
      rw [e] at h
      exact Int32.not_le.mp h)⟩
    obtain rfl | rfl | rfl | rfl | rfl := id ht
    all_goals
      refine xm_ofK 0 (X := xxX8) (t := tX8_hasLaw) (stop := []) (ini := false) xx8 pl8 rfl kX8_hasLaw (fun h => by cases h) (Nat.le_of_ble_eq_true rfl) (fun K hK => ?_)
      refine And.intro (fun h => absurd h (nI_pos (by omega))) (fun _ => ?_)
      refine And.intro (fun h => absurd (show nI 5 ≤ nI v from h) (nI_ge c (by omega))) (fun _ => And.intro hp (And.intro hp ?_))
      exact And.intro (fun h => kA h) (fun h => kB h)
  · have kA : ((0 : Int32) = 0 ∨ (0 : Int32) = 1) ∧ Rp (some (.int 0)) (shH ru_ ta rs) I J := ⟨Or.inl rfl, h0 (fun z => by omega)⟩
    obtain rfl | rfl | rfl | rfl | rfl := id ht
    all_goals
      refine xm_ofK 0 (X := xxX8) (t := tX8_hasLaw) (stop := []) (ini := false) xx8 pl8 rfl kX8_hasLaw (fun h => by cases h) (Nat.le_of_ble_eq_true rfl) (fun K hK => ?_)
      refine And.intro (fun h => absurd h (nI_pos (by omega))) (fun _ => ?_)
      exact And.intro (fun _ => kA) (fun h => absurd (show nI 5 ≤ nI v from nI_le c (by omega)) h)
set_option maxRecDepth 100000 in
theorem rd_openLaw (ht : TSP ta) (n : Nat) (hn : 1 ≤ n) (v : Nat) (c : v < 5) (hR : Rp none (shH ru_ ta rs) (opI I ta v) J) : xm l n 0 0 mX8_openLaw [.ref ta, .int (nI v)] (shH ru_ ta rs) I J Rp := by
  obtain ⟨n, rfl⟩ : ∃ n', n = n' + 1 := ⟨n - 1, by omega⟩
  have hp : vp_in (nI v) 5 := vp_in_nI c (by omega)
  have key : Rp none (shH ru_ ta rs) (uI I (ta + 2) (nI v).toNatClampNeg (I ta 1)) J := by
    rw [nI_clamp (by omega)]
    exact hR
  obtain rfl | rfl | rfl | rfl | rfl := id ht
  all_goals
    refine xm_ofK 0 (X := xxX8) (t := tX8_openLaw) (stop := []) (ini := false) xx8 pl8 rfl kX8_openLaw (fun h => by cases h) (Nat.le_of_ble_eq_true rfl) (fun K hK => ?_)
    refine And.intro (fun h => absurd h (nI_pos (by omega))) (fun _ => ?_)
    exact And.intro (fun h => absurd (show nI 5 ≤ nI v from h) (nI_ge c (by omega))) (fun _ => And.intro hp key)
set_option maxRecDepth 100000 in
theorem rd_closeLaw (ht : TSP ta) (n : Nat) (hn : 1 ≤ n) (v : Nat) (c : v < 5) (hR : Rp none (shH ru_ ta rs) (clsI I ta v) J) : xm l n 0 0 mX8_closeLaw [.ref ta, .int (nI v)] (shH ru_ ta rs) I J Rp := by
  obtain ⟨n, rfl⟩ : ∃ n', n = n' + 1 := ⟨n - 1, by omega⟩
  have hp : vp_in (nI v) 5 := vp_in_nI c (by omega)
  have key : Rp none (shH ru_ ta rs) (uI I (ta + 3) (nI v).toNatClampNeg (I ta 1)) J := by
    rw [nI_clamp (by omega)]
    exact hR
  obtain rfl | rfl | rfl | rfl | rfl := id ht
  all_goals
    refine xm_ofK 0 (X := xxX8) (t := tX8_closeLaw) (stop := []) (ini := false) xx8 pl8 rfl kX8_closeLaw (fun h => by cases h) (Nat.le_of_ble_eq_true rfl) (fun K hK => ?_)
    refine And.intro (fun h => absurd h (nI_pos (by omega))) (fun _ => ?_)
    exact And.intro (fun h => absurd (show nI 5 ≤ nI v from h) (nI_ge c (by omega))) (fun _ => And.intro hp key)
set_option maxRecDepth 100000 in
set_option maxHeartbeats 1000000 in
theorem rd_addC_loop (ht : TSP ta) (n : Nat) (v : Int32) (i : Nat) (hi : i < 24) (hR : ∀ I', (∀ p, p ≠ ta → p ≠ ta + 4 → I' p = I p) → (∀ k, k ≠ 5 → I' ta k = I ta k) → I' ta 5 = I ta 5 + 1 → AC4 ta I I' i v → Rp none (shH ru_ ta rs) I' J) : ∀ (m k S : Nat) (I' : XI), k + m = 4 → 1 ≤ k → m < S → (∀ p, p ≠ ta + 4 → I' p = I p) → AC4 ta I I' i v → xrun xxX8 none false false (shH ru_ ta rs).length 0 0 none l n tX8_addClause [31] Rp S 31 [some (.ref ta), some (.int v), some (.int (nI (4 * i))), some (.int (nI k))] [] (shH ru_ ta rs) I' J 0 0 := by
  intro m
  induction m with
  | zero =>
    intro k S I' hk hk1 hS f ac
    obtain ⟨S, rfl⟩ : ∃ n', S = n' + 1 := ⟨S - 1, by omega⟩
    have ek : k = 4 := by omega
    subst ek
    have fin : Rp none (shH ru_ ta rs) (uI I' ta 5 (I' ta 5 + 1)) J := by
      refine hR _ (fun p h0 h4 => by rw [uI_ne h0]; exact f p h4) (fun k hk => by rw [uI_atC, if_neg hk, f ta (by omega)]) (by rw [uI_atC, if_pos rfl, f ta (by omega)]) (by unfold AC4; rw [uI_ne (by omega)]; exact ac)
    obtain rfl | rfl | rfl | rfl | rfl := id ht
    all_goals
      refine xrun_step fun K hK => ?_
      exact And.intro (fun _ => fin) (fun h => absurd (by decide) h)
  | succ m ih =>
    intro k S I' hk hk1 hS f ac
    obtain ⟨S, rfl⟩ : ∃ n', S = n' + 1 := ⟨S - 1, by omega⟩
    have vp : vp_in (nI (4 * i) + nI k) 96 := by rw [nI_add]; exact vp_in_nI (by omega) (by omega)
    have nx : xrun xxX8 none false false (shH ru_ ta rs).length 0 0 none l n tX8_addClause [31] Rp S 31 [some (.ref ta), some (.int v), some (.int (nI (4 * i))), some (.int (nI k + 1))] [] (shH ru_ ta rs) (uI I' (ta + 4) (nI (4 * i) + nI k).toNatClampNeg 0) J 0 0 := by
      rw [nI_1, nI_add, nI_clamp (by omega)]
      refine ih (k + 1) S _ (by omega) (by omega) (by omega) (fun p hp => by rw [uI_ne hp]; exact f p hp) ⟨?_, fun x hx => ?_⟩
      · rw [uI_atC, if_neg (by omega)]
        exact ac.1
      · rw [uI_atC, if_neg (by omega)]
        exact ac.2 x hx
    have lt4 : ¬ nI 4 ≤ nI k := nI_ge (by omega) (by omega)
    obtain rfl | rfl | rfl | rfl | rfl := id ht
    all_goals
      refine xrun_step fun K hK => ?_
      refine And.intro (fun h => absurd h lt4) (fun _ => And.intro vp ?_)
      exact hK 31 [some (.ref _), some (.int v), some (.int (nI (4 * i))), some (.int (nI k + 1))] [] (shH ru_ _ rs) (uI I' _ (nI (4 * i) + nI k).toNatClampNeg 0) J 0 0 nx
set_option maxRecDepth 100000 in
set_option maxHeartbeats 1000000 in
theorem rd_addClause (ht : TSP ta) (n : Nat) (hn : 1 ≤ n) (v : Int32) (i : Nat) (hi : i < 24) (e5 : I ta 5 = nI i) (hR : ∀ I', (∀ p, p ≠ ta → p ≠ ta + 4 → I' p = I p) → (∀ k, k ≠ 5 → I' ta k = I ta k) → I' ta 5 = I ta 5 + 1 → AC4 ta I I' i v → Rp none (shH ru_ ta rs) I' J) : xm l n 0 0 mX8_addClause [.ref ta, .int v] (shH ru_ ta rs) I J Rp := by
  obtain ⟨n, rfl⟩ : ∃ n', n = n' + 1 := ⟨n - 1, by omega⟩
  have e4 : I ta 5 * nI 4 = nI (4 * i) := by rw [e5, nI_mul, Nat.mul_comm]
  have q0 : ¬ I ta 5 * nI 4 < 0 := by rw [e4]; exact nI_pos (by omega)
  have q1 : ¬ nI 96 < I ta 5 * nI 4 + nI 4 := by rw [e4, nI_add]; exact nI_nlt (by omega) (by omega)
  have v0 : vp_in (I ta 5 * nI 4) 96 := by rw [e4]; exact vp_in_nI (by omega) (by omega)
  have nx : xrun xxX8 none false false (shH ru_ ta rs).length 0 0 none l n tX8_addClause [31] Rp 9 31 [some (.ref ta), some (.int v), some (.int (I ta 5 * nI 4)), some (.int (nI 1))] [] (shH ru_ ta rs) (uI I (ta + 4) (I ta 5 * nI 4).toNatClampNeg v) J 0 0 := by
    rw [e4, nI_clamp (by omega)]
    refine rd_addC_loop l ru_ ta rs I J Rp ht n v i hi hR 3 1 9 _ (by omega) (by omega) (by omega) (fun p hp => uI_ne hp) ⟨?_, fun x hx => ?_⟩
    · rw [uI_atC, if_pos rfl]
    · rw [uI_atC, if_neg (by omega)]
  obtain rfl | rfl | rfl | rfl | rfl := id ht
  all_goals
    refine xm_ofK 9 (X := xxX8) (t := tX8_addClause) (stop := [31]) (ini := false) xx8 pl8 rfl kX8_addClause (fun h => by cases h) (Nat.le_of_ble_eq_true rfl) (fun K hK => ?_)
    refine And.intro (fun h => absurd h q0) (fun _ => And.intro (fun h => absurd h q1) (fun _ => And.intro v0 ?_))
    exact hK 31 _ _ _ _ _ _ _ nx
set_option maxRecDepth 100000 in
set_option maxHeartbeats 1000000 in
theorem rd_setNumber (ht : TSP ta) (n : Nat) (hn : 1 ≤ n) (q i : Nat) (hq : q < 24) (hi : i < 3) (e5 : I ta 5 = nI (q + 1)) (x : Int32) (hR : ∀ I', I' = uI I (ta + 4) (4 * q + 1 + i) x → Rp none (shH ru_ ta rs) I' J) : xm l n 0 0 mX8_setNumber [.ref ta, .int (nI i), .int x] (shH ru_ ta rs) I J Rp := by
  obtain ⟨n, rfl⟩ : ∃ n', n = n' + 1 := ⟨n - 1, by omega⟩
  have e : (I ta 5 - nI 1) * nI 4 + nI 1 + nI i = nI (4 * q + 1 + i) := by
    rw [e5, show nI (q + 1) - nI 1 = nI q from nI_pred q, nI_mul, nI_add, nI_add]
    congr 1
    omega
  have k1 : Rp none (shH ru_ ta rs) (uI I (ta + 4) ((I ta 5 - nI 1) * nI 4 + nI 1 + nI i).toNatClampNeg x) J := by
    rw [e, nI_clamp (by omega)]
    exact hR _ rfl
  have q0 : ¬ (I ta 5 - nI 1) * nI 4 + nI 1 + nI i < 0 := by rw [e]; exact nI_pos (by omega)
  have q1 : ¬ nI 96 ≤ (I ta 5 - nI 1) * nI 4 + nI 1 + nI i := by rw [e]; exact nI_ge (by omega) (by omega)
  have v0 : vp_in ((I ta 5 - nI 1) * nI 4 + nI 1 + nI i) 96 := by rw [e]; exact vp_in_nI (by omega) (by omega)
  have i0 : ¬ nI i < 0 := nI_pos (by omega)
  have i1 : ¬ nI 3 ≤ nI i := nI_ge hi (by omega)
  obtain rfl | rfl | rfl | rfl | rfl := id ht
  all_goals
    refine xm_ofK 0 (X := xxX8) (t := tX8_setNumber) (stop := []) (ini := false) xx8 pl8 rfl kX8_setNumber (fun h => by cases h) (Nat.le_of_ble_eq_true rfl) (fun K hK => ?_)
    refine And.intro (fun h => absurd h i0) (fun _ => And.intro (fun h => absurd h i1) (fun _ => And.intro (fun h => absurd h q0) (fun h => And.intro (fun h => absurd h q1) (fun g => ?_))))
    exact And.intro v0 k1
end TXT
-- deeds
def FL : List Int32 := ((xlk xkA 900005).getD (0, 0, [])).2.2
def deT (v i : Nat) : Bool := match (fmS v)[i]? with
  | some q => decide (FL.getD (9 * (v - 5) + 3 * i) 0 = nI q.1) && decide (FL.getD (9 * (v - 5) + 3 * i + 1) 0 = nI q.2.1) && (match Nat.beq q.2.2 99 with
    | true => decide (FL.getD (9 * (v - 5) + 3 * i + 2) 0 = 0)
    | false => decide (FL.getD (9 * (v - 5) + 3 * i + 2) 0 = nI (cw q.2.2)) && Nat.blt 0 (cw q.2.2) && Nat.blt q.2.2 32 && Nat.blt (i + 1) (fmS v).length) && decide ((fmS v).drop i = q :: (fmS v).drop (i + 1)) && Nat.ble q.1 1000 && Nat.ble q.2.1 1000
  | none => true
theorem deT_all : ((List.range 9).all fun v => (List.range 3).all fun i => deT (v + 5) i) = true := by decide +kernel
theorem deT_len : ((List.range 9).all fun v => Nat.blt 0 (fmS (v + 5)).length && Nat.ble (fmS (v + 5)).length 3) = true := by decide +kernel
def FD (ta : Nat) (I I' : XI) : Prop := (∀ p, p ≠ 35 → p ≠ ta + 4 → I' p = I p) ∧ I' 35 6 = I 35 6
theorem FD.tr {ta : Nat} {I I' I'' : XI} (h : FD ta I I') (g : FD ta I' I'') : FD ta I I'' := ⟨fun p a b => (g.1 p a b).trans (h.1 p a b), g.2.trans h.2⟩
theorem FD.ev {ta : Nat} {I I' : XI} {tk : Nat → TK} {N : Nat} (ht : TSP ta) (f : FD ta I I') (h : EV I tk N) : EV I' tk N := by
  unfold TSP at ht
  unfold EV
  rw [f.1 30 (by decide) (by omega), f.1 32 (by decide) (by omega), f.1 33 (by decide) (by omega), f.1 34 (by decide) (by omega)]
  exact h
theorem FD.av {ta : Nat} {I : XI} {i : Nat} : FD ta I (avI I i) := by
  refine ⟨fun p a _ => ?_, ?_⟩
  · unfold avI
    rw [uI_ne a, uI_ne a, uI_ne a]
  · rfl
theorem FD.fi {ta : Nat} {I : XI} {f j : Nat} : FD ta I (FI I f j) := by
  refine ⟨fun p a _ => ?_, ?_⟩
  · unfold FI
    rw [uI_ne a, uI_ne a]
  · rfl
theorem avI_r4 {ta i : Nat} {I : XI} (ht : TSP ta) : avI I i (ta + 4) = I (ta + 4) := by
  unfold TSP at ht
  unfold avI
  rw [uI_ne (by omega), uI_ne (by omega), uI_ne (by omega)]
theorem avI_78 {I : XI} {i : Nat} : avI I i 35 7 = I 35 7 ∧ avI I i 35 8 = I 35 8 := ⟨rfl, rfl⟩
/-- the numbers of a deed so far; what is ahead stays -/
def NB (ta q : Nat) (tk : Nat → TK) (v j0 : Nat) (I I' : XI) (i j : Nat) : Prop := (∀ z, z < 4 * q + 1 → I' (ta + 4) z = I (ta + 4) z) ∧ ∃ pre : List Nat, pre.length = i ∧ deN tk (fmS v) j0 = pre ++ deN tk ((fmS v).drop i) j ∧ ∀ x, x < i → I' (ta + 4) (4 * q + 1 + x) = nI (pre.getD x 0)
def ND (ta q : Nat) (dn : List Nat) (I I' : XI) : Prop := (∀ z, z < 4 * q + 1 → I' (ta + 4) z = I (ta + 4) z) ∧ ∀ x, x < dn.length → I' (ta + 4) (4 * q + 1 + x) = nI (dn.getD x 0)
theorem NB.set {ta q : Nat} {tk : Nat → TK} {v j0 : Nat} {I I' I1 : XI} {i j : Nat} {x : Int32} (h : NB ta q tk v j0 I I' i j) (e : I1 = uI I' (ta + 4) (4 * q + 1 + i) x) : NB ta q tk v j0 I I1 i j ∧ I1 (ta + 4) (4 * q + 1 + i) = x := by
  obtain ⟨h1, pre, h2, h3, h4⟩ := h
  refine ⟨⟨fun z hz => ?_, pre, h2, h3, fun y hy => ?_⟩, ?_⟩
  · rw [e, uI_atC, if_neg (by omega)]
    exact h1 z hz
  · rw [e, uI_atC, if_neg (by omega)]
    exact h4 y hy
  · rw [e, uI_atC, if_pos rfl]
theorem getD_app {a b : List Nat} {x : Nat} (h : x < a.length) : (a ++ b).getD x 0 = a.getD x 0 := by
  rw [List.getD_eq_getElem?_getD, List.getD_eq_getElem?_getD, List.getElem?_append_left h]
theorem getD_last {a : List Nat} {v : Nat} : (a ++ [v]).getD a.length 0 = v := by
  rw [List.getD_eq_getElem?_getD, List.getElem?_append_right (Nat.le_refl _)]
  simp
theorem NB.next {ta q : Nat} {tk : Nat → TK} {v j0 : Nat} {I I' I1 I3 : XI} {i j lo hi w : Nat} (h : NB ta q tk v j0 I I1 i j) (hd : (fmS v).drop i = (lo, hi, w) :: (fmS v).drop (i + 1)) (hw : w ≠ 99) (hx : I1 (ta + 4) (4 * q + 1 + i) = nI (tk j).2.1) (e : I3 (ta + 4) = I1 (ta + 4)) : NB ta q tk v j0 I I3 (i + 1) (j + 2) := by
  obtain ⟨h1, pre, h2, h3, h4⟩ := h
  refine ⟨fun z hz => by rw [e]; exact h1 z hz, pre ++ [(tk j).2.1], by simp [h2], ?_, fun x hx' => ?_⟩
  · rw [h3, hd, deN, beqf hw, List.append_assoc]
    rfl
  · rw [e]
    rcases Nat.lt_or_ge x i with c | c
    · rw [getD_app (by omega)]
      exact h4 x c
    · have ex : x = i := by omega
      rw [ex, hx]
      congr 1
      rw [← h2]
      exact getD_last.symm
theorem NB.last {ta q : Nat} {tk : Nat → TK} {v j0 : Nat} {I I1 I3 : XI} {i j lo hi : Nat} (h : NB ta q tk v j0 I I1 i j) (hd : (fmS v).drop i = (lo, hi, 99) :: (fmS v).drop (i + 1)) (hx : I1 (ta + 4) (4 * q + 1 + i) = nI (tk j).2.1) (e : I3 (ta + 4) = I1 (ta + 4)) : ND ta q (deN tk (fmS v) j0) I I3 := by
  obtain ⟨h1, pre, h2, h3, h4⟩ := h
  have hp : deN tk (fmS v) j0 = pre ++ [(tk j).2.1] := by
    rw [h3, hd, deN]
  rw [hp]
  refine ⟨fun z hz => by rw [e]; exact h1 z hz, fun x hx' => ?_⟩
  rw [e]
  rcases Nat.lt_or_ge x i with c | c
  · rw [getD_app (by omega)]
    exact h4 x c
  · have ex : x = i := by
      simp at hx'
      omega
    rw [ex, hx]
    congr 1
    rw [← h2]
    exact getD_last.symm
section DEED
variable {l : Launch} {ru_ ta : Nat} {rs : List XO} {tk : Nat → TK} {N : Nat}
abbrev der (l : Launch) (ru_ ta : Nat) (rs : List XO) (J : XJ) (Rp : XR) (n S pc : Nat) (lc : List (Option Value)) (I : XI) : Prop := xrun xxX5 (some .boolean) false false (shH ru_ ta rs).length 0 0 none l n tX5_deed [2] Rp S pc lc [] (shH ru_ ta rs) I J 0 0
set_option maxRecDepth 100000 in
set_option maxHeartbeats 2000000 in
theorem rd_deed_loop (ht : TSP ta) (hk : TKN tk N) {n : Nat} (hn : 2 ≤ n) (v j0 c : Nat) (hv : 5 ≤ v ∧ v ≤ 13) (I : XI) (J : XJ) (Rp : XR) (hev : EV I tk N) (q : Nat) (hq24 : q < 24) (e5 : I ta 5 = nI (q + 1)) (hS : ∀ (I' : XI) (j' : Nat), FD ta I I' → (I' 35 7 = I 35 7 ∧ I' 35 8 = I 35 8) → ATt ta I' j' c → j' < N → j0 ≤ j' → deS tk (fmS v) j0 = .inl j' → ND ta q (deN tk (fmS v) j0) I I' → Rp (some (.int 1)) (shH ru_ ta rs) I' J) (hF : ∀ (I' : XI) (f p : Nat), FD ta I I' → I' 35 7 = nI f → I' 35 8 = nI p → 1 ≤ f → deS tk (fmS v) j0 = .inr (f, p) → Rp (some (.int 0)) (shH ru_ ta rs) I' J) : ∀ (m i j S : Nat) (I' : XI) (o3 : Option Value), i + m = 3 → i < (fmS v).length → m < S → FD ta I I' → (I' 35 7 = I 35 7 ∧ I' 35 8 = I 35 8) → ATt ta I' j c → j < N → j0 ≤ j → deS tk (fmS v) j0 = deS tk ((fmS v).drop i) j → NB ta q tk v j0 I I' i j → der l ru_ ta rs J Rp n S 2 [some (.ref 35), some (.int (nI v)), some (.int (nI i)), o3] I' := by
  have hN := hk.2.1
  intro m
  induction m with
  | zero =>
    intro i j S I' o3 hi hl
    have y := List.all_eq_true.mp deT_len (v - 5) (List.mem_range.mpr (by omega))
    rw [show v - 5 + 5 = v by omega, Bool.and_eq_true] at y
    have := Nat.le_of_ble_eq_true y.2
    omega
  | succ m ih =>
    intro i j S I' o3 hi hl hS' f e78 at1 hj hjj hq nb
    obtain ⟨S, rfl⟩ : ∃ n', S = n' + 1 := ⟨S - 1, by omega⟩
    obtain ⟨qq, hqi⟩ : ∃ qq, (fmS v)[i]? = some qq := ⟨(fmS v)[i], by simp [hl]⟩
    obtain ⟨lo, hi_, w⟩ := qq
    have y := List.all_eq_true.mp (List.all_eq_true.mp deT_all (v - 5) (List.mem_range.mpr (by omega))) i (List.mem_range.mpr (by omega))
    rw [show v - 5 + 5 = v by omega] at y
    unfold deT at y
    rw [hqi] at y
    dsimp only at y
    rw [Bool.and_eq_true, Bool.and_eq_true, Bool.and_eq_true, Bool.and_eq_true, Bool.and_eq_true] at y
    obtain ⟨⟨⟨⟨⟨y1, y2⟩, y3⟩, y4⟩, y5⟩, y6⟩ := y
    have y1 := of_decide_eq_true y1
    have y2 := of_decide_eq_true y2
    have y4 := of_decide_eq_true y4
    have y5 := Nat.le_of_ble_eq_true y5
    have y6 := Nat.le_of_ble_eq_true y6
    rw [y4] at hq
    have ef : (nI v - nI 5) * nI 9 + nI i * nI 3 = nI (9 * (v - 5) + 3 * i) := by
      rw [nI_subI hv.1 (by omega), nI_mul, nI_mul, nI_add]
      congr 1
      omega
    have q0 : ¬ (nI v - nI 5) * nI 9 + nI i * nI 3 < 0 := by rw [ef]; exact nI_pos (by omega)
    have q1 : (nI v - nI 5) * nI 9 + nI i * nI 3 + nI 2 < nI 81 := by rw [ef, nI_add]; exact nI_lt (by omega) (by omega)
    have p0 : vp_in ((nI v - nI 5) * nI 9 + nI i * nI 3) 81 := by rw [ef]; exact vp_in_nI (by omega) (by omega)
    have p1 : vp_in ((nI v - nI 5) * nI 9 + nI i * nI 3 + nI 1) 81 := by rw [ef, nI_add]; exact vp_in_nI (by omega) (by omega)
    have p2 : vp_in ((nI v - nI 5) * nI 9 + nI i * nI 3 + nI 2) 81 := by rw [ef, nI_add]; exact vp_in_nI (by omega) (by omega)
    have z0 : FL.getD ((nI v - nI 5) * nI 9 + nI i * nI 3).toNatClampNeg 0 = nI lo := by rw [ef, nI_clamp (by omega)]; exact y1
    have z1 : FL.getD ((nI v - nI 5) * nI 9 + nI i * nI 3 + nI 1).toNatClampNeg 0 = nI hi_ := by rw [ef, nI_add, nI_clamp (by omega)]; exact y2
    have z2 : FL.getD ((nI v - nI 5) * nI 9 + nI i * nI 3 + nI 2).toNatClampNeg 0 = FL.getD (9 * (v - 5) + 3 * i + 2) 0 := by rw [ef, nI_add, nI_clamp (by omega)]
    -- behind setNumber
    have main : ∀ (I1 : XI), I1 = uI I' (ta + 4) (4 * q + 1 + i) (I' 35 5) → FD ta I I1 ∧ (I1 35 7 = I 35 7 ∧ I1 35 8 = I 35 8) ∧ ATt ta I1 j c ∧ EV I1 tk N ∧ (NB ta q tk v j0 I I1 i j ∧ ((tk j).1 = 2 → I1 (ta + 4) (4 * q + 1 + i) = nI (tk j).2.1)) := fun I1 hI1 => by
      have ht2 := ht
      unfold TSP at ht2
      have h1 : ∀ p, p ≠ ta + 4 → I1 p = I' p := fun p hp => by rw [hI1, uI_ne hp]
      have e35 : I1 35 = I' 35 := h1 35 (by omega)
      have f1 : FD ta I I1 := f.tr ⟨fun p _ b => h1 p b, by rw [e35]⟩
      have nb1 := nb.set hI1
      refine ⟨f1, by rw [e35]; exact e78, ?_, f1.ev ht hev, nb1.1, fun g => by rw [nb1.2]; exact tkC_val (at1.tk (f.ev ht hev) hj) (hk.2.2.2.2 j) g⟩
      unfold ATt
      rw [e35, h1 32 (by omega), h1 33 (by omega), h1 ta (by omega)]
      exact at1
    have e5' : I' ta 5 = nI (q + 1) := by
      have ht2 := ht
      unfold TSP at ht2
      rw [f.1 ta (by omega) (by omega)]
      exact e5
    refine xrun_step fun Kk hKk => ?_
    refine And.intro (fun h => absurd (show nI 3 ≤ nI i from h) (nI_ge (by omega) (by omega))) (fun _ => ?_)
    refine And.intro (fun h => absurd h q0) (fun _ => ?_)
    refine And.intro (fun _ => ?_) (fun h => absurd q1 h)
    have num : ∀ (I1 : XI) (Rq : XR), FD ta I I1 → (I1 35 7 = I 35 7 ∧ I1 35 8 = I 35 8) → ATt ta I1 j c → EV I1 tk N → ((tk j).1 = 2 → lo ≤ (tk j).2.1 ∧ (tk j).2.1 ≤ hi_ → j + 1 < N → FD ta I (avI I1 (j + 1)) → ATt ta (avI I1 (j + 1)) (j + 1) c → Rq (some (.int 1)) (shH ru_ ta rs) (avI I1 (j + 1)) J) → (∀ f', 1 ≤ f' → deS tk (fmS v) j0 = .inr (ft tk f' j) → Rq (some (.int 0)) (shH ru_ ta rs) (FI I1 f' j) J) → xm l n 0 0 mX5_number [.ref 35, .int (nI lo), .int (nI hi_)] (shH ru_ ta rs) I1 J Rq := fun I1 Rq f1 _ at2 ev1 hA hB => by
      have tkj := at2.tk ev1 hj
      have okj := hk.2.2.2.2 j
      have hnum := tkC_num tkj okj
      have nx : I1 35 4 = 2 → j + 1 < N := fun g => hk.nx hj (by rw [hnum.mp g]; decide)
      refine rd_number l ru_ ta rs I1 J _ n hn (nI lo) (nI hi_) j N hN hj at2.1 ev1.1 nx (fun g1 g2 g3 => ?_) (fun g1 g2 => ?_) (fun g => ?_)
      · have qv := tkC_val tkj okj (hnum.mp g1)
        have hv' := okj.2.2.1 (hnum.mp g1)
        rw [qv] at g2 g3
        rw [nI_ltI (by omega) (by omega)] at g2
        rw [nI_leI (by omega) (by omega)] at g3
        exact hA (hnum.mp g1) ⟨by omega, g3⟩ (nx g1) (f1.tr FD.av) (avI_at ht at2.2.2.2)
      · have qv := tkC_val tkj okj (hnum.mp g1)
        have hv' := okj.2.2.1 (hnum.mp g1)
        refine hB 2 (by decide) (hq.trans (de_out (hnum.mp g1) (fun z => ?_)))
        rw [qv] at g2
        rw [nI_ltI (by omega) (by omega), nI_leI (by omega) (by omega)] at g2
        omega
      · exact hB 1 (by decide) (hq.trans (de_no (fun z => g (hnum.mpr z))))
    have k0 : ∀ (I1 : XI), ATt ta I1 j c → EV I1 tk N → FD ta I I1 → ∀ f', 1 ≤ f' → deS tk (fmS v) j0 = .inr (ft tk f' j) → ((0 : Int32) = 0 ∨ (0 : Int32) = 1) ∧ Rp (some (.int 0)) (shH ru_ ta rs) (FI I1 f' j) J := fun I1 _ ev1 f1 f' h1 h2 => ⟨Or.inl rfl, hF _ f' _ (f1.tr FD.fi) rfl (ev1.2 j hj).2 h1 h2⟩
    cases hw99 : Nat.beq w 99 with
    | true =>
      have ew : w = 99 := Nat.eq_of_beq_eq_true hw99
      subst ew
      rw [hw99] at y3
      have y3 : FL.getD (9 * (v - 5) + 3 * i + 2) 0 = 0 := of_decide_eq_true y3
      rw [y3] at z2
      have fin : ∀ (I1 : XI), NB ta q tk v j0 I I1 i j → ((tk j).1 = 2 → I1 (ta + 4) (4 * q + 1 + i) = nI (tk j).2.1) → FD ta I I1 → (I1 35 7 = I 35 7 ∧ I1 35 8 = I 35 8) → (tk j).1 = 2 → lo ≤ (tk j).2.1 ∧ (tk j).2.1 ≤ hi_ → j + 1 < N → FD ta I (avI I1 (j + 1)) → ATt ta (avI I1 (j + 1)) (j + 1) c → ((1 : Int32) = 0 ∨ (1 : Int32) = 1) ∧ Rp (some (.int 1)) (shH ru_ ta rs) (avI I1 (j + 1)) J := fun I1 nb1 hx1 _ e1 g1 g2 g3 g4 g5 => ⟨Or.inr rfl, hS _ (j + 1) g4 e1 g5 g3 (by omega) (hq.trans (de_last g1 g2)) (nb1.last y4 (hx1 g1) (avI_r4 ht))⟩
      obtain rfl | rfl | rfl | rfl | rfl := id ht
      all_goals
        refine rd_setNumber l ru_ _ rs I' J _ ht n (by omega) q i hq24 (by omega) e5' _ (fun I1 h1 => ?_)
        obtain ⟨f1, e1, at2, ev1, nb1, hx1⟩ := main I1 h1
        refine And.intro p0 (And.intro p1 ?_)
        refine (show xm l n 0 0 mX5_number [.ref 35, .int (FL.getD ((nI v - nI 5) * nI 9 + nI i * nI 3).toNatClampNeg 0), .int (FL.getD ((nI v - nI 5) * nI 9 + nI i * nI 3 + nI 1).toNatClampNeg 0)] _ I1 J _ from ?_)
        rw [z0, z1]
        refine num I1 _ f1 e1 at2 ev1 (fun g1 g2 g3 g4 g5 => ?_) (fun f' g1 g2 => ?_)
        · refine And.intro (fun _ => And.intro p2 ?_) (fun h => absurd h (by decide))
          exact And.intro (fun h => absurd z2 h) (fun _ => fin I1 nb1 hx1 f1 e1 g1 g2 g3 g4 g5)
        · exact And.intro (fun h => absurd rfl h) (fun _ => k0 I1 at2 ev1 f1 f' g1 g2)
    | false =>
      have ew : w ≠ 99 := fun z => by
        rw [z] at hw99
        cases hw99
      rw [hw99] at y3
      dsimp only at y3
      rw [Bool.and_eq_true, Bool.and_eq_true, Bool.and_eq_true] at y3
      obtain ⟨⟨⟨u1, u2⟩, u3⟩, u4⟩ := y3
      have u1 := of_decide_eq_true u1
      have u2 : 0 < cw w := Nat.blt_eq.mp u2
      have u3 : w < 32 := Nat.blt_eq.mp u3
      have u4 : i + 1 < (fmS v).length := Nat.blt_eq.mp u4
      have hcw := cw_lt (k := w)
      rw [u1] at z2
      have wrd : ∀ (I1 : XI) (Rq : XR), FD ta I (avI I1 (j + 1)) → ATt ta (avI I1 (j + 1)) (j + 1) c → j + 1 < N → (tk j).1 = 2 → lo ≤ (tk j).2.1 ∧ (tk j).2.1 ≤ hi_ → (I1 35 7 = I 35 7 ∧ I1 35 8 = I 35 8) → (∀ I3, FD ta I I3 → (I3 35 7 = I 35 7 ∧ I3 35 8 = I 35 8) → ATt ta I3 (j + 2) c → j + 2 < N → deS tk (fmS v) j0 = deS tk ((fmS v).drop (i + 1)) (j + 2) → I3 (ta + 4) = I1 (ta + 4) → Rq (some (.int 1)) (shH ru_ ta rs) I3 J) → (∀ I3, FD ta I I3 → I3 35 7 = nI 1 → I3 35 8 = nI (tk (j + 1)).2.2.1 → deS tk (fmS v) j0 = .inr (ft tk 1 (j + 1)) → Rq (some (.int 0)) (shH ru_ ta rs) I3 J) → xm l n 0 0 mX5_word [.ref 35, .int (nI (cw w))] (shH ru_ ta rs) (avI I1 (j + 1)) J Rq := fun I1 Rq f2 at3 hlt g1 g2 e1 hA hB => by
        have ev3 := f2.ev ht hev
        have tk3 := at3.tk ev3 hlt
        have hwd := tkC_wd tk3 (hk.2.2.2.2 (j + 1)) u3
        have nx : isWd (tk (j + 1)) w = true → j + 2 < N := fun z => hk.nx hlt (by rw [(wd_1 z).1]; decide)
        refine rd_word l ru_ ta rs (avI I1 (j + 1)) J _ n hn (nI (cw w)) (j + 1) N hN hlt at3.1 ev3.1 (fun g => nx (hwd.mp g)) (fun g => ?_) (fun g => ?_)
        · exact hA _ (f2.tr FD.av) e1 (avI_at ht at3.2.2.2) (nx (hwd.mp g)) (hq.trans (de_word g1 g2 ew (hwd.mp g))) ((avI_r4 ht).trans (avI_r4 ht))
        · exact hB _ (f2.tr FD.fi) rfl (ev3.2 (j + 1) hlt).2 (hq.trans (de_odd g1 g2 ew (bF Iff.rfl (fun z => g (hwd.mpr z)))))
      have nx : ∀ (I3 : XI), FD ta I I3 → (I3 35 7 = I 35 7 ∧ I3 35 8 = I 35 8) → ATt ta I3 (j + 2) c → j + 2 < N → deS tk (fmS v) j0 = deS tk ((fmS v).drop (i + 1)) (j + 2) → NB ta q tk v j0 I I3 (i + 1) (j + 2) → Kk 2 [some (.ref 35), some (.int (nI v)), some (.int (nI i + 1)), some (.int ((nI v - nI 5) * nI 9 + nI i * nI 3))] [] (shH ru_ ta rs) I3 J 0 0 := fun I3 q1 q2 q3 q4 q5 q6 => by
        refine hKk 2 [some (.ref 35), some (.int (nI v)), some (.int (nI i + 1)), some (.int ((nI v - nI 5) * nI 9 + nI i * nI 3))] [] (shH ru_ ta rs) I3 J 0 0 ?_
        rw [nI_1]
        exact ih (i + 1) (j + 2) S I3 _ (by omega) u4 (by omega) q1 q2 q3 q4 (by omega) q5 q6
      have no : ∀ (I3 : XI), FD ta I I3 → I3 35 7 = nI 1 → I3 35 8 = nI (tk (j + 1)).2.2.1 → deS tk (fmS v) j0 = .inr (ft tk 1 (j + 1)) → ((0 : Int32) = 0 ∨ (0 : Int32) = 1) ∧ Rp (some (.int 0)) (shH ru_ ta rs) I3 J := fun I3 q1 q2 q3 q4 => ⟨Or.inl rfl, hF I3 1 _ q1 q2 q3 (by decide) q4⟩
      have nz : ¬ FL.getD ((nI v - nI 5) * nI 9 + nI i * nI 3 + nI 2).toNatClampNeg 0 = 0 := by
        rw [z2]
        exact nI_ne0 u2 (by omega)
      obtain rfl | rfl | rfl | rfl | rfl := id ht
      all_goals
        refine rd_setNumber l ru_ _ rs I' J _ ht n (by omega) q i hq24 (by omega) e5' _ (fun I1 h1 => ?_)
        obtain ⟨f1, e1, at2, ev1, nb1, hx1⟩ := main I1 h1
        refine And.intro p0 (And.intro p1 ?_)
        refine (show xm l n 0 0 mX5_number [.ref 35, .int (FL.getD ((nI v - nI 5) * nI 9 + nI i * nI 3).toNatClampNeg 0), .int (FL.getD ((nI v - nI 5) * nI 9 + nI i * nI 3 + nI 1).toNatClampNeg 0)] _ I1 J _ from ?_)
        rw [z0, z1]
        refine num I1 _ f1 e1 at2 ev1 (fun g1 g2 g3 g4 g5 => ?_) (fun f' g1 g2 => ?_)
        · refine And.intro (fun _ => And.intro p2 ?_) (fun h => absurd h (by decide))
          refine And.intro (fun _ => And.intro p2 ?_) (fun h => absurd h nz)
          refine (show xm l n 0 0 mX5_word [.ref 35, .int (FL.getD ((nI v - nI 5) * nI 9 + nI i * nI 3 + nI 2).toNatClampNeg 0)] _ (avI I1 (j + 1)) J _ from ?_)
          rw [z2]
          refine wrd I1 _ g4 g5 g3 g1 g2 e1 (fun I3 q1 q2 q3 q4 q5 q6 => ?_) (fun I3 q1 q2 q3 q4 => ?_)
          · exact And.intro (fun _ => nx I3 q1 q2 q3 q4 q5 (nb1.next (I' := I') y4 ew (hx1 g1) q6)) (fun h => absurd h (by decide))
          · exact And.intro (fun h => absurd rfl h) (fun _ => no I3 q1 q2 q3 q4)
        · exact And.intro (fun h => absurd rfl h) (fun _ => k0 I1 at2 ev1 f1 f' g1 g2)
set_option maxRecDepth 100000 in
theorem rd_deed (ht : TSP ta) (hk : TKN tk N) {n : Nat} (hn : 2 ≤ n) (v j0 c : Nat) (hv : 5 ≤ v ∧ v ≤ 13) (I : XI) (J : XJ) (Rp : XR) (hev : EV I tk N) (hat : ATt ta I j0 c) (hj : j0 < N) (q : Nat) (hq24 : q < 24) (e5 : I ta 5 = nI (q + 1)) (hS : ∀ (I' : XI) (j' : Nat), FD ta I I' → (I' 35 7 = I 35 7 ∧ I' 35 8 = I 35 8) → ATt ta I' j' c → j' < N → j0 ≤ j' → deS tk (fmS v) j0 = .inl j' → ND ta q (deN tk (fmS v) j0) I I' → Rp (some (.int 1)) (shH ru_ ta rs) I' J) (hF : ∀ (I' : XI) (f p : Nat), FD ta I I' → I' 35 7 = nI f → I' 35 8 = nI p → 1 ≤ f → deS tk (fmS v) j0 = .inr (f, p) → Rp (some (.int 0)) (shH ru_ ta rs) I' J) : xm l (n + 1) 0 0 mX5_deed [.ref 35, .int (nI v)] (shH ru_ ta rs) I J Rp := by
  have y := List.all_eq_true.mp deT_len (v - 5) (List.mem_range.mpr (by omega))
  rw [show v - 5 + 5 = v by omega, Bool.and_eq_true] at y
  refine xm_ofK 5 (X := xxX5) (t := tX5_deed) (stop := [2]) (ini := false) xx5 pl5 rfl kX5_deed (fun h => by cases h) (Nat.le_of_ble_eq_true rfl) (fun Kk hKk => ?_)
  exact hKk 2 [some (.ref 35), some (.int (nI v)), some (.int (nI 0)), none] [] (shH ru_ ta rs) I J 0 0 (rd_deed_loop ht hk hn v j0 c hv I J Rp hev q hq24 e5 hS hF 3 0 j0 5 I none (by omega) (Nat.blt_eq.mp y.1) (by omega) ⟨fun _ _ _ => rfl, rfl⟩ ⟨rfl, rfl⟩ hat hj (Nat.le_refl _) rfl ⟨fun _ _ => rfl, [], rfl, rfl, fun x hx => absurd hx (Nat.not_lt_zero x)⟩)
end DEED
end
