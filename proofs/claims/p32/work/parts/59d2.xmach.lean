-- ===== the orders that the machine makes =====
/-- an order, and its number -/
abbrev Odr : Type := Nat × Nat
/-- of each frame: its number, what waits in it (the last first) -/
abbrev Fdr : Type := List (Nat × List Nat)
/-- of each clause: where its orders begin, its numbers -/
abbrev Adr : Type := List (Nat × List Nat)
abbrev Wdr : Type := Fdr × List Odr × Adr
def rkn (y : Nat) : Nat := match Nat.beq y 407 with
  | true => 1
  | false => match Nat.beq y 406 with
    | true => 2
    | false => match Nat.beq y 43 || Nat.beq y 45 with
      | true => 3
      | false => 4
/-- those that wait with such a rank, as long as they do -/
def wk (r : Nat) : List Nat → List Nat × List Odr
  | [] => ([], [])
  | y :: a => match Nat.ble r (rkn y) with
    | true => ((wk r a).1, (y, 0) :: (wk r a).2)
    | false => (y :: a, [])
def x78 : List Nat → Fdr → List Odr → Fdr × List Odr
  | k :: K, d :: D, E => match Nat.beq k 7 with
    | true => x78 K D (E ++ [(402, 0)])
    | false => match Nat.beq k 8 with
      | true => x78 K D (E ++ [(403, d.1)])
      | false => (d :: D, E)
  | _, D, E => (D, E)
def x3 : List Nat → Fdr → List Odr → Fdr × List Odr
  | k :: K, d :: D, E => match Nat.beq k 3 with
    | true => x3 K D (E ++ [(405, 0)])
    | false => (d :: D, E)
  | _, D, E => (D, E)
section XMACH
variable (tk : Nat → TK)
def deN : List (Nat × Nat × Nat) → Nat → List Nat
  | [], _ => []
  | (_, _, w) :: r, j => (tk j).2.1 :: (match Nat.beq w 99 with
    | true => []
    | false => deN r (j + 2))
def z1x (K : List Nat) (X : Wdr) (o : Odr) : Wdr := ((x78 K X.1 (X.2.1 ++ [o])).1, (x78 K X.1 (X.2.1 ++ [o])).2, X.2.2)
def y1x (K : List Nat) (j : Nat) (X : Wdr) : Wdr := match Nat.beq (tk j).1 2 with
  | true => z1x K X (400, (tk j).2.1)
  | false => match Nat.beq (tk j).1 1 with
    | true => (match nmO (tk j).2.1 with
      | some n => z1x K X (401, n)
      | none => (((tk (j + 1)).2.1, []) :: X.1, X.2))
    | false => ((0, []) :: X.1, X.2)
/-- an operation begins to wait -/
def z2x (d : Nat × List Nat) (D : Fdr) (E : List Odr) (A : Adr) (y : Nat) : Wdr := ((d.1, y :: (wk (rkn y) d.2).1) :: D, E ++ (wk (rkn y) d.2).2, A)
def z2e (d : Nat × List Nat) (E : List Odr) (A : Adr) : Wdr := ([], E ++ (wk 1 d.2).2 ++ [(408, 0)], A)
def y2x (K : List Nat) (j : Nat) (X : Wdr) : Wdr := match X.1 with
  | [] => X
  | d :: D => match isOp (tk j) with
    | true => z2x d D X.2.1 X.2.2 (tk j).2.1
    | false => match K with
      | [] => X
      | t :: K' => match Nat.beq t 6 with
        | true => ((x78 K' D (X.2.1 ++ (wk 3 d.2).2)).1, (x78 K' D (X.2.1 ++ (wk 3 d.2).2)).2, X.2.2)
        | false => match Nat.beq t 4 with
          | true => (((tk j).2.1, (wk 3 d.2).1) :: D, X.2.1 ++ (wk 3 d.2).2, X.2.2)
          | false => match Nat.beq t 5 with
            | true => ((x3 K' D (X.2.1 ++ (wk 3 d.2).2 ++ [(d.1, 0)])).1, (x3 K' D (X.2.1 ++ (wk 3 d.2).2 ++ [(d.1, 0)])).2, X.2.2)
            | false => z2e d X.2.1 X.2.2
def y3x (j : Nat) (X : Wdr) : Wdr := match X.1 with
  | [] => X
  | d :: D => match isWd (tk j) 19 with
    | true => z2x d D X.2.1 X.2.2 407
    | false => match isWd (tk j) 20 with
      | true => z2x d D X.2.1 X.2.2 406
      | false => z2e d X.2.1 X.2.2
def y4x (j : Nat) (X : Wdr) : Wdr := match Nat.ble (tk j).2.1 4 with
  | true => ([(0, [])], X.2.1, X.2.2 ++ [(X.2.1.length, [])])
  | false => ([], X.2.1 ++ [(408, 0)], X.2.2 ++ [(X.2.1.length, deN tk (fmS (tk j).2.1) (j + 1))])
def xeff (s : MS) (X : Wdr) : Wdr := match s.1 with
  | 0 => ((0, []) :: X.1, X.2)
  | 1 => y1x tk s.2.1 s.2.2.2.2 X
  | 2 => y2x tk s.2.1 s.2.2.2.2 X
  | 3 => y3x tk s.2.2.2.2 X
  | _ => y4x tk s.2.2.2.2 X
theorem xeff_2 {K : List Nat} {k : Nat} {ws : List Nat} {j : Nat} {X : Wdr} : xeff tk (2, K, k, ws, j) X = y2x tk K j X := rfl
theorem xeff_3 {K : List Nat} {k : Nat} {ws : List Nat} {j : Nat} {X : Wdr} : xeff tk (3, K, k, ws, j) X = y3x tk j X := rfl
def xstep (x : MS × Wdr) : (MS × Wdr) ⊕ (Nat × Nat) := match mstep tk x.1 with
  | .inl s' => .inl (s', xeff tk x.1 x.2)
  | .inr r => .inr r
def xit : Nat → MS × Wdr → (MS × Wdr) ⊕ (Nat × Nat)
  | 0, x => .inl x
  | n + 1, x => match xstep tk x with
    | .inl x' => xit n x'
    | .inr r => .inr r
/-- it comes there, with these orders -/
def Rx (x y : MS × Wdr) : Prop := ∃ n, xit tk n x = .inl y
/-- it ends so, there, with these orders -/
def Ex (x : MS × Wdr) (r : Nat × Nat) (y : MS × Wdr) : Prop := Rx tk x y ∧ mstep tk y.1 = .inr r
variable {tk}
theorem Rx.rf (x : MS × Wdr) : Rx tk x x := ⟨0, rfl⟩
theorem xit_s {n : Nat} {x x' : MS × Wdr} (h : xstep tk x = .inl x') : xit tk (n + 1) x = xit tk n x' := by rw [xit, h]
theorem Rx.one {s s' : MS} {X X' : Wdr} (h : mstep tk s = .inl s') (e : xeff tk s X = X') : Rx tk (s, X) (s', X') := by
  refine ⟨1, ?_⟩
  have y : xstep tk (s, X) = .inl (s', X') := by
    unfold xstep
    dsimp only
    rw [h, e]
  rw [xit_s y]
  rfl
theorem xit_add : ∀ (n m : Nat) (x x' : MS × Wdr), xit tk n x = .inl x' → xit tk (n + m) x = xit tk m x'
  | 0, m, x, x', h => by
    have e : x = x' := Sum.inl.inj h
    rw [Nat.zero_add, e]
  | n + 1, m, x, x', h => by
    unfold xit at h
    split at h
    · rename_i t e
      rw [show n + 1 + m = (n + m) + 1 by omega, xit_s e]
      exact xit_add n m _ _ h
    · cases h
theorem Rx.tr {x y z : MS × Wdr} (h : Rx tk x y) (g : Rx tk y z) : Rx tk x z := by
  obtain ⟨n, h⟩ := h
  obtain ⟨m, g⟩ := g
  exact ⟨n + m, (xit_add n m _ _ h).trans g⟩
theorem Ex.pre {x y z : MS × Wdr} {r : Nat × Nat} (h : Rx tk x y) (g : Ex tk y r z) : Ex tk x r z := ⟨h.tr g.1, g.2⟩
theorem xit_end {n : Nat} {x y : MS × Wdr} {r : Nat × Nat} (h : xit tk n x = .inl y) (g : mstep tk y.1 = .inr r) : ∀ m (y' : MS × Wdr) (r' : Nat × Nat), xit tk m x = .inl y' → mstep tk y'.1 = .inr r' → r = r' ∧ y = y' := by
  induction n generalizing x with
  | zero =>
    have e : x = y := Sum.inl.inj h
    subst e
    intro m y' r' h' g'
    cases m with
    | zero =>
      have e : x = y' := Sum.inl.inj h'
      subst e
      exact ⟨Sum.inr.inj (g.symm.trans g'), rfl⟩
    | succ m =>
      exfalso
      unfold xit xstep at h'
      rw [g] at h'
      cases h'
  | succ n ih =>
    intro m y' r' h' g'
    unfold xit at h
    split at h
    · rename_i t e
      cases m with
      | zero =>
        exfalso
        have e' : x = y' := Sum.inl.inj h'
        subst e'
        unfold xstep at e
        rw [g'] at e
        cases e
      | succ m =>
        unfold xit at h'
        rw [e] at h'
        exact ih h m y' r' h' g'
    · cases h
theorem Ex.det {x y y' : MS × Wdr} {r r' : Nat × Nat} (h : Ex tk x r y) (g : Ex tk x r' y') : r = r' ∧ y = y' := by
  obtain ⟨⟨n, h1⟩, h2⟩ := h
  obtain ⟨⟨m, g1⟩, g2⟩ := g
  exact xit_end h1 h2 m y' r' g1 g2
theorem Rx.rch {x y : MS × Wdr} (h : Rx tk x y) : Rch tk x.1 y.1 := by
  obtain ⟨n, h⟩ := h
  induction n generalizing x with
  | zero =>
    have e : x = y := Sum.inl.inj h
    rw [e]
    exact Rch.rf _
  | succ n ih =>
    unfold xit at h
    split at h
    · rename_i t e
      have y := ih h
      unfold xstep at e
      split at e
      · rename_i s' e'
        have e := Sum.inl.inj e
        rw [← e] at y
        exact Rch.step e' y
      · cases e
    · cases h
theorem Ex.ends {x y : MS × Wdr} {r : Nat × Nat} (h : Ex tk x r y) : Ends tk x.1 r := h.1.rch.ends (Ends.now h.2)
end XMACH
-- what waits
theorem wk_p {r : Nat} : ∀ {p a : List Nat}, (∀ y, y ∈ p → r ≤ rkn y) → (∀ y, a.head? = some y → rkn y < r) → wk r (p ++ a) = (a, p.map fun y => (y, 0))
  | [], [], _, _ => rfl
  | [], y :: a, _, h => by
    have e : Nat.ble r (rkn y) = false := blef (h y rfl)
    show wk r (y :: a) = _
    rw [wk, e]
    rfl
  | y :: p, a, hp, h => by
    have e : Nat.ble r (rkn y) = true := Nat.ble_eq.mpr (hp y List.mem_cons_self)
    show wk r (y :: (p ++ a)) = _
    rw [wk, e, wk_p (fun z hz => hp z (List.mem_cons_of_mem _ hz)) h]
    rfl
theorem x78_id {K : List Nat} {D : Fdr} {E : List Odr} (h : cl78 K = K) : x78 K D E = (D, E) := by
  match K, D, h with
  | [], _, _ => rfl
  | _ :: _, [], _ => rfl
  | k :: K, d :: D, h =>
    rw [cl78] at h
    have x : (Nat.beq k 7 || Nat.beq k 8) = false := by
      cases e : (Nat.beq k 7 || Nat.beq k 8) with
      | false => rfl
      | true =>
        exfalso
        rw [e] at h
        have h : cl78 K = k :: K := h
        have : ∀ L : List Nat, (cl78 L).length ≤ L.length := by
          intro L
          induction L with
          | nil => exact Nat.le_refl _
          | cons a L ih =>
            rw [cl78]
            split
            · simp only [List.length_cons]
              omega
            · exact Nat.le_refl _
        have y := this K
        rw [h] at y
        simp only [List.length_cons] at y
        omega
    rw [Bool.or_eq_false_iff] at x
    rw [x78, x.1, x.2]
-- what a piece of a clause makes
def NmOK (k n : Nat) : Bool := myN n k && Nat.ble n 10
def tyo (k : Nat) (o : Odr) (t : List Bool) : Option (List Bool) := match Nat.beq o.1 400 with
  | true => (match Nat.blt t.length 64 && Nat.blt o.2 10000 with
    | true => some (false :: t)
    | false => none)
  | false => match Nat.beq o.1 401 with
    | true => (match Nat.blt t.length 64 && NmOK k o.2 with
      | true => some (false :: t)
      | false => none)
    | false => match Nat.beq o.1 402 || (Nat.beq o.1 403 && Nat.ble o.2 100) with
      | true => (match t with
        | false :: t => some (false :: t)
        | _ => none)
      | false => match Nat.beq o.1 405 with
        | true => (match t with
          | true :: t => some (true :: t)
          | _ => none)
        | false => match Nat.beq o.1 43 || Nat.beq o.1 45 || (Nat.beq o.1 42 || Nat.beq o.1 47) with
          | true => (match t with
            | false :: false :: t => some (false :: t)
            | _ => none)
          | false => match Nat.beq o.1 60 || Nat.beq o.1 62 || (Nat.beq o.1 61 || Nat.beq o.1 35) || (Nat.beq o.1 300 || Nat.beq o.1 301) with
            | true => (match t with
              | false :: false :: t => some (true :: t)
              | _ => none)
            | false => match Nat.beq o.1 406 || Nat.beq o.1 407 with
              | true => (match t with
                | true :: true :: t => some (true :: t)
                | _ => none)
              | false => none
def tyE (k : Nat) : List Odr → List Bool → Option (List Bool)
  | [], t => some t
  | o :: e, t => match tyo k o t with
    | some t' => tyE k e t'
    | none => none
theorem tyE_app {k : Nat} : ∀ {e f : List Odr} {t u v : List Bool}, tyE k e t = some u → tyE k f u = some v → tyE k (e ++ f) t = some v
  | [], f, t, u, v, h, g => by
    have e := Option.some.inj h
    subst e
    exact g
  | o :: e, f, t, u, v, h, g => by
    unfold tyE at h
    show tyE k (o :: (e ++ f)) t = _
    unfold tyE
    split at h
    · rename_i t' e'
      exact tyE_app h g
    · cases h
theorem tyE_1 {k : Nat} {o : Odr} {t u : List Bool} (h : tyo k o t = some u) : tyE k [o] t = some u := by
  unfold tyE
  rw [h]
  rfl
/-- whatever is on the pile, one number (or one yes or no) more -/
def Typ (k m : Nat) (b : Bool) (e : List Odr) : Prop := ∀ t : List Bool, t.length + m ≤ 64 → tyE k e t = some (b :: t)
section PIECE
variable {tk : Nat → TK}
def Q1 (tk : Nat → TK) (s t : MS) (e : List Odr) : Prop := ∀ (D : Fdr) (E : List Odr) (A : Adr), D.length = s.2.1.length → Rx tk (s, D, E, A) (t, (x78 s.2.1 D (E ++ e)).1, (x78 s.2.1 D (E ++ e)).2, A)
def Qs (tk : Nat → TK) (r : Nat) (s t : MS) (e : List Odr) : Prop := ∀ (d : Nat) (a : List Nat) (D : Fdr) (E : List Odr) (A : Adr), D.length + 1 = s.2.1.length → (∀ y, a.head? = some y → rkn y < r) → ∃ p e1, e = e1 ++ p.map (fun y => ((y, 0) : Odr)) ∧ (∀ y, y ∈ p → r ≤ rkn y) ∧ Rx tk (s, (d, a) :: D, E, A) (t, (d, p ++ a) :: D, E ++ e1, A)
theorem Qs.mono {r r2 : Nat} (hr : r ≤ r2) {s t : MS} {e : List Odr} (h : Qs tk r2 s t e) : Qs tk r s t e := by
  intro d a D E A hl ha
  obtain ⟨p, e1, h1, h2, h3⟩ := h d a D E A hl (fun y hy => Nat.lt_of_lt_of_le (ha y hy) hr)
  exact ⟨p, e1, h1, fun y hy => Nat.le_trans hr (h2 y hy), h3⟩
theorem Q1.rs {s t : MS} {e : List Odr} (hK : cl78 s.2.1 = s.2.1) (h : Q1 tk s t e) : Qs tk 5 s t e := by
  intro d a D E A hl _
  have y := h ((d, a) :: D) E A (by rw [List.length_cons]; exact hl)
  rw [x78_id hK] at y
  exact ⟨[], e, by simp, fun y hy => (by cases hy), y⟩
variable {K : List Nat} {k : Nat} {ws : List Nat} {j : Nat}
theorem Qs.op {r r2 j' j2 : Nat} {s : MS} {K2 : List Nat} (hs : s.2.1 = K) {e0 e1 : List Odr} (h0 : Qs tk r s (2, K, k, ws, j') e0) (ho : isOp (tk j') = true) (hr : rkn (tk j').2.1 = r) (hr2 : r < r2) (h1 : Qs tk r2 (1, K, k, ws, j' + 1) (2, K2, k, ws, j2) e1) : Qs tk r s (2, K2, k, ws, j2) (e0 ++ e1 ++ [((tk j').2.1, 0)]) := by
  intro d a D E A hl ha
  obtain ⟨p, f, g1, g2, g3⟩ := h0 d a D E A hl ha
  have w := wk_p (r := r) g2 ha
  have stp : Rx tk ((2, K, k, ws, j'), (d, p ++ a) :: D, E ++ f, A) ((1, K, k, ws, j' + 1), (d, (tk j').2.1 :: a) :: D, E ++ f ++ p.map (fun y => ((y, 0) : Odr)), A) := by
    refine Rx.one (s2_op ho) ?_
    show y2x tk K j' ((d, p ++ a) :: D, E ++ f, A) = _
    unfold y2x
    dsimp only
    rw [ho]
    dsimp only
    unfold z2x
    rw [hr]
    dsimp only
    rw [w]
  obtain ⟨p2, f2, k1, k2, k3⟩ := h1 d ((tk j').2.1 :: a) D (E ++ f ++ p.map (fun y => ((y, 0) : Odr))) A (by show D.length + 1 = K.length; rw [← hs]; exact hl) (fun y hy => by
    have e : (tk j').2.1 = y := Option.some.inj hy
    rw [← e, hr]
    exact hr2)
  refine ⟨p2 ++ [(tk j').2.1], f ++ p.map (fun y => ((y, 0) : Odr)) ++ f2, ?_, fun y hy => ?_, ?_⟩
  · rw [g1, k1]
    simp [List.append_assoc]
  · rcases List.mem_append.mp hy with z | z
    · have := k2 y z
      omega
    · rw [List.mem_singleton.mp z, hr]
      exact Nat.le_refl _
  · have z := (g3.tr stp).tr k3
    simpa [List.append_assoc] using z
theorem Q1.leaf {s : MS} {o : Odr} {j' : Nat} (hs : s = (1, K, k, ws, j)) (hm : mstep tk s = .inl (2, cl78 K, k, ws, j')) (hx : ∀ X, xeff tk s X = z1x K X o) : Q1 tk s (2, cl78 K, k, ws, j') [o] := by
  subst hs
  intro D E A hl
  exact Rx.one hm (hx _)
theorem Q1.num (h : (tk j).1 = 2) (hv : (tk j).2.1 < 10000) : Q1 tk (1, K, k, ws, j) (2, cl78 K, k, ws, j + 1) [(400, (tk j).2.1)] := by
  refine Q1.leaf rfl (s1_num h hv) (fun X => ?_)
  show y1x tk K j X = _
  unfold y1x
  rw [h]
theorem Q1.name {n : Nat} (h : (tk j).1 = 1) (hn : nmO (tk j).2.1 = some n) (hm : myN n k = true) : Q1 tk (1, K, k, ws, j) (2, cl78 K, k, ws, j + 1) [(401, n)] := by
  refine Q1.leaf rfl (s1_name h hn hm) (fun X => ?_)
  show y1x tk K j X = _
  unfold y1x
  rw [h, hn]
/-- behind a sign or a part that opens -/
theorem Q1.opn {q j1 j' v : Nat} {e : List Odr} {o : Odr} (hm : mstep tk (1, K, k, ws, j) = .inl (1, q :: K, k, ws, j1)) (hx : ∀ X : Wdr, xeff tk (1, K, k, ws, j) X = ((v, []) :: X.1, X.2)) (hq : ∀ D E, x78 (q :: K) ((v, []) :: D) E = x78 K D (E ++ [o])) (h : Q1 tk (1, q :: K, k, ws, j1) (2, cl78 K, k, ws, j') e) : Q1 tk (1, K, k, ws, j) (2, cl78 K, k, ws, j') (e ++ [o]) := by
  intro D E A hl
  have y := h ((v, []) :: D) E A (by show D.length + 1 = K.length + 1; rw [hl])
  have z := (Rx.one hm (hx (D, E, A))).tr y
  dsimp only at z
  rw [hq, List.append_assoc] at z
  exact z
theorem Q1.minus {j' : Nat} {e : List Odr} (hz : isSg (tk j) 45 = true) (h8 : opK K < 8) (h : Q1 tk (1, 7 :: K, k, ws, j + 1) (2, cl78 K, k, ws, j') e) : Q1 tk (1, K, k, ws, j) (2, cl78 K, k, ws, j') (e ++ [(402, 0)]) := by
  refine Q1.opn (v := 0) (s1_mi hz h8) (fun X => ?_) (fun D E => rfl) h
  show y1x tk K j X = _
  unfold y1x
  rw [(sg_1 hz).1]
theorem Q1.part {j' i : Nat} {e : List Odr} (h1 : (tk j).1 = 1) (h2 : (tk j).2.1 = 22) (hm : mstep tk (1, K, k, ws, j) = .inl (1, 8 :: K, k, ws, i)) (h : Q1 tk (1, 8 :: K, k, ws, i) (2, cl78 K, k, ws, j') e) : Q1 tk (1, K, k, ws, j) (2, cl78 K, k, ws, j') (e ++ [(403, (tk (j + 1)).2.1)]) := by
  refine Q1.opn (v := (tk (j + 1)).2.1) hm (fun X => ?_) (fun D E => rfl) h
  show y1x tk K j X = _
  unfold y1x
  rw [h1, h2]
  rfl
theorem Q1.paren {j2 : Nat} {e : List Odr} (hz : isSg (tk j) 40 = true) (h8 : opK K < 8) (h : Qs tk 3 (1, 6 :: K, k, ws, j + 1) (2, 6 :: K, k, ws, j2) e) (ho : isOp (tk j2) = false) (hc : isSg (tk j2) 41 = true) : Q1 tk (1, K, k, ws, j) (2, cl78 K, k, ws, j2 + 1) e := by
  intro D E A hl
  obtain ⟨p, e1, g1, g2, g3⟩ := h 0 [] D E A (by show D.length + 1 = K.length + 1; rw [hl]) (fun y hy => by cases hy)
  have w := wk_p (r := 3) (a := []) g2 (fun y hy => by cases hy)
  have s1 : Rx tk ((1, K, k, ws, j), D, E, A) ((1, 6 :: K, k, ws, j + 1), (0, []) :: D, E, A) := by
    refine Rx.one (s1_br hz h8) ?_
    show y1x tk K j (D, E, A) = _
    unfold y1x
    rw [(sg_1 hz).1]
  have s2 : Rx tk ((2, 6 :: K, k, ws, j2), (0, p ++ []) :: D, E ++ e1, A) ((2, cl78 K, k, ws, j2 + 1), (x78 K D (E ++ e)).1, (x78 K D (E ++ e)).2, A) := by
    refine Rx.one (s2_br ho hc) ?_
    show y2x tk (6 :: K) j2 ((0, p ++ []) :: D, E ++ e1, A) = _
    unfold y2x
    dsimp only
    rw [ho]
    show ((x78 K D (E ++ e1 ++ (wk 3 (p ++ [])).2)).1, (x78 K D (E ++ e1 ++ (wk 3 (p ++ [])).2)).2, A) = _
    rw [w, g1, List.append_assoc]
  exact (s1.tr g3).tr s2
end PIECE
-- the class's word for an order
def rnm (n : Nat) : Nat := match n with
  | 0 => 1
  | 1 => 2
  | 2 => 3
  | 3 => 4
  | 4 => 0
  | n => n
def opc (y : Nat) : Nat := match y with
  | 402 => 2
  | 405 => 4
  | 43 => 5
  | 45 => 6
  | 42 => 7
  | 47 => 8
  | 60 => 9
  | 300 => 10
  | 62 => 11
  | 301 => 12
  | 61 => 13
  | 35 => 14
  | 406 => 15
  | _ => 16
def ccd (o : Odr) : Int32 := match o.1 with
  | 400 => nI o.2
  | 401 => nI (10000 + rnm o.2)
  | 403 => nI (30000 + o.2)
  | y => nI (10000 * opc y)
def Cds (row : Nat → Int32) : Nat → List Odr → Prop
  | _, [] => True
  | c, o :: e => row c = ccd o ∧ Cds row (c + 1) e
theorem Cds.app {row : Nat → Int32} : ∀ {e f : List Odr} {c : Nat}, Cds row c e → Cds row (c + e.length) f → Cds row c (e ++ f)
  | [], f, c, _, g => g
  | o :: e, f, c, h, g => ⟨h.1, Cds.app h.2 (by rw [List.length_cons] at g; rw [show c + 1 + e.length = c + (e.length + 1) by omega]; exact g)⟩
theorem Cds.up {row row' : Nat → Int32} : ∀ {e : List Odr} {c : Nat}, Cds row c e → (∀ i, c ≤ i → i < c + e.length → row' i = row i) → Cds row' c e
  | [], _, _, _ => trivial
  | o :: e, c, h, g => by
    rw [List.length_cons] at g
    exact ⟨by rw [g c (Nat.le_refl _) (by omega)]; exact h.1, Cds.up h.2 (fun i h1 h2 => g i (by omega) (by omega))⟩
/-- the orders that came behind the first c -/
def Cem (ta : Nat) (I I' : XI) (c c' : Nat) (e : List Odr) : Prop := (∀ i, i < c → I' (ta + 1) i = I (ta + 1) i) ∧ c' = c + e.length ∧ Cds (I' (ta + 1)) c e
theorem Cem.rf {ta : Nat} {I I' : XI} {c : Nat} (h : I' (ta + 1) = I (ta + 1)) : Cem ta I I' c c [] := ⟨fun i _ => by rw [h], rfl, trivial⟩
theorem Cem.base {ta : Nat} {I I1 I' : XI} {c c' : Nat} {e : List Odr} (h : Cem ta I1 I' c c' e) (g : I1 (ta + 1) = I (ta + 1)) : Cem ta I I' c c' e := ⟨fun i hi => by rw [h.1 i hi, g], h.2⟩
theorem Cem.tip {ta : Nat} {I I1 I' : XI} {c c' : Nat} {e : List Odr} (h : Cem ta I I1 c c' e) (g : I' (ta + 1) = I1 (ta + 1)) : Cem ta I I' c c' e := by
  unfold Cem
  rw [g]
  exact h
theorem Cem.tr {ta : Nat} {I I1 I' : XI} {c c1 c' : Nat} {e f : List Odr} (h : Cem ta I I1 c c1 e) (g : Cem ta I1 I' c1 c' f) : Cem ta I I' c c' (e ++ f) := by
  obtain ⟨h1, h2, h3⟩ := h
  obtain ⟨g1, g2, g3⟩ := g
  refine ⟨fun i hi => ?_, by rw [g2, h2, List.length_append]; omega, Cds.app (h3.up (fun i a b => g1 i (by omega))) (by rw [← h2]; exact g3)⟩
  rw [g1 i (by omega), h1 i hi]
-- one order of a sum or a product
theorem op42 {q : TK} (h : isSg q 42 = true) : ccd (q.2.1, 0) = 7 * 10000 + 0 ∧ rkn q.2.1 = 4 ∧ ∀ k t, tyo k (q.2.1, 0) (false :: false :: t) = some (false :: t) := by
  rw [(sg_1 h).2]
  exact ⟨by decide, by decide, fun k t => rfl⟩
theorem op47 {q : TK} (h : isSg q 47 = true) : ccd (q.2.1, 0) = 8 * 10000 + 0 ∧ rkn q.2.1 = 4 ∧ ∀ k t, tyo k (q.2.1, 0) (false :: false :: t) = some (false :: t) := by
  rw [(sg_1 h).2]
  exact ⟨by decide, by decide, fun k t => rfl⟩
theorem op43 {q : TK} (h : isSg q 43 = true) : ccd (q.2.1, 0) = 5 * 10000 + 0 ∧ rkn q.2.1 = 3 ∧ ∀ k t, tyo k (q.2.1, 0) (false :: false :: t) = some (false :: t) := by
  rw [(sg_1 h).2]
  exact ⟨by decide, by decide, fun k t => rfl⟩
theorem op45 {q : TK} (h : isSg q 45 = true) : ccd (q.2.1, 0) = 6 * 10000 + 0 ∧ rkn q.2.1 = 3 ∧ ∀ k t, tyo k (q.2.1, 0) (false :: false :: t) = some (false :: t) := by
  rw [(sg_1 h).2]
  exact ⟨by decide, by decide, fun k t => rfl⟩
theorem Typ.mono {k m m2 : Nat} (hm : m ≤ m2) {b : Bool} {e : List Odr} (h : Typ k m b e) : Typ k m2 b e := fun t ht => h t (by omega)
theorem Typ.op {k m : Nat} {e f : List Odr} {o : Odr} (h : Typ k (m + 1) false e) (g : Typ k m false f) (ho : ∀ t, tyo k o (false :: false :: t) = some (false :: t)) : Typ k (m + 1) false (e ++ f ++ [o]) := fun t ht =>
  tyE_app (tyE_app (h t ht) (g (false :: t) (by rw [List.length_cons]; omega))) (tyE_1 (ho t))
theorem Typ.un {k m : Nat} {e : List Odr} {o : Odr} (h : Typ k m false e) (ho : ∀ t, tyo k o (false :: t) = some (false :: t)) : Typ k m false (e ++ [o]) := fun t ht => tyE_app (h t ht) (tyE_1 (ho t))
theorem Typ.num {k v m : Nat} (hv : v < 10000) (hm : 1 ≤ m) : Typ k m false [(400, v)] := fun t ht => tyE_1 (by
  unfold tyo
  have a : Nat.blt t.length 64 = true := Nat.blt_eq.mpr (by omega)
  have b : Nat.blt v 10000 = true := Nat.blt_eq.mpr hv
  show (match Nat.blt t.length 64 && Nat.blt v 10000 with
    | true => some (false :: t)
    | false => none) = _
  rw [a, b]
  rfl)
theorem nmO_le {v n : Nat} (hv : v < 32) (h : nmO v = some n) : n ≤ 10 := by
  unfold nmO at h
  split at h
  · cases h
    omega
  · split at h
    · cases h
      omega
    · split at h
      · cases h
        omega
      · split at h
        · cases h
        · split at h
          · rename_i e
            have := Nat.blt_eq.mp e
            cases h
            omega
          · cases h
            omega
theorem Typ.name {k n m : Nat} (hn : n ≤ 10) (hy : myN n k = true) (hm : 1 ≤ m) : Typ k m false [(401, n)] := fun t ht => tyE_1 (by
  unfold tyo NmOK
  have a : Nat.blt t.length 64 = true := Nat.blt_eq.mpr (by omega)
  have b : Nat.ble n 10 = true := Nat.ble_eq.mpr hn
  show (match Nat.blt t.length 64 && (myN n k && Nat.ble n 10) with
    | true => some (false :: t)
    | false => none) = _
  rw [a, b, hy]
  rfl)
