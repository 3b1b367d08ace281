-- ===== a text that was read: its laws on both sides =====
section DN
variable {tk : Nat → TK}
theorem deN_b (h : ∀ j, (tk j).2.1 ≤ 10000) : ∀ (L : List (Nat × Nat × Nat)) (j x : Nat), x ∈ deN tk L j → x ≤ 10000
  | [], _, _, hx => by cases hx
  | (_, _, w) :: r, j, x, hx => by
    unfold deN at hx
    rcases List.mem_cons.mp hx with e | e
    · rw [e]
      exact h j
    · split at e
      · cases e
      · exact deN_b h r (j + 2) x e
theorem xeff_A (h : ∀ j, (tk j).2.1 ≤ 10000) (s : MS) (X : Wdr) (g : DNb X.2.2) : DNb (xeff tk s X).2.2 := by
  obtain ⟨m, K, k, ws, j⟩ := s
  match m with
  | 0 => exact g
  | 1 =>
    show DNb (y1x tk K j X).2.2
    unfold y1x z1x
    repeat' split
    all_goals exact g
  | 2 =>
    show DNb (y2x tk K j X).2.2
    unfold y2x z2x z2e
    repeat' split
    all_goals exact g
  | 3 =>
    show DNb (y3x tk j X).2.2
    unfold y3x z2x z2e
    repeat' split
    all_goals exact g
  | m + 4 =>
    show DNb (y4x tk j X).2.2
    unfold y4x
    split
    · intro a ha x hx
      rcases List.mem_append.mp ha with e | e
      · exact g a e x hx
      · rw [List.mem_singleton.mp e] at hx
        cases hx
    · intro a ha x hx
      rcases List.mem_append.mp ha with e | e
      · exact g a e x hx
      · rw [List.mem_singleton.mp e] at hx
        exact deN_b h _ _ x hx
theorem xit_A (h : ∀ j, (tk j).2.1 ≤ 10000) : ∀ (n : Nat) (x y : MS × Wdr), xit tk n x = .inl y → DNb x.2.2.2 → DNb y.2.2.2
  | 0, x, y, e, g => by
    have e := Sum.inl.inj e
    rw [← e]
    exact g
  | n + 1, x, y, e, g => by
    unfold xit xstep at e
    cases hm : mstep tk x.1 with
    | inl s' =>
      simp only [hm] at e
      exact xit_A h n _ y e (xeff_A h x.1 x.2 g)
    | inr r =>
      simp only [hm] at e
      cases e
theorem Ex.dn (h : ∀ j, (tk j).2.1 ≤ 10000) {s : MS} {r : Nat × Nat} {y : MS × Wdr} (e : Ex tk (s, [], [], []) r y) : DNb y.2.2.2 := by
  obtain ⟨⟨n, hn⟩, _⟩ := e
  exact xit_A h n _ y hn (fun a ha => by cases ha)
end DN
theorem lexC_0 {B : Nat → Int32} {T i : Nat} : (lexC B T i).1 = 0 ∨ (lexC B T i).1 = 4 → (lexC B T i).2.1 = 0 := by
  unfold lexC
  cases h0 : Nat.ble T i with
  | true => exact fun _ => rfl
  | false =>
    cases h1 : bLt (B i) with
    | true =>
      dsimp only
      cases h2 : kW (lts B T i) wT 0 with
      | some k => exact fun z => by rcases z with z | z <;> cases z
      | none => exact fun _ => rfl
    | false =>
      cases h2 : bDg (B i) with
      | true => exact fun z => by rcases z with z | z <;> cases z
      | false =>
        cases h3 : (decide (B i = 60) || decide (B i = 62)) && (Nat.blt (i + 1) T && decide (B (i + 1) = 61)) with
        | true => exact fun z => by rcases z with z | z <;> cases z
        | false =>
          dsimp only
          cases h4 : sgL.contains (B i) with
          | true => exact fun z => by rcases z with z | z <;> cases z
          | false => exact fun _ => rfl
theorem tkS_le {B : Nat → Int32} {T : Nat} (hT : T ≤ 300) (j : Nat) : (tkS B T j).2.1 ≤ 10000 := by
  have o := tkS_ok (B := B) hT j
  rcases tk_five o.1 with e | e | e | e | e
  · have := lexC_0 (B := B) (T := T) (Or.inl e)
    have z : (tkS B T j).2.1 = 0 := this
    omega
  · have := o.2.1 e
    omega
  · exact o.2.2.1 e
  · have y : ∀ z, z ∈ SGN → z ≤ 10000 := by decide
    exact y _ (o.2.2.2.1 e)
  · have := lexC_0 (B := B) (T := T) (Or.inr e)
    have z : (tkS B T j).2.1 = 0 := this
    omega
theorem OR7.loc {I I' : XI} : ∀ {e : List Odr} {k : Nat}, OR7 I k e → (∀ j, k ≤ j → j ≤ k + e.length → I' 77 j = I 77 j ∧ I' 78 j = I 78 j) → OR7 I' k e
  | [], k, h, f => by
    unfold OR7 at h ⊢
    rw [(f k (Nat.le_refl _) (Nat.le_refl _)).1]
    exact h
  | o :: e, k, h, f => by
    unfold OR7 at h ⊢
    obtain ⟨f1, f2⟩ := f k (Nat.le_refl _) (Nat.le_add_right _ _)
    rw [f1, f2]
    exact ⟨h.1, h.2.1, OR7.loc h.2.2 (fun j a b => f j (by omega) (by rw [List.length_cons]; omega))⟩
theorem OR7.mk {I : XI} : ∀ {e : List Odr} {k : Nat}, (∀ j, j < e.length → I 77 (k + j) = nI (e.getD j (0, 0)).1 ∧ ((e.getD j (0, 0)).1 = 402 ∨ I 78 (k + j) = nI (e.getD j (0, 0)).2)) → I 77 (k + e.length) = 408 → OR7 I k e
  | [], k, _, h => h
  | o :: e, k, h, g => by
    unfold OR7
    have y := h 0 (by rw [List.length_cons]; omega)
    refine ⟨y.1, y.2, OR7.mk (fun j hj => ?_) ?_⟩
    · have z := h (j + 1) (by rw [List.length_cons]; omega)
      rw [show k + (j + 1) = k + 1 + j by omega] at z
      exact z
    · rw [List.length_cons] at g
      rw [show k + 1 + e.length = k + (e.length + 1) by omega]
      exact g
theorem ofL_at {I : XI} {c w : Nat} {ws : List Nat} (hw : w < 5) (h : ∀ i, i < ws.length → I 72 (c + i) = nI (ws.getD i 0) ∧ ws.getD i 0 ≤ 13) : ∀ k, k ≤ ws.length → (∃ i, i < k ∧ ws.getD i 0 = w ∧ ofL I c w k = I 73 (c + i)) ∨ ((∀ i, i < k → ws.getD i 0 ≠ w) ∧ ofL I c w k = -1)
  | 0, _ => Or.inr ⟨fun i hi => absurd hi (Nat.not_lt_zero i), rfl⟩
  | k + 1, hk => by
    have y := h k (by omega)
    unfold ofL
    by_cases e : ws.getD k 0 = w
    · rw [if_pos (by rw [y.1, e])]
      exact Or.inl ⟨k, Nat.lt_succ_self _, e, rfl⟩
    · rw [if_neg (fun z => e (nI_inj (y.1.symm.trans z) (by omega) (by omega)))]
      rcases ofL_at hw h k (by omega) with ⟨i, hi, a, b⟩ | ⟨a, b⟩
      · exact Or.inl ⟨i, by omega, a, b⟩
      · refine Or.inr ⟨fun i hi => ?_, b⟩
        by_cases ei : i = k
        · rw [ei]
          exact e
        · exact a i (by omega)
theorem law_ex {I : XI} {ta t c w : Nat} {ws : List Nat} {E : List Odr} {A : Adr} (hw : w < 5) (ht : t < 4) (hc : c ≤ 300) (g : GT ta I ws c E A) (hm : w ∈ ws ↔ I (ta + 2) w < I (ta + 3) w) (r : RTx t I I ws E A) : ∃ o, LCw I ta w o ∧ LRw I w (ofL I (24 * t) w ws.length) o ∧ ∀ e, o = some e → ∃ f, ofL I (24 * t) w ws.length = nI f ∧ 400 * t ≤ f ∧ f + e.length < 400 * t + 400 := by
  obtain ⟨⟨r1, r2, r3⟩, r4, r5, r6⟩ := r
  have h := ofL_at (I := I) (c := 24 * t) (ws := ws) hw (fun i hi => ⟨(r5 i hi).1, (g.2 i hi).1⟩) ws.length (Nat.le_refl _)
  rcases h with ⟨i, hi, e1, e2⟩ | ⟨h1, h2⟩
  · have cl := g.2 i hi
    rw [e1] at cl
    obtain ⟨st, e, pre, rr, a1, a2, a3, a4, a5, a6, a7⟩ := cl.2.2.1 (by omega)
    have lt := hm.mp (by rw [← e1]; exact getD_mem hi)
    rw [a1, a2, nlt (by omega) (by omega)] at lt
    have ty : tyE w e [] = some [Nat.beq w 4] := a5 [] (by decide)
    have eL : E.length = pre.length + (e.length + (1 + rr.length)) := by
      rw [a6, List.length_append, List.length_append, List.length_append]
      simp
      omega
    have ef : ofL I (24 * t) w ws.length = nI (400 * t + pre.length) := by rw [e2, (r5 i hi).2.1, ← a7]
    have gx : ∀ j, j < e.length → E.getD (pre.length + j) (0, 0) = e.getD j (0, 0) := fun j hj => by
      rw [a6, List.getD_eq_getElem?_getD, List.getD_eq_getElem?_getD, List.append_assoc, List.append_assoc, List.getElem?_append_right (Nat.le_add_right _ _), Nat.add_sub_cancel_left, List.getElem?_append_left hj]
    have gl : E.getD (pre.length + e.length) (0, 0) = (408, 0) := by
      rw [a6, List.getD_eq_getElem?_getD, List.append_assoc, List.append_assoc, List.getElem?_append_right (Nat.le_add_right _ _), Nat.add_sub_cancel_left, List.getElem?_append_right (Nat.le_refl _), Nat.sub_self]
      rfl
    refine ⟨some e, ⟨st, a1, a2, by omega, a4, ty, by omega⟩, ⟨400 * t + pre.length, ef, OR7.mk (fun j hj => ?_) ?_, by omega, by omega, ty⟩, fun e' he => ?_⟩
    · have y := r6 (pre.length + j) (by omega)
      rw [gx j hj, show 400 * t + (pre.length + j) = 400 * t + pre.length + j by omega] at y
      exact y
    · have y := (r6 (pre.length + e.length) (by omega)).1
      rw [gl, show 400 * t + (pre.length + e.length) = 400 * t + pre.length + e.length by omega] at y
      exact y
    · cases he
      exact ⟨400 * t + pre.length, ef, by omega, by omega⟩
  · have nm : ¬ w ∈ ws := fun z => by
      obtain ⟨i, hi, e⟩ := List.getElem_of_mem z
      refine h1 i hi ?_
      rw [List.getD_eq_getElem?_getD, List.getElem?_eq_getElem hi]
      exact e
    exact ⟨none, Int32.not_lt.mp (fun z => nm (hm.mpr z)), h2, fun e he => by cases he⟩
/-- the text that was read -/
theorem TXT.new {I : XI} {t c : Nat} {ws : List Nat} {E : List Odr} {A : Adr} (ht : t < 4) (hc : c ≤ 300) (g : GT (47 + 5 * t) I ws c E A) (e5 : I (47 + 5 * t) 5 = nI ws.length) (hm : ∀ w, w < 5 → (w ∈ ws ↔ I (47 + 5 * t + 2) w < I (47 + 5 * t + 3) w)) (r : RTx t I I ws E A) (db : DNb A) : ∃ L, TXT I t (ws, E, A, L) := by
  have ex : ∀ w, w < 5 → ∃ o, LCw I (47 + 5 * t) w o ∧ LRw I w (ofL I (24 * t) w ws.length) o ∧ ∀ e, o = some e → ∃ f, ofL I (24 * t) w ws.length = nI f ∧ 400 * t ≤ f ∧ f + e.length < 400 * t + 400 := fun w hw => law_ex hw ht hc g (hm w hw) r
  obtain ⟨o0, a0⟩ := ex 0 (by omega)
  obtain ⟨o1, a1⟩ := ex 1 (by omega)
  obtain ⟨o2, a2⟩ := ex 2 (by omega)
  obtain ⟨o3, a3⟩ := ex 3 (by omega)
  obtain ⟨o4, a4⟩ := ex 4 (by omega)
  have all : ∀ w, w < 5 → LCw I (47 + 5 * t) w ((fun w => match w with | 0 => o0 | 1 => o1 | 2 => o2 | 3 => o3 | _ => o4 : Lws) w) ∧ LRw I w (ofL I (24 * t) w ws.length) ((fun w => match w with | 0 => o0 | 1 => o1 | 2 => o2 | 3 => o3 | _ => o4 : Lws) w) ∧ ∀ e, (fun w => match w with | 0 => o0 | 1 => o1 | 2 => o2 | 3 => o3 | _ => o4 : Lws) w = some e → ∃ f, ofL I (24 * t) w ws.length = nI f ∧ 400 * t ≤ f ∧ f + e.length < 400 * t + 400 := fun w hw => by
    match w, hw with
    | 0, _ => exact a0
    | 1, _ => exact a1
    | 2, _ => exact a2
    | 3, _ => exact a3
    | 4, _ => exact a4
    | w + 5, h => exact absurd h (by omega)
  exact ⟨(fun w => match w with | 0 => o0 | 1 => o1 | 2 => o2 | 3 => o3 | _ => o4), ⟨c, hc, g, e5, db⟩, r, fun w hw => (all w hw).1, ws.length, r.1.1, r.2.1, fun w hw => (all w hw).2⟩
/-- a text that stays, as another is read -/
theorem TXT.old {I I' : XI} {t m : Nat} {x : Txt} (ht : t < m) (hm : m ≤ 4) (h : TXT I t x) (fc : ∀ q, 46 < q → q < 47 + 5 * m → I' q = I q) (ro : RTo m I I') : TXT I' t x := by
  obtain ⟨⟨c, c3, g, e5, db⟩, r, lc, N, n1, n2, lr⟩ := h
  obtain ⟨o1, o2, o3⟩ := ro
  obtain ⟨⟨r1, r2, r3⟩, r4, r5, r6⟩ := r
  have el : ∀ w k, k ≤ 24 → ofL I' (24 * t) w k = ofL I (24 * t) w k := fun w k => by
    induction k with
    | zero => intro _; rfl
    | succ k ih =>
      intro hk
      unfold ofL
      obtain ⟨q1, q2, _⟩ := o2 (24 * t + k) (Or.inl (by omega))
      rw [q1, q2, ih (by omega)]
  refine ⟨⟨c, c3, g.keep (fun q a b => fc q (by omega) (by omega)), by rw [fc _ (by omega) (by omega)]; exact e5, db⟩, ⟨⟨r1, r2, r3⟩, (o1 t (by omega)).trans r4, fun i hi => ?_, fun i hi => ?_⟩, fun w hw => (lc w hw).keep (fc _ (by omega) (by omega)) (fc _ (by omega) (by omega)) (fc _ (by omega) (by omega)), N, n1, (o1 t (by omega)).trans n2, fun w hw => ?_⟩
  · obtain ⟨q1, q2, q3, q4, q5⟩ := o2 (24 * t + i) (Or.inl (by omega))
    rw [q1, q2, q3, q4, q5]
    exact r5 i hi
  · obtain ⟨q1, q2⟩ := o3 (400 * t + i) (Or.inl (by omega))
    rw [q1, q2]
    exact r6 i hi
  · rw [el w N n1]
    refine ⟨?_, (lr w hw).2⟩
    have y := lr w hw
    cases e : tqL x w with
    | none =>
      rw [e] at y
      exact y.1
    | some od =>
      rw [e] at y
      obtain ⟨f, a, b, cc⟩ := y.1
      obtain ⟨f', a', b1, b2⟩ := y.2 od rfl
      have ef : f = f' := by
        have b3 := cc.1
        exact nI_inj (a.symm.trans a') (by omega) (by omega)
      subst ef
      exact ⟨f, a, OR7.loc b (fun j j1 j2 => o3 j (Or.inl (by omega))), cc⟩
theorem RTo.keep {m : Nat} {I Ib I' : XI} (h : RTo m Ib I') (e : ∀ q, 70 < q → q < 79 → Ib q = I q) : RTo m I I' := by
  unfold RTo at h ⊢
  rw [← e 71 (by decide) (by decide), ← e 72 (by decide) (by decide), ← e 73 (by decide) (by decide), ← e 74 (by decide) (by decide), ← e 75 (by decide) (by decide), ← e 76 (by decide) (by decide), ← e 77 (by decide) (by decide), ← e 78 (by decide) (by decide)]
  exact h
