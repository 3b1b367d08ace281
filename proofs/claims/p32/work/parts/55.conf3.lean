/-- the shapes of all places, the two references that change, and what lies behind -/
def shH (ru ta : Nat) (rs : List XO) : List XO := .inl (11, [some 12, some 23, some 26, some 28, some 1, some 3, some 4, none, some 30, some 35, some 18, some 5, none, none, some 6, some 36, some 40, some 41]) :: .inl (6, [some 2, none, none]) :: .inr (0, 2139, []) :: .inr (0, 8, []) :: .inr (0, 8, []) :: .inr (3, 4, [some 47, some 52, some 57, some 62]) :: .inl (1, [some 7, some 8, some 10, some 11, none, none, none, none, none, none]) :: .inr (0, 69, []) :: .inl (6, [some 9, none, none]) :: .inr (0, 2139, []) :: .inr (0, 8, []) :: .inr (0, 8, []) :: .inl (9, [some 13, some 14, some 15, some 16, some 17, none, none, none]) :: .inr (0, 8, []) :: .inr (0, 8, []) :: .inr (0, 8, []) :: .inr (0, 4, []) :: .inr (0, 4, []) :: .inl (8, [some 19, none, some 20, some 21, some 22, none]) :: .inr (0, 300, []) :: .inr (0, 5, []) :: .inr (0, 5, []) :: .inr (0, 96, []) :: .inl (2, [some 12, some ru, some 24, some 25]) :: .inr (0, 11, []) :: .inr (2, 64, []) :: .inl (10, [some 27, some 12, some 23]) :: .inr (0, 69, []) :: .inl (10, [some 29, some 12, some 23]) :: .inr (0, 69, []) :: .inl (7, [some 31, none, some 32, some 33, some 34, none]) :: .inr (0, 300, []) :: .inr (0, 301, []) :: .inr (0, 301, []) :: .inr (0, 301, []) :: .inl (5, [some 30, some ta, none, none, none, none, none, none, none]) :: .inl (3, [some 28, some 37, some 38, some 39, none, none, none, none, none]) :: .inr (0, 276, []) :: .inr (0, 4, []) :: .inr (0, 4, []) :: .inl (0, [some 23, none, none, none, none, none, none, none]) :: .inl (4, [some 26, some 42, none, some 43, some 44, some 45, some 46, none]) :: .inr (0, 6, []) :: .inr (0, 4, []) :: .inr (0, 4, []) :: .inr (0, 6, []) :: .inr (0, 6, []) :: .inl (8, [some 48, none, some 49, some 50, some 51, none]) :: .inr (0, 300, []) :: .inr (0, 5, []) :: .inr (0, 5, []) :: .inr (0, 96, []) :: .inl (8, [some 53, none, some 54, some 55, some 56, none]) :: .inr (0, 300, []) :: .inr (0, 5, []) :: .inr (0, 5, []) :: .inr (0, 96, []) :: .inl (8, [some 58, none, some 59, some 60, some 61, none]) :: .inr (0, 300, []) :: .inr (0, 5, []) :: .inr (0, 5, []) :: .inr (0, 96, []) :: .inl (8, [some 63, none, some 64, some 65, some 66, none]) :: .inr (0, 300, []) :: .inr (0, 5, []) :: .inr (0, 5, []) :: .inr (0, 96, []) :: .inl (12, [some 68, some 69, some 70, none, none, none, some 71, some 72, some 73, some 74, some 75, some 76, some 77, some 78, none, none, none, none, none, none, none, none, none, some 79, some 80, none, some 81, some 82, none, some 83, none, none, some 84, some 85, some 86, some 87, some 88, none, some 89, some 90, some 91, some 92, some 93, some 94, some 95, some 96, some 97, some 98]) :: .inr (0, 2200, []) :: .inr (0, 2200, []) :: .inr (1, 300, []) :: .inr (0, 4, []) :: .inr (0, 96, []) :: .inr (0, 96, []) :: .inr (0, 96, []) :: .inr (0, 96, []) :: .inr (0, 96, []) :: .inr (0, 1600, []) :: .inr (0, 1600, []) :: .inr (0, 40, []) :: .inr (0, 41, []) :: .inr (0, 80, []) :: .inr (0, 80, []) :: .inr (0, 40, []) :: .inr (0, 24, []) :: .inr (0, 24, []) :: .inr (0, 24, []) :: .inr (0, 24, []) :: .inr (0, 24, []) :: .inr (0, 400, []) :: .inr (0, 400, []) :: .inr (0, 11, []) :: .inr (2, 200, []) :: .inr (0, 69, []) :: .inr (0, 4, []) :: .inr (0, 4, []) :: .inr (0, 6, []) :: .inr (0, 6, []) :: .inr (0, 6, []) :: rs
def cncR : List (Option (List Nat)) → Option (List (Option Nat))
  | [] => some []
  | none :: l => (match cncR l with
    | some r => some (none :: r)
    | none => none)
  | some [p] :: l => (match cncR l with
    | some r => some (some p :: r)
    | none => none)
  | some _ :: _ => none
def cnc (o : AO) : Option XO := match o with
  | .inl q => (match cncR q.2 with
    | some r => some (.inl (q.1, r))
    | none => none)
  | .inr q => (match cncR q.2.2 with
    | some r => some (.inr (q.1, q.2.1, r))
    | none => none)
theorem cncR_ok : ∀ {cs : List (Option (List Nat))} {r rs : List (Option Nat)}, cncR cs = some r → refO cs rs → rs = r
  | [], r, rs, h, hr => by
    cases h
    exact List.length_eq_zero_iff.mp hr.1.symm
  | c :: cs, r, [], h, hr => by cases hr.1
  | none :: cs, r, x :: rs, h, hr => by
    unfold cncR at h
    split at h
    · rename_i r' e
      cases h
      have e0 := hr.2.2 0 rfl
      cases e0
      rw [cncR_ok e ⟨by simpa using hr.1, fun k ps hk => hr.2.1 (k + 1) ps hk, fun k hk => hr.2.2 (k + 1) hk⟩]
    · cases h
  | some [p] :: cs, r, x :: rs, h, hr => by
    unfold cncR at h
    split at h
    · rename_i r' e
      cases h
      obtain ⟨q, hq, e0⟩ := hr.2.1 0 [p] rfl
      cases e0
      rw [List.mem_singleton.mp hq]
      rw [cncR_ok e ⟨by simpa using hr.1, fun k ps hk => hr.2.1 (k + 1) ps hk, fun k hk => hr.2.2 (k + 1) hk⟩]
    · cases h
  | some [] :: cs, r, x :: rs, h, hr => by cases h
  | some (_ :: _ :: _) :: cs, r, x :: rs, h, hr => by cases h
theorem cnc_ok {o : AO} {x y : XO} (h : cnc o = some y) (ha : aoO o x) : x = y := by
  unfold cnc at h
  unfold aoO at ha
  split at h
  · rename_i q
    split at h
    · rename_i r e
      cases h
      cases x with
      | inl b => rw [show b = (q.1, r) from Prod.ext ha.1.symm (cncR_ok e ha.2)]
      | inr b => exact ha.elim
    · cases h
  · rename_i q
    split at h
    · rename_i r e
      cases h
      cases x with
      | inl b => exact ha.elim
      | inr b => rw [show b = (q.1, q.2.1, r) from Prod.ext ha.1.symm (Prod.ext ha.2.1.symm (cncR_ok e ha.2.2))]
    · cases h
theorem xn_pre {α : Type} : ∀ {l m : List α}, (∀ i, i < l.length → xn m i = xn l i) → ∃ r, m = l ++ r
  | [], m, _ => ⟨m, rfl⟩
  | a :: l, [], h => by
    have := h 0 (by simp)
    cases this
  | a :: l, b :: m, h => by
    have e := h 0 (by simp)
    cases e
    obtain ⟨r, hr⟩ := xn_pre (l := l) (m := m) (fun i hi => h (i + 1) (by simpa using hi))
    exact ⟨r, by rw [hr]; rfl⟩
def txP : List Nat := [18, 47, 52, 57, 62]
def okPl (ru ta p : Nat) : Bool := match xlk CFs p with
  | some o => (match cnc o with
    | some y => decide (xn (shH ru ta []) p = some y)
    | none => false)
  | none => false
set_option maxRecDepth 100000 in
theorem okPl_all : ∀ p, p < 99 → p ≠ 23 → p ≠ 35 → okPl 0 0 p = true := by decide +kernel
set_option maxRecDepth 100000 in
theorem shH_ne (ru ta p : Nat) (h1 : p ≠ 23) (h2 : p ≠ 35) : xn (shH ru ta []) p = xn (shH 0 0 []) p := by
  by_cases hp : p < 99
  · have : ∀ p, p < 99 → p ≠ 23 → p ≠ 35 → ∀ ru ta, xn (shH ru ta []) p = xn (shH 0 0 []) p := by
      intro p hp h1 h2 ru ta
      revert h1 h2
      revert hp
      match p with
      | 0 => intro _ h1 h2; first | rfl | exact absurd rfl h1 | exact absurd rfl h2
      | 1 => intro _ h1 h2; first | rfl | exact absurd rfl h1 | exact absurd rfl h2
      | 2 => intro _ h1 h2; first | rfl | exact absurd rfl h1 | exact absurd rfl h2
      | 3 => intro _ h1 h2; first | rfl | exact absurd rfl h1 | exact absurd rfl h2
      | 4 => intro _ h1 h2; first | rfl | exact absurd rfl h1 | exact absurd rfl h2
      | 5 => intro _ h1 h2; first | rfl | exact absurd rfl h1 | exact absurd rfl h2
      | 6 => intro _ h1 h2; first | rfl | exact absurd rfl h1 | exact absurd rfl h2
      | 7 => intro _ h1 h2; first | rfl | exact absurd rfl h1 | exact absurd rfl h2
      | 8 => intro _ h1 h2; first | rfl | exact absurd rfl h1 | exact absurd rfl h2
      | 9 => intro _ h1 h2; first | rfl | exact absurd rfl h1 | exact absurd rfl h2
      | 10 => intro _ h1 h2; first | rfl | exact absurd rfl h1 | exact absurd rfl h2
      | 11 => intro _ h1 h2; first | rfl | exact absurd rfl h1 | exact absurd rfl h2
      | 12 => intro _ h1 h2; first | rfl | exact absurd rfl h1 | exact absurd rfl h2
      | 13 => intro _ h1 h2; first | rfl | exact absurd rfl h1 | exact absurd rfl h2
      | 14 => intro _ h1 h2; first | rfl | exact absurd rfl h1 | exact absurd rfl h2
      | 15 => intro _ h1 h2; first | rfl | exact absurd rfl h1 | exact absurd rfl h2
      | 16 => intro _ h1 h2; first | rfl | exact absurd rfl h1 | exact absurd rfl h2
      | 17 => intro _ h1 h2; first | rfl | exact absurd rfl h1 | exact absurd rfl h2
      | 18 => intro _ h1 h2; first | rfl | exact absurd rfl h1 | exact absurd rfl h2
      | 19 => intro _ h1 h2; first | rfl | exact absurd rfl h1 | exact absurd rfl h2
      | 20 => intro _ h1 h2; first | rfl | exact absurd rfl h1 | exact absurd rfl h2
      | 21 => intro _ h1 h2; first | rfl | exact absurd rfl h1 | exact absurd rfl h2
      | 22 => intro _ h1 h2; first | rfl | exact absurd rfl h1 | exact absurd rfl h2
      | 23 => intro _ h1 h2; first | rfl | exact absurd rfl h1 | exact absurd rfl h2
      | 24 => intro _ h1 h2; first | rfl | exact absurd rfl h1 | exact absurd rfl h2
      | 25 => intro _ h1 h2; first | rfl | exact absurd rfl h1 | exact absurd rfl h2
      | 26 => intro _ h1 h2; first | rfl | exact absurd rfl h1 | exact absurd rfl h2
      | 27 => intro _ h1 h2; first | rfl | exact absurd rfl h1 | exact absurd rfl h2
      | 28 => intro _ h1 h2; first | rfl | exact absurd rfl h1 | exact absurd rfl h2
      | 29 => intro _ h1 h2; first | rfl | exact absurd rfl h1 | exact absurd rfl h2
      | 30 => intro _ h1 h2; first | rfl | exact absurd rfl h1 | exact absurd rfl h2
      | 31 => intro _ h1 h2; first | rfl | exact absurd rfl h1 | exact absurd rfl h2
      | 32 => intro _ h1 h2; first | rfl | exact absurd rfl h1 | exact absurd rfl h2
      | 33 => intro _ h1 h2; first | rfl | exact absurd rfl h1 | exact absurd rfl h2
      | 34 => intro _ h1 h2; first | rfl | exact absurd rfl h1 | exact absurd rfl h2
      | 35 => intro _ h1 h2; first | rfl | exact absurd rfl h1 | exact absurd rfl h2
      | 36 => intro _ h1 h2; first | rfl | exact absurd rfl h1 | exact absurd rfl h2
      | 37 => intro _ h1 h2; first | rfl | exact absurd rfl h1 | exact absurd rfl h2
      | 38 => intro _ h1 h2; first | rfl | exact absurd rfl h1 | exact absurd rfl h2
      | 39 => intro _ h1 h2; first | rfl | exact absurd rfl h1 | exact absurd rfl h2
      | 40 => intro _ h1 h2; first | rfl | exact absurd rfl h1 | exact absurd rfl h2
      | 41 => intro _ h1 h2; first | rfl | exact absurd rfl h1 | exact absurd rfl h2
      | 42 => intro _ h1 h2; first | rfl | exact absurd rfl h1 | exact absurd rfl h2
      | 43 => intro _ h1 h2; first | rfl | exact absurd rfl h1 | exact absurd rfl h2
      | 44 => intro _ h1 h2; first | rfl | exact absurd rfl h1 | exact absurd rfl h2
      | 45 => intro _ h1 h2; first | rfl | exact absurd rfl h1 | exact absurd rfl h2
      | 46 => intro _ h1 h2; first | rfl | exact absurd rfl h1 | exact absurd rfl h2
      | 47 => intro _ h1 h2; first | rfl | exact absurd rfl h1 | exact absurd rfl h2
      | 48 => intro _ h1 h2; first | rfl | exact absurd rfl h1 | exact absurd rfl h2
      | 49 => intro _ h1 h2; first | rfl | exact absurd rfl h1 | exact absurd rfl h2
      | 50 => intro _ h1 h2; first | rfl | exact absurd rfl h1 | exact absurd rfl h2
      | 51 => intro _ h1 h2; first | rfl | exact absurd rfl h1 | exact absurd rfl h2
      | 52 => intro _ h1 h2; first | rfl | exact absurd rfl h1 | exact absurd rfl h2
      | 53 => intro _ h1 h2; first | rfl | exact absurd rfl h1 | exact absurd rfl h2
      | 54 => intro _ h1 h2; first | rfl | exact absurd rfl h1 | exact absurd rfl h2
      | 55 => intro _ h1 h2; first | rfl | exact absurd rfl h1 | exact absurd rfl h2
      | 56 => intro _ h1 h2; first | rfl | exact absurd rfl h1 | exact absurd rfl h2
      | 57 => intro _ h1 h2; first | rfl | exact absurd rfl h1 | exact absurd rfl h2
      | 58 => intro _ h1 h2; first | rfl | exact absurd rfl h1 | exact absurd rfl h2
      | 59 => intro _ h1 h2; first | rfl | exact absurd rfl h1 | exact absurd rfl h2
      | 60 => intro _ h1 h2; first | rfl | exact absurd rfl h1 | exact absurd rfl h2
      | 61 => intro _ h1 h2; first | rfl | exact absurd rfl h1 | exact absurd rfl h2
      | 62 => intro _ h1 h2; first | rfl | exact absurd rfl h1 | exact absurd rfl h2
      | 63 => intro _ h1 h2; first | rfl | exact absurd rfl h1 | exact absurd rfl h2
      | 64 => intro _ h1 h2; first | rfl | exact absurd rfl h1 | exact absurd rfl h2
      | 65 => intro _ h1 h2; first | rfl | exact absurd rfl h1 | exact absurd rfl h2
      | 66 => intro _ h1 h2; first | rfl | exact absurd rfl h1 | exact absurd rfl h2
      | 67 => intro _ h1 h2; first | rfl | exact absurd rfl h1 | exact absurd rfl h2
      | 68 => intro _ h1 h2; first | rfl | exact absurd rfl h1 | exact absurd rfl h2
      | 69 => intro _ h1 h2; first | rfl | exact absurd rfl h1 | exact absurd rfl h2
      | 70 => intro _ h1 h2; first | rfl | exact absurd rfl h1 | exact absurd rfl h2
      | 71 => intro _ h1 h2; first | rfl | exact absurd rfl h1 | exact absurd rfl h2
      | 72 => intro _ h1 h2; first | rfl | exact absurd rfl h1 | exact absurd rfl h2
      | 73 => intro _ h1 h2; first | rfl | exact absurd rfl h1 | exact absurd rfl h2
      | 74 => intro _ h1 h2; first | rfl | exact absurd rfl h1 | exact absurd rfl h2
      | 75 => intro _ h1 h2; first | rfl | exact absurd rfl h1 | exact absurd rfl h2
      | 76 => intro _ h1 h2; first | rfl | exact absurd rfl h1 | exact absurd rfl h2
      | 77 => intro _ h1 h2; first | rfl | exact absurd rfl h1 | exact absurd rfl h2
      | 78 => intro _ h1 h2; first | rfl | exact absurd rfl h1 | exact absurd rfl h2
      | 79 => intro _ h1 h2; first | rfl | exact absurd rfl h1 | exact absurd rfl h2
      | 80 => intro _ h1 h2; first | rfl | exact absurd rfl h1 | exact absurd rfl h2
      | 81 => intro _ h1 h2; first | rfl | exact absurd rfl h1 | exact absurd rfl h2
      | 82 => intro _ h1 h2; first | rfl | exact absurd rfl h1 | exact absurd rfl h2
      | 83 => intro _ h1 h2; first | rfl | exact absurd rfl h1 | exact absurd rfl h2
      | 84 => intro _ h1 h2; first | rfl | exact absurd rfl h1 | exact absurd rfl h2
      | 85 => intro _ h1 h2; first | rfl | exact absurd rfl h1 | exact absurd rfl h2
      | 86 => intro _ h1 h2; first | rfl | exact absurd rfl h1 | exact absurd rfl h2
      | 87 => intro _ h1 h2; first | rfl | exact absurd rfl h1 | exact absurd rfl h2
      | 88 => intro _ h1 h2; first | rfl | exact absurd rfl h1 | exact absurd rfl h2
      | 89 => intro _ h1 h2; first | rfl | exact absurd rfl h1 | exact absurd rfl h2
      | 90 => intro _ h1 h2; first | rfl | exact absurd rfl h1 | exact absurd rfl h2
      | 91 => intro _ h1 h2; first | rfl | exact absurd rfl h1 | exact absurd rfl h2
      | 92 => intro _ h1 h2; first | rfl | exact absurd rfl h1 | exact absurd rfl h2
      | 93 => intro _ h1 h2; first | rfl | exact absurd rfl h1 | exact absurd rfl h2
      | 94 => intro _ h1 h2; first | rfl | exact absurd rfl h1 | exact absurd rfl h2
      | 95 => intro _ h1 h2; first | rfl | exact absurd rfl h1 | exact absurd rfl h2
      | 96 => intro _ h1 h2; first | rfl | exact absurd rfl h1 | exact absurd rfl h2
      | 97 => intro _ h1 h2; first | rfl | exact absurd rfl h1 | exact absurd rfl h2
      | 98 => intro _ h1 h2; first | rfl | exact absurd rfl h1 | exact absurd rfl h2
      | n + 99 =>
        intro hp
        omega
    exact this p hp h1 h2 ru ta
  · rw [xn_eq, xn_eq, List.getElem?_eq_none (by show 99 ≤ p; omega), List.getElem?_eq_none (by show 99 ≤ p; omega)]
set_option maxRecDepth 100000 in
theorem shX {sh : List XO} (h : shO CF sh) : ∃ ru ta rs, ru ∈ txP ∧ ta ∈ txP ∧ sh = shH ru ta rs := by
  have h23 : ∃ ru, ru ∈ txP ∧ xn sh 23 = some (.inl (2, [some 12, some ru, some 24, some 25])) := by
    obtain ⟨x, hx, ha⟩ := h 23 (.inl (2, [some [12], some [18, 47, 52, 57, 62], some [24], some [25]])) (by decide +kernel)
    cases x with
    | inr b => exact ha.elim
    | inl b =>
      obtain ⟨b1, b2⟩ := b
      obtain ⟨a1, a2⟩ := ha
      dsimp only at a1 a2
      obtain ⟨ru, hru, e1⟩ := a2.2.1 1 _ rfl
      refine ⟨ru, hru, ?_⟩
      obtain ⟨p0, hp0, e0⟩ := a2.2.1 0 _ rfl
      obtain ⟨p2, hp2, e2⟩ := a2.2.1 2 _ rfl
      obtain ⟨p3, hp3, e3⟩ := a2.2.1 3 _ rfl
      rw [List.mem_singleton.mp hp0] at e0
      rw [List.mem_singleton.mp hp2] at e2
      rw [List.mem_singleton.mp hp3] at e3
      have hl := a2.1
      match b2, hl, e0, e1, e2, e3 with
      | [x0, x1, x2, x3], _, e0, e1, e2, e3 =>
        cases e0
        cases e1
        cases e2
        cases e3
        rw [hx, ← a1]
  have h35 : ∃ ta, ta ∈ txP ∧ xn sh 35 = some (.inl (5, [some 30, some ta, none, none, none, none, none, none, none])) := by
    obtain ⟨x, hx, ha⟩ := h 35 (.inl (5, [some [30], some [18, 47, 52, 57, 62], none, none, none, none, none, none, none])) (by decide +kernel)
    cases x with
    | inr b => exact ha.elim
    | inl b =>
      obtain ⟨b1, b2⟩ := b
      obtain ⟨a1, a2⟩ := ha
      dsimp only at a1 a2
      obtain ⟨ta, hta, e1⟩ := a2.2.1 1 _ rfl
      refine ⟨ta, hta, ?_⟩
      obtain ⟨p0, hp0, e0⟩ := a2.2.1 0 _ rfl
      rw [List.mem_singleton.mp hp0] at e0
      have e2 := a2.2.2 2 rfl
      have e3 := a2.2.2 3 rfl
      have e4 := a2.2.2 4 rfl
      have e5 := a2.2.2 5 rfl
      have e6 := a2.2.2 6 rfl
      have e7 := a2.2.2 7 rfl
      have e8 := a2.2.2 8 rfl
      have hl := a2.1
      match b2, hl, e0, e1, e2, e3, e4, e5, e6, e7, e8 with
      | [x0, x1, x2, x3, x4, x5, x6, x7, x8], _, e0, e1, e2, e3, e4, e5, e6, e7, e8 =>
        cases e0
        cases e1
        cases e2
        cases e3
        cases e4
        cases e5
        cases e6
        cases e7
        cases e8
        rw [hx, ← a1]
  obtain ⟨ru, hru, e23⟩ := h23
  obtain ⟨ta, hta, e35⟩ := h35
  have hall : ∀ i, i < (shH ru ta []).length → xn sh i = xn (shH ru ta []) i := by
    intro i hi
    by_cases h1 : i = 23
    · subst h1
      exact e23
    · by_cases h2 : i = 35
      · subst h2
        exact e35
      · rw [shH_ne ru ta i h1 h2]
        have y := okPl_all i hi h1 h2
        unfold okPl at y
        split at y
        · rename_i o eo
          split at y
          · rename_i z ez
            obtain ⟨x, hx, ha⟩ := h i o eo
            rw [hx, cnc_ok ez ha]
            exact (of_decide_eq_true y).symm
          · cases y
        · cases y
  obtain ⟨rs, hrs⟩ := xn_pre hall
  exact ⟨ru, ta, rs, hru, hta, hrs⟩
/-- contracts made by hand -/
theorem ag1 {p : Nat} {as : List Value} (h : agO [.inr (.inl [p])] as) : as = [.ref p] := by
  match as, h with
  | [.ref q], h => rw [List.mem_singleton.mp h.1]
theorem ag1i {p : Nat} {r : Int × Int} {as : List Value} (h : agO [.inr (.inl [p]), .inl r] as) : ∃ x, as = [.ref p, .int x] ∧ inI r x.toInt := by
  match as, h with
  | [.ref q, .int x], h => exact ⟨x, by rw [List.mem_singleton.mp h.1], h.2.1⟩
theorem ag1ii {p : Nat} {r s : Int × Int} {as : List Value} (h : agO [.inr (.inl [p]), .inl r, .inl s] as) : ∃ x y, as = [.ref p, .int x, .int y] ∧ inI r x.toInt ∧ inI s y.toInt := by
  match as, h with
  | [.ref q, .int x, .int y], h => exact ⟨x, y, by rw [List.mem_singleton.mp h.1], h.2.1, h.2.2.1⟩
theorem ag1iii {p : Nat} {r s t : Int × Int} {as : List Value} (h : agO [.inr (.inl [p]), .inl r, .inl s, .inl t] as) : ∃ x y z, as = [.ref p, .int x, .int y, .int z] ∧ inI r x.toInt ∧ inI s y.toInt ∧ inI t z.toInt := by
  match as, h with
  | [.ref q, .int x, .int y, .int z], h => exact ⟨x, y, z, by rw [List.mem_singleton.mp h.1], h.2.1, h.2.2.1, h.2.2.2.1⟩
theorem agi {r : Int × Int} {as : List Value} (h : agO [.inl r] as) : ∃ x, as = [.int x] ∧ inI r x.toInt := by
  match as, h with
  | [.int x], h => exact ⟨x, rfl, h.1⟩
theorem one_post {gs : List AG} {as : List Value} {g : AG} {v : Option Value} {I : XI} (ha : agO gs as) (hv : rvO g v) : pstO as (aInts gs, g, []) v I := ⟨fun _ _ _ h1 h2 => agO_in ha h2 h1, hv, fun e he => by cases he⟩
