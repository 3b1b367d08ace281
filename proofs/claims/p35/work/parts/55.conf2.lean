section
def CFs : List (Nat × AO) := [(0, .inl (11, [some [12], some [23], some [26], some [28], some [1], some [3], some [4], none, some [30], some [35], some [18], some [5], none, none, some [6], some [36], some [40], some [41]])), (1, .inl (6, [some [2], none, none])), (2, .inr (0, 2139, [])), (3, .inr (0, 8, [])), (4, .inr (0, 8, [])), (5, .inr (3, 4, [some [47], some [52], some [57], some [62]])), (6, .inl (1, [some [7], some [8], some [10], some [11], none, none, none, none, none, none])), (7, .inr (0, 69, [])), (8, .inl (6, [some [9], none, none])), (9, .inr (0, 2139, [])), (10, .inr (0, 8, [])), (11, .inr (0, 8, [])), (12, .inl (9, [some [13], some [14], some [15], some [16], some [17], none, none, none])), (13, .inr (0, 8, [])), (14, .inr (0, 8, [])), (15, .inr (0, 8, [])), (16, .inr (0, 4, [])), (17, .inr (0, 4, [])), (18, .inl (8, [some [19], none, some [20], some [21], some [22], none])), (19, .inr (0, 300, [])), (20, .inr (0, 5, [])), (21, .inr (0, 5, [])), (22, .inr (0, 96, [])), (23, .inl (2, [some [12], some [18, 47, 52, 57, 62], some [24], some [25]])), (24, .inr (0, 11, [])), (25, .inr (2, 64, [])), (26, .inl (10, [some [27], some [12], some [23]])), (27, .inr (0, 69, [])), (28, .inl (10, [some [29], some [12], some [23]])), (29, .inr (0, 69, [])), (30, .inl (7, [some [31], none, some [32], some [33], some [34], none])), (31, .inr (0, 300, [])), (32, .inr (0, 301, [])), (33, .inr (0, 301, [])), (34, .inr (0, 301, [])), (35, .inl (5, [some [30], some [18, 47, 52, 57, 62], none, none, none, none, none, none, none])), (36, .inl (3, [some [28], some [37], some [38], some [39], none, none, none, none, none])), (37, .inr (0, 276, [])), (38, .inr (0, 4, [])), (39, .inr (0, 4, [])), (40, .inl (0, [some [23], none, none, none, none, none, none, none])), (41, .inl (4, [some [26], some [42], none, some [43], some [44], some [45], some [46], none])), (42, .inr (0, 6, [])), (43, .inr (0, 4, [])), (44, .inr (0, 4, [])), (45, .inr (0, 6, [])), (46, .inr (0, 6, [])), (47, .inl (8, [some [48], none, some [49], some [50], some [51], none])), (48, .inr (0, 300, [])), (49, .inr (0, 5, [])), (50, .inr (0, 5, [])), (51, .inr (0, 96, [])), (52, .inl (8, [some [53], none, some [54], some [55], some [56], none])), (53, .inr (0, 300, [])), (54, .inr (0, 5, [])), (55, .inr (0, 5, [])), (56, .inr (0, 96, [])), (57, .inl (8, [some [58], none, some [59], some [60], some [61], none])), (58, .inr (0, 300, [])), (59, .inr (0, 5, [])), (60, .inr (0, 5, [])), (61, .inr (0, 96, [])), (62, .inl (8, [some [63], none, some [64], some [65], some [66], none])), (63, .inr (0, 300, [])), (64, .inr (0, 5, [])), (65, .inr (0, 5, [])), (66, .inr (0, 96, [])), (67, .inl (12, [some [68], some [69], some [70], none, none, none, some [71], some [72], some [73], some [74], some [75], some [76], some [77], some [78], none, none, none, none, none, none, none, none, none, some [79], some [80], none, some [81], some [82], none, some [83], none, none, some [84], some [85], some [86], some [87], some [88], none, some [89], some [90], some [91], some [92], some [93], some [94], some [95], some [96], some [97], some [98]])), (68, .inr (0, 2200, [])), (69, .inr (0, 2200, [])), (70, .inr (1, 300, [])), (71, .inr (0, 4, [])), (72, .inr (0, 96, [])), (73, .inr (0, 96, [])), (74, .inr (0, 96, [])), (75, .inr (0, 96, [])), (76, .inr (0, 96, [])), (77, .inr (0, 1600, [])), (78, .inr (0, 1600, [])), (79, .inr (0, 40, [])), (80, .inr (0, 41, [])), (81, .inr (0, 80, [])), (82, .inr (0, 80, [])), (83, .inr (0, 40, [])), (84, .inr (0, 24, [])), (85, .inr (0, 24, [])), (86, .inr (0, 24, [])), (87, .inr (0, 24, [])), (88, .inr (0, 24, [])), (89, .inr (0, 400, [])), (90, .inr (0, 400, [])), (91, .inr (0, 11, [])), (92, .inr (2, 200, [])), (93, .inr (0, 69, [])), (94, .inr (0, 4, [])), (95, .inr (0, 4, [])), (96, .inr (0, 6, [])), (97, .inr (0, 6, [])), (98, .inr (0, 6, []))]
def CFc : List (Nat × Nat × Int × Int) := [(0, 7, (.ofNat 0, .ofNat 8)), (0, 12, (.ofNat 0, .ofNat 4)), (0, 13, (.negSucc 0, .ofNat 3)), (1, 1, (.ofNat 0, .ofNat 30)), (1, 2, (.ofNat 0, .ofNat 30)), (6, 4, (.ofNat 0, .ofNat 8)), (6, 5, (.ofNat 0, .ofNat 8)), (6, 6, (.ofNat 0, .ofNat 4)), (6, 7, (.ofNat 0, .ofNat 4)), (6, 8, (.ofNat 0, .ofNat 4)), (6, 9, (.negSucc 0, .ofNat 3)), (8, 1, (.ofNat 0, .ofNat 30)), (8, 2, (.ofNat 0, .ofNat 30)), (12, 5, (.ofNat 0, .ofNat 8)), (12, 6, (.ofNat 0, .ofNat 4)), (12, 7, (.ofNat 0, .ofNat 4)), (18, 1, (.ofNat 0, .ofNat 300)), (18, 5, (.ofNat 0, .ofNat 24)), (30, 1, (.ofNat 0, .ofNat 300)), (30, 5, (.ofNat 0, .ofNat 301)), (41, 2, (.ofNat 0, .ofNat 6)), (47, 1, (.ofNat 0, .ofNat 300)), (47, 5, (.ofNat 0, .ofNat 24)), (52, 1, (.ofNat 0, .ofNat 300)), (52, 5, (.ofNat 0, .ofNat 24)), (57, 1, (.ofNat 0, .ofNat 300)), (57, 5, (.ofNat 0, .ofNat 24)), (62, 1, (.ofNat 0, .ofNat 300)), (62, 5, (.ofNat 0, .ofNat 24)), (67, 3, (.ofNat 0, .ofNat 300)), (68, 0, (.ofNat 0, .ofNat 8)), (68, 1, (.ofNat 0, .ofNat 4)), (68, 2, (.ofNat 0, .ofNat 4)), (68, 3, (.ofNat 0, .ofNat 4)), (68, 4, (.negSucc 0, .ofNat 3)), (68, 5, (.ofNat 0, .ofNat 30)), (68, 6, (.ofNat 0, .ofNat 8)), (68, 34, (.ofNat 0, .ofNat 999)), (68, 35, (.ofNat 0, .ofNat 999)), (68, 36, (.ofNat 0, .ofNat 999)), (68, 37, (.ofNat 0, .ofNat 999)), (68, 88, (.ofNat 0, .ofNat 999)), (68, 89, (.ofNat 0, .ofNat 999)), (68, 90, (.ofNat 0, .ofNat 999)), (68, 91, (.ofNat 0, .ofNat 999)), (68, 92, (.ofNat 0, .ofNat 999)), (68, 93, (.ofNat 0, .ofNat 999)), (68, 94, (.ofNat 0, .ofNat 999)), (68, 95, (.ofNat 0, .ofNat 999)), (68, 96, (.ofNat 0, .ofNat 999)), (68, 97, (.ofNat 0, .ofNat 999)), (68, 98, (.ofNat 0, .ofNat 999)), (68, 99, (.ofNat 0, .ofNat 999)), (69, 0, (.ofNat 0, .ofNat 8)), (69, 1, (.ofNat 0, .ofNat 4)), (69, 2, (.ofNat 0, .ofNat 4)), (69, 3, (.ofNat 0, .ofNat 4)), (69, 4, (.negSucc 0, .ofNat 3)), (69, 5, (.ofNat 0, .ofNat 30)), (69, 6, (.ofNat 0, .ofNat 8)), (69, 34, (.ofNat 0, .ofNat 999)), (69, 35, (.ofNat 0, .ofNat 999)), (69, 36, (.ofNat 0, .ofNat 999)), (69, 37, (.ofNat 0, .ofNat 999)), (69, 88, (.ofNat 0, .ofNat 999)), (69, 89, (.ofNat 0, .ofNat 999)), (69, 90, (.ofNat 0, .ofNat 999)), (69, 91, (.ofNat 0, .ofNat 999)), (69, 92, (.ofNat 0, .ofNat 999)), (69, 93, (.ofNat 0, .ofNat 999)), (69, 94, (.ofNat 0, .ofNat 999)), (69, 95, (.ofNat 0, .ofNat 999)), (69, 96, (.ofNat 0, .ofNat 999)), (69, 97, (.ofNat 0, .ofNat 999)), (69, 98, (.ofNat 0, .ofNat 999)), (69, 99, (.ofNat 0, .ofNat 999)), (93, 28, (.ofNat 0, .ofNat 999)), (93, 29, (.ofNat 0, .ofNat 999)), (93, 30, (.ofNat 0, .ofNat 999)), (93, 31, (.ofNat 0, .ofNat 999)), (93, 32, (.ofNat 0, .ofNat 999)), (93, 33, (.ofNat 0, .ofNat 999)), (93, 34, (.ofNat 0, .ofNat 999)), (93, 35, (.ofNat 0, .ofNat 999)), (93, 36, (.ofNat 0, .ofNat 999)), (93, 37, (.ofNat 0, .ofNat 999)), (93, 38, (.ofNat 0, .ofNat 999)), (93, 39, (.ofNat 0, .ofNat 999))]
def CFr : List (Nat × Int × Int) := [(71, (.ofNat 0, .ofNat 24)), (94, (.ofNat 0, .ofNat 8)), (96, (.ofNat 0, .ofNat 11))]
def CF : AC := (CFs, CFc, CFr)
theorem ex13 {α : Type} {l : List α} {o : α} (h : xn l 12 = some o) : ∃ a0 a1 a2 a3 a4 a5 a6 a7 a8 a9 a10 a11 a12 r, l = a0 :: a1 :: a2 :: a3 :: a4 :: a5 :: a6 :: a7 :: a8 :: a9 :: a10 :: a11 :: a12 :: r := by
  match l, h with
  | a0 :: a1 :: a2 :: a3 :: a4 :: a5 :: a6 :: a7 :: a8 :: a9 :: a10 :: a11 :: a12 :: r, _ => exact ⟨a0, a1, a2, a3, a4, a5, a6, a7, a8, a9, a10, a11, a12, r, rfl⟩
  | [], h => cases h
  | [_], h => cases h
  | [_, _], h => cases h
  | [_, _, _], h => cases h
  | [_, _, _, _], h => cases h
  | [_, _, _, _, _], h => cases h
  | [_, _, _, _, _, _], h => cases h
  | [_, _, _, _, _, _, _], h => cases h
  | [_, _, _, _, _, _, _, _], h => cases h
  | [_, _, _, _, _, _, _, _, _], h => cases h
  | [_, _, _, _, _, _, _, _, _, _], h => cases h
  | [_, _, _, _, _, _, _, _, _, _, _], h => cases h
  | [_, _, _, _, _, _, _, _, _, _, _, _], h => cases h
end
section
/-- the shapes of all places, the two references that change, and what lies behind -/
def shH (ru ta : Nat) (rs : List XO) : List XO := .inl (11, [some 12, some 23, some 26, some 28, some 1, some 3, some 4, none, some 30, some 35, some 18, some 5, none, none, some 6, some 36, some 40, some 41]) :: .inl (6, [some 2, none, none]) :: .inr (0, 2139, []) :: .inr (0, 8, []) :: .inr (0, 8, []) :: .inr (3, 4, [some 47, some 52, some 57, some 62]) :: .inl (1, [some 7, some 8, some 10, some 11, none, none, none, none, none, none]) :: .inr (0, 69, []) :: .inl (6, [some 9, none, none]) :: .inr (0, 2139, []) :: .inr (0, 8, []) :: .inr (0, 8, []) :: .inl (9, [some 13, some 14, some 15, some 16, some 17, none, none, none]) :: .inr (0, 8, []) :: .inr (0, 8, []) :: .inr (0, 8, []) :: .inr (0, 4, []) :: .inr (0, 4, []) :: .inl (8, [some 19, none, some 20, some 21, some 22, none]) :: .inr (0, 300, []) :: .inr (0, 5, []) :: .inr (0, 5, []) :: .inr (0, 96, []) :: .inl (2, [some 12, some ru, some 24, some 25]) :: .inr (0, 11, []) :: .inr (2, 64, []) :: .inl (10, [some 27, some 12, some 23]) :: .inr (0, 69, []) :: .inl (10, [some 29, some 12, some 23]) :: .inr (0, 69, []) :: .inl (7, [some 31, none, some 32, some 33, some 34, none]) :: .inr (0, 300, []) :: .inr (0, 301, []) :: .inr (0, 301, []) :: .inr (0, 301, []) :: .inl (5, [some 30, some ta, none, none, none, none, none, none, none]) :: .inl (3, [some 28, some 37, some 38, some 39, none, none, none, none, none]) :: .inr (0, 276, []) :: .inr (0, 4, []) :: .inr (0, 4, []) :: .inl (0, [some 23, none, none, none, none, none, none, none]) :: .inl (4, [some 26, some 42, none, some 43, some 44, some 45, some 46, none]) :: .inr (0, 6, []) :: .inr (0, 4, []) :: .inr (0, 4, []) :: .inr (0, 6, []) :: .inr (0, 6, []) :: .inl (8, [some 48, none, some 49, some 50, some 51, none]) :: .inr (0, 300, []) :: .inr (0, 5, []) :: .inr (0, 5, []) :: .inr (0, 96, []) :: .inl (8, [some 53, none, some 54, some 55, some 56, none]) :: .inr (0, 300, []) :: .inr (0, 5, []) :: .inr (0, 5, []) :: .inr (0, 96, []) :: .inl (8, [some 58, none, some 59, some 60, some 61, none]) :: .inr (0, 300, []) :: .inr (0, 5, []) :: .inr (0, 5, []) :: .inr (0, 96, []) :: .inl (8, [some 63, none, some 64, some 65, some 66, none]) :: .inr (0, 300, []) :: .inr (0, 5, []) :: .inr (0, 5, []) :: .inr (0, 96, []) :: .inl (12, [some 68, some 69, some 70, none, none, none, some 71, some 72, some 73, some 74, some 75, some 76, some 77, some 78, none, none, none, none, none, none, none, none, none, some 79, some 80, none, some 81, some 82, none, some 83, none, none, some 84, some 85, some 86, some 87, some 88, none, some 89, some 90, some 91, some 92, some 93, some 94, some 95, some 96, some 97, some 98]) :: .inr (0, 2200, []) :: .inr (0, 2200, []) :: .inr (1, 300, []) :: .inr (0, 4, []) :: .inr (0, 96, []) :: .inr (0, 96, []) :: .inr (0, 96, []) :: .inr (0, 96, []) :: .inr (0, 96, []) :: .inr (0, 1600, []) :: .inr (0, 1600, []) :: .inr (0, 40, []) :: .inr (0, 41, []) :: .inr (0, 80, []) :: .inr (0, 80, []) :: .inr (0, 40, []) :: .inr (0, 24, []) :: .inr (0, 24, []) :: .inr (0, 24, []) :: .inr (0, 24, []) :: .inr (0, 24, []) :: .inr (0, 400, []) :: .inr (0, 400, []) :: .inr (0, 11, []) :: .inr (2, 200, []) :: .inr (0, 69, []) :: .inr (0, 4, []) :: .inr (0, 4, []) :: .inr (0, 6, []) :: .inr (0, 6, []) :: .inr (0, 6, []) :: rs
def cncR : List (Option (List Nat)) → Option (List (Option Nat))
  | [] => some []
  | none :: l => (match cncR l with
    | some r => some (none :: r)
    | none => none)
  | some [p] :: l => (match cncR l with
    | some r => some (some p :: r)
    | none => none)
  | some _ :: _ => none
def cnc (o : AO) : Option XO := match o with
  | .inl q => (match cncR q.2 with
    | some r => some (.inl (q.1, r))
    | none => none)
  | .inr q => (match cncR q.2.2 with
    | some r => some (.inr (q.1, q.2.1, r))
    | none => none)
theorem cncR_ok : ∀ {cs : List (Option (List Nat))} {r rs : List (Option Nat)}, cncR cs = some r → refO cs rs → rs = r
  | [], r, rs, h, hr => by
    cases h
    exact List.length_eq_zero_iff.mp hr.1.symm
  | c :: cs, r, [], h, hr => by cases hr.1
  | none :: cs, r, x :: rs, h, hr => by
    unfold cncR at h
    split at h
    · rename_i r' e
      cases h
      have e0 := hr.2.2 0 rfl
      cases e0
      rw [cncR_ok e ⟨by simpa using hr.1, fun k ps hk => hr.2.1 (k + 1) ps hk, fun k hk => hr.2.2 (k + 1) hk⟩]
    · cases h
  | some [p] :: cs, r, x :: rs, h, hr => by
    unfold cncR at h
    split at h
    · rename_i r' e
      cases h
      obtain ⟨q, hq, e0⟩ := hr.2.1 0 [p] rfl
      cases e0
      rw [List.mem_singleton.mp hq]
      rw [cncR_ok e ⟨by simpa using hr.1, fun k ps hk => hr.2.1 (k + 1) ps hk, fun k hk => hr.2.2 (k + 1) hk⟩]
    · cases h
  | some [] :: cs, r, x :: rs, h, hr => by cases h
  | some (_ :: _ :: _) :: cs, r, x :: rs, h, hr => by cases h
theorem cnc_ok {o : AO} {x y : XO} (h : cnc o = some y) (ha : aoO o x) : x = y := by
  unfold cnc at h
  unfold aoO at ha
  split at h
  · rename_i q
    split at h
    · rename_i r e
      cases h
      cases x with
      | inl b => rw [show b = (q.1, r) from Prod.ext ha.1.symm (cncR_ok e ha.2)]
      | inr b => exact ha.elim
    · cases h
  · rename_i q
    split at h
    · rename_i r e
      cases h
      cases x with
      | inl b => exact ha.elim
      | inr b => rw [show b = (q.1, q.2.1, r) from Prod.ext ha.1.symm (Prod.ext ha.2.1.symm (cncR_ok e ha.2.2))]
    · cases h
theorem xn_pre {α : Type} : ∀ {l m : List α}, (∀ i, i < l.length → xn m i = xn l i) → ∃ r, m = l ++ r
  | [], m, _ => ⟨m, rfl⟩
  | a :: l, [], h => by
    have := h 0 (by simp)
    cases this
  | a :: l, b :: m, h => by
    have e := h 0 (by simp)
    cases e
    obtain ⟨r, hr⟩ := xn_pre (l := l) (m := m) (fun i hi => h (i + 1) (by simpa using hi))
    exact ⟨r, by rw [hr]; rfl⟩
def txP : List Nat := [18, 47, 52, 57, 62]
def okPl (ru ta p : Nat) : Bool := match xlk CFs p with
  | some o => (match cnc o with
    | some y => decide (xn (shH ru ta []) p = some y)
    | none => false)
  | none => false
set_option maxRecDepth 100000 in
theorem okPl_all : ∀ p, p < 99 → p ≠ 23 → p ≠ 35 → okPl 0 0 p = true := by decide +kernel
set_option maxRecDepth 100000 in
theorem shH_ne (ru ta p : Nat) (h1 : p ≠ 23) (h2 : p ≠ 35) : xn (shH ru ta []) p = xn (shH 0 0 []) p := by
  by_cases hp : p < 99
  · have : ∀ p, p < 99 → p ≠ 23 → p ≠ 35 → ∀ ru ta, xn (shH ru ta []) p = xn (shH 0 0 []) p := by
      intro p hp h1 h2 ru ta
      revert h1 h2
      revert hp
      match p with
      | 0 => intro _ h1 h2; first | rfl | exact absurd rfl h1 | exact absurd rfl h2
      | 1 => intro _ h1 h2; first | rfl | exact absurd rfl h1 | exact absurd rfl h2
      | 2 => intro _ h1 h2; first | rfl | exact absurd rfl h1 | exact absurd rfl h2
      | 3 => intro _ h1 h2; first | rfl | exact absurd rfl h1 | exact absurd rfl h2
      | 4 => intro _ h1 h2; first | rfl | exact absurd rfl h1 | exact absurd rfl h2
      | 5 => intro _ h1 h2; first | rfl | exact absurd rfl h1 | exact absurd rfl h2
      | 6 => intro _ h1 h2; first | rfl | exact absurd rfl h1 | exact absurd rfl h2
      | 7 => intro _ h1 h2; first | rfl | exact absurd rfl h1 | exact absurd rfl h2
      | 8 => intro _ h1 h2; first | rfl | exact absurd rfl h1 | exact absurd rfl h2
      | 9 => intro _ h1 h2; first | rfl | exact absurd rfl h1 | exact absurd rfl h2
      | 10 => intro _ h1 h2; first | rfl | exact absurd rfl h1 | exact absurd rfl h2
      | 11 => intro _ h1 h2; first | rfl | exact absurd rfl h1 | exact absurd rfl h2
      | 12 => intro _ h1 h2; first | rfl | exact absurd rfl h1 | exact absurd rfl h2
      | 13 => intro _ h1 h2; first | rfl | exact absurd rfl h1 | exact absurd rfl h2
      | 14 => intro _ h1 h2; first | rfl | exact absurd rfl h1 | exact absurd rfl h2
      | 15 => intro _ h1 h2; first | rfl | exact absurd rfl h1 | exact absurd rfl h2
      | 16 => intro _ h1 h2; first | rfl | exact absurd rfl h1 | exact absurd rfl h2
      | 17 => intro _ h1 h2; first | rfl | exact absurd rfl h1 | exact absurd rfl h2
      | 18 => intro _ h1 h2; first | rfl | exact absurd rfl h1 | exact absurd rfl h2
      | 19 => intro _ h1 h2; first | rfl | exact absurd rfl h1 | exact absurd rfl h2
      | 20 => intro _ h1 h2; first | rfl | exact absurd rfl h1 | exact absurd rfl h2
      | 21 => intro _ h1 h2; first | rfl | exact absurd rfl h1 | exact absurd rfl h2
      | 22 => intro _ h1 h2; first | rfl | exact absurd rfl h1 | exact absurd rfl h2
      | 23 => intro _ h1 h2; first | rfl | exact absurd rfl h1 | exact absurd rfl h2
      | 24 => intro _ h1 h2; first | rfl | exact absurd rfl h1 | exact absurd rfl h2
      | 25 => intro _ h1 h2; first | rfl | exact absurd rfl h1 | exact absurd rfl h2
      | 26 => intro _ h1 h2; first | rfl | exact absurd rfl h1 | exact absurd rfl h2
      | 27 => intro _ h1 h2; first | rfl | exact absurd rfl h1 | exact absurd rfl h2
      | 28 => intro _ h1 h2; first | rfl | exact absurd rfl h1 | exact absurd rfl h2
      | 29 => intro _ h1 h2; first | rfl | exact absurd rfl h1 | exact absurd rfl h2
      | 30 => intro _ h1 h2; first | rfl | exact absurd rfl h1 | exact absurd rfl h2
      | 31 => intro _ h1 h2; first | rfl | exact absurd rfl h1 | exact absurd rfl h2
      | 32 => intro _ h1 h2; first | rfl | exact absurd rfl h1 | exact absurd rfl h2
      | 33 => intro _ h1 h2; first | rfl | exact absurd rfl h1 | exact absurd rfl h2
      | 34 => intro _ h1 h2; first | rfl | exact absurd rfl h1 | exact absurd rfl h2
      | 35 => intro _ h1 h2; first | rfl | exact absurd rfl h1 | exact absurd rfl h2
      | 36 => intro _ h1 h2; first | rfl | exact absurd rfl h1 | exact absurd rfl h2
      | 37 => intro _ h1 h2; first | rfl | exact absurd rfl h1 | exact absurd rfl h2
      | 38 => intro _ h1 h2; first | rfl | exact absurd rfl h1 | exact absurd rfl h2
      | 39 => intro _ h1 h2; first | rfl | exact absurd rfl h1 | exact absurd rfl h2
      | 40 => intro _ h1 h2; first | rfl | exact absurd rfl h1 | exact absurd rfl h2
      | 41 => intro _ h1 h2; first | rfl | exact absurd rfl h1 | exact absurd rfl h2
      | 42 => intro _ h1 h2; first | rfl | exact absurd rfl h1 | exact absurd rfl h2
      | 43 => intro _ h1 h2; first | rfl | exact absurd rfl h1 | exact absurd rfl h2
      | 44 => intro _ h1 h2; first | rfl | exact absurd rfl h1 | exact absurd rfl h2
      | 45 => intro _ h1 h2; first | rfl | exact absurd rfl h1 | exact absurd rfl h2
      | 46 => intro _ h1 h2; first | rfl | exact absurd rfl h1 | exact absurd rfl h2
      | 47 => intro _ h1 h2; first | rfl | exact absurd rfl h1 | exact absurd rfl h2
      | 48 => intro _ h1 h2; first | rfl | exact absurd rfl h1 | exact absurd rfl h2
      | 49 => intro _ h1 h2; first | rfl | exact absurd rfl h1 | exact absurd rfl h2
      | 50 => intro _ h1 h2; first | rfl | exact absurd rfl h1 | exact absurd rfl h2
      | 51 => intro _ h1 h2; first | rfl | exact absurd rfl h1 | exact absurd rfl h2
      | 52 => intro _ h1 h2; first | rfl | exact absurd rfl h1 | exact absurd rfl h2
      | 53 => intro _ h1 h2; first | rfl | exact absurd rfl h1 | exact absurd rfl h2
      | 54 => intro _ h1 h2; first | rfl | exact absurd rfl h1 | exact absurd rfl h2
      | 55 => intro _ h1 h2; first | rfl | exact absurd rfl h1 | exact absurd rfl h2
      | 56 => intro _ h1 h2; first | rfl | exact absurd rfl h1 | exact absurd rfl h2
      | 57 => intro _ h1 h2; first | rfl | exact absurd rfl h1 | exact absurd rfl h2
      | 58 => intro _ h1 h2; first | rfl | exact absurd rfl h1 | exact absurd rfl h2
      | 59 => intro _ h1 h2; first | rfl | exact absurd rfl h1 | exact absurd rfl h2
      | 60 => intro _ h1 h2; first | rfl | exact absurd rfl h1 | exact absurd rfl h2
      | 61 => intro _ h1 h2; first | rfl | exact absurd rfl h1 | exact absurd rfl h2
      | 62 => intro _ h1 h2; first | rfl | exact absurd rfl h1 | exact absurd rfl h2
      | 63 => intro _ h1 h2; first | rfl | exact absurd rfl h1 | exact absurd rfl h2
      | 64 => intro _ h1 h2; first | rfl | exact absurd rfl h1 | exact absurd rfl h2
      | 65 => intro _ h1 h2; first | rfl | exact absurd rfl h1 | exact absurd rfl h2
      | 66 => intro _ h1 h2; first | rfl | exact absurd rfl h1 | exact absurd rfl h2
      | 67 => intro _ h1 h2; first | rfl | exact absurd rfl h1 | exact absurd rfl h2
      | 68 => intro _ h1 h2; first | rfl | exact absurd rfl h1 | exact absurd rfl h2
      | 69 => intro _ h1 h2; first | rfl | exact absurd rfl h1 | exact absurd rfl h2
      | 70 => intro _ h1 h2; first | rfl | exact absurd rfl h1 | exact absurd rfl h2
      | 71 => intro _ h1 h2; first | rfl | exact absurd rfl h1 | exact absurd rfl h2
      | 72 => intro _ h1 h2; first | rfl | exact absurd rfl h1 | exact absurd rfl h2
      | 73 => intro _ h1 h2; first | rfl | exact absurd rfl h1 | exact absurd rfl h2
      | 74 => intro _ h1 h2; first | rfl | exact absurd rfl h1 | exact absurd rfl h2
      | 75 => intro _ h1 h2; first | rfl | exact absurd rfl h1 | exact absurd rfl h2
      | 76 => intro _ h1 h2; first | rfl | exact absurd rfl h1 | exact absurd rfl h2
      | 77 => intro _ h1 h2; first | rfl | exact absurd rfl h1 | exact absurd rfl h2
      | 78 => intro _ h1 h2; first | rfl | exact absurd rfl h1 | exact absurd rfl h2
      | 79 => intro _ h1 h2; first | rfl | exact absurd rfl h1 | exact absurd rfl h2
      | 80 => intro _ h1 h2; first | rfl | exact absurd rfl h1 | exact absurd rfl h2
      | 81 => intro _ h1 h2; first | rfl | exact absurd rfl h1 | exact absurd rfl h2
      | 82 => intro _ h1 h2; first | rfl | exact absurd rfl h1 | exact absurd rfl h2
      | 83 => intro _ h1 h2; first | rfl | exact absurd rfl h1 | exact absurd rfl h2
      | 84 => intro _ h1 h2; first | rfl | exact absurd rfl h1 | exact absurd rfl h2
      | 85 => intro _ h1 h2; first | rfl | exact absurd rfl h1 | exact absurd rfl h2
      | 86 => intro _ h1 h2; first | rfl | exact absurd rfl h1 | exact absurd rfl h2
      | 87 => intro _ h1 h2; first | rfl | exact absurd rfl h1 | exact absurd rfl h2
      | 88 => intro _ h1 h2; first | rfl | exact absurd rfl h1 | exact absurd rfl h2
      | 89 => intro _ h1 h2; first | rfl | exact absurd rfl h1 | exact absurd rfl h2
      | 90 => intro _ h1 h2; first | rfl | exact absurd rfl h1 | exact absurd rfl h2
      | 91 => intro _ h1 h2; first | rfl | exact absurd rfl h1 | exact absurd rfl h2
      | 92 => intro _ h1 h2; first | rfl | exact absurd rfl h1 | exact absurd rfl h2
      | 93 => intro _ h1 h2; first | rfl | exact absurd rfl h1 | exact absurd rfl h2
      | 94 => intro _ h1 h2; first | rfl | exact absurd rfl h1 | exact absurd rfl h2
      | 95 => intro _ h1 h2; first | rfl | exact absurd rfl h1 | exact absurd rfl h2
      | 96 => intro _ h1 h2; first | rfl | exact absurd rfl h1 | exact absurd rfl h2
      | 97 => intro _ h1 h2; first | rfl | exact absurd rfl h1 | exact absurd rfl h2
      | 98 => intro _ h1 h2; first | rfl | exact absurd rfl h1 | exact absurd rfl h2
      | n + 99 =>
        intro hp
        omega
    exact this p hp h1 h2 ru ta
  · rw [xn_eq, xn_eq, List.getElem?_eq_none (by show 99 ≤ p; omega), List.getElem?_eq_none (by show 99 ≤ p; omega)]
set_option maxRecDepth 100000 in
theorem shX {sh : List XO} (h : shO CF sh) : ∃ ru ta rs, ru ∈ txP ∧ ta ∈ txP ∧ sh = shH ru ta rs := by
  have h23 : ∃ ru, ru ∈ txP ∧ xn sh 23 = some (.inl (2, [some 12, some ru, some 24, some 25])) := by
    obtain ⟨x, hx, ha⟩ := h 23 (.inl (2, [some [12], some [18, 47, 52, 57, 62], some [24], some [25]])) (by decide +kernel)
    cases x with
    | inr b => exact ha.elim
    | inl b =>
      obtain ⟨b1, b2⟩ := b
      obtain ⟨a1, a2⟩ := ha
      dsimp only at a1 a2
      obtain ⟨ru, hru, e1⟩ := a2.2.1 1 _ rfl
      refine ⟨ru, hru, ?_⟩
      obtain ⟨p0, hp0, e0⟩ := a2.2.1 0 _ rfl
      obtain ⟨p2, hp2, e2⟩ := a2.2.1 2 _ rfl
      obtain ⟨p3, hp3, e3⟩ := a2.2.1 3 _ rfl
      rw [List.mem_singleton.mp hp0] at e0
      rw [List.mem_singleton.mp hp2] at e2
      rw [List.mem_singleton.mp hp3] at e3
      have hl := a2.1
      match b2, hl, e0, e1, e2, e3 with
      | [x0, x1, x2, x3], _, e0, e1, e2, e3 =>
        cases e0
        cases e1
        cases e2
        cases e3
        rw [hx, ← a1]
  have h35 : ∃ ta, ta ∈ txP ∧ xn sh 35 = some (.inl (5, [some 30, some ta, none, none, none, none, none, none, none])) := by
    obtain ⟨x, hx, ha⟩ := h 35 (.inl (5, [some [30], some [18, 47, 52, 57, 62], none, none, none, none, none, none, none])) (by decide +kernel)
    cases x with
    | inr b => exact ha.elim
    | inl b =>
      obtain ⟨b1, b2⟩ := b
      obtain ⟨a1, a2⟩ := ha
      dsimp only at a1 a2
      obtain ⟨ta, hta, e1⟩ := a2.2.1 1 _ rfl
      refine ⟨ta, hta, ?_⟩
      obtain ⟨p0, hp0, e0⟩ := a2.2.1 0 _ rfl
      rw [List.mem_singleton.mp hp0] at e0
      have e2 := a2.2.2 2 rfl
      have e3 := a2.2.2 3 rfl
      have e4 := a2.2.2 4 rfl
      have e5 := a2.2.2 5 rfl
      have e6 := a2.2.2 6 rfl
      have e7 := a2.2.2 7 rfl
      have e8 := a2.2.2 8 rfl
      have hl := a2.1
      match b2, hl, e0, e1, e2, e3, e4, e5, e6, e7, e8 with
      | [x0, x1, x2, x3, x4, x5, x6, x7, x8], _, e0, e1, e2, e3, e4, e5, e6, e7, e8 =>
        cases e0
        cases e1
        cases e2
        cases e3
        cases e4
        cases e5
        cases e6
        cases e7
        cases e8
        rw [hx, ← a1]
  obtain ⟨ru, hru, e23⟩ := h23
  obtain ⟨ta, hta, e35⟩ := h35
  have hall : ∀ i, i < (shH ru ta []).length → xn sh i = xn (shH ru ta []) i := by
    intro i hi
    by_cases h1 : i = 23
    · subst h1
      exact e23
    · by_cases h2 : i = 35
      · subst h2
        exact e35
      · rw [shH_ne ru ta i h1 h2]
        have y := okPl_all i hi h1 h2
        unfold okPl at y
        split at y
        · rename_i o eo
          split at y
          · rename_i z ez
            obtain ⟨x, hx, ha⟩ := h i o eo
            rw [hx, cnc_ok ez ha]
            exact (of_decide_eq_true y).symm
          · cases y
        · cases y
  obtain ⟨rs, hrs⟩ := xn_pre hall
  exact ⟨ru, ta, rs, hru, hta, hrs⟩
/-- contracts made by hand -/
theorem ag1 {p : Nat} {as : List Value} (h : agO [.inr (.inl [p])] as) : as = [.ref p] := by
  match as, h with
  | [.ref q], h => rw [List.mem_singleton.mp h.1]
theorem ag1i {p : Nat} {r : Int × Int} {as : List Value} (h : agO [.inr (.inl [p]), .inl r] as) : ∃ x, as = [.ref p, .int x] ∧ inI r x.toInt := by
  match as, h with
  | [.ref q, .int x], h => exact ⟨x, by rw [List.mem_singleton.mp h.1], h.2.1⟩
theorem ag1ii {p : Nat} {r s : Int × Int} {as : List Value} (h : agO [.inr (.inl [p]), .inl r, .inl s] as) : ∃ x y, as = [.ref p, .int x, .int y] ∧ inI r x.toInt ∧ inI s y.toInt := by
  match as, h with
  | [.ref q, .int x, .int y], h => exact ⟨x, y, by rw [List.mem_singleton.mp h.1], h.2.1, h.2.2.1⟩
theorem ag1iii {p : Nat} {r s t : Int × Int} {as : List Value} (h : agO [.inr (.inl [p]), .inl r, .inl s, .inl t] as) : ∃ x y z, as = [.ref p, .int x, .int y, .int z] ∧ inI r x.toInt ∧ inI s y.toInt ∧ inI t z.toInt := by
  match as, h with
  | [.ref q, .int x, .int y, .int z], h => exact ⟨x, y, z, by rw [List.mem_singleton.mp h.1], h.2.1, h.2.2.1, h.2.2.2.1⟩
theorem agi {r : Int × Int} {as : List Value} (h : agO [.inl r] as) : ∃ x, as = [.int x] ∧ inI r x.toInt := by
  match as, h with
  | [.int x], h => exact ⟨x, rfl, h.1⟩
theorem one_post {gs : List AG} {as : List Value} {g : AG} {v : Option Value} {I : XI} (ha : agO gs as) (hv : rvO g v) : pstO as (aInts gs, g, []) v I := ⟨fun _ _ _ h1 h2 => agO_in ha h2 h1, hv, fun e he => by cases he⟩
end
section
-- ===== the two Strings: length, charAt, indexOf =====
theorem plJ0 : plainName xxJ0.1 = true := by decide +kernel
theorem plJ1 : plainName xxJ1.1 = true := by decide +kernel
theorem plJ3 : plainName xxJ3.1 = true := by decide +kernel
set_option maxRecDepth 100000 in
theorem js_coder (l : Launch) (d q : Nat) (hq : q = 900001 ∨ q = 900002) (sh : List XO) (I : XI) (J : XJ) (Rp : XR) (hR : Rp (some (.int 0)) sh I J) : xm l (d + 1) 0 0 mJ0_coder_7d493 [.ref q] sh I J Rp := by
  rcases hq with rfl | rfl
  · refine xm_ofK 0 (X := xxJ0) (t := tJ0_coder_7d493) (stop := []) (ini := false) xxj0 plJ0 rfl kJ0_coder_7d493 (fun h => by cases h) (Nat.le_of_ble_eq_true rfl) (fun K hK => ?_)
    exact And.intro (fun h => absurd h (by decide)) (fun _ => And.intro rfl hR)
  · refine xm_ofK 0 (X := xxJ0) (t := tJ0_coder_7d493) (stop := []) (ini := false) xxj0 plJ0 rfl kJ0_coder_7d493 (fun h => by cases h) (Nat.le_of_ble_eq_true rfl) (fun K hK => ?_)
    exact And.intro (fun h => absurd h (by decide)) (fun _ => And.intro rfl hR)
set_option maxRecDepth 100000 in
theorem js_isLatin1 (l : Launch) (d q : Nat) (hq : q = 900001 ∨ q = 900002) (sh : List XO) (I : XI) (J : XJ) (Rp : XR) (hR : Rp (some (.int 1)) sh I J) : xm l (d + 1) 0 0 mJ0_isLatin1_aae02 [.ref q] sh I J Rp := by
  rcases hq with rfl | rfl
  · refine xm_ofK 0 (X := xxJ0) (t := tJ0_isLatin1_aae02) (stop := []) (ini := false) xxj0 plJ0 rfl kJ0_isLatin1_aae02 (fun h => by cases h) (Nat.le_of_ble_eq_true rfl) (fun K hK => ?_)
    exact And.intro (fun h => absurd h (by decide)) (fun _ => And.intro (fun h => absurd rfl h) (fun _ => And.intro (Or.inr rfl) hR))
  · refine xm_ofK 0 (X := xxJ0) (t := tJ0_isLatin1_aae02) (stop := []) (ini := false) xxj0 plJ0 rfl kJ0_isLatin1_aae02 (fun h => by cases h) (Nat.le_of_ble_eq_true rfl) (fun K hK => ?_)
    exact And.intro (fun h => absurd h (by decide)) (fun _ => And.intro (fun h => absurd rfl h) (fun _ => And.intro (Or.inr rfl) hR))
theorem shr_0 (x : Int32) : x >>> ((0 : Int32) &&& 31) = x := by
  apply Int32.toBitVec_inj.mp
  rw [Int32.toBitVec_shiftRight, show (((0 : Int32) &&& 31).toBitVec.smod 32) = BitVec.ofNat 32 0 by decide]
  exact BitVec.eq_of_toInt_eq (by rw [BitVec.sshiftRight', BitVec.toInt_sshiftRight]; simp)
set_option maxRecDepth 100000 in
theorem js_length1 (l : Launch) (d : Nat) (sh : List XO) (I : XI) (J : XJ) (Rp : XR) (hR : Rp (some (.int 192)) sh I J) : xm l (d + 2) 0 0 mJ0_length_8abf5 [.ref 900001] sh I J Rp := by
  refine xm_ofK 0 (X := xxJ0) (t := tJ0_length_8abf5) (stop := []) (ini := false) xxj0 plJ0 rfl kJ0_length_8abf5 (fun h => by cases h) (Nat.le_of_ble_eq_true rfl) (fun K hK => ?_)
  refine js_coder l d 900001 (Or.inl rfl) _ _ _ _ ?_
  show Rp (some (.int ((192 : Int32) >>> ((0 : Int32) &&& 31)))) sh I J
  rw [shr_0]
  exact hR
set_option maxRecDepth 100000 in
theorem js_length2 (l : Launch) (d : Nat) (sh : List XO) (I : XI) (J : XJ) (Rp : XR) (hR : Rp (some (.int 11)) sh I J) : xm l (d + 2) 0 0 mJ0_length_8abf5 [.ref 900002] sh I J Rp := by
  refine xm_ofK 0 (X := xxJ0) (t := tJ0_length_8abf5) (stop := []) (ini := false) xxj0 plJ0 rfl kJ0_length_8abf5 (fun h => by cases h) (Nat.le_of_ble_eq_true rfl) (fun K hK => ?_)
  refine js_coder l d 900002 (Or.inr rfl) _ _ _ _ ?_
  show Rp (some (.int ((11 : Int32) >>> ((0 : Int32) &&& 31)))) sh I J
  rw [shr_0]
  exact hR
set_option maxRecDepth 100000 in
theorem js_pre (l : Launch) (d : Nat) (i n : Int32) (v : Value) (hv : v = .null ∨ v = .ref 900007) (h0 : ¬ i < 0) (h1 : i < n) (sh : List XO) (I : XI) (J : XJ) (Rp : XR) (hR : Rp (some (.int i)) sh I J) : xm l (d + 1) 0 0 mJ3_checkIndex_8e157 [.int i, .int n, v] sh I J Rp := by
  rcases hv with rfl | rfl
  · refine xm_ofK 0 (X := xxJ3) (t := tJ3_checkIndex_8e157) (stop := []) (ini := false) xxj3 plJ3 rfl kJ3_checkIndex_8e157 (fun h => by cases h) (Nat.le_of_ble_eq_true rfl) (fun K hK => ?_)
    exact And.intro (fun h => absurd h h0) (fun _ => And.intro (fun _ => hR) (fun h => absurd h1 h))
  · refine xm_ofK 0 (X := xxJ3) (t := tJ3_checkIndex_8e157) (stop := []) (ini := false) xxj3 plJ3 rfl kJ3_checkIndex_8e157 (fun h => by cases h) (Nat.le_of_ble_eq_true rfl) (fun K hK => ?_)
    exact And.intro (fun h => absurd h h0) (fun _ => And.intro (fun _ => hR) (fun h => absurd h1 h))
set_option maxRecDepth 100000 in
theorem js_check (l : Launch) (d : Nat) (i n : Int32) (h0 : ¬ i < 0) (h1 : i < n) (sh : List XO) (I : XI) (J : XJ) (Rp : XR) (hR : Rp none sh I J) : xm l (d + 2) 0 0 mJ0_checkIndex_df160 [.int i, .int n] sh I J Rp := by
  refine xm_ofK 0 (X := xxJ0) (t := tJ0_checkIndex_df160) (stop := []) (ini := false) xxj0 plJ0 rfl kJ0_checkIndex_df160 (fun h => by cases h) (Nat.le_of_ble_eq_true rfl) (fun K hK => ?_)
  refine And.intro ?_ ?_
  · exact js_pre l d i n .null (Or.inl rfl) h0 h1 _ _ _ _ hR
  · exact js_pre l d i n (.ref 900007) (Or.inr rfl) h0 h1 _ _ _ _ hR
def jsB : List Int32 := ((xlk xkA 900003).getD (0, 0, [])).2.2
/-- the letter at k of the words -/
def jsC (k : Nat) : Int32 := ((jsB.getD k 0 &&& 255).toUInt32 % 65536).toInt32
theorem jsC_char : ∀ k, k < 192 → narrow .char (.int (jsC k)) = .int (jsC k) := by decide +kernel
set_option maxRecDepth 100000 in
theorem js_charAtL (l : Launch) (d k : Nat) (hk : k < 192) (sh : List XO) (I : XI) (J : XJ) (Rp : XR) (hR : Rp (some (.int (jsC k))) sh I J) : xm l (d + 3) 0 0 mJ1_charAt_3b067 [.ref 900003, .int (nI k)] sh I J Rp := by
  refine xm_ofK 0 (X := xxJ1) (t := tJ1_charAt_3b067) (stop := []) (ini := false) xxj1 plJ1 rfl kJ1_charAt_3b067 (fun h => by cases h) (Nat.le_of_ble_eq_true rfl) (fun K hK => ?_)
  refine js_check l d (nI k) 192 (nI_pos (by omega)) (nI_lt (b := 192) hk (by omega)) _ _ _ _ ?_
  refine And.intro (vp_in_nI (N := 192) hk (by omega)) ?_
  have e : ((jsB.getD (nI k).toNatClampNeg 0 &&& 255).toUInt32 % 65536).toInt32 = jsC k := by rw [nI_clamp (by omega)]; rfl
  have y : narrow .char (.int ((jsB.getD (nI k).toNatClampNeg 0 &&& 255).toUInt32 % 65536).toInt32) = .int ((jsB.getD (nI k).toNatClampNeg 0 &&& 255).toUInt32 % 65536).toInt32 ∧ Rp (some (.int ((jsB.getD (nI k).toNatClampNeg 0 &&& 255).toUInt32 % 65536).toInt32)) sh I J := by
    rw [e]
    exact ⟨jsC_char k hk, hR⟩
  exact y
set_option maxRecDepth 100000 in
theorem js_charAt (l : Launch) (d k : Nat) (hk : k < 192) (sh : List XO) (I : XI) (J : XJ) (Rp : XR) (hR : Rp (some (.int (jsC k))) sh I J) : xm l (d + 4) 0 0 mJ0_charAt_5068e [.ref 900001, .int (nI k)] sh I J Rp := by
  refine xm_ofK 0 (X := xxJ0) (t := tJ0_charAt_5068e) (stop := []) (ini := false) xxj0 plJ0 rfl kJ0_charAt_5068e (fun h => by cases h) (Nat.le_of_ble_eq_true rfl) (fun K hK => ?_)
  refine js_isLatin1 l (d + 2) 900001 (Or.inl rfl) _ _ _ _ ?_
  refine And.intro (fun h => absurd h (by decide)) (fun _ => ?_)
  refine js_charAtL l d k hk _ _ _ _ ?_
  exact And.intro (jsC_char k hk) hR
set_option maxRecDepth 100000 in
theorem js_can (l : Launch) (d : Nat) (c : Int32) (sh : List XO) (I : XI) (J : XJ) (Rp : XR) (h1 : 0 ≤ c → c ≤ 255 → Rp (some (.int 1)) sh I J) (h0 : ¬ (0 ≤ c ∧ c ≤ 255) → Rp (some (.int 0)) sh I J) : xm l (d + 1) 0 0 mJ1_canEncode_9a6ad [.int c] sh I J Rp := by
  refine xm_ofK 0 (X := xxJ1) (t := tJ1_canEncode_9a6ad) (stop := []) (ini := false) xxj1 plJ1 rfl kJ1_canEncode_9a6ad (fun h => by cases h) (Nat.le_of_ble_eq_true rfl) (fun K hK => ?_)
  refine And.intro (fun h => And.intro (Or.inl rfl) (h0 fun z => absurd h (Int32.not_lt.mpr z.1))) (fun h => ?_)
  exact And.intro (fun g => And.intro (Or.inl rfl) (h0 fun z => absurd g (Int32.not_lt.mpr z.2))) (fun g => And.intro (Or.inr rfl) (h1 (Int32.not_lt.mp h) (Int32.not_lt.mp g)))
def jsS : List Int32 := ((xlk xkA 900004).getD (0, 0, [])).2.2
def jsX (c : Int32) : List Int32 → Nat → Int32
  | [], _ => -1
  | b :: r, k => if b = c.toInt8.toInt32 then nI k else jsX c r (k + 1)
set_option maxRecDepth 100000 in
theorem js_ixLoop (l : Launch) (d : Nat) (c : Int32) (sh : List XO) (I : XI) (J : XJ) (Rp : XR) : ∀ (m k n : Nat), k + m = 11 → m < n → Rp (some (.int (jsX c (jsS.drop k) k))) sh I J → xrun xxJ1 (some .int) false false sh.length 0 0 none l d tJ1_indexOfChar_4cfef [7] Rp n 7 [some (.ref 900004), some (.int c), some (.int 0), some (.int 11), some (.int c.toInt8.toInt32), some (.int (nI k))] [] sh I J 0 0 := by
  intro m
  induction m with
  | zero =>
    intro k n hk hn hR
    obtain ⟨n, rfl⟩ : ∃ n', n = n' + 1 := ⟨n - 1, by omega⟩
    have hk : k = 11 := by omega
    subst hk
    refine xrun_step fun K hK => ?_
    exact And.intro (fun _ => hR) (fun h => absurd (show (11 : Int32) ≤ nI 11 by decide) h)
  | succ m ih =>
    intro k n hk hn hR
    obtain ⟨n, rfl⟩ : ∃ n', n = n' + 1 := ⟨n - 1, by omega⟩
    have e : jsS.drop k = jsS.getD k 0 :: jsS.drop (k + 1) := by
      have : ∀ k, k < 11 → jsS.drop k = jsS.getD k 0 :: jsS.drop (k + 1) := by decide +kernel
      exact this k (by omega)
    rw [e] at hR
    replace hR : Rp (some (.int (if jsS.getD k 0 = c.toInt8.toInt32 then nI k else jsX c (jsS.drop (k + 1)) (k + 1)))) sh I J := hR
    refine xrun_step fun K hK => ?_
    refine And.intro (fun h => absurd h (nI_ge (a := k) (b := 11) (by omega) (by omega))) (fun _ => ?_)
    refine And.intro (vp_in_nI (N := 11) (by omega) (by omega)) ?_
    have ec : (nI k).toNatClampNeg = k := nI_clamp (by omega)
    refine And.intro (fun h => ?_) (fun h => ?_)
    · replace h : ¬ jsS.getD (nI k).toNatClampNeg 0 = c.toInt8.toInt32 := h
      rw [ec] at h
      rw [if_neg h] at hR
      refine hK 7 [some (.ref 900004), some (.int c), some (.int 0), some (.int 11), some (.int c.toInt8.toInt32), some (.int (nI k + 1))] [] sh I J 0 0 ?_
      rw [nI_1]
      exact ih (k + 1) n (by omega) (by omega) hR
    · replace h : jsS.getD (nI k).toNatClampNeg 0 = c.toInt8.toInt32 := h
      rw [ec] at h
      rw [if_pos h] at hR
      exact hR
set_option maxRecDepth 100000 in
theorem js_ixChar (l : Launch) (d : Nat) (c : Int32) (sh : List XO) (I : XI) (J : XJ) (Rp : XR) (hR : Rp (some (.int (jsX c jsS 0))) sh I J) : xm l (d + 1) 0 0 mJ1_indexOfChar_4cfef [.ref 900004, .int c, .int 0, .int 11] sh I J Rp := by
  refine xm_ofK 12 (X := xxJ1) (t := tJ1_indexOfChar_4cfef) (stop := [7]) (ini := false) xxj1 plJ1 rfl kJ1_indexOfChar_4cfef (fun h => by cases h) (Nat.le_of_ble_eq_true rfl) (fun K hK => ?_)
  exact hK 7 [some (.ref 900004), some (.int c), some (.int 0), some (.int 11), some (.int c.toInt8.toInt32), some (.int (nI 0))] [] sh I J 0 0 (js_ixLoop l d c sh I J Rp 11 0 12 rfl (by omega) hR)
def jsIx (c : Int32) : Int32 := if 0 ≤ c ∧ c ≤ 255 then jsX c jsS 0 else -1
set_option maxRecDepth 100000 in
theorem js_ixL (l : Launch) (d : Nat) (c : Int32) (sh : List XO) (I : XI) (J : XJ) (Rp : XR) (hR : Rp (some (.int (jsIx c))) sh I J) : xm l (d + 2) 0 0 mJ1_indexOf_4cfef [.ref 900004, .int c, .int 0, .int 11] sh I J Rp := by
  unfold jsIx at hR
  refine xm_ofK 0 (X := xxJ1) (t := tJ1_indexOf_4cfef) (stop := []) (ini := false) xxj1 plJ1 rfl kJ1_indexOf_4cfef (fun h => by cases h) (Nat.le_of_ble_eq_true rfl) (fun K hK => ?_)
  refine js_can l d c _ _ _ _ (fun h1 h2 => ?_) (fun h => ?_)
  · rw [if_pos ⟨h1, h2⟩] at hR
    refine And.intro (fun _ => ?_) (fun h => absurd h (by decide))
    refine And.intro (fun _ => ?_) (fun h => absurd (show (0 : Int32) < 11 by decide) h)
    exact js_ixChar l d c _ _ _ _ hR
  · rw [if_neg h] at hR
    exact And.intro (fun h => absurd rfl h) (fun _ => hR)
set_option maxRecDepth 100000 in
theorem js_ix2 (l : Launch) (d : Nat) (c : Int32) (sh : List XO) (I : XI) (J : XJ) (Rp : XR) (hR : Rp (some (.int (jsIx c))) sh I J) : xm l (d + 3) 0 0 mJ0_indexOf_7cf53 [.ref 900002, .int c, .int 0] sh I J Rp := by
  refine xm_ofK 0 (X := xxJ0) (t := tJ0_indexOf_7cf53) (stop := []) (ini := false) xxj0 plJ0 rfl kJ0_indexOf_7cf53 (fun h => by cases h) (Nat.le_of_ble_eq_true rfl) (fun K hK => ?_)
  refine js_isLatin1 l (d + 1) 900002 (Or.inr rfl) _ _ _ _ ?_
  refine And.intro (fun h => absurd h (by decide)) (fun _ => ?_)
  refine js_length2 l d _ _ _ _ ?_
  exact js_ixL l d c _ _ _ _ hR
set_option maxRecDepth 100000 in
theorem js_ix (l : Launch) (d : Nat) (c : Int32) (sh : List XO) (I : XI) (J : XJ) (Rp : XR) (hR : Rp (some (.int (jsIx c))) sh I J) : xm l (d + 4) 0 0 mJ0_indexOf_0f7a4 [.ref 900002, .int c] sh I J Rp := by
  refine xm_ofK 0 (X := xxJ0) (t := tJ0_indexOf_0f7a4) (stop := []) (ini := false) xxj0 plJ0 rfl kJ0_indexOf_0f7a4 (fun h => by cases h) (Nat.le_of_ble_eq_true rfl) (fun K hK => ?_)
  exact js_ix2 l d c _ _ _ _ hR
theorem nI_inI {x : Int32} {a b : Int} (h : inI (a, b) x.toInt) (ha : 0 ≤ a) : ∃ n : Nat, x = nI n ∧ a ≤ (n : Int) ∧ (n : Int) ≤ b ∧ n < 2 ^ 31 := by
  have h1 := h.1
  have h2 := h.2
  dsimp only at h1 h2
  have hl := Int32.toInt_lt x
  refine ⟨x.toInt.toNat, ?_, by omega, by omega, by omega⟩
  apply Int32.toInt_inj.mp
  rw [nI_toInt (by omega)]
  omega
end
