-- ===== what else is so everywhere: the orders of the texts can be worked =====
/-- from order k on, with h numbers in the pile, the reference comes to the end in n orders -/
def stW (I : XI) : Nat → Nat → Nat → Prop
  | 0, _, _ => False
  | n + 1, k, h => k < 1600 ∧ (I 77 k = 408 ∨ ((I 77 k = 400 ∨ (I 77 k = 401 ∧ 0 ≤ (I 78 k).toInt ∧ (I 78 k).toInt ≤ 10)) ∧ h < 200 ∧ stW I n (k + 1) (h + 1)) ∨ ((I 77 k = 402 ∨ I 77 k = 403 ∨ I 77 k = 405) ∧ 1 ≤ h ∧ stW I n (k + 1) h) ∨ (¬ (I 77 k = 408 ∨ I 77 k = 400 ∨ I 77 k = 401 ∨ I 77 k = 402 ∨ I 77 k = 403 ∨ I 77 k = 405) ∧ 2 ≤ h ∧ stW I n (k + 1) (h - 1)))
/-- the same, and never at or behind lim -/
def stL (I : XI) (lim : Nat) : Nat → Nat → Nat → Prop
  | 0, _, _ => False
  | n + 1, k, h => k < lim ∧ (I 77 k = 408 ∨ ((I 77 k = 400 ∨ (I 77 k = 401 ∧ 0 ≤ (I 78 k).toInt ∧ (I 78 k).toInt ≤ 10)) ∧ h < 200 ∧ stL I lim n (k + 1) (h + 1)) ∨ ((I 77 k = 402 ∨ I 77 k = 403 ∨ I 77 k = 405) ∧ 1 ≤ h ∧ stL I lim n (k + 1) h) ∨ (¬ (I 77 k = 408 ∨ I 77 k = 400 ∨ I 77 k = 401 ∨ I 77 k = 402 ∨ I 77 k = 403 ∨ I 77 k = 405) ∧ 2 ≤ h ∧ stL I lim n (k + 1) (h - 1)))
theorem stL_W {I : XI} {lim : Nat} (hl : lim ≤ 1600) : ∀ (n k h : Nat), stL I lim n k h → stW I n k h
  | 0, _, _, z => z
  | n + 1, k, h, z => by
    unfold stL at z
    unfold stW
    refine ⟨by have := z.1; omega, ?_⟩
    rcases z.2 with y | y | y | y
    · exact Or.inl y
    · exact Or.inr (Or.inl ⟨y.1, y.2.1, stL_W hl n _ _ y.2.2⟩)
    · exact Or.inr (Or.inr (Or.inl ⟨y.1, y.2.1, stL_W hl n _ _ y.2.2⟩))
    · exact Or.inr (Or.inr (Or.inr ⟨y.1, y.2.1, stL_W hl n _ _ y.2.2⟩))
theorem stL_keep {I I' : XI} {lim lo : Nat} (h : ∀ i, lo ≤ i → i < lim → I' 77 i = I 77 i ∧ I' 78 i = I 78 i) : ∀ (n k h : Nat), lo ≤ k → stL I lim n k h → stL I' lim n k h
  | 0, _, _, _, z => z
  | n + 1, k, h0, hk, z => by
    unfold stL at z ⊢
    have e := h k hk z.1
    rw [e.1, e.2]
    refine ⟨z.1, ?_⟩
    rcases z.2 with y | y | y | y
    · exact Or.inl y
    · exact Or.inr (Or.inl ⟨y.1, y.2.1, stL_keep h n _ _ (by omega) y.2.2⟩)
    · exact Or.inr (Or.inr (Or.inl ⟨y.1, y.2.1, stL_keep h n _ _ (by omega) y.2.2⟩))
    · exact Or.inr (Or.inr (Or.inr ⟨y.1, y.2.1, stL_keep h n _ _ (by omega) y.2.2⟩))
def QQ (I : XI) : Prop := ∀ t j : Nat, t < 4 → (j : Int) < (I 71 t).toInt → (I 72 (24 * t + j)).toInt ≤ 4 → ∃ f : Nat, (I 73 (24 * t + j)).toInt = (f : Int) ∧ 400 * t ≤ f ∧ stL I (400 * t + 400) 1601 f 0
def QPl : List Nat := [71, 72, 73, 77, 78]
theorem stW_keep {I I' : XI} (h1 : I' 77 = I 77) (h2 : I' 78 = I 78) : ∀ (n k h : Nat), stW I n k h → stW I' n k h
  | 0, _, _, z => z
  | n + 1, k, h, z => by
    unfold stW at z ⊢
    rw [h1, h2]
    refine ⟨z.1, ?_⟩
    rcases z.2 with y | y | y | y
    · exact Or.inl y
    · exact Or.inr (Or.inl ⟨y.1, y.2.1, stW_keep h1 h2 n _ _ y.2.2⟩)
    · exact Or.inr (Or.inr (Or.inl ⟨y.1, y.2.1, stW_keep h1 h2 n _ _ y.2.2⟩))
    · exact Or.inr (Or.inr (Or.inr ⟨y.1, y.2.1, stW_keep h1 h2 n _ _ y.2.2⟩))
theorem qq_ok : qpO QQ QPl := by
  intro I I' h hq t j ht hj hw
  have e1 := h 71 (by decide)
  have e2 := h 72 (by decide)
  have e3 := h 73 (by decide)
  rw [e1] at hj
  rw [e2] at hw
  rw [e3]
  obtain ⟨f, hf, hl, hs⟩ := hq t j ht hj hw
  exact ⟨f, hf, hl, stL_keep (lo := 0) (fun i _ _ => ⟨congrFun (h 77 (by decide)) i, congrFun (h 78 (by decide)) i⟩) _ _ _ (Nat.zero_le _) hs⟩
