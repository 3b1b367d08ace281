-- ===== when to sell: when =====
theorem gwN_n {Q : Tld} {L : Lws} {j : Nat} (hj : 8 ≤ j) : ∀ (m : Nat) (w : Rw) (t : Nat), t + m ≤ 8 → gwN Q L m w t j = w j
  | 0, _, _, _ => rfl
  | m + 1, w, t, h => by
    unfold gwN
    split
    · rw [gwN_n hj m _ (t + 1) (by omega), upd_n (by omega)]
    · rfl
-- the reference
