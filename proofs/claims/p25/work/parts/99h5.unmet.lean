-- ===== which need is first unmet: unmet =====
theorem spN_o {L : Lws} {j : Nat} (hj : 64 ≤ j) : ∀ (m : Nat) (w : Rw) (k : Nat), k + m ≤ 12 → spN L m w k j = w j
  | 0, _, _, _ => rfl
  | m + 1, w, k, hk => by
    unfold spN
    split
    · rw [spN_o hj m _ (k + 1) (by omega)]
      unfold shR
      split
      · rw [upd_n (by omega), upd_n (by omega)]
      · unfold baI
        rw [upd_n (by omega), upd_n (by omega), upd_n (by omega), upd_n (by omega), upd_n (by omega), upd_n (by omega)]
    · exact spN_o hj m w (k + 1) (by omega)
-- the class
-- the reference
