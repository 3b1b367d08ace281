-- ===== whose shadow, and when: whose, at =====
/-- the world with a thing full grown, no clouds, on a day -/
def hoR0 (w : Rw) (t dy : Nat) : Rw := upd (upd (upd w 65 (nI dy)) 66 (nI 0)) t (nI 100)
def hoRow (w : Rw) (t dy h : Nat) : Rw := upd (hoR0 w t dy) 64 (nI h)
theorem ok_up {w : Rw} (hw : WR w) {i n : Nat} (hn : n ≤ bdW i) : WR (upd w i (nI n)) := fun k hk h67 => by
  unfold upd
  by_cases e : k = i
  · rw [if_pos e, e]
    exact ⟨n, rfl, hn⟩
  · rw [if_neg e]
    exact hw k hk h67
theorem WR.hoR {w : Rw} (hw : WR w) {t dy : Nat} (ht : t < 8) (hd : dy ≤ 999) : WR (hoR0 w t dy) := by
  refine ok_up (ok_up (ok_up hw ?_) ?_) ?_
  · rw [show bdW 65 = 999 by decide]
    exact hd
  · exact Nat.zero_le _
  · unfold bdW
    rw [if_pos ht]
    exact Nat.le_refl _
theorem WR.ho {w : Rw} (hw : WR w) {t dy h : Nat} (ht : t < 8) (hd : dy ≤ 999) (hh : h ≤ 9) : WR (hoRow w t dy h) := ok_up (hw.hoR ht hd) (by rw [show bdW 64 = 9 by decide]; exact hh)
