set_option maxHeartbeats 1000000 in
theorem cu_no4 {Q : Tld} {L : Lws} {w : Rw} {t r bn : Nat} (h : lgR Q L w t = 0) : cuOK Q L w t r bn = false := by
  unfold cuOK
  rw [decide_eq_true h]
  simp
