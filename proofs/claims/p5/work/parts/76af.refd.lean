set_option maxHeartbeats 1000000 in
theorem cu_no5 {Q : Tld} {L : Lws} {w : Rw} {t r bn : Nat} (h : frB w = 12) : cuOK Q L w t r bn = false := by
  unfold cuOK
  rw [decide_eq_true h]
  simp
