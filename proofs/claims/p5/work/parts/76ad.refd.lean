set_option maxHeartbeats 1000000 in
theorem cu_no3 {Q : Tld} {L : Lws} {w : Rw} {t r bn : Nat} (h : maR Q L w t (lgR Q L w t) = false) : cuOK Q L w t r bn = false := by
  unfold cuOK
  rw [h]
  simp
