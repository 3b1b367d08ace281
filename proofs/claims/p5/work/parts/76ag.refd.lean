set_option maxHeartbeats 1000000 in
theorem cu_no6 {Q : Tld} {L : Lws} {w : Rw} {t r bn : Nat} (h : isR Q w bn (ltR (nI (lgR Q L w t)) (nI (qC Q r))) = false) : cuOK Q L w t r bn = false := by
  unfold cuOK
  rw [h]
  simp
