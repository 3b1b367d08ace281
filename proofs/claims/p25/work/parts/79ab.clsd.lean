theorem cu_comm (w : Rw) {t r b : Nat} (ht : t < 8) (hr : r < 4) (hb : b < 12) (g kd len bn : Int32) : baI (upd (upd w t g) (12 + r) (nI 1)) b kd len bn = upd (upd (baI w b kd len bn) t g) (12 + r) (nI 1) := by
  funext k
  unfold baI
  by_cases e1 : k = 52 + b
  · subst e1
    rw [upd_s, upd_n (by omega), upd_n (by omega), upd_s]
  rw [upd_n e1]
  by_cases e2 : k = 40 + b
  · subst e2
    rw [upd_s, upd_n (by omega), upd_n (by omega), upd_n (by omega), upd_s]
  rw [upd_n e2]
  by_cases e3 : k = 28 + b
  · subst e3
    rw [upd_s, upd_n (by omega), upd_n (by omega), upd_n (by omega), upd_n (by omega), upd_s]
  rw [upd_n e3]
  by_cases e4 : k = 16 + b
  · subst e4
    rw [upd_s, upd_n (by omega), upd_n (by omega), upd_n (by omega), upd_n (by omega), upd_n (by omega), upd_s]
  rw [upd_n e4]
  by_cases e5 : k = 12 + r
  · subst e5
    rw [upd_s, upd_s]
  rw [upd_n e5, upd_n e5]
  by_cases e6 : k = t
  · subst e6
    rw [upd_s, upd_s]
  rw [upd_n e6, upd_n e6, upd_n e1, upd_n e2, upd_n e3, upd_n e4]
