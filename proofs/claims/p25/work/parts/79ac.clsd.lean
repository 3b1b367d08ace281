theorem la_comm (w : Rw) {r b : Nat} (hr : r < 4) (hb : b < 12) (kd len bn : Int32) : baI (upd w (8 + r) (nI 1)) b kd len bn = upd (baI w b kd len bn) (8 + r) (nI 1) := by
  funext k
  unfold baI
  by_cases e1 : k = 52 + b
  · subst e1
    rw [upd_s, upd_n (by omega), upd_s]
  rw [upd_n e1]
  by_cases e2 : k = 40 + b
  · subst e2
    rw [upd_s, upd_n (by omega), upd_n (by omega), upd_s]
  rw [upd_n e2]
  by_cases e3 : k = 28 + b
  · subst e3
    rw [upd_s, upd_n (by omega), upd_n (by omega), upd_n (by omega), upd_s]
  rw [upd_n e3]
  by_cases e4 : k = 16 + b
  · subst e4
    rw [upd_s, upd_n (by omega), upd_n (by omega), upd_n (by omega), upd_n (by omega), upd_s]
  rw [upd_n e4]
  by_cases e5 : k = 8 + r
  · subst e5
    rw [upd_s, upd_s]
  rw [upd_n e5, upd_n e5, upd_n e1, upd_n e2, upd_n e3, upd_n e4]
theorem nI_ne1 {a : Nat} (h : a < 2 ^ 31) : ¬ nI a = -1 := fun z => by
  have z := congrArg Int32.toInt z
  rw [nI_toInt h, show (-1 : Int32).toInt = -1 by decide] at z
  omega
set_option maxRecDepth 100000 in
theorem cw_bind (l : Launch) (d : Nat) (ru ta : Nat) (rs : List XO) (I : XI) (J : XJ) (Rp : XR) (T : Nat) (w : Rw) (hr : RC T w (I 27)) (hw : WR w) (hf : frB w < 12) (kd len bn : Int32) (hR : ∀ I' : XI, F24 27 I I' → RC T (baI w (frB w) kd len bn) (I' 27) → Rp (some (.int (nI (frB w)))) (shH ru ta rs) I' J) : xm l (d + 2) 0 0 mX10_bind [.ref 26, .int kd, .int len, .int bn] (shH ru ta rs) I J Rp := by
  have eb : bI (frB w) = nI (frB w) := bI_b hf
  have nb : ¬ bI (frB w) = -1 := fun z => by
    have := (bI_n (frB_le w)).mp z
    omega
  have ix : ∀ c, c < 1000 → (nI c + bI (frB w)).toNatClampNeg = c + frB w := fun c hc => by
    rw [eb]
    exact ix_c (by omega)
  have vx : ∀ c, c + 12 < 70 → vp_in (nI c + bI (frB w)) 69 := fun c hc => by
    rw [eb]
    exact vx_2 (by omega) (by omega)
  refine xm_ofK 0 (X := xxX10) (t := tX10_bind) (stop := []) (ini := false) xx10 pl10 rfl kX10_bind (fun h => by cases h) (Nat.le_of_ble_eq_true rfl) (fun K hK => ?_)
  refine cw_free l d ru ta rs I J _ T w hr hw ?_
  refine And.intro (fun z => absurd z nb) (fun _ => ?_)
  refine And.intro (vx 16 (by decide)) ?_
  refine And.intro (vx 28 (by decide)) ?_
  refine And.intro (vx 40 (by decide)) ?_
  refine And.intro (vx 52 (by decide)) ?_
  have fin := hR (uI (uI (uI (uI I 27 (16 + frB w) kd) 27 (28 + frB w) len) 27 (40 + frB w) (nI 0)) 27 (52 + frB w) bn) F24.rf.u.u.u.u (by
    rw [uI_eq, uI_eq, uI_eq, uI_eq]
    exact hr.ba hf kd len bn)
  rw [← ix 16 (by decide), ← ix 28 (by decide), ← ix 40 (by decide), ← ix 52 (by decide)] at fin
  rw [← eb] at fin
  exact fin
