-- ===== the ranges are kept =====
theorem uI_rd {I : XI} {p k : Nat} {v : Int32} : uI I p k v p k = v := by
  rw [uI_eq]
  exact upd_s
theorem hld_id {y G : Nat} (h : y ≤ G) : (hld (y : Int) 0 G).toNat = y := by
  unfold hld
  rw [if_neg (by omega), if_neg (by omega)]
  rfl
theorem nW_lt (w : Rw) (k : Nat) : nW w k < 2 ^ 31 := by
  have := Int32.toInt_lt (w k)
  unfold nW
  unfold Int32.toNatClampNeg
  omega
theorem nlt {a b : Nat} (ha : a < 2 ^ 31) (hb : b < 2 ^ 31) : nI a < nI b ↔ a < b := by
  rw [Int32.lt_iff_toInt_lt, nI_toInt ha, nI_toInt hb]
  omega
theorem nle {a b : Nat} (ha : a < 2 ^ 31) (hb : b < 2 ^ 31) : nI a ≤ nI b ↔ a ≤ b := by
  rw [Int32.le_iff_toInt_le, nI_toInt ha, nI_toInt hb]
  omega
theorem npos {a : Nat} (ha : a < 2 ^ 31) : (0 : Int32) < nI a ↔ 0 < a := nlt (a := 0) (by omega) ha
theorem neq0 {a : Nat} (ha : a < 2 ^ 31) : nI a = 0 ↔ a = 0 := by
  constructor
  · intro z
    have z := congrArg Int32.toInt z
    rw [nI_toInt ha, show (0 : Int32).toInt = 0 from rfl] at z
    omega
  · intro z
    rw [z]
    rfl
theorem nsub_neg {a b : Nat} (h : a ≤ b) (hb : b < 2 ^ 31) : ¬ (0 : Int32) < nI a - nI b := by
  rw [Int32.lt_iff_toInt_lt, show (0 : Int32).toInt = 0 from rfl, i32_sub (by rw [nI_toInt (by omega), nI_toInt hb]; omega) (by rw [nI_toInt (by omega), nI_toInt hb]; omega), nI_toInt (by omega), nI_toInt hb]
  omega
theorem ndiv {a b : Nat} (ha : a < 2 ^ 31) (h0 : 0 < b) (hb : b < 2 ^ 31) : nI a / nI b = nI (a / b) := by
  have h1 : a / b ≤ a := Nat.div_le_self _ _
  apply Int32.toInt_inj.mp
  have hne : nI b ≠ -1 := fun z => by
    have z := congrArg Int32.toInt z
    rw [nI_toInt hb, show (-1 : Int32).toInt = -1 by decide] at z
    omega
  rw [Int32.toInt_div_of_ne_right _ _ hne, nI_toInt ha, nI_toInt hb, nI_toInt (by omega), Int.tdiv_eq_ediv_of_nonneg (by omega)]
  exact (Int.natCast_ediv a b).symm
theorem WR.u {w : Rw} (h : WR w) {i : Nat} {v : Int32} (hv : i < 69 → i ≠ 67 → okC i v) : WR (upd w i v) := by
  intro k hk h67
  by_cases e : k = i
  · subst e
    rw [upd_s]
    exact hv hk h67
  · rw [upd_n e]
    exact h k hk h67
theorem okC.mk {k n : Nat} (h : n ≤ bdW k) : okC k (nI n) := ⟨n, rfl, h⟩
/-- in range, but perhaps the length of bale b -/
def WRx (b : Nat) (w : Rw) : Prop := ∀ k, k < 69 → k ≠ 67 → k ≠ 28 + b → okC k (w k)
theorem WR.x {w : Rw} {b : Nat} (h : WR w) : WRx b w := fun k a c _ => h k a c
theorem WRx.ba {w : Rw} {b kd len bn : Nat} (h : WRx b w) (hb : b < 12) (h1 : kd ≤ 5) (h2 : len ≤ 999) (h3 : bn ≤ 3) : WR (baI w b (nI kd) (nI len) (nI bn)) := by
  intro k hk h67
  unfold baI
  by_cases e1 : k = 52 + b
  · subst e1
    rw [upd_s]
    exact okC.mk (by rw [bd_6 (by omega) (by omega)]; exact h3)
  · rw [upd_n e1]
    by_cases e2 : k = 40 + b
    · subst e2
      rw [upd_s]
      exact okC.mk (by omega)
    · rw [upd_n e2]
      by_cases e3 : k = 28 + b
      · subst e3
        rw [upd_s]
        exact okC.mk (by rw [bd_4 (by omega) (by omega)]; exact h2)
      · rw [upd_n e3]
        by_cases e4 : k = 16 + b
        · subst e4
          rw [upd_s]
          exact okC.mk (by rw [bd_3 (by omega) (by omega)]; exact h1)
        · rw [upd_n e4]
          exact h k hk h67 e3
theorem WR.x28 {w : Rw} {b : Nat} {v : Int32} (h : WR w) : WRx b (upd w (28 + b) v) := fun k a c e => by
  rw [upd_n e]
  exact h k a c
theorem WR.len {w : Rw} (h : WR w) {b : Nat} (hb : b < 12) : ∃ a, w (28 + b) = nI a ∧ a ≤ 999 := by
  obtain ⟨a, e, ha⟩ := h (28 + b) (by omega) (by omega)
  rw [bd_4 (by omega) (by omega)] at ha
  exact ⟨a, e, ha⟩
/-- a bale is less by y: what becomes of the row -/
theorem shR_eq {w : Rw} {b a y : Nat} (e : w (28 + b) = nI a) (ha : a ≤ 999) (hy : y ≤ 9999) : shR w b (nI y) = if y < a then upd w (28 + b) (nI (a - y)) else baI (upd w (28 + b) (nI a - nI y)) b (nI 0) (nI 0) (nI 0) := by
  unfold shR
  rw [e]
  by_cases c : y < a
  · rw [if_pos c, nI_subI (by omega) (by omega), if_pos ((npos (by omega)).mpr (by omega))]
  · rw [if_neg c, if_neg (nsub_neg (by omega) (by omega))]
theorem WR.sh {w : Rw} (h : WR w) {b y : Nat} (hb : b < 12) (hy : y ≤ 9999) : WR (shR w b (nI y)) := by
  obtain ⟨a, e, ha⟩ := h.len hb
  rw [shR_eq e ha hy]
  split
  · exact h.u (fun _ _ => okC.mk (by rw [bd_4 (by omega) (by omega)]; omega))
  · exact (h.x28).ba hb (by omega) (by omega) (by omega)
theorem WR.x68 {w : Rw} (h : WR w) : ∃ n, w 68 = nI n ∧ n < 30313 := by
  obtain ⟨n, e, hn⟩ := h 68 (by decide) (by decide)
  have z : bdW 68 = 30312 := by decide
  exact ⟨n, e, by omega⟩
theorem WR.d {w : Rw} (h : WR w) : WR (dr w) := by
  obtain ⟨n, e, hn⟩ := dr_x h.x68
  intro k hk h67
  by_cases z : k = 68
  · subst z
    have y : bdW 68 = 30312 := by decide
    exact ⟨n, e, by omega⟩
  · show okC k (upd w 68 _ k)
    rw [upd_n z]
    exact h k hk h67
theorem WR.dv {w : Rw} (h : WR w) {m : Nat} (h0 : 0 < m) (hm : m < 1000) : drv w (nI m) = nI (dN w m) ∧ dN w m < m := by
  obtain ⟨n, a, b, c⟩ := drv_t h.x68 h0 hm
  rw [c]
  exact ⟨a, b⟩
theorem WR.se {L : Lws} {w : Rw} (h : WR w) {b : Nat} (hb : b < 12) : WR (seW L w b) := (WR.x (h.u (fun _ z => absurd rfl z))).ba hb (by omega) (by omega) (by omega)
theorem ltR_n {a b : Nat} (ha : a < 2 ^ 31) (hb : b < 2 ^ 31) : ltR (nI a) (nI b) = nI (if a < b then a else b) := by
  unfold ltR
  by_cases c : a < b
  · rw [if_pos ((nlt ha hb).mpr c), if_pos c]
  · rw [if_neg (fun z => c ((nlt ha hb).mp z)), if_neg c]
theorem WR.gw {Q : Tld} {L : Lws} (hQ : qT Q ≤ 8) : ∀ (m : Nat) (w : Rw) (t : Nat), t + m ≤ 8 → WR w → WR (gwN Q L m w t)
  | 0, w, t, _, h => h
  | m + 1, w, t, ht, h => by
    unfold gwN
    split
    · refine WR.gw hQ m _ (t + 1) (by omega) (h.u (fun _ _ => ?_))
      have g := (h t (by omega) (by omega)).nw
      rw [bd_1 (by omega)] at g
      have r := grR_le (Q := Q) (L := L) (w := w) (t := t)
      rw [g.1, nI_add, ltR_n (by omega) (by omega)]
      refine okC.mk ?_
      rw [bd_1 (by omega)]
      split <;> omega
    · exact h
theorem WR.sp {L : Lws} : ∀ (m : Nat) (w : Rw) (b : Nat), b + m ≤ 12 → WR w → WR (spN L m w b)
  | 0, w, b, _, h => h
  | m + 1, w, b, hb, h => by
    unfold spN
    split
    · have g := (h (40 + b) (by omega) (by omega)).nw
      rw [bd_5 (by omega) (by omega)] at g
      have r := spR_le (L := L) (w := w) (b := b)
      refine WR.sp m _ (b + 1) (by omega) (WR.sh (h.u (fun _ _ => ?_)) (by omega) (by omega))
      rw [g.1, nI_add, ltR_n (by omega) (by omega)]
      refine okC.mk ?_
      rw [bd_5 (by omega) (by omega)]
      split <;> omega
    · exact WR.sp m w (b + 1) (by omega) h
theorem WR.h0r {w : Rw} (h : WR w) (h9 : w 64 < nI 9) : WR (hr0 w) := by
  unfold hr0
  have z : ∀ k, 8 ≤ k → k < 16 → okC k (nI 0) := fun k _ _ => okC.mk (Nat.zero_le _)
  refine WR.u (WR.u (WR.u (WR.u (h.u (fun _ _ => ?_)) (fun _ _ => z _ (by decide) (by decide))) (fun _ _ => z _ (by decide) (by decide))) (fun _ _ => z _ (by decide) (by decide))) (fun _ _ => z _ (by decide) (by decide))
  have g := (h 64 (by decide) (by decide)).nw
  have b9 : bdW 64 = 9 := by decide
  rw [g.1] at h9
  have c := (nlt (by omega) (by omega)).mp h9
  rw [g.1, nI_add]
  exact okC.mk (by omega)
theorem WR.dw {w : Rw} (h : ∀ k, k < 69 → k ≠ 67 → k ≠ 64 → okC k (w k)) (h65 : w 65 < nI 999) : WR (dw0 w) := by
  have h68 : ∃ n, w 68 = nI n ∧ n < 30313 := by
    obtain ⟨n, e, hn⟩ := h 68 (by decide) (by decide) (by decide)
    have z : bdW 68 = 30312 := by decide
    exact ⟨n, e, by omega⟩
  have w0 : WR (upd (upd w 64 (nI 0)) 65 (w 65 + nI 1)) := by
    intro k hk h67
    by_cases e : k = 65
    · subst e
      rw [upd_s]
      obtain ⟨n, e, hn⟩ := h 65 (by decide) (by decide) (by decide)
      have b9 : bdW 65 = 999 := by decide
      rw [e] at h65 ⊢
      have c := (nlt (by omega) (by omega)).mp h65
      rw [nI_add]
      exact okC.mk (by omega)
    · rw [upd_n e]
      by_cases e2 : k = 64
      · subst e2
        rw [upd_s]
        exact okC.mk (Nat.zero_le _)
      · rw [upd_n e2]
        exact h k hk h67 e2
  unfold dw0
  refine WR.u w0.d (fun _ _ => ?_)
  obtain ⟨n, a, b, c⟩ := drv_t (m := 10) h68 (by decide) (by decide)
  rw [a]
  have b9 : bdW 66 = 9 := by decide
  exact okC.mk (by omega)
/-- as an hour has passed, the tenth: all is in range but the hour -/
theorem WR.h0x {w : Rw} (h : WR w) (hc : cnP w = true) (e : w 64 + nI 1 = nI 10) : (∀ k, k < 69 → k ≠ 67 → k ≠ 64 → okC k (hr0 w k)) ∧ hr0 w 65 < nI 999 := by
  have g := (h 64 (by decide) (by decide)).nw
  have b9 : bdW 64 = 9 := by decide
  unfold cnP at hc
  rw [Bool.or_eq_true] at hc
  rw [g.1, nI_add] at e
  have e9 : nW w 64 + 1 = 10 := nI_small e (by omega) (by omega)
  refine ⟨fun k hk h67 h64 => ?_, ?_⟩
  · unfold hr0
    by_cases e15 : k = 15
    · subst e15; exact okC.mk (Nat.zero_le _)
    by_cases e14 : k = 14
    · subst e14; exact okC.mk (Nat.zero_le _)
    by_cases e13 : k = 13
    · subst e13; exact okC.mk (Nat.zero_le _)
    by_cases e12 : k = 12
    · subst e12; exact okC.mk (Nat.zero_le _)
    rw [upd_n e15, upd_n e14, upd_n e13, upd_n e12, upd_n h64]
    exact h k hk h67
  · show w 65 < nI 999
    rcases hc with hc | hc
    · exact of_decide_eq_true hc
    · exfalso
      have y := of_decide_eq_true hc
      rw [g.1] at y
      have := (nlt (by omega) (by omega)).mp y
      omega
theorem WR.w0 {w : Rw} (h : WR w) (hc : cnP w = true) (e : w 64 + nI 1 = nI 10) : WR (dw0 (hr0 w)) := WR.dw (h.h0x hc e).1 (h.h0x hc e).2
theorem WR.day {Q : Tld} {L : Lws} (hQ : qT Q ≤ 8) {w : Rw} (h : WR (dw0 w)) : WR (dayR Q L w) := by
  unfold dayR
  exact WR.sp 12 _ 0 (by omega) (WR.gw hQ _ _ 0 (by omega) h)
theorem WR.hr {Q : Tld} {L : Lws} (hQ : qT Q ≤ 8) {w : Rw} (h : WR w) (hc : cnP w = true) : WR (hrR Q L w) := by
  have g := (h 64 (by decide) (by decide)).nw
  have b9 : bdW 64 = 9 := by decide
  unfold hrR
  split
  · exact WR.day hQ (h.w0 hc (by assumption))
  · rename_i e
    refine h.h0r ?_
    rw [g.1]
    refine (nlt (by omega) (by omega)).mpr ?_
    have ne : nW w 64 + 1 ≠ 10 := fun z => e (by rw [g.1, nI_add, z])
    omega
theorem WR.pt {Q : Tld} {L : Lws} (hQ : qT Q ≤ 8) : ∀ (n : Nat) (w : Rw), WR w → WR (ptR Q L n w)
  | 0, w, h => h
  | n + 1, w, h => by
    unfold ptR
    split
    · exact WR.pt hQ n _ (h.hr hQ (by assumption))
    · exact h
theorem cuOK_el {Q : Tld} {L : Lws} {w : Rw} {t r bn : Nat} (h : cuOK Q L w t r bn = true) : ¬ w (8 + r) = nI 1 ∧ ¬ w (12 + r) = nI 1 ∧ maR Q L w t (lgR Q L w t) = true ∧ ¬ lgR Q L w t = 0 ∧ ¬ frB w = 12 ∧ isR Q w bn (ltR (nI (lgR Q L w t)) (nI (qC Q r))) = true := by
  unfold cuOK at h
  simp only [Bool.and_eq_true, Bool.not_eq_true', decide_eq_false_iff_not] at h
  obtain ⟨⟨⟨⟨⟨a, b⟩, c⟩, d⟩, e⟩, f⟩ := h
  exact ⟨a, b, c, d, e, f⟩
/-- as long as the shadow, the reach at most -/
def cuL (Q : Tld) (L : Lws) (w : Rw) (t r : Nat) : Nat := if lgR Q L w t < qC Q r then lgR Q L w t else qC Q r
theorem cuL_eq {Q : Tld} {L : Lws} {w : Rw} {t r : Nat} (hQ : TOK Q) (hw : WR w) (ht : t < qT Q) (hr : r < qR Q) : ltR (nI (lgR Q L w t)) (nI (qC Q r)) = nI (cuL Q L w t r) ∧ cuL Q L w t r ≤ 99 ∧ cuL Q L w t r ≤ lgR Q L w t := by
  have a := lgR_le (L := L) hQ hw ht
  have b := hQ.2.2.2.2.1 r hr
  unfold cuL
  refine ⟨ltR_n (by omega) (by omega), ?_, ?_⟩ <;> split <;> omega
theorem cuG_t {Q : Tld} {L : Lws} {w : Rw} {t r bn : Nat} (ht : t < 16) : cuG Q L w t r bn t = w t := by
  unfold cuG baI
  rw [upd_n (by omega), upd_n (by omega), upd_n (by omega), upd_n (by omega)]
theorem cut_g {g n s : Nat} (hg : g ≤ 100) (hn : n ≤ s) (hs : 0 < s) (hs2 : s ≤ 999) : nI g - nI g * nI n / nI s = nI (g - g * n / s) ∧ g * n / s ≤ g := by
  have h1 : g * n ≤ 100 * 999 := Nat.mul_le_mul hg (by omega)
  have h2 : g * n / s ≤ g := by
    have : g * n / s ≤ g * s / s := Nat.div_le_div_right (Nat.mul_le_mul_left g hn)
    rw [Nat.mul_div_cancel _ hs] at this
    exact this
  rw [nI_mul, ndiv (by omega) hs (by omega), nI_subI h2 (by omega)]
  exact ⟨rfl, h2⟩
theorem WR.cW {Q : Tld} {L : Lws} {w : Rw} {t r bn : Nat} (hQ : TOK Q) (h : WR w) (ht : t < qT Q) (hr : r < qR Q) (hb : bn < qB Q) (hc : cuOK Q L w t r bn = true) : WR (cuW Q L w t r bn) := by
  obtain ⟨c1, c2, c3, c4, c5, c6⟩ := cuOK_el hc
  obtain ⟨l1, l2, l3⟩ := cuL_eq (L := L) hQ h ht hr
  have fb := frB_le w
  have q := hQ.2.2.2.1 t ht
  have ls := lgR_le (L := L) hQ h ht
  have t8 := hQ.1
  have r4 := hQ.2.1
  have b4 := hQ.2.2.1
  have g := (h t (by omega) (by omega)).nw
  rw [bd_1 (by omega)] at g
  unfold cuW
  have wG : WR (cuG Q L w t r bn) := by
    unfold cuG
    rw [l1]
    exact h.x.ba (by omega) q.2.2.1 (by omega) (by omega)
  refine WR.u (wG.u (fun _ _ => ?_)) (fun _ _ => okC.mk (by rw [bd_2 (by omega) (by omega)]; omega))
  rw [cuG_t (by omega), g.1, l1, (cut_g g.2 l3 (by omega) ls).1]
  exact okC.mk (by rw [bd_1 (by omega)]; exact Nat.le_trans (Nat.sub_le _ _) g.2)
theorem WR.cu {Q : Tld} {L : Lws} {w : Rw} {t r bn : Nat} (hQ : TOK Q) (h : WR w) (ht : t < qT Q) (hr : r < qR Q) (hb : bn < qB Q) : WR (cuR Q L w t r bn) := by
  unfold cuR
  split
  · exact h.cW hQ ht hr hb (by assumption)
  · exact h
theorem laOK_el {Q : Tld} {w : Rw} {r bn : Nat} (h : laOK Q w r bn = true) : ¬ w (8 + r) = nI 1 ∧ ¬ frB w = 12 ∧ isR Q w bn (nI (qC Q r)) = true := by
  unfold laOK at h
  simp only [Bool.and_eq_true, Bool.not_eq_true', decide_eq_false_iff_not] at h
  obtain ⟨⟨a, b⟩, c⟩ := h
  exact ⟨a, b, c⟩
theorem WR.la {Q : Tld} {w : Rw} {r bn : Nat} (hQ : TOK Q) (h : WR w) (hr : r < qR Q) (hb : bn < qB Q) (hc : laOK Q w r bn = true) : WR (laW Q w r bn) := by
  obtain ⟨c1, c2, c3⟩ := laOK_el hc
  have fb := frB_le w
  have r4 := hQ.2.1
  have b4 := hQ.2.2.1
  have q := hQ.2.2.2.2.1 r hr
  unfold laW
  exact WR.u (h.x.ba (by omega) (by omega) (by omega) (by omega)) (fun _ _ => okC.mk (by rw [bd_2 (by omega) (by omega)]; omega))
theorem WR.hp {Q : Tld} {L : Lws} {w : Rw} (hQ : TOK Q) (h : WR w) (t0 : 0 < qT Q) (r0 : 0 < qR Q) (b0 : 0 < qB Q) : WR (hpR Q L w) := by
  have t8 := hQ.1
  have r4 := hQ.2.1
  have b4 := hQ.2.2.1
  have w1 := h.d
  unfold hpR
  split
  · unfold hp0
    exact w1.d.d.d.cu hQ (w1.dv t0 (by omega)).2 (w1.d.dv r0 (by omega)).2 (w1.d.d.dv b0 (by omega)).2
  · split
    · unfold hp1
      have n12 := (w1.dv (m := 12) (by decide) (by decide)).2
      split
      · exact w1.d.se n12
      · exact w1.d
    · split
      · unfold hp2
        have n12 := (w1.dv (m := 12) (by decide) (by decide)).2
        have n20 := w1.d.dv (m := 20) (by decide) (by decide)
        split
        · rw [n20.1, nI_add]
          exact w1.d.d.sh n12 (by omega)
        · exact w1.d.d
      · exact w1.pt t8 1
theorem WR.hN {Q : Tld} {L : Lws} (hQ : TOK Q) (t0 : 0 < qT Q) (r0 : 0 < qR Q) (b0 : 0 < qB Q) : ∀ (n : Nat) (w : Rw), WR w → WR (hpN Q L n w)
  | 0, w, h => h
  | n + 1, w, h => WR.hN hQ t0 r0 b0 n _ (h.hp hQ t0 r0 b0)
-- feet used
theorem dkN_s (w : Rw) (bn : Int32) : ∀ k, k ≤ 12 → dkN w bn k < 12 → 0 < w (28 + dkN w bn k) ∧ (bn = -1 ∨ w (52 + dkN w bn k) = bn)
  | 0, _, h => absurd h (Nat.lt_irrefl _)
  | k + 1, hk, h => by
    unfold dkN at h ⊢
    split
    · rename_i c
      exact ⟨c.1, c.2.1⟩
    · rename_i c
      rw [if_neg c] at h
      exact dkN_s w bn k (by omega) h
theorem dkN_n (w : Rw) (bn : Int32) : ∀ k, k ≤ 12 → dkN w bn k = 12 → ∀ j, j < k → ¬ (0 < w (28 + j) ∧ (bn = -1 ∨ w (52 + j) = bn))
  | 0, _, _, j, hj => absurd hj (Nat.not_lt_zero _)
  | k + 1, hk, h, j, hj => by
    unfold dkN at h
    split at h
    · omega
    · rename_i c
      intro z
      by_cases e : j = k
      · subst e
        exact c ⟨z.1, z.2, Or.inl h⟩
      · exact dkN_n w bn k (by omega) h j (by omega) z
def smF (f : Nat → Nat) : Nat → Nat
  | 0 => 0
  | k + 1 => smF f k + f k
theorem smF_cut {f g : Nat → Nat} {b : Nat} (h : ∀ j, j ≠ b → g j = f j) (hb : g b = 0) : ∀ k, smF f k = smF g k + (if b < k then f b else 0)
  | 0 => rfl
  | k + 1 => by
    have ih := smF_cut h hb k
    unfold smF
    by_cases e : k = b
    · subst e
      rw [ih, hb, if_neg (Nat.lt_irrefl _), if_pos (Nat.lt_succ_self _)]
    · rw [ih, h k e]
      by_cases z : b < k
      · rw [if_pos z, if_pos (by omega)]
        omega
      · rw [if_neg z, if_neg (by omega)]
        omega
theorem smF_0 {f : Nat → Nat} : ∀ {k : Nat}, (∀ j, j < k → f j = 0) → smF f k = 0
  | 0, _ => rfl
  | k + 1, h => by
    unfold smF
    rw [smF_0 (fun j hj => h j (by omega)), h k (Nat.lt_succ_self _)]
theorem smF_le {f : Nat → Nat} {c : Nat} (h : ∀ j, f j ≤ c) : ∀ k, smF f k ≤ k * c
  | 0 => Nat.zero_le _
  | k + 1 => by
    have := smF_le h k
    have := h k
    unfold smF
    rw [Nat.succ_mul]
    omega
theorem smF_eq {f g : Nat → Nat} : ∀ {k : Nat}, (∀ j, j < k → f j = g j) → smF f k = smF g k
  | 0, _ => rfl
  | k + 1, h => by
    unfold smF
    rw [smF_eq (fun j hj => h j (by omega)), h k (Nat.lt_succ_self _)]
/-- feet that bale j has in the barn; is it one -/
def fjN (w : Rw) (bn : Int32) (j : Nat) : Nat := if bn = -1 ∨ w (52 + j) = bn then nW w (28 + j) else 0
def cjN (w : Rw) (bn : Int32) (j : Nat) : Nat := if fjN w bn j = 0 then 0 else 1
theorem fjN_le {w : Rw} (hw : WR w) {bn : Int32} {j : Nat} (hj : j < 12) : fjN w bn j ≤ 999 := by
  have := (hw.wok.2.2.1 j hj).2.1
  unfold fjN
  split <;> omega
theorem feR_n {w : Rw} (hw : WR w) {bn : Int32} (hb : bn ≠ -1) : ∀ k, k ≤ 12 → feR w bn k = nI (smF (fjN w bn) k)
  | 0, _ => rfl
  | k + 1, hk => by
    show feR w bn k + _ = nI (smF (fjN w bn) k + fjN w bn k)
    rw [feR_n hw hb k (by omega), ← nI_add]
    congr 1
    unfold fjN
    by_cases c : w (52 + k) = bn
    · rw [if_pos c, if_pos (Or.inr c)]
      exact hw.c (by omega) (by omega)
    · rw [if_neg c, if_neg (fun z => z.elim hb c)]
theorem faR_n {w : Rw} (hw : WR w) : ∀ k, k ≤ 12 → faR w k = nI (smF (fjN w (-1)) k)
  | 0, _ => rfl
  | k + 1, hk => by
    show faR w k + _ = nI (smF (fjN w (-1)) k + fjN w (-1) k)
    rw [faR_n hw k (by omega), ← nI_add]
    congr 1
    unfold fjN
    rw [if_pos (Or.inl rfl)]
    exact hw.c (by omega) (by omega)
theorem usG_0 (bn : Int32) : ∀ (n : Nat) (w : Rw), usG bn n w (nI 0)
  | 0, w => by
    show ¬ (0 : Int32) < nI 0
    decide
  | n + 1, w => fun z => absurd z (by decide)
theorem sm_le {w : Rw} (hw : WR w) (bn : Int32) : smF (fjN w bn) 12 ≤ 12 * 999 := by
  have e : smF (fjN w bn) 12 = smF (fun j => if j < 12 then fjN w bn j else 0) 12 := smF_eq (fun j hj => by rw [if_pos hj])
  rw [e]
  exact smF_le (fun j => by
    by_cases h : j < 12
    · rw [if_pos h]
      exact fjN_le hw h
    · rw [if_neg h]
      omega) 12
/-- so many rounds are enough, where there are so many feet -/
theorem us_ok (bn : Int32) : ∀ (n : Nat) (w : Rw) (x : Nat), WR w → smF (cjN w bn) 12 ≤ n → x ≤ smF (fjN w bn) 12 → usG bn n w (nI x) := by
  intro n
  induction n with
  | zero =>
    intro w x hw hc hx
    have h0 : ∀ j, j < 12 → fjN w bn j = 0 := fun j hj => by
      cases e : fjN w bn j with
      | zero => rfl
      | succ m =>
        exfalso
        have key : ∀ k, k ≤ 12 → j < k → 1 ≤ smF (cjN w bn) k := by
          intro k
          induction k with
          | zero => intro _ h; omega
          | succ k ih =>
            intro h1 h2
            unfold smF
            by_cases z : j = k
            · subst z
              have : cjN w bn j = 1 := by
                unfold cjN
                rw [e, if_neg (by omega)]
              omega
            · have := ih (by omega) (by omega)
              omega
        have := key 12 (Nat.le_refl _) hj
        omega
    have : smF (fjN w bn) 12 = 0 := smF_0 h0
    have hx0 : x = 0 := by omega
    subst hx0
    exact usG_0 bn 0 w
  | succ n ih =>
    intro w x hw hc hx
    have sl := sm_le hw bn
    intro hpos
    have hx0 : 0 < x := (npos (by omega)).mp hpos
    have hd : dkN w bn 12 < 12 := by
      rcases Nat.lt_or_ge (dkN w bn 12) 12 with z | z
      · exact z
      · exfalso
        have e12 : dkN w bn 12 = 12 := by
          have := (dkN_le w bn 12 (Nat.le_refl _)).1
          omega
        have hn := dkN_n w bn 12 (Nat.le_refl _) e12
        have : smF (fjN w bn) 12 = 0 := smF_0 (fun j hj => by
          unfold fjN
          by_cases c : bn = -1 ∨ w (52 + j) = bn
          · rw [if_pos c]
            have y : ¬ 0 < w (28 + j) := fun z => hn j hj ⟨z, c⟩
            rw [hw.c (show 28 + j < 69 by omega) (by omega), npos (nW_lt w _)] at y
            omega
          · rw [if_neg c])
        omega
    have hs := dkN_s w bn 12 (Nat.le_refl _) hd
    generalize dkN w bn 12 = b at hd hs
    obtain ⟨a, ea, ha⟩ := hw.len hd
    have hb0 : 0 < a := by
      have := hs.1
      rw [ea] at this
      exact (npos (by omega)).mp this
    have na : nW w (28 + b) = a := by
      unfold nW
      rw [ea]
      exact nI_clamp (by omega)
    have fb : fjN w bn b = a := by
      unfold fjN
      rw [if_pos hs.2, na]
    refine ⟨hd, hs.1, ?_⟩
    rw [ea, ltR_n (by omega) (by omega)]
    by_cases c : x < a
    · rw [if_pos c, nI_subI (Nat.le_refl _) (by omega), Nat.sub_self]
      exact usG_0 bn n _
    · rw [if_neg c, nI_subI (by omega) (by omega), shR_eq ea ha (by omega), if_neg (Nat.lt_irrefl _)]
      have hW : WR (baI (upd w (28 + b) (nI a - nI a)) b (nI 0) (nI 0) (nI 0)) := (hw.x28).ba hd (by omega) (by omega) (by omega)
      have v28 : baI (upd w (28 + b) (nI a - nI a)) b (nI 0) (nI 0) (nI 0) (28 + b) = nI 0 := by
        unfold baI
        rw [upd_n (by omega), upd_n (by omega), upd_s]
      have vo : ∀ j, j ≠ b → j < 12 → baI (upd w (28 + b) (nI a - nI a)) b (nI 0) (nI 0) (nI 0) (28 + j) = w (28 + j) ∧ baI (upd w (28 + b) (nI a - nI a)) b (nI 0) (nI 0) (nI 0) (52 + j) = w (52 + j) := fun j hj h12 => by
        unfold baI
        refine ⟨?_, ?_⟩
        · rw [upd_n (by omega), upd_n (by omega), upd_n (by omega), upd_n (by omega), upd_n (by omega)]
        · rw [upd_n (by omega), upd_n (by omega), upd_n (by omega), upd_n (by omega), upd_n (by omega)]
      generalize baI (upd w (28 + b) (nI a - nI a)) b (nI 0) (nI 0) (nI 0) = w' at hW v28 vo
      have g0 : fjN w' bn b = 0 := by
        unfold fjN nW
        rw [v28]
        split <;> rfl
      have go : ∀ j, j ≠ b → j < 12 → fjN w' bn j = fjN w bn j := fun j hj h12 => by
        unfold fjN nW
        rw [(vo j hj h12).1, (vo j hj h12).2]
      have e1 : smF (fjN w bn) 12 = smF (fjN w' bn) 12 + a := by
        have y := smF_cut (f := fun j => if j < 12 then fjN w bn j else 0) (g := fun j => if j < 12 then fjN w' bn j else 0) (b := b) (fun j hj => by
          by_cases h : j < 12
          · show (if j < 12 then _ else _) = (if j < 12 then _ else _)
            rw [if_pos h, if_pos h]
            exact go j hj h
          · show (if j < 12 then _ else _) = (if j < 12 then _ else _)
            rw [if_neg h, if_neg h]) (by show (if b < 12 then _ else _) = _; rw [if_pos hd]; exact g0) 12
        rw [if_pos hd] at y
        rw [smF_eq (f := fjN w bn) (g := fun j => if j < 12 then fjN w bn j else 0) (fun j hj => by rw [if_pos hj]), smF_eq (f := fjN w' bn) (g := fun j => if j < 12 then fjN w' bn j else 0) (fun j hj => by rw [if_pos hj]), y]
        show _ + (if b < 12 then _ else _) = _
        rw [if_pos hd, fb]
      have cb : cjN w bn b = 1 := by
        unfold cjN
        rw [fb, if_neg (by omega)]
      have cg0 : cjN w' bn b = 0 := by
        unfold cjN
        rw [g0, if_pos rfl]
      have e2 : smF (cjN w bn) 12 = smF (cjN w' bn) 12 + 1 := by
        have y := smF_cut (f := fun j => if j < 12 then cjN w bn j else 0) (g := fun j => if j < 12 then cjN w' bn j else 0) (b := b) (fun j hj => by
          by_cases h : j < 12
          · show (if j < 12 then _ else _) = (if j < 12 then _ else _)
            rw [if_pos h, if_pos h]
            unfold cjN
            rw [go j hj h]
          · show (if j < 12 then _ else _) = (if j < 12 then _ else _)
            rw [if_neg h, if_neg h]) (by show (if b < 12 then _ else _) = _; rw [if_pos hd]; exact cg0) 12
        rw [if_pos hd] at y
        rw [smF_eq (f := cjN w bn) (g := fun j => if j < 12 then cjN w bn j else 0) (fun j hj => by rw [if_pos hj]), smF_eq (f := cjN w' bn) (g := fun j => if j < 12 then cjN w' bn j else 0) (fun j hj => by rw [if_pos hj]), y]
        show _ + (if b < 12 then _ else _) = _
        rw [if_pos hd, cb]
      exact ih w' (x - a) hW (by omega) (by omega)
theorem us_12 {bn : Int32} {w : Rw} {x : Nat} (hw : WR w) (hx : x ≤ smF (fjN w bn) 12) : usG bn 12 w (nI x) := us_ok bn 12 w x hw (by
  have y := smF_le (f := cjN w bn) (c := 1) (fun j => by
    unfold cjN
    split <;> omega) 12
  omega) hx
