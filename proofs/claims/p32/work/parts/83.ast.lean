-- ===== all of a state that worlds hang on; what the doing calls make of it =====
/-- what is told; the world; how many steps; the worlds ahead of them -/
abbrev Ast : Type := Tld × Rw × Nat × (Nat → Rw)
abbrev oQ (A : Ast) : Tld := A.1
abbrev oW (A : Ast) : Rw := A.2.1
abbrev oN (A : Ast) : Nat := A.2.2.1
abbrev oF (A : Ast) : Nat → Rw := A.2.2.2
def pN (n : Nat) : Nat := if n = 30 then 30 else n + 1
def pF (n : Nat) (f : Nat → Rw) (w : Rw) : Nat → Rw := fun k => if n = 30 then (if k = 29 then w else f (k + 1)) else (if k = n then w else f k)
def stp (A : Ast) (w' : Rw) : Ast := (oQ A, w', pN (oN A), pF (oN A) (oF A) (oW A))
/-- everything in range -/
def AOK (A : Ast) : Prop := TOK (oQ A) ∧ WR (oW A) ∧ oN A ≤ 30 ∧ ∀ k, k < oN A → WR (oF A k)
theorem pN_le {n : Nat} (h : n ≤ 30) : pN n ≤ 30 := by
  unfold pN
  split <;> omega
theorem AOK.stp {A : Ast} {w' : Rw} (h : AOK A) (hw : WR w') : AOK (stp A w') := by
  obtain ⟨h1, h2, h3, h4⟩ := h
  refine ⟨h1, hw, pN_le h3, fun k hk => ?_⟩
  show WR (pF (oN A) (oF A) (oW A) k)
  have hk : k < pN (oN A) := hk
  unfold pN at hk
  unfold pF
  by_cases c : oN A = 30
  · rw [if_pos c] at hk ⊢
    by_cases e : k = 29
    · rw [if_pos e]
      exact h2
    · rw [if_neg e]
      exact h4 (k + 1) (by omega)
  · rw [if_neg c] at hk ⊢
    by_cases e : k = oN A
    · rw [if_pos e]
      exact h2
    · rw [if_neg e]
      exact h4 k (by omega)
-- the class's steps
def SC (T n : Nat) (f : Nat → Rw) (I : XI) : Prop := n ≤ 30 ∧ ∃ first, first < 31 ∧ I 1 1 = nI first ∧ I 1 2 = nI n ∧ ∀ k, k < n → RC T (f k) (fun j => I 2 ((first + k) % 31 * 69 + j))
/-- as a step is noted: a row that none of the steps has -/
theorem SC.note {T n first : Nat} {f : Nat → Rw} {I I1 : XI} (h : SC T n f I) (e1 : I 1 1 = nI first) (hf : first < 31) (g1 : I1 1 = I 1) (g2 : I1 2 = va_cpy (I 27) (I 2) 0 ((first + n) % 31 * 69) 69) : SC T n f I1 := by
  obtain ⟨hn, fi, hfi, a, b, c⟩ := h
  have : fi = first := nI_inj (a.symm.trans e1) (by omega) (by omega)
  subst this
  refine ⟨hn, fi, hf, by rw [g1]; exact a, by rw [g1]; exact b, fun k hk => ?_⟩
  refine (c k hk).cg (fun _ _ => rfl) (fun j hj => ?_)
  show I1 2 _ = I 2 _
  rw [g2]
  simp only [va_cpy]
  rw [if_neg (by omega)]
theorem SC.push {T n first : Nat} {f : Nat → Rw} {w : Rw} {I I1 : XI} (h : SC T n f I) (e1 : I 1 1 = nI first) (hf : first < 31) (g2 : I1 2 = va_cpy (I 27) (I 2) 0 ((first + n) % 31 * 69) 69) (hr : RC T w (I 27)) (hp : (n < 30 → I1 1 1 = nI first ∧ I1 1 2 = nI (n + 1)) ∧ (n = 30 → I1 1 1 = nI ((first + 1) % 31) ∧ I1 1 2 = nI 30)) : SC T (pN n) (pF n f w) I1 := by
  obtain ⟨hn, fi, hfi, a, b, c⟩ := h
  have : fi = first := nI_inj (a.symm.trans e1) (by omega) (by omega)
  subst this
  refine ⟨pN_le hn, ?_⟩
  unfold pN pF
  by_cases c30 : n = 30
  · obtain ⟨q1, q2⟩ := hp.2 c30
    refine ⟨(fi + 1) % 31, by omega, q1, by rw [if_pos c30]; exact q2, fun k hk => ?_⟩
    rw [if_pos c30] at hk
    show RC T (if n = 30 then _ else _) _
    rw [if_pos c30]
    by_cases e : k = 29
    · rw [if_pos e]
      refine hr.cg (fun _ _ => rfl) (fun j hj => ?_)
      show I1 2 _ = I 27 j
      rw [g2]
      simp only [va_cpy]
      rw [if_pos (by omega)]
      congr 1
      omega
    · rw [if_neg e]
      refine (c (k + 1) (by omega)).cg (fun _ _ => rfl) (fun j hj => ?_)
      show I1 2 _ = I 2 _
      rw [g2]
      simp only [va_cpy]
      rw [if_neg (by omega)]
      congr 1
      omega
  · obtain ⟨q1, q2⟩ := hp.1 (by omega)
    refine ⟨fi, hfi, q1, by rw [if_neg c30]; exact q2, fun k hk => ?_⟩
    rw [if_neg c30] at hk
    show RC T (if n = 30 then _ else _) _
    rw [if_neg c30]
    by_cases e : k = n
    · rw [if_pos e]
      refine hr.cg (fun _ _ => rfl) (fun j hj => ?_)
      show I1 2 _ = I 27 j
      rw [g2]
      simp only [va_cpy]
      rw [if_pos (by omega)]
      congr 1
      omega
    · rw [if_neg e]
      refine (c k (by omega)).cg (fun _ _ => rfl) (fun j hj => ?_)
      show I1 2 _ = I 2 _
      rw [g2]
      simp only [va_cpy]
      rw [if_neg (by omega)]
-- the reference's steps
def SM (n : Nat) (f : Nat → Rw) (I : XI) : Prop := n ≤ 30 ∧ I 68 5 = nI n ∧ ∀ k j, k < n → j < 69 → I 68 (130 + 69 * k + j) = f k j
-- both sides
def CA (I : XI) (ru : Nat) (L : Lws) (A : Ast) : Prop := CE I ru (oQ A) L ∧ RC (qT (oQ A)) (oW A) (I 27) ∧ SC (qT (oQ A)) (oN A) (oF A) I
def MA (I : XI) (L : Lws) (A : Ast) : Prop := RE I (oQ A) L ∧ wLay I = oW A ∧ SM (oN A) (oF A) I
def FCl (I I' : XI) : Prop := ∀ q, q ≠ 1 → q ≠ 2 → (q < 12 ∨ 17 < q) → q ≠ 24 → q ≠ 27 → I' q = I q
def R68 (I : XI) : Prop := ∀ j, inI (cellI CF 68 j) (I 68 j).toInt
/-- the ranges that rows 68 and 93 keep -/
def RG (I : XI) : Prop := R68 I ∧ ∀ j, inI (cellI CF 93 j) (I 93 j).toInt
def FMl (I I' : XI) : Prop := (∀ q, q ≠ 68 → q ≠ 91 → q ≠ 93 → I' q = I q) ∧ (∀ k, k = 3 ∨ k = 4 ∨ k = 6 ∨ (42 ≤ k ∧ k < 60) → I' 68 k = I 68 k) ∧ (RG I → RG I')
theorem FCl.rf {I : XI} : FCl I I := fun _ _ _ _ _ _ => rfl
theorem FCl.tr {I I1 I2 : XI} (h : FCl I I1) (g : FCl I1 I2) : FCl I I2 := fun q a b c d e => (g q a b c d e).trans (h q a b c d e)
theorem FCl.w {I I1 : XI} (h : F24 27 I I1) : FCl I I1 := fun q _ _ _ d e => h q d e
theorem cells_w : (∀ b, b < 12 → cellI CF 93 (28 + b) = (0, 999) ∧ cellI CF 68 (88 + b) = (0, 999)) ∧ ∀ k, k < 69 → (28 ≤ k ∧ k < 40) ∨ cellI CF 68 (60 + k) = fr := by decide +kernel
theorem WR.r93 {w : Rw} (h : WR w) (j : Nat) : inI (cellI CF 93 j) (w j).toInt := by
  by_cases c : 28 ≤ j ∧ j < 40
  · have e := (cells_w.1 (j - 28) (by omega)).1
    rw [show 28 + (j - 28) = j by omega] at e
    obtain ⟨n, en, hn⟩ := h j (by omega) (by omega)
    rw [bd_4 c.1 c.2] at hn
    rw [e, en, nI_toInt (by omega)]
    exact ⟨by dsimp only; omega, by dsimp only; omega⟩
  · rw [cell_93 j (by omega)]
    exact inI_fr _
theorem WR.r68 {w : Rw} (h : WR w) {k : Nat} (hk : k < 69) : inI (cellI CF 68 (60 + k)) (w k).toInt := by
  rcases cells_w.2 k hk with c | c
  · have e := (cells_w.1 (k - 28) (by omega)).2
    rw [show 88 + (k - 28) = 60 + k by omega] at e
    obtain ⟨n, en, hn⟩ := h k hk (by omega)
    rw [bd_4 c.1 c.2] at hn
    rw [e, en, nI_toInt (by omega)]
    exact ⟨by dsimp only; omega, by dsimp only; omega⟩
  · rw [c]
    exact inI_fr _
theorem FMl.rf {I : XI} : FMl I I := ⟨fun _ _ _ _ => rfl, fun _ _ => rfl, fun h => h⟩
theorem FMl.tr {I I1 I2 : XI} (h : FMl I I1) (g : FMl I1 I2) : FMl I I2 := ⟨fun q a b c => (g.1 q a b c).trans (h.1 q a b c), fun k hk => (g.2.1 k hk).trans (h.2.1 k hk), fun r => g.2.2 (h.2.2 r)⟩
theorem FMl.f {I I1 : XI} (h : F93 I I1) (w : WR (I1 93)) : FMl I I1 := ⟨fun q _ b c => h q b c, fun k _ => congrFun (h 68 (by decide) (by decide)) k, fun r => ⟨fun j => by rw [h 68 (by decide) (by decide)]; exact r.1 j, w.r93⟩⟩
-- what the calls make
def vIn (x : Int32) (n : Nat) : Bool := decide (0 ≤ x) && decide (x < nI n)
theorem vIn_t {x : Int32} {n : Nat} (hn : n < 2 ^ 31) (h : vIn x n = true) : ∃ k, k < n ∧ x = nI k ∧ x.toNatClampNeg = k := by
  unfold vIn at h
  rw [Bool.and_eq_true, decide_eq_true_iff, decide_eq_true_iff] at h
  obtain ⟨k, e, hk⟩ := nn_of (Int32.not_lt.mpr h.1)
  refine ⟨k, ?_, e, by rw [e]; exact nI_clamp hk⟩
  rw [e] at h
  exact (nlt hk hn).mp h.2
theorem vIn_n {k n : Nat} (hn : n < 2 ^ 31) (h : k < n) : vIn (nI k) n = true := by
  unfold vIn
  rw [decide_eq_true (show (0 : Int32) ≤ nI k from (nle (a := 0) (by omega) (by omega)).mpr (Nat.zero_le k)), decide_eq_true ((nlt (by omega) hn).mpr h)]
  rfl
theorem vIn_f {x : Int32} {n : Nat} (hn : n < 2 ^ 31) (h : vIn x n = false) : ∀ k, k < n → x ≠ nI k := fun k hk e => by
  rw [e, vIn_n hn hk] at h
  cases h
/-- a number from lo to hi -/
def rIn (x : Int32) (lo hi : Nat) : Bool := decide (nI lo ≤ x) && decide (x ≤ nI hi)
theorem rIn_t {x : Int32} {lo hi : Nat} (hi31 : hi < 2 ^ 31) (hl : lo ≤ hi) (h : rIn x lo hi = true) : ∃ k, lo ≤ k ∧ k ≤ hi ∧ x = nI k ∧ x.toNatClampNeg = k := by
  unfold rIn at h
  rw [Bool.and_eq_true, decide_eq_true_iff, decide_eq_true_iff] at h
  have h0 : ¬ x < 0 := by
    intro z
    have a := Int32.le_iff_toInt_le.mp h.1
    have b := Int32.lt_iff_toInt_lt.mp z
    rw [nI_toInt (by omega)] at a
    rw [show (0 : Int32).toInt = 0 from rfl] at b
    omega
  obtain ⟨k, e, hk⟩ := nn_of h0
  rw [e] at h
  exact ⟨k, (nle (by omega) hk).mp h.1, (nle hk hi31).mp h.2, e, by rw [e]; exact nI_clamp hk⟩
theorem rIn_p {x : Int32} {lo hi : Nat} : rIn x lo hi = true ↔ (nI lo ≤ x ∧ x ≤ nI hi) := by
  unfold rIn
  rw [Bool.and_eq_true, decide_eq_true_iff, decide_eq_true_iff]
def cutS (L : Lws) (A : Ast) (x y z : Int32) : Int32 × Ast := if (vIn x (qT (oQ A)) && vIn y (qR (oQ A)) && vIn z (qB (oQ A)) && cuOK (oQ A) L (oW A) x.toNatClampNeg y.toNatClampNeg z.toNatClampNeg) = true then (nI (frB (oW A)), stp A (cuW (oQ A) L (oW A) x.toNatClampNeg y.toNatClampNeg z.toNatClampNeg)) else (-1, A)
def lastS (A : Ast) (x y : Int32) : Int32 × Ast := if (vIn x (qR (oQ A)) && vIn y (qB (oQ A)) && laOK (oQ A) (oW A) x.toNatClampNeg y.toNatClampNeg) = true then (nI (frB (oW A)), stp A (laW (oQ A) (oW A) x.toNatClampNeg y.toNatClampNeg)) else (-1, A)
def useS (A : Ast) (x y : Int32) : Int32 × Ast := if (rIn x 1 999 && vIn y (qB (oQ A)) && decide (x.toNatClampNeg ≤ smF (fjN (oW A) y) 12)) = true then (feR (usN y 12 (oW A) x) y 12, stp A (usN y 12 (oW A) x)) else (-1, A)
def moveS (A : Ast) (x y : Int32) : Int32 × Ast := if (vIn x 12 && vIn y (qB (oQ A)) && mvOK (oQ A) (oW A) x.toNatClampNeg y.toNatClampNeg) = true then (1, stp A (upd (oW A) (52 + x.toNatClampNeg) y)) else (0, A)
def sellS (L : Lws) (A : Ast) (x : Int32) : Int32 × Ast := if (vIn x 12 && decide (0 < oW A (28 + x.toNatClampNeg))) = true then (nI (seR L (oW A) x.toNatClampNeg), stp A (seW L (oW A) x.toNatClampNeg)) else (-1, A)
/-- so many hours, those that can pass; how many did -/
def phS (L : Lws) : Nat → Ast → Ast
  | 0, A => A
  | k + 1, A => if cnP (oW A) = true then phS L k (stp A (hrR (oQ A) L (oW A))) else A
def phC (L : Lws) : Nat → Ast → Nat
  | 0, _ => 0
  | k + 1, A => if cnP (oW A) = true then phC L k (stp A (hrR (oQ A) L (oW A))) + 1 else 0
def hourS (L : Lws) (A : Ast) (x : Int32) : Int32 × Ast := if (rIn x 1 60 && decide (x.toNatClampNeg ≤ hlN (oW A))) = true then (oW (phS L x.toNatClampNeg A) 64, phS L x.toNatClampNeg A) else (-1, A)
def decS (L : Lws) (A : Ast) (x y : Int32) : Int32 × Ast := if (rIn x 0 9999 && rIn y 1 30 && !(decide (qT (oQ A) = 0)) && !(decide (qR (oQ A) = 0)) && !(decide (qB (oQ A) = 0))) = true then (hpN (oQ A) L y.toNatClampNeg (upd (oW A) 68 (x * nI 2 + nI 83)) 67, stp A (hpN (oQ A) L y.toNatClampNeg (upd (oW A) 68 (x * nI 2 + nI 83)))) else (-1, A)
def ptF (f : Nat → Nat) (t v : Nat) : Nat → Nat := fun s => if s = t then v else f s
def thQ (Q : Tld) (h k o : Nat) : Tld := ((qT Q + 1, qR Q, qB Q), ptF (qH Q) (qT Q) h, ptF (qK Q) (qT Q) k, ptF (qO Q) (qT Q) o, qC Q, qM Q)
def reQ (Q : Tld) (c : Nat) : Tld := ((qT Q, qR Q + 1, qB Q), qH Q, qK Q, qO Q, ptF (qC Q) (qR Q) c, qM Q)
def baQ (Q : Tld) (m : Nat) : Tld := ((qT Q, qR Q, qB Q + 1), qH Q, qK Q, qO Q, qC Q, ptF (qM Q) (qB Q) m)
def thS (A : Ast) (x y z : Int32) : Int32 × Ast := if (rIn x 1 99 && rIn y 0 5 && rIn z 0 4 && decide (qT (oQ A) < 8)) = true then (nI (qT (oQ A)), (thQ (oQ A) x.toNatClampNeg y.toNatClampNeg z.toNatClampNeg, upd (oW A) (qT (oQ A)) (nI 100), oN A, fun k => upd (oF A k) (qT (oQ A)) (nI 100))) else (-1, A)
def reS (A : Ast) (x : Int32) : Int32 × Ast := if (rIn x 1 99 && decide (qR (oQ A) < 4)) = true then (nI (qR (oQ A)), (reQ (oQ A) x.toNatClampNeg, oW A, oN A, oF A)) else (-1, A)
def baS (A : Ast) (x : Int32) : Int32 × Ast := if (rIn x 1 999 && decide (qB (oQ A) < 4)) = true then (nI (qB (oQ A)), (baQ (oQ A) x.toNatClampNeg, oW A, oN A, oF A)) else (-1, A)
-- they keep the ranges
theorem AOK.cut {L : Lws} {A : Ast} (h : AOK A) (x y z : Int32) : AOK (cutS L A x y z).2 := by
  unfold cutS
  split
  · rename_i c
    simp only [Bool.and_eq_true] at c
    obtain ⟨⟨⟨c1, c2⟩, c3⟩, c4⟩ := c
    have q := h.1
    obtain ⟨t, ht, _, e1⟩ := vIn_t (by have := q.1; omega) c1
    obtain ⟨r, hr, _, e2⟩ := vIn_t (by have := q.2.1; omega) c2
    obtain ⟨b, hb, _, e3⟩ := vIn_t (by have := q.2.2.1; omega) c3
    rw [e1, e2, e3] at c4 ⊢
    exact h.stp (h.2.1.cW q ht hr hb c4)
  · exact h
theorem AOK.last {A : Ast} (h : AOK A) (x y : Int32) : AOK (lastS A x y).2 := by
  unfold lastS
  split
  · rename_i c
    simp only [Bool.and_eq_true] at c
    obtain ⟨⟨c1, c2⟩, c3⟩ := c
    have q := h.1
    obtain ⟨r, hr, _, e1⟩ := vIn_t (by have := q.2.1; omega) c1
    obtain ⟨b, hb, _, e2⟩ := vIn_t (by have := q.2.2.1; omega) c2
    rw [e1, e2] at c3 ⊢
    exact h.stp (h.2.1.la q hr hb c3)
  · exact h
theorem WR.us {bn : Int32} : ∀ (n : Nat) (w : Rw) (x : Nat), x ≤ 9999 → WR w → usG bn n w (nI x) → WR (usN bn n w (nI x))
  | 0, w, x, _, h, _ => h
  | n + 1, w, x, hx, h, g => by
    unfold usN
    split
    · rename_i c
      obtain ⟨g1, g2, g3⟩ := g c
      obtain ⟨a, ea, ha⟩ := h.len g1
      rw [ea, ltR_n (by omega) (by omega)] at g3 ⊢
      have hm : (if x < a then x else a) ≤ x ∧ (if x < a then x else a) ≤ 999 := by split <;> omega
      rw [nI_subI hm.1 (by omega)] at g3 ⊢
      exact WR.us n _ _ (by omega) (h.sh g1 (by omega)) g3
    · exact h
theorem AOK.use {A : Ast} (h : AOK A) (x y : Int32) : AOK (useS A x y).2 := by
  unfold useS
  split
  · rename_i c
    simp only [Bool.and_eq_true, decide_eq_true_iff] at c
    obtain ⟨⟨c1, c2⟩, c3⟩ := c
    obtain ⟨k, k1, k2, e, e2⟩ := rIn_t (by omega) (by omega) c1
    rw [e2] at c3
    rw [e]
    exact h.stp (WR.us 12 _ k (by omega) h.2.1 (us_12 h.2.1 c3))
  · exact h
theorem AOK.move {A : Ast} (h : AOK A) (x y : Int32) : AOK (moveS A x y).2 := by
  unfold moveS
  split
  · rename_i c
    simp only [Bool.and_eq_true] at c
    obtain ⟨⟨c1, c2⟩, c3⟩ := c
    have q := h.1.2.2.1
    obtain ⟨b, hb, _, e1⟩ := vIn_t (by omega) c1
    obtain ⟨n, hn, e, e2⟩ := vIn_t (by omega) c2
    rw [e1, e]
    exact h.stp (h.2.1.u (fun _ _ => okC.mk (by rw [bd_6 (by omega) (by omega)]; omega)))
  · exact h
theorem AOK.sell {L : Lws} {A : Ast} (h : AOK A) (x : Int32) : AOK (sellS L A x).2 := by
  unfold sellS
  split
  · rename_i c
    simp only [Bool.and_eq_true] at c
    obtain ⟨b, hb, _, e1⟩ := vIn_t (by omega) c.1
    rw [e1]
    exact h.stp (h.2.1.se hb)
  · exact h
theorem AOK.ph {L : Lws} : ∀ (k : Nat) {A : Ast}, AOK A → AOK (phS L k A)
  | 0, _, h => h
  | k + 1, A, h => by
    unfold phS
    split
    · exact AOK.ph k (h.stp (h.2.1.hr h.1.1 (by assumption)))
    · exact h
theorem AOK.hour {L : Lws} {A : Ast} (h : AOK A) (x : Int32) : AOK (hourS L A x).2 := by
  unfold hourS
  split
  · exact AOK.ph _ h
  · exact h
theorem AOK.dec {L : Lws} {A : Ast} (h : AOK A) (x y : Int32) : AOK (decS L A x y).2 := by
  unfold decS
  split
  · rename_i c
    simp only [Bool.and_eq_true, Bool.not_eq_true', decide_eq_false_iff_not] at c
    obtain ⟨⟨⟨⟨c1, c2⟩, c3⟩, c4⟩, c5⟩ := c
    obtain ⟨k, k1, k2, e, e2⟩ := rIn_t (by omega) (by omega) c1
    rw [e]
    refine h.stp (WR.hN h.1 (by omega) (by omega) (by omega) _ _ (h.2.1.u (fun _ _ => ?_)))
    rw [nI_mul, nI_add]
    exact okC.mk (by have z : bdW 68 = 30312 := by decide
                     omega)
  · exact h
theorem AOK.re {A : Ast} (h : AOK A) (x : Int32) : AOK (reS A x).2 := by
  unfold reS
  split
  · rename_i c
    simp only [Bool.and_eq_true, decide_eq_true_iff] at c
    obtain ⟨k, k1, k2, e, e2⟩ := rIn_t (by omega) (by omega) c.1
    obtain ⟨⟨q1, q2, q3, q4, q5, q6⟩, h2, h3, h4⟩ := h
    refine ⟨⟨q1, ?_, q3, q4, fun r hr => ?_, q6⟩, h2, h3, h4⟩
    · show qR (oQ A) + 1 ≤ 4
      omega
    · show 1 ≤ ptF (qC (oQ A)) (qR (oQ A)) _ r ∧ ptF (qC (oQ A)) (qR (oQ A)) _ r ≤ 99
      have hr : r < qR (oQ A) + 1 := hr
      unfold ptF
      rw [e2]
      by_cases z : r = qR (oQ A)
      · rw [if_pos z]
        omega
      · rw [if_neg z]
        exact q5 r (by omega)
  · exact h
theorem AOK.ba {A : Ast} (h : AOK A) (x : Int32) : AOK (baS A x).2 := by
  unfold baS
  split
  · rename_i c
    simp only [Bool.and_eq_true, decide_eq_true_iff] at c
    obtain ⟨k, k1, k2, e, e2⟩ := rIn_t (by omega) (by omega) c.1
    obtain ⟨⟨q1, q2, q3, q4, q5, q6⟩, h2, h3, h4⟩ := h
    refine ⟨⟨q1, q2, ?_, q4, q5, fun r hr => ?_⟩, h2, h3, h4⟩
    · show qB (oQ A) + 1 ≤ 4
      omega
    · show 1 ≤ ptF (qM (oQ A)) (qB (oQ A)) _ r ∧ ptF (qM (oQ A)) (qB (oQ A)) _ r ≤ 999
      have hr : r < qB (oQ A) + 1 := hr
      unfold ptF
      rw [e2]
      by_cases z : r = qB (oQ A)
      · rw [if_pos z]
        omega
      · rw [if_neg z]
        exact q6 r (by omega)
  · exact h
theorem AOK.th {A : Ast} (h : AOK A) (x y z : Int32) : AOK (thS A x y z).2 := by
  unfold thS
  split
  · rename_i c
    simp only [Bool.and_eq_true, decide_eq_true_iff] at c
    obtain ⟨⟨⟨c1, c2⟩, c3⟩, c4⟩ := c
    obtain ⟨i, i1, i2, _, ei⟩ := rIn_t (by omega) (by omega) c1
    obtain ⟨j, j1, j2, _, ej⟩ := rIn_t (by omega) (by omega) c2
    obtain ⟨k, k1, k2, _, ek⟩ := rIn_t (by omega) (by omega) c3
    obtain ⟨⟨q1, q2, q3, q4, q5, q6⟩, h2, h3, h4⟩ := h
    have ok : okC (qT (oQ A)) (nI 100) := okC.mk (by rw [bd_1 c4]; omega)
    refine ⟨⟨?_, q2, q3, fun t ht => ?_, q5, q6⟩, h2.u (fun _ _ => ok), h3, fun m hm => (h4 m hm).u (fun _ _ => ok)⟩
    · show qT (oQ A) + 1 ≤ 8
      omega
    · have ht : t < qT (oQ A) + 1 := ht
      show 1 ≤ ptF (qH (oQ A)) (qT (oQ A)) _ t ∧ ptF (qH (oQ A)) (qT (oQ A)) _ t ≤ 99 ∧ ptF (qK (oQ A)) (qT (oQ A)) _ t ≤ 5 ∧ ptF (qO (oQ A)) (qT (oQ A)) _ t ≤ 4
      unfold ptF
      rw [ei, ej, ek]
      by_cases e : t = qT (oQ A)
      · rw [if_pos e, if_pos e, if_pos e]
        omega
      · rw [if_neg e, if_neg e, if_neg e]
        exact q4 t (by omega)
  · exact h
