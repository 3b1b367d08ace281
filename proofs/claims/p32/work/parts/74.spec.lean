-- ===== worlds as rows; what the reference does with them =====
abbrev Rw : Type := Nat → Int32
def nW (w : Rw) : Wrl := fun k => (w k).toNatClampNeg
/-- the greatest that each cell may be -/
def bdW (k : Nat) : Nat := if k < 8 then 100 else if k < 16 then 1 else if k < 28 then 5 else if k < 40 then 999 else if k < 52 then 99 else if k < 64 then 3 else if k = 64 then 9 else if k = 65 then 999 else if k = 66 then 9 else 30312
def okC (k : Nat) (x : Int32) : Prop := ∃ n, x = nI n ∧ n ≤ bdW k
/-- the cells of a world are in their ranges -/
def WR (w : Rw) : Prop := ∀ k, k < 69 → k ≠ 67 → okC k (w k)
theorem bdW_le (k : Nat) : bdW k ≤ 30312 := by
  unfold bdW
  repeat' split
  all_goals omega
theorem okC.nw {k : Nat} {w : Rw} (h : okC k (w k)) : w k = nI (nW w k) ∧ nW w k ≤ bdW k := by
  obtain ⟨n, e, hn⟩ := h
  have := bdW_le k
  have z : nW w k = n := by
    unfold nW
    rw [e]
    exact nI_clamp (by omega)
  rw [z]
  exact ⟨e, hn⟩
theorem WR.c {w : Rw} (h : WR w) {k : Nat} (hk : k < 69) (h67 : k ≠ 67) : w k = nI (nW w k) := (h k hk h67).nw.1
theorem WR.b {w : Rw} (h : WR w) {k : Nat} (hk : k < 69) (h67 : k ≠ 67) : nW w k ≤ bdW k := (h k hk h67).nw.2
theorem WR.rm {w : Rw} (h : WR w) : RM (nW w) (w 67) w := ⟨fun k hk h67 => h.c hk h67, rfl⟩
theorem bd_1 {k : Nat} (h : k < 8) : bdW k = 100 := by unfold bdW; rw [if_pos h]
theorem bd_2 {k : Nat} (h : 8 ≤ k) (h2 : k < 16) : bdW k = 1 := by unfold bdW; rw [if_neg (by omega), if_pos h2]
theorem bd_3 {k : Nat} (h : 16 ≤ k) (h2 : k < 28) : bdW k = 5 := by unfold bdW; rw [if_neg (by omega), if_neg (by omega), if_pos h2]
theorem bd_4 {k : Nat} (h : 28 ≤ k) (h2 : k < 40) : bdW k = 999 := by unfold bdW; rw [if_neg (by omega), if_neg (by omega), if_neg (by omega), if_pos h2]
theorem bd_5 {k : Nat} (h : 40 ≤ k) (h2 : k < 52) : bdW k = 99 := by unfold bdW; rw [if_neg (by omega), if_neg (by omega), if_neg (by omega), if_neg (by omega), if_pos h2]
theorem bd_6 {k : Nat} (h : 52 ≤ k) (h2 : k < 64) : bdW k = 3 := by unfold bdW; rw [if_neg (by omega), if_neg (by omega), if_neg (by omega), if_neg (by omega), if_neg (by omega), if_pos h2]
theorem WR.wok {w : Rw} (h : WR w) : WOK (nW w) := by
  have b : ∀ k, k < 69 → k ≠ 67 → nW w k ≤ bdW k := fun k a c => h.b a c
  refine ⟨fun t ht => ?_, fun r hr => ⟨?_, ?_⟩, fun c hc => ⟨?_, ?_, ?_, ?_⟩, ?_, ?_, ?_, ?_⟩
  · rw [← bd_1 ht]; exact b t (by omega) (by omega)
  · rw [← bd_2 (k := 8 + r) (by omega) (by omega)]; exact b _ (by omega) (by omega)
  · rw [← bd_2 (k := 12 + r) (by omega) (by omega)]; exact b _ (by omega) (by omega)
  · rw [← bd_3 (k := 16 + c) (by omega) (by omega)]; exact b _ (by omega) (by omega)
  · rw [← bd_4 (k := 28 + c) (by omega) (by omega)]; exact b _ (by omega) (by omega)
  · rw [← bd_5 (k := 40 + c) (by omega) (by omega)]; exact b _ (by omega) (by omega)
  · rw [← bd_6 (k := 52 + c) (by omega) (by omega)]; exact b _ (by omega) (by omega)
  · exact b 64 (by decide) (by decide)
  · exact b 65 (by decide) (by decide)
  · exact b 66 (by decide) (by decide)
  · have := b 68 (by decide) (by decide)
    have e : bdW 68 = 30312 := by decide
    omega
def RE (I : XI) (Q : Tld) (L : Lws) : Prop := (TDr I Q ∧ TOK Q) ∧ LR I L
def F93 (I I' : XI) : Prop := ∀ q, q ≠ 91 → q ≠ 93 → I' q = I q
theorem F93.rf {I : XI} : F93 I I := fun _ _ _ => rfl
theorem F93.tr {I I1 I2 : XI} (h : F93 I I1) (g : F93 I1 I2) : F93 I I2 := fun q a b => (g q a b).trans (h q a b)
theorem F93.u {I I1 : XI} {k : Nat} {v : Int32} (h : F93 I I1) : F93 I (uI I1 93 k v) := fun q a b => (uI_ne b).trans (h q a b)
theorem F93.n {I I1 : XI} (h : ∀ q, q ≠ 91 → I1 q = I q) : F93 I I1 := fun q a _ => h q a
theorem RE.keep {I I' : XI} {Q : Tld} {L : Lws} (f : F93 I I') (h : RE I Q L) : RE I' Q L :=
  ⟨⟨h.1.1.keep (f 68 (by decide) (by decide)), h.1.2⟩, h.2.keep (congrFun (f 68 (by decide) (by decide)) 4) (f 71 (by decide) (by decide)) (f 72 (by decide) (by decide)) (f 73 (by decide) (by decide)) (f 77 (by decide) (by decide)) (f 78 (by decide) (by decide))⟩
theorem RE.srm {I : XI} {Q : Tld} {L : Lws} (h : RE I Q L) (g : WR (I 93)) : SRm I Q L (nW (I 93)) (I 93 67) := ⟨h.1, h.2, g.rm, g.wok⟩
-- what the laws say of a row
def lgR (Q : Tld) (L : Lws) (w : Rw) (t : Nat) : Nat := lgOf L (nmT Q (nW w) t 0)
def grR (Q : Tld) (L : Lws) (w : Rw) (t : Nat) : Nat := grOf L (nmT Q (nW w) t 0)
def maR (Q : Tld) (L : Lws) (w : Rw) (t s : Nat) : Bool := maOf L (nmT Q (nW w) t s)
def spR (L : Lws) (w : Rw) (b : Nat) : Nat := spOf L (nmL (nW w) b)
def seR (L : Lws) (w : Rw) (b : Nat) : Nat := seOf L (nmL (nW w) b)
theorem lgR_le {Q : Tld} {L : Lws} {w : Rw} {t : Nat} (hQ : TOK Q) (hw : WR w) (ht : t < qT Q) : lgR Q L w t ≤ 999 := by
  unfold lgR lgOf
  have q := hQ.2.2.2.1 t ht
  have g : nW w t ≤ 100 := hw.wok.1 t (by have := hQ.1; omega)
  have h9 : nW w 64 ≤ 9 := hw.wok.2.2.2.1
  split
  · have e2 : nmT Q (nW w) t 0 2 = qH Q t := rfl
    have e3 : nmT Q (nW w) t 0 3 = nW w t := rfl
    have e4 : nmT Q (nW w) t 0 4 = nW w 64 := rfl
    rw [e2, e3, e4]
    have ha : (if nW w 64 < 5 then 5 - nW w 64 else nW w 64 - 5) ≤ 5 := by split <;> omega
    generalize (if nW w 64 < 5 then 5 - nW w 64 else nW w 64 - 5) = a at ha
    have hm1 : qH Q t * nW w t ≤ 99 * 100 := Nat.mul_le_mul q.2.1 g
    have hm2 : qH Q t * nW w t * (1 + a) ≤ 99 * 100 * 6 := Nat.mul_le_mul hm1 (by omega)
    omega
  · exact (hld_to (G := 999)).2
theorem grR_le {Q : Tld} {L : Lws} {w : Rw} {t : Nat} : grR Q L w t ≤ 100 := by
  unfold grR grOf
  split
  · omega
  · exact (hld_to (G := 100)).2
theorem spR_le {L : Lws} {w : Rw} {b : Nat} : spR L w b ≤ 999 := by
  unfold spR spOf
  split
  · omega
  · exact (hld_to (G := 999)).2
theorem seR_le {L : Lws} {w : Rw} {b : Nat} (hw : WR w) (hb : b < 12) : seR L w b ≤ 9999 := by
  unfold seR seOf
  have := (hw.wok.2.2.1 b hb).2.1
  split
  · show nW w (28 + b) ≤ 9999
    omega
  · exact (hld_to (G := 9999)).2
-- sums, bales
def feR (w : Rw) (bn : Int32) : Nat → Int32
  | 0 => nI 0
  | k + 1 => feR w bn k + (if w (52 + k) = bn then w (28 + k) else nI 0)
def faR (w : Rw) : Nat → Int32
  | 0 => nI 0
  | k + 1 => faR w k + w (28 + k)
def frN (w : Rw) : Nat → Nat → Nat
  | 0, k => k
  | m + 1, k => if w (28 + k) = 0 then k else frN w m (k + 1)
/-- the lowest bale that is none; 12: none of them -/
def frB (w : Rw) : Nat := frN w 12 0
theorem frN_le (w : Rw) : ∀ m k, frN w m k ≤ k + m
  | 0, k => Nat.le_refl _
  | m + 1, k => by
    unfold frN
    split
    · omega
    · have := frN_le w m (k + 1)
      omega
theorem frB_le (w : Rw) : frB w ≤ 12 := by
  have := frN_le w 12 0
  unfold frB
  omega
theorem frN_z (w : Rw) : ∀ m k, frN w m k < k + m → w (28 + frN w m k) = 0
  | 0, k, h => absurd h (Nat.lt_irrefl _)
  | m + 1, k, h => by
    unfold frN at h ⊢
    split
    · assumption
    · rename_i e
      rw [if_neg e] at h
      exact frN_z w m (k + 1) (by omega)
theorem frB_z {w : Rw} (h : frB w < 12) : w (28 + frB w) = 0 := frN_z w 12 0 (by unfold frB at h; omega)
/-- a bale's number, or NONE -/
def bI (b : Nat) : Int32 := if b = 12 then -1 else nI b
theorem bI_12 : bI 12 = -1 := rfl
theorem bI_b {b : Nat} (h : b < 12) : bI b = nI b := if_neg (by omega)
theorem bI_n {b : Nat} (h : b ≤ 12) : bI b = -1 ↔ b = 12 := by
  have y : ∀ b, b < 13 → (bI b = -1 ↔ b = 12) := by decide
  exact y b (by omega)
def baI (w : Rw) (b : Nat) (kd len bn : Int32) : Rw := upd (upd (upd (upd w (16 + b) kd) (28 + b) len) (40 + b) (nI 0)) (52 + b) bn
def shR (w : Rw) (b : Nat) (x : Int32) : Rw := if 0 < w (28 + b) - x then upd w (28 + b) (w (28 + b) - x) else baI (upd w (28 + b) (w (28 + b) - x)) b (nI 0) (nI 0) (nI 0)
def ltR (x y : Int32) : Int32 := if x < y then x else y
def isR (Q : Tld) (w : Rw) (bn : Nat) (len : Int32) : Bool := decide (feR w (nI bn) 12 + len ≤ nI (qM Q bn))
/-- the darkest bale of a barn (of all: NONE), the lowest of like ones; 12: none -/
def dkN (w : Rw) (bn : Int32) : Nat → Nat
  | 0 => 12
  | k + 1 => if 0 < w (28 + k) ∧ (bn = -1 ∨ w (52 + k) = bn) ∧ (dkN w bn k = 12 ∨ w (40 + dkN w bn k) < w (40 + k)) then k else dkN w bn k
theorem dkN_le (w : Rw) (bn : Int32) : ∀ k, k ≤ 12 → dkN w bn k ≤ 12 ∧ (dkN w bn k = 12 ∨ dkN w bn k < k)
  | 0, _ => ⟨Nat.le_refl _, Or.inl rfl⟩
  | k + 1, h => by
    have := dkN_le w bn k (by omega)
    unfold dkN
    split
    · omega
    · omega
/-- feet used: so many rounds at most -/
def usN (bn : Int32) : Nat → Rw → Int32 → Rw
  | 0, w, _ => w
  | n + 1, w, x => if 0 < x then usN bn n (shR w (dkN w bn 12) (ltR x (w (28 + dkN w bn 12)))) (x - ltR x (w (28 + dkN w bn 12))) else w
/-- the rounds are enough, each finds a bale -/
def usG (bn : Int32) : Nat → Rw → Int32 → Prop
  | 0, _, x => ¬ 0 < x
  | n + 1, w, x => 0 < x → dkN w bn 12 < 12 ∧ 0 < w (28 + dkN w bn 12) ∧ usG bn n (shR w (dkN w bn 12) (ltR x (w (28 + dkN w bn 12)))) (x - ltR x (w (28 + dkN w bn 12)))
def seW (L : Lws) (w : Rw) (b : Nat) : Rw := baI (upd w 67 (w 67 + nI (seR L w b))) b (nI 0) (nI 0) (nI 0)
-- draws
def drv (w : Rw) (m : Int32) : Int32 := w 68 - w 68 / m * m
def dr (w : Rw) : Rw := upd w 68 (w 68 * nI 287 + nI 191 - (w 68 * nI 287 + nI 191) / nI 30313 * nI 30313)
-- days
def dw0 (w : Rw) : Rw := upd (dr (upd (upd w 64 (nI 0)) 65 (w 65 + nI 1))) 66 (drv w (nI 10))
def gwN (Q : Tld) (L : Lws) : Nat → Rw → Nat → Rw
  | 0, w, _ => w
  | m + 1, w, t => if w 66 < nI 8 then gwN Q L m (upd w t (ltR (nI 100) (w t + nI (grR Q L w t)))) (t + 1) else w
def spN (L : Lws) : Nat → Rw → Nat → Rw
  | 0, w, _ => w
  | m + 1, w, b => if 0 < w (28 + b) then spN L m (shR (upd w (40 + b) (ltR (nI 99) (w (40 + b) + nI 1))) b (nI (spR L w b))) (b + 1) else spN L m w (b + 1)
def dayR (Q : Tld) (L : Lws) (w : Rw) : Rw := spN L 12 (gwN Q L (qT Q) (dw0 w) 0) 0
def hr0 (w : Rw) : Rw := upd (upd (upd (upd (upd w 64 (w 64 + nI 1)) 12 (nI 0)) 13 (nI 0)) 14 (nI 0)) 15 (nI 0)
def hrR (Q : Tld) (L : Lws) (w : Rw) : Rw := if w 64 + nI 1 = nI 10 then dayR Q L (hr0 w) else hr0 w
def cnP (w : Rw) : Bool := decide (w 65 < nI 999) || decide (w 64 < nI 9)
def ptR (Q : Tld) (L : Lws) : Nat → Rw → Rw
  | 0, w => w
  | n + 1, w => if cnP w then ptR Q L n (hrR Q L w) else w
-- a cut: the bale (12: it can't be), the row
def cuOK (Q : Tld) (L : Lws) (w : Rw) (t r bn : Nat) : Bool := !(decide (w (8 + r) = nI 1)) && !(decide (w (12 + r) = nI 1)) && maR Q L w t (lgR Q L w t) && !(decide (lgR Q L w t = 0)) && !(decide (frB w = 12)) && isR Q w bn (ltR (nI (lgR Q L w t)) (nI (qC Q r)))
def cuG (Q : Tld) (L : Lws) (w : Rw) (t r bn : Nat) : Rw := baI w (frB w) (nI (qK Q t)) (ltR (nI (lgR Q L w t)) (nI (qC Q r))) (nI bn)
def cuW (Q : Tld) (L : Lws) (w : Rw) (t r bn : Nat) : Rw := upd (upd (cuG Q L w t r bn) t (cuG Q L w t r bn t - cuG Q L w t r bn t * ltR (nI (lgR Q L w t)) (nI (qC Q r)) / nI (lgR Q L w t))) (12 + r) (nI 1)
def cuB (Q : Tld) (L : Lws) (w : Rw) (t r bn : Nat) : Nat := if cuOK Q L w t r bn then frB w else 12
def cuR (Q : Tld) (L : Lws) (w : Rw) (t r bn : Nat) : Rw := if cuOK Q L w t r bn then cuW Q L w t r bn else w
def laOK (Q : Tld) (w : Rw) (r bn : Nat) : Bool := !(decide (w (8 + r) = nI 1)) && !(decide (frB w = 12)) && isR Q w bn (nI (qC Q r))
def laW (Q : Tld) (w : Rw) (r bn : Nat) : Rw := upd (baI w (frB w) (nI 5) (nI (qC Q r)) (nI bn)) (8 + r) (nI 1)
-- what happens in a decade
def dN (w : Rw) (m : Nat) : Nat := (drv w (nI m)).toNatClampNeg
def hp0 (Q : Tld) (L : Lws) (w : Rw) : Rw := cuR Q L (dr (dr (dr w))) (dN w (qT Q)) (dN (dr w) (qR Q)) (dN (dr (dr w)) (qB Q))
def hp1 (L : Lws) (w : Rw) : Rw := if 0 < dr w (28 + dN w 12) then seW L (dr w) (dN w 12) else dr w
def hp2 (w : Rw) : Rw := if 0 < dr (dr w) (28 + dN w 12) then shR (dr (dr w)) (dN w 12) (nI 1 + drv (dr w) (nI 20)) else dr (dr w)
def hpR (Q : Tld) (L : Lws) (w : Rw) : Rw := if dN w 6 = 0 then hp0 Q L (dr w) else if dN w 6 = 1 then hp1 L (dr w) else if dN w 6 = 2 then hp2 (dr w) else ptR Q L 1 (dr w)
def hpN (Q : Tld) (L : Lws) : Nat → Rw → Rw
  | 0, w => w
  | n + 1, w => hpN Q L n (hpR Q L w)
/-- the world that is laid -/
def wLay (I : XI) : Rw := fun k => if k < 69 then I 68 (60 + k) else I 93 k
def kep (I : XI) : Rw := fun j => if 60 ≤ j ∧ j < 129 then I 93 (j - 60) else I 68 j
theorem upd_s {f : Nat → Int32} {k : Nat} {v : Int32} : upd f k v k = v := by simp [upd]
theorem upd_n {f : Nat → Int32} {k j : Nat} {v : Int32} (h : j ≠ k) : upd f k v j = f j := by simp [upd, h]
theorem drv_t {w : Rw} {m : Nat} (hx : ∃ n, w 68 = nI n ∧ n < 30313) (h0 : 0 < m) (hm : m < 1000) : ∃ n, drv w (nI m) = nI n ∧ n < m ∧ dN w m = n := by
  obtain ⟨x, e, hx⟩ := hx
  have h1 : x / m ≤ x := Nat.div_le_self _ _
  have h2 : x / m * m ≤ x := Nat.div_mul_le_self _ _
  have e1 : drv w (nI m) = nI (x % m) := by
    unfold drv
    rw [e]
    have ed : nI x / nI m = nI (x / m) := by
      apply Int32.toInt_inj.mp
      have hne : nI m ≠ -1 := fun z => by
        have z := congrArg Int32.toInt z
        rw [nI_toInt (by omega), show (-1 : Int32).toInt = -1 by decide] at z
        omega
      rw [Int32.toInt_div_of_ne_right _ _ hne, nI_toInt (by omega), nI_toInt (by omega), nI_toInt (by omega), Int.tdiv_eq_ediv_of_nonneg (by omega)]
      omega
    rw [ed, nI_mul, nI_subI h2 (by omega)]
    congr 1
    have := Nat.div_add_mod x m
    rw [Nat.mul_comm] at this
    omega
  refine ⟨x % m, e1, Nat.mod_lt _ h0, ?_⟩
  unfold dN
  rw [e1]
  have := Nat.mod_lt x h0
  exact nI_clamp (by omega)
theorem dr_x {w : Rw} (hx : ∃ n, w 68 = nI n ∧ n < 30313) : ∃ n, dr w 68 = nI n ∧ n < 30313 := by
  obtain ⟨x, e, hx⟩ := hx
  have y := drv_t (w := fun _ => nI ((x * 287 + 191) % 30313)) (m := 1) ⟨_, rfl, Nat.mod_lt _ (by decide)⟩ (by decide) (by decide)
  refine ⟨(x * 287 + 191) % 30313, ?_, Nat.mod_lt _ (by decide)⟩
  show upd w 68 _ 68 = _
  rw [upd_s, e, nI_mul, nI_add]
  have ed : nI (x * 287 + 191) / nI 30313 = nI ((x * 287 + 191) / 30313) := by
    apply Int32.toInt_inj.mp
    rw [Int32.toInt_div_of_ne_right _ _ (by decide), nI_toInt (by omega), nI_toInt (by omega), nI_toInt (by omega), Int.tdiv_eq_ediv_of_nonneg (by omega)]
    omega
  rw [ed, nI_mul, nI_subI (by omega) (by omega)]
  congr 1
  omega
