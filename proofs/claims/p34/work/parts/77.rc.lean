section
-- ===== the class's row of a world against the reference's =====
def RC (T : Nat) (w c : Rw) : Prop := (∀ t, t < 8 → c t = if t < T then w t else nI 100) ∧ (∀ r, r < 4 → c (8 + r) = nI 1 - w (8 + r) ∧ c (12 + r) = w (12 + r)) ∧ (∀ b, b < 12 → c (28 + b) = w (28 + b) ∧ (0 < w (28 + b) → c (16 + b) = w (16 + b) ∧ c (40 + b) = w (40 + b) ∧ c (52 + b) = w (52 + b))) ∧ ∀ k, 64 ≤ k → k < 69 → c k = w k
theorem RC.t {T : Nat} {w c : Rw} (h : RC T w c) {t : Nat} (ht : t < T) (h8 : t < 8) : c t = w t := by
  rw [h.1 t h8, if_pos ht]
theorem RC.len {T : Nat} {w c : Rw} (h : RC T w c) {b : Nat} (hb : b < 12) : c (28 + b) = w (28 + b) := (h.2.2.1 b hb).1
theorem RC.hi {T : Nat} {w c : Rw} (h : RC T w c) {k : Nat} (h1 : 64 ≤ k) (h2 : k < 69) : c k = w k := h.2.2.2 k h1 h2
/-- only cells below 69 count -/
theorem RC.cg {T : Nat} {w w' c c' : Rw} (h : RC T w c) (e1 : ∀ k, k < 69 → w' k = w k) (e2 : ∀ k, k < 69 → c' k = c k) : RC T w' c' := by
  refine ⟨fun t ht => ?_, fun r hr => ?_, fun b hb => ?_, fun k h1 h2 => ?_⟩
  · rw [e1 t (by omega), e2 t (by omega)]
    exact h.1 t ht
  · rw [e1 (8 + r) (by omega), e2 (8 + r) (by omega), e1 (12 + r) (by omega), e2 (12 + r) (by omega)]
    exact h.2.1 r hr
  · rw [e1 (28 + b) (by omega), e2 (28 + b) (by omega), e1 (16 + b) (by omega), e2 (16 + b) (by omega), e1 (40 + b) (by omega), e2 (40 + b) (by omega), e1 (52 + b) (by omega), e2 (52 + b) (by omega)]
    exact h.2.2.1 b hb
  · rw [e1 k h2, e2 k h2]
    exact h.2.2.2 k h1 h2
theorem RC.ut {T : Nat} {w c : Rw} (h : RC T w c) {t : Nat} (ht : t < T) (h8 : t < 8) (v : Int32) : RC T (upd w t v) (upd c t v) := by
  refine ⟨fun s hs => ?_, fun r hr => ?_, fun b hb => ?_, fun k h1 h2 => ?_⟩
  · by_cases e : s = t
    · subst e
      rw [upd_s, upd_s, if_pos ht]
    · rw [upd_n e, upd_n e]
      exact h.1 s hs
  · rw [upd_n (by omega), upd_n (by omega), upd_n (by omega), upd_n (by omega)]
    exact h.2.1 r hr
  · rw [upd_n (by omega), upd_n (by omega), upd_n (by omega), upd_n (by omega), upd_n (by omega), upd_n (by omega), upd_n (by omega), upd_n (by omega)]
    exact h.2.2.1 b hb
  · rw [upd_n (by omega), upd_n (by omega)]
    exact h.2.2.2 k h1 h2
theorem RC.uh {T : Nat} {w c : Rw} (h : RC T w c) {r : Nat} (hr : r < 4) (v : Int32) : RC T (upd w (12 + r) v) (upd c (12 + r) v) := by
  refine ⟨fun s hs => ?_, fun q hq => ?_, fun b hb => ?_, fun k h1 h2 => ?_⟩
  · rw [upd_n (by omega), upd_n (by omega)]
    exact h.1 s hs
  · rw [upd_n (show 8 + q ≠ 12 + r by omega), upd_n (show 8 + q ≠ 12 + r by omega)]
    refine ⟨(h.2.1 q hq).1, ?_⟩
    by_cases e : q = r
    · subst e
      rw [upd_s, upd_s]
    · rw [upd_n (by omega), upd_n (by omega)]
      exact (h.2.1 q hq).2
  · rw [upd_n (by omega), upd_n (by omega), upd_n (by omega), upd_n (by omega), upd_n (by omega), upd_n (by omega), upd_n (by omega), upd_n (by omega)]
    exact h.2.2.1 b hb
  · rw [upd_n (by omega), upd_n (by omega)]
    exact h.2.2.2 k h1 h2
theorem RC.ug {T : Nat} {w c : Rw} (h : RC T w c) {r : Nat} (hr : r < 4) {v u : Int32} (e : u = nI 1 - v) : RC T (upd w (8 + r) v) (upd c (8 + r) u) := by
  refine ⟨fun s hs => ?_, fun q hq => ?_, fun b hb => ?_, fun k h1 h2 => ?_⟩
  · rw [upd_n (by omega), upd_n (by omega)]
    exact h.1 s hs
  · rw [upd_n (show 12 + q ≠ 8 + r by omega), upd_n (show 12 + q ≠ 8 + r by omega)]
    refine ⟨?_, (h.2.1 q hq).2⟩
    by_cases e2 : q = r
    · subst e2
      rw [upd_s, upd_s, e]
    · rw [upd_n (by omega), upd_n (by omega)]
      exact (h.2.1 q hq).1
  · rw [upd_n (by omega), upd_n (by omega), upd_n (by omega), upd_n (by omega), upd_n (by omega), upd_n (by omega), upd_n (by omega), upd_n (by omega)]
    exact h.2.2.1 b hb
  · rw [upd_n (by omega), upd_n (by omega)]
    exact h.2.2.2 k h1 h2
theorem RC.uk {T : Nat} {w c : Rw} (h : RC T w c) {i : Nat} (h1 : 64 ≤ i) (v : Int32) : RC T (upd w i v) (upd c i v) := by
  refine ⟨fun s hs => ?_, fun q hq => ?_, fun b hb => ?_, fun k h2 h3 => ?_⟩
  · rw [upd_n (by omega), upd_n (by omega)]
    exact h.1 s hs
  · rw [upd_n (by omega), upd_n (by omega), upd_n (by omega), upd_n (by omega)]
    exact h.2.1 q hq
  · rw [upd_n (by omega), upd_n (by omega), upd_n (by omega), upd_n (by omega), upd_n (by omega), upd_n (by omega), upd_n (by omega), upd_n (by omega)]
    exact h.2.2.1 b hb
  · by_cases e : k = i
    · subst e
      rw [upd_s, upd_s]
    · rw [upd_n e, upd_n e]
      exact h.2.2.2 k h2 h3
/-- bale b is another on both sides -/
theorem RC.ub {T : Nat} {w w' c c' : Rw} (h : RC T w c) {b : Nat} (e1 : ∀ k, k < 69 → k ≠ 16 + b → k ≠ 28 + b → k ≠ 40 + b → k ≠ 52 + b → w' k = w k) (e2 : ∀ k, k < 69 → k ≠ 16 + b → k ≠ 28 + b → k ≠ 40 + b → k ≠ 52 + b → c' k = c k) (hb12 : b < 12) (hb : c' (28 + b) = w' (28 + b) ∧ (0 < w' (28 + b) → c' (16 + b) = w' (16 + b) ∧ c' (40 + b) = w' (40 + b) ∧ c' (52 + b) = w' (52 + b))) : RC T w' c' := by
  refine ⟨fun s hs => ?_, fun q hq => ?_, fun i hi => ?_, fun k h2 h3 => ?_⟩
  · rw [e1 s (by omega) (by omega) (by omega) (by omega) (by omega), e2 s (by omega) (by omega) (by omega) (by omega) (by omega)]
    exact h.1 s hs
  · rw [e1 (8 + q) (by omega) (by omega) (by omega) (by omega) (by omega), e2 (8 + q) (by omega) (by omega) (by omega) (by omega) (by omega), e1 (12 + q) (by omega) (by omega) (by omega) (by omega) (by omega), e2 (12 + q) (by omega) (by omega) (by omega) (by omega) (by omega)]
    exact h.2.1 q hq
  · by_cases e : i = b
    · subst e
      exact hb
    · rw [e1 (28 + i) (by omega) (by omega) (by omega) (by omega) (by omega), e2 (28 + i) (by omega) (by omega) (by omega) (by omega) (by omega), e1 (16 + i) (by omega) (by omega) (by omega) (by omega) (by omega), e2 (16 + i) (by omega) (by omega) (by omega) (by omega) (by omega), e1 (40 + i) (by omega) (by omega) (by omega) (by omega) (by omega), e2 (40 + i) (by omega) (by omega) (by omega) (by omega) (by omega), e1 (52 + i) (by omega) (by omega) (by omega) (by omega) (by omega), e2 (52 + i) (by omega) (by omega) (by omega) (by omega) (by omega)]
      exact h.2.2.1 i hi
  · rw [e1 k h3 (by omega) (by omega) (by omega) (by omega), e2 k h3 (by omega) (by omega) (by omega) (by omega)]
    exact h.2.2.2 k h2 h3
theorem ba_o {w : Rw} {b k : Nat} {kd len bn : Int32} (h1 : k ≠ 16 + b) (h2 : k ≠ 28 + b) (h3 : k ≠ 40 + b) (h4 : k ≠ 52 + b) : baI w b kd len bn k = w k := by
  unfold baI
  rw [upd_n h4, upd_n h3, upd_n h2, upd_n h1]
theorem ba_v {w : Rw} {b : Nat} {kd len bn : Int32} (hb : b < 12) : baI w b kd len bn (16 + b) = kd ∧ baI w b kd len bn (28 + b) = len ∧ baI w b kd len bn (40 + b) = nI 0 ∧ baI w b kd len bn (52 + b) = bn := by
  unfold baI
  refine ⟨?_, ?_, ?_, ?_⟩
  · rw [upd_n (by omega), upd_n (by omega), upd_n (by omega), upd_s]
  · rw [upd_n (by omega), upd_n (by omega), upd_s]
  · rw [upd_n (by omega), upd_s]
  · rw [upd_s]
theorem RC.ba {T : Nat} {w c : Rw} (h : RC T w c) {b : Nat} (hb : b < 12) (kd len bn : Int32) : RC T (baI w b kd len bn) (baI c b kd len bn) := by
  have v1 := ba_v (w := w) (kd := kd) (len := len) (bn := bn) hb
  have v2 := ba_v (w := c) (kd := kd) (len := len) (bn := bn) hb
  refine h.ub (b := b) (fun k _ a1 a2 a3 a4 => ba_o a1 a2 a3 a4) (fun k _ a1 a2 a3 a4 => ba_o a1 a2 a3 a4) hb ⟨by rw [v1.2.1, v2.2.1], fun _ => ⟨by rw [v1.1, v2.1], by rw [v1.2.2.1, v2.2.2.1], by rw [v1.2.2.2, v2.2.2.2]⟩⟩
/-- bale b is none -/
theorem RC.z {T : Nat} {w w0 c : Rw} (h : RC T w c) {b : Nat} (hb : b < 12) (e : ∀ k, k < 69 → k ≠ 28 + b → w0 k = w k) (kd bn : Int32) : RC T (baI w0 b kd (nI 0) bn) (upd c (28 + b) (nI 0)) := by
  have v1 := ba_v (w := w0) (kd := kd) (len := nI 0) (bn := bn) hb
  refine h.ub (b := b) (fun k hk a1 a2 a3 a4 => (ba_o a1 a2 a3 a4).trans (e k hk a2)) (fun k _ a1 a2 a3 a4 => upd_n a2) hb ⟨by rw [v1.2.1, upd_s], fun z => ?_⟩
  rw [v1.2.1] at z
  exact absurd z (by decide)
/-- its length is another -/
theorem RC.ul {T : Nat} {w c : Rw} (h : RC T w c) {b : Nat} (hb : b < 12) (hp : 0 < w (28 + b)) (v : Int32) : RC T (upd w (28 + b) v) (upd c (28 + b) v) := by
  refine h.ub (b := b) (fun k hk a1 a2 a3 a4 => upd_n a2) (fun k _ a1 a2 a3 a4 => upd_n a2) hb ⟨by rw [upd_s, upd_s], fun _ => ?_⟩
  rw [upd_n (by omega), upd_n (by omega), upd_n (by omega), upd_n (by omega), upd_n (by omega), upd_n (by omega)]
  exact (h.2.2.1 b hb).2 hp
theorem RC.ud {T : Nat} {w c : Rw} (h : RC T w c) {b : Nat} (hb : b < 12) (v : Int32) : RC T (upd w (40 + b) v) (upd c (40 + b) v) := by
  refine h.ub (b := b) (fun k hk a1 a2 a3 a4 => upd_n a3) (fun k _ a1 a2 a3 a4 => upd_n a3) hb ⟨?_, fun z => ?_⟩
  · rw [upd_n (by omega), upd_n (by omega)]
    exact h.len hb
  · rw [upd_n (by omega)] at z
    have y := (h.2.2.1 b hb).2 z
    rw [upd_n (show 16 + b ≠ 40 + b by omega), upd_n (show 16 + b ≠ 40 + b by omega), upd_s, upd_s, upd_n (show 52 + b ≠ 40 + b by omega), upd_n (show 52 + b ≠ 40 + b by omega)]
    exact ⟨y.1, rfl, y.2.2⟩
theorem RC.ud0 {T : Nat} {w c : Rw} (h : RC T w c) {b : Nat} (hb : b < 12) (hz : ¬ 0 < w (28 + b)) (v : Int32) : RC T w (upd c (40 + b) v) := by
  refine h.ub (b := b) (fun k hk a1 a2 a3 a4 => rfl) (fun k _ a1 a2 a3 a4 => upd_n a3) hb ⟨?_, fun z => absurd z hz⟩
  rw [upd_n (by omega)]
  exact h.len hb
theorem RC.un {T : Nat} {w c : Rw} (h : RC T w c) {b : Nat} (hb : b < 12) (v : Int32) : RC T (upd w (52 + b) v) (upd c (52 + b) v) := by
  refine h.ub (b := b) (fun k hk a1 a2 a3 a4 => upd_n a4) (fun k _ a1 a2 a3 a4 => upd_n a4) hb ⟨?_, fun z => ?_⟩
  · rw [upd_n (by omega), upd_n (by omega)]
    exact h.len hb
  · rw [upd_n (by omega)] at z
    have y := (h.2.2.1 b hb).2 z
    rw [upd_n (show 16 + b ≠ 52 + b by omega), upd_n (show 16 + b ≠ 52 + b by omega), upd_s, upd_s, upd_n (show 40 + b ≠ 52 + b by omega), upd_n (show 40 + b ≠ 52 + b by omega)]
    exact ⟨y.1, y.2.1, rfl⟩
-- numbers of the class's row
theorem RC.pos {T : Nat} {w c : Rw} (h : RC T w c) {b : Nat} (hb : b < 12) : 0 < c (28 + b) ↔ 0 < w (28 + b) := by rw [h.len hb]
theorem wr01 {w : Rw} (hw : WR w) {k : Nat} (h1 : 8 ≤ k) (h2 : k < 16) : w k = nI 0 ∨ w k = nI 1 := by
  obtain ⟨n, e, hn⟩ := hw k (by omega) (by omega)
  rw [bd_2 h1 h2] at hn
  rcases Nat.lt_or_ge n 1 with c | c
  · exact Or.inl (by rw [e, show n = 0 by omega])
  · exact Or.inr (by rw [e, show n = 1 by omega])
theorem RC.gone {T : Nat} {w c : Rw} (h : RC T w c) (hw : WR w) {r : Nat} (hr : r < 4) : c (8 + r) = 0 ↔ w (8 + r) = nI 1 := by
  rw [(h.2.1 r hr).1]
  rcases wr01 hw (k := 8 + r) (by omega) (by omega) with e | e <;> rw [e] <;> decide
theorem feC_step {T : Nat} {w c : Rw} (h : RC T w c) (hw : WR w) (bn : Int32) {k : Nat} (hk : k < 12) : (if c (52 + k) = bn then feR w bn k + c (28 + k) else feR w bn k) = feR w bn (k + 1) := by
  show _ = feR w bn k + (if w (52 + k) = bn then w (28 + k) else nI 0)
  have e0 : ∀ x : Int32, x + nI 0 = x := fun x => Int32.add_zero x
  obtain ⟨a, ea, ha⟩ := hw.len hk
  by_cases hp : 0 < w (28 + k)
  · rw [((h.2.2.1 k hk).2 hp).2.2, h.len hk]
    by_cases e : w (52 + k) = bn
    · rw [if_pos e, if_pos e]
    · rw [if_neg e, if_neg e, e0]
  · have hz : w (28 + k) = nI 0 := by
      rw [ea] at hp ⊢
      rw [npos (by omega)] at hp
      rw [show a = 0 by omega]
    rw [h.len hk, hz]
    split <;> split <;> simp only [e0]
end
section
-- ===== the class: worlds, exactly =====
theorem nn_of {x : Int32} (h : ¬ x < 0) : ∃ n, x = nI n ∧ n < 2 ^ 31 := by
  have h1 := Int32.not_lt.mp h
  have h2 := Int32.le_iff_toInt_le.mp h1
  rw [show (0 : Int32).toInt = 0 from rfl] at h2
  have h3 := Int32.toInt_lt x
  obtain ⟨n, e, _, _, hn⟩ := nI_inI (x := x) (a := 0) (b := 2147483647) ⟨h2, by omega⟩ (by omega)
  exact ⟨n, e, hn⟩
theorem nI_nn {n : Nat} (h : n < 2 ^ 31) : ¬ nI n < 0 := by
  rw [Int32.lt_iff_toInt_lt, nI_toInt h, show (0 : Int32).toInt = 0 from rfl]
  omega
theorem nI_inj {a b : Nat} (h : nI a = nI b) (ha : a < 2 ^ 31) (hb : b < 2 ^ 31) : a = b := by
  have h := congrArg Int32.toInt h
  rw [nI_toInt ha, nI_toInt hb] at h
  omega
def F24 (p : Nat) (I I' : XI) : Prop := ∀ q, q ≠ 24 → q ≠ p → I' q = I q
theorem F24.rf {p : Nat} {I : XI} : F24 p I I := fun _ _ _ => rfl
theorem F24.tr {p : Nat} {I I1 I2 : XI} (h : F24 p I I1) (g : F24 p I1 I2) : F24 p I I2 := fun q a b => (g q a b).trans (h q a b)
theorem F24.u {p : Nat} {I I1 : XI} {k : Nat} {v : Int32} (h : F24 p I I1) : F24 p I (uI I1 p k v) := fun q a b => (uI_ne b).trans (h q a b)
theorem F24.n {p : Nat} {I I1 : XI} (h : ∀ q, q ≠ 24 → I1 q = I q) : F24 p I I1 := fun q a _ => h q a
theorem CE.k27 {I I' : XI} {ru : Nat} {Q : Tld} {L : Lws} (f : F24 27 I I') (h : CE I ru Q L) : CE I' ru Q L := h.keep (fun q hq => f q (by omega) (by omega))
theorem CE.k29 {I I' : XI} {ru : Nat} {Q : Tld} {L : Lws} (f : F24 29 I I') (h : CE I ru Q L) : CE I' ru Q L := h.keep (fun q hq => f q (by omega) (by omega))
set_option maxRecDepth 100000 in
theorem cc_hasThing (l : Launch) (d : Nat) (ru ta : Nat) (rs : List XO) (I : XI) (J : XJ) (Rp : XR) (Q : Tld) (L : Lws) (h : CE I ru Q L) (x : Int32) (h1 : ∀ t, t < qT Q → x = nI t → Rp (some (.int 1)) (shH ru ta rs) I J) (h0 : (∀ t, t < qT Q → x ≠ nI t) → Rp (some (.int 0)) (shH ru ta rs) I J) : xm l (d + 1) 0 0 mX9_hasThing [.ref 12, .int x] (shH ru ta rs) I J Rp := by
  have eT : I 12 5 = nI (qT Q) := h.1.1
  have b8 : qT Q ≤ 8 := h.2.1.1
  refine xm_ofK 0 (X := xxX9) (t := tX9_hasThing) (stop := []) (ini := false) xx9 pl9 rfl kX9_hasThing (fun h => by cases h) (Nat.le_of_ble_eq_true rfl) (fun K hK => ?_)
  refine And.intro (fun (z : x < 0) => ?_) (fun (z : ¬ x < 0) => ?_)
  · refine And.intro (Or.inl rfl) (h0 (fun t ht e => ?_))
    rw [e] at z
    exact nI_nn (by omega) z
  · obtain ⟨n, e, hn⟩ := nn_of z
    refine And.intro (fun (y : I 12 5 ≤ x) => ?_) (fun (y : ¬ I 12 5 ≤ x) => ?_)
    · refine And.intro (Or.inl rfl) (h0 (fun t ht e2 => ?_))
      rw [eT, e2] at y
      have := (nle (by omega) (by omega)).mp y
      omega
    · rw [eT, e] at y
      have y2 : n < qT Q := by
        rcases Nat.lt_or_ge n (qT Q) with c | c
        · exact c
        · exact absurd ((nle (by omega) (by omega)).mpr c) y
      refine And.intro (fun (v : nI 8 ≤ x) => ?_) (fun _ => ?_)
      · rw [e] at v
        have := (nle (by omega) (by omega)).mp v
        omega
      · exact And.intro (Or.inr rfl) (h1 n y2 e)
set_option maxRecDepth 100000 in
theorem cc_hasReaper (l : Launch) (d : Nat) (ru ta : Nat) (rs : List XO) (I : XI) (J : XJ) (Rp : XR) (Q : Tld) (L : Lws) (h : CE I ru Q L) (x : Int32) (h1 : ∀ t, t < qR Q → x = nI t → Rp (some (.int 1)) (shH ru ta rs) I J) (h0 : (∀ t, t < qR Q → x ≠ nI t) → Rp (some (.int 0)) (shH ru ta rs) I J) : xm l (d + 1) 0 0 mX9_hasReaper [.ref 12, .int x] (shH ru ta rs) I J Rp := by
  have eT : I 12 6 = nI (qR Q) := h.1.2.1
  have b8 : qR Q ≤ 4 := h.2.1.2.1
  refine xm_ofK 0 (X := xxX9) (t := tX9_hasReaper) (stop := []) (ini := false) xx9 pl9 rfl kX9_hasReaper (fun h => by cases h) (Nat.le_of_ble_eq_true rfl) (fun K hK => ?_)
  refine And.intro (fun (z : x < 0) => ?_) (fun (z : ¬ x < 0) => ?_)
  · refine And.intro (Or.inl rfl) (h0 (fun t ht e => ?_))
    rw [e] at z
    exact nI_nn (by omega) z
  · obtain ⟨n, e, hn⟩ := nn_of z
    refine And.intro (fun (y : I 12 6 ≤ x) => ?_) (fun (y : ¬ I 12 6 ≤ x) => ?_)
    · refine And.intro (Or.inl rfl) (h0 (fun t ht e2 => ?_))
      rw [eT, e2] at y
      have := (nle (by omega) (by omega)).mp y
      omega
    · rw [eT, e] at y
      have y2 : n < qR Q := by
        rcases Nat.lt_or_ge n (qR Q) with c | c
        · exact c
        · exact absurd ((nle (by omega) (by omega)).mpr c) y
      refine And.intro (fun (v : nI 4 ≤ x) => ?_) (fun _ => ?_)
      · rw [e] at v
        have := (nle (by omega) (by omega)).mp v
        omega
      · exact And.intro (Or.inr rfl) (h1 n y2 e)
set_option maxRecDepth 100000 in
theorem cc_hasBarn (l : Launch) (d : Nat) (ru ta : Nat) (rs : List XO) (I : XI) (J : XJ) (Rp : XR) (Q : Tld) (L : Lws) (h : CE I ru Q L) (x : Int32) (h1 : ∀ t, t < qB Q → x = nI t → Rp (some (.int 1)) (shH ru ta rs) I J) (h0 : (∀ t, t < qB Q → x ≠ nI t) → Rp (some (.int 0)) (shH ru ta rs) I J) : xm l (d + 1) 0 0 mX9_hasBarn [.ref 12, .int x] (shH ru ta rs) I J Rp := by
  have eT : I 12 7 = nI (qB Q) := h.1.2.2.1
  have b8 : qB Q ≤ 4 := h.2.1.2.2.1
  refine xm_ofK 0 (X := xxX9) (t := tX9_hasBarn) (stop := []) (ini := false) xx9 pl9 rfl kX9_hasBarn (fun h => by cases h) (Nat.le_of_ble_eq_true rfl) (fun K hK => ?_)
  refine And.intro (fun (z : x < 0) => ?_) (fun (z : ¬ x < 0) => ?_)
  · refine And.intro (Or.inl rfl) (h0 (fun t ht e => ?_))
    rw [e] at z
    exact nI_nn (by omega) z
  · obtain ⟨n, e, hn⟩ := nn_of z
    refine And.intro (fun (y : I 12 7 ≤ x) => ?_) (fun (y : ¬ I 12 7 ≤ x) => ?_)
    · refine And.intro (Or.inl rfl) (h0 (fun t ht e2 => ?_))
      rw [eT, e2] at y
      have := (nle (by omega) (by omega)).mp y
      omega
    · rw [eT, e] at y
      have y2 : n < qB Q := by
        rcases Nat.lt_or_ge n (qB Q) with c | c
        · exact c
        · exact absurd ((nle (by omega) (by omega)).mpr c) y
      refine And.intro (fun (v : nI 4 ≤ x) => ?_) (fun _ => ?_)
      · rw [e] at v
        have := (nle (by omega) (by omega)).mp v
        omega
      · exact And.intro (Or.inr rfl) (h1 n y2 e)
set_option maxRecDepth 100000 in
theorem cw_hasBale (l : Launch) (d : Nat) (ru ta : Nat) (rs : List XO) (I : XI) (J : XJ) (Rp : XR) (T : Nat) (w : Rw) (hr : RC T w (I 27)) (hw : WR w) (x : Int32) (h1 : ∀ b, b < 12 → x = nI b → 0 < w (28 + b) → Rp (some (.int 1)) (shH ru ta rs) I J) (h0 : (∀ b, b < 12 → x = nI b → ¬ 0 < w (28 + b)) → Rp (some (.int 0)) (shH ru ta rs) I J) : xm l (d + 1) 0 0 mX10_hasBale [.ref 26, .int x] (shH ru ta rs) I J Rp := by
  refine xm_ofK 0 (X := xxX10) (t := tX10_hasBale) (stop := []) (ini := false) xx10 pl10 rfl kX10_hasBale (fun h => by cases h) (Nat.le_of_ble_eq_true rfl) (fun K hK => ?_)
  refine And.intro (fun (z : x < 0) => ?_) (fun (z : ¬ x < 0) => ?_)
  · refine And.intro (Or.inl rfl) (h0 (fun b hb e => ?_))
    rw [e] at z
    exact absurd z (nI_nn (by omega))
  · obtain ⟨n, e, hn⟩ := nn_of z
    subst e
    refine And.intro (fun (y : nI 12 ≤ nI n) => ?_) (fun (y : ¬ nI 12 ≤ nI n) => ?_)
    · have := (nle (by omega) (by omega)).mp y
      refine And.intro (Or.inl rfl) (h0 (fun b hb e => ?_))
      have := nI_inj e (by omega) (by omega)
      omega
    · have y2 : n < 12 := by
        rcases Nat.lt_or_ge n 12 with c | c
        · exact c
        · exact absurd ((nle (by omega) (by omega)).mpr c) y
      have ix : (nI 28 + nI n).toNatClampNeg = 28 + n := ix_c (by omega)
      refine And.intro (show vp_in (nI 28 + nI n) 69 from vx_2 (by omega) (by omega)) ?_
      refine And.intro (fun (v : I 27 (nI 28 + nI n).toNatClampNeg ≤ 0) => ?_) (fun (v : ¬ I 27 (nI 28 + nI n).toNatClampNeg ≤ 0) => ?_)
      · rw [ix, hr.len y2] at v
        refine And.intro (Or.inl rfl) (h0 (fun b hb e => ?_))
        have := nI_inj e (by omega) (by omega)
        subst this
        exact Int32.not_lt.mpr v
      · rw [ix, hr.len y2] at v
        exact And.intro (Or.inr rfl) (h1 n y2 rfl (Int32.not_le.mp v))
set_option maxRecDepth 100000 in
set_option maxHeartbeats 4000000 in
theorem cw_feetIn_loop (l : Launch) (d : Nat) (ru ta : Nat) (rs : List XO) (I : XI) (J : XJ) (Rp : XR) (T : Nat) (w : Rw) (hr : RC T w (I 27)) (hw : WR w) (bn : Int32) (hbn : ¬ bn = -1) (hR : Rp (some (.int (feR w bn 12))) (shH ru ta rs) I J) : ∀ (m k n : Nat), k + m = 12 → m < n → xrun xxX10 (some .int) false false (shH ru ta rs).length 0 0 none l d tX10_feetIn [4] Rp n 4 [some (.ref 26), some (.int bn), some (.int (feR w bn k)), some (.int (nI k))] [] (shH ru ta rs) I J 0 0 := by
  intro m
  induction m with
  | zero =>
    intro k n hk hn
    obtain ⟨n, rfl⟩ : ∃ n', n = n' + 1 := ⟨n - 1, by omega⟩
    have hk : k = 12 := by omega
    refine xrun_step fun K hK => ?_
    refine And.intro (fun _ => ?_) (fun z => absurd (show nI 12 ≤ nI k from by subst hk; exact Int32.le_refl _) z)
    subst hk
    exact hR
  | succ m ih =>
    intro k n hk hn
    obtain ⟨n, rfl⟩ : ∃ n', n = n' + 1 := ⟨n - 1, by omega⟩
    have ix0 : ((nI 52) + (nI k)).toNatClampNeg = 52 + k := by rw [show (nI 52) + (nI k) = nI (52 + k) by simp only [nI_add, nI_mul, Nat.zero_add]]; exact nI_clamp (by omega)
    have ix1 : ((nI 28) + (nI k)).toNatClampNeg = 28 + k := by rw [show (nI 28) + (nI k) = nI (28 + k) by simp only [nI_add, nI_mul, Nat.zero_add]]; exact nI_clamp (by omega)
    refine xrun_step fun K hK => ?_
    refine And.intro (fun z => absurd (show nI 12 ≤ nI k from z) (nI_ge (by omega) (by omega))) (fun _ => ?_)
    refine And.intro (fun z => absurd (show bn = (-1) from z) (hbn)) (fun _ => ?_)
    refine And.intro (show vp_in ((nI 52) + (nI k)) 69 from vx_2 (by omega) (by omega)) ?_
    refine And.intro (fun (h25 : ¬ (I 27 ((nI 52) + (nI k)).toNatClampNeg = bn)) => ?_) (fun (h25 : I 27 ((nI 52) + (nI k)).toNatClampNeg = bn) => ?_)
    · replace h25 : ¬ (I 27 (52 + k) = bn) := by simpa only [ix0, ix1, uI_rd] using h25
      refine hK 4 [some (.ref 26), some (.int bn), some (.int (feR w bn k)), some (.int ((nI k) + 1))] [] (shH ru ta rs) I J 0 0 ?_
      have e := feC_step hr hw bn (show k < 12 by omega)
      rw [if_neg h25] at e
      rw [nI_1, e]
      exact ih (k + 1) n (by omega) (by omega)
    · replace h25 : I 27 (52 + k) = bn := by simpa only [ix0, ix1, uI_rd] using h25
      refine And.intro (show vp_in ((nI 28) + (nI k)) 69 from vx_2 (by omega) (by omega)) ?_
      refine hK 4 [some (.ref 26), some (.int bn), some (.int ((feR w bn k) + (I 27 ((nI 28) + (nI k)).toNatClampNeg))), some (.int ((nI k) + 1))] [] (shH ru ta rs) I J 0 0 ?_
      simp only [ix0, ix1, uI_rd]
      have e := feC_step hr hw bn (show k < 12 by omega)
      rw [if_pos h25] at e
      rw [nI_1, e]
      exact ih (k + 1) n (by omega) (by omega)
set_option maxRecDepth 100000 in
theorem cw_feetIn (l : Launch) (d : Nat) (ru ta : Nat) (rs : List XO) (I : XI) (J : XJ) (Rp : XR) (T : Nat) (w : Rw) (hr : RC T w (I 27)) (hw : WR w) (bn : Int32) (hbn : ¬ bn = -1) (hR : Rp (some (.int (feR w bn 12))) (shH ru ta rs) I J) : xm l (d + 1) 0 0 mX10_feetIn [.ref 26, .int bn] (shH ru ta rs) I J Rp := by
  refine xm_ofK 14 (X := xxX10) (t := tX10_feetIn) (stop := [4]) (ini := false) xx10 pl10 rfl kX10_feetIn (fun h => by cases h) (Nat.le_of_ble_eq_true rfl) (fun K hK => ?_)
  exact hK 4 [some (.ref 26), some (.int bn), some (.int (nI 0)), some (.int (nI 0))] [] _ _ _ _ _ (cw_feetIn_loop l d ru ta rs I J Rp T w hr hw bn hbn hR 12 0 14 (by omega) (by omega))
set_option maxRecDepth 100000 in
set_option maxHeartbeats 4000000 in
theorem cw_feetAll_loop (l : Launch) (d : Nat) (ru ta : Nat) (rs : List XO) (I : XI) (J : XJ) (Rp : XR) (T : Nat) (w : Rw) (hr : RC T w (I 27)) (hw : WR w) (hR : Rp (some (.int (faR w 12))) (shH ru ta rs) I J) : ∀ (m k n : Nat), k + m = 12 → m < n → xrun xxX10 (some .int) false false (shH ru ta rs).length 0 0 none l d tX10_feetIn [4] Rp n 4 [some (.ref 26), some (.int (-1 : Int32)), some (.int (faR w k)), some (.int (nI k))] [] (shH ru ta rs) I J 0 0 := by
  intro m
  induction m with
  | zero =>
    intro k n hk hn
    obtain ⟨n, rfl⟩ : ∃ n', n = n' + 1 := ⟨n - 1, by omega⟩
    have hk : k = 12 := by omega
    refine xrun_step fun K hK => ?_
    refine And.intro (fun _ => ?_) (fun z => absurd (show nI 12 ≤ nI k from by subst hk; exact Int32.le_refl _) z)
    subst hk
    exact hR
  | succ m ih =>
    intro k n hk hn
    obtain ⟨n, rfl⟩ : ∃ n', n = n' + 1 := ⟨n - 1, by omega⟩
    have ix0 : ((nI 28) + (nI k)).toNatClampNeg = 28 + k := by rw [show (nI 28) + (nI k) = nI (28 + k) by simp only [nI_add, nI_mul, Nat.zero_add]]; exact nI_clamp (by omega)
    refine xrun_step fun K hK => ?_
    refine And.intro (fun z => absurd (show nI 12 ≤ nI k from z) (nI_ge (by omega) (by omega))) (fun _ => ?_)
    refine And.intro (fun _ => ?_) (fun z => absurd (show (-1 : Int32) = (-1) from rfl) z)
    refine And.intro (show vp_in ((nI 28) + (nI k)) 69 from vx_2 (by omega) (by omega)) ?_
    refine hK 4 [some (.ref 26), some (.int (-1 : Int32)), some (.int ((faR w k) + (I 27 ((nI 28) + (nI k)).toNatClampNeg))), some (.int ((nI k) + 1))] [] (shH ru ta rs) I J 0 0 ?_
    simp only [ix0, uI_rd]
    rw [nI_1, hr.len (by omega)]
    exact ih (k + 1) n (by omega) (by omega)
set_option maxRecDepth 100000 in
theorem cw_feetAll (l : Launch) (d : Nat) (ru ta : Nat) (rs : List XO) (I : XI) (J : XJ) (Rp : XR) (T : Nat) (w : Rw) (hr : RC T w (I 27)) (hw : WR w) (hR : Rp (some (.int (faR w 12))) (shH ru ta rs) I J) : xm l (d + 1) 0 0 mX10_feetIn [.ref 26, .int (-1 : Int32)] (shH ru ta rs) I J Rp := by
  refine xm_ofK 14 (X := xxX10) (t := tX10_feetIn) (stop := [4]) (ini := false) xx10 pl10 rfl kX10_feetIn (fun h => by cases h) (Nat.le_of_ble_eq_true rfl) (fun K hK => ?_)
  exact hK 4 [some (.ref 26), some (.int (-1 : Int32)), some (.int (nI 0)), some (.int (nI 0))] [] _ _ _ _ _ (cw_feetAll_loop l d ru ta rs I J Rp T w hr hw hR 12 0 14 (by omega) (by omega))
set_option maxRecDepth 100000 in
set_option maxHeartbeats 4000000 in
theorem cw_free_loop (l : Launch) (d : Nat) (ru ta : Nat) (rs : List XO) (I : XI) (J : XJ) (Rp : XR) (T : Nat) (w : Rw) (hr : RC T w (I 27)) (hw : WR w)  : ∀ (m k n : Nat), k + m = 12 → m < n → Rp (some (.int (bI (frN w m k)))) (shH ru ta rs) I J → xrun xxX10 (some .int) false false (shH ru ta rs).length 0 0 none l d tX10_freeBale [2] Rp n 2 [some (.ref 26), some (.int (nI k))] [] (shH ru ta rs) I J 0 0 := by
  intro m
  induction m with
  | zero =>
    intro k n hk hn hI
    obtain ⟨n, rfl⟩ : ∃ n', n = n' + 1 := ⟨n - 1, by omega⟩
    have hk : k = 12 := by omega
    refine xrun_step fun K hK => ?_
    refine And.intro (fun _ => ?_) (fun z => absurd (show nI 12 ≤ nI k from by subst hk; exact Int32.le_refl _) z)
    subst hk
    exact hI
  | succ m ih =>
    intro k n hk hn hI
    obtain ⟨n, rfl⟩ : ∃ n', n = n' + 1 := ⟨n - 1, by omega⟩
    have ix0 : ((nI 28) + (nI k)).toNatClampNeg = 28 + k := by rw [show (nI 28) + (nI k) = nI (28 + k) by simp only [nI_add, nI_mul, Nat.zero_add]]; exact nI_clamp (by omega)
    refine xrun_step fun K hK => ?_
    refine And.intro (fun z => absurd (show nI 12 ≤ nI k from z) (nI_ge (by omega) (by omega))) (fun _ => ?_)
    refine And.intro (show vp_in ((nI 28) + (nI k)) 69 from vx_2 (by omega) (by omega)) ?_
    refine And.intro (fun (h17 : ¬ (I 27 ((nI 28) + (nI k)).toNatClampNeg = 0)) => ?_) (fun (h17 : I 27 ((nI 28) + (nI k)).toNatClampNeg = 0) => ?_)
    · replace h17 : ¬ (I 27 (28 + k) = 0) := by simpa only [ix0, uI_rd] using h17
      rw [hr.len (by omega)] at h17
      refine hK 2 [some (.ref 26), some (.int ((nI k) + 1))] [] (shH ru ta rs) I J 0 0 ?_
      rw [nI_1]
      unfold frN at hI
      rw [if_neg h17] at hI
      exact ih (k + 1) n (by omega) (by omega) hI
    · replace h17 : I 27 (28 + k) = 0 := by simpa only [ix0, uI_rd] using h17
      rw [hr.len (by omega)] at h17
      unfold frN at hI
      rw [if_pos h17, bI_b (by omega)] at hI
      exact hI
set_option maxRecDepth 100000 in
theorem cw_free (l : Launch) (d : Nat) (ru ta : Nat) (rs : List XO) (I : XI) (J : XJ) (Rp : XR) (T : Nat) (w : Rw) (hr : RC T w (I 27)) (hw : WR w) (hR : Rp (some (.int (bI (frB w)))) (shH ru ta rs) I J) : xm l (d + 1) 0 0 mX10_freeBale [.ref 26] (shH ru ta rs) I J Rp := by
  refine xm_ofK 14 (X := xxX10) (t := tX10_freeBale) (stop := [2]) (ini := false) xx10 pl10 rfl kX10_freeBale (fun h => by cases h) (Nat.le_of_ble_eq_true rfl) (fun K hK => ?_)
  exact hK 2 [some (.ref 26), some (.int (nI 0))] [] _ _ _ _ _ (cw_free_loop l d ru ta rs I J Rp T w hr hw 12 0 14 (by omega) (by omega) hR)
set_option maxRecDepth 100000 in
set_option maxHeartbeats 4000000 in
theorem cw_balesIn_loop (l : Launch) (d : Nat) (ru ta : Nat) (rs : List XO) (I : XI) (J : XJ) (Rp : XR) (T : Nat) (w : Rw) (hr : RC T w (I 27)) (hw : WR w) (y : Int32) (c : Nat) (hc : c < 69) (h67 : c ≠ 67) (ey : y = w c) (hR : Rp (some (.int (nI (blN (nW w) (nW w c) 12)))) (shH ru ta rs) I J) : ∀ (m k n : Nat), k + m = 12 → m < n → xrun xxX10 (some .int) false false (shH ru ta rs).length 0 0 none l d tX10_balesIn [4] Rp n 4 [some (.ref 26), some (.int y), some (.int (nI (blN (nW w) (nW w c) k))), some (.int (nI k))] [] (shH ru ta rs) I J 0 0 := by
  intro m
  induction m with
  | zero =>
    intro k n hk hn
    obtain ⟨n, rfl⟩ : ∃ n', n = n' + 1 := ⟨n - 1, by omega⟩
    have hk : k = 12 := by omega
    refine xrun_step fun K hK => ?_
    refine And.intro (fun _ => ?_) (fun z => absurd (show nI 12 ≤ nI k from by subst hk; exact Int32.le_refl _) z)
    subst hk
    exact hR
  | succ m ih =>
    intro k n hk hn
    obtain ⟨n, rfl⟩ : ∃ n', n = n' + 1 := ⟨n - 1, by omega⟩
    have ix0 : ((nI 28) + (nI k)).toNatClampNeg = 28 + k := by rw [show (nI 28) + (nI k) = nI (28 + k) by simp only [nI_add, nI_mul, Nat.zero_add]]; exact nI_clamp (by omega)
    have ix1 : ((nI 52) + (nI k)).toNatClampNeg = 52 + k := by rw [show (nI 52) + (nI k) = nI (52 + k) by simp only [nI_add, nI_mul, Nat.zero_add]]; exact nI_clamp (by omega)
    refine xrun_step fun K hK => ?_
    refine And.intro (fun z => absurd (show nI 12 ≤ nI k from z) (nI_ge (by omega) (by omega))) (fun _ => ?_)
    refine And.intro (show vp_in ((nI 28) + (nI k)) 69 from vx_2 (by omega) (by omega)) ?_
    refine And.intro (fun (h19 : I 27 ((nI 28) + (nI k)).toNatClampNeg ≤ 0) => ?_) (fun (h19 : ¬ (I 27 ((nI 28) + (nI k)).toNatClampNeg ≤ 0)) => ?_)
    · replace h19 : I 27 (28 + k) ≤ 0 := by simpa only [ix0, ix1, uI_rd] using h19
      rw [hr.len (by omega)] at h19
      replace h19 : ¬ 0 < w (28 + k) := Int32.not_lt.mpr h19
      refine hK 4 [some (.ref 26), some (.int y), some (.int (nI (blN (nW w) (nW w c) k))), some (.int ((nI k) + 1))] [] (shH ru ta rs) I J 0 0 ?_
      have e : blN (nW w) (nW w c) (k + 1) = blN (nW w) (nW w c) k + 0 := by
        show blN (nW w) (nW w c) k + (if 0 < nW w (28 + k) ∧ nW w (52 + k) = nW w c then 1 else 0) = _
        rw [if_neg (fun z => h19 ((nW_pos hw (by omega) (by omega)).mpr z.1))]
      rw [nI_1, show blN (nW w) (nW w c) k = blN (nW w) (nW w c) (k + 1) from by rw [e, Nat.add_zero]]
      exact ih (k + 1) n (by omega) (by omega)
    · replace h19 : ¬ (I 27 (28 + k) ≤ 0) := by simpa only [ix0, ix1, uI_rd] using h19
      rw [hr.len (by omega)] at h19
      replace h19 : 0 < w (28 + k) := Int32.not_le.mp h19
      refine And.intro (show vp_in ((nI 52) + (nI k)) 69 from vx_2 (by omega) (by omega)) ?_
      refine And.intro (fun (h32 : ¬ (I 27 ((nI 52) + (nI k)).toNatClampNeg = y)) => ?_) (fun (h32 : I 27 ((nI 52) + (nI k)).toNatClampNeg = y) => ?_)
      · replace h32 : ¬ (I 27 (52 + k) = y) := by simpa only [ix0, ix1, uI_rd] using h32
        rw [((hr.2.2.1 k (by omega)).2 h19).2.2, ey] at h32
        refine hK 4 [some (.ref 26), some (.int y), some (.int (nI (blN (nW w) (nW w c) k))), some (.int ((nI k) + 1))] [] (shH ru ta rs) I J 0 0 ?_
        have e : blN (nW w) (nW w c) (k + 1) = blN (nW w) (nW w c) k + 0 := by
          show blN (nW w) (nW w c) k + (if 0 < nW w (28 + k) ∧ nW w (52 + k) = nW w c then 1 else 0) = _
          rw [if_neg (fun z => h32 ((nW_eq hw (by omega) (by omega) hc h67).mpr z.2))]
        rw [nI_1, show blN (nW w) (nW w c) k = blN (nW w) (nW w c) (k + 1) from by rw [e, Nat.add_zero]]
        exact ih (k + 1) n (by omega) (by omega)
      · replace h32 : I 27 (52 + k) = y := by simpa only [ix0, ix1, uI_rd] using h32
        rw [((hr.2.2.1 k (by omega)).2 h19).2.2, ey] at h32
        refine hK 4 [some (.ref 26), some (.int y), some (.int ((nI (blN (nW w) (nW w c) k)) + 1)), some (.int ((nI k) + 1))] [] (shH ru ta rs) I J 0 0 ?_
        have e : blN (nW w) (nW w c) (k + 1) = blN (nW w) (nW w c) k + 1 := by
          show blN (nW w) (nW w c) k + (if 0 < nW w (28 + k) ∧ nW w (52 + k) = nW w c then 1 else 0) = _
          rw [if_pos ⟨(nW_pos hw (by omega) (by omega)).mp h19, (nW_eq hw (by omega) (by omega) hc h67).mp h32⟩]
        rw [nI_1, nI_1, ← e]
        exact ih (k + 1) n (by omega) (by omega)
set_option maxRecDepth 100000 in
theorem cw_balesIn (l : Launch) (d : Nat) (ru ta : Nat) (rs : List XO) (I : XI) (J : XJ) (Rp : XR) (T : Nat) (w : Rw) (hr : RC T w (I 27)) (hw : WR w) (y : Int32) (c : Nat) (hc : c < 69) (h67 : c ≠ 67) (ey : y = w c) (hR : Rp (some (.int (nI (blN (nW w) (nW w c) 12)))) (shH ru ta rs) I J) : xm l (d + 1) 0 0 mX10_balesIn [.ref 26, .int y] (shH ru ta rs) I J Rp := by
  refine xm_ofK 14 (X := xxX10) (t := tX10_balesIn) (stop := [4]) (ini := false) xx10 pl10 rfl kX10_balesIn (fun h => by cases h) (Nat.le_of_ble_eq_true rfl) (fun K hK => ?_)
  exact hK 4 [some (.ref 26), some (.int y), some (.int (nI 0)), some (.int (nI 0))] [] _ _ _ _ _ (cw_balesIn_loop l d ru ta rs I J Rp T w hr hw y c hc h67 ey hR 12 0 14 (by omega) (by omega))
theorem RC.nt {T : Nat} {w c : Rw} (h : RC T w c) (hw : WR w) {t : Nat} (ht : t < T) (h8 : t < 8) : c t = nI (nW w t) := by
  rw [h.t ht h8]
  exact hw.c (by omega) (by omega)
theorem RC.nk {T : Nat} {w c : Rw} (h : RC T w c) (hw : WR w) {k : Nat} (h1 : 64 ≤ k) (h2 : k < 67) : c k = nI (nW w k) := by
  rw [h.hi h1 (by omega)]
  exact hw.c (by omega) (by omega)
theorem cx_shadowW (l : Launch) (d : Nat) (ru ta : Nat) (rs : List XO) (I : XI) (J : XJ) (Rp : XR) (Q : Tld) (L : Lws) (h : CE I ru Q L) (w : Rw) (hw : WR w) (t : Nat) (ht : t < qT Q) (g hh dy cl : Int32) (e3 : g = nI (nW w t)) (e4 : hh = nI (nW w 64)) (e0 : dy = nI (nW w 65)) (e5 : cl = nI (nW w 66)) (hR : ∀ (I' : XI) (J' : XJ), (∀ q, q ≠ 24 → I' q = I q) → Rp (some (.int (nI (lgR Q L w t)))) (shH ru ta rs) I' J') : xm l (d + 3) 0 0 mX2_shadow [.ref 23, .int (nI t), .int g, .int hh, .int dy, .int cl] (shH ru ta rs) I J Rp := by
  subst e3 e4 e0 e5
  have k := hw.wok
  have t8 := h.2.1.1
  exact cx_shadow l d ru ta rs I J Rp Q L h t ht (nmT Q (nW w) t 0) rfl rfl k.2.2.2.2.1 (k.1 t (by omega)) k.2.2.2.1 k.2.2.2.2.2.1 hR
theorem cx_growthW (l : Launch) (d : Nat) (ru ta : Nat) (rs : List XO) (I : XI) (J : XJ) (Rp : XR) (Q : Tld) (L : Lws) (h : CE I ru Q L) (w : Rw) (hw : WR w) (t : Nat) (ht : t < qT Q) (g dy cl : Int32) (e3 : g = nI (nW w t)) (e0 : dy = nI (nW w 65)) (e5 : cl = nI (nW w 66)) (hR : ∀ (I' : XI) (J' : XJ), (∀ q, q ≠ 24 → I' q = I q) → Rp (some (.int (nI (grR Q L w t)))) (shH ru ta rs) I' J') : xm l (d + 3) 0 0 mX2_growth [.ref 23, .int (nI t), .int g, .int dy, .int cl] (shH ru ta rs) I J Rp := by
  subst e3 e0 e5
  have k := hw.wok
  have t8 := h.2.1.1
  exact cx_growth l d ru ta rs I J Rp Q L h t ht (nmT Q (nW w) t 0) rfl rfl (Or.inr trivial) k.2.2.2.2.1 (k.1 t (by omega)) k.2.2.2.2.2.1 hR
theorem cx_allowsW (l : Launch) (d : Nat) (ru ta : Nat) (rs : List XO) (I : XI) (J : XJ) (Rp : XR) (Q : Tld) (L : Lws) (h : CE I ru Q L) (w : Rw) (hw : WR w) (t s : Nat) (ht : t < qT Q) (hs : s ≤ 999) (g hh dy sh : Int32) (e3 : g = nI (nW w t)) (e4 : hh = nI (nW w 64)) (e0 : dy = nI (nW w 65)) (e10 : sh = nI s) (h1 : ∀ (I' : XI) (J' : XJ), maR Q L w t s = true → (∀ q, q ≠ 24 → I' q = I q) → Rp (some (.int 1)) (shH ru ta rs) I' J') (h0 : ∀ (I' : XI) (J' : XJ), maR Q L w t s = false → (∀ q, q ≠ 24 → I' q = I q) → Rp (some (.int 0)) (shH ru ta rs) I' J') : xm l (d + 3) 0 0 mX2_allows [.ref 23, .int (nI t), .int g, .int hh, .int dy, .int sh] (shH ru ta rs) I J Rp := by
  subst e3 e4 e0 e10
  have k := hw.wok
  have t8 := h.2.1.1
  refine cx_allows l d ru ta rs I J Rp Q L h t ht (nmT Q (nW w) t s) rfl rfl rfl k.2.2.2.2.1 (k.1 t (by omega)) k.2.2.2.1 hs (fun r I' J' er f => ?_)
  cases e : maOf L (nmT Q (nW w) t s) with
  | false =>
    rw [e] at er
    have er : r = 0 := er
    subst er
    exact h0 I' J' e f
  | true =>
    rw [e] at er
    have er : r = 1 := er
    subst er
    exact h1 I' J' e f
theorem nmL_k {w : Rw} (hw : WR w) {b : Nat} (hb : b < 12) : ∀ n, nmL (nW w) b n ≤ 1000 := by
  obtain ⟨c1, c2, c3, c4, c5, c6, c7⟩ := hw.wok
  have := c3 b hb
  have := blN_le (nW w) (nW w (52 + b)) 12
  intro n
  unfold nmL
  split <;> omega
set_option maxRecDepth 100000 in
theorem cw_shadow (l : Launch) (d : Nat) (ru ta : Nat) (rs : List XO) (I : XI) (J : XJ) (Rp : XR) (Q : Tld) (L : Lws) (h : CE I ru Q L) (w : Rw) (hr : RC (qT Q) w (I 27)) (hw : WR w) (t : Nat) (ht : t < qT Q) (hR : ∀ (I' : XI) (J' : XJ), (∀ q, q ≠ 24 → I' q = I q) → Rp (some (.int (nI (lgR Q L w t)))) (shH ru ta rs) I' J') : xm l (d + 4) 0 0 mX10_shadowOf [.ref 26, .int (nI t)] (shH ru ta rs) I J Rp := by
  have t8 := h.2.1.1
  have ix : (nI 0 + nI t).toNatClampNeg = t := by rw [nI_add, Nat.zero_add]; exact nI_clamp (by omega)
  refine xm_ofK 0 (X := xxX10) (t := tX10_shadowOf) (stop := []) (ini := false) xx10 pl10 rfl kX10_shadowOf (fun h => by cases h) (Nat.le_of_ble_eq_true rfl) (fun K hK => ?_)
  refine cc_hasThing l (d + 2) ru ta rs I J _ Q L h (nI t) (fun _ _ _ => ?_) (fun hn => absurd rfl (hn t ht))
  refine And.intro (fun z => absurd (show (1 : Int32) = 0 from z) (by decide)) (fun _ => ?_)
  refine And.intro (show vp_in (nI 0 + nI t) 69 from vx_2 (by omega) (by omega)) ?_
  refine And.intro (show vp_in (nI 64) 69 from vp_b (by decide)) ?_
  refine And.intro (show vp_in (nI 65) 69 from vp_b (by decide)) ?_
  refine And.intro (show vp_in (nI 66) 69 from vp_b (by decide)) ?_
  refine cx_shadowW l d ru ta rs I J _ Q L h w hw t ht (I 27 (nI 0 + nI t).toNatClampNeg) (I 27 64) (I 27 65) (I 27 66) (by rw [ix]; exact hr.nt hw ht (by omega)) (hr.nk hw (by decide) (by decide)) (hr.nk hw (by decide) (by decide)) (hr.nk hw (by decide) (by decide)) (fun I' J' f => ?_)
  exact hR I' J' f
set_option maxRecDepth 100000 in
theorem cw_grows (l : Launch) (d : Nat) (ru ta : Nat) (rs : List XO) (I : XI) (J : XJ) (Rp : XR) (Q : Tld) (L : Lws) (h : CE I ru Q L) (w : Rw) (hr : RC (qT Q) w (I 27)) (hw : WR w) (t : Nat) (ht : t < qT Q) (hR : ∀ (I' : XI) (J' : XJ), (∀ q, q ≠ 24 → I' q = I q) → Rp (some (.int (nI (grR Q L w t)))) (shH ru ta rs) I' J') : xm l (d + 4) 0 0 mX10_growsOf [.ref 26, .int (nI t)] (shH ru ta rs) I J Rp := by
  have t8 := h.2.1.1
  have ix : (nI 0 + nI t).toNatClampNeg = t := by rw [nI_add, Nat.zero_add]; exact nI_clamp (by omega)
  refine xm_ofK 0 (X := xxX10) (t := tX10_growsOf) (stop := []) (ini := false) xx10 pl10 rfl kX10_growsOf (fun h => by cases h) (Nat.le_of_ble_eq_true rfl) (fun K hK => ?_)
  refine cc_hasThing l (d + 2) ru ta rs I J _ Q L h (nI t) (fun _ _ _ => ?_) (fun hn => absurd rfl (hn t ht))
  refine And.intro (fun z => absurd (show (1 : Int32) = 0 from z) (by decide)) (fun _ => ?_)
  refine And.intro (show vp_in (nI 0 + nI t) 69 from vx_2 (by omega) (by omega)) ?_
  refine And.intro (show vp_in (nI 65) 69 from vp_b (by decide)) ?_
  refine And.intro (show vp_in (nI 66) 69 from vp_b (by decide)) ?_
  refine cx_growthW l d ru ta rs I J _ Q L h w hw t ht (I 27 (nI 0 + nI t).toNatClampNeg) (I 27 65) (I 27 66) (by rw [ix]; exact hr.nt hw ht (by omega)) (hr.nk hw (by decide) (by decide)) (hr.nk hw (by decide) (by decide)) (fun I' J' f => ?_)
  exact hR I' J' f
set_option maxRecDepth 100000 in
theorem cw_may (l : Launch) (d : Nat) (ru ta : Nat) (rs : List XO) (I : XI) (J : XJ) (Rp : XR) (Q : Tld) (L : Lws) (h : CE I ru Q L) (w : Rw) (hr : RC (qT Q) w (I 27)) (hw : WR w) (t s : Nat) (ht : t < qT Q) (hs : s ≤ 999) (h1 : ∀ (I' : XI) (J' : XJ), maR Q L w t s = true → (∀ q, q ≠ 24 → I' q = I q) → Rp (some (.int 1)) (shH ru ta rs) I' J') (h0 : ∀ (I' : XI) (J' : XJ), maR Q L w t s = false → (∀ q, q ≠ 24 → I' q = I q) → Rp (some (.int 0)) (shH ru ta rs) I' J') : xm l (d + 4) 0 0 mX10_mayCut [.ref 26, .int (nI t), .int (nI s)] (shH ru ta rs) I J Rp := by
  have t8 := h.2.1.1
  have ix : (nI 0 + nI t).toNatClampNeg = t := by rw [nI_add, Nat.zero_add]; exact nI_clamp (by omega)
  refine xm_ofK 0 (X := xxX10) (t := tX10_mayCut) (stop := []) (ini := false) xx10 pl10 rfl kX10_mayCut (fun h => by cases h) (Nat.le_of_ble_eq_true rfl) (fun K hK => ?_)
  refine cc_hasThing l (d + 2) ru ta rs I J _ Q L h (nI t) (fun _ _ _ => ?_) (fun hn => absurd rfl (hn t ht))
  refine And.intro (fun z => absurd (show (1 : Int32) = 0 from z) (by decide)) (fun _ => ?_)
  refine And.intro (show vp_in (nI 0 + nI t) 69 from vx_2 (by omega) (by omega)) ?_
  refine And.intro (show vp_in (nI 64) 69 from vp_b (by decide)) ?_
  refine And.intro (show vp_in (nI 65) 69 from vp_b (by decide)) ?_
  refine cx_allowsW l d ru ta rs I J _ Q L h w hw t s ht hs (I 27 (nI 0 + nI t).toNatClampNeg) (I 27 64) (I 27 65) (nI s) (by rw [ix]; exact hr.nt hw ht (by omega)) (hr.nk hw (by decide) (by decide)) (hr.nk hw (by decide) (by decide)) rfl (fun I' J' e f => ?_) (fun I' J' e f => ?_)
  · refine And.intro (fun z => absurd (show (1 : Int32) = 0 from z) (by decide)) (fun _ => ?_)
    exact And.intro (Or.inr rfl) (h1 I' J' e f)
  · refine And.intro (fun _ => ?_) (fun z => absurd rfl z)
    exact And.intro (Or.inl rfl) (h0 I' J' e f)
set_option maxRecDepth 100000 in
theorem cw_spoils (l : Launch) (d : Nat) (ru ta : Nat) (rs : List XO) (I : XI) (J : XJ) (Rp : XR) (Q : Tld) (L : Lws) (h : CE I ru Q L) (w : Rw) (hr : RC (qT Q) w (I 27)) (hw : WR w) (b : Nat) (hb : b < 12) (hR : ∀ (I' : XI) (J' : XJ), (∀ q, q ≠ 24 → I' q = I q) → Rp (some (.int (if 0 < w (28 + b) then nI (spR L w b) else nI 0))) (shH ru ta rs) I' J') : xm l (d + 4) 0 0 mX10_spoilsOf [.ref 26, .int (nI b)] (shH ru ta rs) I J Rp := by
  have i16 : (nI 16 + nI b).toNatClampNeg = 16 + b := ix_c (by omega)
  have i28 : (nI 28 + nI b).toNatClampNeg = 28 + b := ix_c (by omega)
  have i40 : (nI 40 + nI b).toNatClampNeg = 40 + b := ix_c (by omega)
  have i52 : (nI 52 + nI b).toNatClampNeg = 52 + b := ix_c (by omega)
  refine xm_ofK 0 (X := xxX10) (t := tX10_spoilsOf) (stop := []) (ini := false) xx10 pl10 rfl kX10_spoilsOf (fun h => by cases h) (Nat.le_of_ble_eq_true rfl) (fun K hK => ?_)
  refine cw_hasBale l (d + 2) ru ta rs I J _ _ w hr hw (nI b) (fun b' hb' e hp => ?_) (fun hn => ?_)
  · have eb := nI_inj e (by omega) (by omega)
    subst eb
    rw [if_pos hp] at hR
    have q := (hr.2.2.1 b hb).2 hp
    refine And.intro (fun _ => ?_) (fun z => absurd (show (1 : Int32) = 0 from z) (by decide))
    refine And.intro (show vp_in (nI 16 + nI b) 69 from vx_2 (by omega) (by omega)) ?_
    refine And.intro (show vp_in (nI 28 + nI b) 69 from vx_2 (by omega) (by omega)) ?_
    refine And.intro (show vp_in (nI 40 + nI b) 69 from vx_2 (by omega) (by omega)) ?_
    refine And.intro (show vp_in (nI 52 + nI b) 69 from vx_2 (by omega) (by omega)) ?_
    refine cw_balesIn l (d + 2) ru ta rs I J _ _ w hr hw (I 27 (nI 52 + nI b).toNatClampNeg) (52 + b) (by omega) (by omega) (by rw [i52]; exact q.2.2) ?_
    refine cx_descB l (d + 2) ru ta rs I J _ (I 27 (nI 16 + nI b).toNatClampNeg) (I 27 (nI 28 + nI b).toNatClampNeg) (I 27 (nI 40 + nI b).toNatClampNeg) (nI (blN (nW w) (nW w (52 + b)) 12)) (fun I1 f1 r1 => ?_)
    rw [i16, i28, i40, q.1, q.2.1, hr.len hb, hw.c (show 16 + b < 69 by omega) (by omega), hw.c (show 28 + b < 69 by omega) (by omega), hw.c (show 40 + b < 69 by omega) (by omega)] at r1
    have e93 : I1 27 = I 27 := f1 27 (by decide)
    have e65 : I1 27 65 = nI (nW w 65) := by rw [e93]; exact hr.nk hw (by decide) (by decide)
    refine And.intro (show vp_in (nI 65) 69 from vp_b (by decide)) ?_
    refine (show xm l (d + 3) 0 0 mX2_spoiling [.ref 23, .int (I1 27 65)] (shH ru ta rs) I1 J _ from ?_)
    rw [e65]
    refine cx_spoiling l d ru ta rs I1 J _ Q L (h.k24 f1) (nmL (nW w) b) ⟨r1.1, r1.2.1, r1.2.2.1, r1.2.2.2⟩ (nmL_k hw hb) (fun I' J' f => ?_)
    exact hR I' J' (fun q hq => (f q hq).trans (f1 q hq))
  · rw [if_neg (hn b hb rfl)] at hR
    refine And.intro (fun z => absurd rfl z) (fun _ => ?_)
    exact hR I J (fun _ _ => rfl)
set_option maxRecDepth 100000 in
theorem cw_sells (l : Launch) (d : Nat) (ru ta : Nat) (rs : List XO) (I : XI) (J : XJ) (Rp : XR) (Q : Tld) (L : Lws) (h : CE I ru Q L) (w : Rw) (hr : RC (qT Q) w (I 27)) (hw : WR w) (b : Nat) (hb : b < 12) (hp : 0 < w (28 + b)) (hR : ∀ (I' : XI) (J' : XJ), (∀ q, q ≠ 24 → I' q = I q) → Rp (some (.int (nI (seR L w b)))) (shH ru ta rs) I' J') : xm l (d + 4) 0 0 mX10_sellsOf [.ref 26, .int (nI b)] (shH ru ta rs) I J Rp := by
  have i16 : (nI 16 + nI b).toNatClampNeg = 16 + b := ix_c (by omega)
  have i28 : (nI 28 + nI b).toNatClampNeg = 28 + b := ix_c (by omega)
  have i40 : (nI 40 + nI b).toNatClampNeg = 40 + b := ix_c (by omega)
  have q := (hr.2.2.1 b hb).2 hp
  refine xm_ofK 0 (X := xxX10) (t := tX10_sellsOf) (stop := []) (ini := false) xx10 pl10 rfl kX10_sellsOf (fun h => by cases h) (Nat.le_of_ble_eq_true rfl) (fun K hK => ?_)
  refine cw_hasBale l (d + 2) ru ta rs I J _ _ w hr hw (nI b) (fun b' hb' e _ => ?_) (fun hn => absurd hp (hn b hb rfl))
  refine And.intro (fun _ => ?_) (fun z => absurd (show (1 : Int32) = 0 from z) (by decide))
  refine And.intro (show vp_in (nI 16 + nI b) 69 from vx_2 (by omega) (by omega)) ?_
  refine And.intro (show vp_in (nI 28 + nI b) 69 from vx_2 (by omega) (by omega)) ?_
  refine And.intro (show vp_in (nI 40 + nI b) 69 from vx_2 (by omega) (by omega)) ?_
  refine cx_descB l (d + 2) ru ta rs I J _ (I 27 (nI 16 + nI b).toNatClampNeg) (I 27 (nI 28 + nI b).toNatClampNeg) (I 27 (nI 40 + nI b).toNatClampNeg) (nI 0) (fun I1 f1 r1 => ?_)
  rw [i16, i28, i40, q.1, q.2.1, hr.len hb, hw.c (show 16 + b < 69 by omega) (by omega), hw.c (show 28 + b < 69 by omega) (by omega), hw.c (show 40 + b < 69 by omega) (by omega)] at r1
  have e93 : I1 27 = I 27 := f1 27 (by decide)
  have e65 : I1 27 65 = nI (nW w 65) := by rw [e93]; exact hr.nk hw (by decide) (by decide)
  have e64 : I1 27 64 = nI (nW w 64) := by rw [e93]; exact hr.nk hw (by decide) (by decide)
  refine And.intro (show vp_in (nI 65) 69 from vp_b (by decide)) ?_
  refine And.intro (show vp_in (nI 64) 69 from vp_b (by decide)) ?_
  refine (show xm l (d + 3) 0 0 mX2_price [.ref 23, .int (I1 27 65), .int (I1 27 64)] (shH ru ta rs) I1 J _ from ?_)
  rw [e65, e64]
  refine cx_price l d ru ta rs I1 J _ Q L (h.k24 f1) (nmL (nW w) b) ⟨r1.1, r1.2.1, r1.2.2.1⟩ (nmL_k hw hb) (fun I' J' f => ?_)
  exact hR I' J' (fun q hq => (f q hq).trans (f1 q hq))
end
