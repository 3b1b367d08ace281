-- ===== the class's row of a world against the reference's =====
def RC (T : Nat) (w c : Rw) : Prop := (∀ t, t < 8 → c t = if t < T then w t else nI 100) ∧ (∀ r, r < 4 → c (8 + r) = nI 1 - w (8 + r) ∧ c (12 + r) = w (12 + r)) ∧ (∀ b, b < 12 → c (28 + b) = w (28 + b) ∧ (0 < w (28 + b) → c (16 + b) = w (16 + b) ∧ c (40 + b) = w (40 + b) ∧ c (52 + b) = w (52 + b))) ∧ ∀ k, 64 ≤ k → k < 69 → c k = w k
theorem RC.t {T : Nat} {w c : Rw} (h : RC T w c) {t : Nat} (ht : t < T) (h8 : t < 8) : c t = w t := by
  rw [h.1 t h8, if_pos ht]
theorem RC.len {T : Nat} {w c : Rw} (h : RC T w c) {b : Nat} (hb : b < 12) : c (28 + b) = w (28 + b) := (h.2.2.1 b hb).1
theorem RC.hi {T : Nat} {w c : Rw} (h : RC T w c) {k : Nat} (h1 : 64 ≤ k) (h2 : k < 69) : c k = w k := h.2.2.2 k h1 h2
/-- only cells below 69 count -/
theorem RC.cg {T : Nat} {w w' c c' : Rw} (h : RC T w c) (e1 : ∀ k, k < 69 → w' k = w k) (e2 : ∀ k, k < 69 → c' k = c k) : RC T w' c' := by
  refine ⟨fun t ht => ?_, fun r hr => ?_, fun b hb => ?_, fun k h1 h2 => ?_⟩
  · rw [e1 t (by omega), e2 t (by omega)]
    exact h.1 t ht
  · rw [e1 (8 + r) (by omega), e2 (8 + r) (by omega), e1 (12 + r) (by omega), e2 (12 + r) (by omega)]
    exact h.2.1 r hr
  · rw [e1 (28 + b) (by omega), e2 (28 + b) (by omega), e1 (16 + b) (by omega), e2 (16 + b) (by omega), e1 (40 + b) (by omega), e2 (40 + b) (by omega), e1 (52 + b) (by omega), e2 (52 + b) (by omega)]
    exact h.2.2.1 b hb
  · rw [e1 k h2, e2 k h2]
    exact h.2.2.2 k h1 h2
theorem RC.ut {T : Nat} {w c : Rw} (h : RC T w c) {t : Nat} (ht : t < T) (h8 : t < 8) (v : Int32) : RC T (upd w t v) (upd c t v) := by
  refine ⟨fun s hs => ?_, fun r hr => ?_, fun b hb => ?_, fun k h1 h2 => ?_⟩
  · by_cases e : s = t
    · subst e
      rw [upd_s, upd_s, if_pos ht]
    · rw [upd_n e, upd_n e]
      exact h.1 s hs
  · rw [upd_n (by omega), upd_n (by omega), upd_n (by omega), upd_n (by omega)]
    exact h.2.1 r hr
  · rw [upd_n (by omega), upd_n (by omega), upd_n (by omega), upd_n (by omega), upd_n (by omega), upd_n (by omega), upd_n (by omega), upd_n (by omega)]
    exact h.2.2.1 b hb
  · rw [upd_n (by omega), upd_n (by omega)]
    exact h.2.2.2 k h1 h2
theorem RC.uh {T : Nat} {w c : Rw} (h : RC T w c) {r : Nat} (hr : r < 4) (v : Int32) : RC T (upd w (12 + r) v) (upd c (12 + r) v) := by
  refine ⟨fun s hs => ?_, fun q hq => ?_, fun b hb => ?_, fun k h1 h2 => ?_⟩
  · rw [upd_n (by omega), upd_n (by omega)]
    exact h.1 s hs
  · rw [upd_n (show 8 + q ≠ 12 + r by omega), upd_n (show 8 + q ≠ 12 + r by omega)]
    refine ⟨(h.2.1 q hq).1, ?_⟩
    by_cases e : q = r
    · subst e
      rw [upd_s, upd_s]
    · rw [upd_n (by omega), upd_n (by omega)]
      exact (h.2.1 q hq).2
  · rw [upd_n (by omega), upd_n (by omega), upd_n (by omega), upd_n (by omega), upd_n (by omega), upd_n (by omega), upd_n (by omega), upd_n (by omega)]
    exact h.2.2.1 b hb
  · rw [upd_n (by omega), upd_n (by omega)]
    exact h.2.2.2 k h1 h2
theorem RC.ug {T : Nat} {w c : Rw} (h : RC T w c) {r : Nat} (hr : r < 4) {v u : Int32} (e : u = nI 1 - v) : RC T (upd w (8 + r) v) (upd c (8 + r) u) := by
  refine ⟨fun s hs => ?_, fun q hq => ?_, fun b hb => ?_, fun k h1 h2 => ?_⟩
  · rw [upd_n (by omega), upd_n (by omega)]
    exact h.1 s hs
  · rw [upd_n (show 12 + q ≠ 8 + r by omega), upd_n (show 12 + q ≠ 8 + r by omega)]
    refine ⟨?_, (h.2.1 q hq).2⟩
    by_cases e2 : q = r
    · subst e2
      rw [upd_s, upd_s, e]
    · rw [upd_n (by omega), upd_n (by omega)]
      exact (h.2.1 q hq).1
  · rw [upd_n (by omega), upd_n (by omega), upd_n (by omega), upd_n (by omega), upd_n (by omega), upd_n (by omega), upd_n (by omega), upd_n (by omega)]
    exact h.2.2.1 b hb
  · rw [upd_n (by omega), upd_n (by omega)]
    exact h.2.2.2 k h1 h2
theorem RC.uk {T : Nat} {w c : Rw} (h : RC T w c) {i : Nat} (h1 : 64 ≤ i) (v : Int32) : RC T (upd w i v) (upd c i v) := by
  refine ⟨fun s hs => ?_, fun q hq => ?_, fun b hb => ?_, fun k h2 h3 => ?_⟩
  · rw [upd_n (by omega), upd_n (by omega)]
    exact h.1 s hs
  · rw [upd_n (by omega), upd_n (by omega), upd_n (by omega), upd_n (by omega)]
    exact h.2.1 q hq
  · rw [upd_n (by omega), upd_n (by omega), upd_n (by omega), upd_n (by omega), upd_n (by omega), upd_n (by omega), upd_n (by omega), upd_n (by omega)]
    exact h.2.2.1 b hb
  · by_cases e : k = i
    · subst e
      rw [upd_s, upd_s]
    · rw [upd_n e, upd_n e]
      exact h.2.2.2 k h2 h3
/-- bale b is another on both sides -/
theorem RC.ub {T : Nat} {w w' c c' : Rw} (h : RC T w c) {b : Nat} (e1 : ∀ k, k < 69 → k ≠ 16 + b → k ≠ 28 + b → k ≠ 40 + b → k ≠ 52 + b → w' k = w k) (e2 : ∀ k, k < 69 → k ≠ 16 + b → k ≠ 28 + b → k ≠ 40 + b → k ≠ 52 + b → c' k = c k) (hb12 : b < 12) (hb : c' (28 + b) = w' (28 + b) ∧ (0 < w' (28 + b) → c' (16 + b) = w' (16 + b) ∧ c' (40 + b) = w' (40 + b) ∧ c' (52 + b) = w' (52 + b))) : RC T w' c' := by
  refine ⟨fun s hs => ?_, fun q hq => ?_, fun i hi => ?_, fun k h2 h3 => ?_⟩
  · rw [e1 s (by omega) (by omega) (by omega) (by omega) (by omega), e2 s (by omega) (by omega) (by omega) (by omega) (by omega)]
    exact h.1 s hs
  · rw [e1 (8 + q) (by omega) (by omega) (by omega) (by omega) (by omega), e2 (8 + q) (by omega) (by omega) (by omega) (by omega) (by omega), e1 (12 + q) (by omega) (by omega) (by omega) (by omega) (by omega), e2 (12 + q) (by omega) (by omega) (by omega) (by omega) (by omega)]
    exact h.2.1 q hq
  · by_cases e : i = b
    · subst e
      exact hb
    · rw [e1 (28 + i) (by omega) (by omega) (by omega) (by omega) (by omega), e2 (28 + i) (by omega) (by omega) (by omega) (by omega) (by omega), e1 (16 + i) (by omega) (by omega) (by omega) (by omega) (by omega), e2 (16 + i) (by omega) (by omega) (by omega) (by omega) (by omega), e1 (40 + i) (by omega) (by omega) (by omega) (by omega) (by omega), e2 (40 + i) (by omega) (by omega) (by omega) (by omega) (by omega), e1 (52 + i) (by omega) (by omega) (by omega) (by omega) (by omega), e2 (52 + i) (by omega) (by omega) (by omega) (by omega) (by omega)]
      exact h.2.2.1 i hi
  · rw [e1 k h3 (by omega) (by omega) (by omega) (by omega), e2 k h3 (by omega) (by omega) (by omega) (by omega)]
    exact h.2.2.2 k h2 h3
theorem ba_o {w : Rw} {b k : Nat} {kd len bn : Int32} (h1 : k ≠ 16 + b) (h2 : k ≠ 28 + b) (h3 : k ≠ 40 + b) (h4 : k ≠ 52 + b) : baI w b kd len bn k = w k := by
  unfold baI
  rw [upd_n h4, upd_n h3, upd_n h2, upd_n h1]
theorem ba_v {w : Rw} {b : Nat} {kd len bn : Int32} (hb : b < 12) : baI w b kd len bn (16 + b) = kd ∧ baI w b kd len bn (28 + b) = len ∧ baI w b kd len bn (40 + b) = nI 0 ∧ baI w b kd len bn (52 + b) = bn := by
  unfold baI
  refine ⟨?_, ?_, ?_, ?_⟩
  · rw [upd_n (by omega), upd_n (by omega), upd_n (by omega), upd_s]
  · rw [upd_n (by omega), upd_n (by omega), upd_s]
  · rw [upd_n (by omega), upd_s]
  · rw [upd_s]
theorem RC.ba {T : Nat} {w c : Rw} (h : RC T w c) {b : Nat} (hb : b < 12) (kd len bn : Int32) : RC T (baI w b kd len bn) (baI c b kd len bn) := by
  have v1 := ba_v (w := w) (kd := kd) (len := len) (bn := bn) hb
  have v2 := ba_v (w := c) (kd := kd) (len := len) (bn := bn) hb
  refine h.ub (b := b) (fun k _ a1 a2 a3 a4 => ba_o a1 a2 a3 a4) (fun k _ a1 a2 a3 a4 => ba_o a1 a2 a3 a4) hb ⟨by rw [v1.2.1, v2.2.1], fun _ => ⟨by rw [v1.1, v2.1], by rw [v1.2.2.1, v2.2.2.1], by rw [v1.2.2.2, v2.2.2.2]⟩⟩
/-- bale b is none -/
theorem RC.z {T : Nat} {w w0 c : Rw} (h : RC T w c) {b : Nat} (hb : b < 12) (e : ∀ k, k < 69 → k ≠ 28 + b → w0 k = w k) (kd bn : Int32) : RC T (baI w0 b kd (nI 0) bn) (upd c (28 + b) (nI 0)) := by
  have v1 := ba_v (w := w0) (kd := kd) (len := nI 0) (bn := bn) hb
  refine h.ub (b := b) (fun k hk a1 a2 a3 a4 => (ba_o a1 a2 a3 a4).trans (e k hk a2)) (fun k _ a1 a2 a3 a4 => upd_n a2) hb ⟨by rw [v1.2.1, upd_s], fun z => ?_⟩
  rw [v1.2.1] at z
  exact absurd z (by decide)
/-- its length is another -/
theorem RC.ul {T : Nat} {w c : Rw} (h : RC T w c) {b : Nat} (hb : b < 12) (hp : 0 < w (28 + b)) (v : Int32) : RC T (upd w (28 + b) v) (upd c (28 + b) v) := by
  refine h.ub (b := b) (fun k hk a1 a2 a3 a4 => upd_n a2) (fun k _ a1 a2 a3 a4 => upd_n a2) hb ⟨by rw [upd_s, upd_s], fun _ => ?_⟩
  rw [upd_n (by omega), upd_n (by omega), upd_n (by omega), upd_n (by omega), upd_n (by omega), upd_n (by omega)]
  exact (h.2.2.1 b hb).2 hp
theorem RC.ud {T : Nat} {w c : Rw} (h : RC T w c) {b : Nat} (hb : b < 12) (v : Int32) : RC T (upd w (40 + b) v) (upd c (40 + b) v) := by
  refine h.ub (b := b) (fun k hk a1 a2 a3 a4 => upd_n a3) (fun k _ a1 a2 a3 a4 => upd_n a3) hb ⟨?_, fun z => ?_⟩
  · rw [upd_n (by omega), upd_n (by omega)]
    exact h.len hb
  · rw [upd_n (by omega)] at z
    have y := (h.2.2.1 b hb).2 z
    rw [upd_n (show 16 + b ≠ 40 + b by omega), upd_n (show 16 + b ≠ 40 + b by omega), upd_s, upd_s, upd_n (show 52 + b ≠ 40 + b by omega), upd_n (show 52 + b ≠ 40 + b by omega)]
    exact ⟨y.1, rfl, y.2.2⟩
theorem RC.ud0 {T : Nat} {w c : Rw} (h : RC T w c) {b : Nat} (hb : b < 12) (hz : ¬ 0 < w (28 + b)) (v : Int32) : RC T w (upd c (40 + b) v) := by
  refine h.ub (b := b) (fun k hk a1 a2 a3 a4 => rfl) (fun k _ a1 a2 a3 a4 => upd_n a3) hb ⟨?_, fun z => absurd z hz⟩
  rw [upd_n (by omega)]
  exact h.len hb
theorem RC.un {T : Nat} {w c : Rw} (h : RC T w c) {b : Nat} (hb : b < 12) (v : Int32) : RC T (upd w (52 + b) v) (upd c (52 + b) v) := by
  refine h.ub (b := b) (fun k hk a1 a2 a3 a4 => upd_n a4) (fun k _ a1 a2 a3 a4 => upd_n a4) hb ⟨?_, fun z => ?_⟩
  · rw [upd_n (by omega), upd_n (by omega)]
    exact h.len hb
  · rw [upd_n (by omega)] at z
    have y := (h.2.2.1 b hb).2 z
    rw [upd_n (show 16 + b ≠ 52 + b by omega), upd_n (show 16 + b ≠ 52 + b by omega), upd_s, upd_s, upd_n (show 40 + b ≠ 52 + b by omega), upd_n (show 40 + b ≠ 52 + b by omega)]
    exact ⟨y.1, y.2.1, rfl⟩
-- numbers of the class's row
theorem RC.pos {T : Nat} {w c : Rw} (h : RC T w c) {b : Nat} (hb : b < 12) : 0 < c (28 + b) ↔ 0 < w (28 + b) := by rw [h.len hb]
theorem wr01 {w : Rw} (hw : WR w) {k : Nat} (h1 : 8 ≤ k) (h2 : k < 16) : w k = nI 0 ∨ w k = nI 1 := by
  obtain ⟨n, e, hn⟩ := hw k (by omega) (by omega)
  rw [bd_2 h1 h2] at hn
  rcases Nat.lt_or_ge n 1 with c | c
  · exact Or.inl (by rw [e, show n = 0 by omega])
  · exact Or.inr (by rw [e, show n = 1 by omega])
theorem RC.gone {T : Nat} {w c : Rw} (h : RC T w c) (hw : WR w) {r : Nat} (hr : r < 4) : c (8 + r) = 0 ↔ w (8 + r) = nI 1 := by
  rw [(h.2.1 r hr).1]
  rcases wr01 hw (k := 8 + r) (by omega) (by omega) with e | e <;> rw [e] <;> decide
theorem feC_step {T : Nat} {w c : Rw} (h : RC T w c) (hw : WR w) (bn : Int32) {k : Nat} (hk : k < 12) : (if c (52 + k) = bn then feR w bn k + c (28 + k) else feR w bn k) = feR w bn (k + 1) := by
  show _ = feR w bn k + (if w (52 + k) = bn then w (28 + k) else nI 0)
  have e0 : ∀ x : Int32, x + nI 0 = x := fun x => Int32.add_zero x
  obtain ⟨a, ea, ha⟩ := hw.len hk
  by_cases hp : 0 < w (28 + k)
  · rw [((h.2.2.1 k hk).2 hp).2.2, h.len hk]
    by_cases e : w (52 + k) = bn
    · rw [if_pos e, if_pos e]
    · rw [if_neg e, if_neg e, e0]
  · have hz : w (28 + k) = nI 0 := by
      rw [ea] at hp ⊢
      rw [npos (by omega)] at hp
      rw [show a = 0 by omega]
    rw [h.len hk, hz]
    split <;> split <;> simp only [e0]
