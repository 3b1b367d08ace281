-- ===== the class: cuts, bales, feet =====
theorem frN_cg {w w' : Rw} : ∀ (m k : Nat), (∀ b, b < k + m → w' (28 + b) = w (28 + b)) → frN w' m k = frN w m k
  | 0, k, _ => rfl
  | m + 1, k, h => by
    unfold frN
    rw [h k (by omega), frN_cg m (k + 1) (fun b hb => h b (by omega))]
theorem frB_cg {w w' : Rw} (h : ∀ b, b < 12 → w' (28 + b) = w (28 + b)) : frB w' = frB w := frN_cg 12 0 (fun b hb => h b (by omega))
theorem feR_cg {w w' : Rw} {bn : Int32} : ∀ k, k ≤ 12 → (∀ b, b < 12 → w' (28 + b) = w (28 + b) ∧ w' (52 + b) = w (52 + b)) → feR w' bn k = feR w bn k
  | 0, _, _ => rfl
  | k + 1, hk, h => by
    show feR w' bn k + _ = feR w bn k + _
    rw [feR_cg k (by omega) h, (h k (by omega)).1, (h k (by omega)).2]
theorem WR.z28 {w : Rw} (h : WR w) {b : Nat} (hb : b < 12) (hn : ¬ 0 < w (28 + b)) : w (28 + b) = nI 0 := by
  obtain ⟨a, e, ha⟩ := h.len hb
  rw [e] at hn ⊢
  rw [npos (by omega)] at hn
  rw [show a = 0 by omega]
/-- the shorter of shadow and reach, as the class has it -/
theorem cuL_c {Q : Tld} {L : Lws} {w : Rw} {t r : Nat} (hQ : TOK Q) (hw : WR w) (ht : t < qT Q) (hr : r < qR Q) : (if nI (qC Q r) < nI (lgR Q L w t) then nI (qC Q r) else nI (lgR Q L w t)) = nI (cuL Q L w t r) ∧ (cuL Q L w t r = 0 ↔ lgR Q L w t = 0) := by
  have a := lgR_le (L := L) hQ hw ht
  have b := hQ.2.2.2.2.1 r hr
  unfold cuL
  constructor
  · by_cases c : qC Q r < lgR Q L w t
    · rw [if_pos ((nlt (by omega) (by omega)).mpr c), if_neg (by omega)]
    · rw [if_neg (fun z => c ((nlt (by omega) (by omega)).mp z))]
      by_cases e : lgR Q L w t < qC Q r
      · rw [if_pos e]
      · rw [if_neg e]
        congr 1
        omega
  · split <;> omega
theorem nle0 {a : Nat} (ha : a < 2 ^ 31) : nI a ≤ 0 ↔ a = 0 := by
  have y := nle (a := a) (b := 0) ha (by omega)
  constructor
  · intro z
    have := y.mp z
    omega
  · intro z
    exact y.mpr (by omega)
