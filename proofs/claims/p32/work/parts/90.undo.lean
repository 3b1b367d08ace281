-- ===== a step taken back, both sides =====
def undoS (A : Ast) : Int32 × Ast := if oN A = 0 then (-1, A) else (nI (oN A - 1), (oQ A, fun k => if k < 69 then oF A (oN A - 1) k else oW A k, oN A - 1, oF A))
theorem AOK.undo {A : Ast} (h : AOK A) : AOK (undoS A).2 := by
  unfold undoS
  split
  · exact h
  · refine ⟨h.1, fun k hk h67 => ?_, ?_, fun k hk => ?_⟩
    · show okC k (if k < 69 then oF A (oN A - 1) k else oW A k)
      rw [if_pos hk]
      exact h.2.2.2 (oN A - 1) (by omega) k hk h67
    · have := h.2.2.1
      show oN A - 1 ≤ 30
      omega
    · have hk : k < oN A - 1 := hk
      exact h.2.2.2 k (by omega)
set_option maxRecDepth 100000 in
set_option maxHeartbeats 4000000 in
theorem cd_undo (l : Launch) (d : Nat) (ru ta : Nat) (rs : List XO) (I : XI) (J : XJ) (Rp : XR) (L : Lws) (A : Ast) (hA : AOK A) (h : CA I ru L A) (hR : ∀ (I' : XI), FCl I I' → CA I' ru L (undoS A).2 → Rp (some (.int (undoS A).1)) (shH ru ta rs) I' J) : xm l (d + 3) 0 0 mX11_undo [.ref 0] (shH ru ta rs) I J Rp := by
  have h0 := h
  obtain ⟨hc, hr, hs⟩ := h
  obtain ⟨hq, hw, hn, hf⟩ := hA
  obtain ⟨_, first, hfi, e1, e2, hst⟩ := hs
  refine xm_ofK 0 (X := xxX11) (t := tX11_undo) (stop := []) (ini := false) xx11 pl11 rfl kX11_undo (fun h => by cases h) (Nat.le_of_ble_eq_true rfl) (fun K hK => ?_)
  refine xm_ofK 0 (X := xxX6) (t := tX6_takeBack) (stop := []) (ini := false) xx6 pl6 rfl kX6_takeBack (fun h => by cases h) (Nat.le_of_ble_eq_true rfl) (fun K2 hK2 => ?_)
  refine (show xm l (d + 1) 0 0 mX6_placeOf [.ref 1, .int (I 1 2 - nI 1)] (shH ru ta rs) I J _ from ?_)
  by_cases n0 : oN A = 0
  · -- none
    have eS : undoS A = (-1, A) := if_pos n0
    have fin : Rp (some (.int (-1))) (shH ru ta rs) I J := by
      have z := hR I FCl.rf (by rw [eS]; exact h0)
      rw [eS] at z
      exact z
    have le0 : I 1 2 ≤ 0 := by rw [e2, n0]; decide
    refine xm_ofK 0 (X := xxX6) (t := tX6_placeOf) (stop := []) (ini := false) xx6 pl6 rfl kX6_placeOf (fun h => by cases h) (Nat.le_of_ble_eq_true rfl) (fun K3 hK3 => ?_)
    refine And.intro (show ¬ (nI 31 = 0) by decide) ?_
    refine And.intro (fun z => absurd (show nI 69 = nI 69 from rfl) z) (fun _ => ?_)
    refine And.intro (fun _ => ?_) (fun _ => ?_)
    · refine And.intro (fun _ => ?_) (fun z => absurd le0 z)
      refine And.intro (Or.inl rfl) ?_
      refine And.intro (fun _ => ?_) (fun z => absurd rfl z)
      exact fin
    · refine And.intro (fun _ => ?_) (fun _ => ?_)
      · refine And.intro (fun _ => ?_) (fun z => absurd le0 z)
        refine And.intro (Or.inl rfl) ?_
        refine And.intro (fun _ => ?_) (fun z => absurd rfl z)
        exact fin
      · refine And.intro (fun _ => ?_) (fun z => absurd le0 z)
        refine And.intro (Or.inl rfl) ?_
        refine And.intro (fun _ => ?_) (fun z => absurd rfl z)
        exact fin
  · have en : I 1 2 - nI 1 = nI (oN A - 1) := by rw [e2, nI_subI (by omega) (by omega)]
    have eS : undoS A = (nI (oN A - 1), (oQ A, fun k => if k < 69 then oF A (oN A - 1) k else oW A k, oN A - 1, oF A)) := if_neg n0
    rw [eS] at hR
    rw [en]
    refine cs_place l d ru ta rs I J _ 1 (Or.inl rfl) first (oN A - 1) e1 hfi (by omega) ?_
    have hS : (first + (oN A - 1)) % 31 * 69 ≤ 2070 := by omega
    have rc := hst (oN A - 1) (by omega)
    generalize hSd : (first + (oN A - 1)) % 31 * 69 = S at hS rc ⊢
    have gt0 : ¬ I 1 2 ≤ 0 := by
      rw [e2]
      exact Int32.not_le.mpr ((npos (by omega)).mpr (by omega))
    have z0 : (nI 0).toNatClampNeg = 0 := by decide
    have z69 : (nI 69).toNatClampNeg = 69 := by decide
    have zs : (nI S).toNatClampNeg = S := nI_clamp (by omega)
    refine And.intro (fun z => absurd (show nI 69 = nI 69 from rfl) z) (fun _ => ?_)
    refine And.intro (fun z => absurd (show nI S < 0 from z) (nI_nn (by omega))) (fun _ => ?_)
    refine And.intro (fun z => absurd (show nI 2139 < nI S + nI 69 from z) (by
      rw [nI_add, nlt (by omega) (by omega)]
      omega)) (fun _ => ?_)
    refine And.intro (fun z => absurd (show I 1 2 ≤ 0 from z) gt0) (fun _ => ?_)
    refine And.intro (fun _ => ?_) (fun z => absurd (show nI 1 = 0 from z) (by decide))
    have q : ¬ nI S < 0 ∧ ¬ nI 0 < 0 ∧ ¬ nI 69 < 0 ∧ (nI S).toNatClampNeg + (nI 69).toNatClampNeg ≤ 2139 ∧ (nI 0).toNatClampNeg + (nI 69).toNatClampNeg ≤ 69 := ⟨nI_nn (by omega), by decide, by decide, by rw [zs, z69]; omega, by decide⟩
    refine And.intro q ?_
    refine And.intro (Or.inr rfl) ?_
    refine And.intro (fun z => absurd (show (1 : Int32) = 0 from z) (by decide)) (fun _ => ?_)
    have c12 : (cI (uI I 1 2 (I 1 2 - nI 1)) 2 27 S 0 69) 1 2 = nI (oN A - 1) := by
      rw [cI_ne (by decide), uI_rd, en]
    have c11 : (cI (uI I 1 2 (I 1 2 - nI 1)) 2 27 S 0 69) 1 1 = nI first := by
      rw [cI_ne (by decide), uI_eq, upd_n (by decide)]
      exact e1
    have cq : ∀ q, q ≠ 1 → q ≠ 27 → (cI (uI I 1 2 (I 1 2 - nI 1)) 2 27 S 0 69) q = I q := fun q a b => by
      rw [cI_ne b, uI_ne a]
    have c27 : (cI (uI I 1 2 (I 1 2 - nI 1)) 2 27 S 0 69) 27 = va_cpy (I 2) (I 27) S 0 69 := by
      rw [cI_eq, uI_ne (by decide), uI_ne (by decide)]
    have fin : Rp (some (.int ((cI (uI I 1 2 (I 1 2 - nI 1)) 2 27 S 0 69) 1 2))) (shH ru ta rs) (cI (uI I 1 2 (I 1 2 - nI 1)) 2 27 S 0 69) J := by
      rw [c12]
      refine hR _ (fun q a b c d e => cq q a e) ⟨hc.keep (fun q hq => cq q (by omega) (by omega)), ?_, by have := hn; show oN A - 1 ≤ 30; omega, first, hfi, c11, c12, fun k hk => ?_⟩
      · show RC (qT (oQ A)) _ _
        rw [c27]
        refine rc.cg (fun k hk => ?_) (fun k hk => ?_)
        · show (if k < 69 then oF A (oN A - 1) k else oW A k) = _
          rw [if_pos hk]
        · simp only [va_cpy]
          rw [if_pos (by omega)]
          congr 1
      · have hk : k < oN A - 1 := hk
        refine (hst k (by omega)).cg (fun _ _ => rfl) (fun j hj => ?_)
        rw [cq 2 (by decide) (by decide)]
    rw [← zs, ← z0, ← z69] at fin
    exact fin
def udS (I : XI) (S k : Nat) : Rw := fun j => if 60 ≤ j ∧ j < 60 + k then I 68 (130 + 69 * S + (j - 60)) else I 68 j
theorem udS_s {I I1 : XI} {S k : Nat} (hk : k < 69) (hf : ∀ q, q ≠ 68 → I1 q = I q) (h : I1 68 = udS I S k) : (∀ q, q ≠ 68 → uI I1 68 (60 + k) (I1 68 (130 + 69 * S + k)) q = I q) ∧ uI I1 68 (60 + k) (I1 68 (130 + 69 * S + k)) 68 = udS I S (k + 1) := by
  refine ⟨fun q hq => (uI_ne hq).trans (hf q hq), ?_⟩
  rw [uI_eq, h]
  funext j
  show (if j = 60 + k then udS I S k (130 + 69 * S + k) else udS I S k j) = udS I S (k + 1) j
  unfold udS
  by_cases e : j = 60 + k
  · subst e
    rw [if_pos rfl, if_neg (by omega), if_pos (by omega), show 60 + k - 60 = k by omega]
  · rw [if_neg e]
    by_cases z : 60 ≤ j ∧ j < 60 + k
    · rw [if_pos z, if_pos (by omega)]
    · rw [if_neg z, if_neg (by omega)]
abbrev udz (l : Launch) (d : Nat) (ru ta : Nat) (rs : List XO) (J : XJ) (Rp : XR) (n k : Nat) (I : XI) : Prop := xrun xxX12 (some .int) false false (shH ru ta rs).length 0 0 none l d tX12_undo [23] Rp n 23 [some (.ref 67), some (.int (nI k))] [] (shH ru ta rs) I J 0 0
set_option maxRecDepth 100000 in
set_option maxHeartbeats 2000000 in
theorem md_undo_loop (l : Launch) (d : Nat) (ru ta : Nat) (rs : List XO) (J : XJ) (Rp : XR) (S : Nat) (hS : S ≤ 29) (I0 : XI) (e5 : I0 68 5 = nI S) (hR : ∀ I', (∀ q, q ≠ 68 → I' q = I0 q) → I' 68 = udS I0 S 69 → Rp (some (.int (nI S))) (shH ru ta rs) I' J) : ∀ (m k n : Nat) (I1 : XI), k + m = 69 → m < n → ((∀ q, q ≠ 68 → I1 q = I0 q) ∧ I1 68 = udS I0 S k) → udz l d ru ta rs J Rp n k I1 := by
  intro m
  induction m with
  | zero =>
    intro k n I1 hk hn hI
    obtain ⟨n, rfl⟩ : ∃ n', n = n' + 1 := ⟨n - 1, by omega⟩
    have hk : k = 69 := by omega
    have e : I1 68 5 = nI S := by
      rw [hI.2]
      exact (if_neg (by omega)).trans e5
    refine xrun_step fun K hK => ?_
    refine And.intro (fun _ => ?_) (fun z => absurd (show nI 69 ≤ nI k from by subst hk; exact Int32.le_refl _) z)
    subst hk
    refine And.intro (show vp_in (nI 5) 2200 from vp_b (by decide)) ?_
    have y := hR I1 hI.1 hI.2
    rw [← e] at y
    exact y
  | succ m ih =>
    intro k n I1 hk hn hI
    obtain ⟨n, rfl⟩ : ∃ n', n = n' + 1 := ⟨n - 1, by omega⟩
    have e : I1 68 5 = nI S := by
      rw [hI.2]
      exact (if_neg (by omega)).trans e5
    have c := ix_col hS (show k < 69 by omega)
    have r := ix_row (show k < 69 by omega)
    refine xrun_step fun K hK => ?_
    refine And.intro (fun z => absurd (show nI 69 ≤ nI k from z) (nI_ge (by omega) (by omega))) (fun _ => ?_)
    refine And.intro (show vp_in (nI 5) 2200 from vp_b (by decide)) ?_
    refine And.intro (show vp_in (nI 130 + nI 69 * (I1 68 5) + nI k) 2200 from by rw [e]; exact c.2) ?_
    refine And.intro (show vp_in (nI 60 + nI k) 2200 from r.2) ?_
    refine hK 23 [some (.ref 67), some (.int (nI k + 1))] [] (shH ru ta rs) (uI I1 68 (nI 60 + nI k).toNatClampNeg (I1 68 (nI 130 + nI 69 * (I1 68 5) + nI k).toNatClampNeg)) J 0 0 ?_
    rw [e, c.1, r.1, nI_1]
    exact ih (k + 1) n _ (by omega) (by omega) (udS_s (by omega) hI.1 hI.2)
set_option maxRecDepth 100000 in
set_option maxHeartbeats 4000000 in
theorem md_undo (l : Launch) (d : Nat) (ru ta : Nat) (rs : List XO) (I : XI) (J : XJ) (Rp : XR) (L : Lws) (A : Ast) (hA : AOK A) (h : MA I L A) (hR : ∀ (I' : XI), FMl I I' → MA I' L (undoS A).2 → Rp (some (.int (undoS A).1)) (shH ru ta rs) I' J) : xm l (d + 1) 0 0 mX12_undo [.ref 67] (shH ru ta rs) I J Rp := by
  have h0 := h
  obtain ⟨hre, hlay, hs⟩ := h
  obtain ⟨hn, e5, hst⟩ := hs
  refine xm_ofK 80 (X := xxX12) (t := tX12_undo) (stop := [23]) (ini := false) xx12 pl12 rfl kX12_undo (fun h => by cases h) (Nat.le_of_ble_eq_true rfl) (fun K hK => ?_)
  refine And.intro (show vp_in (nI 5) 2200 from vp_b (by decide)) ?_
  refine And.intro (fun (z : ¬ I 68 5 = 0) => ?_) (fun (z : I 68 5 = 0) => ?_)
  · rw [e5, neq0 (by omega)] at z
    have eS : undoS A = (nI (oN A - 1), (oQ A, fun k => if k < 69 then oF A (oN A - 1) k else oW A k, oN A - 1, oF A)) := if_neg z
    rw [eS] at hR
    have en : I 68 5 - nI 1 = nI (oN A - 1) := by rw [e5, nI_subI (by omega) (by omega)]
    refine And.intro (show vp_in (nI 5) 2200 from vp_b (by decide)) ?_
    refine And.intro (show vp_in (nI 5) 2200 from vp_b (by decide)) ?_
    refine hK 23 [some (.ref 67), some (.int (nI 0))] [] (shH ru ta rs) (uI I 68 5 (I 68 5 - nI 1)) J 0 0 ?_
    rw [en]
    have lo : ∀ j, j ≠ 5 → (uI I 68 5 (nI (oN A - 1))) 68 j = I 68 j := fun j hj => by rw [uI_eq, upd_n hj]
    refine md_undo_loop l d ru ta rs J Rp (oN A - 1) (by omega) (uI I 68 5 (nI (oN A - 1))) (by rw [uI_rd]) (fun I' g1 g2 => ?_) 69 0 80 _ (by omega) (by omega) ⟨fun _ _ => rfl, ?_⟩
    · have gq : ∀ q, q ≠ 68 → I' q = I q := fun q hq => (g1 q hq).trans (uI_ne hq)
      have gc : ∀ j, j < 60 ∨ 129 ≤ j → j ≠ 5 → I' 68 j = I 68 j := fun j hj h5 => by
        rw [g2]
        exact (if_neg (by omega)).trans (lo j h5)
      have g5 : I' 68 5 = nI (oN A - 1) := by
        rw [g2]
        exact (if_neg (by omega)).trans (by rw [uI_rd])
      refine hR I' ⟨fun q a _ _ => gq q a, fun j hj => gc j (by omega) (by omega), fun r => ⟨fun j => ?_, fun j => by rw [gq 93 (by decide)]; exact r.2 j⟩⟩ ⟨hre.cells (fun q a _ _ => gq q a) (fun j a b => gc j (by omega) b), ?_, by show oN A - 1 ≤ 30; omega, g5, fun k j hk hj => ?_⟩
      · by_cases e5' : j = 5
        · subst e5'
          rw [g5, show cellI CF 68 5 = (0, 30) from by decide +kernel]
          exact inI_n (by omega) (by omega)
        · by_cases c : 60 ≤ j ∧ j < 129
          · rw [g2, show cellI CF 68 j = cellI CF 68 (60 + (j - 60)) from by rw [show 60 + (j - 60) = j by omega], ← cell_col (S := oN A - 1) (by omega)]
            refine (show udS _ (oN A - 1) 69 j = _ from (if_pos (by omega)).trans (lo _ (by omega))) ▸ ?_
            exact r.1 _
          · rw [gc j (by omega) e5']
            exact r.1 j
      · funext j
        show wLay I' j = if j < 69 then oF A (oN A - 1) j else oW A j
        unfold wLay
        by_cases c : j < 69
        · rw [if_pos c, if_pos c, g2]
          refine (if_pos (by omega)).trans ?_
          rw [show 130 + 69 * (oN A - 1) + (60 + j - 60) = 130 + 69 * (oN A - 1) + j by omega, lo _ (by omega)]
          exact hst (oN A - 1) j (by omega) c
        · rw [if_neg c, if_neg c, gq 93 (by decide)]
          exact h0.w93 c
      · have hk : k < oN A - 1 := hk
        rw [gc _ (by omega) (by omega)]
        exact hst k j (by omega) hj
    · funext j
      exact (if_neg (by omega)).symm
  · rw [e5, neq0 (by omega)] at z
    have eS : undoS A = (-1, A) := if_pos z
    have y := hR I FMl.rf (by rw [eS]; exact h0)
    rw [eS] at y
    exact y
