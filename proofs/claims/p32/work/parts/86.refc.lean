-- ===== the reference: a step is kept; its calls =====
theorem inI_n {n : Nat} {b : Int} (h : (n : Int) ≤ b) (h2 : n < 2 ^ 31) : inI (0, b) (nI n).toInt := by
  rw [nI_toInt h2]
  exact ⟨by dsimp only; omega, h⟩
def cpS (I : XI) (S k : Nat) : Rw := fun j => if 130 + 69 * S ≤ j ∧ j < 130 + 69 * S + k then I 68 (60 + (j - (130 + 69 * S))) else I 68 j
def sfS (I : XI) (k : Nat) : Rw := fun j => if 130 ≤ j ∧ j < k then I 68 (j + 69) else I 68 j
theorem cpS_s {I I1 : XI} {S k : Nat} (hk : k < 69) (hf : ∀ q, q ≠ 68 → I1 q = I q) (h : I1 68 = cpS I S k) : (∀ q, q ≠ 68 → uI I1 68 (130 + 69 * S + k) (I1 68 (60 + k)) q = I q) ∧ uI I1 68 (130 + 69 * S + k) (I1 68 (60 + k)) 68 = cpS I S (k + 1) := by
  refine ⟨fun q hq => (uI_ne hq).trans (hf q hq), ?_⟩
  rw [uI_eq, h]
  funext j
  show (if j = 130 + 69 * S + k then cpS I S k (60 + k) else cpS I S k j) = cpS I S (k + 1) j
  unfold cpS
  by_cases e : j = 130 + 69 * S + k
  · subst e
    rw [if_pos rfl, if_neg (by omega), if_pos (by omega), show 130 + 69 * S + k - (130 + 69 * S) = k by omega]
  · rw [if_neg e]
    by_cases z : 130 + 69 * S ≤ j ∧ j < 130 + 69 * S + k
    · rw [if_pos z, if_pos (by omega)]
    · rw [if_neg z, if_neg (by omega)]
theorem sfS_s {I I1 : XI} {k : Nat} (hk : 130 ≤ k) (hf : ∀ q, q ≠ 68 → I1 q = I q) (h : I1 68 = sfS I k) : (∀ q, q ≠ 68 → uI I1 68 k (I1 68 (k + 69)) q = I q) ∧ uI I1 68 k (I1 68 (k + 69)) 68 = sfS I (k + 1) := by
  refine ⟨fun q hq => (uI_ne hq).trans (hf q hq), ?_⟩
  rw [uI_eq, h]
  funext j
  show (if j = k then sfS I k (k + 69) else sfS I k j) = sfS I (k + 1) j
  unfold sfS
  by_cases e : j = k
  · subst e
    rw [if_pos rfl, if_neg (by omega), if_pos (by omega)]
  · rw [if_neg e]
    by_cases z : 130 ≤ j ∧ j < k
    · rw [if_pos z, if_pos (by omega)]
    · rw [if_neg z, if_neg (by omega)]
abbrev ksz (l : Launch) (d : Nat) (ru ta : Nat) (rs : List XO) (J : XJ) (Rp : XR) (n pc k : Nat) (I : XI) : Prop := xrun xxX12 none false false (shH ru ta rs).length 0 0 none l d tX12_keepsStep [15, 53] Rp n pc [some (.ref 67), some (.int (nI k))] [] (shH ru ta rs) I J 0 0
set_option maxRecDepth 100000 in
set_option maxHeartbeats 2000000 in
theorem rs_copy (l : Launch) (d : Nat) (ru ta : Nat) (rs : List XO) (J : XJ) (Rp : XR) (S : Nat) (hS : S ≤ 29) (I0 : XI) (e5 : I0 68 5 = nI S) (hR : ∀ I', (∀ q, q ≠ 68 → I' q = I0 q) → I' 68 = upd (cpS I0 S 69) 5 (nI (S + 1)) → Rp none (shH ru ta rs) I' J) : ∀ (m k n : Nat) (I1 : XI), k + m = 69 → m < n → ((∀ q, q ≠ 68 → I1 q = I0 q) ∧ I1 68 = cpS I0 S k) → ksz l d ru ta rs J Rp n 53 k I1 := by
  intro m
  induction m with
  | zero =>
    intro k n I1 hk hn hI
    obtain ⟨n, rfl⟩ : ∃ n', n = n' + 1 := ⟨n - 1, by omega⟩
    have hk : k = 69 := by omega
    have e : I1 68 5 = nI S := by
      rw [hI.2]
      exact (if_neg (by omega)).trans e5
    refine xrun_step fun K hK => ?_
    refine And.intro (fun _ => ?_) (fun z => absurd (show nI 69 ≤ nI k from by subst hk; exact Int32.le_refl _) z)
    subst hk
    refine And.intro (show vp_in (nI 5) 2200 from vp_b (by decide)) ?_
    refine And.intro (show vp_in (nI 5) 2200 from vp_b (by decide)) ?_
    refine hR (uI I1 68 5 (I1 68 5 + nI 1)) (fun q hq => (uI_ne hq).trans (hI.1 q hq)) ?_
    rw [uI_eq, e, nI_add, hI.2]
  | succ m ih =>
    intro k n I1 hk hn hI
    obtain ⟨n, rfl⟩ : ∃ n', n = n' + 1 := ⟨n - 1, by omega⟩
    have e : I1 68 5 = nI S := by
      rw [hI.2]
      exact (if_neg (by omega)).trans e5
    have c := ix_col hS (show k < 69 by omega)
    have r := ix_row (show k < 69 by omega)
    refine xrun_step fun K hK => ?_
    refine And.intro (fun z => absurd (show nI 69 ≤ nI k from z) (nI_ge (by omega) (by omega))) (fun _ => ?_)
    refine And.intro (show vp_in (nI 5) 2200 from vp_b (by decide)) ?_
    refine And.intro (show vp_in (nI 60 + nI k) 2200 from r.2) ?_
    refine And.intro (show vp_in (nI 130 + nI 69 * (I1 68 5) + nI k) 2200 from by rw [e]; exact c.2) ?_
    refine hK 53 [some (.ref 67), some (.int (nI k + 1))] [] (shH ru ta rs) (uI I1 68 (nI 130 + nI 69 * (I1 68 5) + nI k).toNatClampNeg (I1 68 (nI 60 + nI k).toNatClampNeg)) J 0 0 ?_
    rw [e, c.1, r.1, nI_1]
    exact ih (k + 1) n _ (by omega) (by omega) (cpS_s (by omega) hI.1 hI.2)
set_option maxRecDepth 100000 in
set_option maxHeartbeats 2000000 in
theorem rs_shift (l : Launch) (d : Nat) (ru ta : Nat) (rs : List XO) (J : XJ) (Rp : XR) (I0 : XI) (hR : ∀ I', (∀ q, q ≠ 68 → I' q = I0 q) → I' 68 = upd (sfS I0 2131) 5 (nI 29) → ∀ n, 69 < n → ksz l d ru ta rs J Rp n 53 0 I') : ∀ (m k n : Nat) (I1 : XI), k + m = 2131 → 130 ≤ k → m + 70 < n → ((∀ q, q ≠ 68 → I1 q = I0 q) ∧ I1 68 = sfS I0 k) → ksz l d ru ta rs J Rp n 15 k I1 := by
  intro m
  induction m with
  | zero =>
    intro k n I1 hk h130 hn hI
    obtain ⟨n, rfl⟩ : ∃ n', n = n' + 1 := ⟨n - 1, by omega⟩
    have hk : k = 2131 := by omega
    refine xrun_step fun K hK => ?_
    refine And.intro (fun _ => ?_) (fun z => absurd (show nI 2131 ≤ nI k from by subst hk; exact Int32.le_refl _) z)
    subst hk
    refine And.intro (show vp_in (nI 5) 2200 from vp_b (by decide)) ?_
    refine hK 53 [some (.ref 67), some (.int (nI 0))] [] (shH ru ta rs) (uI I1 68 5 (nI 29)) J 0 0 ?_
    exact hR _ (fun q hq => (uI_ne hq).trans (hI.1 q hq)) (by rw [uI_eq, hI.2]) n (by omega)
  | succ m ih =>
    intro k n I1 hk h130 hn hI
    obtain ⟨n, rfl⟩ : ∃ n', n = n' + 1 := ⟨n - 1, by omega⟩
    have r : (nI k + nI 69).toNatClampNeg = k + 69 := ix_c (by omega)
    have k1 : (nI k).toNatClampNeg = k := nI_clamp (by omega)
    refine xrun_step fun K hK => ?_
    refine And.intro (fun z => absurd (show nI 2131 ≤ nI k from z) (nI_ge (by omega) (by omega))) (fun _ => ?_)
    refine And.intro (show vp_in (nI k + nI 69) 2200 from vx_2 (by omega) (by omega)) ?_
    refine And.intro (show vp_in (nI k) 2200 from vp_in_nI (by omega) (by omega)) ?_
    refine hK 15 [some (.ref 67), some (.int (nI k + 1))] [] (shH ru ta rs) (uI I1 68 (nI k).toNatClampNeg (I1 68 (nI k + nI 69).toNatClampNeg)) J 0 0 ?_
    rw [k1, r, nI_1]
    exact ih (k + 1) n _ (by omega) (by omega) (by omega) (sfS_s h130 hI.1 hI.2)
set_option maxRecDepth 100000 in
set_option maxHeartbeats 4000000 in
theorem rs_step (l : Launch) (d : Nat) (ru ta : Nat) (rs : List XO) (I : XI) (J : XJ) (Rp : XR) (n : Nat) (f : Nat → Rw) (w : Rw) (h : SM n f I) (hw : ∀ j, j < 69 → I 68 (60 + j) = w j) (hR : ∀ I', (∀ q, q ≠ 68 → I' q = I q) → (∀ j, j < 130 → j ≠ 5 → I' 68 j = I 68 j) → SM (pN n) (pF n f w) I' → (R68 I → R68 I') → Rp none (shH ru ta rs) I' J) : xm l (d + 1) 0 0 mX12_keepsStep [.ref 67] (shH ru ta rs) I J Rp := by
  obtain ⟨hn, e5, hc⟩ := h
  have cp : ∀ (S : Nat) (I0 : XI), S ≤ 29 → I0 68 5 = nI S → (∀ q, q ≠ 68 → I0 q = I q) → (∀ j, j < 130 → j ≠ 5 → I0 68 j = I 68 j) → pN n = S + 1 → (∀ j, pF n f w S j = w j) → (∀ k j, k < S → j < 69 → I0 68 (130 + 69 * k + j) = pF n f w k j) → (R68 I → R68 I0) → ∀ m, 69 < m → ksz l d ru ta rs J Rp m 53 0 I0 := by
    intro S I0 hS e f0 f1 p1 p2 p3 p4 m hm
    refine rs_copy l d ru ta rs J Rp S hS I0 e (fun I' g1 g2 => ?_) 69 0 m I0 (by omega) (by omega) ⟨fun _ _ => rfl, ?_⟩
    · refine hR I' (fun q hq => (g1 q hq).trans (f0 q hq)) (fun j hj h5 => ?_) ⟨pN_le hn, ?_, fun k j hk hj => ?_⟩ (fun r j => ?_)
      · rw [g2, upd_n h5]
        exact (if_neg (by omega)).trans (f1 j hj h5)
      · rw [g2, upd_s, p1]
      · rw [p1] at hk
        rw [g2, upd_n (by omega)]
        by_cases ek : k = S
        · subst ek
          rw [p2 j]
          refine Eq.trans (if_pos (by omega)) ?_
          rw [show 60 + (130 + 69 * k + j - (130 + 69 * k)) = 60 + j by omega, f1 (60 + j) (by omega) (by omega)]
          exact hw j hj
        · exact (if_neg (by omega)).trans (p3 k j (by omega) hj)
      · rw [g2]
        by_cases e5' : j = 5
        · subst e5'
          rw [upd_s, show cellI CF 68 5 = (0, 30) from by decide +kernel]
          exact inI_n (by omega) (by omega)
        · rw [upd_n e5']
          unfold cpS
          by_cases c : 130 + 69 * S ≤ j ∧ j < 130 + 69 * S + 69
          · rw [if_pos c, show cellI CF 68 j = cellI CF 68 (130 + 69 * S + (j - (130 + 69 * S))) from by rw [show 130 + 69 * S + (j - (130 + 69 * S)) = j by omega], cell_col (by omega)]
            exact p4 r _
          · rw [if_neg c]
            exact p4 r j
    · funext j
      exact (if_neg (by omega)).symm
  refine xm_ofK 2200 (X := xxX12) (t := tX12_keepsStep) (stop := [15, 53]) (ini := false) xx12 pl12 rfl kX12_keepsStep (fun h => by cases h) (Nat.le_of_ble_eq_true rfl) (fun K hK => ?_)
  refine And.intro (show vp_in (nI 5) 2200 from vp_b (by decide)) ?_
  refine And.intro (fun (z : ¬ I 68 5 = nI 30) => ?_) (fun (z : I 68 5 = nI 30) => ?_)
  · refine hK 53 [some (.ref 67), some (.int (nI 0))] [] (shH ru ta rs) I J 0 0 ?_
    have n30 : ¬ n = 30 := fun e => z (by rw [e5, e])
    refine cp n I (by omega) e5 (fun _ _ => rfl) (fun _ _ _ => rfl) (if_neg n30) (fun j => ?_) (fun k j hk hj => ?_) (fun r => r) 2200 (by decide)
    · unfold pF
      rw [if_neg n30, if_pos rfl]
    · unfold pF
      rw [if_neg n30, if_neg (by omega)]
      exact hc k j hk hj
  · have n30 : n = 30 := nI_inj (e5.symm.trans z) (by omega) (by omega)
    refine hK 15 [some (.ref 67), some (.int (nI 130))] [] (shH ru ta rs) I J 0 0 ?_
    refine rs_shift l d ru ta rs J Rp I (fun I' g1 g2 m hm => ?_) 2001 130 2200 I (by omega) (by omega) (by decide) ⟨fun _ _ => rfl, ?_⟩
    · refine cp 29 I' (by omega) (by rw [g2, upd_s]) g1 (fun j hj h5 => ?_) (if_pos n30) (fun j => ?_) (fun k j hk hj => ?_) (fun r j => ?_) m hm
      · rw [g2, upd_n h5]
        exact if_neg (by omega)
      · unfold pF
        rw [if_pos n30, if_pos rfl]
      · unfold pF
        rw [if_pos n30, if_neg (by omega), g2, upd_n (by omega)]
        refine Eq.trans (if_pos (by omega)) ?_
        rw [show 130 + 69 * k + j + 69 = 130 + 69 * (k + 1) + j by omega]
        exact hc (k + 1) j (by omega) hj
      · rw [g2]
        by_cases e5' : j = 5
        · subst e5'
          rw [upd_s, show cellI CF 68 5 = (0, 30) from by decide +kernel]
          exact inI_n (by omega) (by omega)
        · rw [upd_n e5']
          unfold sfS
          by_cases c : 130 ≤ j ∧ j < 2131
          · rw [if_pos c, cell_next c.1]
            exact r _
          · rw [if_neg c]
            exact r j
    · funext j
      exact (if_neg (by omega)).symm
-- between a step's keeping and the end of its call
def KSd (I I' : XI) (A : Ast) : Prop := (∀ q, q ≠ 68 → q ≠ 91 → q ≠ 93 → I' q = I q) ∧ (∀ j, j < 130 → j ≠ 5 → I' 68 j = I 68 j) ∧ SM (pN (oN A)) (pF (oN A) (oF A) (oW A)) I' ∧ (R68 I → R68 I')
theorem SM.c {n : Nat} {f : Nat → Rw} {I I' : XI} (h : SM n f I) (e5 : I' 68 5 = I 68 5) (e : ∀ j, 130 ≤ j → j < 2200 → I' 68 j = I 68 j) : SM n f I' := ⟨h.1, e5.trans h.2.1, fun k j hk hj => (e _ (by omega) (by have := h.1; omega)).trans (h.2.2 k j hk hj)⟩
theorem KSd.f {I I1 I2 : XI} {A : Ast} (h : KSd I I1 A) (f : F93 I1 I2) : KSd I I2 A := by
  have e := f 68 (by decide) (by decide)
  exact ⟨fun q a b c => (f q b c).trans (h.1 q a b c), fun j a b => (congrFun e j).trans (h.2.1 j a b), h.2.2.1.c (congrFun e 5) (fun j _ _ => congrFun e j), fun r j => by rw [e]; exact h.2.2.2 r j⟩
theorem RE.cells {I I' : XI} {Q : Tld} {L : Lws} (h : RE I Q L) (f : ∀ q, q ≠ 68 → q ≠ 91 → q ≠ 93 → I' q = I q) (g : ∀ j, j < 42 → j ≠ 5 → I' 68 j = I 68 j) : RE I' Q L := by
  obtain ⟨⟨⟨a0, a1, a2, a3, a4, a5⟩, hq⟩, hl⟩ := h
  have q := hq
  obtain ⟨q1, q2, q3, _⟩ := q
  refine ⟨⟨⟨(g 0 (by decide) (by decide)).trans a0, (g 1 (by decide) (by decide)).trans a1, (g 2 (by decide) (by decide)).trans a2, fun t ht => ?_, fun r hr => ?_, fun b hb => ?_⟩, hq⟩, hl.keep (g 4 (by decide) (by decide)) (f 71 (by decide) (by decide) (by decide)) (f 72 (by decide) (by decide) (by decide)) (f 73 (by decide) (by decide) (by decide)) (f 77 (by decide) (by decide) (by decide)) (f 78 (by decide) (by decide) (by decide))⟩
  · rw [g (10 + t) (by omega) (by omega), g (18 + t) (by omega) (by omega), g (26 + t) (by omega) (by omega)]
    exact a3 t ht
  · rw [g (34 + r) (by omega) (by omega)]
    exact a4 r hr
  · rw [g (38 + b) (by omega) (by omega)]
    exact a5 b hb
theorem KSd.re {I I' : XI} {A : Ast} {Q : Tld} {L : Lws} (h : KSd I I' A) (hr : RE I Q L) : RE I' Q L := hr.cells h.1 (fun j a b => h.2.1 j (by omega) b)
theorem MA.w {I : XI} {L : Lws} {A : Ast} (h : MA I L A) {k : Nat} (hk : k < 69) : I 68 (60 + k) = oW A k := by
  have e := congrFun h.2.1 k
  unfold wLay at e
  rw [if_pos hk] at e
  exact e
theorem MA.w93 {I : XI} {L : Lws} {A : Ast} (h : MA I L A) {k : Nat} (hk : ¬ k < 69) : I 93 k = oW A k := by
  have e := congrFun h.2.1 k
  unfold wLay at e
  rw [if_neg hk] at e
  exact e
theorem MA.lay {I I1 : XI} {L : Lws} {A : Ast} (h : MA I L A) (f : F93 I I1) (e : I1 93 = I 93) : wLay I1 = oW A := by
  rw [← h.2.1]
  unfold wLay
  rw [e, f 68 (by decide) (by decide)]
theorem KSd.lay {I I1 : XI} {L : Lws} {A : Ast} (h : MA I L A) (f : KSd I I1 A) (e : I1 93 = I 93) : wLay I1 = oW A := by
  rw [← h.2.1]
  unfold wLay
  funext k
  by_cases c : k < 69
  · rw [if_pos c, if_pos c]
    exact f.2.1 _ (by omega) (by omega)
  · rw [if_neg c, if_neg c, e]
theorem md_kstep (l : Launch) (d : Nat) (ru ta : Nat) (rs : List XO) (I : XI) (J : XJ) (Rp : XR) (L : Lws) (A : Ast) (h : MA I L A) (I1 : XI) (f : F93 I I1) (hR : ∀ I2, KSd I I2 A → I2 93 = I1 93 → Rp none (shH ru ta rs) I2 J) : xm l (d + 1) 0 0 mX12_keepsStep [.ref 67] (shH ru ta rs) I1 J Rp := by
  have e := f 68 (by decide) (by decide)
  refine rs_step l d ru ta rs I1 J Rp (oN A) (oF A) (oW A) (h.2.2.c (congrFun e 5) (fun j _ _ => congrFun e j)) (fun j hj => (congrFun e _).trans (h.w hj)) (fun I2 g1 g2 s r => ?_)
  exact hR I2 ⟨fun q a b c => (g1 q a).trans (f q b c), fun j a b => (g2 j a b).trans (congrFun e j), s, fun r0 => r (fun j => by rw [e]; exact r0 j)⟩ (g1 93 (by decide))
theorem md_keeps (l : Launch) (d : Nat) (ru ta : Nat) (rs : List XO) (I : XI) (J : XJ) (Rp : XR) (L : Lws) (A : Ast) (h : MA I L A) (w' : Rw) (hw' : WR w') (I2 : XI) (k : KSd I I2 A) (e : I2 93 = w') (hR : ∀ I3, FMl I I3 → MA I3 L (stp A w') → I3 93 = w' → Rp none (shH ru ta rs) I3 J) : xm l (d + 1) 0 0 mX12_keepsNow [.ref 67] (shH ru ta rs) I2 J Rp := by
  refine rx_keeps l d ru ta rs I2 J Rp (fun I3 g1 g2 => ?_)
  have e3 : I3 93 = w' := (g1 93 (by decide)).trans e
  have lo : ∀ j, j < 60 ∨ 129 ≤ j → I3 68 j = I2 68 j := fun j hj => by
    rw [g2]
    exact if_neg (by omega)
  refine hR I3 ⟨fun q a b c => (g1 q a).trans (k.1 q a b c), fun j hj => (lo j (by omega)).trans (k.2.1 j (by omega) (by omega)), fun r => ⟨fun j => ?_, fun j => by rw [e3]; exact hw'.r93 j⟩⟩ ⟨h.1.cells (fun q a b c => (g1 q a).trans (k.1 q a b c)) (fun j a b => (lo j (by omega)).trans (k.2.1 j (by omega) b)), ?_, ?_⟩ e3
  · rw [g2]
    unfold kep
    by_cases c : 60 ≤ j ∧ j < 129
    · rw [if_pos c, e, show cellI CF 68 j = cellI CF 68 (60 + (j - 60)) from by rw [show 60 + (j - 60) = j by omega]]
      exact hw'.r68 (by omega)
    · rw [if_neg c]
      exact k.2.2.2 r.1 j
  · funext j
    unfold wLay
    by_cases c : j < 69
    · rw [if_pos c, g2]
      refine Eq.trans (if_pos (by omega)) ?_
      rw [show 60 + j - 60 = j by omega, e]
      rfl
    · rw [if_neg c, e3]
      rfl
  · exact k.2.2.1.c (lo 5 (by decide)) (fun j a _ => lo j (by omega))
-- which
theorem in_v {x : Int32} {n : Nat} (hn : n < 1000) : (nI 0 ≤ x ∧ x ≤ nI n - nI 1) ↔ vIn x n = true := by
  unfold vIn
  rw [Bool.and_eq_true, decide_eq_true_iff, decide_eq_true_iff]
  have key : nI 0 ≤ x → (x ≤ nI n - nI 1 ↔ x < nI n) := fun h => by
    obtain ⟨k, e, hk⟩ := nn_of (Int32.not_lt.mpr h)
    rw [e, nlt hk (by omega)]
    cases n with
    | zero =>
      refine ⟨fun z => ?_, fun z => absurd z (Nat.not_lt_zero _)⟩
      have z := Int32.le_iff_toInt_le.mp z
      rw [nI_toInt hk, show (nI 0 - nI 1).toInt = -1 from by decide] at z
      omega
    | succ n =>
      rw [nI_subI (by omega) (by omega), nle hk (by omega)]
      omega
  exact ⟨fun z => ⟨z.1, (key z.1).mp z.2⟩, fun z => ⟨z.1, (key z.1).mpr z.2⟩⟩
theorem md_in (l : Launch) (d : Nat) (v lo hi : Int32) (sh : List XO) (I : XI) (J : XJ) (Rp : XR) (h1 : (lo ≤ v ∧ v ≤ hi) → Rp (some (.int 1)) sh I J) (h0 : ¬ (lo ≤ v ∧ v ≤ hi) → Rp (some (.int 0)) sh I J) : xm l (d + 1) 0 0 mX12_in [.int v, .int lo, .int hi] sh I J Rp := by
  by_cases c : lo ≤ v ∧ v ≤ hi
  · exact m_in_t l d v lo hi sh I J Rp c.1 c.2 (h1 c)
  · exact m_in_f l d v lo hi sh I J Rp c (h0 c)
theorem md_inR (l : Launch) (d : Nat) (v : Int32) (lo hi : Nat) (sh : List XO) (I : XI) (J : XJ) (Rp : XR) (h1 : rIn v lo hi = true → Rp (some (.int 1)) sh I J) (h0 : rIn v lo hi = false → Rp (some (.int 0)) sh I J) : xm l (d + 1) 0 0 mX12_in [.int v, .int (nI lo), .int (nI hi)] sh I J Rp := by
  refine md_in l d v _ _ sh I J Rp (fun z => h1 (rIn_p.mpr z)) (fun z => h0 ?_)
  cases e : rIn v lo hi with
  | true => exact absurd (rIn_p.mp e) z
  | false => rfl
set_option maxRecDepth 100000 in
theorem md_isT (l : Launch) (d : Nat) (ru ta : Nat) (rs : List XO) (I : XI) (J : XJ) (Rp : XR) (n : Nat) (e : I 68 0 = nI n) (hn : n < 100) (x : Int32) (h1 : vIn x n = true → Rp (some (.int 1)) (shH ru ta rs) I J) (h0 : vIn x n = false → Rp (some (.int 0)) (shH ru ta rs) I J) : xm l (d + 2) 0 0 mX12_isThing [.ref 67, .int x] (shH ru ta rs) I J Rp := by
  refine xm_ofK 0 (X := xxX12) (t := tX12_isThing) (stop := []) (ini := false) xx12 pl12 rfl kX12_isThing (fun h => by cases h) (Nat.le_of_ble_eq_true rfl) (fun K hK => ?_)
  refine And.intro (show vp_in (nI 0) 2200 from vp_b (by decide)) ?_
  refine md_in l d x (nI 0) (I 68 0 - nI 1) _ _ _ _ (fun z => ?_) (fun z => ?_)
  · rw [e] at z
    exact And.intro (Or.inr rfl) (h1 ((in_v (by omega)).mp z))
  · rw [e] at z
    refine And.intro (Or.inl rfl) (h0 ?_)
    cases c : vIn x n with
    | true => exact absurd ((in_v (by omega)).mpr c) z
    | false => rfl
set_option maxRecDepth 100000 in
theorem md_isR (l : Launch) (d : Nat) (ru ta : Nat) (rs : List XO) (I : XI) (J : XJ) (Rp : XR) (n : Nat) (e : I 68 1 = nI n) (hn : n < 100) (x : Int32) (h1 : vIn x n = true → Rp (some (.int 1)) (shH ru ta rs) I J) (h0 : vIn x n = false → Rp (some (.int 0)) (shH ru ta rs) I J) : xm l (d + 2) 0 0 mX12_isReaper [.ref 67, .int x] (shH ru ta rs) I J Rp := by
  refine xm_ofK 0 (X := xxX12) (t := tX12_isReaper) (stop := []) (ini := false) xx12 pl12 rfl kX12_isReaper (fun h => by cases h) (Nat.le_of_ble_eq_true rfl) (fun K hK => ?_)
  refine And.intro (show vp_in (nI 1) 2200 from vp_b (by decide)) ?_
  refine md_in l d x (nI 0) (I 68 1 - nI 1) _ _ _ _ (fun z => ?_) (fun z => ?_)
  · rw [e] at z
    exact And.intro (Or.inr rfl) (h1 ((in_v (by omega)).mp z))
  · rw [e] at z
    refine And.intro (Or.inl rfl) (h0 ?_)
    cases c : vIn x n with
    | true => exact absurd ((in_v (by omega)).mpr c) z
    | false => rfl
set_option maxRecDepth 100000 in
theorem md_isB (l : Launch) (d : Nat) (ru ta : Nat) (rs : List XO) (I : XI) (J : XJ) (Rp : XR) (n : Nat) (e : I 68 2 = nI n) (hn : n < 100) (x : Int32) (h1 : vIn x n = true → Rp (some (.int 1)) (shH ru ta rs) I J) (h0 : vIn x n = false → Rp (some (.int 0)) (shH ru ta rs) I J) : xm l (d + 2) 0 0 mX12_isBarn [.ref 67, .int x] (shH ru ta rs) I J Rp := by
  refine xm_ofK 0 (X := xxX12) (t := tX12_isBarn) (stop := []) (ini := false) xx12 pl12 rfl kX12_isBarn (fun h => by cases h) (Nat.le_of_ble_eq_true rfl) (fun K hK => ?_)
  refine And.intro (show vp_in (nI 2) 2200 from vp_b (by decide)) ?_
  refine md_in l d x (nI 0) (I 68 2 - nI 1) _ _ _ _ (fun z => ?_) (fun z => ?_)
  · rw [e] at z
    exact And.intro (Or.inr rfl) (h1 ((in_v (by omega)).mp z))
  · rw [e] at z
    refine And.intro (Or.inl rfl) (h0 ?_)
    cases c : vIn x n with
    | true => exact absurd ((in_v (by omega)).mpr c) z
    | false => rfl
set_option maxRecDepth 100000 in
set_option maxHeartbeats 1000000 in
theorem md_isBale (l : Launch) (d : Nat) (ru ta : Nat) (rs : List XO) (I : XI) (J : XJ) (Rp : XR) (w : Rw) (e : ∀ k, k < 12 → I 68 (88 + k) = w (28 + k)) (x : Int32) (h1 : ∀ b, b < 12 → x = nI b → 0 < w (28 + b) → Rp (some (.int 1)) (shH ru ta rs) I J) (h0 : (vIn x 12 && decide (0 < w (28 + x.toNatClampNeg))) = false → Rp (some (.int 0)) (shH ru ta rs) I J) : xm l (d + 2) 0 0 mX12_isBale [.ref 67, .int x] (shH ru ta rs) I J Rp := by
  refine xm_ofK 0 (X := xxX12) (t := tX12_isBale) (stop := []) (ini := false) xx12 pl12 rfl kX12_isBale (fun h => by cases h) (Nat.le_of_ble_eq_true rfl) (fun K hK => ?_)
  refine md_inR l d x 0 11 _ _ _ _ (fun z => ?_) (fun z => ?_)
  · refine And.intro (fun z => absurd (show (1 : Int32) = 0 from z) (by decide)) (fun _ => ?_)
    obtain ⟨b, _, hb, ex, ex2⟩ := rIn_t (by omega) (by omega) z
    have hv : vIn x 12 = true := by rw [ex]; exact vIn_n (by omega) (by omega)
    subst ex
    have ix : (nI 88 + nI b).toNatClampNeg = 88 + b := ix_c (by omega)
    refine And.intro (show vp_in (nI 88 + nI b) 2200 from vx_2 (by omega) (by omega)) ?_
    refine And.intro (fun (y : I 68 (nI 88 + nI b).toNatClampNeg ≤ 0) => ?_) (fun (y : ¬ I 68 (nI 88 + nI b).toNatClampNeg ≤ 0) => ?_)
    · rw [ix, e b (by omega)] at y
      refine And.intro (Or.inl rfl) (h0 ?_)
      rw [ex2, decide_eq_false (Int32.not_lt.mpr y), Bool.and_false]
    · rw [ix, e b (by omega)] at y
      exact And.intro (Or.inr rfl) (h1 b (by omega) rfl (Int32.not_le.mp y))
  · refine And.intro (fun _ => ?_) (fun z => absurd rfl z)
    refine And.intro (Or.inl rfl) (h0 ?_)
    cases c : vIn x 12 with
    | true =>
      obtain ⟨b, hb, ex, _⟩ := vIn_t (by omega) c
      rw [ex] at z
      have := rIn_p.mpr (show nI 0 ≤ nI b ∧ nI b ≤ nI 11 from ⟨(nle (by omega) (by omega)).mpr (by omega), (nle (by omega) (by omega)).mpr (by omega)⟩)
      rw [z] at this
      cases this
    | false => rfl
