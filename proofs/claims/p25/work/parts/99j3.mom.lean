-- ===== most: the reference =====
def dgW (B n j : Nat) : Nat → Nat := dgX B n 0 (fun _ => 0) j
theorem dgW_p {B n j p : Nat} (hp : p < n) : dgW B n j p = j / B ^ (n - 1 - p) % B := by
  unfold dgW dgX
  rw [if_neg (Nat.not_lt_zero p), if_pos (by omega), Nat.zero_add]
theorem dgW_lt {B n j p : Nat} (hB : 0 < B) (hp : p < n) : dgW B n j p < B := by
  rw [dgW_p hp]
  exact Nat.mod_lt _ hB
theorem moA_num (Q : Tld) (L : Lws) (w : Rw) (r bn n : Nat) : moA Q L w r bn n = foN (fun j => mlf (mrun Q L r bn (dgW (qT Q + 1) n j) n 0 w 0) (dgW (qT Q + 1) n j)) ((qT Q + 1) ^ n) (-1, fun _ => 0) := mRn_num (Nat.succ_pos _) n 0 w 0 _ _
abbrev lcz (l : Launch) (d : Nat) (ru ta : Nat) (rs : List XO) (J : XJ) (Rp : XR) (nn : Nat) (v : Int32) (n left : Nat) (k : Int32) (I : XI) : Prop := xrun xxX12 none false false (shH ru ta rs).length 0 0 none l d tX12_laysCuts [7] Rp nn 7 [some (.ref 67), some (.int v), some (.int (nI n)), some (.int (nI left)), some (.int k)] [] (shH ru ta rs) I J 0 0
set_option maxRecDepth 100000 in
set_option maxHeartbeats 2000000 in
theorem rx_lc_loop (l : Launch) (d : Nat) (ru ta : Nat) (rs : List XO) (I : XI) (J : XJ) (Rp : XR) (T n j : Nat) (v : Int32) (hT : T ≤ 8) (hn : n ≤ 4) (hj : j < 100000) (e68 : I 68 0 = nI T) (hR : ∀ I' : XI, (∀ q, q ≠ 94 → I' q = I q) → (∀ p, p < n → I' 94 p = nI (dgW (T + 1) n j p)) → (∀ p, n ≤ p → I' 94 p = I 94 p) → Rp none (shH ru ta rs) I' J) : ∀ (K nn left : Nat) (I1 : XI), K ≤ n → K < nn → left = j / (T + 1) ^ (n - K) → (∀ q, q ≠ 94 → I1 q = I q) → (∀ p, K ≤ p → p < n → I1 94 p = nI (dgW (T + 1) n j p)) → (∀ p, n ≤ p → I1 94 p = I 94 p) → lcz l d ru ta rs J Rp nn v n left (nI K - nI 1) I1 := by
  intro K
  induction K with
  | zero =>
    intro nn left I1 hK hnn el f e1 e2
    obtain ⟨nn, rfl⟩ : ∃ n', nn = n' + 1 := ⟨nn - 1, by omega⟩
    refine xrun_step fun K hK => ?_
    refine And.intro (fun _ => ?_) (fun z => absurd (show nI 0 - nI 1 < 0 from by decide) z)
    exact hR I1 f (fun p hp => e1 p (Nat.zero_le _) hp) e2
  | succ K ih =>
    intro nn left I1 hK hnn el f e1 e2
    obtain ⟨nn, rfl⟩ : ∃ n', nn = n' + 1 := ⟨nn - 1, by omega⟩
    have ek : nI (K + 1) - nI 1 = nI K := by
      have y := nI_subI (a := K + 1) (b := 1) (by omega) (by omega)
      rw [Nat.add_sub_cancel] at y
      exact y
    have lj : left ≤ j := by
      rw [el]
      exact Nat.div_le_self _ _
    have e0 : I1 68 0 = nI T := by rw [f 68 (by decide)]; exact e68
    have eB : I1 68 0 + nI 1 = nI (T + 1) := by rw [e0, nI_add]
    have ik : (nI K).toNatClampNeg = K := nI_clamp (by omega)
    have ev : nI left - nI left / (I1 68 0 + nI 1) * (I1 68 0 + nI 1) = nI (left % (T + 1)) := by
      rw [eB]
      exact nmod (by omega) (by omega) (by omega)
    have hd : left % (T + 1) = dgW (T + 1) n j K := by
      rw [dgW_p (by omega), el, show n - 1 - K = n - (K + 1) by omega]
    have h2 : left / (T + 1) = j / (T + 1) ^ (n - K) := by
      rw [el, Nat.div_div_eq_div_mul, ← Nat.pow_succ, show Nat.succ (n - (K + 1)) = n - K by omega]
    have e0' : (uI I1 94 K (nI (left % (T + 1)))) 68 0 = nI T := by rw [uI_ne (by decide)]; exact e0
    have eB' : (uI I1 94 K (nI (left % (T + 1)))) 68 0 + nI 1 = nI (T + 1) := by rw [e0', nI_add]
    rw [ek]
    refine xrun_step fun KK hKK => ?_
    refine And.intro (fun z => absurd (show nI K < 0 from z) (nI_nn (by omega))) (fun _ => ?_)
    refine And.intro (show vp_in (nI 0) 2200 from vp_b (by decide)) ?_
    refine And.intro (show ¬ (I1 68 0 + nI 1 = 0) from by rw [eB]; exact fun z => by have := nI_inj (b := 0) z (by omega) (by omega); omega) ?_
    refine And.intro (show vp_in (nI K) 4 from vp_in_nI (by omega) (by omega)) ?_
    refine And.intro (show vp_in (nI 0) 2200 from vp_b (by decide)) ?_
    refine (show ¬ ((uI I1 94 (nI K).toNatClampNeg (nI left - nI left / (I1 68 0 + nI 1) * (I1 68 0 + nI 1))) 68 0 + nI 1 = 0) ∧ KK 7 [some (.ref 67), some (.int v), some (.int (nI n)), some (.int (nI left / ((uI I1 94 (nI K).toNatClampNeg (nI left - nI left / (I1 68 0 + nI 1) * (I1 68 0 + nI 1))) 68 0 + nI 1))), some (.int (nI K + (-1)))] [] (shH ru ta rs) (uI I1 94 (nI K).toNatClampNeg (nI left - nI left / (I1 68 0 + nI 1) * (I1 68 0 + nI 1))) J 0 0 from ?_)
    rw [ik, ev, eB', ndiv (by omega) (by omega) (by omega)]
    refine ⟨fun z => by have := nI_inj (b := 0) z (by omega) (by omega); omega, ?_⟩
    refine hKK 7 _ [] (shH ru ta rs) _ J 0 0 ?_
    have em : nI K + (-1) = nI K - nI 1 := by
      rw [show (-1 : Int32) = - nI 1 from by decide, Int32.sub_eq_add_neg]
    rw [em]
    refine ih nn (left / (T + 1)) _ (by omega) (by omega) h2 (fun q hq => by rw [uI_ne hq]; exact f q hq) (fun p h1 h3 => ?_) (fun p hp => ?_)
    · rw [uI_eq]
      by_cases e : p = K
      · rw [e, upd_s, hd]
      · rw [upd_n e]
        exact e1 p (by omega) h3
    · rw [uI_eq, upd_n (by omega)]
      exact e2 p hp
set_option maxRecDepth 100000 in
theorem rx_laysCuts (l : Launch) (d : Nat) (ru ta : Nat) (rs : List XO) (I : XI) (J : XJ) (Rp : XR) (T n j : Nat) (hT : T ≤ 8) (h1 : 1 ≤ n) (hn : n ≤ 4) (hj : j < 100000) (e68 : I 68 0 = nI T) (hR : ∀ I' : XI, (∀ q, q ≠ 94 → I' q = I q) → (∀ p, p < n → I' 94 p = nI (dgW (T + 1) n j p)) → (∀ p, n ≤ p → I' 94 p = I 94 p) → Rp none (shH ru ta rs) I' J) : xm l (d + 1) 0 0 mX12_laysCuts [.ref 67, .int (nI j), .int (nI n)] (shH ru ta rs) I J Rp := by
  refine xm_ofK 6 (X := xxX12) (t := tX12_laysCuts) (stop := [7]) (ini := false) xx12 pl12 rfl kX12_laysCuts (fun h => by cases h) (Nat.le_of_ble_eq_true rfl) (fun K hK => ?_)
  exact hK 7 [some (.ref 67), some (.int (nI j)), some (.int (nI n)), some (.int (nI j)), some (.int (nI n - nI 1))] [] _ _ _ _ _ (rx_lc_loop l d ru ta rs I J Rp T n j (nI j) hT hn hj e68 hR n 6 j I (Nat.le_refl _) (by omega) (by rw [Nat.sub_self, Nat.pow_zero, Nat.div_one]) (fun _ _ => rfl) (fun p h1 h2 => absurd h2 (by omega)) (fun _ _ => rfl))
/-- the length of what has been cut -/
theorem cuR_len {Q : Tld} {L : Lws} {w : Rw} {t r bn : Nat} (hQ : TOK Q) (hw : WR w) (ht : t < qT Q) (hr : r < qR Q) (ok : cuOK Q L w t r bn = true) : frB w < 12 ∧ cuB Q L w t r bn = frB w ∧ cuR Q L w t r bn (28 + frB w) = nI (cuL Q L w t r) := by
  have t8 := hQ.1
  have r4 := hQ.2.1
  have fb : frB w < 12 := by
    have := frB_le w
    have h := ok
    unfold cuOK at h
    simp only [Bool.and_eq_true, Bool.not_eq_true', decide_eq_false_iff_not] at h
    have := h.1.2
    omega
  refine ⟨fb, ?_, ?_⟩
  · unfold cuB
    rw [if_pos ok]
  · unfold cuR
    rw [if_pos ok]
    unfold cuW cuG baI
    rw [upd_n (by omega), upd_n (by omega), upd_n (by omega), upd_n (by omega), upd_s]
    exact (cuL_eq hQ hw ht hr).1
theorem rx_cutsV (l : Launch) (d : Nat) (ru ta : Nat) (rs : List XO) (I : XI) (J : XJ) (Rp : XR) (Q : Tld) (L : Lws) (h : RE I Q L) (hw : WR (I 93)) (v : Int32) (t : Nat) (ev : v = nI t) (r bn : Nat) (ht : t < qT Q) (hr : r < qR Q) (hb : bn < qB Q) (hR : ∀ (I' : XI) (J' : XJ), F93 I I' → I' 93 = cuR Q L (I 93) t r bn → Rp (some (.int (bI (cuB Q L (I 93) t r bn)))) (shH ru ta rs) I' J') : xm l (d + 12) 0 0 mX12_cutsNow [.ref 67, .int v, .int (nI r), .int (nI bn)] (shH ru ta rs) I J Rp := by
  subst ev
  exact rx_cuts l d ru ta rs I J Rp Q L h hw t r bn ht hr hb hR
theorem hrR_o {Q : Tld} {L : Lws} (t8 : qT Q ≤ 8) {w : Rw} {j : Nat} (hj : 69 ≤ j) : hrR Q L w j = w j := by
  have e0 : hr0 w j = w j := by
    unfold hr0
    rw [upd_n (by omega), upd_n (by omega), upd_n (by omega), upd_n (by omega), upd_n (by omega)]
  unfold hrR
  split
  · unfold dayR
    rw [spN_o (by omega) 12 _ 0 (by omega), gwN_n (by omega) (qT Q) _ 0 (by omega)]
    unfold dw0 dr
    rw [upd_n (by omega), upd_n (by omega), upd_n (by omega), upd_n (by omega)]
    exact e0
  · exact e0
theorem pt1_o {Q : Tld} {L : Lws} (t8 : qT Q ≤ 8) {w : Rw} {j : Nat} (hj : 69 ≤ j) : ptR Q L 1 w j = w j := by
  show (if cnP w = true then hrR Q L w else w) j = w j
  split
  · exact hrR_o t8 hj
  · rfl
theorem cuR_o {Q : Tld} {L : Lws} {w : Rw} {t r bn j : Nat} (ht : t < 8) (hr : r < 4) (hj : 69 ≤ j) : cuR Q L w t r bn j = w j := by
  unfold cuR
  split
  · rename_i ok
    have fb : frB w < 12 := by
      have := frB_le w
      unfold cuOK at ok
      simp only [Bool.and_eq_true, Bool.not_eq_true', decide_eq_false_iff_not] at ok
      have := ok.1.2
      omega
    unfold cuW cuG baI
    rw [upd_n (by omega), upd_n (by omega), upd_n (by omega), upd_n (by omega), upd_n (by omega), upd_n (by omega)]
  · rfl
theorem mvW_o {Q : Tld} {L : Lws} {r bn : Nat} {w : Rw} {k j : Nat} (t8 : qT Q ≤ 8) (hk : k < qT Q + 1) (hr : r < 4) (hj : 69 ≤ j) : mvW Q L r bn w k j = w j := by
  unfold mvW
  rw [pt1_o t8 hj]
  split
  · rfl
  · exact cuR_o (by omega) hr hj
theorem mrun_le {Q : Tld} {L : Lws} {r bn : Nat} (hQ : TOK Q) (hr : r < qR Q) {g : Nat → Nat} : ∀ (m i : Nat) (w : Rw) (s : Nat), mrun Q L r bn g m i w s ≤ s + 99 * m
  | 0, _, _, s => Nat.le_refl _
  | m + 1, i, w, s => by
    have y := mrun_le (L := L) (bn := bn) hQ hr (g := g) m (i + 1) (mvW Q L r bn w (g i)) (s + mvV Q L r bn w (g i))
    have v := mv_le (L := L) (bn := bn) (w := w) (k := g i) hQ hr
    show mrun Q L r bn g m (i + 1) _ _ ≤ _
    omega
abbrev bbz (l : Launch) (d : Nat) (ru ta : Nat) (rs : List XO) (J : XJ) (Rp : XR) (nn r bn n s k : Nat) (o : Option Value) (I : XI) : Prop := xrun xxX12 (some .int) false false (shH ru ta rs).length 0 0 none l (d + 13) tX12_broughtBy [10] Rp nn 10 [some (.ref 67), some (.int (nI r)), some (.int (nI bn)), some (.int (nI n)), some (.int (nI s)), some (.int (nI k)), o] [] (shH ru ta rs) I J 0 0
set_option maxRecDepth 100000 in
set_option maxHeartbeats 4000000 in
theorem rx_bb_loop (l : Launch) (d : Nat) (ru ta : Nat) (rs : List XO) (I : XI) (Rp : XR) (Q : Tld) (L : Lws) (h : RE I Q L) (r bn n : Nat) (hr : r < qR Q) (hb : bn < qB Q) (hn : n ≤ 4) (g : Nat → Nat) (hg : ∀ p, p < n → g p < qT Q + 1) (e94 : ∀ p, p < n → I 94 p = nI (g p)) (w0 : Rw) (V : Nat) (hR : ∀ (I' : XI) (J' : XJ), F93 I I' → WR (I' 93) → (∀ j, 69 ≤ j → I' 93 j = w0 j) → Rp (some (.int (nI V))) (shH ru ta rs) I' J') : ∀ (m k nn : Nat) (J : XJ) (I1 : XI) (w : Rw) (s : Nat) (o : Option Value), k + m = n → m < nn → F93 I I1 → I1 93 = w → WR w → (∀ j, 69 ≤ j → w j = w0 j) → s ≤ 99 * k → mrun Q L r bn g m k w s = V → bbz l d ru ta rs J Rp nn r bn n s k o I1 := by
  have t8 := h.1.2.1
  have r4 := h.1.2.2.1
  intro m
  induction m with
  | zero =>
    intro k nn J I1 w s o hk hnn f ew hw h69 hs eV
    obtain ⟨nn, rfl⟩ : ∃ n', nn = n' + 1 := ⟨nn - 1, by omega⟩
    have eV : s = V := eV
    subst eV
    refine xrun_step fun K hK => ?_
    refine And.intro (fun _ => ?_) (fun z => absurd (show nI n ≤ nI k from by rw [show k = n by omega]; exact Int32.le_refl _) z)
    exact hR I1 J f (by rw [ew]; exact hw) (fun j hj => by rw [ew]; exact h69 j hj)
  | succ m ih =>
    intro k nn J I1 w s o hk hnn f ew hw h69 hs eV
    obtain ⟨nn, rfl⟩ : ∃ n', nn = n' + 1 := ⟨nn - 1, by omega⟩
    have eV2 : mrun Q L r bn g m (k + 1) (mvW Q L r bn w (g k)) (s + mvV Q L r bn w (g k)) = V := eV
    have hv := mv_le (L := L) (bn := bn) (w := w) (k := g k) h.1.2 hr
    have gk := hg k (by omega)
    have ik : (nI k).toNatClampNeg = k := nI_clamp (by omega)
    have e9 : I1 94 (nI k).toNatClampNeg = nI (g k) := by rw [ik, f 94 (by decide) (by decide)]; exact e94 k (by omega)
    have re1 : RE I1 Q L := h.keep f
    have wr1 : WR (I1 93) := by rw [ew]; exact hw
    -- the hour passes, the next one
    have nx : ∀ (I2 : XI) (J2 : XJ) (w' : Rw) (v : Nat) (o : Option Value), F93 I1 I2 → I2 93 = w' → WR w' → v = mvV Q L r bn w (g k) → ptR Q L 1 w' = mvW Q L r bn w (g k) → ∀ Rq : XR, (∀ (I3 : XI) (J3 : XJ), bbz l d ru ta rs J3 Rp nn r bn n (s + v) (k + 1) o I3 → Rq none (shH ru ta rs) I3 J3) → xm l (d + 13) 0 0 mX12_passesThrough [.ref 67, .int (nI 1)] (shH ru ta rs) I2 J2 Rq := fun I2 J2 w' v o f2 e2 w2 ev ew' Rq hq => by
      have g2 := f.tr f2
      refine rx_pt l d ru ta rs I2 J2 Rq Q L (h.keep g2) (by rw [e2]; exact w2) 1 (by decide) (fun I3 J3 f3 e3 => ?_)
      rw [e2, ew'] at e3
      have w3 : WR (mvW Q L r bn w (g k)) := by
        rw [← ew']
        exact w2.pt t8 1 _
      refine hq I3 J3 ?_
      rw [ev]
      exact ih (k + 1) nn J3 I3 _ _ o (by omega) (by omega) (g2.tr f3) e3 w3 (fun j hj => by rw [mvW_o t8 gk (by omega) hj]; exact h69 j hj) (by omega) eV2
    refine xrun_step fun K hK => ?_
    refine And.intro (fun z => absurd ((nle (by omega) (by omega)).mp (show nI n ≤ nI k from z)) (by omega)) (fun _ => ?_)
    refine And.intro (show vp_in (nI k) 4 from vp_in_nI (by omega) (by omega)) ?_
    refine And.intro (fun (z : ¬ I1 94 (nI k).toNatClampNeg = 0) => ?_) (fun (z : I1 94 (nI k).toNatClampNeg = 0) => ?_)
    · rw [e9] at z
      have gp : 0 < g k := by
        rcases Nat.eq_zero_or_pos (g k) with e | p
        · exact absurd (by rw [e]; rfl) z
        · exact p
      have ec : I1 94 (nI k).toNatClampNeg - nI 1 = nI (g k - 1) := by rw [e9]; exact nI_subI gp (by omega)
      refine And.intro (show vp_in (nI k) 4 from vp_in_nI (by omega) (by omega)) ?_
      refine rx_cutsV l (d + 1) ru ta rs I1 J _ Q L re1 wr1 _ (g k - 1) ec r bn (by omega) hr hb (fun I2 J2 f2 e2 => ?_)
      rw [ew] at e2 ⊢
      have wc : WR (cuR Q L w (g k - 1) r bn) := hw.cu h.1.2 (by omega) hr hb
      have ep : ptR Q L 1 (cuR Q L w (g k - 1) r bn) = mvW Q L r bn w (g k) := by
        unfold mvW
        rw [if_neg (by omega)]
      cases ok : cuOK Q L w (g k - 1) r bn with
      | true =>
        obtain ⟨c1, c2, c3⟩ := cuR_len h.1.2 hw (show g k - 1 < qT Q by omega) hr ok
        have eb : bI (cuB Q L w (g k - 1) r bn) = nI (frB w) := by rw [c2]; exact bI_b c1
        have ib : (nI 28 + nI (frB w)).toNatClampNeg = 28 + frB w := ix_c (by omega)
        have el : I2 93 (nI 28 + nI (frB w)).toNatClampNeg = nI (cuL Q L w (g k - 1) r) := by rw [ib, e2]; exact c3
        have ev : mvV Q L r bn w (g k) = cuL Q L w (g k - 1) r := by
          unfold mvV
          rw [if_neg (by omega), if_pos ok]
        rw [eb]
        refine And.intro (fun _ => ?_) (fun (z : nI (frB w) = -1) => absurd z (nI_ne1 (by omega)))
        refine And.intro (show vp_in (nI 28 + nI (frB w)) 69 from vx_2 (by omega) (by omega)) ?_
        refine nx I2 J2 _ (cuL Q L w (g k - 1) r) (some (.int (nI (frB w)))) f2 e2 wc ev.symm ep _ (fun I3 J3 z3 => ?_)
        refine hK 10 [some (.ref 67), some (.int (nI r)), some (.int (nI bn)), some (.int (nI n)), some (.int (nI s + I2 93 (nI 28 + nI (frB w)).toNatClampNeg)), some (.int (nI k + 1)), some (.int (nI (frB w)))] [] (shH ru ta rs) I3 J3 0 0 ?_
        rw [el, nI_add, nI_1]
        exact z3
      | false =>
        have eb : bI (cuB Q L w (g k - 1) r bn) = -1 := by
          unfold cuB
          rw [ok]
          exact bI_12
        have ev : mvV Q L r bn w (g k) = 0 := (mv_no ok).1
        rw [eb]
        refine And.intro (fun y => absurd rfl y) (fun _ => ?_)
        refine nx I2 J2 _ 0 (some (.int (-1))) f2 e2 wc ev.symm ep _ (fun I3 J3 z3 => ?_)
        refine hK 10 [some (.ref 67), some (.int (nI r)), some (.int (nI bn)), some (.int (nI n)), some (.int (nI s + nI 0)), some (.int (nI k + 1)), some (.int (-1))] [] (shH ru ta rs) I3 J3 0 0 ?_
        rw [nI_add, nI_1]
        exact z3
    · rw [e9] at z
      have g0 : g k = 0 := nI_inj (b := 0) z (by omega) (by omega)
      refine And.intro (fun y => absurd (show (-1 : Int32) = -1 from rfl) y) (fun _ => ?_)
      refine nx I1 J w 0 (some (.int (-1))) F93.rf ew hw (by rw [g0]; rfl) (by rw [g0]; rfl) _ (fun I3 J3 z3 => ?_)
      refine hK 10 [some (.ref 67), some (.int (nI r)), some (.int (nI bn)), some (.int (nI n)), some (.int (nI s + nI 0)), some (.int (nI k + 1)), some (.int (-1))] [] (shH ru ta rs) I3 J3 0 0 ?_
      rw [nI_add, nI_1]
      exact z3
set_option maxRecDepth 100000 in
theorem rx_bb (l : Launch) (d : Nat) (ru ta : Nat) (rs : List XO) (I : XI) (J : XJ) (Rp : XR) (Q : Tld) (L : Lws) (h : RE I Q L) (r bn n : Nat) (hr : r < qR Q) (hb : bn < qB Q) (hn : n ≤ 4) (g : Nat → Nat) (hg : ∀ p, p < n → g p < qT Q + 1) (e94 : ∀ p, p < n → I 94 p = nI (g p)) (hw : WR (wLay I)) (hR : ∀ (I' : XI) (J' : XJ), F93 I I' → WR (I' 93) → (∀ j, 69 ≤ j → I' 93 j = wLay I j) → Rp (some (.int (nI (mrun Q L r bn g n 0 (wLay I) 0)))) (shH ru ta rs) I' J') : xm l (d + 14) 0 0 mX12_broughtBy [.ref 67, .int (nI r), .int (nI bn), .int (nI n)] (shH ru ta rs) I J Rp := by
  refine xm_ofK 6 (X := xxX12) (t := tX12_broughtBy) (stop := [10]) (ini := false) xx12 pl12 rfl kX12_broughtBy (fun h => by cases h) (Nat.le_of_ble_eq_true rfl) (fun K hK => ?_)
  refine rx_lays l (d + 12) ru ta rs I J _ (fun I1 f1 e1 => ?_)
  exact hK 10 [some (.ref 67), some (.int (nI r)), some (.int (nI bn)), some (.int (nI n)), some (.int (nI 0)), some (.int (nI 0)), none] [] _ _ _ _ _ (rx_bb_loop l d ru ta rs I Rp Q L h r bn n hr hb hn g hg e94 (wLay I) _ hR n 0 6 J I1 (wLay I) 0 none (by omega) (by omega) f1 e1 hw (fun _ _ => rfl) (Nat.zero_le _) rfl)
/-- what the reference's search leaves -/
def FR (I I' : XI) : Prop := (∀ q, q ≠ 91 → q ≠ 93 → q ≠ 94 → q ≠ 95 → I' q = I q) ∧ (RG I → RG I') ∧ ((∀ p, inI (0, 8) (I 94 p).toInt) → ∀ p, inI (0, 8) (I' 94 p).toInt)
theorem FR.rf {I : XI} : FR I I := ⟨fun _ _ _ _ _ => rfl, fun h => h, fun h => h⟩
theorem FR.tr {I I1 I2 : XI} (h : FR I I1) (g : FR I1 I2) : FR I I2 := ⟨fun q a b c d => (g.1 q a b c d).trans (h.1 q a b c d), fun r => g.2.1 (h.2.1 r), fun r => g.2.2 (h.2.2 r)⟩
theorem FR.q {I I1 : XI} (h : FQ I I1) : FR I I1 := ⟨fun q a b _ _ => h.1 q a b, h.2, fun r p => by rw [h.1 94 (by decide) (by decide)]; exact r p⟩
theorem RE.kr {I I' : XI} {Q : Tld} {L : Lws} (h : RE I Q L) (f : FR I I') : RE I' Q L := by
  have e := f.1 68 (by decide) (by decide) (by decide) (by decide)
  exact ⟨⟨h.1.1.keep e, h.1.2⟩, h.2.keep (congrFun e 4) (f.1 71 (by decide) (by decide) (by decide) (by decide)) (f.1 72 (by decide) (by decide) (by decide) (by decide)) (f.1 73 (by decide) (by decide) (by decide) (by decide)) (f.1 77 (by decide) (by decide) (by decide) (by decide)) (f.1 78 (by decide) (by decide) (by decide) (by decide))⟩
abbrev mqz (l : Launch) (d : Nat) (ru ta : Nat) (rs : List XO) (J : XJ) (Rp : XR) (nn pc r bn n : Nat) (v a6 : Int32) (ways j : Nat) (o8 o9 : Option Value) (I : XI) : Prop := xrun xxX12 (some .int) false false (shH ru ta rs).length 0 0 none l (d + 14) tX12_most [45, 76, 113] Rp nn pc [some (.ref 67), some (.int (nI r)), some (.int (nI bn)), some (.int (nI n)), some (.int v), some (.int (nI ways)), some (.int a6), some (.int (nI j)), o8, o9] [] (shH ru ta rs) I J 0 0
set_option maxRecDepth 100000 in
set_option maxHeartbeats 2000000 in
/-- the way is noted -/
theorem md_mo_copy (l : Launch) (d : Nat) (ru ta : Nat) (rs : List XO) (J : XJ) (Rp : XR) (r bn n : Nat) (v a6 : Int32) (ways j n0 : Nat) (hn : n ≤ 4) (x8 : Int32) (I : XI) (H : ∀ (o9 : Option Value) (I' : XI), (∀ q, q ≠ 95 → I' q = I q) → (∀ p, p < n → I' 95 p = I 94 p) → mqz l d ru ta rs J Rp n0 76 r bn n v a6 ways (j + 1) (some (.int x8)) o9 I') : ∀ (m k : Nat) (I1 : XI), k + m = n → (∀ q, q ≠ 95 → I1 q = I q) → (∀ p, p < k → I1 95 p = I 94 p) → mqz l d ru ta rs J Rp (n0 + m + 1) 113 r bn n v a6 ways j (some (.int x8)) (some (.int (nI k))) I1 := by
  intro m
  induction m with
  | zero =>
    intro k I1 hk f e
    refine xrun_step fun K hK => ?_
    refine And.intro (fun _ => ?_) (fun z => absurd (show nI n ≤ nI k from by rw [show k = n by omega]; exact Int32.le_refl _) z)
    refine hK 76 [some (.ref 67), some (.int (nI r)), some (.int (nI bn)), some (.int (nI n)), some (.int v), some (.int (nI ways)), some (.int a6), some (.int (nI j + 1)), some (.int x8), some (.int (nI k))] [] (shH ru ta rs) I1 J 0 0 ?_
    rw [nI_1]
    exact H _ I1 f (fun p hp => e p (by omega))
  | succ m ih =>
    intro k I1 hk f e
    have ik : (nI k).toNatClampNeg = k := nI_clamp (by omega)
    refine xrun_step fun K hK => ?_
    refine And.intro (fun z => absurd ((nle (by omega) (by omega)).mp (show nI n ≤ nI k from z)) (by omega)) (fun _ => ?_)
    refine And.intro (show vp_in (nI k) 4 from vp_in_nI (by omega) (by omega)) ?_
    refine And.intro (show vp_in (nI k) 4 from vp_in_nI (by omega) (by omega)) ?_
    refine hK 113 [some (.ref 67), some (.int (nI r)), some (.int (nI bn)), some (.int (nI n)), some (.int v), some (.int (nI ways)), some (.int a6), some (.int (nI j)), some (.int x8), some (.int (nI k + 1))] [] (shH ru ta rs) (uI I1 95 (nI k).toNatClampNeg (I1 94 (nI k).toNatClampNeg)) J 0 0 ?_
    rw [nI_1, ik]
    refine ih (k + 1) _ (by omega) (fun q hq => by rw [uI_ne hq]; exact f q hq) (fun p hp => ?_)
    rw [uI_eq]
    by_cases c : p = k
    · rw [c, upd_s, f 94 (by decide)]
    · rw [upd_n c]
      exact e p (by omega)
theorem inI8 {n : Nat} (h : n < 9) : inI (0, 8) (nI n).toInt := by
  rw [nI_toInt (by omega)]
  exact ⟨by dsimp only; omega, by dsimp only; omega⟩
set_option maxRecDepth 100000 in
set_option maxHeartbeats 4000000 in
theorem md_mo_loop (l : Launch) (d : Nat) (ru ta : Nat) (rs : List XO) (I : XI) (Rp : XR) (Q : Tld) (L : Lws) (h : RE I Q L) (w : Rw) (hl : wLay I = w) (hw : WR w) (r bn n : Nat) (hr : r < qR Q) (hb : bn < qB Q) (h1 : 1 ≤ n) (hn : n ≤ 4) (v : Int32) (hv : v = -1 ∨ ∃ k, k < n ∧ v = nI k) (N : Nat) (hN : N < 100000) (V : Mac) (V0 : 0 ≤ V.1) (hR : ∀ (I' : XI) (J' : XJ), FR I I' → Rp (some (.int (if v = -1 then jI V.1 else thI (V.2 v.toNatClampNeg)))) (shH ru ta rs) I' J') : ∀ (m j nn : Nat) (J : XJ) (I1 : XI) (a : Mac) (o8 o9 : Option Value), j + m = N → 8 * m < nn → FR I I1 → (∀ k, 69 ≤ k → I1 93 k = w k) → (0 ≤ a.1 → ∀ p, p < n → I1 95 p = nI (a.2 p) ∧ a.2 p < 9) → -1 ≤ a.1 → a.1 < 1000 → foN (fun i => mlf (mrun Q L r bn (dgW (qT Q + 1) n (j + i)) n 0 w 0) (dgW (qT Q + 1) n (j + i))) m a = V → mqz l d ru ta rs J Rp nn 76 r bn n v (jI a.1) N j o8 o9 I1 := by
  have t8 := h.1.2.1
  intro m
  induction m with
  | zero =>
    intro j nn J I1 a o8 o9 hj hnn f h69 e95 b1 b2 eV
    obtain ⟨nn, rfl⟩ : ∃ n', nn = n' + 1 := ⟨nn - 1, by omega⟩
    have eV : a = V := eV
    subst eV
    have hj : j = N := by omega
    subst hj
    have z := hR I1 J f
    refine xrun_step fun K hK => ?_
    refine And.intro (fun _ => ?_) (fun z => absurd (Int32.le_refl _) z)
    refine And.intro (fun (u : ¬ v = -1) => ?_) (fun (u : v = -1) => ?_)
    · rw [if_neg u] at z
      rcases hv with e | ⟨k, hk, ek⟩
      · exact absurd e u
      subst ek
      have ik : (nI k).toNatClampNeg = k := nI_clamp (by omega)
      obtain ⟨y, y9⟩ := e95 V0 k hk
      have y' : I1 95 (nI k).toNatClampNeg = nI (a.2 k) := by rw [ik]; exact y
      rw [ik] at z
      refine And.intro (show vp_in (nI k) 4 from vp_in_nI (by omega) (by omega)) ?_
      refine And.intro (fun (t : ¬ I1 95 (nI k).toNatClampNeg = 0) => ?_) (fun (t : I1 95 (nI k).toNatClampNeg = 0) => ?_)
      · rw [y'] at t
        have p : 0 < a.2 k := by
          rcases Nat.eq_zero_or_pos (a.2 k) with e | p
          · exact absurd (by rw [e]; rfl) t
          · exact p
        have et : thI (a.2 k) = I1 95 (nI k).toNatClampNeg - nI 1 := by
          rw [y', nI_subI p (by omega)]
          exact if_neg (by omega)
        rw [et] at z
        refine And.intro (show vp_in (nI k) 4 from vp_in_nI (by omega) (by omega)) ?_
        exact z
      · rw [y'] at t
        have e0 : a.2 k = 0 := nI_inj (b := 0) t (by omega) (by omega)
        have et : thI (a.2 k) = nI 8 := if_pos e0
        rw [et] at z
        exact z
    · rw [if_pos u] at z
      exact z
  | succ m ih =>
    intro j nn J I1 a o8 o9 hj hnn f h69 e95 b1 b2 eV
    obtain ⟨nn, rfl⟩ : ∃ n', nn = n' + n + 1 + 1 := ⟨nn - (n + 2), by omega⟩
    have eV2 : foN (fun i => mlf (mrun Q L r bn (dgW (qT Q + 1) n (j + 1 + i)) n 0 w 0) (dgW (qT Q + 1) n (j + 1 + i))) m (mlf (mrun Q L r bn (dgW (qT Q + 1) n j) n 0 w 0) (dgW (qT Q + 1) n j) a) = V := by
      rw [← eV, Nat.add_comm m 1, foN_add]
      refine foN_cg m _ (fun i _ s => ?_)
      rw [show j + 1 + i = j + (1 + i) by omega]
    have re1 : RE I1 Q L := h.kr f
    have e68 : I1 68 0 = nI (qT Q) := re1.1.1.1
    have sb := mrun_le (L := L) (bn := bn) h.1.2 hr (g := dgW (qT Q + 1) n j) n 0 w 0
    generalize eS : mrun Q L r bn (dgW (qT Q + 1) n j) n 0 w 0 = S at sb eV2
    have lt := jI_lt (m := a.1) (v := S) b1 (by omega) (by omega)
    refine xrun_step fun K hK => ?_
    refine And.intro (fun z => absurd ((nle (by omega) (by omega)).mp (show nI N ≤ nI j from z)) (by omega)) (fun _ => ?_)
    refine rx_laysCuts l (d + 13) ru ta rs I1 J _ (qT Q) n j t8 h1 hn (by omega) e68 (fun I2 f2 e2 e2' => ?_)
    have fr2 : FR I1 I2 := ⟨fun q _ _ c _ => f2 q c, fun rg => ⟨fun k => by rw [f2 68 (by decide)]; exact rg.1 k, fun k => by rw [f2 93 (by decide)]; exact rg.2 k⟩, fun r9 p => by
      by_cases c : p < n
      · rw [e2 p c]
        have := dgW_lt (B := qT Q + 1) (n := n) (j := j) (Nat.succ_pos _) c
        exact inI8 (by omega)
      · rw [e2' p (by omega)]
        exact r9 p⟩
    have hl2 : wLay I2 = w := by
      rw [← hl]
      funext k
      unfold wLay
      by_cases c : k < 69
      · rw [if_pos c, if_pos c, f2 68 (by decide), f.1 68 (by decide) (by decide) (by decide) (by decide)]
      · rw [if_neg c, if_neg c, f2 93 (by decide), h69 k (by omega), ← hl]
        unfold wLay
        rw [if_neg c]
    refine rx_bb l d ru ta rs I2 J _ Q L (re1.kr fr2) r bn n hr hb hn (dgW (qT Q + 1) n j) (fun p hp => dgW_lt (Nat.succ_pos _) hp) e2 (by rw [hl2]; exact hw) (fun I3 J3 f3 w3 e3 => ?_)
    rw [hl2] at e3 ⊢
    rw [eS]
    have fr3 : FR I I3 := (f.tr fr2).tr (FR.q (FQ.w f3 w3))
    have e95' : ∀ p, I3 95 p = I1 95 p := fun p => by rw [f3 95 (by decide) (by decide), f2 95 (by decide)]
    refine And.intro (fun (z : nI S ≤ jI a.1) => ?_) (fun (z : ¬ nI S ≤ jI a.1) => ?_)
    · rw [lt.2] at z
      have ea : mlf S (dgW (qT Q + 1) n j) a = a := if_neg (by omega)
      rw [ea] at eV2
      refine hK 76 [some (.ref 67), some (.int (nI r)), some (.int (nI bn)), some (.int (nI n)), some (.int v), some (.int (nI N)), some (.int (jI a.1)), some (.int (nI j + 1)), some (.int (nI S)), o9] [] (shH ru ta rs) I3 J3 0 0 ?_
      rw [nI_1]
      exact ih (j + 1) (nn + n + 1) J3 I3 a _ _ (by omega) (by omega) fr3 e3 (fun q p hp => by rw [e95']; exact e95 q p hp) b1 b2 eV2
    · rw [lt.2] at z
      have ea : mlf S (dgW (qT Q + 1) n j) a = ((S : Int), dgW (qT Q + 1) n j) := if_pos (by omega)
      rw [ea] at eV2
      refine hK 113 [some (.ref 67), some (.int (nI r)), some (.int (nI bn)), some (.int (nI n)), some (.int v), some (.int (nI N)), some (.int (nI S)), some (.int (nI j)), some (.int (nI S)), some (.int (nI 0))] [] (shH ru ta rs) I3 J3 0 0 ?_
      refine md_mo_copy l d ru ta rs J3 Rp r bn n v (nI S) N j nn hn (nI S) I3 (fun o9 I4 f4 e4 => ?_) n 0 I3 (by omega) (fun _ _ => rfl) (fun p hp => absurd hp (Nat.not_lt_zero p))
      have fr4 : FR I3 I4 := ⟨fun q _ _ _ b => f4 q b, fun rg => ⟨fun k => by rw [f4 68 (by decide)]; exact rg.1 k, fun k => by rw [f4 93 (by decide)]; exact rg.2 k⟩, fun r9 p => by rw [f4 94 (by decide)]; exact r9 p⟩
      rw [← jI_nat]
      exact ih (j + 1) nn J3 I4 ((S : Int), dgW (qT Q + 1) n j) _ _ (by omega) (by omega) (fr3.tr fr4) (fun k hk => by rw [f4 93 (by decide)]; exact e3 k hk) (fun _ p hp => by
        have y := dgW_lt (B := qT Q + 1) (n := n) (j := j) (Nat.succ_pos _) hp
        exact ⟨by rw [e4 p hp, f3 94 (by decide) (by decide)]; exact e2 p hp, by show dgW (qT Q + 1) n j p < 9; omega⟩) (by show (-1 : Int) ≤ (S : Int); omega) (by show (S : Int) < 1000; omega) eV2
set_option maxRecDepth 100000 in
set_option maxHeartbeats 2000000 in
/-- how many ways -/
theorem md_mo_ways (l : Launch) (d : Nat) (ru ta : Nat) (rs : List XO) (I : XI) (J : XJ) (Rp : XR) (T r bn n : Nat) (hT : T ≤ 8) (hn : n ≤ 4) (e68 : I 68 0 = nI T) (v : Int32) (n0 : Nat) (H : xrun xxX12 (some .int) false false (shH ru ta rs).length 0 0 none l (d + 14) tX12_most [45, 76, 113] Rp n0 76 [some (.ref 67), some (.int (nI r)), some (.int (nI bn)), some (.int (nI n)), some (.int v), some (.int (nI ((T + 1) ^ n))), some (.int (-1)), some (.int (nI 0)), none, none] [] (shH ru ta rs) I J 0 0) : ∀ (m k : Nat), k + m = n → xrun xxX12 (some .int) false false (shH ru ta rs).length 0 0 none l (d + 14) tX12_most [45, 76, 113] Rp (n0 + m + 1) 45 [some (.ref 67), some (.int (nI r)), some (.int (nI bn)), some (.int (nI n)), some (.int v), some (.int (nI ((T + 1) ^ k))), some (.int (nI k)), none, none, none] [] (shH ru ta rs) I J 0 0 := by
  intro m
  induction m with
  | zero =>
    intro k hk
    have hk : k = n := by omega
    subst hk
    refine xrun_step fun K hK => ?_
    refine And.intro (fun _ => ?_) (fun z => absurd (Int32.le_refl _) z)
    exact hK 76 [some (.ref 67), some (.int (nI r)), some (.int (nI bn)), some (.int (nI k)), some (.int v), some (.int (nI ((T + 1) ^ k))), some (.int (-1)), some (.int (nI 0)), none, none] [] (shH ru ta rs) I J 0 0 H
  | succ m ih =>
    intro k hk
    refine xrun_step fun K hK => ?_
    refine And.intro (fun z => absurd ((nle (by omega) (by omega)).mp (show nI n ≤ nI k from z)) (by omega)) (fun _ => ?_)
    refine And.intro (show vp_in (nI 0) 2200 from vp_b (by decide)) ?_
    refine hK 45 [some (.ref 67), some (.int (nI r)), some (.int (nI bn)), some (.int (nI n)), some (.int v), some (.int (nI ((T + 1) ^ k) * (I 68 0 + nI 1))), some (.int (nI k + 1)), none, none, none] [] (shH ru ta rs) I J 0 0 ?_
    rw [e68, nI_add, nI_mul, ← Nat.pow_succ, nI_1]
    exact ih (k + 1) (by omega)
theorem pow9 {T n : Nat} (hT : T ≤ 8) (hn : n ≤ 4) : (T + 1) ^ n < 100000 := by
  have a : (T + 1) ^ n ≤ 9 ^ n := Nat.pow_le_pow_left (by omega) n
  have b : 9 ^ n ≤ 9 ^ 4 := Nat.pow_le_pow_right (by decide) hn
  have c : 9 ^ 4 < 100000 := by decide
  omega
set_option maxRecDepth 100000 in
set_option maxHeartbeats 4000000 in
theorem md_most (l : Launch) (d : Nat) (ru ta : Nat) (rs : List XO) (I : XI) (J : XJ) (Rp : XR) (L : Lws) (A : Ast) (hA : AOK A) (h : MA I L A) (x y z v : Int32) (hR : ∀ (I' : XI) (J' : XJ), FR I I' → Rp (some (.int (moS L A x y z v))) (shH ru ta rs) I' J') : xm l (d + 15) 0 0 mX12_most [.ref 67, .int x, .int y, .int z, .int v] (shH ru ta rs) I J Rp := by
  have h0 := h
  obtain ⟨hre, hlay, hs⟩ := h
  have t8 := hA.1.1
  have r4 := hA.1.2.1
  have b4 := hA.1.2.2.1
  have eT : I 68 0 = nI (qT (oQ A)) := hre.1.1.1
  have eR : I 68 1 = nI (qR (oQ A)) := hre.1.1.2.1
  have eB : I 68 2 = nI (qB (oQ A)) := hre.1.1.2.2.1
  have none_ : (vIn x (qR (oQ A)) && vIn y (qB (oQ A)) && rIn z 1 4 && decide (-1 ≤ v ∧ v ≤ z - nI 1)) = false → Rp (some (.int (-1))) (shH ru ta rs) I J := fun e => by
    have z := hR I J FR.rf
    unfold moS at z
    rw [e] at z
    exact z
  refine xm_ofK 60000 (X := xxX12) (t := tX12_most) (stop := [45, 76, 113]) (ini := false) xx12 pl12 rfl kX12_most (fun h => by cases h) (Nat.le_of_ble_eq_true rfl) (fun K hK => ?_)
  refine md_isR l (d + 12) ru ta rs I J _ _ eR (by omega) x (fun hx => ?_) (fun hx => ?_)
  · refine And.intro (fun z => absurd (show (1 : Int32) = 0 from z) (by decide)) (fun _ => ?_)
    refine md_isB l (d + 12) ru ta rs I J _ _ eB (by omega) y (fun hy => ?_) (fun hy => ?_)
    · refine And.intro (fun z => absurd (show (1 : Int32) = 0 from z) (by decide)) (fun _ => ?_)
      refine md_inR l (d + 13) z 1 4 _ _ _ _ (fun hz => ?_) (fun hz => ?_)
      · refine And.intro (fun z => absurd (show (1 : Int32) = 0 from z) (by decide)) (fun _ => ?_)
        refine md_in l (d + 13) v (-1) (z - nI 1) _ _ _ _ (fun hv => ?_) (fun hv => ?_)
        · refine And.intro (fun _ => ?_) (fun z => absurd (show (1 : Int32) = 0 from z) (by decide))
          obtain ⟨r, hr, ex, ex2⟩ := vIn_t (by omega) hx
          obtain ⟨bn, hb, ey, ey2⟩ := vIn_t (by omega) hy
          obtain ⟨n, n1, n4, ez, ez2⟩ := rIn_t (by omega) (by omega) hz
          have eS : moS L A x y z v = (if v = -1 then jI (moA (oQ A) L (oW A) r bn n).1 else thI ((moA (oQ A) L (oW A) r bn n).2 v.toNatClampNeg)) := by
            unfold moS
            rw [hx, hy, hz, decide_eq_true hv, ex2, ey2, ez2]
            rfl
          rw [eS] at hR
          rw [ez, nI_subI n1 (by omega)] at hv
          have hv2 : v = -1 ∨ ∃ k, k < n ∧ v = nI k := by
            by_cases u : v = -1
            · exact Or.inl u
            · obtain ⟨k, hk, ev, _⟩ := v_n (show n - 1 < 100 by omega) hv.1 hv.2 u
              exact Or.inr ⟨k, by omega, ev⟩
          subst ex ey ez
          have lp := md_mo_loop l d ru ta rs I Rp (oQ A) L hre (oW A) hlay hA.2.1 r bn n hr hb n1 n4 v hv2 ((qT (oQ A) + 1) ^ n) (pow9 t8 n4) _ (moA_0 (oQ A) L (oW A) r bn n) hR ((qT (oQ A) + 1) ^ n) 0 (60000 - n - 1) J I (-1, fun _ => 0) none none (Nat.zero_add _) (by
            have a : (qT (oQ A) + 1) ^ n ≤ 9 ^ n := Nat.pow_le_pow_left (by omega) n
            have b : 9 ^ n ≤ 9 ^ 4 := Nat.pow_le_pow_right (by decide) n4
            have c : 9 ^ 4 = 6561 := by decide
            omega) FR.rf (fun k hk => by rw [← hlay]; unfold wLay; rw [if_neg (by omega)]) (fun q => absurd q (by decide)) (by decide) (by decide) (by
            rw [moA_num]
            refine foN_cg _ _ (fun i _ s => ?_)
            rw [Nat.zero_add])
          have wy := md_mo_ways l d ru ta rs I J Rp (qT (oQ A)) r bn n t8 n4 eT v (60000 - n - 1) lp n 0 (Nat.zero_add _)
          rw [show 60000 - n - 1 + n + 1 = 60000 by omega] at wy
          exact hK 45 [some (.ref 67), some (.int (nI r)), some (.int (nI bn)), some (.int (nI n)), some (.int v), some (.int (nI 1)), some (.int (nI 0)), none, none, none] [] (shH ru ta rs) I J 0 0 wy
        · refine And.intro (fun z => absurd rfl z) (fun _ => ?_)
          exact none_ (by rw [decide_eq_false hv]; exact Bool.and_false _)
      · refine And.intro (fun _ => ?_) (fun z => absurd rfl z)
        exact none_ (by rw [hz, Bool.and_false]; rfl)
    · refine And.intro (fun _ => ?_) (fun z => absurd rfl z)
      exact none_ (by rw [hy, Bool.and_false]; rfl)
  · refine And.intro (fun _ => ?_) (fun z => absurd rfl z)
    exact none_ (by rw [hx]; rfl)
-- what both leave
theorem cell_94 (k : Nat) : cellI CF 94 k = (0, 8) := by
  unfold cellI
  split
  · rename_i q e
    exfalso
    have hm := List.mem_of_find?_eq_some e
    have hq := List.find?_some e
    simp only [Bool.and_eq_true] at hq
    have e1 := Nat.eq_of_beq_eq_true hq.1
    have y : ∀ q, q ∈ CFc → Nat.beq q.1 94 = false := by decide +kernel
    have z := y q hm
    rw [e1] at z
    cases z
  · split
    · rename_i r e
      have y := xlk_mem e
      have z : ∀ q, q ∈ CFr → q.1 = 94 → q.2 = ((0 : Int), (8 : Int)) := by decide +kernel
      exact z _ y rfl
    · rename_i e
      exact absurd e (by decide)
theorem frC_all : ∀ p, p = 24 ∨ p = 29 ∨ p = 36 ∨ p = 37 ∨ p = 38 ∨ p = 39 ∨ p = 91 ∨ p = 95 → ∀ j, cellI CF p j = fr := by
  intro p hp j
  rcases hp with rfl | rfl | rfl | rfl | rfl | rfl | rfl | rfl
  all_goals exact cell_frC (by decide +kernel) (by decide +kernel)
theorem lin2.srcm {I I1 I2 : XI} {TX : Nat → Txt} {H Hi : Hlf} {ta : Nat} {rs : List XO} (hta : ta ∈ txP) (hi : ivO CF [] I) (hq : QQ I) (hg : GRx I TX H Hi) (tp : TPr I) (fl : FLr I) (f1 : FM I I1) (f2 : FR I1 I2) : lin2 (shH (ruO (hvR H)) ta rs) I2 := by
  have k : ∀ q, q ≠ 24 → q ≠ 29 → (q < 36 ∨ 39 < q) → q ≠ 91 → q ≠ 93 → q ≠ 94 → q ≠ 95 → I2 q = I q := fun q a b c d e g h => (f2.1 q d e g h).trans (f1 q a b c)
  have g1 : ∀ q, 39 < q → I1 q = I q := fun q hq => f1 q (by omega) (by omega) (by omega)
  have rg : RG I1 := ⟨fun j => by rw [g1 68 (by decide)]; exact hi 68 j rfl, fun j => by rw [g1 93 (by decide)]; exact hi 93 j rfl⟩
  have r9 : ∀ p, inI (0, 8) (I1 94 p).toInt := fun p => by
    have y := hi 94 p rfl
    rw [cell_94 p] at y
    rw [g1 94 (by decide)]
    exact y
  refine lin2.ask hta hg tp fl (P1 := [24, 29, 36, 37, 38, 39]) (P2 := [91, 93, 94, 95]) (I1 := I1) (I2 := I2) (fun q hq => ?_) (fun q hq => ?_) (by decide) (by decide) (fun p j hp => ?_) (qq_keep hq (k 71 (by decide) (by decide) (by decide) (by decide) (by decide) (by decide) (by decide)) (k 72 (by decide) (by decide) (by decide) (by decide) (by decide) (by decide) (by decide)) (k 73 (by decide) (by decide) (by decide) (by decide) (by decide) (by decide) (by decide)) (k 77 (by decide) (by decide) (by decide) (by decide) (by decide) (by decide) (by decide)) (k 78 (by decide) (by decide) (by decide) (by decide) (by decide) (by decide) (by decide)))
  · have n24 : q ≠ 24 := fun e => by subst e; exact absurd hq (by decide)
    have n29 : q ≠ 29 := fun e => by subst e; exact absurd hq (by decide)
    have n36 : q ≠ 36 := fun e => by subst e; exact absurd hq (by decide)
    have n37 : q ≠ 37 := fun e => by subst e; exact absurd hq (by decide)
    have n38 : q ≠ 38 := fun e => by subst e; exact absurd hq (by decide)
    have n39 : q ≠ 39 := fun e => by subst e; exact absurd hq (by decide)
    exact f1 q n24 n29 (by omega)
  · exact f2.1 q (fun e => by subst e; exact absurd hq (by decide)) (fun e => by subst e; exact absurd hq (by decide)) (fun e => by subst e; exact absurd hq (by decide)) (fun e => by subst e; exact absurd hq (by decide))
  · by_cases e93 : p = 93
    · subst e93
      exact (f2.2.1 rg).2 j
    by_cases e94 : p = 94
    · subst e94
      rw [cell_94 j]
      exact f2.2.2 r9 j
    by_cases c : p = 24 ∨ p = 29 ∨ p = 36 ∨ p = 37 ∨ p = 38 ∨ p = 39 ∨ p = 91 ∨ p = 95
    · rw [frC_all p c j]
      exact inI_fr _
    · rw [k p (by omega) (by omega) (by omega) (by omega) e93 e94 (by omega)]
      exact hi p j rfl
theorem MA.fm {I I1 : XI} {L : Lws} {A : Ast} (h : MA I L A) (f : FM I I1) : MA I1 L A := by
  have g : ∀ q, 39 < q → I1 q = I q := fun q hq => f q (by omega) (by omega) (by omega)
  have e := g 68 (by decide)
  refine ⟨⟨⟨h.1.1.1.keep e, h.1.1.2⟩, h.1.2.keep (congrFun e 4) (g 71 (by decide)) (g 72 (by decide)) (g 73 (by decide)) (g 77 (by decide)) (g 78 (by decide))⟩, ?_, h.2.2.c (congrFun e 5) (fun j _ _ => congrFun e j)⟩
  rw [← h.2.1]
  exact wLay_cg (fun j _ _ => congrFun e j) (g 93 (by decide))

