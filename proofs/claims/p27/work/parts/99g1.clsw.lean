-- ===== the guess: 99g1.clsw =====
set_option maxRecDepth 100000 in
theorem cwg_hasBale (l : Launch) (d : Nat) (ru ta : Nat) (rs : List XO) (I : XI) (J : XJ) (Rp : XR) (T : Nat) (w : Rw) (hr : RC T w (I 29)) (hw : WR w) (x : Int32) (h1 : ∀ b, b < 12 → x = nI b → 0 < w (28 + b) → Rp (some (.int 1)) (shH ru ta rs) I J) (h0 : (∀ b, b < 12 → x = nI b → ¬ 0 < w (28 + b)) → Rp (some (.int 0)) (shH ru ta rs) I J) : xm l (d + 1) 0 0 mX10_hasBale [.ref 28, .int x] (shH ru ta rs) I J Rp := by
  refine xm_ofK 0 (X := xxX10) (t := tX10_hasBale) (stop := []) (ini := false) xx10 pl10 rfl kX10_hasBale (fun h => by cases h) (Nat.le_of_ble_eq_true rfl) (fun K hK => ?_)
  refine And.intro (fun (z : x < 0) => ?_) (fun (z : ¬ x < 0) => ?_)
  · refine And.intro (Or.inl rfl) (h0 (fun b hb e => ?_))
    rw [e] at z
    exact absurd z (nI_nn (by omega))
  · obtain ⟨n, e, hn⟩ := nn_of z
    subst e
    refine And.intro (fun (y : nI 12 ≤ nI n) => ?_) (fun (y : ¬ nI 12 ≤ nI n) => ?_)
    · have := (nle (by omega) (by omega)).mp y
      refine And.intro (Or.inl rfl) (h0 (fun b hb e => ?_))
      have := nI_inj e (by omega) (by omega)
      omega
    · have y2 : n < 12 := by
        rcases Nat.lt_or_ge n 12 with c | c
        · exact c
        · exact absurd ((nle (by omega) (by omega)).mpr c) y
      have ix : (nI 28 + nI n).toNatClampNeg = 28 + n := ix_c (by omega)
      refine And.intro (show vp_in (nI 28 + nI n) 69 from vx_2 (by omega) (by omega)) ?_
      refine And.intro (fun (v : I 29 (nI 28 + nI n).toNatClampNeg ≤ 0) => ?_) (fun (v : ¬ I 29 (nI 28 + nI n).toNatClampNeg ≤ 0) => ?_)
      · rw [ix, hr.len y2] at v
        refine And.intro (Or.inl rfl) (h0 (fun b hb e => ?_))
        have := nI_inj e (by omega) (by omega)
        subst this
        exact Int32.not_lt.mpr v
      · rw [ix, hr.len y2] at v
        exact And.intro (Or.inr rfl) (h1 n y2 rfl (Int32.not_le.mp v))
set_option maxRecDepth 100000 in
set_option maxHeartbeats 4000000 in
theorem cwg_feetIn_loop (l : Launch) (d : Nat) (ru ta : Nat) (rs : List XO) (I : XI) (J : XJ) (Rp : XR) (T : Nat) (w : Rw) (hr : RC T w (I 29)) (hw : WR w) (bn : Int32) (hbn : ¬ bn = -1) (hR : Rp (some (.int (feR w bn 12))) (shH ru ta rs) I J) : ∀ (m k n : Nat), k + m = 12 → m < n → xrun xxX10 (some .int) false false (shH ru ta rs).length 0 0 none l d tX10_feetIn [4] Rp n 4 [some (.ref 28), some (.int bn), some (.int (feR w bn k)), some (.int (nI k))] [] (shH ru ta rs) I J 0 0 := by
  intro m
  induction m with
  | zero =>
    intro k n hk hn
    obtain ⟨n, rfl⟩ : ∃ n', n = n' + 1 := ⟨n - 1, by omega⟩
    have hk : k = 12 := by omega
    refine xrun_step fun K hK => ?_
    refine And.intro (fun _ => ?_) (fun z => absurd (show nI 12 ≤ nI k from by subst hk; exact Int32.le_refl _) z)
    subst hk
    exact hR
  | succ m ih =>
    intro k n hk hn
    obtain ⟨n, rfl⟩ : ∃ n', n = n' + 1 := ⟨n - 1, by omega⟩
    have ix0 : ((nI 52) + (nI k)).toNatClampNeg = 52 + k := by rw [show (nI 52) + (nI k) = nI (52 + k) by simp only [nI_add, nI_mul, Nat.zero_add]]; exact nI_clamp (by omega)
    have ix1 : ((nI 28) + (nI k)).toNatClampNeg = 28 + k := by rw [show (nI 28) + (nI k) = nI (28 + k) by simp only [nI_add, nI_mul, Nat.zero_add]]; exact nI_clamp (by omega)
    refine xrun_step fun K hK => ?_
    refine And.intro (fun z => absurd (show nI 12 ≤ nI k from z) (nI_ge (by omega) (by omega))) (fun _ => ?_)
    refine And.intro (fun z => absurd (show bn = (-1) from z) (hbn)) (fun _ => ?_)
    refine And.intro (show vp_in ((nI 52) + (nI k)) 69 from vx_2 (by omega) (by omega)) ?_
    refine And.intro (fun (h25 : ¬ (I 29 ((nI 52) + (nI k)).toNatClampNeg = bn)) => ?_) (fun (h25 : I 29 ((nI 52) + (nI k)).toNatClampNeg = bn) => ?_)
    · replace h25 : ¬ (I 29 (52 + k) = bn) := by simpa only [ix0, ix1, uI_rd] using h25
      refine hK 4 [some (.ref 28), some (.int bn), some (.int (feR w bn k)), some (.int ((nI k) + 1))] [] (shH ru ta rs) I J 0 0 ?_
      have e := feC_step hr hw bn (show k < 12 by omega)
      rw [if_neg h25] at e
      rw [nI_1, e]
      exact ih (k + 1) n (by omega) (by omega)
    · replace h25 : I 29 (52 + k) = bn := by simpa only [ix0, ix1, uI_rd] using h25
      refine And.intro (show vp_in ((nI 28) + (nI k)) 69 from vx_2 (by omega) (by omega)) ?_
      refine hK 4 [some (.ref 28), some (.int bn), some (.int ((feR w bn k) + (I 29 ((nI 28) + (nI k)).toNatClampNeg))), some (.int ((nI k) + 1))] [] (shH ru ta rs) I J 0 0 ?_
      simp only [ix0, ix1, uI_rd]
      have e := feC_step hr hw bn (show k < 12 by omega)
      rw [if_pos h25] at e
      rw [nI_1, e]
      exact ih (k + 1) n (by omega) (by omega)
set_option maxRecDepth 100000 in
theorem cwg_feetIn (l : Launch) (d : Nat) (ru ta : Nat) (rs : List XO) (I : XI) (J : XJ) (Rp : XR) (T : Nat) (w : Rw) (hr : RC T w (I 29)) (hw : WR w) (bn : Int32) (hbn : ¬ bn = -1) (hR : Rp (some (.int (feR w bn 12))) (shH ru ta rs) I J) : xm l (d + 1) 0 0 mX10_feetIn [.ref 28, .int bn] (shH ru ta rs) I J Rp := by
  refine xm_ofK 14 (X := xxX10) (t := tX10_feetIn) (stop := [4]) (ini := false) xx10 pl10 rfl kX10_feetIn (fun h => by cases h) (Nat.le_of_ble_eq_true rfl) (fun K hK => ?_)
  exact hK 4 [some (.ref 28), some (.int bn), some (.int (nI 0)), some (.int (nI 0))] [] _ _ _ _ _ (cwg_feetIn_loop l d ru ta rs I J Rp T w hr hw bn hbn hR 12 0 14 (by omega) (by omega))
set_option maxRecDepth 100000 in
set_option maxHeartbeats 4000000 in
theorem cwg_feetAll_loop (l : Launch) (d : Nat) (ru ta : Nat) (rs : List XO) (I : XI) (J : XJ) (Rp : XR) (T : Nat) (w : Rw) (hr : RC T w (I 29)) (hw : WR w) (hR : Rp (some (.int (faR w 12))) (shH ru ta rs) I J) : ∀ (m k n : Nat), k + m = 12 → m < n → xrun xxX10 (some .int) false false (shH ru ta rs).length 0 0 none l d tX10_feetIn [4] Rp n 4 [some (.ref 28), some (.int (-1 : Int32)), some (.int (faR w k)), some (.int (nI k))] [] (shH ru ta rs) I J 0 0 := by
  intro m
  induction m with
  | zero =>
    intro k n hk hn
    obtain ⟨n, rfl⟩ : ∃ n', n = n' + 1 := ⟨n - 1, by omega⟩
    have hk : k = 12 := by omega
    refine xrun_step fun K hK => ?_
    refine And.intro (fun _ => ?_) (fun z => absurd (show nI 12 ≤ nI k from by subst hk; exact Int32.le_refl _) z)
    subst hk
    exact hR
  | succ m ih =>
    intro k n hk hn
    obtain ⟨n, rfl⟩ : ∃ n', n = n' + 1 := ⟨n - 1, by omega⟩
    have ix0 : ((nI 28) + (nI k)).toNatClampNeg = 28 + k := by rw [show (nI 28) + (nI k) = nI (28 + k) by simp only [nI_add, nI_mul, Nat.zero_add]]; exact nI_clamp (by omega)
    refine xrun_step fun K hK => ?_
    refine And.intro (fun z => absurd (show nI 12 ≤ nI k from z) (nI_ge (by omega) (by omega))) (fun _ => ?_)
    refine And.intro (fun _ => ?_) (fun z => absurd (show (-1 : Int32) = (-1) from rfl) z)
    refine And.intro (show vp_in ((nI 28) + (nI k)) 69 from vx_2 (by omega) (by omega)) ?_
    refine hK 4 [some (.ref 28), some (.int (-1 : Int32)), some (.int ((faR w k) + (I 29 ((nI 28) + (nI k)).toNatClampNeg))), some (.int ((nI k) + 1))] [] (shH ru ta rs) I J 0 0 ?_
    simp only [ix0, uI_rd]
    rw [nI_1, hr.len (by omega)]
    exact ih (k + 1) n (by omega) (by omega)
set_option maxRecDepth 100000 in
theorem cwg_feetAll (l : Launch) (d : Nat) (ru ta : Nat) (rs : List XO) (I : XI) (J : XJ) (Rp : XR) (T : Nat) (w : Rw) (hr : RC T w (I 29)) (hw : WR w) (hR : Rp (some (.int (faR w 12))) (shH ru ta rs) I J) : xm l (d + 1) 0 0 mX10_feetIn [.ref 28, .int (-1 : Int32)] (shH ru ta rs) I J Rp := by
  refine xm_ofK 14 (X := xxX10) (t := tX10_feetIn) (stop := [4]) (ini := false) xx10 pl10 rfl kX10_feetIn (fun h => by cases h) (Nat.le_of_ble_eq_true rfl) (fun K hK => ?_)
  exact hK 4 [some (.ref 28), some (.int (-1 : Int32)), some (.int (nI 0)), some (.int (nI 0))] [] _ _ _ _ _ (cwg_feetAll_loop l d ru ta rs I J Rp T w hr hw hR 12 0 14 (by omega) (by omega))
set_option maxRecDepth 100000 in
set_option maxHeartbeats 4000000 in
theorem cwg_balesIn_loop (l : Launch) (d : Nat) (ru ta : Nat) (rs : List XO) (I : XI) (J : XJ) (Rp : XR) (T : Nat) (w : Rw) (hr : RC T w (I 29)) (hw : WR w) (y : Int32) (c : Nat) (hc : c < 69) (h67 : c ≠ 67) (ey : y = w c) (hR : Rp (some (.int (nI (blN (nW w) (nW w c) 12)))) (shH ru ta rs) I J) : ∀ (m k n : Nat), k + m = 12 → m < n → xrun xxX10 (some .int) false false (shH ru ta rs).length 0 0 none l d tX10_balesIn [4] Rp n 4 [some (.ref 28), some (.int y), some (.int (nI (blN (nW w) (nW w c) k))), some (.int (nI k))] [] (shH ru ta rs) I J 0 0 := by
  intro m
  induction m with
  | zero =>
    intro k n hk hn
    obtain ⟨n, rfl⟩ : ∃ n', n = n' + 1 := ⟨n - 1, by omega⟩
    have hk : k = 12 := by omega
    refine xrun_step fun K hK => ?_
    refine And.intro (fun _ => ?_) (fun z => absurd (show nI 12 ≤ nI k from by subst hk; exact Int32.le_refl _) z)
    subst hk
    exact hR
  | succ m ih =>
    intro k n hk hn
    obtain ⟨n, rfl⟩ : ∃ n', n = n' + 1 := ⟨n - 1, by omega⟩
    have ix0 : ((nI 28) + (nI k)).toNatClampNeg = 28 + k := by rw [show (nI 28) + (nI k) = nI (28 + k) by simp only [nI_add, nI_mul, Nat.zero_add]]; exact nI_clamp (by omega)
    have ix1 : ((nI 52) + (nI k)).toNatClampNeg = 52 + k := by rw [show (nI 52) + (nI k) = nI (52 + k) by simp only [nI_add, nI_mul, Nat.zero_add]]; exact nI_clamp (by omega)
    refine xrun_step fun K hK => ?_
    refine And.intro (fun z => absurd (show nI 12 ≤ nI k from z) (nI_ge (by omega) (by omega))) (fun _ => ?_)
    refine And.intro (show vp_in ((nI 28) + (nI k)) 69 from vx_2 (by omega) (by omega)) ?_
    refine And.intro (fun (h19 : I 29 ((nI 28) + (nI k)).toNatClampNeg ≤ 0) => ?_) (fun (h19 : ¬ (I 29 ((nI 28) + (nI k)).toNatClampNeg ≤ 0)) => ?_)
    · replace h19 : I 29 (28 + k) ≤ 0 := by simpa only [ix0, ix1, uI_rd] using h19
      rw [hr.len (by omega)] at h19
      replace h19 : ¬ 0 < w (28 + k) := Int32.not_lt.mpr h19
      refine hK 4 [some (.ref 28), some (.int y), some (.int (nI (blN (nW w) (nW w c) k))), some (.int ((nI k) + 1))] [] (shH ru ta rs) I J 0 0 ?_
      have e : blN (nW w) (nW w c) (k + 1) = blN (nW w) (nW w c) k + 0 := by
        show blN (nW w) (nW w c) k + (if 0 < nW w (28 + k) ∧ nW w (52 + k) = nW w c then 1 else 0) = _
        rw [if_neg (fun z => h19 ((nW_pos hw (by omega) (by omega)).mpr z.1))]
      rw [nI_1, show blN (nW w) (nW w c) k = blN (nW w) (nW w c) (k + 1) from by rw [e, Nat.add_zero]]
      exact ih (k + 1) n (by omega) (by omega)
    · replace h19 : ¬ (I 29 (28 + k) ≤ 0) := by simpa only [ix0, ix1, uI_rd] using h19
      rw [hr.len (by omega)] at h19
      replace h19 : 0 < w (28 + k) := Int32.not_le.mp h19
      refine And.intro (show vp_in ((nI 52) + (nI k)) 69 from vx_2 (by omega) (by omega)) ?_
      refine And.intro (fun (h32 : ¬ (I 29 ((nI 52) + (nI k)).toNatClampNeg = y)) => ?_) (fun (h32 : I 29 ((nI 52) + (nI k)).toNatClampNeg = y) => ?_)
      · replace h32 : ¬ (I 29 (52 + k) = y) := by simpa only [ix0, ix1, uI_rd] using h32
        rw [((hr.2.2.1 k (by omega)).2 h19).2.2, ey] at h32
        refine hK 4 [some (.ref 28), some (.int y), some (.int (nI (blN (nW w) (nW w c) k))), some (.int ((nI k) + 1))] [] (shH ru ta rs) I J 0 0 ?_
        have e : blN (nW w) (nW w c) (k + 1) = blN (nW w) (nW w c) k + 0 := by
          show blN (nW w) (nW w c) k + (if 0 < nW w (28 + k) ∧ nW w (52 + k) = nW w c then 1 else 0) = _
          rw [if_neg (fun z => h32 ((nW_eq hw (by omega) (by omega) hc h67).mpr z.2))]
        rw [nI_1, show blN (nW w) (nW w c) k = blN (nW w) (nW w c) (k + 1) from by rw [e, Nat.add_zero]]
        exact ih (k + 1) n (by omega) (by omega)
      · replace h32 : I 29 (52 + k) = y := by simpa only [ix0, ix1, uI_rd] using h32
        rw [((hr.2.2.1 k (by omega)).2 h19).2.2, ey] at h32
        refine hK 4 [some (.ref 28), some (.int y), some (.int ((nI (blN (nW w) (nW w c) k)) + 1)), some (.int ((nI k) + 1))] [] (shH ru ta rs) I J 0 0 ?_
        have e : blN (nW w) (nW w c) (k + 1) = blN (nW w) (nW w c) k + 1 := by
          show blN (nW w) (nW w c) k + (if 0 < nW w (28 + k) ∧ nW w (52 + k) = nW w c then 1 else 0) = _
          rw [if_pos ⟨(nW_pos hw (by omega) (by omega)).mp h19, (nW_eq hw (by omega) (by omega) hc h67).mp h32⟩]
        rw [nI_1, nI_1, ← e]
        exact ih (k + 1) n (by omega) (by omega)
set_option maxRecDepth 100000 in
theorem cwg_balesIn (l : Launch) (d : Nat) (ru ta : Nat) (rs : List XO) (I : XI) (J : XJ) (Rp : XR) (T : Nat) (w : Rw) (hr : RC T w (I 29)) (hw : WR w) (y : Int32) (c : Nat) (hc : c < 69) (h67 : c ≠ 67) (ey : y = w c) (hR : Rp (some (.int (nI (blN (nW w) (nW w c) 12)))) (shH ru ta rs) I J) : xm l (d + 1) 0 0 mX10_balesIn [.ref 28, .int y] (shH ru ta rs) I J Rp := by
  refine xm_ofK 14 (X := xxX10) (t := tX10_balesIn) (stop := [4]) (ini := false) xx10 pl10 rfl kX10_balesIn (fun h => by cases h) (Nat.le_of_ble_eq_true rfl) (fun K hK => ?_)
  exact hK 4 [some (.ref 28), some (.int y), some (.int (nI 0)), some (.int (nI 0))] [] _ _ _ _ _ (cwg_balesIn_loop l d ru ta rs I J Rp T w hr hw y c hc h67 ey hR 12 0 14 (by omega) (by omega))
set_option maxRecDepth 100000 in
theorem cwg_grows (l : Launch) (d : Nat) (ru ta : Nat) (rs : List XO) (I : XI) (J : XJ) (Rp : XR) (Q : Tld) (L : Lws) (h : CE I ru Q L) (w : Rw) (hr : RC (qT Q) w (I 29)) (hw : WR w) (t : Nat) (ht : t < qT Q) (hR : ∀ (I' : XI) (J' : XJ), (∀ q, q ≠ 24 → I' q = I q) → Rp (some (.int (nI (grR Q L w t)))) (shH ru ta rs) I' J') : xm l (d + 4) 0 0 mX10_growsOf [.ref 28, .int (nI t)] (shH ru ta rs) I J Rp := by
  have t8 := h.2.1.1
  have ix : (nI 0 + nI t).toNatClampNeg = t := by rw [nI_add, Nat.zero_add]; exact nI_clamp (by omega)
  refine xm_ofK 0 (X := xxX10) (t := tX10_growsOf) (stop := []) (ini := false) xx10 pl10 rfl kX10_growsOf (fun h => by cases h) (Nat.le_of_ble_eq_true rfl) (fun K hK => ?_)
  refine cc_hasThing l (d + 2) ru ta rs I J _ Q L h (nI t) (fun _ _ _ => ?_) (fun hn => absurd rfl (hn t ht))
  refine And.intro (fun z => absurd (show (1 : Int32) = 0 from z) (by decide)) (fun _ => ?_)
  refine And.intro (show vp_in (nI 0 + nI t) 69 from vx_2 (by omega) (by omega)) ?_
  refine And.intro (show vp_in (nI 65) 69 from vp_b (by decide)) ?_
  refine And.intro (show vp_in (nI 66) 69 from vp_b (by decide)) ?_
  refine cx_growthW l d ru ta rs I J _ Q L h w hw t ht (I 29 (nI 0 + nI t).toNatClampNeg) (I 29 65) (I 29 66) (by rw [ix]; exact hr.nt hw ht (by omega)) (hr.nk hw (by decide) (by decide)) (hr.nk hw (by decide) (by decide)) (fun I' J' f => ?_)
  exact hR I' J' f
set_option maxRecDepth 100000 in
theorem cwg_spoils (l : Launch) (d : Nat) (ru ta : Nat) (rs : List XO) (I : XI) (J : XJ) (Rp : XR) (Q : Tld) (L : Lws) (h : CE I ru Q L) (w : Rw) (hr : RC (qT Q) w (I 29)) (hw : WR w) (b : Nat) (hb : b < 12) (hR : ∀ (I' : XI) (J' : XJ), (∀ q, q ≠ 24 → I' q = I q) → Rp (some (.int (if 0 < w (28 + b) then nI (spR L w b) else nI 0))) (shH ru ta rs) I' J') : xm l (d + 4) 0 0 mX10_spoilsOf [.ref 28, .int (nI b)] (shH ru ta rs) I J Rp := by
  have i16 : (nI 16 + nI b).toNatClampNeg = 16 + b := ix_c (by omega)
  have i28 : (nI 28 + nI b).toNatClampNeg = 28 + b := ix_c (by omega)
  have i40 : (nI 40 + nI b).toNatClampNeg = 40 + b := ix_c (by omega)
  have i52 : (nI 52 + nI b).toNatClampNeg = 52 + b := ix_c (by omega)
  refine xm_ofK 0 (X := xxX10) (t := tX10_spoilsOf) (stop := []) (ini := false) xx10 pl10 rfl kX10_spoilsOf (fun h => by cases h) (Nat.le_of_ble_eq_true rfl) (fun K hK => ?_)
  refine cwg_hasBale l (d + 2) ru ta rs I J _ _ w hr hw (nI b) (fun b' hb' e hp => ?_) (fun hn => ?_)
  · have eb := nI_inj e (by omega) (by omega)
    subst eb
    rw [if_pos hp] at hR
    have q := (hr.2.2.1 b hb).2 hp
    refine And.intro (fun _ => ?_) (fun z => absurd (show (1 : Int32) = 0 from z) (by decide))
    refine And.intro (show vp_in (nI 16 + nI b) 69 from vx_2 (by omega) (by omega)) ?_
    refine And.intro (show vp_in (nI 28 + nI b) 69 from vx_2 (by omega) (by omega)) ?_
    refine And.intro (show vp_in (nI 40 + nI b) 69 from vx_2 (by omega) (by omega)) ?_
    refine And.intro (show vp_in (nI 52 + nI b) 69 from vx_2 (by omega) (by omega)) ?_
    refine cwg_balesIn l (d + 2) ru ta rs I J _ _ w hr hw (I 29 (nI 52 + nI b).toNatClampNeg) (52 + b) (by omega) (by omega) (by rw [i52]; exact q.2.2) ?_
    refine cx_descB l (d + 2) ru ta rs I J _ (I 29 (nI 16 + nI b).toNatClampNeg) (I 29 (nI 28 + nI b).toNatClampNeg) (I 29 (nI 40 + nI b).toNatClampNeg) (nI (blN (nW w) (nW w (52 + b)) 12)) (fun I1 f1 r1 => ?_)
    rw [i16, i28, i40, q.1, q.2.1, hr.len hb, hw.c (show 16 + b < 69 by omega) (by omega), hw.c (show 28 + b < 69 by omega) (by omega), hw.c (show 40 + b < 69 by omega) (by omega)] at r1
    have e93 : I1 29 = I 29 := f1 29 (by decide)
    have e65 : I1 29 65 = nI (nW w 65) := by rw [e93]; exact hr.nk hw (by decide) (by decide)
    refine And.intro (show vp_in (nI 65) 69 from vp_b (by decide)) ?_
    refine (show xm l (d + 3) 0 0 mX2_spoiling [.ref 23, .int (I1 29 65)] (shH ru ta rs) I1 J _ from ?_)
    rw [e65]
    refine cx_spoiling l d ru ta rs I1 J _ Q L (h.k24 f1) (nmL (nW w) b) ⟨r1.1, r1.2.1, r1.2.2.1, r1.2.2.2⟩ (nmL_k hw hb) (fun I' J' f => ?_)
    exact hR I' J' (fun q hq => (f q hq).trans (f1 q hq))
  · rw [if_neg (hn b hb rfl)] at hR
    refine And.intro (fun z => absurd rfl z) (fun _ => ?_)
    exact hR I J (fun _ _ => rfl)
