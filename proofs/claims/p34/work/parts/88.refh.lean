section
-- ===== the reference: hours, decades; what is told =====
theorem upd_sh {w : Rw} {b : Nat} {x : Int32} (hb : b < 12) {k : Nat} (hk : 64 ≤ k) : shR w b x k = w k := by
  unfold shR
  split
  · exact upd_n (by omega)
  · unfold baI
    rw [upd_n (by omega), upd_n (by omega), upd_n (by omega), upd_n (by omega), upd_n (by omega)]
theorem gw_64 {Q : Tld} {L : Lws} {k : Nat} (hk : 64 ≤ k) : ∀ (m : Nat) (w : Rw) (t : Nat), t + m ≤ 8 → gwN Q L m w t k = w k
  | 0, _, _, _ => rfl
  | m + 1, w, t, h => by
    unfold gwN
    split
    · rw [gw_64 hk m _ _ (by omega), upd_n (by omega)]
    · rfl
theorem sp_64 {L : Lws} {k : Nat} (hk : 64 ≤ k) : ∀ (m : Nat) (w : Rw) (b : Nat), b + m ≤ 12 → spN L m w b k = w k
  | 0, _, _, _ => rfl
  | m + 1, w, b, h => by
    unfold spN
    split
    · rw [sp_64 hk m _ _ (by omega), upd_sh (by omega) hk, upd_n (by omega)]
    · exact sp_64 hk m _ _ (by omega)
theorem hl_hr {Q : Tld} {L : Lws} {w : Rw} (hq : qT Q ≤ 8) (hw : WR w) (hc : cnP w = true) : hlN (hrR Q L w) + 1 = hlN w := by
  have a := (hw 65 (by decide) (by decide)).nw
  have b := (hw 64 (by decide) (by decide)).nw
  have b9 : bdW 64 = 9 := by decide
  have b99 : bdW 65 = 999 := by decide
  have hp := (hl_c hw).1.mpr hc
  unfold hlN at hp ⊢
  unfold hrR
  split
  · rename_i e
    rw [b.1, nI_add] at e
    have e9 : nW w 64 + 1 = 10 := nI_small e (by omega) (by omega)
    have e64 : dayR Q L (hr0 w) 64 = nI 0 := by
      unfold dayR
      rw [sp_64 (by decide) _ _ _ (by omega), gw_64 (by decide) _ _ _ (by omega)]
      rfl
    have e65 : dayR Q L (hr0 w) 65 = nI (nW w 65 + 1) := by
      unfold dayR
      rw [sp_64 (by decide) _ _ _ (by omega), gw_64 (by decide) _ _ _ (by omega)]
      show w 65 + nI 1 = _
      rw [a.1, nI_add]
    have n64 : nW (dayR Q L (hr0 w)) 64 = 0 := by
      unfold nW
      rw [e64]
      exact nI_clamp (by omega)
    have n65 : nW (dayR Q L (hr0 w)) 65 = nW w 65 + 1 := by
      show (dayR Q L (hr0 w) 65).toNatClampNeg = _
      rw [e65]
      exact nI_clamp (by omega)
    rw [n64, n65]
    omega
  · rename_i e
    have e9 : nW w 64 + 1 ≠ 10 := fun z => e (by rw [b.1, nI_add, z])
    have n64 : nW (hr0 w) 64 = nW w 64 + 1 := by
      show (w 64 + nI 1).toNatClampNeg = _
      rw [b.1, nI_add]
      exact nI_clamp (by omega)
    have n65 : nW (hr0 w) 65 = nW w 65 := rfl
    rw [n64, n65]
    omega
abbrev hoz (l : Launch) (d : Nat) (ru ta : Nat) (rs : List XO) (J : XJ) (Rp : XR) (n k i : Nat) (I : XI) : Prop := xrun xxX12 (some .int) false false (shH ru ta rs).length 0 0 none l (d + 12) tX12_hour [40] Rp n 40 [some (.ref 67), some (.int (nI k)), some (.int (nI i))] [] (shH ru ta rs) I J 0 0
set_option maxRecDepth 100000 in
set_option maxHeartbeats 4000000 in
theorem md_hour_loop (l : Launch) (d : Nat) (ru ta : Nat) (rs : List XO) (I : XI) (Rp : XR) (L : Lws) (k : Nat) (hk : k ≤ 1000) (B : Ast) (hR : ∀ (I' : XI) (J' : XJ), FMl I I' → MA I' L B → Rp (some (.int (oW B 64))) (shH ru ta rs) I' J') : ∀ (m i n : Nat) (J : XJ) (I1 : XI) (A : Ast), i + m = k → m < n → FMl I I1 → AOK A → MA I1 L A → m ≤ hlN (oW A) → phS L m A = B → hoz l d ru ta rs J Rp n k i I1 := by
  intro m
  induction m with
  | zero =>
    intro i n J I1 A hi hn f hA h hl eB
    obtain ⟨n, rfl⟩ : ∃ n', n = n' + 1 := ⟨n - 1, by omega⟩
    have hi : i = k := by omega
    subst hi
    have e3 : A = B := eB
    subst e3
    refine xrun_step fun K hK => ?_
    refine And.intro (fun _ => ?_) (fun z => absurd (Int32.le_refl _) z)
    refine And.intro (show vp_in (nI 124) 2200 from vp_b (by decide)) ?_
    have z := hR I1 J f h
    rw [← h.w (by decide)] at z
    exact z
  | succ m ih =>
    intro i n J I1 A hi hn f hA h hl eB
    obtain ⟨n, rfl⟩ : ∃ n', n = n' + 1 := ⟨n - 1, by omega⟩
    have hA0 := hA
    obtain ⟨hq, hw, hn30, hf⟩ := hA
    have hc : cnP (oW A) = true := (hl_c hw).1.mp (by omega)
    have es := phS_s (L := L) (k := m) hc
    have hs := hl_hr (L := L) hq.1 hw hc
    refine xrun_step fun K hK => ?_
    refine And.intro (fun z => absurd (show nI k ≤ nI i from z) (nI_ge (by omega) (by omega))) (fun _ => ?_)
    refine md_kstep l (d + 11) ru ta rs I1 J _ L A h I1 F93.rf (fun I2 k2 e2 => ?_)
    refine rx_lays l (d + 11) ru ta rs I2 J _ (fun I3 f3 e3 => ?_)
    rw [k2.lay h e2] at e3
    refine rx_hourP l d ru ta rs I3 J _ (oQ A) L ((k2.f f3).re h.1) (by rw [e3]; exact fun e => hw.w0 hc e) (fun I4 J4 f4 e4 => ?_)
    rw [e3] at e4
    refine md_keeps l (d + 11) ru ta rs I1 J4 _ L A h _ (hw.hr hq.1 hc) I4 ((k2.f f3).f f4) e4 (fun I5 f5 m5 _ => ?_)
    refine hK 40 [some (.ref 67), some (.int (nI k)), some (.int (nI i + 1))] [] (shH ru ta rs) I5 J4 0 0 ?_
    rw [nI_1]
    exact ih (i + 1) n J4 I5 _ (by omega) (by omega) (f.tr f5) (hA0.stp (hw.hr hq.1 hc)) m5 (by show m ≤ hlN (hrR (oQ A) L (oW A)); omega) (by rw [← es.1]; exact eB)
set_option maxRecDepth 100000 in
set_option maxHeartbeats 4000000 in
theorem md_hour (l : Launch) (d : Nat) (ru ta : Nat) (rs : List XO) (I : XI) (J : XJ) (Rp : XR) (L : Lws) (A : Ast) (hA : AOK A) (h : MA I L A) (x : Int32) (hR : ∀ (I' : XI) (J' : XJ), FMl I I' → MA I' L (hourS L A x).2 → Rp (some (.int (hourS L A x).1)) (shH ru ta rs) I' J') : xm l (d + 13) 0 0 mX12_hour [.ref 67, .int x] (shH ru ta rs) I J Rp := by
  have h0 := h
  obtain ⟨hre, hlay, hs⟩ := h
  have hA0 := hA
  obtain ⟨hq, hw, hn, hf⟩ := hA
  have t8 := hq.1
  have r4 := hq.2.1
  have b4 := hq.2.2.1
  have eT : I 68 0 = nI (qT (oQ A)) := hre.1.1.1
  have eR : I 68 1 = nI (qR (oQ A)) := hre.1.1.2.1
  have eB : I 68 2 = nI (qB (oQ A)) := hre.1.1.2.2.1
  have no : ∀ (I1 : XI) (J1 : XJ), FMl I I1 → MA I1 L A → hourS L A x = (-1, A) → Rp (some (.int (-1))) (shH ru ta rs) I1 J1 := fun I1 J1 f1 m1 e => by
    have z := hR I1 J1 f1 (by rw [e]; exact m1)
    rw [e] at z
    exact z
  refine xm_ofK 70 (X := xxX12) (t := tX12_hour) (stop := [40]) (ini := false) xx12 pl12 rfl kX12_hour (fun h => by cases h) (Nat.le_of_ble_eq_true rfl) (fun K hK => ?_)
  refine md_inR l (d + 11) x 1 60 _ _ _ _ (fun hx => ?_) (fun hx => ?_)
  · refine And.intro (fun z => absurd (show (1 : Int32) = 0 from z) (by decide)) (fun _ => ?_)
    obtain ⟨k, k1, k2, ex, ex2⟩ := rIn_t (by omega) (by omega) hx
    have a := (hw 65 (by decide) (by decide)).nw
    have b := (hw 64 (by decide) (by decide)).nw
    have b9 : bdW 64 = 9 := by decide
    have b99 : bdW 65 = 999 := by decide
    have e125 : I 68 125 = nI (nW (oW A) 65) := (h0.w (k := 65) (by decide)).trans a.1
    have e124 : I 68 124 = nI (nW (oW A) 64) := (h0.w (k := 64) (by decide)).trans b.1
    have hh : hlN (oW A) = (999 - nW (oW A) 65) * 10 + 9 - nW (oW A) 64 := rfl
    refine And.intro (show vp_in (nI 125) 2200 from vp_b (by decide)) ?_
    refine And.intro (show vp_in (nI 124) 2200 from vp_b (by decide)) ?_
    subst ex
    refine And.intro (fun (z : I 68 125 * nI 10 + I 68 124 + nI k ≤ nI 9999) => ?_) (fun (z : ¬ I 68 125 * nI 10 + I 68 124 + nI k ≤ nI 9999) => ?_)
    · rw [e125, e124, nI_mul, nI_add, nI_add, nle (by omega) (by omega)] at z
      have hle : k ≤ hlN (oW A) := by omega
      have eS : hourS L A (nI k) = (oW (phS L k A) 64, phS L k A) := by
        unfold hourS
        rw [hx, ex2, decide_eq_true hle]
        rfl
      rw [eS] at hR
      exact hK 40 [some (.ref 67), some (.int (nI k)), some (.int (nI 0))] [] _ _ _ _ _ (md_hour_loop l d ru ta rs I Rp L k (by omega) _ hR k 0 70 J I A (by omega) (by omega) FMl.rf hA0 h0 hle rfl)
    · rw [e125, e124, nI_mul, nI_add, nI_add, nle (by omega) (by omega)] at z
      have hle : ¬ k ≤ hlN (oW A) := by omega
      refine no I J FMl.rf h0 ?_
      unfold hourS
      rw [ex2, decide_eq_false hle, Bool.and_false]
      rfl
  · refine And.intro (fun _ => ?_) (fun z => absurd rfl z)
    exact no I J FMl.rf h0 (by unfold hourS; rw [hx, Bool.false_and]; rfl)
theorem hourS_1 {L : Lws} {A : Ast} (hA : AOK A) : hourS L A (nI 1) = if cnP (oW A) = true then (oW (phS L 1 A) 64, phS L 1 A) else (-1, A) := by
  have e := (hl_c hA.2.1).1
  unfold hourS
  rw [show rIn (nI 1) 1 60 = true from by decide, show (nI 1).toNatClampNeg = 1 from by decide, Bool.true_and]
  by_cases c : cnP (oW A) = true
  · rw [if_pos c, if_pos (decide_eq_true (by have := e.mpr c; omega))]
  · rw [if_neg c, if_neg (fun z => c (e.mp (by have := of_decide_eq_true z; omega)))]
abbrev hsz (l : Launch) (d : Nat) (ru ta : Nat) (rs : List XO) (J : XJ) (Rp : XR) (n k i : Nat) (I : XI) : Prop := xrun xxX12 (some .boolean) false false (shH ru ta rs).length 0 0 none l (d + 13) tX12_hours [2] Rp n 2 [some (.ref 67), some (.int (nI k)), some (.int (nI i))] [] (shH ru ta rs) I J 0 0
set_option maxRecDepth 100000 in
set_option maxHeartbeats 4000000 in
theorem md_hours_loop (l : Launch) (d : Nat) (ru ta : Nat) (rs : List XO) (I : XI) (Rp : XR) (L : Lws) (k : Nat) (hk : k ≤ 10000) (B : Ast) (v : Int32) (hR : ∀ (I' : XI) (J' : XJ), FMl I I' → MA I' L B → Rp (some (.int v)) (shH ru ta rs) I' J') : ∀ (m i n : Nat) (J : XJ) (I1 : XI) (A : Ast), i + m = k → m < n → FMl I I1 → AOK A → MA I1 L A → phS L m A = B → (if phC L m A = m then (1 : Int32) else 0) = v → hsz l d ru ta rs J Rp n k i I1 := by
  intro m
  induction m with
  | zero =>
    intro i n J I1 A hi hn f hA h eB ev
    obtain ⟨n, rfl⟩ : ∃ n', n = n' + 1 := ⟨n - 1, by omega⟩
    have hi : i = k := by omega
    subst hi
    have e3 : A = B := eB
    subst e3
    have ev : 1 = v := ev
    subst ev
    refine xrun_step fun K hK => ?_
    refine And.intro (fun _ => ?_) (fun z => absurd (Int32.le_refl _) z)
    exact And.intro (Or.inr rfl) (hR I1 J f h)
  | succ m ih =>
    intro i n J I1 A hi hn f hA h eB ev
    obtain ⟨n, rfl⟩ : ∃ n', n = n' + 1 := ⟨n - 1, by omega⟩
    have e1 := hourS_1 (L := L) hA
    refine xrun_step fun K hK => ?_
    refine And.intro (fun z => absurd (show nI k ≤ nI i from z) (nI_ge (by omega) (by omega))) (fun _ => ?_)
    refine md_hour l d ru ta rs I1 J _ L A hA h (nI 1) (fun I2 J2 f2 m2 => ?_)
    rw [e1] at m2 ⊢
    by_cases hc : cnP (oW A) = true
    · rw [if_pos hc] at m2 ⊢
      have es := phS_s (L := L) (k := m) hc
      have e0 : phS L 1 A = stp A (hrR (oQ A) L (oW A)) := if_pos hc
      rw [e0] at m2 ⊢
      have hA2 := hA.stp (hA.2.1.hr (L := L) hA.1.1 hc)
      have o64 := (hA2.2.1 64 (by decide) (by decide)).nw
      have n64 : ¬ oW (stp A (hrR (oQ A) L (oW A))) 64 = -1 := by
        have b9 : bdW 64 = 9 := by decide
        rw [o64.1]
        exact nI_ne1 (by omega)
      refine And.intro (fun _ => ?_) (fun z => absurd z n64)
      refine hK 2 [some (.ref 67), some (.int (nI k)), some (.int (nI i + 1))] [] (shH ru ta rs) I2 J2 0 0 ?_
      rw [nI_1]
      refine ih (i + 1) n J2 I2 _ (by omega) (by omega) (f.tr f2) hA2 m2 (by rw [← es.1]; exact eB) ?_
      rw [← ev, es.2]
      by_cases c : phC L m (stp A (hrR (oQ A) L (oW A))) = m
      · rw [if_pos c, if_pos (by omega)]
      · rw [if_neg c, if_neg (by omega)]
    · rw [if_neg hc] at m2 ⊢
      have hc' : cnP (oW A) = false := by
        cases e : cnP (oW A) with
        | true => exact absurd e hc
        | false => rfl
      have en := phS_n (L := L) (k := m + 1) hc'
      rw [en.1] at eB
      rw [en.2, if_neg (by omega)] at ev
      subst eB ev
      refine And.intro (fun z => absurd rfl z) (fun _ => ?_)
      exact And.intro (Or.inl rfl) (hR I2 J2 (f.tr f2) m2)
set_option maxRecDepth 100000 in
theorem md_hours (l : Launch) (d : Nat) (ru ta : Nat) (rs : List XO) (I : XI) (J : XJ) (Rp : XR) (L : Lws) (A : Ast) (hA : AOK A) (h : MA I L A) (k : Nat) (hk : k ≤ 10000) (hR : ∀ (I' : XI) (J' : XJ), FMl I I' → MA I' L (phS L k A) → Rp (some (.int (if phC L k A = k then 1 else 0))) (shH ru ta rs) I' J') : xm l (d + 14) 0 0 mX12_hours [.ref 67, .int (nI k)] (shH ru ta rs) I J Rp := by
  refine xm_ofK (k + 1) (X := xxX12) (t := tX12_hours) (stop := [2]) (ini := false) xx12 pl12 rfl kX12_hours (fun h => by cases h) (Nat.le_of_ble_eq_true rfl) (fun K hK => ?_)
  exact hK 2 [some (.ref 67), some (.int (nI k)), some (.int (nI 0))] [] _ _ _ _ _ (md_hours_loop l d ru ta rs I Rp L k hk _ _ hR k 0 (k + 1) J I A (by omega) (by omega) FMl.rf hA h rfl rfl)
abbrev drz (l : Launch) (d : Nat) (ru ta : Nat) (rs : List XO) (J : XJ) (Rp : XR) (n : Nat) (x : Int32) (k i : Nat) (I : XI) : Prop := xrun xxX12 (some .int) false false (shH ru ta rs).length 0 0 none l (d + 14) tX12_decades [73] Rp n 73 [some (.ref 67), some (.int x), some (.int (nI k)), some (.int (nI i))] [] (shH ru ta rs) I J 0 0
set_option maxRecDepth 100000 in
set_option maxHeartbeats 4000000 in
theorem md_dec_loop (l : Launch) (d : Nat) (ru ta : Nat) (rs : List XO) (I : XI) (J : XJ) (Rp : XR) (L : Lws) (A : Ast) (hA : AOK A) (h : MA I L A) (t0 : 0 < qT (oQ A)) (r0 : 0 < qR (oQ A)) (b0 : 0 < qB (oQ A)) (x : Int32) (k : Nat) (hk : k ≤ 1000) (W : Rw) (hR : ∀ (I' : XI) (J' : XJ), FMl I I' → MA I' L (stp A W) → Rp (some (.int (W 67))) (shH ru ta rs) I' J') : ∀ (m i n : Nat) (J : XJ) (I1 : XI) (w : Rw), i + m = k → m < n → KSd I I1 A → I1 93 = w → WR w → hpN (oQ A) L m w = W → drz l d ru ta rs J Rp n x k i I1 := by
  intro m
  induction m with
  | zero =>
    intro i n J I1 w hi hn f e1 hw e
    obtain ⟨n, rfl⟩ : ∃ n', n = n' + 1 := ⟨n - 1, by omega⟩
    have hi : i = k := by omega
    subst hi
    have e : w = W := e
    subst e
    refine xrun_step fun K hK => ?_
    refine And.intro (fun _ => ?_) (fun z => absurd (Int32.le_refl _) z)
    refine md_keeps l (d + 13) ru ta rs I J _ L A h w hw I1 f e1 (fun I3 f3 m3 e3 => ?_)
    refine And.intro (show vp_in (nI 67) 69 from vp_b (by decide)) ?_
    have y := hR I3 J f3 m3
    rw [← e3] at y
    exact y
  | succ m ih =>
    intro i n J I1 w hi hn f e1 hw e
    obtain ⟨n, rfl⟩ : ∃ n', n = n' + 1 := ⟨n - 1, by omega⟩
    refine xrun_step fun K hK => ?_
    refine And.intro (fun z => absurd (show nI k ≤ nI i from z) (nI_ge (by omega) (by omega))) (fun _ => ?_)
    refine rx_happens l d ru ta rs I1 J _ (oQ A) L (f.re h.1) (by rw [e1]; exact hw) t0 r0 b0 (fun I2 J2 f2 e2 => ?_)
    rw [e1] at e2
    refine hK 73 [some (.ref 67), some (.int x), some (.int (nI k)), some (.int (nI i + 1))] [] (shH ru ta rs) I2 J2 0 0 ?_
    rw [nI_1]
    exact ih (i + 1) n J2 I2 _ (by omega) (by omega) (f.f f2) e2 (hw.hp hA.1 t0 r0 b0) e
set_option maxRecDepth 100000 in
set_option maxHeartbeats 4000000 in
theorem md_dec (l : Launch) (d : Nat) (ru ta : Nat) (rs : List XO) (I : XI) (J : XJ) (Rp : XR) (L : Lws) (A : Ast) (hA : AOK A) (h : MA I L A) (x y : Int32) (hR : ∀ (I' : XI) (J' : XJ), FMl I I' → MA I' L (decS L A x y).2 → Rp (some (.int (decS L A x y).1)) (shH ru ta rs) I' J') : xm l (d + 15) 0 0 mX12_decades [.ref 67, .int x, .int y] (shH ru ta rs) I J Rp := by
  have h0 := h
  obtain ⟨hre, hlay, hs⟩ := h
  have hA0 := hA
  obtain ⟨hq, hw, hn, hf⟩ := hA
  have t8 := hq.1
  have r4 := hq.2.1
  have b4 := hq.2.2.1
  have eT : I 68 0 = nI (qT (oQ A)) := hre.1.1.1
  have eR : I 68 1 = nI (qR (oQ A)) := hre.1.1.2.1
  have eB : I 68 2 = nI (qB (oQ A)) := hre.1.1.2.2.1
  have no : ∀ (I1 : XI) (J1 : XJ), FMl I I1 → MA I1 L A → decS L A x y = (-1, A) → Rp (some (.int (-1))) (shH ru ta rs) I1 J1 := fun I1 J1 f1 m1 e => by
    have z := hR I1 J1 f1 (by rw [e]; exact m1)
    rw [e] at z
    exact z
  have z0 : ∀ n, n < 100 → (nI n = 0 ↔ n = 0) := fun n hn => neq0 (by omega)
  refine xm_ofK 50 (X := xxX12) (t := tX12_decades) (stop := [73]) (ini := false) xx12 pl12 rfl kX12_decades (fun h => by cases h) (Nat.le_of_ble_eq_true rfl) (fun K hK => ?_)
  refine md_inR l (d + 13) x 0 9999 _ _ _ _ (fun hx => ?_) (fun hx => ?_)
  · refine And.intro (fun z => absurd (show (1 : Int32) = 0 from z) (by decide)) (fun _ => ?_)
    refine md_inR l (d + 13) y 1 30 _ _ _ _ (fun hy => ?_) (fun hy => ?_)
    · refine And.intro (fun z => absurd (show (1 : Int32) = 0 from z) (by decide)) (fun _ => ?_)
      obtain ⟨i, i1, i2, ex, ex2⟩ := rIn_t (by omega) (by omega) hx
      obtain ⟨k, k1, k2, ey, ey2⟩ := rIn_t (by omega) (by omega) hy
      refine And.intro (show vp_in (nI 0) 2200 from vp_b (by decide)) ?_
      refine And.intro (fun (z : I 68 0 = 0) => ?_) (fun (z : ¬ I 68 0 = 0) => ?_)
      · rw [eT, z0 _ (by omega)] at z
        exact no I J FMl.rf h0 (by unfold decS; rw [decide_eq_true z]; simp)
      rw [eT, z0 _ (by omega)] at z
      refine And.intro (show vp_in (nI 1) 2200 from vp_b (by decide)) ?_
      refine And.intro (fun (u : I 68 1 = 0) => ?_) (fun (u : ¬ I 68 1 = 0) => ?_)
      · rw [eR, z0 _ (by omega)] at u
        exact no I J FMl.rf h0 (by unfold decS; rw [decide_eq_true u]; simp)
      rw [eR, z0 _ (by omega)] at u
      refine And.intro (show vp_in (nI 2) 2200 from vp_b (by decide)) ?_
      refine And.intro (fun (v : ¬ I 68 2 = 0) => ?_) (fun (v : I 68 2 = 0) => ?_)
      · rw [eB, z0 _ (by omega)] at v
        have eS : decS L A x y = (hpN (oQ A) L k (upd (oW A) 68 (x * nI 2 + nI 83)) 67, stp A (hpN (oQ A) L k (upd (oW A) 68 (x * nI 2 + nI 83)))) := by
          unfold decS
          rw [hx, hy, decide_eq_false z, decide_eq_false u, decide_eq_false v, ey2]
          rfl
        have ww : WR (upd (oW A) 68 (x * nI 2 + nI 83)) := hw.u (fun _ _ => by
          rw [ex, nI_mul, nI_add]
          exact okC.mk (by have z : bdW 68 = 30312 := by decide
                           omega))
        rw [eS] at hR
        refine md_kstep l (d + 13) ru ta rs I J _ L A h0 I F93.rf (fun I1 k1' e1 => ?_)
        refine rx_lays l (d + 13) ru ta rs I1 J _ (fun I2 f2 e2 => ?_)
        rw [k1'.lay h0 e1] at e2
        refine And.intro (show vp_in (nI 68) 69 from vp_b (by decide)) ?_
        refine hK 73 [some (.ref 67), some (.int x), some (.int y), some (.int (nI 0))] [] (shH ru ta rs) (uI I2 93 68 (x * nI 2 + nI 83)) J 0 0 ?_
        rw [ey]
        exact md_dec_loop l d ru ta rs I J Rp L A hA0 h0 (by omega) (by omega) (by omega) x k (by omega) _ hR k 0 50 J _ (upd (oW A) 68 (x * nI 2 + nI 83)) (by omega) (by omega) ((k1'.f f2).f F93.rf.u) (by rw [uI_eq, e2]) ww rfl
      · rw [eB, z0 _ (by omega)] at v
        exact no I J FMl.rf h0 (by unfold decS; rw [decide_eq_true v]; simp)
    · refine And.intro (fun _ => ?_) (fun z => absurd rfl z)
      exact no I J FMl.rf h0 (by unfold decS; rw [hy]; simp)
  · refine And.intro (fun _ => ?_) (fun z => absurd rfl z)
    exact no I J FMl.rf h0 (by unfold decS; rw [hx]; simp)
end
section
-- ===== the reference: what is told =====
theorem cells_t : (∀ t, t < 8 → cellI CF 68 (10 + t) = fr) ∧ (∀ t, t < 8 → cellI CF 68 (18 + t) = fr) ∧ ∀ t, t < 8 → cellI CF 68 (26 + t) = fr := by decide +kernel
theorem cells_r : (∀ r, r < 4 → cellI CF 68 (34 + r) = (0, 999)) ∧ (∀ r, r < 4 → cellI CF 68 (38 + r) = fr) ∧ cellI CF 68 1 = (0, 4) ∧ cellI CF 68 2 = (0, 4) := by decide +kernel
abbrev tgz (l : Launch) (d : Nat) (ru ta : Nat) (rs : List XO) (J : XJ) (Rp : XR) (n : Nat) (x y z : Int32) (t i : Nat) (I : XI) : Prop := xrun xxX12 (some .int) false false (shH ru ta rs).length 0 0 none l (d + 1) tX12_thing [93] Rp n 93 [some (.ref 67), some (.int x), some (.int y), some (.int z), some (.int (nI t)), some (.int (nI i))] [] (shH ru ta rs) I J 0 0
def tgI (I0 I1 : XI) (t i : Nat) : Prop := (∀ q, q ≠ 68 → I1 q = I0 q) ∧ (∀ k, k < i → I1 68 (130 + 69 * k + t) = nI 100) ∧ ∀ j, (∀ k, k < i → j ≠ 130 + 69 * k + t) → I1 68 j = I0 68 j
theorem tgI.s {I0 I1 : XI} {t i : Nat} (h : tgI I0 I1 t i) : tgI I0 (uI I1 68 (130 + 69 * i + t) (nI 100)) t (i + 1) := by
  refine ⟨fun q hq => (uI_ne hq).trans (h.1 q hq), fun k hk => ?_, fun j hj => ?_⟩
  · rw [uI_eq]
    by_cases e : k = i
    · subst e
      exact upd_s
    · rw [upd_n (by omega)]
      exact h.2.1 k (by omega)
  · rw [uI_eq, upd_n (hj i (by omega))]
    exact h.2.2 j (fun k hk => hj k (by omega))
set_option maxRecDepth 100000 in
set_option maxHeartbeats 4000000 in
theorem md_thing_loop (l : Launch) (d : Nat) (ru ta : Nat) (rs : List XO) (J : XJ) (Rp : XR) (x y z : Int32) (t : Nat) (ht : t < 8) (N : Nat) (hN : N ≤ 30) (I0 : XI) (e5 : I0 68 5 = nI N) (hR : ∀ (I1 : XI), tgI I0 I1 t N → Rp (some (.int (nI t))) (shH ru ta rs) (uI I1 68 0 (I1 68 0 + nI 1)) J) : ∀ (m i n : Nat) (I1 : XI), i + m = N → m < n → tgI I0 I1 t i → tgz l d ru ta rs J Rp n x y z t i I1 := by
  intro m
  induction m with
  | zero =>
    intro i n I1 hi hn h
    obtain ⟨n, rfl⟩ : ∃ n', n = n' + 1 := ⟨n - 1, by omega⟩
    have hi : i = N := by omega
    subst hi
    have e : I1 68 5 = nI i := (h.2.2 5 (fun k hk => by omega)).trans e5
    refine xrun_step fun K hK => ?_
    refine And.intro (show vp_in (nI 5) 2200 from vp_b (by decide)) ?_
    refine And.intro (fun _ => ?_) (fun z => absurd (show I1 68 5 ≤ nI i from by rw [e]; exact Int32.le_refl _) z)
    refine And.intro (show vp_in (nI 0) 2200 from vp_b (by decide)) ?_
    refine And.intro (show vp_in (nI 0) 2200 from vp_b (by decide)) ?_
    exact hR I1 h
  | succ m ih =>
    intro i n I1 hi hn h
    obtain ⟨n, rfl⟩ : ∃ n', n = n' + 1 := ⟨n - 1, by omega⟩
    have e : I1 68 5 = nI N := (h.2.2 5 (fun k hk => by omega)).trans e5
    have ix : (nI 130 + nI 69 * nI i + nI 0 + nI t).toNatClampNeg = 130 + 69 * i + t := by
      rw [nI_mul, nI_add, nI_add, nI_add, nI_clamp (by omega)]
      omega
    have vx : vp_in (nI 130 + nI 69 * nI i + nI 0 + nI t) 2200 := by
      rw [nI_mul, nI_add, nI_add, nI_add]
      exact vp_in_nI (by omega) (by omega)
    refine xrun_step fun K hK => ?_
    refine And.intro (show vp_in (nI 5) 2200 from vp_b (by decide)) ?_
    refine And.intro (fun z => absurd (show I1 68 5 ≤ nI i from z) (by rw [e]; exact nI_ge (by omega) (by omega))) (fun _ => ?_)
    refine And.intro vx ?_
    refine hK 93 [some (.ref 67), some (.int x), some (.int y), some (.int z), some (.int (nI t)), some (.int (nI i + 1))] [] (shH ru ta rs) (uI I1 68 (nI 130 + nI 69 * nI i + nI 0 + nI t).toNatClampNeg (nI 100)) J 0 0 ?_
    rw [ix, nI_1]
    exact ih (i + 1) n _ (by omega) (by omega) h.s
set_option maxRecDepth 100000 in
set_option maxHeartbeats 4000000 in
theorem md_thing (l : Launch) (d : Nat) (ru ta : Nat) (rs : List XO) (I : XI) (J : XJ) (Rp : XR) (L : Lws) (A : Ast) (hA : AOK A) (h : MA I L A) (x y z : Int32) (hR : ∀ (I' : XI) (J' : XJ), FMl I I' → MA I' L (thS A x y z).2 → Rp (some (.int (thS A x y z).1)) (shH ru ta rs) I' J') : xm l (d + 2) 0 0 mX12_thing [.ref 67, .int x, .int y, .int z] (shH ru ta rs) I J Rp := by
  have h0 := h
  obtain ⟨hre, hlay, hs⟩ := h
  have hA0 := hA
  obtain ⟨hq, hw, hn, hf⟩ := hA
  have t8 := hq.1
  have r4 := hq.2.1
  have b4 := hq.2.2.1
  have eT : I 68 0 = nI (qT (oQ A)) := hre.1.1.1
  have eR : I 68 1 = nI (qR (oQ A)) := hre.1.1.2.1
  have eB : I 68 2 = nI (qB (oQ A)) := hre.1.1.2.2.1
  have no : ∀ (I1 : XI) (J1 : XJ), FMl I I1 → MA I1 L A → thS A x y z = (-1, A) → Rp (some (.int (-1))) (shH ru ta rs) I1 J1 := fun I1 J1 f1 m1 e => by
    have z := hR I1 J1 f1 (by rw [e]; exact m1)
    rw [e] at z
    exact z
  refine xm_ofK 40 (X := xxX12) (t := tX12_thing) (stop := [93]) (ini := false) xx12 pl12 rfl kX12_thing (fun h => by cases h) (Nat.le_of_ble_eq_true rfl) (fun K hK => ?_)
  refine And.intro (show vp_in (nI 0) 2200 from vp_b (by decide)) ?_
  refine md_inR l d x 1 99 _ _ _ _ (fun hx => ?_) (fun hx => ?_)
  · refine And.intro (fun z => absurd (show (1 : Int32) = 0 from z) (by decide)) (fun _ => ?_)
    refine md_inR l d y 0 5 _ _ _ _ (fun hy => ?_) (fun hy => ?_)
    · refine And.intro (fun z => absurd (show (1 : Int32) = 0 from z) (by decide)) (fun _ => ?_)
      refine md_inR l d z 0 4 _ _ _ _ (fun hz => ?_) (fun hz => ?_)
      · refine And.intro (fun z => absurd (show (1 : Int32) = 0 from z) (by decide)) (fun _ => ?_)
        refine And.intro (fun (v : ¬ I 68 0 = nI 8) => ?_) (fun (v : I 68 0 = nI 8) => ?_)
        · rw [eT] at v
          have hv : qT (oQ A) < 8 := by
            have : ¬ qT (oQ A) = 8 := fun e => v (by rw [e])
            omega
          obtain ⟨i, i1, i2, ex, ex2⟩ := rIn_t (by omega) (by omega) hx
          obtain ⟨j, j1, j2, ey, ey2⟩ := rIn_t (by omega) (by omega) hy
          obtain ⟨k, k1, k2, ez, ez2⟩ := rIn_t (by omega) (by omega) hz
          have eS : thS A x y z = (nI (qT (oQ A)), (thQ (oQ A) i j k, upd (oW A) (qT (oQ A)) (nI 100), oN A, fun k => upd (oF A k) (qT (oQ A)) (nI 100))) := by
            unfold thS
            rw [hx, hy, hz, decide_eq_true hv, ex2, ey2, ez2]
            rfl
          have x10 : (nI 10 + I 68 0).toNatClampNeg = 10 + qT (oQ A) := by rw [eT]; exact ix_c (by omega)
          have x18 : (nI 18 + I 68 0).toNatClampNeg = 18 + qT (oQ A) := by rw [eT]; exact ix_c (by omega)
          have x26 : (nI 26 + I 68 0).toNatClampNeg = 26 + qT (oQ A) := by rw [eT]; exact ix_c (by omega)
          have x60 : (nI 60 + I 68 0).toNatClampNeg = 60 + qT (oQ A) := by rw [eT]; exact ix_c (by omega)
          refine And.intro (show vp_in (nI 10 + I 68 0) 2200 from by rw [eT]; exact vx_2 (by omega) (by omega)) ?_
          refine And.intro (show vp_in (nI 18 + I 68 0) 2200 from by rw [eT]; exact vx_2 (by omega) (by omega)) ?_
          refine And.intro (show vp_in (nI 26 + I 68 0) 2200 from by rw [eT]; exact vx_2 (by omega) (by omega)) ?_
          refine And.intro (show vp_in (nI 60 + I 68 0) 2200 from by rw [eT]; exact vx_2 (by omega) (by omega)) ?_
          refine hK 93 [some (.ref 67), some (.int x), some (.int y), some (.int z), some (.int (I 68 0)), some (.int (nI 0))] [] (shH ru ta rs) (uI (uI (uI (uI I 68 (nI 10 + I 68 0).toNatClampNeg x) 68 (nI 18 + I 68 0).toNatClampNeg y) 68 (nI 26 + I 68 0).toNatClampNeg z) 68 (nI 60 + I 68 0).toNatClampNeg (nI 100)) J 0 0 ?_
          rw [x10, x18, x26, x60, eT]
          have c0 : ∀ j, (uI (uI (uI (uI I 68 (10 + qT (oQ A)) x) 68 (18 + qT (oQ A)) y) 68 (26 + qT (oQ A)) z) 68 (60 + qT (oQ A)) (nI 100)) 68 j = if j = 60 + qT (oQ A) then nI 100 else if j = 26 + qT (oQ A) then z else if j = 18 + qT (oQ A) then y else if j = 10 + qT (oQ A) then x else I 68 j := fun j => by
            rw [uI_eq, uI_eq, uI_eq, uI_eq]
            unfold upd
            rfl
          have cq : ∀ q, q ≠ 68 → (uI (uI (uI (uI I 68 (10 + qT (oQ A)) x) 68 (18 + qT (oQ A)) y) 68 (26 + qT (oQ A)) z) 68 (60 + qT (oQ A)) (nI 100)) q = I q := fun q hq => by
            rw [uI_ne hq, uI_ne hq, uI_ne hq, uI_ne hq]
          generalize (uI (uI (uI (uI I 68 (10 + qT (oQ A)) x) 68 (18 + qT (oQ A)) y) 68 (26 + qT (oQ A)) z) 68 (60 + qT (oQ A)) (nI 100)) = I0 at c0 cq ⊢
          have c1 : ∀ j, j < 10 ∨ (34 ≤ j ∧ j < 60) ∨ 69 ≤ j → I0 68 j = I 68 j := fun j hj => by
            rw [c0 j, if_neg (by omega), if_neg (by omega), if_neg (by omega), if_neg (by omega)]
          rw [eS] at hR
          refine md_thing_loop l d ru ta rs J Rp x y z (qT (oQ A)) hv (oN A) hn I0 ((c1 5 (by omega)).trans hs.2.1) (fun I1 g => ?_) (oN A) 0 40 I0 (by omega) (by omega) ⟨fun _ _ => rfl, fun k hk => absurd hk (by omega), fun _ _ => rfl⟩
          have g1 : ∀ j, j < 130 → I1 68 j = I0 68 j := fun j hj => g.2.2 j (fun k hk => by omega)
          have f1 : ∀ j, j < 10 ∨ (34 ≤ j ∧ j < 60) → j ≠ 0 → (uI I1 68 0 (I1 68 0 + nI 1)) 68 j = I 68 j := fun j hj h0 => by
            rw [uI_eq, upd_n h0, g1 j (by omega), c1 j (by omega)]
          have fq : ∀ q, q ≠ 68 → (uI I1 68 0 (I1 68 0 + nI 1)) q = I q := fun q hq => by
            rw [uI_ne hq, g.1 q hq, cq q hq]
          have ft : ∀ j, j < 130 → j ≠ 0 → (uI I1 68 0 (I1 68 0 + nI 1)) 68 j = I0 68 j := fun j hj h0 => by
            rw [uI_eq, upd_n h0, g1 j hj]
          refine hR _ J ⟨fun q a _ _ => fq q a, fun j hj => f1 j (by omega) (by omega), fun r => ⟨fun j => ?_, fun j => by rw [fq 93 (by decide)]; exact r.2 j⟩⟩ ⟨⟨⟨⟨?_, (f1 1 (by omega) (by omega)).trans eR, (f1 2 (by omega) (by omega)).trans eB, fun t ht => ?_, fun r hr => ?_, fun b hb => ?_⟩, ?_⟩, hre.2.keep (f1 4 (by omega) (by omega)) (fq 71 (by decide)) (fq 72 (by decide)) (fq 73 (by decide)) (fq 77 (by decide)) (fq 78 (by decide))⟩, ?_, hn, ?_, fun k' j' hk hj => ?_⟩
          · rw [uI_eq]
            by_cases j0 : j = 0
            · subst j0
              rw [upd_s, g1 0 (by omega), c1 0 (by omega), eT, nI_add, show cellI CF 68 0 = (0, 8) from by decide +kernel]
              exact inI_n (by omega) (by omega)
            · rw [upd_n j0]
              by_cases c : j < 130
              · rw [g1 j c, c0]
                split
                · rename_i e
                  rw [e]
                  rcases cells_w.2 (qT (oQ A)) (by omega) with c | c
                  · omega
                  · rw [c]
                    exact inI_fr _
                · split
                  · rename_i e
                    rw [e, cells_t.2.2 _ hv]
                    exact inI_fr _
                  · split
                    · rename_i e
                      rw [e, cells_t.2.1 _ hv]
                      exact inI_fr _
                    · split
                      · rename_i e
                        rw [e, cells_t.1 _ hv]
                        exact inI_fr _
                      · exact r.1 j
              · by_cases c2 : ∃ k, k < oN A ∧ j = 130 + 69 * k + qT (oQ A)
                · obtain ⟨k, _, ek⟩ := c2
                  rw [ek, cell_col (by omega)]
                  rcases cells_w.2 (qT (oQ A)) (by omega) with c | c
                  · omega
                  · rw [c]
                    exact inI_fr _
                · rw [g.2.2 j (fun k hk e => c2 ⟨k, hk, e⟩), c1 j (by omega)]
                  exact r.1 j
          · rw [uI_eq, upd_s, g1 0 (by omega), c1 0 (by omega), eT, nI_add]
            rfl
          · have ht : t < qT (oQ A) + 1 := ht
            show (uI I1 68 0 (I1 68 0 + nI 1)) 68 (10 + t) = nI (ptF (qH (oQ A)) (qT (oQ A)) i t) ∧ (uI I1 68 0 (I1 68 0 + nI 1)) 68 (18 + t) = nI (ptF (qK (oQ A)) (qT (oQ A)) j t) ∧ (uI I1 68 0 (I1 68 0 + nI 1)) 68 (26 + t) = nI (ptF (qO (oQ A)) (qT (oQ A)) k t)
            rw [ft _ (by omega) (by omega), ft _ (by omega) (by omega), ft _ (by omega) (by omega), c0, c0, c0]
            unfold ptF
            by_cases e : t = qT (oQ A)
            · rw [if_pos e, if_pos e, if_pos e, if_neg (by omega), if_neg (by omega), if_neg (by omega), if_pos (by omega), if_neg (by omega), if_neg (by omega), if_pos (by omega), if_neg (by omega), if_pos (by omega)]
              exact ⟨ex, ey, ez⟩
            · rw [if_neg e, if_neg e, if_neg e, if_neg (by omega), if_neg (by omega), if_neg (by omega), if_neg (by omega), if_neg (by omega), if_neg (by omega), if_neg (by omega), if_neg (by omega), if_neg (by omega), if_neg (by omega), if_neg (by omega), if_neg (by omega)]
              exact hre.1.1.2.2.2.1 t (by omega)
          · have hr : r < qR (oQ A) := hr
            rw [f1 _ (by omega) (by omega)]
            exact hre.1.1.2.2.2.2.1 r hr
          · have hb : b < qB (oQ A) := hb
            rw [f1 _ (by omega) (by omega)]
            exact hre.1.1.2.2.2.2.2 b hb
          · have y := (hA0.th x y z).1
            rw [eS] at y
            exact y
          · funext q
            show wLay _ q = upd (oW A) (qT (oQ A)) (nI 100) q
            unfold wLay
            by_cases cj : q < 69
            · rw [if_pos cj, ft _ (by omega) (by omega), c0]
              by_cases e : q = qT (oQ A)
              · rw [if_pos (by omega), e, upd_s]
              · rw [if_neg (by omega), if_neg (by omega), if_neg (by omega), if_neg (by omega), upd_n e]
                exact h0.w cj
            · rw [if_neg cj, fq 93 (by decide), upd_n (by omega)]
              exact h0.w93 cj
          · exact (f1 5 (by omega) (by omega)).trans hs.2.1
          · have hk : k' < oN A := hk
            rw [uI_eq, upd_n (by omega)]
            show I1 68 (130 + 69 * k' + j') = upd (oF A k') (qT (oQ A)) (nI 100) j'
            by_cases e : j' = qT (oQ A)
            · subst e
              rw [upd_s]
              exact g.2.1 k' hk
            · rw [upd_n e, g.2.2 _ (fun q hq => by omega), c1 _ (by omega)]
              exact hs.2.2 k' j' hk hj
        · rw [eT] at v
          have hv : ¬ qT (oQ A) < 8 := by
            have := nI_inj v (by omega) (by omega)
            omega
          exact no I J FMl.rf h0 (by unfold thS; rw [decide_eq_false hv, Bool.and_false]; rfl)
      · refine And.intro (fun _ => ?_) (fun z => absurd rfl z)
        exact no I J FMl.rf h0 (by unfold thS; rw [hz]; simp)
    · refine And.intro (fun _ => ?_) (fun z => absurd rfl z)
      exact no I J FMl.rf h0 (by unfold thS; rw [hy]; simp)
  · refine And.intro (fun _ => ?_) (fun z => absurd rfl z)
    exact no I J FMl.rf h0 (by unfold thS; rw [hx]; simp)
set_option maxRecDepth 100000 in
set_option maxHeartbeats 4000000 in
theorem md_reaper (l : Launch) (d : Nat) (ru ta : Nat) (rs : List XO) (I : XI) (J : XJ) (Rp : XR) (L : Lws) (A : Ast) (hA : AOK A) (h : MA I L A) (x : Int32) (hR : ∀ (I' : XI) (J' : XJ), FMl I I' → MA I' L (reS A x).2 → Rp (some (.int (reS A x).1)) (shH ru ta rs) I' J') : xm l (d + 2) 0 0 mX12_reaper [.ref 67, .int x] (shH ru ta rs) I J Rp := by
  have h0 := h
  obtain ⟨hre, hlay, hs⟩ := h
  have hA0 := hA
  obtain ⟨hq, hw, hn, hf⟩ := hA
  have t8 := hq.1
  have r4 := hq.2.1
  have b4 := hq.2.2.1
  have eT : I 68 0 = nI (qT (oQ A)) := hre.1.1.1
  have eR : I 68 1 = nI (qR (oQ A)) := hre.1.1.2.1
  have eB : I 68 2 = nI (qB (oQ A)) := hre.1.1.2.2.1
  have no : ∀ (I1 : XI) (J1 : XJ), FMl I I1 → MA I1 L A → reS A x = (-1, A) → Rp (some (.int (-1))) (shH ru ta rs) I1 J1 := fun I1 J1 f1 m1 e => by
    have z := hR I1 J1 f1 (by rw [e]; exact m1)
    rw [e] at z
    exact z
  refine xm_ofK 0 (X := xxX12) (t := tX12_reaper) (stop := []) (ini := false) xx12 pl12 rfl kX12_reaper (fun h => by cases h) (Nat.le_of_ble_eq_true rfl) (fun K hK => ?_)
  refine And.intro (show vp_in (nI 1) 2200 from vp_b (by decide)) ?_
  refine md_inR l d x 1 99 _ _ _ _ (fun hx => ?_) (fun hx => ?_)
  · refine And.intro (fun z => absurd (show (1 : Int32) = 0 from z) (by decide)) (fun _ => ?_)
    refine And.intro (fun (v : ¬ I 68 1 = nI 4) => ?_) (fun (v : I 68 1 = nI 4) => ?_)
    · rw [eR] at v
      have hv : qR (oQ A) < 4 := by
        have : ¬ qR (oQ A) = 4 := fun e => v (by rw [e])
        omega
      obtain ⟨i, i1, i2, ex, ex2⟩ := rIn_t (by omega) (by omega) hx
      have eS : reS A x = (nI (qR (oQ A)), (reQ (oQ A) i, oW A, oN A, oF A)) := by
        unfold reS
        rw [hx, decide_eq_true hv, ex2]
        rfl
      have xi : (nI 34 + I 68 1).toNatClampNeg = 34 + qR (oQ A) := by rw [eR]; exact ix_c (by omega)
      refine And.intro (show vp_in (nI 34 + I 68 1) 2200 from by rw [eR]; exact vx_2 (by omega) (by omega)) ?_
      refine And.intro (show vp_in (nI 1) 2200 from vp_b (by decide)) ?_
      refine And.intro (show vp_in (nI 1) 2200 from vp_b (by decide)) ?_
      have c3 : (uI I 68 (nI 34 + I 68 1).toNatClampNeg x) 68 1 = I 68 1 := by
        rw [xi, uI_eq, upd_n (by omega)]
      have fin : Rp (some (.int (I 68 1))) (shH ru ta rs) (uI (uI I 68 (nI 34 + I 68 1).toNatClampNeg x) 68 1 ((uI I 68 (nI 34 + I 68 1).toNatClampNeg x) 68 1 + nI 1)) J := by
        rw [c3, xi]
        rw [eS] at hR
        have f1 : ∀ j, j ≠ 1 → j ≠ 34 + qR (oQ A) → (uI (uI I 68 (34 + qR (oQ A)) x) 68 1 (I 68 1 + nI 1)) 68 j = I 68 j := fun j a b => by
          rw [uI_eq, upd_n a, uI_eq, upd_n b]
        have fq : ∀ q, q ≠ 68 → (uI (uI I 68 (34 + qR (oQ A)) x) 68 1 (I 68 1 + nI 1)) q = I q := fun q hq => by
          rw [uI_ne hq, uI_ne hq]
        rw [show (I 68 1) = nI (qR (oQ A)) from eR] at f1 fq ⊢
        refine hR _ J ⟨fun q a _ _ => fq q a, fun j hj => f1 j (by omega) (by omega), fun r => ⟨fun j => ?_, fun j => by rw [fq 93 (by decide)]; exact r.2 j⟩⟩ ⟨⟨⟨⟨(f1 0 (by omega) (by omega)).trans eT, ?_, (f1 2 (by omega) (by omega)).trans eB, fun t ht => ?_, fun r hr => ?_, fun b hb => ?_⟩, ?_⟩, hre.2.keep (f1 4 (by omega) (by omega)) (fq 71 (by decide)) (fq 72 (by decide)) (fq 73 (by decide)) (fq 77 (by decide)) (fq 78 (by decide))⟩, ?_, hn, (f1 5 (by omega) (by omega)).trans hs.2.1, fun k' j' hk hj => ?_⟩
        · by_cases j0 : j = 1
          · subst j0
            rw [uI_eq, upd_s, nI_add, cells_r.2.2.1]
            exact inI_n (by omega) (by omega)
          · by_cases j1 : j = 34 + qR (oQ A)
            · rw [uI_eq, upd_n j0, uI_eq, j1, upd_s, cells_r.1 _ hv]
              rw [ex]
              exact inI_n (by omega) (by omega)
            · rw [f1 j j0 j1]
              exact r.1 j
        · rw [uI_eq, upd_s, nI_add]
          rfl
        · have ht : t < qT (oQ A) := ht
          rw [f1 _ (by omega) (by omega), f1 _ (by omega) (by omega), f1 _ (by omega) (by omega)]
          exact hre.1.1.2.2.2.1 t ht
        · have hv' : r < qR (oQ A) + 1 := hr
          show (uI (uI I 68 (34 + qR (oQ A)) x) 68 1 (nI (qR (oQ A)) + nI 1)) 68 (34 + r) = nI (ptF (qC (oQ A)) (qR (oQ A)) i r)
          rw [uI_eq, upd_n (by omega), uI_eq]
          unfold ptF
          by_cases e : r = qR (oQ A)
          · rw [if_pos e, e, upd_s]
            exact ex
          · rw [if_neg e, upd_n (by omega)]
            exact hre.1.1.2.2.2.2.1 r (by omega)
        · have hb : b < qB (oQ A) := hb
          rw [f1 _ (by omega) (by omega)]
          exact hre.1.1.2.2.2.2.2 b hb
        · have y := (hA0.re x).1
          rw [eS] at y
          exact y
        · funext q
          show wLay _ q = oW A q
          unfold wLay
          by_cases cj : q < 69
          · rw [if_pos cj, f1 _ (by omega) (by omega)]
            exact h0.w cj
          · rw [if_neg cj, fq 93 (by decide)]
            exact h0.w93 cj
        · have hk : k' < oN A := hk
          rw [f1 _ (by omega) (by omega)]
          exact hs.2.2 k' j' hk hj
      exact fin
    · rw [eR] at v
      have hv : ¬ qR (oQ A) < 4 := by
        have := nI_inj v (by omega) (by omega)
        omega
      exact no I J FMl.rf h0 (by unfold reS; rw [decide_eq_false hv, Bool.and_false]; rfl)
  · refine And.intro (fun _ => ?_) (fun z => absurd rfl z)
    exact no I J FMl.rf h0 (by unfold reS; rw [hx]; simp)
set_option maxRecDepth 100000 in
set_option maxHeartbeats 4000000 in
theorem md_barn (l : Launch) (d : Nat) (ru ta : Nat) (rs : List XO) (I : XI) (J : XJ) (Rp : XR) (L : Lws) (A : Ast) (hA : AOK A) (h : MA I L A) (x : Int32) (hR : ∀ (I' : XI) (J' : XJ), FMl I I' → MA I' L (baS A x).2 → Rp (some (.int (baS A x).1)) (shH ru ta rs) I' J') : xm l (d + 2) 0 0 mX12_barn [.ref 67, .int x] (shH ru ta rs) I J Rp := by
  have h0 := h
  obtain ⟨hre, hlay, hs⟩ := h
  have hA0 := hA
  obtain ⟨hq, hw, hn, hf⟩ := hA
  have t8 := hq.1
  have r4 := hq.2.1
  have b4 := hq.2.2.1
  have eT : I 68 0 = nI (qT (oQ A)) := hre.1.1.1
  have eR : I 68 1 = nI (qR (oQ A)) := hre.1.1.2.1
  have eB : I 68 2 = nI (qB (oQ A)) := hre.1.1.2.2.1
  have no : ∀ (I1 : XI) (J1 : XJ), FMl I I1 → MA I1 L A → baS A x = (-1, A) → Rp (some (.int (-1))) (shH ru ta rs) I1 J1 := fun I1 J1 f1 m1 e => by
    have z := hR I1 J1 f1 (by rw [e]; exact m1)
    rw [e] at z
    exact z
  refine xm_ofK 0 (X := xxX12) (t := tX12_barn) (stop := []) (ini := false) xx12 pl12 rfl kX12_barn (fun h => by cases h) (Nat.le_of_ble_eq_true rfl) (fun K hK => ?_)
  refine And.intro (show vp_in (nI 2) 2200 from vp_b (by decide)) ?_
  refine md_inR l d x 1 999 _ _ _ _ (fun hx => ?_) (fun hx => ?_)
  · refine And.intro (fun z => absurd (show (1 : Int32) = 0 from z) (by decide)) (fun _ => ?_)
    refine And.intro (fun (v : ¬ I 68 2 = nI 4) => ?_) (fun (v : I 68 2 = nI 4) => ?_)
    · rw [eB] at v
      have hv : qB (oQ A) < 4 := by
        have : ¬ qB (oQ A) = 4 := fun e => v (by rw [e])
        omega
      obtain ⟨i, i1, i2, ex, ex2⟩ := rIn_t (by omega) (by omega) hx
      have eS : baS A x = (nI (qB (oQ A)), (baQ (oQ A) i, oW A, oN A, oF A)) := by
        unfold baS
        rw [hx, decide_eq_true hv, ex2]
        rfl
      have xi : (nI 38 + I 68 2).toNatClampNeg = 38 + qB (oQ A) := by rw [eB]; exact ix_c (by omega)
      refine And.intro (show vp_in (nI 38 + I 68 2) 2200 from by rw [eB]; exact vx_2 (by omega) (by omega)) ?_
      refine And.intro (show vp_in (nI 2) 2200 from vp_b (by decide)) ?_
      refine And.intro (show vp_in (nI 2) 2200 from vp_b (by decide)) ?_
      have c3 : (uI I 68 (nI 38 + I 68 2).toNatClampNeg x) 68 2 = I 68 2 := by
        rw [xi, uI_eq, upd_n (by omega)]
      have fin : Rp (some (.int (I 68 2))) (shH ru ta rs) (uI (uI I 68 (nI 38 + I 68 2).toNatClampNeg x) 68 2 ((uI I 68 (nI 38 + I 68 2).toNatClampNeg x) 68 2 + nI 1)) J := by
        rw [c3, xi]
        rw [eS] at hR
        have f1 : ∀ j, j ≠ 2 → j ≠ 38 + qB (oQ A) → (uI (uI I 68 (38 + qB (oQ A)) x) 68 2 (I 68 2 + nI 1)) 68 j = I 68 j := fun j a b => by
          rw [uI_eq, upd_n a, uI_eq, upd_n b]
        have fq : ∀ q, q ≠ 68 → (uI (uI I 68 (38 + qB (oQ A)) x) 68 2 (I 68 2 + nI 1)) q = I q := fun q hq => by
          rw [uI_ne hq, uI_ne hq]
        rw [show (I 68 2) = nI (qB (oQ A)) from eB] at f1 fq ⊢
        refine hR _ J ⟨fun q a _ _ => fq q a, fun j hj => f1 j (by omega) (by omega), fun r => ⟨fun j => ?_, fun j => by rw [fq 93 (by decide)]; exact r.2 j⟩⟩ ⟨⟨⟨⟨(f1 0 (by omega) (by omega)).trans eT, (f1 1 (by omega) (by omega)).trans eR, ?_, fun t ht => ?_, fun r hr => ?_, fun b hb => ?_⟩, ?_⟩, hre.2.keep (f1 4 (by omega) (by omega)) (fq 71 (by decide)) (fq 72 (by decide)) (fq 73 (by decide)) (fq 77 (by decide)) (fq 78 (by decide))⟩, ?_, hn, (f1 5 (by omega) (by omega)).trans hs.2.1, fun k' j' hk hj => ?_⟩
        · by_cases j0 : j = 2
          · subst j0
            rw [uI_eq, upd_s, nI_add, cells_r.2.2.2]
            exact inI_n (by omega) (by omega)
          · by_cases j1 : j = 38 + qB (oQ A)
            · rw [uI_eq, upd_n j0, uI_eq, j1, upd_s, cells_r.2.1 _ hv]
              exact inI_fr _
            · rw [f1 j j0 j1]
              exact r.1 j
        · rw [uI_eq, upd_s, nI_add]
          rfl
        · have ht : t < qT (oQ A) := ht
          rw [f1 _ (by omega) (by omega), f1 _ (by omega) (by omega), f1 _ (by omega) (by omega)]
          exact hre.1.1.2.2.2.1 t ht
        · have hr : r < qR (oQ A) := hr
          rw [f1 _ (by omega) (by omega)]
          exact hre.1.1.2.2.2.2.1 r hr
        · have hv' : b < qB (oQ A) + 1 := hb
          show (uI (uI I 68 (38 + qB (oQ A)) x) 68 2 (nI (qB (oQ A)) + nI 1)) 68 (38 + b) = nI (ptF (qM (oQ A)) (qB (oQ A)) i b)
          rw [uI_eq, upd_n (by omega), uI_eq]
          unfold ptF
          by_cases e : b = qB (oQ A)
          · rw [if_pos e, e, upd_s]
            exact ex
          · rw [if_neg e, upd_n (by omega)]
            exact hre.1.1.2.2.2.2.2 b (by omega)
        · have y := (hA0.ba x).1
          rw [eS] at y
          exact y
        · funext q
          show wLay _ q = oW A q
          unfold wLay
          by_cases cj : q < 69
          · rw [if_pos cj, f1 _ (by omega) (by omega)]
            exact h0.w cj
          · rw [if_neg cj, fq 93 (by decide)]
            exact h0.w93 cj
        · have hk : k' < oN A := hk
          rw [f1 _ (by omega) (by omega)]
          exact hs.2.2 k' j' hk hj
      exact fin
    · rw [eB] at v
      have hv : ¬ qB (oQ A) < 4 := by
        have := nI_inj v (by omega) (by omega)
        omega
      exact no I J FMl.rf h0 (by unfold baS; rw [decide_eq_false hv, Bool.and_false]; rfl)
  · refine And.intro (fun _ => ?_) (fun z => absurd rfl z)
    exact no I J FMl.rf h0 (by unfold baS; rw [hx]; simp)
end
section
-- ===== a step taken back, both sides =====
def undoS (A : Ast) : Int32 × Ast := if oN A = 0 then (-1, A) else (nI (oN A - 1), (oQ A, fun k => if k < 69 then oF A (oN A - 1) k else oW A k, oN A - 1, oF A))
theorem AOK.undo {A : Ast} (h : AOK A) : AOK (undoS A).2 := by
  unfold undoS
  split
  · exact h
  · refine ⟨h.1, fun k hk h67 => ?_, ?_, fun k hk => ?_⟩
    · show okC k (if k < 69 then oF A (oN A - 1) k else oW A k)
      rw [if_pos hk]
      exact h.2.2.2 (oN A - 1) (by omega) k hk h67
    · have := h.2.2.1
      show oN A - 1 ≤ 30
      omega
    · have hk : k < oN A - 1 := hk
      exact h.2.2.2 k (by omega)
set_option maxRecDepth 100000 in
set_option maxHeartbeats 4000000 in
theorem cd_undo (l : Launch) (d : Nat) (ru ta : Nat) (rs : List XO) (I : XI) (J : XJ) (Rp : XR) (L : Lws) (A : Ast) (hA : AOK A) (h : CA I ru L A) (hR : ∀ (I' : XI), FCl I I' → CA I' ru L (undoS A).2 → Rp (some (.int (undoS A).1)) (shH ru ta rs) I' J) : xm l (d + 3) 0 0 mX11_undo [.ref 0] (shH ru ta rs) I J Rp := by
  have h0 := h
  obtain ⟨hc, hr, hs⟩ := h
  obtain ⟨hq, hw, hn, hf⟩ := hA
  obtain ⟨_, first, hfi, e1, e2, hst⟩ := hs
  refine xm_ofK 0 (X := xxX11) (t := tX11_undo) (stop := []) (ini := false) xx11 pl11 rfl kX11_undo (fun h => by cases h) (Nat.le_of_ble_eq_true rfl) (fun K hK => ?_)
  refine xm_ofK 0 (X := xxX6) (t := tX6_takeBack) (stop := []) (ini := false) xx6 pl6 rfl kX6_takeBack (fun h => by cases h) (Nat.le_of_ble_eq_true rfl) (fun K2 hK2 => ?_)
  refine (show xm l (d + 1) 0 0 mX6_placeOf [.ref 1, .int (I 1 2 - nI 1)] (shH ru ta rs) I J _ from ?_)
  by_cases n0 : oN A = 0
  · -- none
    have eS : undoS A = (-1, A) := if_pos n0
    have fin : Rp (some (.int (-1))) (shH ru ta rs) I J := by
      have z := hR I FCl.rf (by rw [eS]; exact h0)
      rw [eS] at z
      exact z
    have le0 : I 1 2 ≤ 0 := by rw [e2, n0]; decide
    refine xm_ofK 0 (X := xxX6) (t := tX6_placeOf) (stop := []) (ini := false) xx6 pl6 rfl kX6_placeOf (fun h => by cases h) (Nat.le_of_ble_eq_true rfl) (fun K3 hK3 => ?_)
    refine And.intro (show ¬ (nI 31 = 0) by decide) ?_
    refine And.intro (fun z => absurd (show nI 69 = nI 69 from rfl) z) (fun _ => ?_)
    refine And.intro (fun _ => ?_) (fun _ => ?_)
    · refine And.intro (fun _ => ?_) (fun z => absurd le0 z)
      refine And.intro (Or.inl rfl) ?_
      refine And.intro (fun _ => ?_) (fun z => absurd rfl z)
      exact fin
    · refine And.intro (fun _ => ?_) (fun _ => ?_)
      · refine And.intro (fun _ => ?_) (fun z => absurd le0 z)
        refine And.intro (Or.inl rfl) ?_
        refine And.intro (fun _ => ?_) (fun z => absurd rfl z)
        exact fin
      · refine And.intro (fun _ => ?_) (fun z => absurd le0 z)
        refine And.intro (Or.inl rfl) ?_
        refine And.intro (fun _ => ?_) (fun z => absurd rfl z)
        exact fin
  · have en : I 1 2 - nI 1 = nI (oN A - 1) := by rw [e2, nI_subI (by omega) (by omega)]
    have eS : undoS A = (nI (oN A - 1), (oQ A, fun k => if k < 69 then oF A (oN A - 1) k else oW A k, oN A - 1, oF A)) := if_neg n0
    rw [eS] at hR
    rw [en]
    refine cs_place l d ru ta rs I J _ 1 (Or.inl rfl) first (oN A - 1) e1 hfi (by omega) ?_
    have hS : (first + (oN A - 1)) % 31 * 69 ≤ 2070 := by omega
    have rc := hst (oN A - 1) (by omega)
    generalize hSd : (first + (oN A - 1)) % 31 * 69 = S at hS rc ⊢
    have gt0 : ¬ I 1 2 ≤ 0 := by
      rw [e2]
      exact Int32.not_le.mpr ((npos (by omega)).mpr (by omega))
    have z0 : (nI 0).toNatClampNeg = 0 := by decide
    have z69 : (nI 69).toNatClampNeg = 69 := by decide
    have zs : (nI S).toNatClampNeg = S := nI_clamp (by omega)
    refine And.intro (fun z => absurd (show nI 69 = nI 69 from rfl) z) (fun _ => ?_)
    refine And.intro (fun z => absurd (show nI S < 0 from z) (nI_nn (by omega))) (fun _ => ?_)
    refine And.intro (fun z => absurd (show nI 2139 < nI S + nI 69 from z) (by
      rw [nI_add, nlt (by omega) (by omega)]
      omega)) (fun _ => ?_)
    refine And.intro (fun z => absurd (show I 1 2 ≤ 0 from z) gt0) (fun _ => ?_)
    refine And.intro (fun _ => ?_) (fun z => absurd (show nI 1 = 0 from z) (by decide))
    have q : ¬ nI S < 0 ∧ ¬ nI 0 < 0 ∧ ¬ nI 69 < 0 ∧ (nI S).toNatClampNeg + (nI 69).toNatClampNeg ≤ 2139 ∧ (nI 0).toNatClampNeg + (nI 69).toNatClampNeg ≤ 69 := ⟨nI_nn (by omega), by decide, by decide, by rw [zs, z69]; omega, by decide⟩
    refine And.intro q ?_
    refine And.intro (Or.inr rfl) ?_
    refine And.intro (fun z => absurd (show (1 : Int32) = 0 from z) (by decide)) (fun _ => ?_)
    have c12 : (cI (uI I 1 2 (I 1 2 - nI 1)) 2 27 S 0 69) 1 2 = nI (oN A - 1) := by
      rw [cI_ne (by decide), uI_rd, en]
    have c11 : (cI (uI I 1 2 (I 1 2 - nI 1)) 2 27 S 0 69) 1 1 = nI first := by
      rw [cI_ne (by decide), uI_eq, upd_n (by decide)]
      exact e1
    have cq : ∀ q, q ≠ 1 → q ≠ 27 → (cI (uI I 1 2 (I 1 2 - nI 1)) 2 27 S 0 69) q = I q := fun q a b => by
      rw [cI_ne b, uI_ne a]
    have c27 : (cI (uI I 1 2 (I 1 2 - nI 1)) 2 27 S 0 69) 27 = va_cpy (I 2) (I 27) S 0 69 := by
      rw [cI_eq, uI_ne (by decide), uI_ne (by decide)]
    have fin : Rp (some (.int ((cI (uI I 1 2 (I 1 2 - nI 1)) 2 27 S 0 69) 1 2))) (shH ru ta rs) (cI (uI I 1 2 (I 1 2 - nI 1)) 2 27 S 0 69) J := by
      rw [c12]
      refine hR _ (fun q a b c d e => cq q a e) ⟨hc.keep (fun q hq => cq q (by omega) (by omega)), ?_, by have := hn; show oN A - 1 ≤ 30; omega, first, hfi, c11, c12, fun k hk => ?_⟩
      · show RC (qT (oQ A)) _ _
        rw [c27]
        refine rc.cg (fun k hk => ?_) (fun k hk => ?_)
        · show (if k < 69 then oF A (oN A - 1) k else oW A k) = _
          rw [if_pos hk]
        · simp only [va_cpy]
          rw [if_pos (by omega)]
          congr 1
      · have hk : k < oN A - 1 := hk
        refine (hst k (by omega)).cg (fun _ _ => rfl) (fun j hj => ?_)
        rw [cq 2 (by decide) (by decide)]
    rw [← zs, ← z0, ← z69] at fin
    exact fin
def udS (I : XI) (S k : Nat) : Rw := fun j => if 60 ≤ j ∧ j < 60 + k then I 68 (130 + 69 * S + (j - 60)) else I 68 j
theorem udS_s {I I1 : XI} {S k : Nat} (hk : k < 69) (hf : ∀ q, q ≠ 68 → I1 q = I q) (h : I1 68 = udS I S k) : (∀ q, q ≠ 68 → uI I1 68 (60 + k) (I1 68 (130 + 69 * S + k)) q = I q) ∧ uI I1 68 (60 + k) (I1 68 (130 + 69 * S + k)) 68 = udS I S (k + 1) := by
  refine ⟨fun q hq => (uI_ne hq).trans (hf q hq), ?_⟩
  rw [uI_eq, h]
  funext j
  show (if j = 60 + k then udS I S k (130 + 69 * S + k) else udS I S k j) = udS I S (k + 1) j
  unfold udS
  by_cases e : j = 60 + k
  · subst e
    rw [if_pos rfl, if_neg (by omega), if_pos (by omega), show 60 + k - 60 = k by omega]
  · rw [if_neg e]
    by_cases z : 60 ≤ j ∧ j < 60 + k
    · rw [if_pos z, if_pos (by omega)]
    · rw [if_neg z, if_neg (by omega)]
abbrev udz (l : Launch) (d : Nat) (ru ta : Nat) (rs : List XO) (J : XJ) (Rp : XR) (n k : Nat) (I : XI) : Prop := xrun xxX12 (some .int) false false (shH ru ta rs).length 0 0 none l d tX12_undo [23] Rp n 23 [some (.ref 67), some (.int (nI k))] [] (shH ru ta rs) I J 0 0
set_option maxRecDepth 100000 in
set_option maxHeartbeats 2000000 in
theorem md_undo_loop (l : Launch) (d : Nat) (ru ta : Nat) (rs : List XO) (J : XJ) (Rp : XR) (S : Nat) (hS : S ≤ 29) (I0 : XI) (e5 : I0 68 5 = nI S) (hR : ∀ I', (∀ q, q ≠ 68 → I' q = I0 q) → I' 68 = udS I0 S 69 → Rp (some (.int (nI S))) (shH ru ta rs) I' J) : ∀ (m k n : Nat) (I1 : XI), k + m = 69 → m < n → ((∀ q, q ≠ 68 → I1 q = I0 q) ∧ I1 68 = udS I0 S k) → udz l d ru ta rs J Rp n k I1 := by
  intro m
  induction m with
  | zero =>
    intro k n I1 hk hn hI
    obtain ⟨n, rfl⟩ : ∃ n', n = n' + 1 := ⟨n - 1, by omega⟩
    have hk : k = 69 := by omega
    have e : I1 68 5 = nI S := by
      rw [hI.2]
      exact (if_neg (by omega)).trans e5
    refine xrun_step fun K hK => ?_
    refine And.intro (fun _ => ?_) (fun z => absurd (show nI 69 ≤ nI k from by subst hk; exact Int32.le_refl _) z)
    subst hk
    refine And.intro (show vp_in (nI 5) 2200 from vp_b (by decide)) ?_
    have y := hR I1 hI.1 hI.2
    rw [← e] at y
    exact y
  | succ m ih =>
    intro k n I1 hk hn hI
    obtain ⟨n, rfl⟩ : ∃ n', n = n' + 1 := ⟨n - 1, by omega⟩
    have e : I1 68 5 = nI S := by
      rw [hI.2]
      exact (if_neg (by omega)).trans e5
    have c := ix_col hS (show k < 69 by omega)
    have r := ix_row (show k < 69 by omega)
    refine xrun_step fun K hK => ?_
    refine And.intro (fun z => absurd (show nI 69 ≤ nI k from z) (nI_ge (by omega) (by omega))) (fun _ => ?_)
    refine And.intro (show vp_in (nI 5) 2200 from vp_b (by decide)) ?_
    refine And.intro (show vp_in (nI 130 + nI 69 * (I1 68 5) + nI k) 2200 from by rw [e]; exact c.2) ?_
    refine And.intro (show vp_in (nI 60 + nI k) 2200 from r.2) ?_
    refine hK 23 [some (.ref 67), some (.int (nI k + 1))] [] (shH ru ta rs) (uI I1 68 (nI 60 + nI k).toNatClampNeg (I1 68 (nI 130 + nI 69 * (I1 68 5) + nI k).toNatClampNeg)) J 0 0 ?_
    rw [e, c.1, r.1, nI_1]
    exact ih (k + 1) n _ (by omega) (by omega) (udS_s (by omega) hI.1 hI.2)
set_option maxRecDepth 100000 in
set_option maxHeartbeats 4000000 in
theorem md_undo (l : Launch) (d : Nat) (ru ta : Nat) (rs : List XO) (I : XI) (J : XJ) (Rp : XR) (L : Lws) (A : Ast) (hA : AOK A) (h : MA I L A) (hR : ∀ (I' : XI), FMl I I' → MA I' L (undoS A).2 → Rp (some (.int (undoS A).1)) (shH ru ta rs) I' J) : xm l (d + 1) 0 0 mX12_undo [.ref 67] (shH ru ta rs) I J Rp := by
  have h0 := h
  obtain ⟨hre, hlay, hs⟩ := h
  obtain ⟨hn, e5, hst⟩ := hs
  refine xm_ofK 80 (X := xxX12) (t := tX12_undo) (stop := [23]) (ini := false) xx12 pl12 rfl kX12_undo (fun h => by cases h) (Nat.le_of_ble_eq_true rfl) (fun K hK => ?_)
  refine And.intro (show vp_in (nI 5) 2200 from vp_b (by decide)) ?_
  refine And.intro (fun (z : ¬ I 68 5 = 0) => ?_) (fun (z : I 68 5 = 0) => ?_)
  · rw [e5, neq0 (by omega)] at z
    have eS : undoS A = (nI (oN A - 1), (oQ A, fun k => if k < 69 then oF A (oN A - 1) k else oW A k, oN A - 1, oF A)) := if_neg z
    rw [eS] at hR
    have en : I 68 5 - nI 1 = nI (oN A - 1) := by rw [e5, nI_subI (by omega) (by omega)]
    refine And.intro (show vp_in (nI 5) 2200 from vp_b (by decide)) ?_
    refine And.intro (show vp_in (nI 5) 2200 from vp_b (by decide)) ?_
    refine hK 23 [some (.ref 67), some (.int (nI 0))] [] (shH ru ta rs) (uI I 68 5 (I 68 5 - nI 1)) J 0 0 ?_
    rw [en]
    have lo : ∀ j, j ≠ 5 → (uI I 68 5 (nI (oN A - 1))) 68 j = I 68 j := fun j hj => by rw [uI_eq, upd_n hj]
    refine md_undo_loop l d ru ta rs J Rp (oN A - 1) (by omega) (uI I 68 5 (nI (oN A - 1))) (by rw [uI_rd]) (fun I' g1 g2 => ?_) 69 0 80 _ (by omega) (by omega) ⟨fun _ _ => rfl, ?_⟩
    · have gq : ∀ q, q ≠ 68 → I' q = I q := fun q hq => (g1 q hq).trans (uI_ne hq)
      have gc : ∀ j, j < 60 ∨ 129 ≤ j → j ≠ 5 → I' 68 j = I 68 j := fun j hj h5 => by
        rw [g2]
        exact (if_neg (by omega)).trans (lo j h5)
      have g5 : I' 68 5 = nI (oN A - 1) := by
        rw [g2]
        exact (if_neg (by omega)).trans (by rw [uI_rd])
      refine hR I' ⟨fun q a _ _ => gq q a, fun j hj => gc j (by omega) (by omega), fun r => ⟨fun j => ?_, fun j => by rw [gq 93 (by decide)]; exact r.2 j⟩⟩ ⟨hre.cells (fun q a _ _ => gq q a) (fun j a b => gc j (by omega) b), ?_, by show oN A - 1 ≤ 30; omega, g5, fun k j hk hj => ?_⟩
      · by_cases e5' : j = 5
        · subst e5'
          rw [g5, show cellI CF 68 5 = (0, 30) from by decide +kernel]
          exact inI_n (by omega) (by omega)
        · by_cases c : 60 ≤ j ∧ j < 129
          · rw [g2, show cellI CF 68 j = cellI CF 68 (60 + (j - 60)) from by rw [show 60 + (j - 60) = j by omega], ← cell_col (S := oN A - 1) (by omega)]
            refine (show udS _ (oN A - 1) 69 j = _ from (if_pos (by omega)).trans (lo _ (by omega))) ▸ ?_
            exact r.1 _
          · rw [gc j (by omega) e5']
            exact r.1 j
      · funext j
        show wLay I' j = if j < 69 then oF A (oN A - 1) j else oW A j
        unfold wLay
        by_cases c : j < 69
        · rw [if_pos c, if_pos c, g2]
          refine (if_pos (by omega)).trans ?_
          rw [show 130 + 69 * (oN A - 1) + (60 + j - 60) = 130 + 69 * (oN A - 1) + j by omega, lo _ (by omega)]
          exact hst (oN A - 1) j (by omega) c
        · rw [if_neg c, if_neg c, gq 93 (by decide)]
          exact h0.w93 c
      · have hk : k < oN A - 1 := hk
        rw [gc _ (by omega) (by omega)]
        exact hst k j (by omega) hj
    · funext j
      exact (if_neg (by omega)).symm
  · rw [e5, neq0 (by omega)] at z
    have eS : undoS A = (-1, A) := if_pos z
    have y := hR I FMl.rf (by rw [eS]; exact h0)
    rw [eS] at y
    exact y
end
section
-- ===== what is asked of things, reapers, bales, barns: both sides =====
theorem CA.n {I I' : XI} {ru : Nat} {L : Lws} {A : Ast} (h : CA I ru L A) (f : ∀ q, q ≠ 24 → I' q = I q) : CA I' ru L A := by
  obtain ⟨hc, hr, hn, first, hfi, e1, e2, hst⟩ := h
  refine ⟨hc.fc (fun q a b c d => f q c), by rw [f 27 (by decide)]; exact hr, hn, first, hfi, by rw [f 1 (by decide)]; exact e1, by rw [f 1 (by decide)]; exact e2, fun k hk => ?_⟩
  rw [f 2 (by decide)]
  exact hst k hk
theorem MA.n {I I1 I2 : XI} {L : Lws} {A : Ast} (h : MA I L A) (f : F93 I I1) (e1 : I1 93 = oW A) (g : ∀ q, q ≠ 91 → I2 q = I1 q) : MA I2 L A := h.f2 f e1 (F93.n g) (g 93 (by decide))
theorem MA.srm {I I1 : XI} {L : Lws} {A : Ast} (h : MA I L A) (hw : WR (oW A)) (f : F93 I I1) (e1 : I1 93 = oW A) : SRm I1 (oQ A) L (nW (oW A)) (oW A 67) := by
  have s := (h.1.keep f).srm (by rw [e1]; exact hw)
  rw [e1] at s
  exact s
def swS (ys : List Int32) (y : Int32) : Nat → Int32
  | k => match ys with
    | [] => -1
    | v :: vs => if y = nI k then v else swS vs y (k + 1)
def ofT (L : Lws) (A : Ast) (t : Nat) (y : Int32) : Int32 := swS [nI (qH (oQ A) t), nI (qK (oQ A) t), nI (qO (oQ A) t), oW A t, nI (lgR (oQ A) L (oW A) t), nI (grR (oQ A) L (oW A) t), if maR (oQ A) L (oW A) t (lgR (oQ A) L (oW A) t) = true then 1 else 0] y 0
def ofS (L : Lws) (A : Ast) (x y : Int32) : Int32 := if vIn x (qT (oQ A)) = true then ofT L A x.toNatClampNeg y else -1
def orT (A : Ast) (r : Nat) (y : Int32) : Int32 := swS [nI (qC (oQ A) r), nI 1 - oW A (8 + r), oW A (12 + r)] y 0
def orS (A : Ast) (x y : Int32) : Int32 := if vIn x (qR (oQ A)) = true then orT A x.toNatClampNeg y else -1
def blT (L : Lws) (A : Ast) (b : Nat) (y : Int32) : Int32 := swS [oW A (16 + b), oW A (28 + b), oW A (40 + b), oW A (52 + b), nI (spR L (oW A) b), nI (seR L (oW A) b)] y 0
def blS (L : Lws) (A : Ast) (x y : Int32) : Int32 := if (vIn x 12 && decide (0 < oW A (28 + x.toNatClampNeg))) = true then blT L A x.toNatClampNeg y else -1
def obT (A : Ast) (b : Nat) (y : Int32) : Int32 := swS [nI (qM (oQ A) b), feR (oW A) (nI b) 12] y 0
def obS (A : Ast) (x y : Int32) : Int32 := if vIn x (qB (oQ A)) = true then obT A x.toNatClampNeg y else -1
theorem sw_y {v : Int32} {vs : List Int32} {y : Int32} {k : Nat} (h : y = nI k) : swS (v :: vs) y k = v := if_pos h
theorem sw_n {v : Int32} {vs : List Int32} {y : Int32} {k : Nat} (h : ¬ y = nI k) : swS (v :: vs) y k = swS vs y (k + 1) := if_neg h
set_option maxRecDepth 100000 in
set_option maxHeartbeats 4000000 in
theorem cd_of (l : Launch) (d : Nat) (ru ta : Nat) (rs : List XO) (I : XI) (J : XJ) (Rp : XR) (L : Lws) (A : Ast) (hA : AOK A) (h : CA I ru L A) (x y : Int32) (hR : ∀ (I' : XI) (J' : XJ), FCl I I' → CA I' ru L A → Rp (some (.int (ofS L A x y))) (shH ru ta rs) I' J') : xm l (d + 8) 0 0 mX11_of [.ref 0, .int x, .int y] (shH ru ta rs) I J Rp := by
  have h0 := h
  obtain ⟨hc, hr, hs⟩ := h
  obtain ⟨hq, hw, hn, hf⟩ := hA
  have t8 := hq.1
  have r4 := hq.2.1
  have b4 := hq.2.2.1
  refine xm_ofK 0 (X := xxX11) (t := tX11_of) (stop := []) (ini := false) xx11 pl11 rfl kX11_of (fun h => by cases h) (Nat.le_of_ble_eq_true rfl) (fun K hK => ?_)
  refine cc_hasThing l (d + 6) ru ta rs I J _ (oQ A) L hc x (fun b hb ex => ?_) (fun hn => ?_)
  · refine And.intro (fun _ => ?_) (fun z => absurd (show (1 : Int32) = 0 from z) (by decide))
    have eS : ofS L A x y = ofT L A b y := by
      subst ex
      unfold ofS
      rw [nI_clamp (by omega), vIn_n (by omega) hb]
      rfl
    have fin : ∀ (v : Int32) (I' : XI) (J' : XJ), ofT L A b y = v → (∀ q, q ≠ 24 → I' q = I q) → Rp (some (.int v)) (shH ru ta rs) I' J' := fun v I' J' e f => by
      have z := hR I' J' (fun q _ _ _ d _ => f q d) (h0.n f)
      rw [eS, e] at z
      exact z
    subst ex
    refine And.intro (fun (z0 : y = nI 0) => ?_) (fun (z0 : ¬ y = nI 0) => ?_)
    · have e : I 13 b = nI (qH (oQ A) b) := (hc.1.2.2.2.1 b hb).1
      refine And.intro (show vp_in (nI b) 8 from vp_in_nI (by omega) (by omega)) ?_
      have ib : (nI b).toNatClampNeg = b := nI_clamp (by omega)
      have z := fin _ I J (by unfold ofT; rw [sw_y z0]) (fun _ _ => rfl)
      rw [← e, ← ib] at z
      exact z
    refine And.intro (fun (z1 : y = nI 1) => ?_) (fun (z1 : ¬ y = nI 1) => ?_)
    · have e : I 14 b = nI (qK (oQ A) b) := (hc.1.2.2.2.1 b hb).2.1
      refine And.intro (show vp_in (nI b) 8 from vp_in_nI (by omega) (by omega)) ?_
      have ib : (nI b).toNatClampNeg = b := nI_clamp (by omega)
      have z := fin _ I J (by unfold ofT; rw [sw_n z0, sw_y z1]) (fun _ _ => rfl)
      rw [← e, ← ib] at z
      exact z
    refine And.intro (fun (z2 : y = nI 2) => ?_) (fun (z2 : ¬ y = nI 2) => ?_)
    · have e : I 15 b = nI (qO (oQ A) b) := (hc.1.2.2.2.1 b hb).2.2
      refine And.intro (show vp_in (nI b) 8 from vp_in_nI (by omega) (by omega)) ?_
      have ib : (nI b).toNatClampNeg = b := nI_clamp (by omega)
      have z := fin _ I J (by unfold ofT; rw [sw_n z0, sw_n z1, sw_y z2]) (fun _ _ => rfl)
      rw [← e, ← ib] at z
      exact z
    refine And.intro (fun (z3 : y = nI 3) => ?_) (fun (z3 : ¬ y = nI 3) => ?_)
    · have e : I 27 (0 + b) = oW A b := by rw [Nat.zero_add]; exact hr.t hb (by omega)
      refine And.intro (show vp_in (nI 0 + nI b) 69 from vx_2 (by omega) (by omega)) ?_
      have ib : (nI 0 + nI b).toNatClampNeg = 0 + b := ix_c (by omega)
      have z := fin _ I J (by unfold ofT; rw [sw_n z0, sw_n z1, sw_n z2, sw_y z3]) (fun _ _ => rfl)
      rw [← e, ← ib] at z
      exact z
    refine And.intro (fun (z4 : y = nI 4) => ?_) (fun (z4 : ¬ y = nI 4) => ?_)
    · refine cw_shadow l (d + 3) ru ta rs I J _ (oQ A) L hc (oW A) hr hw b hb (fun I1 J1 f1 => ?_)
      exact fin _ I1 J1 (by unfold ofT; rw [sw_n z0, sw_n z1, sw_n z2, sw_n z3, sw_y z4]) f1
    refine And.intro (fun (z5 : y = nI 5) => ?_) (fun (z5 : ¬ y = nI 5) => ?_)
    · refine cw_grows l (d + 3) ru ta rs I J _ (oQ A) L hc (oW A) hr hw b hb (fun I1 J1 f1 => ?_)
      exact fin _ I1 J1 (by unfold ofT; rw [sw_n z0, sw_n z1, sw_n z2, sw_n z3, sw_n z4, sw_y z5]) f1
    refine And.intro (fun (z6 : y = nI 6) => ?_) (fun (z6 : ¬ y = nI 6) => ?_)
    · refine cw_shadow l (d + 3) ru ta rs I J _ (oQ A) L hc (oW A) hr hw b hb (fun I1 J1 f1 => ?_)
      refine cw_may l (d + 3) ru ta rs I1 J1 _ (oQ A) L (hc.fc (fun q a b c d => f1 q c)) (oW A) (by rw [f1 27 (by decide)]; exact hr) hw b _ hb (lgR_le hq hw hb) (fun I2 J2 e f2 => ?_) (fun I2 J2 e f2 => ?_)
      · refine And.intro (fun z => absurd (show (1 : Int32) = 0 from z) (by decide)) (fun _ => ?_)
        exact fin _ I2 J2 (by unfold ofT; rw [sw_n z0, sw_n z1, sw_n z2, sw_n z3, sw_n z4, sw_n z5, sw_y z6, if_pos e]; rfl) (fun q hq => (f2 q hq).trans (f1 q hq))
      · refine And.intro (fun _ => ?_) (fun z => absurd rfl z)
        exact fin _ I2 J2 (by unfold ofT; rw [sw_n z0, sw_n z1, sw_n z2, sw_n z3, sw_n z4, sw_n z5, sw_y z6, if_neg (by rw [e]; decide)]; rfl) (fun q hq => (f2 q hq).trans (f1 q hq))
    exact fin _ I J (by unfold ofT; rw [sw_n z0, sw_n z1, sw_n z2, sw_n z3, sw_n z4, sw_n z5, sw_n z6]; rfl) (fun _ _ => rfl)
  · refine And.intro (fun z => absurd rfl z) (fun _ => ?_)
    have z := hR I J FCl.rf h0
    have eS : ofS L A x y = -1 := by
      unfold ofS
      cases e : vIn x (qT (oQ A)) with
      | false => rfl
      | true =>
        obtain ⟨b, hb, ey, _⟩ := vIn_t (by omega) e
        exact absurd ey (hn b hb)
    rw [eS] at z
    exact z
set_option maxRecDepth 100000 in
set_option maxHeartbeats 4000000 in
theorem cd_ofReaper (l : Launch) (d : Nat) (ru ta : Nat) (rs : List XO) (I : XI) (J : XJ) (Rp : XR) (L : Lws) (A : Ast) (hA : AOK A) (h : CA I ru L A) (x y : Int32) (hR : ∀ (I' : XI) (J' : XJ), FCl I I' → CA I' ru L A → Rp (some (.int (orS A x y))) (shH ru ta rs) I' J') : xm l (d + 2) 0 0 mX11_ofReaper [.ref 0, .int x, .int y] (shH ru ta rs) I J Rp := by
  have h0 := h
  obtain ⟨hc, hr, hs⟩ := h
  obtain ⟨hq, hw, hn, hf⟩ := hA
  have t8 := hq.1
  have r4 := hq.2.1
  have b4 := hq.2.2.1
  refine xm_ofK 0 (X := xxX11) (t := tX11_ofReaper) (stop := []) (ini := false) xx11 pl11 rfl kX11_ofReaper (fun h => by cases h) (Nat.le_of_ble_eq_true rfl) (fun K hK => ?_)
  refine cc_hasReaper l (d + 0) ru ta rs I J _ (oQ A) L hc x (fun b hb ex => ?_) (fun hn => ?_)
  · refine And.intro (fun _ => ?_) (fun z => absurd (show (1 : Int32) = 0 from z) (by decide))
    have eS : orS A x y = orT A b y := by
      subst ex
      unfold orS
      rw [nI_clamp (by omega), vIn_n (by omega) hb]
      rfl
    have fin : ∀ (v : Int32) (I' : XI) (J' : XJ), orT A b y = v → (∀ q, q ≠ 24 → I' q = I q) → Rp (some (.int v)) (shH ru ta rs) I' J' := fun v I' J' e f => by
      have z := hR I' J' (fun q _ _ _ d _ => f q d) (h0.n f)
      rw [eS, e] at z
      exact z
    subst ex
    refine And.intro (fun (z0 : y = nI 0) => ?_) (fun (z0 : ¬ y = nI 0) => ?_)
    · have e : I 16 b = nI (qC (oQ A) b) := hc.1.2.2.2.2.1 b hb
      refine And.intro (show vp_in (nI b) 4 from vp_in_nI (by omega) (by omega)) ?_
      have ib : (nI b).toNatClampNeg = b := nI_clamp (by omega)
      have z := fin _ I J (by unfold orT; rw [sw_y z0]) (fun _ _ => rfl)
      rw [← e, ← ib] at z
      exact z
    refine And.intro (fun (z1 : y = nI 1) => ?_) (fun (z1 : ¬ y = nI 1) => ?_)
    · have e : I 27 (8 + b) = nI 1 - oW A (8 + b) := (hr.2.1 b (by omega)).1
      refine And.intro (show vp_in (nI 8 + nI b) 69 from vx_2 (by omega) (by omega)) ?_
      have ib : (nI 8 + nI b).toNatClampNeg = 8 + b := ix_c (by omega)
      have z := fin _ I J (by unfold orT; rw [sw_n z0, sw_y z1]) (fun _ _ => rfl)
      rw [← e, ← ib] at z
      exact z
    refine And.intro (fun (z2 : y = nI 2) => ?_) (fun (z2 : ¬ y = nI 2) => ?_)
    · have e : I 27 (12 + b) = oW A (12 + b) := (hr.2.1 b (by omega)).2
      refine And.intro (show vp_in (nI 12 + nI b) 69 from vx_2 (by omega) (by omega)) ?_
      have ib : (nI 12 + nI b).toNatClampNeg = 12 + b := ix_c (by omega)
      have z := fin _ I J (by unfold orT; rw [sw_n z0, sw_n z1, sw_y z2]) (fun _ _ => rfl)
      rw [← e, ← ib] at z
      exact z
    exact fin _ I J (by unfold orT; rw [sw_n z0, sw_n z1, sw_n z2]; rfl) (fun _ _ => rfl)
  · refine And.intro (fun z => absurd rfl z) (fun _ => ?_)
    have z := hR I J FCl.rf h0
    have eS : orS A x y = -1 := by
      unfold orS
      cases e : vIn x (qR (oQ A)) with
      | false => rfl
      | true =>
        obtain ⟨b, hb, ey, _⟩ := vIn_t (by omega) e
        exact absurd ey (hn b hb)
    rw [eS] at z
    exact z
set_option maxRecDepth 100000 in
set_option maxHeartbeats 4000000 in
theorem cd_bale (l : Launch) (d : Nat) (ru ta : Nat) (rs : List XO) (I : XI) (J : XJ) (Rp : XR) (L : Lws) (A : Ast) (hA : AOK A) (h : CA I ru L A) (x y : Int32) (hR : ∀ (I' : XI) (J' : XJ), FCl I I' → CA I' ru L A → Rp (some (.int (blS L A x y))) (shH ru ta rs) I' J') : xm l (d + 8) 0 0 mX11_bale [.ref 0, .int x, .int y] (shH ru ta rs) I J Rp := by
  have h0 := h
  obtain ⟨hc, hr, hs⟩ := h
  obtain ⟨hq, hw, hn, hf⟩ := hA
  have t8 := hq.1
  have r4 := hq.2.1
  have b4 := hq.2.2.1
  refine xm_ofK 0 (X := xxX11) (t := tX11_bale) (stop := []) (ini := false) xx11 pl11 rfl kX11_bale (fun h => by cases h) (Nat.le_of_ble_eq_true rfl) (fun K hK => ?_)
  refine cw_hasBale l (d + 6) ru ta rs I J _ (qT (oQ A)) (oW A) hr hw x (fun b hb ex hp => ?_) (fun hn => ?_)
  · refine And.intro (fun _ => ?_) (fun z => absurd (show (1 : Int32) = 0 from z) (by decide))
    have eS : blS L A x y = blT L A b y := by
      subst ex
      unfold blS
      rw [nI_clamp (by omega), vIn_n (by omega) hb, decide_eq_true hp]
      rfl
    have fin : ∀ (v : Int32) (I' : XI) (J' : XJ), blT L A b y = v → (∀ q, q ≠ 24 → I' q = I q) → Rp (some (.int v)) (shH ru ta rs) I' J' := fun v I' J' e f => by
      have z := hR I' J' (fun q _ _ _ d _ => f q d) (h0.n f)
      rw [eS, e] at z
      exact z
    subst ex
    refine And.intro (fun (z0 : y = nI 0) => ?_) (fun (z0 : ¬ y = nI 0) => ?_)
    · have e : I 27 (16 + b) = oW A (16 + b) := ((hr.2.2.1 b hb).2 hp).1
      refine And.intro (show vp_in (nI 16 + nI b) 69 from vx_2 (by omega) (by omega)) ?_
      have ib : (nI 16 + nI b).toNatClampNeg = 16 + b := ix_c (by omega)
      have z := fin _ I J (by unfold blT; rw [sw_y z0]) (fun _ _ => rfl)
      rw [← e, ← ib] at z
      exact z
    refine And.intro (fun (z1 : y = nI 1) => ?_) (fun (z1 : ¬ y = nI 1) => ?_)
    · have e : I 27 (28 + b) = oW A (28 + b) := (hr.2.2.1 b hb).1
      refine And.intro (show vp_in (nI 28 + nI b) 69 from vx_2 (by omega) (by omega)) ?_
      have ib : (nI 28 + nI b).toNatClampNeg = 28 + b := ix_c (by omega)
      have z := fin _ I J (by unfold blT; rw [sw_n z0, sw_y z1]) (fun _ _ => rfl)
      rw [← e, ← ib] at z
      exact z
    refine And.intro (fun (z2 : y = nI 2) => ?_) (fun (z2 : ¬ y = nI 2) => ?_)
    · have e : I 27 (40 + b) = oW A (40 + b) := ((hr.2.2.1 b hb).2 hp).2.1
      refine And.intro (show vp_in (nI 40 + nI b) 69 from vx_2 (by omega) (by omega)) ?_
      have ib : (nI 40 + nI b).toNatClampNeg = 40 + b := ix_c (by omega)
      have z := fin _ I J (by unfold blT; rw [sw_n z0, sw_n z1, sw_y z2]) (fun _ _ => rfl)
      rw [← e, ← ib] at z
      exact z
    refine And.intro (fun (z3 : y = nI 3) => ?_) (fun (z3 : ¬ y = nI 3) => ?_)
    · have e : I 27 (52 + b) = oW A (52 + b) := ((hr.2.2.1 b hb).2 hp).2.2
      refine And.intro (show vp_in (nI 52 + nI b) 69 from vx_2 (by omega) (by omega)) ?_
      have ib : (nI 52 + nI b).toNatClampNeg = 52 + b := ix_c (by omega)
      have z := fin _ I J (by unfold blT; rw [sw_n z0, sw_n z1, sw_n z2, sw_y z3]) (fun _ _ => rfl)
      rw [← e, ← ib] at z
      exact z
    refine And.intro (fun (z4 : y = nI 4) => ?_) (fun (z4 : ¬ y = nI 4) => ?_)
    · refine cw_spoils2 l (d + 3) ru ta rs I J _ (oQ A) L hc (oW A) hr hw b hb (fun _ I1 J1 f1 => ?_) (fun hnp => absurd hp hnp)
      exact fin _ I1 J1 (by unfold blT; rw [sw_n z0, sw_n z1, sw_n z2, sw_n z3, sw_y z4]) f1
    refine And.intro (fun (z5 : y = nI 5) => ?_) (fun (z5 : ¬ y = nI 5) => ?_)
    · refine cw_sells l (d + 3) ru ta rs I J _ (oQ A) L hc (oW A) hr hw b hb hp (fun I1 J1 f1 => ?_)
      exact fin _ I1 J1 (by unfold blT; rw [sw_n z0, sw_n z1, sw_n z2, sw_n z3, sw_n z4, sw_y z5]) f1
    exact fin _ I J (by unfold blT; rw [sw_n z0, sw_n z1, sw_n z2, sw_n z3, sw_n z4, sw_n z5]; rfl) (fun _ _ => rfl)
  · refine And.intro (fun z => absurd rfl z) (fun _ => ?_)
    have z := hR I J FCl.rf h0
    have eS : blS L A x y = -1 := by
      unfold blS
      cases e : vIn x 12 with
      | false => rfl
      | true =>
        obtain ⟨b, hb, ey, e2⟩ := vIn_t (by omega) e
        rw [e2, decide_eq_false (hn b hb ey)]
        rfl
    rw [eS] at z
    exact z
set_option maxRecDepth 100000 in
set_option maxHeartbeats 4000000 in
theorem cd_ofBarn (l : Launch) (d : Nat) (ru ta : Nat) (rs : List XO) (I : XI) (J : XJ) (Rp : XR) (L : Lws) (A : Ast) (hA : AOK A) (h : CA I ru L A) (x y : Int32) (hR : ∀ (I' : XI) (J' : XJ), FCl I I' → CA I' ru L A → Rp (some (.int (obS A x y))) (shH ru ta rs) I' J') : xm l (d + 2) 0 0 mX11_ofBarn [.ref 0, .int x, .int y] (shH ru ta rs) I J Rp := by
  have h0 := h
  obtain ⟨hc, hr, hs⟩ := h
  obtain ⟨hq, hw, hn, hf⟩ := hA
  have t8 := hq.1
  have r4 := hq.2.1
  have b4 := hq.2.2.1
  refine xm_ofK 0 (X := xxX11) (t := tX11_ofBarn) (stop := []) (ini := false) xx11 pl11 rfl kX11_ofBarn (fun h => by cases h) (Nat.le_of_ble_eq_true rfl) (fun K hK => ?_)
  refine cc_hasBarn l (d + 0) ru ta rs I J _ (oQ A) L hc x (fun b hb ex => ?_) (fun hn => ?_)
  · refine And.intro (fun _ => ?_) (fun z => absurd (show (1 : Int32) = 0 from z) (by decide))
    have eS : obS A x y = obT A b y := by
      subst ex
      unfold obS
      rw [nI_clamp (by omega), vIn_n (by omega) hb]
      rfl
    have fin : ∀ (v : Int32) (I' : XI) (J' : XJ), obT A b y = v → (∀ q, q ≠ 24 → I' q = I q) → Rp (some (.int v)) (shH ru ta rs) I' J' := fun v I' J' e f => by
      have z := hR I' J' (fun q _ _ _ d _ => f q d) (h0.n f)
      rw [eS, e] at z
      exact z
    subst ex
    refine And.intro (fun (z0 : y = nI 0) => ?_) (fun (z0 : ¬ y = nI 0) => ?_)
    · have e : I 17 b = nI (qM (oQ A) b) := hc.1.2.2.2.2.2 b hb
      refine And.intro (show vp_in (nI b) 4 from vp_in_nI (by omega) (by omega)) ?_
      have ib : (nI b).toNatClampNeg = b := nI_clamp (by omega)
      have z := fin _ I J (by unfold obT; rw [sw_y z0]) (fun _ _ => rfl)
      rw [← e, ← ib] at z
      exact z
    refine And.intro (fun (z1 : y = nI 1) => ?_) (fun (z1 : ¬ y = nI 1) => ?_)
    · refine cw_feetIn l d ru ta rs I J _ _ _ hr hw (nI b) (nI_ne1 (by omega)) ?_
      exact fin _ I J (by unfold obT; rw [sw_n z0, sw_y z1]) (fun _ _ => rfl)
    exact fin _ I J (by unfold obT; rw [sw_n z0, sw_n z1]; rfl) (fun _ _ => rfl)
  · refine And.intro (fun z => absurd rfl z) (fun _ => ?_)
    have z := hR I J FCl.rf h0
    have eS : obS A x y = -1 := by
      unfold obS
      cases e : vIn x (qB (oQ A)) with
      | false => rfl
      | true =>
        obtain ⟨b, hb, ey, _⟩ := vIn_t (by omega) e
        exact absurd ey (hn b hb)
    rw [eS] at z
    exact z
end
section
-- ===== the reference: what is asked =====
set_option maxRecDepth 100000 in
set_option maxHeartbeats 4000000 in
theorem md_of (l : Launch) (d : Nat) (ru ta : Nat) (rs : List XO) (I : XI) (J : XJ) (Rp : XR) (L : Lws) (A : Ast) (hA : AOK A) (h : MA I L A) (x y : Int32) (hR : ∀ (I' : XI) (J' : XJ), FMl I I' → MA I' L A → Rp (some (.int (ofS L A x y))) (shH ru ta rs) I' J') : xm l (d + 10) 0 0 mX12_of [.ref 67, .int x, .int y] (shH ru ta rs) I J Rp := by
  have h0 := h
  obtain ⟨hre, hlay, hs⟩ := h
  obtain ⟨hq, hw, hn, hf⟩ := hA
  have t8 := hq.1
  have r4 := hq.2.1
  have b4 := hq.2.2.1
  have eT : I 68 0 = nI (qT (oQ A)) := hre.1.1.1
  have eR : I 68 1 = nI (qR (oQ A)) := hre.1.1.2.1
  have eB : I 68 2 = nI (qB (oQ A)) := hre.1.1.2.2.1
  have e88 : ∀ k, k < 12 → I 68 (88 + k) = oW A (28 + k) := fun k hk => by
    rw [← h0.w (k := 28 + k) (by omega), show 60 + (28 + k) = 88 + k by omega]
  have none_ : ofS L A x y = -1 → Rp (some (.int (-1))) (shH ru ta rs) I J := fun e => by
    have z := hR I J FMl.rf h0
    rw [e] at z
    exact z
  refine xm_ofK 0 (X := xxX12) (t := tX12_of) (stop := []) (ini := false) xx12 pl12 rfl kX12_of (fun h => by cases h) (Nat.le_of_ble_eq_true rfl) (fun K hK => ?_)
  refine md_isT l (d + 7) ru ta rs I J _ _ eT (by omega) x (fun hx => ?_) (fun hx => ?_)
  · refine And.intro (fun _ => ?_) (fun z => absurd (show (1 : Int32) = 0 from z) (by decide))
    obtain ⟨b, hb, ex, ex2⟩ := vIn_t (by omega) hx
    have eS : ofS L A x y = ofT L A b y := by
      unfold ofS
      rw [hx, ex2]
      rfl
    subst ex
    refine rx_lays l (d + 8) ru ta rs I J _ (fun I1 f1 e1 => ?_)
    rw [hlay] at e1
    have fin : ∀ (v : Int32) (I' : XI) (J' : XJ), ofT L A b y = v → (∀ q, q ≠ 91 → I' q = I1 q) → Rp (some (.int v)) (shH ru ta rs) I' J' := fun v I' J' e f => by
      have z := hR I' J' (FMl.f (f1.tr (F93.n f)) (by rw [f 93 (by decide), e1]; exact hw)) (h0.n f1 e1 f)
      rw [eS, e] at z
      exact z
    have g68 : ∀ k, I1 68 k = I 68 k := fun k => congrFun (f1 68 (by decide) (by decide)) k
    refine And.intro (fun (z0 : y = nI 0) => ?_) (fun (z0 : ¬ y = nI 0) => ?_)
    · have e : I1 68 (10 + b) = nI (qH (oQ A) b) := (g68 _).trans (hre.1.1.2.2.2.1 b hb).1
      refine And.intro (show vp_in (nI 10 + nI b) 2200 from vx_2 (by omega) (by omega)) ?_
      have ib : (nI 10 + nI b).toNatClampNeg = 10 + b := ix_c (by omega)
      have z := fin _ I1 J (by unfold ofT; rw [sw_y z0]) (fun _ _ => rfl)
      rw [← e, ← ib] at z
      exact z
    refine And.intro (fun (z1 : y = nI 1) => ?_) (fun (z1 : ¬ y = nI 1) => ?_)
    · have e : I1 68 (18 + b) = nI (qK (oQ A) b) := (g68 _).trans (hre.1.1.2.2.2.1 b hb).2.1
      refine And.intro (show vp_in (nI 18 + nI b) 2200 from vx_2 (by omega) (by omega)) ?_
      have ib : (nI 18 + nI b).toNatClampNeg = 18 + b := ix_c (by omega)
      have z := fin _ I1 J (by unfold ofT; rw [sw_n z0, sw_y z1]) (fun _ _ => rfl)
      rw [← e, ← ib] at z
      exact z
    refine And.intro (fun (z2 : y = nI 2) => ?_) (fun (z2 : ¬ y = nI 2) => ?_)
    · have e : I1 68 (26 + b) = nI (qO (oQ A) b) := (g68 _).trans (hre.1.1.2.2.2.1 b hb).2.2
      refine And.intro (show vp_in (nI 26 + nI b) 2200 from vx_2 (by omega) (by omega)) ?_
      have ib : (nI 26 + nI b).toNatClampNeg = 26 + b := ix_c (by omega)
      have z := fin _ I1 J (by unfold ofT; rw [sw_n z0, sw_n z1, sw_y z2]) (fun _ _ => rfl)
      rw [← e, ← ib] at z
      exact z
    refine And.intro (fun (z3 : y = nI 3) => ?_) (fun (z3 : ¬ y = nI 3) => ?_)
    · have e : I1 93 (0 + b) = oW A b := by rw [e1, Nat.zero_add]
      refine And.intro (show vp_in (nI 0 + nI b) 69 from vx_2 (by omega) (by omega)) ?_
      have ib : (nI 0 + nI b).toNatClampNeg = 0 + b := ix_c (by omega)
      have z := fin _ I1 J (by unfold ofT; rw [sw_n z0, sw_n z1, sw_n z2, sw_y z3]) (fun _ _ => rfl)
      rw [← e, ← ib] at z
      exact z
    refine And.intro (fun (z4 : y = nI 4) => ?_) (fun (z4 : ¬ y = nI 4) => ?_)
    · refine ex_long l d ru ta rs I1 J _ (oQ A) L _ _ (h0.srm hw f1 e1) b hb (fun I2 J2 f2 => ?_)
      exact fin _ I2 J2 (by unfold ofT; rw [sw_n z0, sw_n z1, sw_n z2, sw_n z3, sw_y z4]; rfl) f2
    refine And.intro (fun (z5 : y = nI 5) => ?_) (fun (z5 : ¬ y = nI 5) => ?_)
    · refine ex_grows l d ru ta rs I1 J _ (oQ A) L _ _ (h0.srm hw f1 e1) b hb (fun I2 J2 f2 => ?_)
      exact fin _ I2 J2 (by unfold ofT; rw [sw_n z0, sw_n z1, sw_n z2, sw_n z3, sw_n z4, sw_y z5]; rfl) f2
    refine And.intro (fun (z6 : y = nI 6) => ?_) (fun (z6 : ¬ y = nI 6) => ?_)
    · refine ex_long l d ru ta rs I1 J _ (oQ A) L _ _ (h0.srm hw f1 e1) b hb (fun I2 J2 f2 => ?_)
      refine ex_may l d ru ta rs I2 J2 _ (oQ A) L _ _ ((h0.srm hw f1 e1).keep f2) b (lgR (oQ A) L (oW A) b) hb (lgR_le hq hw hb) (fun r I3 J3 er f3 => ?_)
      by_cases c : maR (oQ A) L (oW A) b (lgR (oQ A) L (oW A) b) = true
      · have er : r = 1 := er.trans (if_pos c)
        subst er
        refine And.intro (fun z => absurd (show (1 : Int32) = 0 from z) (by decide)) (fun _ => ?_)
        exact fin _ I3 J3 (by unfold ofT; rw [sw_n z0, sw_n z1, sw_n z2, sw_n z3, sw_n z4, sw_n z5, sw_y z6, if_pos c]; rfl) (fun q hq => (f3 q hq).trans (f2 q hq))
      · have er : r = 0 := er.trans (if_neg c)
        subst er
        refine And.intro (fun _ => ?_) (fun z => absurd rfl z)
        exact fin _ I3 J3 (by unfold ofT; rw [sw_n z0, sw_n z1, sw_n z2, sw_n z3, sw_n z4, sw_n z5, sw_y z6, if_neg c]; rfl) (fun q hq => (f3 q hq).trans (f2 q hq))
    exact fin _ I1 J (by unfold ofT; rw [sw_n z0, sw_n z1, sw_n z2, sw_n z3, sw_n z4, sw_n z5, sw_n z6]; rfl) (fun _ _ => rfl)
  · refine And.intro (fun z => absurd rfl z) (fun _ => ?_)
    exact none_ (by unfold ofS; rw [hx]; rfl)
set_option maxRecDepth 100000 in
set_option maxHeartbeats 4000000 in
theorem md_ofReaper (l : Launch) (d : Nat) (ru ta : Nat) (rs : List XO) (I : XI) (J : XJ) (Rp : XR) (L : Lws) (A : Ast) (hA : AOK A) (h : MA I L A) (x y : Int32) (hR : ∀ (I' : XI) (J' : XJ), FMl I I' → MA I' L A → Rp (some (.int (orS A x y))) (shH ru ta rs) I' J') : xm l (d + 3) 0 0 mX12_ofReaper [.ref 67, .int x, .int y] (shH ru ta rs) I J Rp := by
  have h0 := h
  obtain ⟨hre, hlay, hs⟩ := h
  obtain ⟨hq, hw, hn, hf⟩ := hA
  have t8 := hq.1
  have r4 := hq.2.1
  have b4 := hq.2.2.1
  have eT : I 68 0 = nI (qT (oQ A)) := hre.1.1.1
  have eR : I 68 1 = nI (qR (oQ A)) := hre.1.1.2.1
  have eB : I 68 2 = nI (qB (oQ A)) := hre.1.1.2.2.1
  have e88 : ∀ k, k < 12 → I 68 (88 + k) = oW A (28 + k) := fun k hk => by
    rw [← h0.w (k := 28 + k) (by omega), show 60 + (28 + k) = 88 + k by omega]
  have none_ : orS A x y = -1 → Rp (some (.int (-1))) (shH ru ta rs) I J := fun e => by
    have z := hR I J FMl.rf h0
    rw [e] at z
    exact z
  refine xm_ofK 0 (X := xxX12) (t := tX12_ofReaper) (stop := []) (ini := false) xx12 pl12 rfl kX12_ofReaper (fun h => by cases h) (Nat.le_of_ble_eq_true rfl) (fun K hK => ?_)
  refine md_isR l (d + 0) ru ta rs I J _ _ eR (by omega) x (fun hx => ?_) (fun hx => ?_)
  · refine And.intro (fun z => absurd (show (1 : Int32) = 0 from z) (by decide)) (fun _ => ?_)
    obtain ⟨b, hb, ex, ex2⟩ := vIn_t (by omega) hx
    have eS : orS A x y = orT A b y := by
      unfold orS
      rw [hx, ex2]
      rfl
    subst ex
    have fin : ∀ (v : Int32), orT A b y = v → Rp (some (.int v)) (shH ru ta rs) I J := fun v e => by
      have z := hR I J FMl.rf h0
      rw [eS, e] at z
      exact z
    refine md_inR l (d + 1) y 0 2 _ _ _ _ (fun hy => ?_) (fun hy => ?_)
    · refine And.intro (fun _ => ?_) (fun z => absurd (show (1 : Int32) = 0 from z) (by decide))
      obtain ⟨k, k1, k2, ey, _⟩ := rIn_t (by omega) (by omega) hy
      refine And.intro (fun (z0 : ¬ y = 0) => ?_) (fun (z0 : y = 0) => ?_)
      · have z0 : ¬ y = nI 0 := z0
        refine And.intro (fun (z1 : ¬ y = nI 1) => ?_) (fun (z1 : y = nI 1) => ?_)
        · have z2 : y = nI 2 := by
            have : k = 2 := by
              have a : k ≠ 0 := fun e => z0 (by rw [ey, e])
              have c : k ≠ 1 := fun e => z1 (by rw [ey, e])
              omega
            rw [ey, this]
          have e : I 68 (72 + b) = oW A (12 + b) := by
            rw [← h0.w (k := 12 + b) (by omega), show 60 + (12 + b) = 72 + b by omega]
          refine And.intro (show vp_in (nI 72 + nI b) 2200 from vx_2 (by omega) (by omega)) ?_
          have ib : (nI 72 + nI b).toNatClampNeg = 72 + b := ix_c (by omega)
          have z := fin _ (by unfold orT; rw [sw_n z0, sw_n z1, sw_y z2])
          rw [← e, ← ib] at z
          exact z
        · have e : I 68 (68 + b) = oW A (8 + b) := by
            rw [← h0.w (k := 8 + b) (by omega), show 60 + (8 + b) = 68 + b by omega]
          refine And.intro (show vp_in (nI 68 + nI b) 2200 from vx_2 (by omega) (by omega)) ?_
          have ib : (nI 68 + nI b).toNatClampNeg = 68 + b := ix_c (by omega)
          have z := fin _ (by unfold orT; rw [sw_n z0, sw_y z1])
          rw [← e, ← ib] at z
          exact z
      · have z0 : y = nI 0 := z0
        have e : I 68 (34 + b) = nI (qC (oQ A) b) := hre.1.1.2.2.2.2.1 b hb
        refine And.intro (show vp_in (nI 34 + nI b) 2200 from vx_2 (by omega) (by omega)) ?_
        have ib : (nI 34 + nI b).toNatClampNeg = 34 + b := ix_c (by omega)
        have z := fin _ (by unfold orT; rw [sw_y z0])
        rw [← e, ← ib] at z
        exact z
    · refine And.intro (fun z => absurd rfl z) (fun _ => ?_)
      have nk : ∀ k, k ≤ 2 → ¬ y = nI k := fun k hk e => by
        have := rIn_p.mpr (show nI 0 ≤ y ∧ y ≤ nI 2 from by rw [e]; exact ⟨(nle (by omega) (by omega)).mpr (by omega), (nle (by omega) (by omega)).mpr hk⟩)
        rw [hy] at this
        cases this
      exact fin _ (by unfold orT; rw [sw_n (nk 0 (by omega)), sw_n (nk 1 (by omega)), sw_n (nk 2 (by omega))]; rfl)
  · refine And.intro (fun _ => ?_) (fun z => absurd rfl z)
    exact none_ (by unfold orS; rw [hx]; rfl)
set_option maxRecDepth 100000 in
set_option maxHeartbeats 4000000 in
theorem md_bale (l : Launch) (d : Nat) (ru ta : Nat) (rs : List XO) (I : XI) (J : XJ) (Rp : XR) (L : Lws) (A : Ast) (hA : AOK A) (h : MA I L A) (x y : Int32) (hR : ∀ (I' : XI) (J' : XJ), FMl I I' → MA I' L A → Rp (some (.int (blS L A x y))) (shH ru ta rs) I' J') : xm l (d + 10) 0 0 mX12_bale [.ref 67, .int x, .int y] (shH ru ta rs) I J Rp := by
  have h0 := h
  obtain ⟨hre, hlay, hs⟩ := h
  obtain ⟨hq, hw, hn, hf⟩ := hA
  have t8 := hq.1
  have r4 := hq.2.1
  have b4 := hq.2.2.1
  have eT : I 68 0 = nI (qT (oQ A)) := hre.1.1.1
  have eR : I 68 1 = nI (qR (oQ A)) := hre.1.1.2.1
  have eB : I 68 2 = nI (qB (oQ A)) := hre.1.1.2.2.1
  have e88 : ∀ k, k < 12 → I 68 (88 + k) = oW A (28 + k) := fun k hk => by
    rw [← h0.w (k := 28 + k) (by omega), show 60 + (28 + k) = 88 + k by omega]
  have none_ : blS L A x y = -1 → Rp (some (.int (-1))) (shH ru ta rs) I J := fun e => by
    have z := hR I J FMl.rf h0
    rw [e] at z
    exact z
  refine xm_ofK 0 (X := xxX12) (t := tX12_bale) (stop := []) (ini := false) xx12 pl12 rfl kX12_bale (fun h => by cases h) (Nat.le_of_ble_eq_true rfl) (fun K hK => ?_)
  refine md_isBale l (d + 7) ru ta rs I J _ (oW A) e88 x (fun b hb ex hp => ?_) (fun hx => ?_)
  · refine And.intro (fun _ => ?_) (fun z => absurd (show (1 : Int32) = 0 from z) (by decide))
    have hx : vIn x 12 = true := by rw [ex]; exact vIn_n (by omega) hb
    have ex2 : x.toNatClampNeg = b := by rw [ex]; exact nI_clamp (by omega)
    have eS : blS L A x y = blT L A b y := by
      unfold blS
      rw [hx, ex2, decide_eq_true hp]
      rfl
    subst ex
    refine rx_lays l (d + 8) ru ta rs I J _ (fun I1 f1 e1 => ?_)
    rw [hlay] at e1
    have fin : ∀ (v : Int32) (I' : XI) (J' : XJ), blT L A b y = v → (∀ q, q ≠ 91 → I' q = I1 q) → Rp (some (.int v)) (shH ru ta rs) I' J' := fun v I' J' e f => by
      have z := hR I' J' (FMl.f (f1.tr (F93.n f)) (by rw [f 93 (by decide), e1]; exact hw)) (h0.n f1 e1 f)
      rw [eS, e] at z
      exact z
    have g68 : ∀ k, I1 68 k = I 68 k := fun k => congrFun (f1 68 (by decide) (by decide)) k
    refine And.intro (fun (z0 : y = nI 0) => ?_) (fun (z0 : ¬ y = nI 0) => ?_)
    · have e : I1 93 (16 + b) = oW A (16 + b) := by rw [e1]
      refine And.intro (show vp_in (nI 16 + nI b) 69 from vx_2 (by omega) (by omega)) ?_
      have ib : (nI 16 + nI b).toNatClampNeg = 16 + b := ix_c (by omega)
      have z := fin _ I1 J (by unfold blT; rw [sw_y z0]) (fun _ _ => rfl)
      rw [← e, ← ib] at z
      exact z
    refine And.intro (fun (z1 : y = nI 1) => ?_) (fun (z1 : ¬ y = nI 1) => ?_)
    · have e : I1 93 (28 + b) = oW A (28 + b) := by rw [e1]
      refine And.intro (show vp_in (nI 28 + nI b) 69 from vx_2 (by omega) (by omega)) ?_
      have ib : (nI 28 + nI b).toNatClampNeg = 28 + b := ix_c (by omega)
      have z := fin _ I1 J (by unfold blT; rw [sw_n z0, sw_y z1]) (fun _ _ => rfl)
      rw [← e, ← ib] at z
      exact z
    refine And.intro (fun (z2 : y = nI 2) => ?_) (fun (z2 : ¬ y = nI 2) => ?_)
    · have e : I1 93 (40 + b) = oW A (40 + b) := by rw [e1]
      refine And.intro (show vp_in (nI 40 + nI b) 69 from vx_2 (by omega) (by omega)) ?_
      have ib : (nI 40 + nI b).toNatClampNeg = 40 + b := ix_c (by omega)
      have z := fin _ I1 J (by unfold blT; rw [sw_n z0, sw_n z1, sw_y z2]) (fun _ _ => rfl)
      rw [← e, ← ib] at z
      exact z
    refine And.intro (fun (z3 : y = nI 3) => ?_) (fun (z3 : ¬ y = nI 3) => ?_)
    · have e : I1 93 (52 + b) = oW A (52 + b) := by rw [e1]
      refine And.intro (show vp_in (nI 52 + nI b) 69 from vx_2 (by omega) (by omega)) ?_
      have ib : (nI 52 + nI b).toNatClampNeg = 52 + b := ix_c (by omega)
      have z := fin _ I1 J (by unfold blT; rw [sw_n z0, sw_n z1, sw_n z2, sw_y z3]) (fun _ _ => rfl)
      rw [← e, ← ib] at z
      exact z
    refine And.intro (fun (z4 : y = nI 4) => ?_) (fun (z4 : ¬ y = nI 4) => ?_)
    · refine rx_spoils l d ru ta rs I1 J _ (oQ A) L (hre.keep f1) (by rw [e1]; exact hw) b hb (fun I2 J2 f2 => ?_)
      rw [e1]
      exact fin _ I2 J2 (by unfold blT; rw [sw_n z0, sw_n z1, sw_n z2, sw_n z3, sw_y z4]) f2
    refine And.intro (fun (z5 : y = nI 5) => ?_) (fun (z5 : ¬ y = nI 5) => ?_)
    · refine rx_sells l d ru ta rs I1 J _ (oQ A) L (hre.keep f1) (by rw [e1]; exact hw) b hb (fun I2 J2 f2 => ?_)
      rw [e1]
      exact fin _ I2 J2 (by unfold blT; rw [sw_n z0, sw_n z1, sw_n z2, sw_n z3, sw_n z4, sw_y z5]) f2
    exact fin _ I1 J (by unfold blT; rw [sw_n z0, sw_n z1, sw_n z2, sw_n z3, sw_n z4, sw_n z5]; rfl) (fun _ _ => rfl)
  · refine And.intro (fun z => absurd rfl z) (fun _ => ?_)
    exact none_ (by unfold blS; rw [hx]; rfl)
set_option maxRecDepth 100000 in
set_option maxHeartbeats 4000000 in
theorem md_ofBarn (l : Launch) (d : Nat) (ru ta : Nat) (rs : List XO) (I : XI) (J : XJ) (Rp : XR) (L : Lws) (A : Ast) (hA : AOK A) (h : MA I L A) (x y : Int32) (hR : ∀ (I' : XI) (J' : XJ), FMl I I' → MA I' L A → Rp (some (.int (obS A x y))) (shH ru ta rs) I' J') : xm l (d + 3) 0 0 mX12_ofBarn [.ref 67, .int x, .int y] (shH ru ta rs) I J Rp := by
  have h0 := h
  obtain ⟨hre, hlay, hs⟩ := h
  obtain ⟨hq, hw, hn, hf⟩ := hA
  have t8 := hq.1
  have r4 := hq.2.1
  have b4 := hq.2.2.1
  have eT : I 68 0 = nI (qT (oQ A)) := hre.1.1.1
  have eR : I 68 1 = nI (qR (oQ A)) := hre.1.1.2.1
  have eB : I 68 2 = nI (qB (oQ A)) := hre.1.1.2.2.1
  have e88 : ∀ k, k < 12 → I 68 (88 + k) = oW A (28 + k) := fun k hk => by
    rw [← h0.w (k := 28 + k) (by omega), show 60 + (28 + k) = 88 + k by omega]
  have none_ : obS A x y = -1 → Rp (some (.int (-1))) (shH ru ta rs) I J := fun e => by
    have z := hR I J FMl.rf h0
    rw [e] at z
    exact z
  refine xm_ofK 0 (X := xxX12) (t := tX12_ofBarn) (stop := []) (ini := false) xx12 pl12 rfl kX12_ofBarn (fun h => by cases h) (Nat.le_of_ble_eq_true rfl) (fun K hK => ?_)
  refine md_isB l (d + 0) ru ta rs I J _ _ eB (by omega) x (fun hx => ?_) (fun hx => ?_)
  · refine And.intro (fun z => absurd (show (1 : Int32) = 0 from z) (by decide)) (fun _ => ?_)
    obtain ⟨b, hb, ex, ex2⟩ := vIn_t (by omega) hx
    have eS : obS A x y = obT A b y := by
      unfold obS
      rw [hx, ex2]
      rfl
    subst ex
    refine md_inR l (d + 1) y 0 1 _ _ _ _ (fun hy => ?_) (fun hy => ?_)
    · refine And.intro (fun _ => ?_) (fun z => absurd (show (1 : Int32) = 0 from z) (by decide))
      obtain ⟨k, k1, k2, ey, _⟩ := rIn_t (by omega) (by omega) hy
      refine rx_lays l (d + 1) ru ta rs I J _ (fun I1 f1 e1 => ?_)
      rw [hlay] at e1
      have fin : ∀ (v : Int32) (I' : XI) (J' : XJ), obT A b y = v → (∀ q, q ≠ 91 → I' q = I1 q) → Rp (some (.int v)) (shH ru ta rs) I' J' := fun v I' J' e f => by
        have z := hR I' J' (FMl.f (f1.tr (F93.n f)) (by rw [f 93 (by decide), e1]; exact hw)) (h0.n f1 e1 f)
        rw [eS, e] at z
        exact z
      have g68 : ∀ k, I1 68 k = I 68 k := fun k => congrFun (f1 68 (by decide) (by decide)) k
      refine And.intro (fun (z0 : ¬ y = 0) => ?_) (fun (z0 : y = 0) => ?_)
      · have z0 : ¬ y = nI 0 := z0
        have z1 : y = nI 1 := by
          have : k = 1 := by
            have a : k ≠ 0 := fun e => z0 (by rw [ey, e])
            omega
          rw [ey, this]
        refine rx_feetIn l (d + 1) ru ta rs I1 J _ (nI b) ?_
        rw [e1]
        exact fin _ I1 J (by unfold obT; rw [sw_n z0, sw_y z1]) (fun _ _ => rfl)
      · have z0 : y = nI 0 := z0
        have e : I1 68 (38 + b) = nI (qM (oQ A) b) := (g68 _).trans (hre.1.1.2.2.2.2.2 b hb)
        refine And.intro (show vp_in (nI 38 + nI b) 2200 from vx_2 (by omega) (by omega)) ?_
        have ib : (nI 38 + nI b).toNatClampNeg = 38 + b := ix_c (by omega)
        have z := fin _ I1 J (by unfold obT; rw [sw_y z0]) (fun _ _ => rfl)
        rw [← e, ← ib] at z
        exact z
    · refine And.intro (fun z => absurd rfl z) (fun _ => ?_)
      have nk : ∀ k, k ≤ 1 → ¬ y = nI k := fun k hk e => by
        have := rIn_p.mpr (show nI 0 ≤ y ∧ y ≤ nI 1 from by rw [e]; exact ⟨(nle (by omega) (by omega)).mpr (by omega), (nle (by omega) (by omega)).mpr hk⟩)
        rw [hy] at this
        cases this
      have z := hR I J FMl.rf h0
      rw [eS, show obT A b y = -1 from by unfold obT; rw [sw_n (nk 0 (by omega)), sw_n (nk 1 (by omega))]; rfl] at z
      exact z
  · refine And.intro (fun _ => ?_) (fun z => absurd rfl z)
    exact none_ (by unfold obS; rw [hx]; rfl)
end
section
-- ===== all of a state, both sides; a call that does something keeps them alike =====
/-- a text: its words, its orders, its clauses, its laws -/
abbrev Txt : Type := List Nat × List Odr × Adr × Lws
abbrev tqW (x : Txt) : List Nat := x.1
abbrev tqE (x : Txt) : List Odr := x.2.1
abbrev tqA (x : Txt) : Adr := x.2.2.1
abbrev tqL (x : Txt) : Lws := x.2.2.2
/-- the state of worlds; which text is the rule; how many texts; how many needs, the needs -/
abbrev Hlf : Type := Ast × Option Nat × Nat × Nat × (Nat → Int32) × (Nat → Int32)
abbrev hvA (H : Hlf) : Ast := H.1
abbrev hvR (H : Hlf) : Option Nat := H.2.1
abbrev hvM (H : Hlf) : Nat := H.2.2.1
abbrev hvU (H : Hlf) : Nat := H.2.2.2.1
abbrev hvX (H : Hlf) : Nat → Int32 := H.2.2.2.2.1
abbrev hvY (H : Hlf) : Nat → Int32 := H.2.2.2.2.2
def ruO : Option Nat → Nat
  | none => 18
  | some t => 47 + 5 * t
def rI : Option Nat → Int32
  | none => -1
  | some t => nI t
def lwO (TX : Nat → Txt) : Option Nat → Lws
  | none => fun _ => none
  | some t => tqL (TX t)
def HOK (H : Hlf) : Prop := AOK (hvA H) ∧ hvM H ≤ 4 ∧ (∀ t, hvR H = some t → t < hvM H) ∧ hvU H ≤ 8
def LRt (I : XI) (t : Nat) (L : Lws) : Prop := ∃ N, N ≤ 24 ∧ I 71 t = nI N ∧ ∀ w, w < 5 → LRw I w (ofL I (24 * t) w N) (L w) ∧ ∀ e, L w = some e → ∃ f, ofL I (24 * t) w N = nI f ∧ 400 * t ≤ f ∧ f + e.length < 400 * t + 400
/-- the numbers of clauses are small -/
def DNb (A : Adr) : Prop := ∀ a, a ∈ A → ∀ x, x ∈ a.2 → x ≤ 10000
def TXT (I : XI) (t : Nat) (x : Txt) : Prop := (∃ c, c ≤ 300 ∧ GT (47 + 5 * t) I (tqW x) c (tqE x) (tqA x) ∧ I (47 + 5 * t) 5 = nI (tqW x).length ∧ DNb (tqA x)) ∧ RTx t I I (tqW x) (tqE x) (tqA x) ∧ LC I (47 + 5 * t) (tqL x) ∧ LRt I t (tqL x)
def Z18 (I : XI) : Prop := ∀ w, w < 5 → I 21 w ≤ I 20 w
def HCx (I : XI) (H : Hlf) : Prop := (TDc I (oQ (hvA H)) ∧ RC (qT (oQ (hvA H))) (oW (hvA H)) (I 27) ∧ SC (qT (oQ (hvA H))) (oN (hvA H)) (oF (hvA H)) I) ∧ I 0 13 = rI (hvR H) ∧ I 0 12 = nI (hvM H) ∧ I 0 7 = nI (hvU H) ∧ ∀ i, i < hvU H → I 3 i = hvX H i ∧ I 4 i = hvY H i
def HCi (I : XI) (H : Hlf) : Prop := ((I 6 5 = nI (qT (oQ (hvA H))) ∧ I 6 6 = nI (qR (oQ (hvA H))) ∧ I 6 7 = nI (qB (oQ (hvA H)))) ∧ RC (qT (oQ (hvA H))) (oW (hvA H)) (I 7) ∧ SC (qT (oQ (hvA H))) (oN (hvA H)) (oF (hvA H)) (fun q => I (q + 7))) ∧ I 6 9 = rI (hvR H) ∧ I 6 8 = nI (hvM H) ∧ I 6 4 = nI (hvU H) ∧ ∀ i, i < hvU H → I 10 i = hvX H i ∧ I 11 i = hvY H i
def Row (r : Nat → Int32) (H : Hlf) : Prop := (TDr (fun _ => r) (oQ (hvA H)) ∧ (∀ k, k < 69 → r (60 + k) = oW (hvA H) k) ∧ SM (oN (hvA H)) (oF (hvA H)) (fun _ => r)) ∧ r 4 = rI (hvR H) ∧ r 3 = nI (hvM H) ∧ r 6 = nI (hvU H) ∧ ∀ i, i < hvU H → r (42 + 2 * i) = hvX H i ∧ r (43 + 2 * i) = hvY H i
/-- what is told in the first is told in the second -/
def Tle (Q P : Tld) : Prop := (qT Q ≤ qT P ∧ qR Q ≤ qR P ∧ qB Q ≤ qB P) ∧ (∀ t, t < qT Q → qH Q t = qH P t ∧ qK Q t = qK P t ∧ qO Q t = qO P t) ∧ (∀ r, r < qR Q → qC Q r = qC P r) ∧ ∀ b, b < qB Q → qM Q b = qM P b
theorem Tle.rf (Q : Tld) : Tle Q Q := ⟨⟨Nat.le_refl _, Nat.le_refl _, Nat.le_refl _⟩, fun _ _ => ⟨rfl, rfl, rfl⟩, fun _ _ => rfl, fun _ _ => rfl⟩
theorem Tle.tr {Q P R : Tld} (h : Tle Q P) (g : Tle P R) : Tle Q R := by
  obtain ⟨⟨a1, a2, a3⟩, a4, a5, a6⟩ := h
  obtain ⟨⟨b1, b2, b3⟩, b4, b5, b6⟩ := g
  refine ⟨⟨Nat.le_trans a1 b1, Nat.le_trans a2 b2, Nat.le_trans a3 b3⟩, fun t ht => ?_, fun r hr => ?_, fun b hb => ?_⟩
  · obtain ⟨x1, x2, x3⟩ := a4 t ht
    obtain ⟨y1, y2, y3⟩ := b4 t (Nat.lt_of_lt_of_le ht a1)
    exact ⟨x1.trans y1, x2.trans y2, x3.trans y3⟩
  · exact (a5 r hr).trans (b5 r (Nat.lt_of_lt_of_le hr a2))
  · exact (a6 b hb).trans (b6 b (Nat.lt_of_lt_of_le hb a3))
theorem Tle.th (Q : Tld) (i j k : Nat) : Tle Q (thQ Q i j k) := by
  refine ⟨⟨Nat.le_succ _, Nat.le_refl _, Nat.le_refl _⟩, fun t ht => ?_, fun _ _ => rfl, fun _ _ => rfl⟩
  show qH Q t = ptF (qH Q) (qT Q) i t ∧ qK Q t = ptF (qK Q) (qT Q) j t ∧ qO Q t = ptF (qO Q) (qT Q) k t
  unfold ptF
  rw [if_neg (by omega), if_neg (by omega), if_neg (by omega)]
  exact ⟨rfl, rfl, rfl⟩
theorem Tle.re (Q : Tld) (i : Nat) : Tle Q (reQ Q i) := by
  refine ⟨⟨Nat.le_refl _, Nat.le_succ _, Nat.le_refl _⟩, fun _ _ => ⟨rfl, rfl, rfl⟩, fun r hr => ?_, fun _ _ => rfl⟩
  show qC Q r = ptF (qC Q) (qR Q) i r
  unfold ptF
  rw [if_neg (by omega)]
theorem Tle.ba (Q : Tld) (i : Nat) : Tle Q (baQ Q i) := by
  refine ⟨⟨Nat.le_refl _, Nat.le_refl _, Nat.le_succ _⟩, fun _ _ => ⟨rfl, rfl, rfl⟩, fun _ _ => rfl, fun r hr => ?_⟩
  show qM Q r = ptF (qM Q) (qB Q) i r
  unfold ptF
  rw [if_neg (by omega)]
theorem LRt.keep {I I' : XI} {t : Nat} {L : Lws} (f : ∀ q, 70 < q → q < 79 → I' q = I q) (h : LRt I t L) : LRt I' t L := by
  obtain ⟨N, a, b, c⟩ := h
  refine ⟨N, a, by rw [f 71 (by decide) (by decide)]; exact b, fun w hw => ?_⟩
  rw [ofL.keep (f 72 (by decide) (by decide)) (f 73 (by decide) (by decide))]
  exact ⟨(c w hw).1.keep (f 77 (by decide) (by decide)) (f 78 (by decide) (by decide)), (c w hw).2⟩
theorem RTx.keep {I I' J J' : XI} {t : Nat} {ws : List Nat} {E : List Odr} {A : Adr} (f : ∀ q, 70 < q → q < 79 → I' q = I q) (h : RTx t J I ws E A) : RTx t J' I' ws E A := by
  unfold RTx at h ⊢
  rw [f 71 (by decide) (by decide), f 72 (by decide) (by decide), f 73 (by decide) (by decide), f 74 (by decide) (by decide), f 75 (by decide) (by decide), f 76 (by decide) (by decide), f 77 (by decide) (by decide), f 78 (by decide) (by decide)]
  exact h
theorem GT.keep {I I' : XI} {ta : Nat} {ws : List Nat} {c : Nat} {E : List Odr} {A : Adr} (f : ∀ q, ta ≤ q → q ≤ ta + 4 → I' q = I q) (h : GT ta I ws c E A) : GT ta I' ws c E A := by
  unfold GT CLp at h ⊢
  rw [f (ta + 1) (by omega) (by omega), f (ta + 2) (by omega) (by omega), f (ta + 3) (by omega) (by omega), f (ta + 4) (by omega) (by omega)]
  exact h
theorem TXT.keep {I I' : XI} {t : Nat} {x : Txt} (ht : t < 4) (f : ∀ q, (46 < q ∧ q < 67) ∨ (70 < q ∧ q < 79) → I' q = I q) (h : TXT I t x) : TXT I' t x := by
  obtain ⟨⟨c, c3, g, e5, db⟩, r, lc, lr⟩ := h
  exact ⟨⟨c, c3, g.keep (fun q a b => f q (by omega)), by rw [f (47 + 5 * t) (by omega)]; exact e5, db⟩, r.keep (fun q a b => f q (by omega)), fun w hw => (lc w hw).keep (f _ (by omega)) (f _ (by omega)) (f _ (by omega)), lr.keep (fun q a b => f q (by omega))⟩
def GRx (I : XI) (TX : Nat → Txt) (H Hi : Hlf) : Prop := (HOK H ∧ HOK Hi ∧ hvM Hi ≤ hvM H ∧ Tle (oQ (hvA Hi)) (oQ (hvA H))) ∧ ((∀ t, t < hvM H → TXT I t (TX t)) ∧ Z18 I) ∧ HCx I H ∧ HCi I Hi ∧ (Row (I 68) H ∧ wLay I = oW (hvA H)) ∧ Row (I 69) Hi
theorem ruO_tsp {H : Hlf} (h : HOK H) : TSP (ruO (hvR H)) := by
  have y := h.2.2.1
  have m := h.2.1
  cases e : hvR H with
  | none => exact Or.inl rfl
  | some t =>
    have := y t e
    show TSP (47 + 5 * t)
    unfold TSP
    omega
theorem GRx.ca {I : XI} {TX : Nat → Txt} {H Hi : Hlf} (h : GRx I TX H Hi) : CA I (ruO (hvR H)) (lwO TX (hvR H)) (hvA H) := by
  obtain ⟨⟨h1, h2, h3, h4⟩, ⟨tx, z⟩, hc, hci, hm, hmi⟩ := h
  refine ⟨⟨hc.1.1, h1.1.1, ?_, ruO_tsp h1⟩, hc.1.2.1, hc.1.2.2⟩
  have y := h1.2.2.1
  cases e : hvR H with
  | none => exact fun w hw => z w hw
  | some t => exact (tx t (y t e)).2.2.1
theorem GRx.ma {I : XI} {TX : Nat → Txt} {H Hi : Hlf} (h : GRx I TX H Hi) : MA I (lwO TX (hvR H)) (hvA H) := by
  obtain ⟨⟨h1, h2, h3, h4⟩, ⟨tx, z⟩, hc, hci, ⟨hm, hl⟩, hmi⟩ := h
  refine ⟨⟨⟨hm.1.1, h1.1.1⟩, ?_⟩, hl, hm.1.2.2⟩
  have y := h1.2.2.1
  have m := h1.2.1
  have e4 : I 68 4 = rI (hvR H) := hm.2.1
  cases e : hvR H with
  | none =>
    rw [e] at e4
    exact fun w hw => ⟨-1, Or.inl ⟨e4, rfl⟩, rfl⟩
  | some t =>
    rw [e] at e4
    obtain ⟨N, a, b, c⟩ := (tx t (y t e)).2.2.2
    exact fun w hw => ⟨ofL I (24 * t) w N, Or.inr ⟨t, N, by have := y t e; omega, e4, a, b, rfl⟩, (c w hw).1⟩
/-- a call on both sides that does something with what is told, worlds, steps -/
theorem GRx.op {I I1 I2 : XI} {TX : Nat → Txt} {H Hi : Hlf} {A' : Ast} {ru : Nat} {L L' : Lws} (h : GRx I TX H Hi) (hA' : AOK A') (ht : Tle (oQ (hvA H)) (oQ A')) (fc : FCl I I1) (c : CA I1 ru L A') (fm : FMl I1 I2) (m : MA I2 L' A') : GRx I2 TX (A', H.2) Hi := by
  obtain ⟨⟨h1, h2, h3, h4⟩, ⟨tx, z⟩, hc, hci, ⟨hm, hl⟩, hmi⟩ := h
  have k : ∀ q, q ≠ 1 → q ≠ 2 → (q < 12 ∨ 17 < q) → q ≠ 24 → q ≠ 27 → q ≠ 68 → q ≠ 91 → q ≠ 93 → I2 q = I q := fun q a b c' d e f g i => (fm.1 q f g i).trans (fc q a b c' d e)
  have k1 : ∀ q, q ≠ 68 → q ≠ 91 → q ≠ 93 → I2 q = I1 q := fm.1
  have u8 := h1.2.2.2
  have hm4 := h1.2.1
  refine ⟨⟨⟨hA', h1.2⟩, h2, h3, h4.tr ht⟩, ⟨fun t q => (tx t q).keep (by have : t < hvM H := q; omega) (fun q hq => k q (by omega) (by omega) (by omega) (by omega) (by omega) (by omega) (by omega) (by omega)), fun w hw => ?_⟩, ?_, ?_, ⟨?_, m.2.1⟩, ?_⟩
  · rw [k 21 (by decide) (by decide) (by decide) (by decide) (by decide) (by decide) (by decide) (by decide), k 20 (by decide) (by decide) (by decide) (by decide) (by decide) (by decide) (by decide) (by decide)]
    exact z w hw
  · obtain ⟨hcx, e13, e12, e7, en⟩ := hc
    have k0 : I2 0 = I 0 := k 0 (by decide) (by decide) (by decide) (by decide) (by decide) (by decide) (by decide) (by decide)
    have k3 : I2 3 = I 3 := k 3 (by decide) (by decide) (by decide) (by decide) (by decide) (by decide) (by decide) (by decide)
    have k4 : I2 4 = I 4 := k 4 (by decide) (by decide) (by decide) (by decide) (by decide) (by decide) (by decide) (by decide)
    refine ⟨⟨c.1.1.keep (k1 12 (by decide) (by decide) (by decide)) (k1 13 (by decide) (by decide) (by decide)) (k1 14 (by decide) (by decide) (by decide)) (k1 15 (by decide) (by decide) (by decide)) (k1 16 (by decide) (by decide) (by decide)) (k1 17 (by decide) (by decide) (by decide)), ?_, ?_⟩, by rw [k0]; exact e13, by rw [k0]; exact e12, by rw [k0]; exact e7, fun i hi => by rw [k3, k4]; exact en i hi⟩
    · rw [k1 27 (by decide) (by decide) (by decide)]
      exact c.2.1
    · obtain ⟨hn, first, hf, a, b, d⟩ := c.2.2
      refine ⟨hn, first, hf, by rw [k1 1 (by decide) (by decide) (by decide)]; exact a, by rw [k1 1 (by decide) (by decide) (by decide)]; exact b, fun j hj => ?_⟩
      rw [k1 2 (by decide) (by decide) (by decide)]
      exact d j hj
  · obtain ⟨⟨ht3, hrc, hsc⟩, e13, e12, e7, en⟩ := hci
    have k6 : I2 6 = I 6 := k 6 (by decide) (by decide) (by decide) (by decide) (by decide) (by decide) (by decide) (by decide)
    have k7 : I2 7 = I 7 := k 7 (by decide) (by decide) (by decide) (by decide) (by decide) (by decide) (by decide) (by decide)
    have k8 : I2 8 = I 8 := k 8 (by decide) (by decide) (by decide) (by decide) (by decide) (by decide) (by decide) (by decide)
    have k9 : I2 9 = I 9 := k 9 (by decide) (by decide) (by decide) (by decide) (by decide) (by decide) (by decide) (by decide)
    have k10 : I2 10 = I 10 := k 10 (by decide) (by decide) (by decide) (by decide) (by decide) (by decide) (by decide) (by decide)
    have k11 : I2 11 = I 11 := k 11 (by decide) (by decide) (by decide) (by decide) (by decide) (by decide) (by decide) (by decide)
    refine ⟨⟨by rw [k6]; exact ht3, by rw [k7]; exact hrc, ?_⟩, by rw [k6]; exact e13, by rw [k6]; exact e12, by rw [k6]; exact e7, fun i hi => by rw [k10, k11]; exact en i hi⟩
    obtain ⟨hn, first, hf, a, b, d⟩ := hsc
    refine ⟨hn, first, hf, ?_, ?_, fun j hj => ?_⟩
    · show I2 8 1 = nI first
      rw [k8]
      exact a
    · show I2 8 2 = _
      rw [k8]
      exact b
    · show RC _ _ (fun j' => I2 9 _)
      rw [k9]
      exact d j hj
  · obtain ⟨_, e4, e3, e6, en⟩ := hm
    have c68 : ∀ j, j = 3 ∨ j = 4 ∨ j = 6 ∨ (42 ≤ j ∧ j < 60) → I2 68 j = I 68 j := fun j hj => (fm.2.1 j hj).trans (congrFun (fc 68 (by decide) (by decide) (by decide) (by decide) (by decide)) j)
    refine ⟨⟨m.1.1.1, fun j hj => m.w hj, m.2.2⟩, (c68 4 (by omega)).trans e4, (c68 3 (by omega)).trans e3, (c68 6 (by omega)).trans e6, fun i hi => ?_⟩
    have hi' : i < hvU H := hi
    rw [c68 _ (by omega), c68 _ (by omega)]
    exact en i hi
  · rw [k 69 (by decide) (by decide) (by decide) (by decide) (by decide) (by decide) (by decide) (by decide)]
    exact hmi
end
section
-- ===== by, need, image, back =====
def rOK (r : Option Nat) (m : Nat) : Prop := ∀ t, r = some t → t < m
set_option maxRecDepth 100000 in
set_option maxHeartbeats 2000000 in
theorem cd_setRule (l : Launch) (d : Nat) (ru ta : Nat) (rs : List XO) (I : XI) (J : XJ) (Rp : XR) (r : Option Nat) (hr : rOK r 4) (hR : Rp none (shH (ruO r) ta rs) (uI I 0 13 (rI r)) J) : xm l (d + 2) 0 0 mX11_setRule [.ref 0, .int (rI r)] (shH ru ta rs) I J Rp := by
  cases r with
  | none =>
    refine xm_ofK 0 (X := xxX11) (t := tX11_setRule) (stop := []) (ini := false) xx11 pl11 rfl kX11_setRule (fun h => by cases h) (Nat.le_of_ble_eq_true rfl) (fun K hK => ?_)
    refine xm_ofK 0 (X := xxX11) (t := tX11_textAt) (stop := []) (ini := false) xx11 pl11 rfl kX11_textAt (fun h => by cases h) (Nat.le_of_ble_eq_true rfl) (fun K2 hK2 => ?_)
    refine And.intro (fun _ => ?_) (fun h => absurd (show (-1 : Int32) < 0 by decide) h)
    exact hR
  | some t =>
    have ht := hr t rfl
    have y : t = 0 ∨ t = 1 ∨ t = 2 ∨ t = 3 := by omega
    rcases y with rfl | rfl | rfl | rfl
    all_goals
      refine xm_ofK 0 (X := xxX11) (t := tX11_setRule) (stop := []) (ini := false) xx11 pl11 rfl kX11_setRule (fun h => by cases h) (Nat.le_of_ble_eq_true rfl) (fun K hK => ?_)
      refine xm_ofK 0 (X := xxX11) (t := tX11_textAt) (stop := []) (ini := false) xx11 pl11 rfl kX11_textAt (fun h => by cases h) (Nat.le_of_ble_eq_true rfl) (fun K2 hK2 => ?_)
      refine And.intro (fun h => absurd h (by decide)) (fun _ => And.intro (fun h => absurd h (by decide)) (fun _ => And.intro (vp_b (by decide)) ?_))
      exact hR
theorem by_split {x : Int32} {m : Nat} (hm : m ≤ 4) : ((-1 : Int32) ≤ x ∧ x ≤ nI m - nI 1) → x = -1 ∨ vIn x m = true := fun h => by
  by_cases c : nI 0 ≤ x
  · exact Or.inr ((in_v (by omega)).mp ⟨c, h.2⟩)
  · refine Or.inl ?_
    have a := Int32.le_iff_toInt_le.mp h.1
    rw [Int32.le_iff_toInt_le, show (nI 0).toInt = 0 from by decide] at c
    rw [show (-1 : Int32).toInt = -1 from by decide] at a
    exact Int32.toInt_inj.mp (by rw [show (-1 : Int32).toInt = -1 from by decide]; omega)
theorem by_join {x : Int32} {m : Nat} (hm : m ≤ 4) (h : x = -1 ∨ vIn x m = true) : (-1 : Int32) ≤ x ∧ x ≤ nI m - nI 1 := by
  rcases h with h | h
  · subst h
    refine ⟨Int32.le_refl _, ?_⟩
    have y : m = 0 ∨ m = 1 ∨ m = 2 ∨ m = 3 ∨ m = 4 := by omega
    rcases y with rfl | rfl | rfl | rfl | rfl <;> decide
  · have z := (in_v (by omega)).mpr h
    refine ⟨?_, z.2⟩
    have a := Int32.le_iff_toInt_le.mp z.1
    rw [show (nI 0).toInt = 0 from by decide] at a
    rw [Int32.le_iff_toInt_le, show (-1 : Int32).toInt = -1 from by decide]
    omega
theorem by_r {x : Int32} {m : Nat} (hm : m ≤ 4) (h : x = -1 ∨ vIn x m = true) : ∃ r, rOK r m ∧ x = rI r := by
  rcases h with h | h
  · exact ⟨none, fun t e => (by cases e), h⟩
  · obtain ⟨t, ht, e, _⟩ := vIn_t (by omega) h
    exact ⟨some t, fun s es => (by cases es; exact ht), e⟩
set_option maxRecDepth 100000 in
set_option maxHeartbeats 2000000 in
theorem cd_by (l : Launch) (d : Nat) (ru ta : Nat) (rs : List XO) (I : XI) (J : XJ) (Rp : XR) (m : Nat) (hm : m ≤ 4) (em : I 0 12 = nI m) (x : Int32) (h1 : ∀ r, rOK r m → x = rI r → Rp (some (.int 1)) (shH (ruO r) ta rs) (uI I 0 13 x) J) (h0 : ¬ (x = -1 ∨ vIn x m = true) → Rp (some (.int 0)) (shH ru ta rs) I J) : xm l (d + 3) 0 0 mX11_by [.ref 0, .int x] (shH ru ta rs) I J Rp := by
  refine xm_ofK 0 (X := xxX11) (t := tX11_by) (stop := []) (ini := false) xx11 pl11 rfl kX11_by (fun h => by cases h) (Nat.le_of_ble_eq_true rfl) (fun K hK => ?_)
  refine (show xm l (d + 2) 0 0 mX11_within [.int x, .int (-1), .int (I 0 12 - nI 1)] (shH ru ta rs) I J _ from ?_)
  rw [em]
  by_cases c : (-1 : Int32) ≤ x ∧ x ≤ nI m - nI 1
  · refine c_within_t l (d + 1) x (-1) (nI m - nI 1) _ _ _ _ c.1 c.2 ?_
    refine And.intro (fun _ => ?_) (fun z => absurd (show (1 : Int32) = 0 from z) (by decide))
    obtain ⟨r, hr, er⟩ := by_r hm (by_split hm c)
    have y := h1 r hr er
    subst er
    refine cd_setRule l d ru ta rs I J _ r (fun t e => by have := hr t e; omega) ?_
    exact And.intro (Or.inr rfl) y
  · refine c_within_f l (d + 1) x (-1) (nI m - nI 1) _ _ _ _ c ?_
    refine And.intro (fun z => absurd rfl z) (fun _ => ?_)
    exact And.intro (Or.inl rfl) (h0 (fun z => c (by_join hm z)))
set_option maxRecDepth 100000 in
set_option maxHeartbeats 2000000 in
theorem md_by (l : Launch) (d : Nat) (ru ta : Nat) (rs : List XO) (I : XI) (J : XJ) (Rp : XR) (m : Nat) (hm : m ≤ 4) (em : I 68 3 = nI m) (x : Int32) (h1 : (x = -1 ∨ vIn x m = true) → Rp (some (.int 1)) (shH ru ta rs) (uI I 68 4 x) J) (h0 : ¬ (x = -1 ∨ vIn x m = true) → Rp (some (.int 0)) (shH ru ta rs) I J) : xm l (d + 2) 0 0 mX12_by [.ref 67, .int x] (shH ru ta rs) I J Rp := by
  refine xm_ofK 0 (X := xxX12) (t := tX12_by) (stop := []) (ini := false) xx12 pl12 rfl kX12_by (fun h => by cases h) (Nat.le_of_ble_eq_true rfl) (fun K hK => ?_)
  refine And.intro (fun (z : x = -1) => ?_) (fun (z : ¬ x = -1) => ?_)
  · refine And.intro (show vp_in (nI 4) 2200 from vp_b (by decide)) ?_
    exact And.intro (Or.inr rfl) (h1 (Or.inl z))
  · refine And.intro (show vp_in (nI 3) 2200 from vp_b (by decide)) ?_
    refine md_in l d x (nI 0) (I 68 3 - nI 1) _ _ _ _ (fun c => ?_) (fun c => ?_)
    · rw [em] at c
      refine And.intro (fun _ => ?_) (fun z => absurd (show (1 : Int32) = 0 from z) (by decide))
      refine And.intro (show vp_in (nI 4) 2200 from vp_b (by decide)) ?_
      exact And.intro (Or.inr rfl) (h1 (Or.inr ((in_v (by omega)).mp c)))
    · rw [em] at c
      refine And.intro (fun z => absurd rfl z) (fun _ => ?_)
      refine And.intro (Or.inl rfl) (h0 (fun q => ?_))
      rcases q with q | q
      · exact z q
      · exact c ((in_v (by omega)).mpr q)
def ndS (u : Nat) (x y : Int32) : Int32 := if x = -1 then 0 else if (rIn x 0 999 && rIn y 1 999 && decide (u < 8)) = true then nI (u + 1) else nI 0 - nI 2
set_option maxRecDepth 100000 in
set_option maxHeartbeats 4000000 in
theorem cd_need (l : Launch) (d : Nat) (ru ta : Nat) (rs : List XO) (I : XI) (J : XJ) (Rp : XR) (u : Nat) (hu : u ≤ 8) (eu : I 0 7 = nI u) (x y : Int32) (h1 : x = -1 → Rp (some (.int 0)) (shH ru ta rs) (uI I 0 7 0) J) (h2 : ¬ x = -1 → (rIn x 0 999 && rIn y 1 999 && decide (u < 8)) = true → Rp (some (.int (nI (u + 1)))) (shH ru ta rs) (uI (uI (uI I 3 u x) 4 u y) 0 7 (nI (u + 1))) J) (h3 : ¬ x = -1 → (rIn x 0 999 && rIn y 1 999 && decide (u < 8)) = false → Rp (some (.int (-2))) (shH ru ta rs) I J) : xm l (d + 2) 0 0 mX11_need [.ref 0, .int x, .int y] (shH ru ta rs) I J Rp := by
  refine xm_ofK 0 (X := xxX11) (t := tX11_need) (stop := []) (ini := false) xx11 pl11 rfl kX11_need (fun h => by cases h) (Nat.le_of_ble_eq_true rfl) (fun K hK => ?_)
  refine And.intro (fun (z : ¬ x = -1) => ?_) (fun (z : x = -1) => ?_)
  · have wit : ∀ (v : Int32) (lo hi : Nat) (Rq : XR), (rIn v lo hi = true → Rq (some (.int 1)) (shH ru ta rs) I J) → (rIn v lo hi = false → Rq (some (.int 0)) (shH ru ta rs) I J) → xm l (d + 1) 0 0 mX11_within [.int v, .int (nI lo), .int (nI hi)] (shH ru ta rs) I J Rq := fun v lo hi Rq a b => by
      cases e : rIn v lo hi with
      | true =>
        have := rIn_p.mp e
        exact c_within_t l d v (nI lo) (nI hi) _ _ _ _ this.1 this.2 (a e)
      | false =>
        exact c_within_f l d v (nI lo) (nI hi) _ _ _ _ (fun q => by
          have := rIn_p.mpr q
          rw [e] at this
          cases this) (b e)
    refine wit x 0 999 _ (fun hx => ?_) (fun hx => ?_)
    · refine And.intro (fun z => absurd (show (1 : Int32) = 0 from z) (by decide)) (fun _ => ?_)
      refine wit y 1 999 _ (fun hy => ?_) (fun hy => ?_)
      · refine And.intro (fun z => absurd (show (1 : Int32) = 0 from z) (by decide)) (fun _ => ?_)
        refine And.intro (fun (v : I 0 7 < nI 8) => ?_) (fun (v : ¬ I 0 7 < nI 8) => ?_)
        · rw [eu, nlt (by omega) (by omega)] at v
          have iu : (I 0 7).toNatClampNeg = u := by rw [eu]; exact nI_clamp (by omega)
          have vu : vp_in (I 0 7) 8 := by rw [eu]; exact vp_in_nI v (by omega)
          refine And.intro vu ?_
          refine And.intro vu ?_
          have y := h2 z (by rw [hx, hy, decide_eq_true v]; rfl)
          rw [← nI_add u 1, ← eu] at y
          have iu2 : (I 0 7).toNatClampNeg = u := iu
          rw [← iu2] at y
          exact y
        · rw [eu, nlt (by omega) (by omega)] at v
          exact h3 z (by rw [decide_eq_false v, Bool.and_false])
      · refine And.intro (fun _ => ?_) (fun z => absurd rfl z)
        exact h3 z (by rw [hy, Bool.and_false]; rfl)
    · refine And.intro (fun _ => ?_) (fun z => absurd rfl z)
      exact h3 z (by rw [hx]; rfl)
  · exact h1 z
set_option maxRecDepth 100000 in
set_option maxHeartbeats 4000000 in
theorem md_need (l : Launch) (d : Nat) (ru ta : Nat) (rs : List XO) (I : XI) (J : XJ) (Rp : XR) (u : Nat) (hu : u ≤ 8) (eu : I 68 6 = nI u) (x y : Int32) (h1 : x = -1 → Rp (some (.int 0)) (shH ru ta rs) (uI I 68 6 0) J) (h2 : ¬ x = -1 → (rIn x 0 999 && rIn y 1 999 && decide (u < 8)) = true → Rp (some (.int (nI (u + 1)))) (shH ru ta rs) (uI (uI (uI I 68 (42 + 2 * u) x) 68 (43 + 2 * u) y) 68 6 (nI (u + 1))) J) (h3 : ¬ x = -1 → (rIn x 0 999 && rIn y 1 999 && decide (u < 8)) = false → Rp (some (.int (-2))) (shH ru ta rs) I J) : xm l (d + 2) 0 0 mX12_need [.ref 67, .int x, .int y] (shH ru ta rs) I J Rp := by
  refine xm_ofK 0 (X := xxX12) (t := tX12_need) (stop := []) (ini := false) xx12 pl12 rfl kX12_need (fun h => by cases h) (Nat.le_of_ble_eq_true rfl) (fun K hK => ?_)
  refine And.intro (fun (z : ¬ x = -1) => ?_) (fun (z : x = -1) => ?_)
  · refine md_inR l d x 0 999 _ _ _ _ (fun hx => ?_) (fun hx => ?_)
    · refine And.intro (fun z => absurd (show (1 : Int32) = 0 from z) (by decide)) (fun _ => ?_)
      refine md_inR l d y 1 999 _ _ _ _ (fun hy => ?_) (fun hy => ?_)
      · refine And.intro (fun z => absurd (show (1 : Int32) = 0 from z) (by decide)) (fun _ => ?_)
        refine And.intro (show vp_in (nI 6) 2200 from vp_b (by decide)) ?_
        refine And.intro (fun (v : ¬ I 68 6 = nI 8) => ?_) (fun (v : I 68 6 = nI 8) => ?_)
        · rw [eu] at v
          have v8 : u < 8 := by
            have : ¬ u = 8 := fun e => v (by rw [e])
            omega
          have e1 : nI 42 + nI 2 * I 68 6 = nI (42 + 2 * u) := by rw [eu, nI_mul, nI_add]
          have c1 : (uI I 68 (nI 42 + nI 2 * I 68 6).toNatClampNeg x) 68 6 = I 68 6 := by
            rw [e1, nI_clamp (by omega), uI_eq, upd_n (by omega)]
          have e2 : nI 42 + nI 2 * (uI I 68 (nI 42 + nI 2 * I 68 6).toNatClampNeg x) 68 6 + nI 1 = nI (43 + 2 * u) := by
            rw [c1, e1, nI_add]
            congr 1
            omega
          have c2 : (uI (uI I 68 (nI 42 + nI 2 * I 68 6).toNatClampNeg x) 68 (nI 42 + nI 2 * (uI I 68 (nI 42 + nI 2 * I 68 6).toNatClampNeg x) 68 6 + nI 1).toNatClampNeg y) 68 6 = nI u := by
            rw [e2, nI_clamp (by omega), uI_eq, upd_n (by omega), c1, eu]
          refine And.intro (show vp_in (nI 6) 2200 from vp_b (by decide)) ?_
          refine And.intro (show vp_in (nI 42 + nI 2 * I 68 6) 2200 from by rw [e1]; exact vp_in_nI (by omega) (by omega)) ?_
          refine And.intro (show vp_in (nI 6) 2200 from vp_b (by decide)) ?_
          refine And.intro (show vp_in (nI 42 + nI 2 * (uI I 68 (nI 42 + nI 2 * I 68 6).toNatClampNeg x) 68 6 + nI 1) 2200 from by rw [e2]; exact vp_in_nI (by omega) (by omega)) ?_
          refine And.intro (show vp_in (nI 6) 2200 from vp_b (by decide)) ?_
          refine And.intro (show vp_in (nI 6) 2200 from vp_b (by decide)) ?_
          refine And.intro (show vp_in (nI 6) 2200 from vp_b (by decide)) ?_
          refine (show Rp (some (.int ((uI (uI (uI I 68 (nI 42 + nI 2 * I 68 6).toNatClampNeg x) 68 (nI 42 + nI 2 * (uI I 68 (nI 42 + nI 2 * I 68 6).toNatClampNeg x) 68 6 + nI 1).toNatClampNeg y) 68 6 ((uI (uI I 68 (nI 42 + nI 2 * I 68 6).toNatClampNeg x) 68 (nI 42 + nI 2 * (uI I 68 (nI 42 + nI 2 * I 68 6).toNatClampNeg x) 68 6 + nI 1).toNatClampNeg y) 68 6 + nI 1)) 68 6))) (shH ru ta rs) (uI (uI (uI I 68 (nI 42 + nI 2 * I 68 6).toNatClampNeg x) 68 (nI 42 + nI 2 * (uI I 68 (nI 42 + nI 2 * I 68 6).toNatClampNeg x) 68 6 + nI 1).toNatClampNeg y) 68 6 ((uI (uI I 68 (nI 42 + nI 2 * I 68 6).toNatClampNeg x) 68 (nI 42 + nI 2 * (uI I 68 (nI 42 + nI 2 * I 68 6).toNatClampNeg x) 68 6 + nI 1).toNatClampNeg y) 68 6 + nI 1)) J from ?_)
          rw [uI_rd, c2, nI_add, e2, e1, nI_clamp (by omega), nI_clamp (by omega)]
          exact h2 z (by rw [hx, hy, decide_eq_true v8]; rfl)
        · rw [eu] at v
          have v8 : ¬ u < 8 := by
            have := nI_inj v (by omega) (by omega)
            omega
          exact h3 z (by rw [decide_eq_false v8, Bool.and_false])
      · refine And.intro (fun _ => ?_) (fun z => absurd rfl z)
        exact h3 z (by rw [hy, Bool.and_false]; rfl)
    · refine And.intro (fun _ => ?_) (fun z => absurd rfl z)
      exact h3 z (by rw [hx]; rfl)
  · refine And.intro (show vp_in (nI 6) 2200 from vp_b (by decide)) ?_
    exact h1 z
/-- what image() makes of the class's state -/
def gKp (I : XI) : XI := uI (cI (cI (uI (uI (uI (uI (uI (uI (uI (cI (cI I 27 7 0 0 69) 2 9 0 0 2139) 8 1 (I 1 1)) 8 2 (I 1 2)) 6 5 (I 12 5)) 6 6 (I 12 6)) 6 7 (I 12 7)) 6 8 (I 0 12)) 6 9 (I 0 13)) 3 10 0 0 8) 4 11 0 0 8) 6 4 (I 0 7)
set_option maxRecDepth 100000 in
set_option maxHeartbeats 4000000 in
theorem cd_image (l : Launch) (d : Nat) (ru ta : Nat) (rs : List XO) (I : XI) (J : XJ) (Rp : XR) (hR : Rp (some (.int (I 27 65))) (shH ru ta rs) (gKp I) J) : xm l (d + 3) 0 0 mX11_image [.ref 0] (shH ru ta rs) I J Rp := by
  have q69 : ¬ nI 0 < 0 ∧ ¬ nI 0 < 0 ∧ ¬ nI 69 < 0 ∧ (nI 0).toNatClampNeg + (nI 69).toNatClampNeg ≤ 69 ∧ (nI 0).toNatClampNeg + (nI 69).toNatClampNeg ≤ 69 := by decide
  have q2139 : ¬ nI 0 < 0 ∧ ¬ nI 0 < 0 ∧ ¬ nI 2139 < 0 ∧ (nI 0).toNatClampNeg + (nI 2139).toNatClampNeg ≤ 2139 ∧ (nI 0).toNatClampNeg + (nI 2139).toNatClampNeg ≤ 2139 := by decide
  have q8 : ¬ nI 0 < 0 ∧ ¬ nI 0 < 0 ∧ ¬ nI 8 < 0 ∧ (nI 0).toNatClampNeg + (nI 8).toNatClampNeg ≤ 8 ∧ (nI 0).toNatClampNeg + (nI 8).toNatClampNeg ≤ 8 := by decide
  refine xm_ofK 0 (X := xxX11) (t := tX11_image) (stop := []) (ini := false) xx11 pl11 rfl kX11_image (fun h => by cases h) (Nat.le_of_ble_eq_true rfl) (fun K hK => ?_)
  refine xm_ofK 0 (X := xxX1) (t := tX1_keepWorld) (stop := []) (ini := false) xx1 pl1 rfl kX1_keepWorld (fun h => by cases h) (Nat.le_of_ble_eq_true rfl) (fun K2 hK2 => ?_)
  refine And.intro (fun z => absurd (show nI 69 = nI 69 from rfl) z) (fun _ => ?_)
  refine And.intro q69 ?_
  refine xm_ofK 0 (X := xxX6) (t := tX6_takeFrom) (stop := []) (ini := false) xx6 pl6 rfl kX6_takeFrom (fun h => by cases h) (Nat.le_of_ble_eq_true rfl) (fun K3 hK3 => ?_)
  refine And.intro (fun z => absurd (show nI 2139 = nI 2139 from rfl) z) (fun _ => ?_)
  refine And.intro q2139 ?_
  refine xm_ofK 0 (X := xxX1) (t := tX1_keepTold) (stop := []) (ini := false) xx1 pl1 rfl kX1_keepTold (fun h => by cases h) (Nat.le_of_ble_eq_true rfl) (fun K4 hK4 => ?_)
  refine xm_ofK 0 (X := xxX1) (t := tX1_keepTexts) (stop := []) (ini := false) xx1 pl1 rfl kX1_keepTexts (fun h => by cases h) (Nat.le_of_ble_eq_true rfl) (fun K5 hK5 => ?_)
  refine xm_ofK 0 (X := xxX1) (t := tX1_keepNeeds) (stop := []) (ini := false) xx1 pl1 rfl kX1_keepNeeds (fun h => by cases h) (Nat.le_of_ble_eq_true rfl) (fun K6 hK6 => ?_)
  refine And.intro (fun z => absurd (show nI 8 = nI 8 from rfl) z) (fun _ => ?_)
  refine And.intro (fun z => absurd (show nI 8 = nI 8 from rfl) z) (fun _ => ?_)
  refine And.intro q8 ?_
  refine And.intro q8 ?_
  refine And.intro (show vp_in (nI 65) 69 from vp_b (by decide)) ?_
  exact hR
/-- what back() makes of it, its rule aside -/
def gBk1 (I : XI) : XI := uI (uI (uI (uI (uI (uI (cI (cI I 7 27 0 0 69) 9 2 0 0 2139) 1 1 (I 8 1)) 1 2 (I 8 2)) 12 5 (I 6 5)) 12 6 (I 6 6)) 12 7 (I 6 7)) 0 12 (I 6 8)
def gBk (I : XI) : XI := uI (cI (cI (uI (gBk1 I) 0 13 (I 6 9)) 10 3 0 0 8) 11 4 0 0 8) 0 7 (I 6 4)
set_option maxRecDepth 100000 in
set_option maxHeartbeats 4000000 in
theorem cd_back (l : Launch) (d : Nat) (ru ta : Nat) (rs : List XO) (I : XI) (J : XJ) (Rp : XR) (r : Option Nat) (hr : rOK r 4) (er : I 6 9 = rI r) (hR : Rp (some (.int (I 7 65))) (shH (ruO r) ta rs) (gBk I) J) : xm l (d + 4) 0 0 mX11_back [.ref 0] (shH ru ta rs) I J Rp := by
  have q69 : ¬ nI 0 < 0 ∧ ¬ nI 0 < 0 ∧ ¬ nI 69 < 0 ∧ (nI 0).toNatClampNeg + (nI 69).toNatClampNeg ≤ 69 ∧ (nI 0).toNatClampNeg + (nI 69).toNatClampNeg ≤ 69 := by decide
  have q2139 : ¬ nI 0 < 0 ∧ ¬ nI 0 < 0 ∧ ¬ nI 2139 < 0 ∧ (nI 0).toNatClampNeg + (nI 2139).toNatClampNeg ≤ 2139 ∧ (nI 0).toNatClampNeg + (nI 2139).toNatClampNeg ≤ 2139 := by decide
  have q8 : ¬ nI 0 < 0 ∧ ¬ nI 0 < 0 ∧ ¬ nI 8 < 0 ∧ (nI 0).toNatClampNeg + (nI 8).toNatClampNeg ≤ 8 ∧ (nI 0).toNatClampNeg + (nI 8).toNatClampNeg ≤ 8 := by decide
  refine xm_ofK 0 (X := xxX11) (t := tX11_back) (stop := []) (ini := false) xx11 pl11 rfl kX11_back (fun h => by cases h) (Nat.le_of_ble_eq_true rfl) (fun K hK => ?_)
  refine xm_ofK 0 (X := xxX1) (t := tX1_giveWorld) (stop := []) (ini := false) xx1 pl1 rfl kX1_giveWorld (fun h => by cases h) (Nat.le_of_ble_eq_true rfl) (fun K2 hK2 => ?_)
  refine And.intro (fun z => absurd (show nI 69 = nI 69 from rfl) z) (fun _ => ?_)
  refine And.intro q69 ?_
  refine xm_ofK 0 (X := xxX6) (t := tX6_takeFrom) (stop := []) (ini := false) xx6 pl6 rfl kX6_takeFrom (fun h => by cases h) (Nat.le_of_ble_eq_true rfl) (fun K3 hK3 => ?_)
  refine And.intro (fun z => absurd (show nI 2139 = nI 2139 from rfl) z) (fun _ => ?_)
  refine And.intro q2139 ?_
  refine (show xm l (d + 3) 0 0 mX11_setRule [.ref 0, .int (I 6 9)] (shH ru ta rs) (gBk1 I) J _ from ?_)
  have hR2 := hR
  unfold gBk at hR2
  rw [er] at hR2 ⊢
  refine cd_setRule l (d + 1) ru ta rs (gBk1 I) J _ r hr ?_
  refine xm_ofK 0 (X := xxX1) (t := tX1_giveNeeds) (stop := []) (ini := false) xx1 pl1 rfl kX1_giveNeeds (fun h => by cases h) (Nat.le_of_ble_eq_true rfl) (fun K6 hK6 => ?_)
  refine And.intro (fun z => absurd (show nI 8 = nI 8 from rfl) z) (fun _ => ?_)
  refine And.intro (fun z => absurd (show nI 8 = nI 8 from rfl) z) (fun _ => ?_)
  refine And.intro q8 ?_
  refine And.intro q8 ?_
  refine And.intro (show vp_in (nI 65) 69 from vp_b (by decide)) ?_
  exact hR2
set_option maxRecDepth 100000 in
theorem md_copies1 (l : Launch) (d : Nat) (ru ta : Nat) (rs : List XO) (I : XI) (J : XJ) (Rp : XR) (hR : Rp none (shH ru ta rs) (cI I 68 69 0 0 2200) J) : xm l (d + 1) 0 0 mX12_copies [.ref 67, .int 1] (shH ru ta rs) I J Rp := by
  refine xm_ofK 2201 (X := xxX12) (t := tX12_copies) (stop := [2]) (ini := false) xx12 pl12 rfl kX12_copies (fun h => by cases h) (Nat.le_of_ble_eq_true rfl) (fun K hK => ?_)
  have h := hm_copies_loop l d 68 69 1 (Or.inr ⟨by decide, rfl, rfl⟩) ru ta rs I J Rp hR 2200 0 2201 (by omega) (by omega)
  rw [cI_zero] at h
  exact hK _ _ _ _ _ _ _ _ h
set_option maxRecDepth 100000 in
theorem md_copies0 (l : Launch) (d : Nat) (ru ta : Nat) (rs : List XO) (I : XI) (J : XJ) (Rp : XR) (hR : Rp none (shH ru ta rs) (cI I 69 68 0 0 2200) J) : xm l (d + 1) 0 0 mX12_copies [.ref 67, .int 0] (shH ru ta rs) I J Rp := by
  refine xm_ofK 2201 (X := xxX12) (t := tX12_copies) (stop := [2]) (ini := false) xx12 pl12 rfl kX12_copies (fun h => by cases h) (Nat.le_of_ble_eq_true rfl) (fun K hK => ?_)
  have h := hm_copies_loop l d 69 68 0 (Or.inl ⟨rfl, rfl, rfl⟩) ru ta rs I J Rp hR 2200 0 2201 (by omega) (by omega)
  rw [cI_zero] at h
  exact hK _ _ _ _ _ _ _ _ h
set_option maxRecDepth 100000 in
theorem md_image (l : Launch) (d : Nat) (ru ta : Nat) (rs : List XO) (I : XI) (J : XJ) (Rp : XR) (hR : Rp (some (.int (I 68 125))) (shH ru ta rs) (cI I 68 69 0 0 2200) J) : xm l (d + 2) 0 0 mX12_image [.ref 67] (shH ru ta rs) I J Rp := by
  refine xm_ofK 0 (X := xxX12) (t := tX12_image) (stop := []) (ini := false) xx12 pl12 rfl kX12_image (fun h => by cases h) (Nat.le_of_ble_eq_true rfl) (fun K hK => ?_)
  refine md_copies1 l d ru ta rs I J _ ?_
  exact And.intro (vp_b (by decide)) hR
set_option maxRecDepth 100000 in
theorem md_back (l : Launch) (d : Nat) (ru ta : Nat) (rs : List XO) (I : XI) (J : XJ) (Rp : XR) (hR : Rp (some (.int (I 69 125))) (shH ru ta rs) (cI I 69 68 0 0 2200) J) : xm l (d + 2) 0 0 mX12_back [.ref 67] (shH ru ta rs) I J Rp := by
  refine xm_ofK 0 (X := xxX12) (t := tX12_back) (stop := []) (ini := false) xx12 pl12 rfl kX12_back (fun h => by cases h) (Nat.le_of_ble_eq_true rfl) (fun K hK => ?_)
  refine md_copies0 l d ru ta rs I J _ ?_
  exact And.intro (vp_b (by decide)) hR
end
section
-- ===== what by, need, image, back, undo make of all of a state; the ranges =====
theorem rOK.lt {r : Option Nat} {m : Nat} (h : rOK r m) (hm : m ≤ 4) : rOK r 4 := fun t e => by have := h t e; omega
/-- the rule is another -/
theorem GRx.by_ {I : XI} {TX : Nat → Txt} {H Hi : Hlf} (h : GRx I TX H Hi) {r : Option Nat} (hr : rOK r (hvM H)) : GRx (uI (uI I 0 13 (rI r)) 68 4 (rI r)) TX (hvA H, r, H.2.2) Hi := by
  have ho := h
  obtain ⟨⟨h1, h2, h3, h4⟩, ⟨tx, z⟩, hc, hci, ⟨hm, hl⟩, hmi⟩ := h
  have k : ∀ q, q ≠ 0 → q ≠ 68 → (uI (uI I 0 13 (rI r)) 68 4 (rI r)) q = I q := fun q a b => by rw [uI_ne b, uI_ne a]
  have k0 : ∀ j, j ≠ 13 → (uI (uI I 0 13 (rI r)) 68 4 (rI r)) 0 j = I 0 j := fun j a => by rw [uI_ne (by decide), uI_eq, upd_n a]
  have k68 : ∀ j, j ≠ 4 → (uI (uI I 0 13 (rI r)) 68 4 (rI r)) 68 j = I 68 j := fun j a => by rw [uI_eq, upd_n a, uI_ne (by decide)]
  have t8 := h1.1.1.1
  have r4 := h1.1.1.2.1
  have b4 := h1.1.1.2.2.1
  have u8 := h1.2.2.2
  have hm4 := h1.2.1
  refine ⟨⟨⟨h1.1, h1.2.1, hr, h1.2.2.2⟩, h2, h3, h4⟩, ⟨fun t q => (tx t q).keep (by have : t < hvM H := q; omega) (fun q hq => k q (by omega) (by omega)), fun w hw => ?_⟩, ?_, ?_, ⟨?_, ?_⟩, ?_⟩
  · rw [k 21 (by decide) (by decide), k 20 (by decide) (by decide)]
    exact z w hw
  · obtain ⟨⟨htd, hrc, hsc⟩, e13, e12, e7, en⟩ := hc
    refine ⟨⟨htd.keep (k 12 (by decide) (by decide)) (k 13 (by decide) (by decide)) (k 14 (by decide) (by decide)) (k 15 (by decide) (by decide)) (k 16 (by decide) (by decide)) (k 17 (by decide) (by decide)), by rw [k 27 (by decide) (by decide)]; exact hrc, ?_⟩, ?_, (k0 12 (by decide)).trans e12, (k0 7 (by decide)).trans e7, fun i hi => by rw [k 3 (by decide) (by decide), k 4 (by decide) (by decide)]; exact en i hi⟩
    · obtain ⟨hn, first, hf, a, b, d⟩ := hsc
      refine ⟨hn, first, hf, by rw [k 1 (by decide) (by decide)]; exact a, by rw [k 1 (by decide) (by decide)]; exact b, fun j hj => ?_⟩
      rw [k 2 (by decide) (by decide)]
      exact d j hj
    · rw [uI_ne (by decide), uI_rd]
  · obtain ⟨⟨ht3, hrc, hsc⟩, e13, e12, e7, en⟩ := hci
    refine ⟨⟨by rw [k 6 (by decide) (by decide)]; exact ht3, by rw [k 7 (by decide) (by decide)]; exact hrc, ?_⟩, by rw [k 6 (by decide) (by decide)]; exact e13, by rw [k 6 (by decide) (by decide)]; exact e12, by rw [k 6 (by decide) (by decide)]; exact e7, fun i hi => by rw [k 10 (by decide) (by decide), k 11 (by decide) (by decide)]; exact en i hi⟩
    obtain ⟨hn, first, hf, a, b, d⟩ := hsc
    exact ⟨hn, first, hf, a, b, d⟩
  · obtain ⟨⟨htd, hww, hsm⟩, e4, e3, e6, en⟩ := hm
    refine ⟨⟨?_, fun j hj => (k68 _ (by omega)).trans (hww j hj), hsm.1, (k68 5 (by decide)).trans hsm.2.1, fun j q hj hq => (k68 _ (by omega)).trans (hsm.2.2 j q hj hq)⟩, by rw [uI_rd], (k68 3 (by decide)).trans e3, (k68 6 (by decide)).trans e6, fun i hi => ?_⟩
    · obtain ⟨a0, a1, a2, a3, a4, a5⟩ := htd
      refine ⟨(k68 0 (by decide)).trans a0, (k68 1 (by decide)).trans a1, (k68 2 (by decide)).trans a2, fun t ht => ?_, fun q hq => ?_, fun b hb => ?_⟩
      · obtain ⟨x1, x2, x3⟩ := a3 t ht
        exact ⟨(k68 _ (by omega)).trans x1, (k68 _ (by omega)).trans x2, (k68 _ (by omega)).trans x3⟩
      · exact (k68 _ (by omega)).trans (a4 q hq)
      · exact (k68 _ (by omega)).trans (a5 b hb)
    · rw [k68 _ (by omega), k68 _ (by omega)]
      exact en i hi
  · rw [← hl]
    unfold wLay
    funext j
    by_cases c : j < 69
    · rw [if_pos c, if_pos c, k68 _ (by omega)]
    · rw [if_neg c, if_neg c, k 93 (by decide) (by decide)]
  · rw [k 69 (by decide) (by decide)]
    exact hmi
/-- the needs are others -/
theorem GRx.need_ {I I2 : XI} {TX : Nat → Txt} {H Hi : Hlf} (h : GRx I TX H Hi) {u : Nat} {x y : Nat → Int32} (hu : u ≤ 8) (k : ∀ q, q ≠ 0 → q ≠ 3 → q ≠ 4 → q ≠ 68 → I2 q = I q) (k0 : ∀ j, j ≠ 7 → I2 0 j = I 0 j) (k68 : ∀ j, j ≠ 6 → (j < 42 ∨ 58 ≤ j) → I2 68 j = I 68 j) (e7 : I2 0 7 = nI u) (e6 : I2 68 6 = nI u) (en1 : ∀ i, i < u → I2 3 i = x i ∧ I2 4 i = y i) (en2 : ∀ i, i < u → I2 68 (42 + 2 * i) = x i ∧ I2 68 (43 + 2 * i) = y i) : GRx I2 TX (hvA H, hvR H, hvM H, u, x, y) Hi := by
  obtain ⟨⟨h1, h2, h3, h4⟩, ⟨tx, z⟩, hc, hci, ⟨hm, hl⟩, hmi⟩ := h
  have t8 := h1.1.1.1
  have r4 := h1.1.1.2.1
  have b4 := h1.1.1.2.2.1
  have hm4 := h1.2.1
  have kk : ∀ q, 4 < q → q ≠ 68 → I2 q = I q := fun q a b => k q (by omega) (by omega) (by omega) b
  refine ⟨⟨⟨h1.1, h1.2.1, h1.2.2.1, hu⟩, h2, h3, h4⟩, ⟨fun t q => (tx t q).keep (by have : t < hvM H := q; omega) (fun q hq => kk q (by omega) (by omega)), fun w hw => ?_⟩, ?_, ?_, ⟨?_, ?_⟩, ?_⟩
  · rw [kk 21 (by decide) (by decide), kk 20 (by decide) (by decide)]
    exact z w hw
  · obtain ⟨⟨htd, hrc, hsc⟩, e13, e12, _, _⟩ := hc
    refine ⟨⟨htd.keep (kk 12 (by decide) (by decide)) (kk 13 (by decide) (by decide)) (kk 14 (by decide) (by decide)) (kk 15 (by decide) (by decide)) (kk 16 (by decide) (by decide)) (kk 17 (by decide) (by decide)), by rw [kk 27 (by decide) (by decide)]; exact hrc, ?_⟩, (k0 13 (by decide)).trans e13, (k0 12 (by decide)).trans e12, e7, en1⟩
    obtain ⟨hn, first, hf, a, b, d⟩ := hsc
    have k1 : I2 1 = I 1 := k 1 (by decide) (by decide) (by decide) (by decide)
    have k2 : I2 2 = I 2 := k 2 (by decide) (by decide) (by decide) (by decide)
    refine ⟨hn, first, hf, by rw [k1]; exact a, by rw [k1]; exact b, fun j hj => ?_⟩
    rw [k2]
    exact d j hj
  · obtain ⟨⟨ht3, hrc, hsc⟩, e13, e12, e7, en⟩ := hci
    refine ⟨⟨by rw [kk 6 (by decide) (by decide)]; exact ht3, by rw [kk 7 (by decide) (by decide)]; exact hrc, ?_⟩, by rw [kk 6 (by decide) (by decide)]; exact e13, by rw [kk 6 (by decide) (by decide)]; exact e12, by rw [kk 6 (by decide) (by decide)]; exact e7, fun i hi => by rw [kk 10 (by decide) (by decide), kk 11 (by decide) (by decide)]; exact en i hi⟩
    obtain ⟨hn, first, hf, a, b, d⟩ := hsc
    refine ⟨hn, first, hf, ?_, ?_, fun j hj => ?_⟩
    · show I2 8 1 = nI first
      rw [kk 8 (by decide) (by decide)]
      exact a
    · show I2 8 2 = _
      rw [kk 8 (by decide) (by decide)]
      exact b
    · show RC _ _ (fun j' => I2 9 _)
      rw [kk 9 (by decide) (by decide)]
      exact d j hj
  · obtain ⟨⟨htd, hww, hsm⟩, e4, e3, _, _⟩ := hm
    refine ⟨⟨?_, fun j hj => (k68 _ (by omega) (by omega)).trans (hww j hj), hsm.1, (k68 5 (by decide) (by decide)).trans hsm.2.1, fun j q hj hq => (k68 _ (by omega) (by omega)).trans (hsm.2.2 j q hj hq)⟩, (k68 4 (by decide) (by decide)).trans e4, (k68 3 (by decide) (by decide)).trans e3, e6, en2⟩
    obtain ⟨a0, a1, a2, a3, a4, a5⟩ := htd
    refine ⟨(k68 0 (by decide) (by decide)).trans a0, (k68 1 (by decide) (by decide)).trans a1, (k68 2 (by decide) (by decide)).trans a2, fun t ht => ?_, fun q hq => ?_, fun b hb => ?_⟩
    · have ht : t < qT (oQ (hvA H)) := ht
      obtain ⟨x1, x2, x3⟩ := a3 t ht
      exact ⟨(k68 _ (by omega) (by omega)).trans x1, (k68 _ (by omega) (by omega)).trans x2, (k68 _ (by omega) (by omega)).trans x3⟩
    · have hq : q < qR (oQ (hvA H)) := hq
      exact (k68 _ (by omega) (by omega)).trans (a4 q hq)
    · have hb : b < qB (oQ (hvA H)) := hb
      exact (k68 _ (by omega) (by omega)).trans (a5 b hb)
  · rw [← hl]
    unfold wLay
    funext j
    by_cases c : j < 69
    · rw [if_pos c, if_pos c, k68 _ (by omega) (by omega)]
    · rw [if_neg c, if_neg c, kk 93 (by decide) (by decide)]
  · rw [kk 69 (by decide) (by decide)]
    exact hmi
/-- what cell by cell the ranges need, out of the relation -/
theorem iv_gr {I I' : XI} {TX : Nat → Txt} {H Hi : Hlf} (hi : ivO CF [] I) (h : GRx I' TX H Hi) (hq : ∀ q, 17 < q → q ≠ 24 → q ≠ 27 → q ≠ 68 → q ≠ 69 → q ≠ 91 → q ≠ 93 → I' q = I q) (r : RG I') (r69 : ∀ j, inI (cellI CF 69 j) (I' 69 j).toInt) : ivO CF [] I' := by
  obtain ⟨⟨h1, h2, h3, h4⟩, ⟨tx, z⟩, hc, hci, ⟨hm, hl⟩, hmi⟩ := h
  have u8 := h1.2.2.2
  have hm4 := h1.2.1
  have v8 := h2.2.2.2
  have hn4 := h2.2.1
  have rr : ∀ {r : Option Nat} {m : Nat}, (∀ t, r = some t → t < m) → m ≤ 4 → inI (-1, 3) (rI r).toInt := fun {r} {m} h hm => by
    cases r with
    | none => exact ⟨by decide, by decide⟩
    | some t =>
      have := h t rfl
      show inI (-1, 3) (nI t).toInt
      rw [nI_toInt (by omega)]
      exact ⟨by dsimp only; omega, by dsimp only; omega⟩
  have cl : ∀ {p : Nat}, cellI CF p = cellI CF p := rfl
  have ce : cellI CF 0 7 = (0, 8) ∧ cellI CF 0 12 = (0, 4) ∧ cellI CF 0 13 = (-1, 3) ∧ cellI CF 1 1 = (0, 30) ∧ cellI CF 1 2 = (0, 30) ∧ cellI CF 6 4 = (0, 8) ∧ cellI CF 6 5 = (0, 8) ∧ cellI CF 6 6 = (0, 4) ∧ cellI CF 6 7 = (0, 4) ∧ cellI CF 6 8 = (0, 4) ∧ cellI CF 6 9 = (-1, 3) ∧ cellI CF 8 1 = (0, 30) ∧ cellI CF 8 2 = (0, 30) ∧ cellI CF 12 5 = (0, 8) ∧ cellI CF 12 6 = (0, 4) ∧ cellI CF 12 7 = (0, 4) := by decide +kernel
  obtain ⟨c1, c2, c3, c4, c5, c6, c7, c8, c9, c10, c11, c12, c13, c14, c15, c16⟩ := ce
  have fr_ : ∀ (p : Nat) (ks : List Nat), (CFc.all fun q => !(Nat.beq q.1 p) || ks.any (Nat.beq q.2.1)) = true → xlk CFr p = none → (∀ k, nrm p k = k) → ∀ k, k ∉ ks → cellI CF p k = fr := fun p ks hp h2 hn k hk => by
    unfold cellI
    rw [hn]
    split
    · rename_i q e
      exfalso
      have hmm := List.mem_of_find?_eq_some e
      have hqq := List.find?_some e
      simp only [Bool.and_eq_true] at hqq
      have e1 := Nat.eq_of_beq_eq_true hqq.1
      have e2 := Nat.eq_of_beq_eq_true hqq.2
      have y := List.all_eq_true.mp hp q hmm
      rw [e1, e2] at y
      have z : Nat.beq p p = true := by simp
      rw [z, Bool.not_true, Bool.false_or] at y
      obtain ⟨a, ha, e3⟩ := List.any_eq_true.mp y
      rw [← Nat.eq_of_beq_eq_true e3] at ha
      exact hk ha
    · split
      · rename_i r' e
        have y := h2.symm.trans e
        cases y
      · rfl
  obtain ⟨⟨htd, hrc, hn, first, hfi, s1, s2, _⟩, e13, e12, e7, en⟩ := hc
  obtain ⟨⟨⟨i5, i6, i7⟩, _, hn', first', hfi', s1', s2', _⟩, i13, i12, i74, _⟩ := hci
  have s1' : I' 8 1 = nI first' := s1'
  have s2' : I' 8 2 = nI (oN (hvA Hi)) := s2'
  have t8 := h1.1.1.1
  have r4 := h1.1.1.2.1
  have b4 := h1.1.1.2.2.1
  have t8' := h2.1.1.1
  have r4' := h2.1.1.2.1
  have b4' := h2.1.1.2.2.1
  intro p k hnp
  by_cases p68 : p = 68
  · subst p68; exact r.1 k
  by_cases p69 : p = 69
  · subst p69; exact r69 k
  by_cases p93 : p = 93
  · subst p93; exact r.2 k
  by_cases p24 : p = 24
  · subst p24; exact (fr_ 24 [] (by decide +kernel) (by decide +kernel) (fun _ => rfl) k (by simp)) ▸ inI_fr _
  by_cases p27 : p = 27
  · subst p27; exact (fr_ 27 [] (by decide +kernel) (by decide +kernel) (fun _ => rfl) k (by simp)) ▸ inI_fr _
  by_cases p91 : p = 91
  · subst p91; exact (fr_ 91 [] (by decide +kernel) (by decide +kernel) (fun _ => rfl) k (by simp)) ▸ inI_fr _
  by_cases hp : 17 < p
  · rw [hq p hp p24 p27 p68 p69 p91 p93]
    exact hi p k hnp
  have hp : p ≤ 17 := by omega
  have one : ∀ (ks : List Nat), (CFc.all fun q => !(Nat.beq q.1 p) || ks.any (Nat.beq q.2.1)) = true → xlk CFr p = none → (∀ k, nrm p k = k) → (k ∈ ks → inI (cellI CF p k) (I' p k).toInt) → inI (cellI CF p k) (I' p k).toInt := fun ks a b c e => by
    by_cases hk : k ∈ ks
    · exact e hk
    · rw [fr_ p ks a b c k hk]
      exact inI_fr _
  match p, hp with
  | 0, _ =>
    refine one [7, 12, 13] (by decide +kernel) (by decide +kernel) (fun _ => rfl) (fun hk => ?_)
    simp only [List.mem_cons, List.not_mem_nil, or_false] at hk
    rcases hk with rfl | rfl | rfl
    · rw [c1, e7]; exact inI_n (by omega) (by omega)
    · rw [c2, e12]; exact inI_n (by omega) (by omega)
    · rw [c3, e13]; exact rr h1.2.2.1 hm4
  | 1, _ =>
    refine one [1, 2] (by decide +kernel) (by decide +kernel) (fun _ => rfl) (fun hk => ?_)
    simp only [List.mem_cons, List.not_mem_nil, or_false] at hk
    rcases hk with rfl | rfl
    · rw [c4, s1]; exact inI_n (by omega) (by omega)
    · rw [c5, s2]; exact inI_n (by omega) (by omega)
  | 6, _ =>
    refine one [4, 5, 6, 7, 8, 9] (by decide +kernel) (by decide +kernel) (fun _ => rfl) (fun hk => ?_)
    simp only [List.mem_cons, List.not_mem_nil, or_false] at hk
    rcases hk with rfl | rfl | rfl | rfl | rfl | rfl
    · rw [c6, i74]; exact inI_n (by omega) (by omega)
    · rw [c7, i5]; exact inI_n (by omega) (by omega)
    · rw [c8, i6]; exact inI_n (by omega) (by omega)
    · rw [c9, i7]; exact inI_n (by omega) (by omega)
    · rw [c10, i12]; exact inI_n (by omega) (by omega)
    · rw [c11, i13]; exact rr h2.2.2.1 hn4
  | 8, _ =>
    refine one [1, 2] (by decide +kernel) (by decide +kernel) (fun _ => rfl) (fun hk => ?_)
    simp only [List.mem_cons, List.not_mem_nil, or_false] at hk
    rcases hk with rfl | rfl
    · rw [c12, s1']; exact inI_n (by omega) (by omega)
    · rw [c13, s2']; exact inI_n (by omega) (by omega)
  | 12, _ =>
    refine one [5, 6, 7] (by decide +kernel) (by decide +kernel) (fun _ => rfl) (fun hk => ?_)
    simp only [List.mem_cons, List.not_mem_nil, or_false] at hk
    rcases hk with rfl | rfl | rfl
    · rw [c14, htd.1]; exact inI_n (by omega) (by omega)
    · rw [c15, htd.2.1]; exact inI_n (by omega) (by omega)
    · rw [c16, htd.2.2.1]; exact inI_n (by omega) (by omega)
  | 2, _ | 3, _ | 4, _ | 5, _ | 7, _ | 9, _ | 10, _ | 11, _ | 13, _ | 14, _ | 15, _ | 16, _ | 17, _ => exact one [] (by decide +kernel) (by decide +kernel) (fun _ => rfl) (fun hk => (by simp at hk))
  | p + 18, h => exact absurd h (by omega)
end
section
-- ===== image, back =====
theorem Row.cg {r r' : Nat → Int32} {H : Hlf} (h : Row r H) (hk : HOK H) (e : ∀ j, j < 2200 → r' j = r j) : Row r' H := by
  obtain ⟨⟨htd, hww, hsm⟩, e4, e3, e6, en⟩ := h
  have t8 := hk.1.1.1
  have r4 := hk.1.1.2.1
  have b4 := hk.1.1.2.2.1
  have u8 := hk.2.2.2
  have n30 := hk.1.2.2.1
  refine ⟨⟨?_, fun j hj => (e _ (by omega)).trans (hww j hj), hsm.1, (e 5 (by decide)).trans hsm.2.1, fun j q hj hq => (e _ (by omega)).trans (hsm.2.2 j q hj hq)⟩, (e 4 (by decide)).trans e4, (e 3 (by decide)).trans e3, (e 6 (by decide)).trans e6, fun i hi => ?_⟩
  · obtain ⟨a0, a1, a2, a3, a4, a5⟩ := htd
    refine ⟨(e 0 (by decide)).trans a0, (e 1 (by decide)).trans a1, (e 2 (by decide)).trans a2, fun t ht => ?_, fun q hq => ?_, fun b hb => ?_⟩
    · obtain ⟨x1, x2, x3⟩ := a3 t ht
      exact ⟨(e _ (by omega)).trans x1, (e _ (by omega)).trans x2, (e _ (by omega)).trans x3⟩
    · exact (e _ (by omega)).trans (a4 q hq)
    · exact (e _ (by omega)).trans (a5 b hb)
  · rw [e _ (by omega), e _ (by omega)]
    exact en i hi
theorem cp_lo {a b : Nat → Int32} {n j : Nat} (h : j < n) : va_cpy a b 0 0 n j = a j := by
  simp only [va_cpy]
  rw [if_pos (by omega)]
  congr 1
  omega
theorem gKp_k (I : XI) (q : Nat) (h : q < 6 ∨ 11 < q) : gKp I q = I q := by
  unfold gKp
  rw [uI_ne (by omega), cI_ne (by omega), cI_ne (by omega), uI_ne (by omega), uI_ne (by omega), uI_ne (by omega), uI_ne (by omega), uI_ne (by omega), uI_ne (by omega), uI_ne (by omega), cI_ne (by omega), cI_ne (by omega)]
set_option maxHeartbeats 1000000 in
theorem gKp_c (I : XI) : (gKp I 7 = va_cpy (I 27) (I 7) 0 0 69 ∧ gKp I 9 = va_cpy (I 2) (I 9) 0 0 2139 ∧ gKp I 8 1 = I 1 1 ∧ gKp I 8 2 = I 1 2) ∧ (gKp I 6 5 = I 12 5 ∧ gKp I 6 6 = I 12 6 ∧ gKp I 6 7 = I 12 7 ∧ gKp I 6 8 = I 0 12 ∧ gKp I 6 9 = I 0 13 ∧ gKp I 6 4 = I 0 7) ∧ gKp I 10 = va_cpy (I 3) (I 10) 0 0 8 ∧ gKp I 11 = va_cpy (I 4) (I 11) 0 0 8 := ⟨⟨rfl, rfl, rfl, rfl⟩, ⟨rfl, rfl, rfl, rfl, rfl, rfl⟩, rfl, rfl⟩
theorem gBk_k (I : XI) (q : Nat) (h : q ≠ 0 ∧ q ≠ 1 ∧ q ≠ 2 ∧ q ≠ 3 ∧ q ≠ 4 ∧ q ≠ 12 ∧ q ≠ 27) : gBk I q = I q := by
  obtain ⟨h0, h1, h2, h3, h4, h12, h27⟩ := h
  unfold gBk gBk1
  rw [uI_ne h0, cI_ne h4, cI_ne h3, uI_ne h0, uI_ne h0, uI_ne h12, uI_ne h12, uI_ne h12, uI_ne h1, uI_ne h1, cI_ne h2, cI_ne h27]
set_option maxHeartbeats 1000000 in
theorem gBk_c (I : XI) : (gBk I 27 = va_cpy (I 7) (I 27) 0 0 69 ∧ gBk I 2 = va_cpy (I 9) (I 2) 0 0 2139 ∧ gBk I 1 1 = I 8 1 ∧ gBk I 1 2 = I 8 2) ∧ (gBk I 12 5 = I 6 5 ∧ gBk I 12 6 = I 6 6 ∧ gBk I 12 7 = I 6 7 ∧ gBk I 0 12 = I 6 8 ∧ gBk I 0 13 = I 6 9 ∧ gBk I 0 7 = I 6 4) ∧ gBk I 3 = va_cpy (I 10) (I 3) 0 0 8 ∧ gBk I 4 = va_cpy (I 11) (I 4) 0 0 8 := ⟨⟨rfl, rfl, rfl, rfl⟩, ⟨rfl, rfl, rfl, rfl, rfl, rfl⟩, rfl, rfl⟩
theorem wLay_cg {I I' : XI} (e : ∀ j, 60 ≤ j → j < 129 → I' 68 j = I 68 j) (e93 : I' 93 = I 93) : wLay I' = wLay I := by
  funext k
  unfold wLay
  by_cases c : k < 69
  · rw [if_pos c, if_pos c, e _ (by omega) (by omega)]
  · rw [if_neg c, if_neg c, e93]
theorem GRx.image_ {I : XI} {TX : Nat → Txt} {H Hi : Hlf} (h : GRx I TX H Hi) : GRx (cI (gKp I) 68 69 0 0 2200) TX H H := by
  obtain ⟨⟨h1, h2, h3, h4⟩, ⟨tx, z⟩, hc, hci, ⟨hm, hl⟩, hmi⟩ := h
  have hm4 := h1.2.1
  have u8 := h1.2.2.2
  have k : ∀ q, (q < 6 ∨ 11 < q) → q ≠ 69 → (cI (gKp I) 68 69 0 0 2200) q = I q := fun q a b => by rw [cI_ne b, gKp_k I q a]
  have k6 : ∀ q, q ≤ 11 → (cI (gKp I) 68 69 0 0 2200) q = gKp I q := fun q a => cI_ne (by omega)
  obtain ⟨⟨c7, c9, c81, c82⟩, ⟨c65, c66, c67, c68, c69, c64⟩, c10, c11⟩ := gKp_c I
  refine ⟨⟨h1, h1, Nat.le_refl _, Tle.rf _⟩, ⟨fun t q => (tx t q).keep (by omega) (fun q hq => k q (by omega) (by omega)), fun w hw => ?_⟩, ?_, ?_, ⟨?_, ?_⟩, ?_⟩
  · rw [k 21 (by decide) (by decide), k 20 (by decide) (by decide)]
    exact z w hw
  · obtain ⟨⟨htd, hrc, hsc⟩, e13, e12, e7, en⟩ := hc
    refine ⟨⟨htd.keep (k 12 (by decide) (by decide)) (k 13 (by decide) (by decide)) (k 14 (by decide) (by decide)) (k 15 (by decide) (by decide)) (k 16 (by decide) (by decide)) (k 17 (by decide) (by decide)), by rw [k 27 (by decide) (by decide)]; exact hrc, ?_⟩, by rw [k 0 (by decide) (by decide)]; exact e13, by rw [k 0 (by decide) (by decide)]; exact e12, by rw [k 0 (by decide) (by decide)]; exact e7, fun i hi => by rw [k 3 (by decide) (by decide), k 4 (by decide) (by decide)]; exact en i hi⟩
    obtain ⟨hn, first, hf, a, b, d⟩ := hsc
    refine ⟨hn, first, hf, by rw [k 1 (by decide) (by decide)]; exact a, by rw [k 1 (by decide) (by decide)]; exact b, fun j hj => ?_⟩
    rw [k 2 (by decide) (by decide)]
    exact d j hj
  · obtain ⟨⟨htd, hrc, hsc⟩, e13, e12, e7, en⟩ := hc
    refine ⟨⟨⟨by rw [k6 6 (by decide), c65]; exact htd.1, by rw [k6 6 (by decide), c66]; exact htd.2.1, by rw [k6 6 (by decide), c67]; exact htd.2.2.1⟩, ?_, ?_⟩, by rw [k6 6 (by decide), c69]; exact e13, by rw [k6 6 (by decide), c68]; exact e12, by rw [k6 6 (by decide), c64]; exact e7, fun i hi => ?_⟩
    · rw [k6 7 (by decide), c7]
      exact hrc.cg (fun _ _ => rfl) (fun j hj => cp_lo hj)
    · obtain ⟨hn, first, hf, a, b, d⟩ := hsc
      refine ⟨hn, first, hf, ?_, ?_, fun j hj => ?_⟩
      · show (cI (gKp I) 68 69 0 0 2200) 8 1 = _
        rw [k6 8 (by decide), c81]
        exact a
      · show (cI (gKp I) 68 69 0 0 2200) 8 2 = _
        rw [k6 8 (by decide), c82]
        exact b
      · refine (d j hj).cg (fun _ _ => rfl) (fun q hq => ?_)
        show (cI (gKp I) 68 69 0 0 2200) 9 _ = _
        rw [k6 9 (by decide), c9]
        exact cp_lo (by omega)
    · rw [k6 10 (by decide), k6 11 (by decide), c10, c11, cp_lo (by omega), cp_lo (by omega)]
      exact en i hi
  · rw [k 68 (by decide) (by decide)]
    exact hm
  · rw [← hl]
    exact wLay_cg (fun j _ _ => congrFun (k 68 (by decide) (by decide)) j) (k 93 (by decide) (by decide))
  · refine hm.cg h1 (fun j hj => ?_)
    rw [cI_eq, cp_lo hj, gKp_k I 68 (by decide)]
theorem HOK.back {H : Hlf} (h : HOK H) {w : Rw} (e : ∀ k, k < 69 → w k = oW (hvA H) k) : HOK ((oQ (hvA H), w, oN (hvA H), oF (hvA H)), H.2) := ⟨⟨h.1.1, fun k hk h67 => by
  show okC k (w k)
  rw [e k hk]
  exact h.1.2.1 k hk h67, h.1.2.2⟩, h.2⟩
theorem GRx.back_ {I : XI} {TX : Nat → Txt} {H Hi : Hlf} (h : GRx I TX H Hi) : GRx (cI (gBk I) 69 68 0 0 2200) TX ((oQ (hvA Hi), wLay (cI (gBk I) 69 68 0 0 2200), oN (hvA Hi), oF (hvA Hi)), Hi.2) Hi := by
  obtain ⟨⟨h1, h2, h3, h4⟩, ⟨tx, z⟩, hc, hci, ⟨hm, hl⟩, hmi⟩ := h
  have hm4 := h1.2.1
  have u8 := h2.2.2.2
  have k : ∀ q, (q ≠ 0 ∧ q ≠ 1 ∧ q ≠ 2 ∧ q ≠ 3 ∧ q ≠ 4 ∧ q ≠ 12 ∧ q ≠ 27) → q ≠ 68 → (cI (gBk I) 69 68 0 0 2200) q = I q := fun q a b => by rw [cI_ne b, gBk_k I q a]
  have kc : ∀ q, q ≠ 68 → (cI (gBk I) 69 68 0 0 2200) q = gBk I q := fun q a => cI_ne a
  have k68 : ∀ j, j < 2200 → (cI (gBk I) 69 68 0 0 2200) 68 j = I 69 j := fun j hj => by rw [cI_eq, cp_lo hj, gBk_k I 69 (by decide)]
  obtain ⟨⟨c27, c2, c11', c12'⟩, ⟨c125, c126, c127, c012, c013, c07⟩, c3, c4⟩ := gBk_c I
  have ew : ∀ j, j < 69 → wLay (cI (gBk I) 69 68 0 0 2200) j = oW (hvA Hi) j := fun j hj => by
    unfold wLay
    rw [if_pos hj, k68 _ (by omega)]
    exact hmi.1.2.1 j hj
  obtain ⟨⟨l1, l2, l3⟩, l4, l5, l6⟩ := h4
  refine ⟨⟨h2.back ew, h2, Nat.le_refl _, Tle.rf _⟩, ⟨fun t q => (tx t (by have : t < hvM Hi := q; omega)).keep (by have : t < hvM Hi := q; omega) (fun q hq => k q (by omega) (by omega)), fun w hw => ?_⟩, ?_, ?_, ⟨?_, rfl⟩, ?_⟩
  · rw [k 21 (by decide) (by decide), k 20 (by decide) (by decide)]
    exact z w hw
  · obtain ⟨⟨htd, _, _⟩, _⟩ := hc
    obtain ⟨⟨⟨i5, i6, i7⟩, hrc, hsc⟩, e13, e12, e7, en⟩ := hci
    refine ⟨⟨⟨by rw [kc 12 (by decide), c125]; exact i5, by rw [kc 12 (by decide), c126]; exact i6, by rw [kc 12 (by decide), c127]; exact i7, fun t ht => ?_, fun r hr => ?_, fun b hb => ?_⟩, ?_, ?_⟩, by rw [kc 0 (by decide), c013]; exact e13, by rw [kc 0 (by decide), c012]; exact e12, by rw [kc 0 (by decide), c07]; exact e7, fun i hi => ?_⟩
    · have ht : t < qT (oQ (hvA Hi)) := ht
      obtain ⟨x1, x2, x3⟩ := l4 t ht
      obtain ⟨y1, y2, y3⟩ := htd.2.2.2.1 t (by omega)
      rw [k 13 (by decide) (by decide), k 14 (by decide) (by decide), k 15 (by decide) (by decide)]
      exact ⟨y1.trans (congrArg nI x1.symm), y2.trans (congrArg nI x2.symm), y3.trans (congrArg nI x3.symm)⟩
    · have hr : r < qR (oQ (hvA Hi)) := hr
      rw [k 16 (by decide) (by decide)]
      exact (htd.2.2.2.2.1 r (by omega)).trans (congrArg nI (l5 r hr).symm)
    · have hb : b < qB (oQ (hvA Hi)) := hb
      rw [k 17 (by decide) (by decide)]
      exact (htd.2.2.2.2.2 b (by omega)).trans (congrArg nI (l6 b hb).symm)
    · rw [kc 27 (by decide), c27]
      exact hrc.cg ew (fun j hj => cp_lo hj)
    · obtain ⟨hn, first, hf, a, b, d⟩ := hsc
      refine ⟨hn, first, hf, by rw [kc 1 (by decide), c11']; exact a, by rw [kc 1 (by decide), c12']; exact b, fun j hj => ?_⟩
      refine (d j hj).cg (fun _ _ => rfl) (fun q hq => ?_)
      rw [kc 2 (by decide), c2]
      exact cp_lo (by omega)
    · have hi : i < hvU Hi := hi
      rw [kc 3 (by decide), kc 4 (by decide), c3, c4, cp_lo (by omega), cp_lo (by omega)]
      exact en i hi
  · obtain ⟨⟨ht3, hrc, hsc⟩, e13, e12, e7, en⟩ := hci
    refine ⟨⟨by rw [k 6 (by decide) (by decide)]; exact ht3, by rw [k 7 (by decide) (by decide)]; exact hrc, ?_⟩, by rw [k 6 (by decide) (by decide)]; exact e13, by rw [k 6 (by decide) (by decide)]; exact e12, by rw [k 6 (by decide) (by decide)]; exact e7, fun i hi => by rw [k 10 (by decide) (by decide), k 11 (by decide) (by decide)]; exact en i hi⟩
    obtain ⟨hn, first, hf, a, b, d⟩ := hsc
    refine ⟨hn, first, hf, ?_, ?_, fun j hj => ?_⟩
    · show (cI (gBk I) 69 68 0 0 2200) 8 1 = nI first
      rw [k 8 (by decide) (by decide)]
      exact a
    · show (cI (gBk I) 69 68 0 0 2200) 8 2 = _
      rw [k 8 (by decide) (by decide)]
      exact b
    · show RC _ _ (fun j' => (cI (gBk I) 69 68 0 0 2200) 9 _)
      rw [k 9 (by decide) (by decide)]
      exact d j hj
  · have y := hmi.cg h2 k68
    exact ⟨⟨y.1.1, fun j hj => (y.1.2.1 j hj).trans (ew j hj).symm, y.1.2.2⟩, y.2⟩
  · rw [k 69 (by decide) (by decide)]
    exact hmi
end
section
-- ===== the law's relation: all of a state, the tape, the last fault =====
def TPr (I : XI) : Prop := ∃ T, T ≤ 300 ∧ I 30 1 = nI T ∧ I 67 3 = nI T ∧ ∀ i, i < T → BR (I 31 i) (I 70 i)
def FLr (I : XI) : Prop := (I 35 6 = 0 ∧ I 67 4 = -1 ∧ I 67 5 = -1) ∨ (¬ I 35 6 = 0 ∧ I 35 7 = I 67 4 ∧ I 35 8 = I 67 5)
theorem tp_keep {I I2 : XI} (h : TPr I) (e30 : I2 30 1 = I 30 1) (e31 : I2 31 = I 31) (e67 : I2 67 3 = I 67 3) (e70 : I2 70 = I 70) : TPr I2 := by
  unfold TPr at h ⊢
  rw [e30, e31, e67, e70]
  exact h
theorem fl_keep {I I2 : XI} (h : FLr I) (e35 : I2 35 = I 35) (e4 : I2 67 4 = I 67 4) (e5 : I2 67 5 = I 67 5) : FLr I2 := by
  unfold FLr at h ⊢
  rw [e35, e4, e5]
  exact h
def shHB (ru ta : Nat) : Bool := CF.1.all fun q => match xn (shH ru ta []) q.1 with
  | some x => aoB q.2 x
  | none => false
set_option maxRecDepth 100000 in
theorem shHB_all : (txP.all fun ru => txP.all fun ta => shHB ru ta) = true := by decide +kernel
theorem xn_apx {α : Type} {m : List α} : ∀ {l : List α} {p : Nat} {x : α}, xn l p = some x → xn (l ++ m) p = some x
  | [], _, _, h => by cases h
  | _ :: _, 0, _, h => h
  | _ :: l, p + 1, _, h => xn_apx (l := l) (p := p) h
set_option maxRecDepth 100000 in
theorem sh_ok {ru ta : Nat} (hru : ru ∈ txP) (hta : ta ∈ txP) (rs : List XO) : shO CF (shH ru ta rs) := by
  intro p o h
  have y := List.all_eq_true.mp (List.all_eq_true.mp shHB_all ru hru) ta hta
  unfold shHB at y
  have y := List.all_eq_true.mp y (p, o) (xlk_mem h)
  dsimp only at y
  split at y
  · rename_i x e
    exact ⟨x, xn_apx (l := shH ru ta []) (m := rs) e, aoB_ok y⟩
  · cases y
theorem txP_in {t : Nat} (h : t < 4) : 47 + 5 * t ∈ txP := by
  have y : t = 0 ∨ t = 1 ∨ t = 2 ∨ t = 3 := by omega
  rcases y with rfl | rfl | rfl | rfl <;> decide
def lin2 (sh : List XO) (I : XI) : Prop := ∃ (TX : Nat → Txt) (H Hi : Hlf) (ta : Nat) (rs : List XO), (sh = shH (ruO (hvR H)) ta rs ∧ ta ∈ txP) ∧ (ivO CF [] I ∧ QQ I) ∧ GRx I TX H Hi ∧ TPr I ∧ FLr I
theorem ruO_mem {r : Option Nat} (h : rOK r 4) : ruO r ∈ txP := by
  cases r with
  | none => decide
  | some t => exact txP_in (h t rfl)
theorem HOK.ru {H : Hlf} (h : HOK H) : rOK (hvR H) 4 := fun t e => by
  have := h.2.2.1 t e
  have := h.2.1
  omega
theorem HOK.sh {H : Hlf} (h : HOK H) {ta : Nat} (hta : ta ∈ txP) (rs : List XO) : shO CF (shH (ruO (hvR H)) ta rs) := sh_ok (ruO_mem h.ru) hta rs
theorem MA.fc {I I1 : XI} {L : Lws} {A : Ast} (f : FCl I I1) (h : MA I L A) : MA I1 L A := by
  have g : ∀ q, 27 < q → I1 q = I q := fun q hq => f q (by omega) (by omega) (by omega) (by omega) (by omega)
  have e := g 68 (by decide)
  refine ⟨⟨⟨h.1.1.1.keep e, h.1.1.2⟩, h.1.2.keep (congrFun e 4) (g 71 (by decide)) (g 72 (by decide)) (g 73 (by decide)) (g 77 (by decide)) (g 78 (by decide))⟩, ?_, h.2.2.c (congrFun e 5) (fun j _ _ => congrFun e j)⟩
  rw [← h.2.1]
  exact wLay_cg (fun j _ _ => congrFun e j) (g 93 (by decide))
theorem qq_keep {I I' : XI} (h : QQ I) (e71 : I' 71 = I 71) (e72 : I' 72 = I 72) (e73 : I' 73 = I 73) (e77 : I' 77 = I 77) (e78 : I' 78 = I 78) : QQ I' := qq_ok I I' (fun p hp => by
  simp only [QPl, List.mem_cons, List.not_mem_nil, or_false] at hp
  rcases hp with rfl | rfl | rfl | rfl | rfl
  · exact e71
  · exact e72
  · exact e73
  · exact e77
  · exact e78) h
/-- a call on both sides whose effect is told -/
theorem lin2.op {I I1 I2 : XI} {TX : Nat → Txt} {H Hi : Hlf} {ta : Nat} {rs : List XO} {A' : Ast} {ru : Nat} {L L' : Lws} (hta : ta ∈ txP) (hi : ivO CF [] I) (hq : QQ I) (hg : GRx I TX H Hi) (tp : TPr I) (fl : FLr I) (hA' : AOK A') (ht : Tle (oQ (hvA H)) (oQ A')) (fc : FCl I I1) (c : CA I1 ru L A') (fm : FMl I1 I2) (m : MA I2 L' A') : lin2 (shH (ruO (hvR H)) ta rs) I2 := by
  have k : ∀ q, 27 < q → q ≠ 68 → q ≠ 91 → q ≠ 93 → I2 q = I q := fun q a f g i => (fm.1 q f g i).trans (fc q (by omega) (by omega) (by omega) (by omega) (by omega))
  have k2 : ∀ q, 17 < q → q ≠ 24 → q ≠ 27 → q ≠ 68 → q ≠ 91 → q ≠ 93 → I2 q = I q := fun q a b c' f g i => (fm.1 q f g i).trans (fc q (by omega) (by omega) (by omega) b c')
  have g := hg.op hA' ht fc c fm m
  have e68 : I1 68 = I 68 := fc 68 (by decide) (by decide) (by decide) (by decide) (by decide)
  have e93 : I1 93 = I 93 := fc 93 (by decide) (by decide) (by decide) (by decide) (by decide)
  refine ⟨TX, (A', H.2), Hi, ta, rs, ⟨rfl, hta⟩, ⟨iv_gr hi g (fun q a b c' d e f g' => k2 q a b c' d f g') (fm.2.2 ⟨fun j => by rw [e68]; exact hi 68 j rfl, fun j => by rw [e93]; exact hi 93 j rfl⟩) (fun j => by rw [k 69 (by decide) (by decide) (by decide) (by decide)]; exact hi 69 j rfl), ?_⟩, g, ?_, ?_⟩
  · exact qq_keep hq (k 71 (by decide) (by decide) (by decide) (by decide)) (k 72 (by decide) (by decide) (by decide) (by decide)) (k 73 (by decide) (by decide) (by decide) (by decide)) (k 77 (by decide) (by decide) (by decide) (by decide)) (k 78 (by decide) (by decide) (by decide) (by decide))
  · exact tp_keep tp (congrFun (k 30 (by decide) (by decide) (by decide) (by decide)) 1) (k 31 (by decide) (by decide) (by decide) (by decide)) (congrFun (k 67 (by decide) (by decide) (by decide) (by decide)) 3) (k 70 (by decide) (by decide) (by decide) (by decide))
  · exact fl_keep fl (k 35 (by decide) (by decide) (by decide) (by decide)) (congrFun (k 67 (by decide) (by decide) (by decide) (by decide)) 4) (congrFun (k 67 (by decide) (by decide) (by decide) (by decide)) 5)
theorem lin2.by_ {I : XI} {TX : Nat → Txt} {H Hi : Hlf} {ta : Nat} {rs : List XO} (hta : ta ∈ txP) (hi : ivO CF [] I) (hq : QQ I) (hg : GRx I TX H Hi) (tp : TPr I) (fl : FLr I) {r : Option Nat} (hr : rOK r (hvM H)) : lin2 (shH (ruO r) ta rs) (uI (uI I 0 13 (rI r)) 68 4 (rI r)) := by
  have g := hg.by_ hr
  have hm4 := hg.1.1.2.1
  have k : ∀ q, q ≠ 0 → q ≠ 68 → (uI (uI I 0 13 (rI r)) 68 4 (rI r)) q = I q := fun q a b => by rw [uI_ne b, uI_ne a]
  refine ⟨TX, (hvA H, r, H.2.2), Hi, ta, rs, ⟨rfl, hta⟩, ⟨iv_gr hi g (fun q a _ _ b _ _ _ => k q (by omega) b) ⟨fun j => ?_, fun j => by rw [k 93 (by decide) (by decide)]; exact hi 93 j rfl⟩ (fun j => by rw [k 69 (by decide) (by decide)]; exact hi 69 j rfl), ?_⟩, g, ?_, ?_⟩
  · rw [uI_eq]
    by_cases e : j = 4
    · subst e
      rw [upd_s, show cellI CF 68 4 = (-1, 3) from by decide +kernel]
      cases r with
      | none => exact ⟨by decide, by decide⟩
      | some t =>
        have := hr t rfl
        show inI (-1, 3) (nI t).toInt
        rw [nI_toInt (by omega)]
        exact ⟨by dsimp only; omega, by dsimp only; omega⟩
    · rw [upd_n e, uI_ne (by decide)]
      exact hi 68 j rfl
  · exact qq_keep hq (k 71 (by decide) (by decide)) (k 72 (by decide) (by decide)) (k 73 (by decide) (by decide)) (k 77 (by decide) (by decide)) (k 78 (by decide) (by decide))
  · exact tp_keep tp (congrFun (k 30 (by decide) (by decide)) 1) (k 31 (by decide) (by decide)) (congrFun (k 67 (by decide) (by decide)) 3) (k 70 (by decide) (by decide))
  · exact fl_keep fl (k 35 (by decide) (by decide)) (congrFun (k 67 (by decide) (by decide)) 4) (congrFun (k 67 (by decide) (by decide)) 5)
theorem lin2.need_ {I I2 : XI} {TX : Nat → Txt} {H Hi : Hlf} {ta : Nat} {rs : List XO} (hta : ta ∈ txP) (hi : ivO CF [] I) (hq : QQ I) (hg : GRx I TX H Hi) (tp : TPr I) (fl : FLr I) {u : Nat} {x y : Nat → Int32} (hu : u ≤ 8) (k : ∀ q, q ≠ 0 → q ≠ 3 → q ≠ 4 → q ≠ 68 → I2 q = I q) (k0 : ∀ j, j ≠ 7 → I2 0 j = I 0 j) (k68 : ∀ j, j ≠ 6 → (j < 42 ∨ 58 ≤ j) → I2 68 j = I 68 j) (e7 : I2 0 7 = nI u) (e6 : I2 68 6 = nI u) (en1 : ∀ i, i < u → I2 3 i = x i ∧ I2 4 i = y i) (en2 : ∀ i, i < u → I2 68 (42 + 2 * i) = x i ∧ I2 68 (43 + 2 * i) = y i) : lin2 (shH (ruO (hvR H)) ta rs) I2 := by
  have g := hg.need_ hu k k0 k68 e7 e6 en1 en2
  have kk : ∀ q, 4 < q → q ≠ 68 → I2 q = I q := fun q a b => k q (by omega) (by omega) (by omega) b
  refine ⟨TX, (hvA H, hvR H, hvM H, u, x, y), Hi, ta, rs, ⟨rfl, hta⟩, ⟨iv_gr hi g (fun q a _ _ b _ _ _ => kk q (by omega) b) ⟨fun j => ?_, fun j => by rw [kk 93 (by decide) (by decide)]; exact hi 93 j rfl⟩ (fun j => by rw [kk 69 (by decide) (by decide)]; exact hi 69 j rfl), ?_⟩, g, ?_, ?_⟩
  · by_cases e : j = 6
    · subst e
      rw [e6, show cellI CF 68 6 = (0, 8) from by decide +kernel]
      exact inI_n (by omega) (by omega)
    · by_cases c : j < 42 ∨ 58 ≤ j
      · rw [k68 j e c]
        exact hi 68 j rfl
      · have z : ∀ i, i < 16 → cellI CF 68 (42 + i) = fr := by decide +kernel
        have y := z (j - 42) (by omega)
        rw [show 42 + (j - 42) = j by omega] at y
        rw [y]
        exact inI_fr _
  · exact qq_keep hq (kk 71 (by decide) (by decide)) (kk 72 (by decide) (by decide)) (kk 73 (by decide) (by decide)) (kk 77 (by decide) (by decide)) (kk 78 (by decide) (by decide))
  · exact tp_keep tp (congrFun (kk 30 (by decide) (by decide)) 1) (kk 31 (by decide) (by decide)) (congrFun (kk 67 (by decide) (by decide)) 3) (kk 70 (by decide) (by decide))
  · exact fl_keep fl (kk 35 (by decide) (by decide)) (congrFun (kk 67 (by decide) (by decide)) 4) (congrFun (kk 67 (by decide) (by decide)) 5)
theorem lin2.image_ {I : XI} {TX : Nat → Txt} {H Hi : Hlf} {ta : Nat} {rs : List XO} (hta : ta ∈ txP) (hi : ivO CF [] I) (hq : QQ I) (hg : GRx I TX H Hi) (tp : TPr I) (fl : FLr I) : lin2 (shH (ruO (hvR H)) ta rs) (cI (gKp I) 68 69 0 0 2200) := by
  have g := hg.image_
  have k : ∀ q, 11 < q → q ≠ 69 → (cI (gKp I) 68 69 0 0 2200) q = I q := fun q a b => by rw [cI_ne b, gKp_k I q (by omega)]
  refine ⟨TX, H, H, ta, rs, ⟨rfl, hta⟩, ⟨iv_gr hi g (fun q a _ _ _ b _ _ => k q (by omega) b) ⟨fun j => by rw [k 68 (by decide) (by decide)]; exact hi 68 j rfl, fun j => by rw [k 93 (by decide) (by decide)]; exact hi 93 j rfl⟩ (fun j => ?_), ?_⟩, g, ?_, ?_⟩
  · rw [cI_eq, gKp_k I 68 (by decide), gKp_k I 69 (by decide)]
    by_cases c : j < 2200
    · rw [cp_lo c, cell_6 j]
      exact hi 68 j rfl
    · simp only [va_cpy]
      rw [if_neg (by omega)]
      exact hi 69 j rfl
  · exact qq_keep hq (k 71 (by decide) (by decide)) (k 72 (by decide) (by decide)) (k 73 (by decide) (by decide)) (k 77 (by decide) (by decide)) (k 78 (by decide) (by decide))
  · exact tp_keep tp (congrFun (k 30 (by decide) (by decide)) 1) (k 31 (by decide) (by decide)) (congrFun (k 67 (by decide) (by decide)) 3) (k 70 (by decide) (by decide))
  · exact fl_keep fl (k 35 (by decide) (by decide)) (congrFun (k 67 (by decide) (by decide)) 4) (congrFun (k 67 (by decide) (by decide)) 5)
theorem lin2.back_ {I : XI} {TX : Nat → Txt} {H Hi : Hlf} {ta : Nat} {rs : List XO} (hta : ta ∈ txP) (hi : ivO CF [] I) (hq : QQ I) (hg : GRx I TX H Hi) (tp : TPr I) (fl : FLr I) : lin2 (shH (ruO (hvR Hi)) ta rs) (cI (gBk I) 69 68 0 0 2200) := by
  have g := hg.back_
  have k : ∀ q, 12 < q → q ≠ 27 → q ≠ 68 → (cI (gBk I) 69 68 0 0 2200) q = I q := fun q a c b => by rw [cI_ne b, gBk_k I q (by omega)]
  refine ⟨TX, ((oQ (hvA Hi), wLay (cI (gBk I) 69 68 0 0 2200), oN (hvA Hi), oF (hvA Hi)), Hi.2), Hi, ta, rs, ⟨rfl, hta⟩, ⟨iv_gr hi g (fun q a _ c b _ _ _ => k q (by omega) c b) ⟨fun j => ?_, fun j => by rw [k 93 (by decide) (by decide) (by decide)]; exact hi 93 j rfl⟩ (fun j => by rw [k 69 (by decide) (by decide) (by decide)]; exact hi 69 j rfl), ?_⟩, g, ?_, ?_⟩
  · rw [cI_eq, gBk_k I 69 (by decide), gBk_k I 68 (by decide)]
    by_cases c : j < 2200
    · rw [cp_lo c, ← cell_6 j]
      exact hi 69 j rfl
    · simp only [va_cpy]
      rw [if_neg (by omega)]
      exact hi 68 j rfl
  · exact qq_keep hq (k 71 (by decide) (by decide) (by decide)) (k 72 (by decide) (by decide) (by decide)) (k 73 (by decide) (by decide) (by decide)) (k 77 (by decide) (by decide) (by decide)) (k 78 (by decide) (by decide) (by decide))
  · exact tp_keep tp (congrFun (k 30 (by decide) (by decide) (by decide)) 1) (k 31 (by decide) (by decide) (by decide)) (congrFun (k 67 (by decide) (by decide) (by decide)) 3) (k 70 (by decide) (by decide) (by decide))
  · exact fl_keep fl (k 35 (by decide) (by decide) (by decide)) (congrFun (k 67 (by decide) (by decide) (by decide)) 4) (congrFun (k 67 (by decide) (by decide) (by decide)) 5)
-- what the doing calls tell
theorem Tle.eq {Q P : Tld} (h : P = Q) : Tle Q P := h ▸ Tle.rf Q
theorem q_cut {L : Lws} {A : Ast} {x y z : Int32} : oQ (cutS L A x y z).2 = oQ A := by
  unfold cutS
  split <;> rfl
theorem q_last {A : Ast} {x y : Int32} : oQ (lastS A x y).2 = oQ A := by
  unfold lastS
  split <;> rfl
theorem q_use {A : Ast} {x y : Int32} : oQ (useS A x y).2 = oQ A := by
  unfold useS
  split <;> rfl
theorem q_move {A : Ast} {x y : Int32} : oQ (moveS A x y).2 = oQ A := by
  unfold moveS
  split <;> rfl
theorem q_sell {L : Lws} {A : Ast} {x : Int32} : oQ (sellS L A x).2 = oQ A := by
  unfold sellS
  split <;> rfl
theorem q_ph {L : Lws} : ∀ (k : Nat) {A : Ast}, oQ (phS L k A) = oQ A
  | 0, _ => rfl
  | k + 1, A => by
    unfold phS
    split
    · exact (q_ph k).trans rfl
    · rfl
theorem q_hour {L : Lws} {A : Ast} {x : Int32} : oQ (hourS L A x).2 = oQ A := by
  unfold hourS
  split
  · exact q_ph _
  · rfl
theorem q_dec {L : Lws} {A : Ast} {x y : Int32} : oQ (decS L A x y).2 = oQ A := by
  unfold decS
  split <;> rfl
theorem q_undo {A : Ast} : oQ (undoS A).2 = oQ A := by
  unfold undoS
  split <;> rfl
theorem q_th {A : Ast} {x y z : Int32} : Tle (oQ A) (oQ (thS A x y z).2) := by
  unfold thS
  split
  · exact Tle.th _ _ _ _
  · exact Tle.rf _
theorem q_re {A : Ast} {x : Int32} : Tle (oQ A) (oQ (reS A x).2) := by
  unfold reS
  split
  · exact Tle.re _ _
  · exact Tle.rf _
theorem q_ba {A : Ast} {x : Int32} : Tle (oQ A) (oQ (baS A x).2) := by
  unfold baS
  split
  · exact Tle.ba _ _
  · exact Tle.rf _
end
section
-- ===== a text that was read: its laws on both sides =====
section DN
variable {tk : Nat → TK}
theorem deN_b (h : ∀ j, (tk j).2.1 ≤ 10000) : ∀ (L : List (Nat × Nat × Nat)) (j x : Nat), x ∈ deN tk L j → x ≤ 10000
  | [], _, _, hx => by cases hx
  | (_, _, w) :: r, j, x, hx => by
    unfold deN at hx
    rcases List.mem_cons.mp hx with e | e
    · rw [e]
      exact h j
    · split at e
      · cases e
      · exact deN_b h r (j + 2) x e
theorem xeff_A (h : ∀ j, (tk j).2.1 ≤ 10000) (s : MS) (X : Wdr) (g : DNb X.2.2) : DNb (xeff tk s X).2.2 := by
  obtain ⟨m, K, k, ws, j⟩ := s
  match m with
  | 0 => exact g
  | 1 =>
    show DNb (y1x tk K j X).2.2
    unfold y1x z1x
    repeat' split
    all_goals exact g
  | 2 =>
    show DNb (y2x tk K j X).2.2
    unfold y2x z2x z2e
    repeat' split
    all_goals exact g
  | 3 =>
    show DNb (y3x tk j X).2.2
    unfold y3x z2x z2e
    repeat' split
    all_goals exact g
  | m + 4 =>
    show DNb (y4x tk j X).2.2
    unfold y4x
    split
    · intro a ha x hx
      rcases List.mem_append.mp ha with e | e
      · exact g a e x hx
      · rw [List.mem_singleton.mp e] at hx
        cases hx
    · intro a ha x hx
      rcases List.mem_append.mp ha with e | e
      · exact g a e x hx
      · rw [List.mem_singleton.mp e] at hx
        exact deN_b h _ _ x hx
theorem xit_A (h : ∀ j, (tk j).2.1 ≤ 10000) : ∀ (n : Nat) (x y : MS × Wdr), xit tk n x = .inl y → DNb x.2.2.2 → DNb y.2.2.2
  | 0, x, y, e, g => by
    have e := Sum.inl.inj e
    rw [← e]
    exact g
  | n + 1, x, y, e, g => by
    unfold xit xstep at e
    cases hm : mstep tk x.1 with
    | inl s' =>
      simp only [hm] at e
      exact xit_A h n _ y e (xeff_A h x.1 x.2 g)
    | inr r =>
      simp only [hm] at e
      cases e
theorem Ex.dn (h : ∀ j, (tk j).2.1 ≤ 10000) {s : MS} {r : Nat × Nat} {y : MS × Wdr} (e : Ex tk (s, [], [], []) r y) : DNb y.2.2.2 := by
  obtain ⟨⟨n, hn⟩, _⟩ := e
  exact xit_A h n _ y hn (fun a ha => by cases ha)
end DN
theorem lexC_0 {B : Nat → Int32} {T i : Nat} : (lexC B T i).1 = 0 ∨ (lexC B T i).1 = 4 → (lexC B T i).2.1 = 0 := by
  unfold lexC
  cases h0 : Nat.ble T i with
  | true => exact fun _ => rfl
  | false =>
    cases h1 : bLt (B i) with
    | true =>
      dsimp only
      cases h2 : kW (lts B T i) wT 0 with
      | some k => exact fun z => by rcases z with z | z <;> cases z
      | none => exact fun _ => rfl
    | false =>
      cases h2 : bDg (B i) with
      | true => exact fun z => by rcases z with z | z <;> cases z
      | false =>
        cases h3 : (decide (B i = 60) || decide (B i = 62)) && (Nat.blt (i + 1) T && decide (B (i + 1) = 61)) with
        | true => exact fun z => by rcases z with z | z <;> cases z
        | false =>
          dsimp only
          cases h4 : sgL.contains (B i) with
          | true => exact fun z => by rcases z with z | z <;> cases z
          | false => exact fun _ => rfl
theorem tkS_le {B : Nat → Int32} {T : Nat} (hT : T ≤ 300) (j : Nat) : (tkS B T j).2.1 ≤ 10000 := by
  have o := tkS_ok (B := B) hT j
  rcases tk_five o.1 with e | e | e | e | e
  · have := lexC_0 (B := B) (T := T) (Or.inl e)
    have z : (tkS B T j).2.1 = 0 := this
    omega
  · have := o.2.1 e
    omega
  · exact o.2.2.1 e
  · have y : ∀ z, z ∈ SGN → z ≤ 10000 := by decide
    exact y _ (o.2.2.2.1 e)
  · have := lexC_0 (B := B) (T := T) (Or.inr e)
    have z : (tkS B T j).2.1 = 0 := this
    omega
theorem OR7.loc {I I' : XI} : ∀ {e : List Odr} {k : Nat}, OR7 I k e → (∀ j, k ≤ j → j ≤ k + e.length → I' 77 j = I 77 j ∧ I' 78 j = I 78 j) → OR7 I' k e
  | [], k, h, f => by
    unfold OR7 at h ⊢
    rw [(f k (Nat.le_refl _) (Nat.le_refl _)).1]
    exact h
  | o :: e, k, h, f => by
    unfold OR7 at h ⊢
    obtain ⟨f1, f2⟩ := f k (Nat.le_refl _) (Nat.le_add_right _ _)
    rw [f1, f2]
    exact ⟨h.1, h.2.1, OR7.loc h.2.2 (fun j a b => f j (by omega) (by rw [List.length_cons]; omega))⟩
theorem OR7.mk {I : XI} : ∀ {e : List Odr} {k : Nat}, (∀ j, j < e.length → I 77 (k + j) = nI (e.getD j (0, 0)).1 ∧ ((e.getD j (0, 0)).1 = 402 ∨ I 78 (k + j) = nI (e.getD j (0, 0)).2)) → I 77 (k + e.length) = 408 → OR7 I k e
  | [], k, _, h => h
  | o :: e, k, h, g => by
    unfold OR7
    have y := h 0 (by rw [List.length_cons]; omega)
    refine ⟨y.1, y.2, OR7.mk (fun j hj => ?_) ?_⟩
    · have z := h (j + 1) (by rw [List.length_cons]; omega)
      rw [show k + (j + 1) = k + 1 + j by omega] at z
      exact z
    · rw [List.length_cons] at g
      rw [show k + 1 + e.length = k + (e.length + 1) by omega]
      exact g
theorem ofL_at {I : XI} {c w : Nat} {ws : List Nat} (hw : w < 5) (h : ∀ i, i < ws.length → I 72 (c + i) = nI (ws.getD i 0) ∧ ws.getD i 0 ≤ 13) : ∀ k, k ≤ ws.length → (∃ i, i < k ∧ ws.getD i 0 = w ∧ ofL I c w k = I 73 (c + i)) ∨ ((∀ i, i < k → ws.getD i 0 ≠ w) ∧ ofL I c w k = -1)
  | 0, _ => Or.inr ⟨fun i hi => absurd hi (Nat.not_lt_zero i), rfl⟩
  | k + 1, hk => by
    have y := h k (by omega)
    unfold ofL
    by_cases e : ws.getD k 0 = w
    · rw [if_pos (by rw [y.1, e])]
      exact Or.inl ⟨k, Nat.lt_succ_self _, e, rfl⟩
    · rw [if_neg (fun z => e (nI_inj (y.1.symm.trans z) (by omega) (by omega)))]
      rcases ofL_at hw h k (by omega) with ⟨i, hi, a, b⟩ | ⟨a, b⟩
      · exact Or.inl ⟨i, by omega, a, b⟩
      · refine Or.inr ⟨fun i hi => ?_, b⟩
        by_cases ei : i = k
        · rw [ei]
          exact e
        · exact a i (by omega)
theorem law_ex {I : XI} {ta t c w : Nat} {ws : List Nat} {E : List Odr} {A : Adr} (hw : w < 5) (ht : t < 4) (hc : c ≤ 300) (g : GT ta I ws c E A) (hm : w ∈ ws ↔ I (ta + 2) w < I (ta + 3) w) (r : RTx t I I ws E A) : ∃ o, LCw I ta w o ∧ LRw I w (ofL I (24 * t) w ws.length) o ∧ ∀ e, o = some e → ∃ f, ofL I (24 * t) w ws.length = nI f ∧ 400 * t ≤ f ∧ f + e.length < 400 * t + 400 := by
  obtain ⟨⟨r1, r2, r3⟩, r4, r5, r6⟩ := r
  have h := ofL_at (I := I) (c := 24 * t) (ws := ws) hw (fun i hi => ⟨(r5 i hi).1, (g.2 i hi).1⟩) ws.length (Nat.le_refl _)
  rcases h with ⟨i, hi, e1, e2⟩ | ⟨h1, h2⟩
  · have cl := g.2 i hi
    rw [e1] at cl
    obtain ⟨st, e, pre, rr, a1, a2, a3, a4, a5, a6, a7⟩ := cl.2.2.1 (by omega)
    have lt := hm.mp (by rw [← e1]; exact getD_mem hi)
    rw [a1, a2, nlt (by omega) (by omega)] at lt
    have ty : tyE w e [] = some [Nat.beq w 4] := a5 [] (by decide)
    have eL : E.length = pre.length + (e.length + (1 + rr.length)) := by
      rw [a6, List.length_append, List.length_append, List.length_append]
      simp
      omega
    have ef : ofL I (24 * t) w ws.length = nI (400 * t + pre.length) := by rw [e2, (r5 i hi).2.1, ← a7]
    have gx : ∀ j, j < e.length → E.getD (pre.length + j) (0, 0) = e.getD j (0, 0) := fun j hj => by
      rw [a6, List.getD_eq_getElem?_getD, List.getD_eq_getElem?_getD, List.append_assoc, List.append_assoc, List.getElem?_append_right (Nat.le_add_right _ _), Nat.add_sub_cancel_left, List.getElem?_append_left hj]
    have gl : E.getD (pre.length + e.length) (0, 0) = (408, 0) := by
      rw [a6, List.getD_eq_getElem?_getD, List.append_assoc, List.append_assoc, List.getElem?_append_right (Nat.le_add_right _ _), Nat.add_sub_cancel_left, List.getElem?_append_right (Nat.le_refl _), Nat.sub_self]
      rfl
    refine ⟨some e, ⟨st, a1, a2, by omega, a4, ty, by omega⟩, ⟨400 * t + pre.length, ef, OR7.mk (fun j hj => ?_) ?_, by omega, by omega, ty⟩, fun e' he => ?_⟩
    · have y := r6 (pre.length + j) (by omega)
      rw [gx j hj, show 400 * t + (pre.length + j) = 400 * t + pre.length + j by omega] at y
      exact y
    · have y := (r6 (pre.length + e.length) (by omega)).1
      rw [gl, show 400 * t + (pre.length + e.length) = 400 * t + pre.length + e.length by omega] at y
      exact y
    · cases he
      exact ⟨400 * t + pre.length, ef, by omega, by omega⟩
  · have nm : ¬ w ∈ ws := fun z => by
      obtain ⟨i, hi, e⟩ := List.getElem_of_mem z
      refine h1 i hi ?_
      rw [List.getD_eq_getElem?_getD, List.getElem?_eq_getElem hi]
      exact e
    exact ⟨none, Int32.not_lt.mp (fun z => nm (hm.mpr z)), h2, fun e he => by cases he⟩
/-- the text that was read -/
theorem TXT.new {I : XI} {t c : Nat} {ws : List Nat} {E : List Odr} {A : Adr} (ht : t < 4) (hc : c ≤ 300) (g : GT (47 + 5 * t) I ws c E A) (e5 : I (47 + 5 * t) 5 = nI ws.length) (hm : ∀ w, w < 5 → (w ∈ ws ↔ I (47 + 5 * t + 2) w < I (47 + 5 * t + 3) w)) (r : RTx t I I ws E A) (db : DNb A) : ∃ L, TXT I t (ws, E, A, L) := by
  have ex : ∀ w, w < 5 → ∃ o, LCw I (47 + 5 * t) w o ∧ LRw I w (ofL I (24 * t) w ws.length) o ∧ ∀ e, o = some e → ∃ f, ofL I (24 * t) w ws.length = nI f ∧ 400 * t ≤ f ∧ f + e.length < 400 * t + 400 := fun w hw => law_ex hw ht hc g (hm w hw) r
  obtain ⟨o0, a0⟩ := ex 0 (by omega)
  obtain ⟨o1, a1⟩ := ex 1 (by omega)
  obtain ⟨o2, a2⟩ := ex 2 (by omega)
  obtain ⟨o3, a3⟩ := ex 3 (by omega)
  obtain ⟨o4, a4⟩ := ex 4 (by omega)
  have all : ∀ w, w < 5 → LCw I (47 + 5 * t) w ((fun w => match w with | 0 => o0 | 1 => o1 | 2 => o2 | 3 => o3 | _ => o4 : Lws) w) ∧ LRw I w (ofL I (24 * t) w ws.length) ((fun w => match w with | 0 => o0 | 1 => o1 | 2 => o2 | 3 => o3 | _ => o4 : Lws) w) ∧ ∀ e, (fun w => match w with | 0 => o0 | 1 => o1 | 2 => o2 | 3 => o3 | _ => o4 : Lws) w = some e → ∃ f, ofL I (24 * t) w ws.length = nI f ∧ 400 * t ≤ f ∧ f + e.length < 400 * t + 400 := fun w hw => by
    match w, hw with
    | 0, _ => exact a0
    | 1, _ => exact a1
    | 2, _ => exact a2
    | 3, _ => exact a3
    | 4, _ => exact a4
    | w + 5, h => exact absurd h (by omega)
  exact ⟨(fun w => match w with | 0 => o0 | 1 => o1 | 2 => o2 | 3 => o3 | _ => o4), ⟨c, hc, g, e5, db⟩, r, fun w hw => (all w hw).1, ws.length, r.1.1, r.2.1, fun w hw => (all w hw).2⟩
/-- a text that stays, as another is read -/
theorem TXT.old {I I' : XI} {t m : Nat} {x : Txt} (ht : t < m) (hm : m ≤ 4) (h : TXT I t x) (fc : ∀ q, 46 < q → q < 47 + 5 * m → I' q = I q) (ro : RTo m I I') : TXT I' t x := by
  obtain ⟨⟨c, c3, g, e5, db⟩, r, lc, N, n1, n2, lr⟩ := h
  obtain ⟨o1, o2, o3⟩ := ro
  obtain ⟨⟨r1, r2, r3⟩, r4, r5, r6⟩ := r
  have el : ∀ w k, k ≤ 24 → ofL I' (24 * t) w k = ofL I (24 * t) w k := fun w k => by
    induction k with
    | zero => intro _; rfl
    | succ k ih =>
      intro hk
      unfold ofL
      obtain ⟨q1, q2, _⟩ := o2 (24 * t + k) (Or.inl (by omega))
      rw [q1, q2, ih (by omega)]
  refine ⟨⟨c, c3, g.keep (fun q a b => fc q (by omega) (by omega)), by rw [fc _ (by omega) (by omega)]; exact e5, db⟩, ⟨⟨r1, r2, r3⟩, (o1 t (by omega)).trans r4, fun i hi => ?_, fun i hi => ?_⟩, fun w hw => (lc w hw).keep (fc _ (by omega) (by omega)) (fc _ (by omega) (by omega)) (fc _ (by omega) (by omega)), N, n1, (o1 t (by omega)).trans n2, fun w hw => ?_⟩
  · obtain ⟨q1, q2, q3, q4, q5⟩ := o2 (24 * t + i) (Or.inl (by omega))
    rw [q1, q2, q3, q4, q5]
    exact r5 i hi
  · obtain ⟨q1, q2⟩ := o3 (400 * t + i) (Or.inl (by omega))
    rw [q1, q2]
    exact r6 i hi
  · rw [el w N n1]
    refine ⟨?_, (lr w hw).2⟩
    have y := lr w hw
    cases e : tqL x w with
    | none =>
      rw [e] at y
      exact y.1
    | some od =>
      rw [e] at y
      obtain ⟨f, a, b, cc⟩ := y.1
      obtain ⟨f', a', b1, b2⟩ := y.2 od rfl
      have ef : f = f' := by
        have b3 := cc.1
        exact nI_inj (a.symm.trans a') (by omega) (by omega)
      subst ef
      exact ⟨f, a, OR7.loc b (fun j j1 j2 => o3 j (Or.inl (by omega))), cc⟩
theorem RTo.keep {m : Nat} {I Ib I' : XI} (h : RTo m Ib I') (e : ∀ q, 70 < q → q < 79 → Ib q = I q) : RTo m I I' := by
  unfold RTo at h ⊢
  rw [← e 71 (by decide) (by decide), ← e 72 (by decide) (by decide), ← e 73 (by decide) (by decide), ← e 74 (by decide) (by decide), ← e 75 (by decide) (by decide), ← e 76 (by decide) (by decide), ← e 77 (by decide) (by decide), ← e 78 (by decide) (by decide)]
  exact h
end
section
-- ===== what leaves all of it; a text more =====
theorem RTo.rf {m : Nat} {I I' : XI} (e : ∀ q, 70 < q → q < 79 → I' q = I q) : RTo m I I' := by
  unfold RTo
  rw [e 71 (by decide) (by decide), e 72 (by decide) (by decide), e 73 (by decide) (by decide), e 74 (by decide) (by decide), e 75 (by decide) (by decide), e 76 (by decide) (by decide), e 77 (by decide) (by decide), e 78 (by decide) (by decide)]
  exact ⟨fun _ _ => rfl, fun _ _ => ⟨rfl, rfl, rfl, rfl, rfl⟩, fun _ _ => ⟨rfl, rfl⟩⟩
/-- texts may have been added -/
theorem GRx.upd {I I' : XI} {TX TX' : Nat → Txt} {H Hi : Hlf} {m' : Nat} (h : GRx I TX H Hi) (hm' : m' ≤ 4) (hle : hvM H ≤ m') (htx : ∀ t, t < m' → TXT I' t (TX' t)) (f : ∀ q, q ≠ 0 → (q < 23 ∨ q = 27 ∨ q = 69) → I' q = I q) (f0 : ∀ j, j ≠ 12 → I' 0 j = I 0 j) (f012 : I' 0 12 = nI m') (f68 : ∀ k, k ≠ 3 → I' 68 k = I 68 k) (f683 : I' 68 3 = nI m') : GRx I' TX' ((oQ (hvA H), wLay I', oN (hvA H), oF (hvA H)), hvR H, m', H.2.2.2) Hi := by
  obtain ⟨⟨h1, h2, h3, h4⟩, ⟨tx, z⟩, hc, hci, ⟨hm, hl⟩, hmi⟩ := h
  have t8 := h1.1.1.1
  have r4 := h1.1.1.2.1
  have b4 := h1.1.1.2.2.1
  have u8 := h1.2.2.2
  have ew : ∀ k, k < 69 → wLay I' k = oW (hvA H) k := fun k hk => by
    unfold wLay
    rw [if_pos hk, f68 _ (by omega)]
    exact hm.1.2.1 k hk
  have hb := h1.back ew
  refine ⟨⟨⟨hb.1, hm', fun t e => Nat.lt_of_lt_of_le (h1.2.2.1 t e) hle, h1.2.2.2⟩, h2, Nat.le_trans h3 hle, h4⟩, ⟨htx, fun w hw => ?_⟩, ?_, ?_, ⟨?_, rfl⟩, ?_⟩
  · rw [f 21 (by decide) (by omega), f 20 (by decide) (by omega)]
    exact z w hw
  · obtain ⟨⟨htd, hrc, hsc⟩, e13, e12, e7, en⟩ := hc
    refine ⟨⟨htd.keep (f 12 (by decide) (by omega)) (f 13 (by decide) (by omega)) (f 14 (by decide) (by omega)) (f 15 (by decide) (by omega)) (f 16 (by decide) (by omega)) (f 17 (by decide) (by omega)), hrc.cg ew (fun k _ => by rw [f 27 (by decide) (by omega)]), ?_⟩, (f0 13 (by decide)).trans e13, f012, (f0 7 (by decide)).trans e7, fun i hi => by rw [f 3 (by decide) (by omega), f 4 (by decide) (by omega)]; exact en i hi⟩
    obtain ⟨hn, first, hf, a, b, d⟩ := hsc
    refine ⟨hn, first, hf, by rw [f 1 (by decide) (by omega)]; exact a, by rw [f 1 (by decide) (by omega)]; exact b, fun j hj => ?_⟩
    rw [f 2 (by decide) (by omega)]
    exact d j hj
  · obtain ⟨⟨ht3, hrc, hsc⟩, e13, e12, e7, en⟩ := hci
    refine ⟨⟨by rw [f 6 (by decide) (by omega)]; exact ht3, by rw [f 7 (by decide) (by omega)]; exact hrc, ?_⟩, by rw [f 6 (by decide) (by omega)]; exact e13, by rw [f 6 (by decide) (by omega)]; exact e12, by rw [f 6 (by decide) (by omega)]; exact e7, fun i hi => by rw [f 10 (by decide) (by omega), f 11 (by decide) (by omega)]; exact en i hi⟩
    obtain ⟨hn, first, hf, a, b, d⟩ := hsc
    refine ⟨hn, first, hf, ?_, ?_, fun j hj => ?_⟩
    · show I' 8 1 = nI first
      rw [f 8 (by decide) (by omega)]
      exact a
    · show I' 8 2 = _
      rw [f 8 (by decide) (by omega)]
      exact b
    · show RC _ _ (fun j' => I' 9 _)
      rw [f 9 (by decide) (by omega)]
      exact d j hj
  · obtain ⟨⟨htd, hww, hsm⟩, e4, e3, e6, en⟩ := hm
    refine ⟨⟨?_, fun j hj => (f68 _ (by omega)).trans ((hww j hj).trans (ew j hj).symm), hsm.1, (f68 5 (by decide)).trans hsm.2.1, fun j q hj hq => (f68 _ (by omega)).trans (hsm.2.2 j q hj hq)⟩, (f68 4 (by decide)).trans e4, f683, (f68 6 (by decide)).trans e6, fun i hi => ?_⟩
    · obtain ⟨a0, a1, a2, a3, a4, a5⟩ := htd
      refine ⟨(f68 0 (by decide)).trans a0, (f68 1 (by decide)).trans a1, (f68 2 (by decide)).trans a2, fun t ht => ?_, fun q hq => ?_, fun b hb => ?_⟩
      · obtain ⟨x1, x2, x3⟩ := a3 t ht
        exact ⟨(f68 _ (by omega)).trans x1, (f68 _ (by omega)).trans x2, (f68 _ (by omega)).trans x3⟩
      · exact (f68 _ (by omega)).trans (a4 q hq)
      · exact (f68 _ (by omega)).trans (a5 b hb)
    · rw [f68 _ (by omega), f68 _ (by omega)]
      exact en i hi
  · rw [f 69 (by decide) (by omega)]
    exact hmi
theorem GRx.keep {I I' : XI} {TX : Nat → Txt} {H Hi : Hlf} (h : GRx I TX H Hi) (f : ∀ q, (q < 23 ∨ q = 27 ∨ q = 69 ∨ (46 < q ∧ q < 47 + 5 * hvM H) ∨ (70 < q ∧ q < 79)) → I' q = I q) (f68 : ∀ k, I' 68 k = I 68 k) : GRx I' TX ((oQ (hvA H), wLay I', oN (hvA H), oF (hvA H)), H.2) Hi := by
  have e := h
  obtain ⟨⟨h1, h2, h3, h4⟩, ⟨tx, z⟩, hc, hci, ⟨hm, hl⟩, hmi⟩ := e
  have f0 : I' 0 = I 0 := f 0 (by omega)
  exact h.upd (m' := hvM H) h1.2.1 (Nat.le_refl _) (fun t (ht : t < hvM H) => (tx t ht).old (m := hvM H) ht h1.2.1 (fun q a b => f q (by omega)) (RTo.rf (fun q a b => f q (by omega)))) (fun q _ hq => f q (by omega)) (fun j _ => congrFun f0 j) ((congrFun f0 12).trans hc.2.2.1) (fun k _ => f68 k) ((f68 3).trans hm.2.2.1)
/-- a text more -/
theorem GRx.text_ {I I' : XI} {TX : Nat → Txt} {H Hi : Hlf} (h : GRx I TX H Hi) (hm4 : hvM H < 4) {x : Txt} (hx : TXT I' (hvM H) x) (ro : RTo (hvM H) I I') (f : ∀ q, q ≠ 0 → (q < 23 ∨ q = 27 ∨ q = 69 ∨ (46 < q ∧ q < 47 + 5 * hvM H)) → I' q = I q) (f0 : ∀ j, j ≠ 12 → I' 0 j = I 0 j) (f012 : I' 0 12 = nI (hvM H + 1)) (f68 : ∀ k, k ≠ 3 → I' 68 k = I 68 k) (f683 : I' 68 3 = nI (hvM H + 1)) : GRx I' (fun t => if t = hvM H then x else TX t) ((oQ (hvA H), wLay I', oN (hvA H), oF (hvA H)), hvR H, hvM H + 1, H.2.2.2) Hi := by
  refine h.upd (by omega) (Nat.le_succ _) (fun t ht => ?_) (fun q a hq => f q a (by omega)) f0 f012 f68 f683
  by_cases e : t = hvM H
  · show TXT I' t (if t = hvM H then x else TX t)
    rw [if_pos e, e]
    exact hx
  · show TXT I' t (if t = hvM H then x else TX t)
    rw [if_neg e]
    exact (h.2.1.1 t (by omega)).old (m := hvM H) (by omega) (by omega) (fun q a b => f q (by omega) (by omega)) ro
/-- two queries, each by its contract -/
theorem lin2.ask {I I1 I2 : XI} {TX : Nat → Txt} {H Hi : Hlf} {ta : Nat} {rs : List XO} {P1 P2 : List Nat} (hta : ta ∈ txP) (hg : GRx I TX H Hi) (tp : TPr I) (fl : FLr I) (f1 : frO P1 I I1) (f2 : frO P2 I1 I2) (h1 : (P1.all fun q => decide (24 ≤ q ∧ q ≠ 27 ∧ (q ≤ 29 ∨ (36 ≤ q ∧ q ≤ 46) ∨ 79 ≤ q))) = true) (h2 : (P2.all fun q => decide (79 ≤ q)) = true) (i2 : ivO CF [] I2) (q2 : QQ I2) : lin2 (shH (ruO (hvR H)) ta rs) I2 := by
  have n1 : ∀ q, (q < 24 ∨ q = 27 ∨ (29 < q ∧ q < 36) ∨ (46 < q ∧ q < 79)) → I1 q = I q := fun q hq => f1 q (by
    cases e : nmem q P1 with
    | false => rfl
    | true =>
      have y := List.all_eq_true.mp h1 q (nmem_el e)
      rw [decide_eq_true_iff] at y
      omega)
  have n2 : ∀ q, q < 79 → I2 q = I1 q := fun q hq => f2 q (by
    cases e : nmem q P2 with
    | false => rfl
    | true =>
      have y := List.all_eq_true.mp h2 q (nmem_el e)
      rw [decide_eq_true_iff] at y
      omega)
  have k : ∀ q, (q < 24 ∨ q = 27 ∨ (29 < q ∧ q < 36) ∨ (46 < q ∧ q < 79)) → I2 q = I q := fun q hq => (n2 q (by omega)).trans (n1 q hq)
  exact ⟨TX, ((oQ (hvA H), wLay I2, oN (hvA H), oF (hvA H)), H.2), Hi, ta, rs, ⟨rfl, hta⟩, ⟨i2, q2⟩, hg.keep (fun q hq => k q (by have := hg.1.1.2.1; omega)) (fun j => congrFun (k 68 (by omega)) j), tp_keep tp (congrFun (k 30 (by omega)) 1) (k 31 (by omega)) (congrFun (k 67 (by omega)) 3) (k 70 (by omega)), fl_keep fl (k 35 (by omega)) (congrFun (k 67 (by omega)) 4) (congrFun (k 67 (by omega)) 5)⟩
end
section
-- ===== text() keeps the relation; the start; what about() tells =====
theorem txm_lo {Ib I2 : XI} (f : frO TXM Ib I2) {q : Nat} (h : q < 67) : I2 q = Ib q := f q (by
  cases e : nmem q TXM with
  | false => rfl
  | true =>
    have y := nmem_el e
    simp only [TXM, List.mem_cons, List.not_mem_nil, or_false] at y
    omega)
theorem lin2.text_ok {I I1 I2 : XI} {TX : Nat → Txt} {H Hi : Hlf} {rs : List XO} {T : Nat} (hT : T ≤ 300) (hg : GRx I TX H Hi) (hm4 : hvM H < 4) (ok : ROK (47 + 5 * hvM H) (tkS (I 70) T) I I1) (i2 : ivO CF [] I2) (q2 : QQ I2) (f : frO TXM (uI (uI I1 30 1 0) 0 12 (nI (hvM H + 1))) I2) (g68 : ∀ k, k ≠ 3 → I2 68 k = (uI (uI I1 30 1 0) 0 12 (nI (hvM H + 1))) 68 k) (g69 : I2 69 = (uI (uI I1 30 1 0) 0 12 (nI (hvM H + 1))) 69) (z1 : I2 67 3 = 0) (G7 : I2 35 7 = I2 67 4) (G8 : I2 35 8 = I2 67 5) (y3 : I2 68 3 = nI (hvM H + 1)) (ro : RTo (hvM H) (uI (uI I1 30 1 0) 0 12 (nI (hvM H + 1))) I2) (ex : ∃ K k ws j E A, Ex (tkS (I 70) T) ((4, [], 0, [], 0), [], [], []) (0, 0) ((4, K, k, ws, j), [], E, A) ∧ RTx (hvM H) (uI (uI I1 30 1 0) 0 12 (nI (hvM H + 1))) I2 ws E A) : lin2 (shH (ruO (hvR H)) (47 + 5 * hvM H) rs) I2 := by
  obtain ⟨rd, _, _, _, ws, c, E, A, K, k, j, gt, w24, c3, e5, hmw, exc⟩ := ok
  obtain ⟨K', k', ws', j', E', A', exm, rt⟩ := ex
  obtain ⟨_, dd⟩ := Ex.det exc exm
  have d1 := congrArg (fun x : MS × Wdr => x.1.2.2.2.1) dd
  have d2 := congrArg (fun x : MS × Wdr => x.2.2.1) dd
  have d3 := congrArg (fun x : MS × Wdr => x.2.2.2) dd
  dsimp only at d1 d2 d3
  subst d1 d2 d3
  have r1 : ∀ q, q < 30 ∨ q = 31 ∨ (46 < q ∧ q < 47 + 5 * hvM H) ∨ 66 < q → I1 q = I q := fun q hq => rd.1 q (by omega) (by omega) (by omega) (by omega) (by omega) (by omega) (by omega) (by omega) (by omega) (by omega)
  have r2 : ∀ q, q < 67 → q ≠ 0 → q ≠ 30 → I2 q = I1 q := fun q a b c => by rw [txm_lo f a, uI_ne b, uI_ne c]
  have e68 : ∀ k, k ≠ 3 → I2 68 k = I 68 k := fun k hk => by rw [g68 k hk, uI_ne (by decide), uI_ne (by decide), r1 68 (by omega)]
  have gt2 : GT (47 + 5 * hvM H) I2 ws c E A := gt.keep (fun q a b => r2 q (by omega) (by omega) (by omega))
  have q0 : I2 (47 + 5 * hvM H) = I1 (47 + 5 * hvM H) := r2 _ (by omega) (by omega) (by omega)
  have q2' : I2 (47 + 5 * hvM H + 2) = I1 (47 + 5 * hvM H + 2) := r2 _ (by omega) (by omega) (by omega)
  have q3' : I2 (47 + 5 * hvM H + 3) = I1 (47 + 5 * hvM H + 3) := r2 _ (by omega) (by omega) (by omega)
  obtain ⟨L, tx⟩ := TXT.new hm4 c3 gt2 (by rw [q0]; exact e5) (fun w hw => by rw [q2', q3']; exact hmw w hw) (rt.keep (fun _ _ _ => rfl)) (exc.dn (fun j => tkS_le hT j))
  have g := hg.text_ (I' := I2) hm4 tx (ro.keep (fun q a b => by rw [uI_ne (by omega), uI_ne (by omega), r1 q (by omega)])) (fun q a hq => by
    by_cases e : q = 69
    · subst e
      rw [g69, uI_ne (by decide), uI_ne (by decide), r1 69 (by omega)]
    · rw [r2 q (by omega) a (by omega), r1 q (by omega)]) (fun j hj => by rw [txm_lo f (by decide), uI_eq, upd_n hj, uI_ne (by decide), r1 0 (by omega)]) (by rw [txm_lo f (by decide), uI_rd]) e68 y3
  refine ⟨_, ((oQ (hvA H), wLay I2, oN (hvA H), oF (hvA H)), hvR H, hvM H + 1, H.2.2.2), Hi, 47 + 5 * hvM H, rs, ⟨rfl, txP_in hm4⟩, ⟨i2, q2⟩, g, ⟨0, by omega, ?_, z1, fun i hi => absurd hi (Nat.not_lt_zero i)⟩, Or.inr ⟨?_, G7, G8⟩⟩
  · rw [txm_lo f (by decide), uI_ne (by decide), uI_rd]
    rfl
  · rw [r2 35 (by decide) (by decide) (by decide), rd.2.2.2.2.2]
    decide
theorem lin2.text_no {I I1 I2 : XI} {TX : Nat → Txt} {H Hi : Hlf} {rs : List XO} (hg : GRx I TX H Hi) (hm4 : hvM H < 4) (rd : RDF (47 + 5 * hvM H) I I1) (i2 : ivO CF [] I2) (q2 : QQ I2) (f : frO TXM (uI I1 30 1 0) I2) (g68 : ∀ k, k ≠ 3 → I2 68 k = (uI I1 30 1 0) 68 k) (g69 : I2 69 = (uI I1 30 1 0) 69) (z1 : I2 67 3 = 0) (G7 : I2 35 7 = I2 67 4) (G8 : I2 35 8 = I2 67 5) (y3 : I2 68 3 = nI (hvM H)) (hh : ∀ q, 70 < q → q < 79 → I2 q = (uI I1 30 1 0) q) : lin2 (shH (ruO (hvR H)) (47 + 5 * hvM H) rs) I2 := by
  have r1 : ∀ q, q < 30 ∨ q = 31 ∨ (46 < q ∧ q < 47 + 5 * hvM H) ∨ 66 < q → I1 q = I q := fun q hq => rd.1 q (by omega) (by omega) (by omega) (by omega) (by omega) (by omega) (by omega) (by omega) (by omega) (by omega)
  have r2 : ∀ q, q < 67 → q ≠ 30 → I2 q = I1 q := fun q a c => by rw [txm_lo f a, uI_ne c]
  have e68 : ∀ k, I2 68 k = I 68 k := fun k => by
    by_cases hk : k = 3
    · subst hk
      rw [y3]
      exact hg.2.2.2.2.1.1.2.2.1.symm
    · rw [g68 k hk, uI_ne (by decide), r1 68 (by omega)]
  have g := hg.keep (I' := I2) (fun q hq => by
    by_cases e : q = 69
    · subst e
      rw [g69, uI_ne (by decide), r1 69 (by omega)]
    · by_cases c : q < 67
      · rw [r2 q c (by omega), r1 q (by omega)]
      · rw [hh q (by omega) (by omega), uI_ne (by omega), r1 q (by omega)]) e68
  refine ⟨_, ((oQ (hvA H), wLay I2, oN (hvA H), oF (hvA H)), H.2), Hi, 47 + 5 * hvM H, rs, ⟨rfl, txP_in hm4⟩, ⟨i2, q2⟩, g, ⟨0, by omega, ?_, z1, fun i hi => absurd hi (Nat.not_lt_zero i)⟩, Or.inr ⟨?_, G7, G8⟩⟩
  · rw [txm_lo f (by decide), uI_rd]
    rfl
  · rw [r2 35 (by decide) (by decide), rd.2.2.2.2.2]
    decide
/-- places that the tape and its fault alone hang on -/
theorem lin2.tape {I I2 : XI} {TX : Nat → Txt} {H Hi : Hlf} {ta : Nat} {rs : List XO} (hta : ta ∈ txP) (hg : GRx I TX H Hi) (f : ∀ q, q ≠ 30 → q ≠ 31 → q ≠ 67 → q ≠ 70 → I2 q = I q) (i2 : ivO CF [] I2) (q2 : QQ I2) (tp : TPr I2) (fl : FLr I2) : lin2 (shH (ruO (hvR H)) ta rs) I2 := by
  have m4 := hg.1.1.2.1
  exact ⟨TX, ((oQ (hvA H), wLay I2, oN (hvA H), oF (hvA H)), H.2), Hi, ta, rs, ⟨rfl, hta⟩, ⟨i2, q2⟩, hg.keep (fun q hq => f q (by omega) (by omega) (by omega) (by omega)) (fun k => congrFun (f 68 (by decide) (by decide) (by decide) (by decide)) k), tp, fl⟩
-- the start
def hZ : Hlf := ((((0, 0, 0), (fun _ => 0), (fun _ => 0), (fun _ => 0), (fun _ => 0), (fun _ => 0)), wLay lI, 0, fun _ => wLay lI), none, 0, 0, (fun _ => 0), fun _ => 0)
theorem lI_w : ∀ k, k < 69 → k ≠ 67 → lI 68 (60 + k) = nI (lI 68 (60 + k)).toNatClampNeg ∧ (lI 68 (60 + k)).toNatClampNeg ≤ bdW k := by decide +kernel
theorem lI_c : ((∀ t, t < 8 → lI 27 t = nI 100 ∧ lI 7 t = nI 100) ∧ (∀ r, r < 4 → (lI 27 (8 + r) = nI 1 - lI 68 (68 + r) ∧ lI 7 (8 + r) = nI 1 - lI 68 (68 + r)) ∧ lI 27 (12 + r) = lI 68 (72 + r) ∧ lI 7 (12 + r) = lI 68 (72 + r))) ∧ (∀ b, b < 12 → lI 27 (28 + b) = 0 ∧ lI 68 (88 + b) = 0 ∧ lI 7 (28 + b) = 0) ∧ ∀ k, k < 69 → 64 ≤ k → lI 27 k = lI 68 (60 + k) ∧ lI 7 k = lI 68 (60 + k) := by decide +kernel
theorem lI_n : (lI 12 5 = 0 ∧ lI 12 6 = 0 ∧ lI 12 7 = 0 ∧ lI 1 1 = 0 ∧ lI 1 2 = 0 ∧ lI 0 13 = -1 ∧ lI 0 12 = 0 ∧ lI 0 7 = 0) ∧ (lI 6 5 = 0 ∧ lI 6 6 = 0 ∧ lI 6 7 = 0 ∧ lI 8 1 = 0 ∧ lI 8 2 = 0 ∧ lI 6 9 = -1 ∧ lI 6 8 = 0 ∧ lI 6 4 = 0) ∧ (lI 68 0 = 0 ∧ lI 68 1 = 0 ∧ lI 68 2 = 0 ∧ lI 68 3 = 0 ∧ lI 68 4 = -1 ∧ lI 68 5 = 0 ∧ lI 68 6 = 0) ∧ ∀ w, w < 5 → lI 21 w ≤ lI 20 w := by decide +kernel
theorem lI_r : ∀ c, (c = 27 ∨ c = 7) → RC 0 (wLay lI) (lI c) := by
  have w : ∀ k, k < 69 → wLay lI k = lI 68 (60 + k) := fun k hk => if_pos hk
  obtain ⟨⟨a1, a2⟩, a3, a4⟩ := lI_c
  intro c hc
  refine ⟨fun t ht => ?_, fun r hr => ?_, fun b hb => ?_, fun k h1 h2 => ?_⟩
  · rw [if_neg (Nat.not_lt_zero t)]
    rcases hc with rfl | rfl
    · exact (a1 t ht).1
    · exact (a1 t ht).2
  · rw [w (8 + r) (by omega), w (12 + r) (by omega), show 60 + (8 + r) = 68 + r by omega, show 60 + (12 + r) = 72 + r by omega]
    rcases hc with rfl | rfl
    · exact ⟨(a2 r hr).1.1, (a2 r hr).2.1⟩
    · exact ⟨(a2 r hr).1.2, (a2 r hr).2.2⟩
  · have e : wLay lI (28 + b) = 0 := by
      rw [w (28 + b) (by omega), show 60 + (28 + b) = 88 + b by omega]
      exact (a3 b hb).2.1
    rw [e]
    refine ⟨?_, fun z => absurd z (by decide)⟩
    rcases hc with rfl | rfl
    · exact (a3 b hb).1
    · exact (a3 b hb).2.2
  · rw [w k h2]
    rcases hc with rfl | rfl
    · exact (a4 k h2 h1).1
    · exact (a4 k h2 h1).2
set_option maxRecDepth 100000 in
theorem gr_lI : GRx lI (fun _ => ([], [], [], fun _ => none)) hZ hZ := by
  have hw : WR (wLay lI) := fun k hk h67 => by
    have y := lI_w k hk h67
    refine ⟨(lI 68 (60 + k)).toNatClampNeg, ?_, y.2⟩
    exact (if_pos hk).trans y.1
  have hok : HOK hZ := ⟨⟨⟨Nat.zero_le _, Nat.zero_le _, Nat.zero_le _, fun t ht => absurd ht (Nat.not_lt_zero t), fun t ht => absurd ht (Nat.not_lt_zero t), fun t ht => absurd ht (Nat.not_lt_zero t)⟩, hw, Nat.zero_le _, fun t ht => absurd ht (Nat.not_lt_zero t)⟩, Nat.zero_le _, (fun t e => (by cases e)), Nat.zero_le _⟩
  obtain ⟨⟨c5, c6, c7, s1, s2, e13, e12, e7⟩, ⟨i5, i6, i7, t1, t2, i13, i12, i74⟩, ⟨m0, m1, m2, m3, m4, m5, m6⟩, hz⟩ := lI_n
  have row : Row (lI 68) hZ := ⟨⟨⟨m0, m1, m2, fun t ht => absurd ht (Nat.not_lt_zero t), fun t ht => absurd ht (Nat.not_lt_zero t), fun t ht => absurd ht (Nat.not_lt_zero t)⟩, fun k hk => (if_pos hk).symm, Nat.zero_le _, m5, fun k j hk _ => absurd hk (Nat.not_lt_zero k)⟩, m4, m3, m6, fun i hi => absurd hi (Nat.not_lt_zero i)⟩
  refine ⟨⟨hok, hok, Nat.le_refl _, Tle.rf _⟩, ⟨fun t ht => absurd ht (Nat.not_lt_zero t), hz⟩, ⟨⟨⟨c5, c6, c7, fun t ht => absurd ht (Nat.not_lt_zero t), fun t ht => absurd ht (Nat.not_lt_zero t), fun t ht => absurd ht (Nat.not_lt_zero t)⟩, lI_r 27 (Or.inl rfl), Nat.zero_le _, 0, by omega, s1, s2, fun k hk => absurd hk (Nat.not_lt_zero k)⟩, e13, e12, e7, fun i hi => absurd hi (Nat.not_lt_zero i)⟩, ⟨⟨⟨i5, i6, i7⟩, lI_r 7 (Or.inr rfl), Nat.zero_le _, 0, by omega, t1, t2, fun k hk => absurd hk (Nat.not_lt_zero k)⟩, i13, i12, i74, fun i hi => absurd hi (Nat.not_lt_zero i)⟩, ⟨row, rfl⟩, row.cg hok (fun j hj => ?_)⟩
  show (cI iM 68 69 0 0 2200) 69 j = (cI iM 68 69 0 0 2200) 68 j
  rw [cI_eq, cp_lo hj, cI_ne (by decide)]
theorem lin2_lI : lin2 shXM lI := ⟨_, hZ, hZ, 18, [], ⟨by rfl, by decide⟩, ⟨iv_lI, qq_lI⟩, gr_lI, ⟨0, by omega, by decide +kernel, by decide +kernel, fun i hi => absurd hi (Nat.not_lt_zero i)⟩, Or.inl ⟨by decide +kernel, by decide +kernel, by decide +kernel⟩⟩
end
