-- ===== the reference: hours, decades; what is told =====
theorem upd_sh {w : Rw} {b : Nat} {x : Int32} (hb : b < 12) {k : Nat} (hk : 64 ≤ k) : shR w b x k = w k := by
  unfold shR
  split
  · exact upd_n (by omega)
  · unfold baI
    rw [upd_n (by omega), upd_n (by omega), upd_n (by omega), upd_n (by omega), upd_n (by omega)]
theorem gw_64 {Q : Tld} {L : Lws} {k : Nat} (hk : 64 ≤ k) : ∀ (m : Nat) (w : Rw) (t : Nat), t + m ≤ 8 → gwN Q L m w t k = w k
  | 0, _, _, _ => rfl
  | m + 1, w, t, h => by
    unfold gwN
    split
    · rw [gw_64 hk m _ _ (by omega), upd_n (by omega)]
    · rfl
theorem sp_64 {L : Lws} {k : Nat} (hk : 64 ≤ k) : ∀ (m : Nat) (w : Rw) (b : Nat), b + m ≤ 12 → spN L m w b k = w k
  | 0, _, _, _ => rfl
  | m + 1, w, b, h => by
    unfold spN
    split
    · rw [sp_64 hk m _ _ (by omega), upd_sh (by omega) hk, upd_n (by omega)]
    · exact sp_64 hk m _ _ (by omega)
theorem hl_hr {Q : Tld} {L : Lws} {w : Rw} (hq : qT Q ≤ 8) (hw : WR w) (hc : cnP w = true) : hlN (hrR Q L w) + 1 = hlN w := by
  have a := (hw 65 (by decide) (by decide)).nw
  have b := (hw 64 (by decide) (by decide)).nw
  have b9 : bdW 64 = 9 := by decide
  have b99 : bdW 65 = 999 := by decide
  have hp := (hl_c hw).1.mpr hc
  unfold hlN at hp ⊢
  unfold hrR
  split
  · rename_i e
    rw [b.1, nI_add] at e
    have e9 : nW w 64 + 1 = 10 := nI_small e (by omega) (by omega)
    have e64 : dayR Q L (hr0 w) 64 = nI 0 := by
      unfold dayR
      rw [sp_64 (by decide) _ _ _ (by omega), gw_64 (by decide) _ _ _ (by omega)]
      rfl
    have e65 : dayR Q L (hr0 w) 65 = nI (nW w 65 + 1) := by
      unfold dayR
      rw [sp_64 (by decide) _ _ _ (by omega), gw_64 (by decide) _ _ _ (by omega)]
      show w 65 + nI 1 = _
      rw [a.1, nI_add]
    have n64 : nW (dayR Q L (hr0 w)) 64 = 0 := by
      unfold nW
      rw [e64]
      exact nI_clamp (by omega)
    have n65 : nW (dayR Q L (hr0 w)) 65 = nW w 65 + 1 := by
      show (dayR Q L (hr0 w) 65).toNatClampNeg = _
      rw [e65]
      exact nI_clamp (by omega)
    rw [n64, n65]
    omega
  · rename_i e
    have e9 : nW w 64 + 1 ≠ 10 := fun z => e (by rw [b.1, nI_add, z])
    have n64 : nW (hr0 w) 64 = nW w 64 + 1 := by
      show (w 64 + nI 1).toNatClampNeg = _
      rw [b.1, nI_add]
      exact nI_clamp (by omega)
    have n65 : nW (hr0 w) 65 = nW w 65 := rfl
    rw [n64, n65]
    omega
abbrev hoz (l : Launch) (d : Nat) (ru ta : Nat) (rs : List XO) (J : XJ) (Rp : XR) (n k i : Nat) (I : XI) : Prop := xrun xxX12 (some .int) false false (shH ru ta rs).length 0 0 none l (d + 12) tX12_hour [40] Rp n 40 [some (.ref 67), some (.int (nI k)), some (.int (nI i))] [] (shH ru ta rs) I J 0 0
set_option maxRecDepth 100000 in
set_option maxHeartbeats 4000000 in
theorem md_hour_loop (l : Launch) (d : Nat) (ru ta : Nat) (rs : List XO) (I : XI) (Rp : XR) (L : Lws) (k : Nat) (hk : k ≤ 1000) (B : Ast) (hR : ∀ (I' : XI) (J' : XJ), FMl I I' → MA I' L B → Rp (some (.int (oW B 64))) (shH ru ta rs) I' J') : ∀ (m i n : Nat) (J : XJ) (I1 : XI) (A : Ast), i + m = k → m < n → FMl I I1 → AOK A → MA I1 L A → m ≤ hlN (oW A) → phS L m A = B → hoz l d ru ta rs J Rp n k i I1 := by
  intro m
  induction m with
  | zero =>
    intro i n J I1 A hi hn f hA h hl eB
    obtain ⟨n, rfl⟩ : ∃ n', n = n' + 1 := ⟨n - 1, by omega⟩
    have hi : i = k := by omega
    subst hi
    have e3 : A = B := eB
    subst e3
    refine xrun_step fun K hK => ?_
    refine And.intro (fun _ => ?_) (fun z => absurd (Int32.le_refl _) z)
    refine And.intro (show vp_in (nI 124) 2200 from vp_b (by decide)) ?_
    have z := hR I1 J f h
    rw [← h.w (by decide)] at z
    exact z
  | succ m ih =>
    intro i n J I1 A hi hn f hA h hl eB
    obtain ⟨n, rfl⟩ : ∃ n', n = n' + 1 := ⟨n - 1, by omega⟩
    have hA0 := hA
    obtain ⟨hq, hw, hn30, hf⟩ := hA
    have hc : cnP (oW A) = true := (hl_c hw).1.mp (by omega)
    have es := phS_s (L := L) (k := m) hc
    have hs := hl_hr (L := L) hq.1 hw hc
    refine xrun_step fun K hK => ?_
    refine And.intro (fun z => absurd (show nI k ≤ nI i from z) (nI_ge (by omega) (by omega))) (fun _ => ?_)
    refine md_kstep l (d + 11) ru ta rs I1 J _ L A h I1 F93.rf (fun I2 k2 e2 => ?_)
    refine rx_lays l (d + 11) ru ta rs I2 J _ (fun I3 f3 e3 => ?_)
    rw [k2.lay h e2] at e3
    refine rx_hourP l d ru ta rs I3 J _ (oQ A) L ((k2.f f3).re h.1) (by rw [e3]; exact fun e => hw.w0 hc e) (fun I4 J4 f4 e4 => ?_)
    rw [e3] at e4
    refine md_keeps l (d + 11) ru ta rs I1 J4 _ L A h _ (hw.hr hq.1 hc) I4 ((k2.f f3).f f4) e4 (fun I5 f5 m5 _ => ?_)
    refine hK 40 [some (.ref 67), some (.int (nI k)), some (.int (nI i + 1))] [] (shH ru ta rs) I5 J4 0 0 ?_
    rw [nI_1]
    exact ih (i + 1) n J4 I5 _ (by omega) (by omega) (f.tr f5) (hA0.stp (hw.hr hq.1 hc)) m5 (by show m ≤ hlN (hrR (oQ A) L (oW A)); omega) (by rw [← es.1]; exact eB)
set_option maxRecDepth 100000 in
set_option maxHeartbeats 4000000 in
theorem md_hour (l : Launch) (d : Nat) (ru ta : Nat) (rs : List XO) (I : XI) (J : XJ) (Rp : XR) (L : Lws) (A : Ast) (hA : AOK A) (h : MA I L A) (x : Int32) (hR : ∀ (I' : XI) (J' : XJ), FMl I I' → MA I' L (hourS L A x).2 → Rp (some (.int (hourS L A x).1)) (shH ru ta rs) I' J') : xm l (d + 13) 0 0 mX12_hour [.ref 67, .int x] (shH ru ta rs) I J Rp := by
  have h0 := h
  obtain ⟨hre, hlay, hs⟩ := h
  have hA0 := hA
  obtain ⟨hq, hw, hn, hf⟩ := hA
  have t8 := hq.1
  have r4 := hq.2.1
  have b4 := hq.2.2.1
  have eT : I 68 0 = nI (qT (oQ A)) := hre.1.1.1
  have eR : I 68 1 = nI (qR (oQ A)) := hre.1.1.2.1
  have eB : I 68 2 = nI (qB (oQ A)) := hre.1.1.2.2.1
  have no : ∀ (I1 : XI) (J1 : XJ), FMl I I1 → MA I1 L A → hourS L A x = (-1, A) → Rp (some (.int (-1))) (shH ru ta rs) I1 J1 := fun I1 J1 f1 m1 e => by
    have z := hR I1 J1 f1 (by rw [e]; exact m1)
    rw [e] at z
    exact z
  refine xm_ofK 70 (X := xxX12) (t := tX12_hour) (stop := [40]) (ini := false) xx12 pl12 rfl kX12_hour (fun h => by cases h) (Nat.le_of_ble_eq_true rfl) (fun K hK => ?_)
  refine md_inR l (d + 11) x 1 60 _ _ _ _ (fun hx => ?_) (fun hx => ?_)
  · refine And.intro (fun z => absurd (show (1 : Int32) = 0 from z) (by decide)) (fun _ => ?_)
    obtain ⟨k, k1, k2, ex, ex2⟩ := rIn_t (by omega) (by omega) hx
    have a := (hw 65 (by decide) (by decide)).nw
    have b := (hw 64 (by decide) (by decide)).nw
    have b9 : bdW 64 = 9 := by decide
    have b99 : bdW 65 = 999 := by decide
    have e125 : I 68 125 = nI (nW (oW A) 65) := (h0.w (k := 65) (by decide)).trans a.1
    have e124 : I 68 124 = nI (nW (oW A) 64) := (h0.w (k := 64) (by decide)).trans b.1
    have hh : hlN (oW A) = (999 - nW (oW A) 65) * 10 + 9 - nW (oW A) 64 := rfl
    refine And.intro (show vp_in (nI 125) 2200 from vp_b (by decide)) ?_
    refine And.intro (show vp_in (nI 124) 2200 from vp_b (by decide)) ?_
    subst ex
    refine And.intro (fun (z : I 68 125 * nI 10 + I 68 124 + nI k ≤ nI 9999) => ?_) (fun (z : ¬ I 68 125 * nI 10 + I 68 124 + nI k ≤ nI 9999) => ?_)
    · rw [e125, e124, nI_mul, nI_add, nI_add, nle (by omega) (by omega)] at z
      have hle : k ≤ hlN (oW A) := by omega
      have eS : hourS L A (nI k) = (oW (phS L k A) 64, phS L k A) := by
        unfold hourS
        rw [hx, ex2, decide_eq_true hle]
        rfl
      rw [eS] at hR
      exact hK 40 [some (.ref 67), some (.int (nI k)), some (.int (nI 0))] [] _ _ _ _ _ (md_hour_loop l d ru ta rs I Rp L k (by omega) _ hR k 0 70 J I A (by omega) (by omega) FMl.rf hA0 h0 hle rfl)
    · rw [e125, e124, nI_mul, nI_add, nI_add, nle (by omega) (by omega)] at z
      have hle : ¬ k ≤ hlN (oW A) := by omega
      refine no I J FMl.rf h0 ?_
      unfold hourS
      rw [ex2, decide_eq_false hle, Bool.and_false]
      rfl
  · refine And.intro (fun _ => ?_) (fun z => absurd rfl z)
    exact no I J FMl.rf h0 (by unfold hourS; rw [hx, Bool.false_and]; rfl)
theorem hourS_1 {L : Lws} {A : Ast} (hA : AOK A) : hourS L A (nI 1) = if cnP (oW A) = true then (oW (phS L 1 A) 64, phS L 1 A) else (-1, A) := by
  have e := (hl_c hA.2.1).1
  unfold hourS
  rw [show rIn (nI 1) 1 60 = true from by decide, show (nI 1).toNatClampNeg = 1 from by decide, Bool.true_and]
  by_cases c : cnP (oW A) = true
  · rw [if_pos c, if_pos (decide_eq_true (by have := e.mpr c; omega))]
  · rw [if_neg c, if_neg (fun z => c (e.mp (by have := of_decide_eq_true z; omega)))]
abbrev hsz (l : Launch) (d : Nat) (ru ta : Nat) (rs : List XO) (J : XJ) (Rp : XR) (n k i : Nat) (I : XI) : Prop := xrun xxX12 (some .boolean) false false (shH ru ta rs).length 0 0 none l (d + 13) tX12_hours [2] Rp n 2 [some (.ref 67), some (.int (nI k)), some (.int (nI i))] [] (shH ru ta rs) I J 0 0
set_option maxRecDepth 100000 in
set_option maxHeartbeats 4000000 in
theorem md_hours_loop (l : Launch) (d : Nat) (ru ta : Nat) (rs : List XO) (I : XI) (Rp : XR) (L : Lws) (k : Nat) (hk : k ≤ 10000) (B : Ast) (v : Int32) (hR : ∀ (I' : XI) (J' : XJ), FMl I I' → MA I' L B → Rp (some (.int v)) (shH ru ta rs) I' J') : ∀ (m i n : Nat) (J : XJ) (I1 : XI) (A : Ast), i + m = k → m < n → FMl I I1 → AOK A → MA I1 L A → phS L m A = B → (if phC L m A = m then (1 : Int32) else 0) = v → hsz l d ru ta rs J Rp n k i I1 := by
  intro m
  induction m with
  | zero =>
    intro i n J I1 A hi hn f hA h eB ev
    obtain ⟨n, rfl⟩ : ∃ n', n = n' + 1 := ⟨n - 1, by omega⟩
    have hi : i = k := by omega
    subst hi
    have e3 : A = B := eB
    subst e3
    have ev : 1 = v := ev
    subst ev
    refine xrun_step fun K hK => ?_
    refine And.intro (fun _ => ?_) (fun z => absurd (Int32.le_refl _) z)
    exact And.intro (Or.inr rfl) (hR I1 J f h)
  | succ m ih =>
    intro i n J I1 A hi hn f hA h eB ev
    obtain ⟨n, rfl⟩ : ∃ n', n = n' + 1 := ⟨n - 1, by omega⟩
    have e1 := hourS_1 (L := L) hA
    refine xrun_step fun K hK => ?_
    refine And.intro (fun z => absurd (show nI k ≤ nI i from z) (nI_ge (by omega) (by omega))) (fun _ => ?_)
    refine md_hour l d ru ta rs I1 J _ L A hA h (nI 1) (fun I2 J2 f2 m2 => ?_)
    rw [e1] at m2 ⊢
    by_cases hc : cnP (oW A) = true
    · rw [if_pos hc] at m2 ⊢
      have es := phS_s (L := L) (k := m) hc
      have e0 : phS L 1 A = stp A (hrR (oQ A) L (oW A)) := if_pos hc
      rw [e0] at m2 ⊢
      have hA2 := hA.stp (hA.2.1.hr (L := L) hA.1.1 hc)
      have o64 := (hA2.2.1 64 (by decide) (by decide)).nw
      have n64 : ¬ oW (stp A (hrR (oQ A) L (oW A))) 64 = -1 := by
        have b9 : bdW 64 = 9 := by decide
        rw [o64.1]
        exact nI_ne1 (by omega)
      refine And.intro (fun _ => ?_) (fun z => absurd z n64)
      refine hK 2 [some (.ref 67), some (.int (nI k)), some (.int (nI i + 1))] [] (shH ru ta rs) I2 J2 0 0 ?_
      rw [nI_1]
      refine ih (i + 1) n J2 I2 _ (by omega) (by omega) (f.tr f2) hA2 m2 (by rw [← es.1]; exact eB) ?_
      rw [← ev, es.2]
      by_cases c : phC L m (stp A (hrR (oQ A) L (oW A))) = m
      · rw [if_pos c, if_pos (by omega)]
      · rw [if_neg c, if_neg (by omega)]
    · rw [if_neg hc] at m2 ⊢
      have hc' : cnP (oW A) = false := by
        cases e : cnP (oW A) with
        | true => exact absurd e hc
        | false => rfl
      have en := phS_n (L := L) (k := m + 1) hc'
      rw [en.1] at eB
      rw [en.2, if_neg (by omega)] at ev
      subst eB ev
      refine And.intro (fun z => absurd rfl z) (fun _ => ?_)
      exact And.intro (Or.inl rfl) (hR I2 J2 (f.tr f2) m2)
set_option maxRecDepth 100000 in
theorem md_hours (l : Launch) (d : Nat) (ru ta : Nat) (rs : List XO) (I : XI) (J : XJ) (Rp : XR) (L : Lws) (A : Ast) (hA : AOK A) (h : MA I L A) (k : Nat) (hk : k ≤ 10000) (hR : ∀ (I' : XI) (J' : XJ), FMl I I' → MA I' L (phS L k A) → Rp (some (.int (if phC L k A = k then 1 else 0))) (shH ru ta rs) I' J') : xm l (d + 14) 0 0 mX12_hours [.ref 67, .int (nI k)] (shH ru ta rs) I J Rp := by
  refine xm_ofK (k + 1) (X := xxX12) (t := tX12_hours) (stop := [2]) (ini := false) xx12 pl12 rfl kX12_hours (fun h => by cases h) (Nat.le_of_ble_eq_true rfl) (fun K hK => ?_)
  exact hK 2 [some (.ref 67), some (.int (nI k)), some (.int (nI 0))] [] _ _ _ _ _ (md_hours_loop l d ru ta rs I Rp L k hk _ _ hR k 0 (k + 1) J I A (by omega) (by omega) FMl.rf hA h rfl rfl)
abbrev drz (l : Launch) (d : Nat) (ru ta : Nat) (rs : List XO) (J : XJ) (Rp : XR) (n : Nat) (x : Int32) (k i : Nat) (I : XI) : Prop := xrun xxX12 (some .int) false false (shH ru ta rs).length 0 0 none l (d + 14) tX12_decades [73] Rp n 73 [some (.ref 67), some (.int x), some (.int (nI k)), some (.int (nI i))] [] (shH ru ta rs) I J 0 0
set_option maxRecDepth 100000 in
set_option maxHeartbeats 4000000 in
theorem md_dec_loop (l : Launch) (d : Nat) (ru ta : Nat) (rs : List XO) (I : XI) (J : XJ) (Rp : XR) (L : Lws) (A : Ast) (hA : AOK A) (h : MA I L A) (t0 : 0 < qT (oQ A)) (r0 : 0 < qR (oQ A)) (b0 : 0 < qB (oQ A)) (x : Int32) (k : Nat) (hk : k ≤ 1000) (W : Rw) (hR : ∀ (I' : XI) (J' : XJ), FMl I I' → MA I' L (stp A W) → Rp (some (.int (W 67))) (shH ru ta rs) I' J') : ∀ (m i n : Nat) (J : XJ) (I1 : XI) (w : Rw), i + m = k → m < n → KSd I I1 A → I1 93 = w → WR w → hpN (oQ A) L m w = W → drz l d ru ta rs J Rp n x k i I1 := by
  intro m
  induction m with
  | zero =>
    intro i n J I1 w hi hn f e1 hw e
    obtain ⟨n, rfl⟩ : ∃ n', n = n' + 1 := ⟨n - 1, by omega⟩
    have hi : i = k := by omega
    subst hi
    have e : w = W := e
    subst e
    refine xrun_step fun K hK => ?_
    refine And.intro (fun _ => ?_) (fun z => absurd (Int32.le_refl _) z)
    refine md_keeps l (d + 13) ru ta rs I J _ L A h w hw I1 f e1 (fun I3 f3 m3 e3 => ?_)
    refine And.intro (show vp_in (nI 67) 69 from vp_b (by decide)) ?_
    have y := hR I3 J f3 m3
    rw [← e3] at y
    exact y
  | succ m ih =>
    intro i n J I1 w hi hn f e1 hw e
    obtain ⟨n, rfl⟩ : ∃ n', n = n' + 1 := ⟨n - 1, by omega⟩
    refine xrun_step fun K hK => ?_
    refine And.intro (fun z => absurd (show nI k ≤ nI i from z) (nI_ge (by omega) (by omega))) (fun _ => ?_)
    refine rx_happens l d ru ta rs I1 J _ (oQ A) L (f.re h.1) (by rw [e1]; exact hw) t0 r0 b0 (fun I2 J2 f2 e2 => ?_)
    rw [e1] at e2
    refine hK 73 [some (.ref 67), some (.int x), some (.int (nI k)), some (.int (nI i + 1))] [] (shH ru ta rs) I2 J2 0 0 ?_
    rw [nI_1]
    exact ih (i + 1) n J2 I2 _ (by omega) (by omega) (f.f f2) e2 (hw.hp hA.1 t0 r0 b0) e
set_option maxRecDepth 100000 in
set_option maxHeartbeats 4000000 in
theorem md_dec (l : Launch) (d : Nat) (ru ta : Nat) (rs : List XO) (I : XI) (J : XJ) (Rp : XR) (L : Lws) (A : Ast) (hA : AOK A) (h : MA I L A) (x y : Int32) (hR : ∀ (I' : XI) (J' : XJ), FMl I I' → MA I' L (decS L A x y).2 → Rp (some (.int (decS L A x y).1)) (shH ru ta rs) I' J') : xm l (d + 15) 0 0 mX12_decades [.ref 67, .int x, .int y] (shH ru ta rs) I J Rp := by
  have h0 := h
  obtain ⟨hre, hlay, hs⟩ := h
  have hA0 := hA
  obtain ⟨hq, hw, hn, hf⟩ := hA
  have t8 := hq.1
  have r4 := hq.2.1
  have b4 := hq.2.2.1
  have eT : I 68 0 = nI (qT (oQ A)) := hre.1.1.1
  have eR : I 68 1 = nI (qR (oQ A)) := hre.1.1.2.1
  have eB : I 68 2 = nI (qB (oQ A)) := hre.1.1.2.2.1
  have no : ∀ (I1 : XI) (J1 : XJ), FMl I I1 → MA I1 L A → decS L A x y = (-1, A) → Rp (some (.int (-1))) (shH ru ta rs) I1 J1 := fun I1 J1 f1 m1 e => by
    have z := hR I1 J1 f1 (by rw [e]; exact m1)
    rw [e] at z
    exact z
  have z0 : ∀ n, n < 100 → (nI n = 0 ↔ n = 0) := fun n hn => neq0 (by omega)
  refine xm_ofK 50 (X := xxX12) (t := tX12_decades) (stop := [73]) (ini := false) xx12 pl12 rfl kX12_decades (fun h => by cases h) (Nat.le_of_ble_eq_true rfl) (fun K hK => ?_)
  refine md_inR l (d + 13) x 0 9999 _ _ _ _ (fun hx => ?_) (fun hx => ?_)
  · refine And.intro (fun z => absurd (show (1 : Int32) = 0 from z) (by decide)) (fun _ => ?_)
    refine md_inR l (d + 13) y 1 30 _ _ _ _ (fun hy => ?_) (fun hy => ?_)
    · refine And.intro (fun z => absurd (show (1 : Int32) = 0 from z) (by decide)) (fun _ => ?_)
      obtain ⟨i, i1, i2, ex, ex2⟩ := rIn_t (by omega) (by omega) hx
      obtain ⟨k, k1, k2, ey, ey2⟩ := rIn_t (by omega) (by omega) hy
      refine And.intro (show vp_in (nI 0) 2200 from vp_b (by decide)) ?_
      refine And.intro (fun (z : I 68 0 = 0) => ?_) (fun (z : ¬ I 68 0 = 0) => ?_)
      · rw [eT, z0 _ (by omega)] at z
        exact no I J FMl.rf h0 (by unfold decS; rw [decide_eq_true z]; simp)
      rw [eT, z0 _ (by omega)] at z
      refine And.intro (show vp_in (nI 1) 2200 from vp_b (by decide)) ?_
      refine And.intro (fun (u : I 68 1 = 0) => ?_) (fun (u : ¬ I 68 1 = 0) => ?_)
      · rw [eR, z0 _ (by omega)] at u
        exact no I J FMl.rf h0 (by unfold decS; rw [decide_eq_true u]; simp)
      rw [eR, z0 _ (by omega)] at u
      refine And.intro (show vp_in (nI 2) 2200 from vp_b (by decide)) ?_
      refine And.intro (fun (v : ¬ I 68 2 = 0) => ?_) (fun (v : I 68 2 = 0) => ?_)
      · rw [eB, z0 _ (by omega)] at v
        have eS : decS L A x y = (hpN (oQ A) L k (upd (oW A) 68 (x * nI 2 + nI 83)) 67, stp A (hpN (oQ A) L k (upd (oW A) 68 (x * nI 2 + nI 83)))) := by
          unfold decS
          rw [hx, hy, decide_eq_false z, decide_eq_false u, decide_eq_false v, ey2]
          rfl
        have ww : WR (upd (oW A) 68 (x * nI 2 + nI 83)) := hw.u (fun _ _ => by
          rw [ex, nI_mul, nI_add]
          exact okC.mk (by have z : bdW 68 = 30312 := by decide
                           omega))
        rw [eS] at hR
        refine md_kstep l (d + 13) ru ta rs I J _ L A h0 I F93.rf (fun I1 k1' e1 => ?_)
        refine rx_lays l (d + 13) ru ta rs I1 J _ (fun I2 f2 e2 => ?_)
        rw [k1'.lay h0 e1] at e2
        refine And.intro (show vp_in (nI 68) 69 from vp_b (by decide)) ?_
        refine hK 73 [some (.ref 67), some (.int x), some (.int y), some (.int (nI 0))] [] (shH ru ta rs) (uI I2 93 68 (x * nI 2 + nI 83)) J 0 0 ?_
        rw [ey]
        exact md_dec_loop l d ru ta rs I J Rp L A hA0 h0 (by omega) (by omega) (by omega) x k (by omega) _ hR k 0 50 J _ (upd (oW A) 68 (x * nI 2 + nI 83)) (by omega) (by omega) ((k1'.f f2).f F93.rf.u) (by rw [uI_eq, e2]) ww rfl
      · rw [eB, z0 _ (by omega)] at v
        exact no I J FMl.rf h0 (by unfold decS; rw [decide_eq_true v]; simp)
    · refine And.intro (fun _ => ?_) (fun z => absurd rfl z)
      exact no I J FMl.rf h0 (by unfold decS; rw [hy]; simp)
  · refine And.intro (fun _ => ?_) (fun z => absurd rfl z)
    exact no I J FMl.rf h0 (by unfold decS; rw [hx]; simp)
