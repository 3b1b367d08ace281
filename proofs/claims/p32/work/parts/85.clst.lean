-- ===== the class: use, hours, decades; what is told =====
theorem RC.th {T : Nat} {w c : Rw} (h : RC T w c) (hT : T < 8) : RC (T + 1) (upd w T (nI 100)) c := by
  refine ⟨fun t ht => ?_, fun r hr => ?_, fun b hb => ?_, fun k h1 h2 => ?_⟩
  · rw [h.1 t ht]
    by_cases e : t = T
    · subst e
      rw [if_neg (Nat.lt_irrefl _), if_pos (Nat.lt_succ_self _), upd_s]
    · rw [upd_n e]
      by_cases c : t < T
      · rw [if_pos c, if_pos (by omega)]
      · rw [if_neg c, if_neg (by omega)]
  · rw [upd_n (by omega), upd_n (by omega)]
    exact h.2.1 r hr
  · rw [upd_n (by omega), upd_n (by omega), upd_n (by omega), upd_n (by omega)]
    exact h.2.2.1 b hb
  · rw [upd_n (by omega)]
    exact h.2.2.2 k h1 h2
set_option maxRecDepth 100000 in
set_option maxHeartbeats 4000000 in
theorem cd_use (l : Launch) (d : Nat) (ru ta : Nat) (rs : List XO) (I : XI) (J : XJ) (Rp : XR) (L : Lws) (A : Ast) (hA : AOK A) (h : CA I ru L A) (x y : Int32) (hR : ∀ (I' : XI) (J' : XJ), FCl I I' → CA I' ru L (useS A x y).2 → Rp (some (.int (useS A x y).1)) (shH ru ta rs) I' J') : xm l (d + 6) 0 0 mX11_use [.ref 0, .int x, .int y] (shH ru ta rs) I J Rp := by
  have h0 := h
  obtain ⟨hc, hr, hs⟩ := h
  obtain ⟨hq, hw, hn, hf⟩ := hA
  have b4 := hq.2.2.1
  refine xm_ofK 0 (X := xxX11) (t := tX11_use) (stop := []) (ini := false) xx11 pl11 rfl kX11_use (fun h => by cases h) (Nat.le_of_ble_eq_true rfl) (fun K hK => ?_)
  have none_ : useS A x y = (-1, A) → Rp (some (.int (-1))) (shH ru ta rs) I J := fun e => by
    have z := hR I J FCl.rf (by rw [e]; exact h0)
    rw [e] at z
    exact z
  cases hx : rIn x 1 999 with
  | false =>
    refine c_within_f l (d + 4) x 1 999 _ _ _ _ (fun z => by
      have := rIn_p.mpr (show nI 1 ≤ x ∧ x ≤ nI 999 from z)
      rw [hx] at this
      cases this) ?_
    refine And.intro (fun _ => ?_) (fun z => absurd rfl z)
    refine none_ ?_
    unfold useS
    rw [hx]
    rfl
  | true =>
    have hx2 := rIn_p.mp hx
    obtain ⟨k, k1, k2, ex, ex2⟩ := rIn_t (by omega) (by omega) hx
    refine c_within_t l (d + 4) x 1 999 _ _ _ _ hx2.1 hx2.2 ?_
    refine And.intro (fun z => absurd (show (1 : Int32) = 0 from z) (by decide)) (fun _ => ?_)
    refine cc_hasBarn l (d + 4) ru ta rs I J _ (oQ A) L hc y (fun bn hb ey => ?_) (fun hn => ?_)
    · refine And.intro (fun _ => ?_) (fun z => absurd (show (1 : Int32) = 0 from z) (by decide))
      have hy : vIn y (qB (oQ A)) = true := by rw [ey]; exact vIn_n (by omega) hb
      refine cs_note l (d + 3) ru ta rs I J _ _ _ _ hs (fun first hfi e1 => ?_)
      have n27 : (cI I 27 2 0 ((first + oN A) % 31 * 69) 69) 27 = I 27 := cI_ne (by decide)
      subst ex
      refine cw_takeFeet l (d + 2) ru ta rs _ J _ (qT (oQ A)) (oW A) (by rw [n27]; exact hr) hw k (by omega) y (fun hle I1 f1 r1 => ?_) (fun hle => ?_)
      · obtain ⟨s1, s2, s3, s4, s5⟩ := cs_done (I2 := I1) hs e1 hfi hr f1
        have eS : useS A (nI k) y = (feR (usN y 12 (oW A) (nI k)) y 12, stp A (usN y 12 (oW A) (nI k))) := by
          unfold useS
          rw [hx, hy, ex2, decide_eq_true hle]
          rfl
        refine And.intro (fun _ => ?_) (fun z => absurd (show (1 : Int32) = 0 from z) (by decide))
        refine cs_count l (d + 4) ru ta rs I1 J _ (oN A) first hn s2 hfi s3 (fun I2 k2 hp => ?_)
        have r2 : RC (qT (oQ A)) (usN y 12 (oW A) (nI k)) (I2 27) := by rw [k2 27 (by decide)]; exact r1
        have ww := WR.us 12 (oW A) k (by omega) hw (us_12 (bn := y) hw hle)
        have ny : ¬ y = -1 := by rw [ey]; exact nI_ne1 (by omega)
        refine cw_feetIn l (d + 4) ru ta rs I2 J _ _ _ r2 ww y ny ?_
        have z := hR I2 J (fun q a b c d e => (k2 q a).trans (s4 q a b d e)) (by
          rw [eS]
          exact ⟨hc.fc (fun q a b c d => (k2 q a).trans (s4 q a b c d)), r2, hs.psh e1 hfi hr s5 k2 hp⟩)
        rw [eS] at z
        exact z
      · have eS : useS A (nI k) y = (-1, A) := by
          unfold useS
          rw [ex2, decide_eq_false hle, Bool.and_false]
          rfl
        refine And.intro (fun z => absurd rfl z) (fun _ => ?_)
        obtain ⟨s1, s2, s3, s4, s5⟩ := cs_done (I1 := cI I 27 2 0 ((first + oN A) % 31 * 69) 69) (I2 := I) hs e1 hfi hr F24.rf
        have z := hR _ J (fun q a b c d e => s4 q a b d e) (by rw [eS]; exact ⟨hc.fc s4, by show RC _ _ ((cI I 27 2 0 ((first + oN A) % 31 * 69) 69) 27); rw [n27]; exact hr, s1⟩)
        rw [eS] at z
        exact z
    · refine And.intro (fun z => absurd rfl z) (fun _ => ?_)
      refine none_ ?_
      have hy : vIn y (qB (oQ A)) = false := by
        cases e : vIn y (qB (oQ A)) with
        | false => rfl
        | true =>
          obtain ⟨b, hb, ey, _⟩ := vIn_t (by omega) e
          exact absurd ey (hn b hb)
      unfold useS
      rw [hy, Bool.and_false, Bool.false_and]
      rfl
theorem phS_n {L : Lws} {k : Nat} {A : Ast} (h : cnP (oW A) = false) : phS L k A = A ∧ phC L k A = 0 := by
  cases k with
  | zero => exact ⟨rfl, rfl⟩
  | succ k => exact ⟨if_neg (by rw [h]; decide), if_neg (by rw [h]; decide)⟩
theorem phS_s {L : Lws} {k : Nat} {A : Ast} (h : cnP (oW A) = true) : phS L (k + 1) A = phS L k (stp A (hrR (oQ A) L (oW A))) ∧ phC L (k + 1) A = phC L k (stp A (hrR (oQ A) L (oW A))) + 1 := ⟨if_pos h, if_pos h⟩
abbrev phz (l : Launch) (d : Nat) (ru ta : Nat) (rs : List XO) (J : XJ) (Rp : XR) (n k p i : Nat) (I : XI) : Prop := xrun xxX11 (some .int) false false (shH ru ta rs).length 0 0 none l (d + 5) tX11_passHours [4] Rp n 4 [some (.ref 0), some (.int (nI k)), some (.int (nI p)), some (.int (nI i))] [] (shH ru ta rs) I J 0 0
set_option maxRecDepth 100000 in
set_option maxHeartbeats 4000000 in
theorem cd_ph_loop (l : Launch) (d : Nat) (ru ta : Nat) (rs : List XO) (I : XI) (J0 : XJ) (Rp : XR) (L : Lws) (k : Nat) (hk : k ≤ 10000) (B : Ast) (v : Nat) (hR : ∀ (I' : XI) (J' : XJ), FCl I I' → CA I' ru L B → Rp (some (.int (nI v))) (shH ru ta rs) I' J') : ∀ (m i n p : Nat) (J : XJ) (I1 : XI) (A : Ast), i + m = k → m < n → FCl I I1 → AOK A → CA I1 ru L A → phS L m A = B → p + phC L m A = v → phz l d ru ta rs J Rp n k p i I1 := by
  intro m
  induction m with
  | zero =>
    intro i n p J I1 A hi hn f hA h eB ev
    obtain ⟨n, rfl⟩ : ∃ n', n = n' + 1 := ⟨n - 1, by omega⟩
    have hi : i = k := by omega
    subst hi
    refine xrun_step fun K hK => ?_
    refine And.intro (fun _ => ?_) (fun z => absurd (Int32.le_refl _) z)
    have e2 : v = p := by rw [← ev]; rfl
    have e3 : B = A := by rw [← eB]; rfl
    rw [e2, e3] at hR
    exact hR I1 J f h
  | succ m ih =>
    intro i n p J I1 A hi hn f hA h eB ev
    obtain ⟨n, rfl⟩ : ∃ n', n = n' + 1 := ⟨n - 1, by omega⟩
    obtain ⟨hc, hr, hs⟩ := h
    have hA0 := hA
    obtain ⟨hq, hw, hn30, hf⟩ := hA
    refine xrun_step fun K hK => ?_
    refine And.intro (fun z => absurd (show nI k ≤ nI i from z) (nI_ge (by omega) (by omega))) (fun _ => ?_)
    refine cs_note l (d + 3) ru ta rs I1 J _ _ _ _ hs (fun first hfi e1 => ?_)
    have n27 : (cI I1 27 2 0 ((first + oN A) % 31 * 69) 69) 27 = I1 27 := cI_ne (by decide)
    have cC : CE (cI I1 27 2 0 ((first + oN A) % 31 * 69) 69) ru (oQ A) L := hc.fc (fun q a b c d => cI_ne b)
    refine cw_passHour l d ru ta rs _ J _ (oQ A) L cC (oW A) (by rw [n27]; exact hr) hw (fun hcn I2 J2 f2 r2 => ?_) (fun hcn => ?_)
    · obtain ⟨s1, s2, s3, s4, s5⟩ := cs_done (I2 := I2) hs e1 hfi hr f2
      refine And.intro (fun _ => ?_) (fun z => absurd (show (1 : Int32) = 0 from z) (by decide))
      refine cs_count l (d + 4) ru ta rs I2 J2 _ (oN A) first hn30 s2 hfi s3 (fun I3 k3 hp => ?_)
      refine hK 4 [some (.ref 0), some (.int (nI k)), some (.int (nI p + 1)), some (.int (nI i + 1))] [] (shH ru ta rs) I3 J2 0 0 ?_
      rw [nI_1, nI_1]
      have es := phS_s (L := L) (k := m) hcn
      refine ih (i + 1) n (p + 1) J2 I3 (stp A (hrR (oQ A) L (oW A))) (by omega) (by omega) (f.tr (fun q a b c d e => (k3 q a).trans (s4 q a b d e))) (hA0.stp (hw.hr hq.1 hcn)) ⟨hc.fc (fun q a b c d => (k3 q a).trans (s4 q a b c d)), by show RC _ _ (I3 27); rw [k3 27 (by decide)]; exact r2, hs.psh e1 hfi hr s5 k3 hp⟩ (by rw [← es.1]; exact eB) (by rw [es.2] at ev; omega)
    · have en := phS_n (L := L) (k := m + 1) hcn
      rw [en.1] at eB
      rw [en.2] at ev
      obtain ⟨s1, s2, s3, s4, s5⟩ := cs_done (I1 := cI I1 27 2 0 ((first + oN A) % 31 * 69) 69) (I2 := I) hs e1 hfi hr F24.rf
      refine And.intro (fun z => absurd rfl z) (fun _ => ?_)
      have e2 : v = p := by omega
      rw [e2, ← eB] at hR
      exact hR _ J (f.tr (fun q a b c d e => s4 q a b d e)) ⟨hc.fc s4, by show RC _ _ ((cI I1 27 2 0 ((first + oN A) % 31 * 69) 69) 27); rw [n27]; exact hr, s1⟩
set_option maxRecDepth 100000 in
theorem cd_ph (l : Launch) (d : Nat) (ru ta : Nat) (rs : List XO) (I : XI) (J : XJ) (Rp : XR) (L : Lws) (A : Ast) (hA : AOK A) (h : CA I ru L A) (k : Nat) (hk : k ≤ 10000) (hR : ∀ (I' : XI) (J' : XJ), FCl I I' → CA I' ru L (phS L k A) → Rp (some (.int (nI (phC L k A)))) (shH ru ta rs) I' J') : xm l (d + 6) 0 0 mX11_passHours [.ref 0, .int (nI k)] (shH ru ta rs) I J Rp := by
  refine xm_ofK (k + 1) (X := xxX11) (t := tX11_passHours) (stop := [4]) (ini := false) xx11 pl11 rfl kX11_passHours (fun h => by cases h) (Nat.le_of_ble_eq_true rfl) (fun K hK => ?_)
  exact hK 4 [some (.ref 0), some (.int (nI k)), some (.int (nI 0)), some (.int (nI 0))] [] _ _ _ _ _ (cd_ph_loop l d ru ta rs I J Rp L k hk _ _ hR k 0 (k + 1) 0 J I A (by omega) (by omega) FCl.rf hA h rfl (by omega))
set_option maxRecDepth 100000 in
set_option maxHeartbeats 4000000 in
theorem cd_hour (l : Launch) (d : Nat) (ru ta : Nat) (rs : List XO) (I : XI) (J : XJ) (Rp : XR) (L : Lws) (A : Ast) (hA : AOK A) (h : CA I ru L A) (x : Int32) (hR : ∀ (I' : XI) (J' : XJ), FCl I I' → CA I' ru L (hourS L A x).2 → Rp (some (.int (hourS L A x).1)) (shH ru ta rs) I' J') : xm l (d + 7) 0 0 mX11_hour [.ref 0, .int x] (shH ru ta rs) I J Rp := by
  have none_ : hourS L A x = (-1, A) → Rp (some (.int (-1))) (shH ru ta rs) I J := fun e => by
    have z := hR I J FCl.rf (by rw [e]; exact h)
    rw [e] at z
    exact z
  refine xm_ofK 0 (X := xxX11) (t := tX11_hour) (stop := []) (ini := false) xx11 pl11 rfl kX11_hour (fun h => by cases h) (Nat.le_of_ble_eq_true rfl) (fun K hK => ?_)
  cases hx : rIn x 1 60 with
  | false =>
    refine c_within_f l (d + 5) x 1 60 _ _ _ _ (fun z => by
      have := rIn_p.mpr (show nI 1 ≤ x ∧ x ≤ nI 60 from z)
      rw [hx] at this
      cases this) ?_
    refine And.intro (fun _ => ?_) (fun z => absurd rfl z)
    refine none_ ?_
    unfold hourS
    rw [hx]
    rfl
  | true =>
    have hx2 := rIn_p.mp hx
    obtain ⟨k, k1, k2, ex, ex2⟩ := rIn_t (by omega) (by omega) hx
    have hl := (hl_c hA.2.1).2.1
    refine c_within_t l (d + 5) x 1 60 _ _ _ _ hx2.1 hx2.2 ?_
    refine And.intro (fun z => absurd (show (1 : Int32) = 0 from z) (by decide)) (fun _ => ?_)
    refine cw_hoursLeft l (d + 5) ru ta rs I J _ _ (oW A) h.2.1 hA.2.1 ?_
    subst ex
    refine And.intro (fun (z : nI k ≤ nI (hlN (oW A))) => ?_) (fun (z : ¬ nI k ≤ nI (hlN (oW A))) => ?_)
    · have hle := (nle (by omega) (by omega)).mp z
      have eS : hourS L A (nI k) = (oW (phS L k A) 64, phS L k A) := by
        unfold hourS
        rw [hx, ex2, decide_eq_true hle]
        rfl
      refine cd_ph l d ru ta rs I J _ L A hA h k (by omega) (fun I1 J1 f1 h1 => ?_)
      refine And.intro (show vp_in (nI 64) 69 from vp_b (by decide)) ?_
      have z := hR I1 J1 f1 (by rw [eS]; exact h1)
      rw [eS] at z
      have e64 : I1 27 64 = oW (phS L k A) 64 := h1.2.1.hi (by decide) (by decide)
      rw [← e64] at z
      exact z
    · refine none_ ?_
      unfold hourS
      rw [ex2, decide_eq_false (fun q => z ((nle (by omega) (by omega)).mpr q)), Bool.and_false]
      rfl
abbrev dcz (l : Launch) (d : Nat) (ru ta : Nat) (rs : List XO) (J : XJ) (Rp : XR) (n : Nat) (x : Int32) (k i : Nat) (I : XI) : Prop := xrun xxX11 (some .int) false false (shH ru ta rs).length 0 0 none l (d + 7) tX11_decades [35, 96] Rp n 96 [some (.ref 0), some (.int x), some (.int (nI k)), some (.int (nI 0)), some (.int (nI i))] [] (shH ru ta rs) I J 0 0
set_option maxRecDepth 100000 in
set_option maxHeartbeats 4000000 in
theorem cd_dec_loop (l : Launch) (d : Nat) (ru ta : Nat) (rs : List XO) (I : XI) (J0 : XJ) (Rp : XR) (L : Lws) (Q : Tld) (hc : CE I ru Q L) (t0 : 0 < qT Q) (r0 : 0 < qR Q) (b0 : 0 < qB Q) (x : Int32) (k : Nat) (hk : k ≤ 1000) (first n0 : Nat) (hn0 : n0 ≤ 30) (e1 : I 1 1 = nI first) (hfi : first < 31) (e2 : I 1 2 = nI n0) (W : Rw) (hR : ∀ (I1 I2 : XI) (J' : XJ), F24 27 I I1 → RC (qT Q) W (I1 27) → (∀ q, q ≠ 1 → I2 q = I1 q) → ((n0 < 30 → I2 1 1 = nI first ∧ I2 1 2 = nI (n0 + 1)) ∧ (n0 = 30 → I2 1 1 = nI ((first + 1) % 31) ∧ I2 1 2 = nI 30)) → Rp (some (.int (W 67))) (shH ru ta rs) I2 J') : ∀ (m i n : Nat) (J : XJ) (I1 : XI) (w : Rw), i + m = k → m < n → F24 27 I I1 → RC (qT Q) w (I1 27) → WR w → hpN Q L m w = W → dcz l d ru ta rs J Rp n x k i I1 := by
  intro m
  induction m with
  | zero =>
    intro i n J I1 w hi hn f hr hw e
    obtain ⟨n, rfl⟩ : ∃ n', n = n' + 1 := ⟨n - 1, by omega⟩
    have hi : i = k := by omega
    subst hi
    have e : w = W := e
    subst e
    refine xrun_step fun K hK => ?_
    refine And.intro (fun _ => ?_) (fun z => absurd (Int32.le_refl _) z)
    have g1 : I1 1 = I 1 := f 1 (by decide) (by decide)
    refine cs_count l (d + 6) ru ta rs I1 J _ n0 first hn0 (by rw [g1]; exact e1) hfi (by rw [g1]; exact e2) (fun I2 k2 hp => ?_)
    refine And.intro (show vp_in (nI 67) 69 from vp_b (by decide)) ?_
    have y := hR I1 I2 J f hr k2 hp
    have e67 : I2 27 67 = w 67 := by rw [k2 27 (by decide)]; exact hr.hi (by decide) (by decide)
    rw [← e67] at y
    exact y
  | succ m ih =>
    intro i n J I1 w hi hn f hr hw e
    obtain ⟨n, rfl⟩ : ∃ n', n = n' + 1 := ⟨n - 1, by omega⟩
    refine xrun_step fun K hK => ?_
    refine And.intro (fun z => absurd (show nI k ≤ nI i from z) (nI_ge (by omega) (by omega))) (fun _ => ?_)
    refine cw_decade l d ru ta rs I1 J _ Q L (hc.k27 f) w hr hw t0 r0 b0 (fun I2 J2 f2 r2 => ?_)
    refine hK 96 [some (.ref 0), some (.int x), some (.int (nI k)), some (.int (nI 0)), some (.int (nI i + 1))] [] (shH ru ta rs) I2 J2 0 0 ?_
    rw [nI_1]
    exact ih (i + 1) n J2 I2 _ (by omega) (by omega) (f.tr f2) r2 (hw.hp hc.2.1 t0 r0 b0) e
set_option maxRecDepth 100000 in
set_option maxHeartbeats 8000000 in
theorem cd_dec (l : Launch) (d : Nat) (ru ta : Nat) (rs : List XO) (I : XI) (J : XJ) (Rp : XR) (L : Lws) (A : Ast) (hA : AOK A) (h : CA I ru L A) (x y : Int32) (hR : ∀ (I' : XI) (J' : XJ), FCl I I' → CA I' ru L (decS L A x y).2 → Rp (some (.int (decS L A x y).1)) (shH ru ta rs) I' J') : xm l (d + 8) 0 0 mX11_decades [.ref 0, .int x, .int y] (shH ru ta rs) I J Rp := by
  have h0 := h
  obtain ⟨hc, hr, hs⟩ := h
  obtain ⟨hq, hw, hn, hf⟩ := hA
  have none_ : decS L A x y = (-1, A) → Rp (some (.int (-1))) (shH ru ta rs) I J := fun e => by
    have z := hR I J FCl.rf (by rw [e]; exact h0)
    rw [e] at z
    exact z
  have t8 := hq.1
  have r4 := hq.2.1
  have b4 := hq.2.2.1
  have eT : I 12 5 = nI (qT (oQ A)) := hc.1.1
  have eR : I 12 6 = nI (qR (oQ A)) := hc.1.2.1
  have eB : I 12 7 = nI (qB (oQ A)) := hc.1.2.2.1
  -- behind the flag
  have go : ∀ (n : Nat) (bare : Bool), bare = (decide (qT (oQ A) = 0) || decide (qR (oQ A) = 0) || decide (qB (oQ A) = 0)) → 40 < n → xrun xxX11 (some .int) false false (shH ru ta rs).length 0 0 none l (d + 7) tX11_decades [35, 96] Rp n 35 [some (.ref 0), some (.int x), some (.int y), none, none] [.int (if bare then nI 1 else nI 0)] (shH ru ta rs) I J 0 0 := by
    intro n bare eb hn40
    obtain ⟨n, rfl⟩ : ∃ n', n = n' + 1 := ⟨n - 1, by omega⟩
    refine xrun_step fun K hK => ?_
    cases hx : rIn x 0 9999 with
    | false =>
      refine c_within_f l (d + 6) x 0 9999 _ _ _ _ (fun z => by
        have := rIn_p.mpr (show nI 0 ≤ x ∧ x ≤ nI 9999 from z)
        rw [hx] at this
        cases this) ?_
      refine And.intro (fun _ => ?_) (fun z => absurd rfl z)
      refine none_ ?_
      unfold decS
      rw [hx]
      rfl
    | true =>
      have hx2 := rIn_p.mp hx
      refine c_within_t l (d + 6) x 0 9999 _ _ _ _ hx2.1 hx2.2 ?_
      refine And.intro (fun z => absurd (show (1 : Int32) = 0 from z) (by decide)) (fun _ => ?_)
      cases hy : rIn y 1 30 with
      | false =>
        refine c_within_f l (d + 6) y 1 30 _ _ _ _ (fun z => by
          have := rIn_p.mpr (show nI 1 ≤ y ∧ y ≤ nI 30 from z)
          rw [hy] at this
          cases this) ?_
        refine And.intro (fun _ => ?_) (fun z => absurd rfl z)
        refine none_ ?_
        unfold decS
        rw [hy, Bool.and_false]
        rfl
      | true =>
        have hy2 := rIn_p.mp hy
        refine c_within_t l (d + 6) y 1 30 _ _ _ _ hy2.1 hy2.2 ?_
        refine And.intro (fun z => absurd (show (1 : Int32) = 0 from z) (by decide)) (fun _ => ?_)
        obtain ⟨i, i1, i2, ex, ex2⟩ := rIn_t (by omega) (by omega) hx
        obtain ⟨k, k1, k2, ey, ey2⟩ := rIn_t (by omega) (by omega) hy
        cases bare with
        | true =>
          refine And.intro (fun z => absurd (show nI 1 = 0 from z) (by decide)) (fun _ => ?_)
          refine none_ ?_
          unfold decS
          have e3 : (rIn x 0 9999 && rIn y 1 30 && !(decide (qT (oQ A) = 0)) && !(decide (qR (oQ A) = 0)) && !(decide (qB (oQ A) = 0))) = false := by
            have eb := eb.symm
            rw [Bool.or_eq_true, Bool.or_eq_true] at eb
            rcases eb with (e | e) | e
            · rw [e]
              simp
            · rw [e]
              simp
            · rw [e]
              simp
          rw [e3]
          rfl
        | false =>
          have eb := eb.symm
          rw [Bool.or_eq_false_iff, Bool.or_eq_false_iff, decide_eq_false_iff_not, decide_eq_false_iff_not, decide_eq_false_iff_not] at eb
          obtain ⟨⟨u1, u2⟩, u3⟩ := eb
          refine And.intro (fun _ => ?_) (fun z => absurd (show nI 0 = 0 from rfl) z)
          refine cs_note l (d + 5) ru ta rs I J _ _ _ _ hs (fun first hfi e1 => ?_)
          have n27 : (cI I 27 2 0 ((first + oN A) % 31 * 69) 69) 27 = I 27 := cI_ne (by decide)
          have n1 : (cI I 27 2 0 ((first + oN A) % 31 * 69) 69) 1 = I 1 := cI_ne (by decide)
          have cC : CE (cI I 27 2 0 ((first + oN A) % 31 * 69) 69) ru (oQ A) L := hc.fc (fun q a b c d => cI_ne b)
          have e12 : I 1 2 = nI (oN A) := by
            obtain ⟨_, fi, _, _, b, _⟩ := hs
            exact b
          have eS : decS L A x y = (hpN (oQ A) L k (upd (oW A) 68 (x * nI 2 + nI 83)) 67, stp A (hpN (oQ A) L k (upd (oW A) 68 (x * nI 2 + nI 83)))) := by
            unfold decS
            rw [hx, hy, decide_eq_false u1, decide_eq_false u2, decide_eq_false u3, ey2]
            rfl
          have ww : WR (upd (oW A) 68 (x * nI 2 + nI 83)) := hw.u (fun _ _ => by
            rw [ex, nI_mul, nI_add]
            exact okC.mk (by have z : bdW 68 = 30312 := by decide
                             omega))
          refine And.intro (show vp_in (nI 68) 69 from vp_b (by decide)) ?_
          refine hK 96 [some (.ref 0), some (.int x), some (.int y), some (.int (nI 0)), some (.int (nI 0))] [] (shH ru ta rs) (uI (cI I 27 2 0 ((first + oN A) % 31 * 69) 69) 27 68 (x * nI 2 + nI 83)) J 0 0 ?_
          rw [ey]
          refine cd_dec_loop l d ru ta rs (cI I 27 2 0 ((first + oN A) % 31 * 69) 69) J Rp L (oQ A) cC (by omega) (by omega) (by omega) x k (by omega) first (oN A) hn (by rw [n1]; exact e1) hfi (by rw [n1]; exact e12) _ (fun I1 I2 J' f1 r1 k2 hp => ?_) k 0 n J _ (upd (oW A) 68 (x * nI 2 + nI 83)) (by omega) (by omega) F24.rf.u ?_ ww rfl
          · obtain ⟨s1, s2, s3, s4, s5⟩ := cs_done (I2 := I2) hs e1 hfi hr f1
            have z := hR I2 J' (fun q a b c d e => (k2 q a).trans (s4 q a b d e)) (by
              rw [eS]
              exact ⟨hc.fc (fun q a b c d => (k2 q a).trans (s4 q a b c d)), by show RC _ _ (I2 27); rw [k2 27 (by decide)]; exact r1, hs.psh e1 hfi hr s5 k2 hp⟩)
            rw [eS] at z
            exact z
          · rw [uI_eq, n27]
            exact hr.uk (by decide) _
  refine xm_ofK 50 (X := xxX11) (t := tX11_decades) (stop := [35, 96]) (ini := false) xx11 pl11 rfl kX11_decades (fun h => by cases h) (Nat.le_of_ble_eq_true rfl) (fun K hK => ?_)
  have z0 : ∀ n, n < 100 → (nI n = 0 ↔ n = 0) := fun n hn => neq0 (by omega)
  have k35 : ∀ bare : Bool, bare = (decide (qT (oQ A) = 0) || decide (qR (oQ A) = 0) || decide (qB (oQ A) = 0)) → K 35 [some (.ref 0), some (.int x), some (.int y), none, none] [.int (if bare then nI 1 else nI 0)] (shH ru ta rs) I J 0 0 := fun bare eb => hK 35 _ _ _ _ _ _ _ (go 50 bare eb (by decide))
  refine And.intro (fun (z : I 12 5 = 0) => ?_) (fun (z : ¬ I 12 5 = 0) => ?_)
  · rw [eT, z0 _ (by omega)] at z
    exact k35 true (by rw [decide_eq_true z]; rfl)
  · rw [eT, z0 _ (by omega)] at z
    refine And.intro (fun (y' : I 12 6 = 0) => ?_) (fun (y' : ¬ I 12 6 = 0) => ?_)
    · rw [eR, z0 _ (by omega)] at y'
      exact k35 true (by rw [decide_eq_true y', Bool.or_true]; rfl)
    · rw [eR, z0 _ (by omega)] at y'
      refine And.intro (fun (v : ¬ I 12 7 = 0) => ?_) (fun (v : I 12 7 = 0) => ?_)
      · rw [eB, z0 _ (by omega)] at v
        exact k35 false (by rw [decide_eq_false z, decide_eq_false y', decide_eq_false v]; rfl)
      · rw [eB, z0 _ (by omega)] at v
        exact k35 true (by rw [decide_eq_true v, Bool.or_true])
-- what is told
theorem TDc.keep {I I' : XI} {Q : Tld} (e12 : I' 12 = I 12) (e13 : I' 13 = I 13) (e14 : I' 14 = I 14) (e15 : I' 15 = I 15) (e16 : I' 16 = I 16) (e17 : I' 17 = I 17) (h : TDc I Q) : TDc I' Q := by
  unfold TDc at h ⊢
  rw [e12, e13, e14, e15, e16, e17]
  exact h
theorem LC.keep {I I' : XI} {ru : Nat} {L : Lws} (hr : TSP ru) (f : ∀ q, (18 ≤ q ∧ q < 23) ∨ (46 < q ∧ q < 67) → I' q = I q) (h : LC I ru L) : LC I' ru L := fun w hw => by
  unfold TSP at hr
  exact (h w hw).keep (f _ (by omega)) (f _ (by omega)) (f _ (by omega))
set_option maxRecDepth 100000 in
set_option maxHeartbeats 4000000 in
theorem cd_thing (l : Launch) (d : Nat) (ru ta : Nat) (rs : List XO) (I : XI) (J : XJ) (Rp : XR) (L : Lws) (A : Ast) (hA : AOK A) (h : CA I ru L A) (x y z : Int32) (hR : ∀ (I' : XI) (J' : XJ), FCl I I' → CA I' ru L (thS A x y z).2 → Rp (some (.int (thS A x y z).1)) (shH ru ta rs) I' J') : xm l (d + 2) 0 0 mX11_thing [.ref 0, .int x, .int y, .int z] (shH ru ta rs) I J Rp := by
  have h0 := h
  obtain ⟨hc, hr, hs⟩ := h
  have hq := hA.1
  have t8 := hq.1
  have eT : I 12 5 = nI (qT (oQ A)) := hc.1.1
  have none_ : (rIn x 1 99 && rIn y 0 5 && rIn z 0 4 && decide (qT (oQ A) < 8)) = false → Rp (some (.int (-1))) (shH ru ta rs) I J := fun e => by
    have eS : thS A x y z = (-1, A) := by
      unfold thS
      rw [e]
      rfl
    have z := hR I J FCl.rf (by rw [eS]; exact h0)
    rw [eS] at z
    exact z
  have wit : ∀ (v : Int32) (lo hi : Nat) (Rq : XR), (rIn v lo hi = true → Rq (some (.int 1)) (shH ru ta rs) I J) → (rIn v lo hi = false → Rq (some (.int 0)) (shH ru ta rs) I J) → xm l (d + 1) 0 0 mX11_within [.int v, .int (nI lo), .int (nI hi)] (shH ru ta rs) I J Rq := fun v lo hi Rq a b => by
    cases e : rIn v lo hi with
    | true =>
      have := rIn_p.mp e
      exact c_within_t l d v (nI lo) (nI hi) _ _ _ _ this.1 this.2 (a e)
    | false =>
      exact c_within_f l d v (nI lo) (nI hi) _ _ _ _ (fun q => by
        have := rIn_p.mpr q
        rw [e] at this
        cases this) (b e)
  refine xm_ofK 0 (X := xxX11) (t := tX11_thing) (stop := []) (ini := false) xx11 pl11 rfl kX11_thing (fun h => by cases h) (Nat.le_of_ble_eq_true rfl) (fun K hK => ?_)
  refine wit x 1 99 _ (fun hx => ?_) (fun hx => ?_)
  · refine And.intro (fun z => absurd (show (1 : Int32) = 0 from z) (by decide)) (fun _ => ?_)
    refine wit y 0 5 _ (fun hy => ?_) (fun hy => ?_)
    · refine And.intro (fun z => absurd (show (1 : Int32) = 0 from z) (by decide)) (fun _ => ?_)
      refine wit z 0 4 _ (fun hz => ?_) (fun hz => ?_)
      · refine And.intro (fun _ => ?_) (fun z => absurd (show (1 : Int32) = 0 from z) (by decide))
        refine xm_ofK 0 (X := xxX9) (t := tX9_addThing) (stop := []) (ini := false) xx9 pl9 rfl kX9_addThing (fun h => by cases h) (Nat.le_of_ble_eq_true rfl) (fun K2 hK2 => ?_)
        refine And.intro (fun (v : I 12 5 < nI 8) => ?_) (fun (v : ¬ I 12 5 < nI 8) => ?_)
        · rw [eT, nlt (by omega) (by omega)] at v
          have it : (I 12 5).toNatClampNeg = qT (oQ A) := by rw [eT]; exact nI_clamp (by omega)
          have vt : vp_in (I 12 5) 8 := by rw [eT]; exact vp_in_nI (by omega) (by omega)
          obtain ⟨i, i1, i2, ex, ex2⟩ := rIn_t (by omega) (by omega) hx
          obtain ⟨j, j1, j2, ey, ey2⟩ := rIn_t (by omega) (by omega) hy
          obtain ⟨k, k1, k2, ez, ez2⟩ := rIn_t (by omega) (by omega) hz
          have eS : thS A x y z = (nI (qT (oQ A)), (thQ (oQ A) i j k, upd (oW A) (qT (oQ A)) (nI 100), oN A, fun k => upd (oF A k) (qT (oQ A)) (nI 100))) := by
            unfold thS
            rw [hx, hy, hz, decide_eq_true v, ex2, ey2, ez2]
            rfl
          refine And.intro vt ?_
          refine And.intro vt ?_
          refine And.intro vt ?_
          have fin := hR (uI (uI (uI (uI I 13 (qT (oQ A)) x) 14 (qT (oQ A)) y) 15 (qT (oQ A)) z) 12 5 (I 12 5 + nI 1)) J (fun q a b c d e => by rw [uI_ne (by omega), uI_ne (by omega), uI_ne (by omega), uI_ne (by omega)]) (by
            rw [eS]
            refine ⟨⟨⟨?_, hc.1.2.1, hc.1.2.2.1, fun t ht => ?_, hc.1.2.2.2.2.1, hc.1.2.2.2.2.2⟩, ?_, ?_, hc.2.2.2⟩, ?_, ?_⟩
            · rw [uI_atC, if_pos rfl, eT, nI_add]
              rfl
            · have ht : t < qT (oQ A) + 1 := ht
              show (uI (uI (uI (uI I 13 (qT (oQ A)) x) 14 (qT (oQ A)) y) 15 (qT (oQ A)) z) 12 5 (I 12 5 + nI 1)) 13 t = nI (ptF (qH (oQ A)) (qT (oQ A)) i t) ∧ (uI (uI (uI (uI I 13 (qT (oQ A)) x) 14 (qT (oQ A)) y) 15 (qT (oQ A)) z) 12 5 (I 12 5 + nI 1)) 14 t = nI (ptF (qK (oQ A)) (qT (oQ A)) j t) ∧ (uI (uI (uI (uI I 13 (qT (oQ A)) x) 14 (qT (oQ A)) y) 15 (qT (oQ A)) z) 12 5 (I 12 5 + nI 1)) 15 t = nI (ptF (qO (oQ A)) (qT (oQ A)) k t)
              rw [uI_ne (show 13 ≠ 12 by decide), uI_ne (show 13 ≠ 15 by decide), uI_ne (show 13 ≠ 14 by decide), uI_atC, uI_ne (show 14 ≠ 12 by decide), uI_ne (show 14 ≠ 15 by decide), uI_atC, uI_ne (show 14 ≠ 13 by decide), uI_ne (show 15 ≠ 12 by decide), uI_atC, uI_ne (show 15 ≠ 14 by decide), uI_ne (show 15 ≠ 13 by decide)]
              unfold ptF
              by_cases e : t = qT (oQ A)
              · rw [if_pos e, if_pos e, if_pos e, if_pos e, if_pos e, if_pos e]
                exact ⟨ex, ey, ez⟩
              · rw [if_neg e, if_neg e, if_neg e, if_neg e, if_neg e, if_neg e]
                exact hc.1.2.2.2.1 t (by omega)
            · have y := (hA.th x y z).1
              rw [eS] at y
              exact y
            · exact hc.2.2.1.keep hc.2.2.2 (fun q hq => by rw [uI_ne (by omega), uI_ne (by omega), uI_ne (by omega), uI_ne (by omega)])
            · show RC (qT (oQ A) + 1) _ _
              rw [uI_ne (by decide), uI_ne (by decide), uI_ne (by decide), uI_ne (by decide)]
              exact hr.th v
            · obtain ⟨a, fi, b, c, d', e⟩ := hs
              refine ⟨a, fi, b, c, d', fun k hk => ?_⟩
              exact (e k hk).th v)
          rw [eS, ← eT] at fin
          have e1 : I 12 5 + nI 1 - nI 1 = I 12 5 := by
            rw [eT, nI_add, nI_subI (by omega) (by omega), Nat.add_sub_cancel]
          rw [← it] at fin
          have fin3 : Rp (some (.int (I 12 5 + nI 1 - nI 1))) (shH ru ta rs) (uI (uI (uI (uI I 13 (I 12 5).toNatClampNeg x) 14 (I 12 5).toNatClampNeg y) 15 (I 12 5).toNatClampNeg z) 12 5 (I 12 5 + nI 1)) J := by
            rw [e1]
            exact fin
          exact fin3
        · rw [eT, nlt (by omega) (by omega)] at v
          exact none_ (by rw [decide_eq_false v, Bool.and_false])
      · refine And.intro (fun z => absurd rfl z) (fun _ => ?_)
        exact none_ (by rw [hz, Bool.and_false]; rfl)
    · refine And.intro (fun _ => ?_) (fun z => absurd rfl z)
      exact none_ (by rw [hy, Bool.and_false]; rfl)
  · refine And.intro (fun _ => ?_) (fun z => absurd rfl z)
    exact none_ (by rw [hx]; rfl)
set_option maxRecDepth 100000 in
set_option maxHeartbeats 4000000 in
theorem cd_reaper (l : Launch) (d : Nat) (ru ta : Nat) (rs : List XO) (I : XI) (J : XJ) (Rp : XR) (L : Lws) (A : Ast) (hA : AOK A) (h : CA I ru L A) (x : Int32) (hR : ∀ (I' : XI) (J' : XJ), FCl I I' → CA I' ru L (reS A x).2 → Rp (some (.int (reS A x).1)) (shH ru ta rs) I' J') : xm l (d + 2) 0 0 mX11_reaper [.ref 0, .int x] (shH ru ta rs) I J Rp := by
  have h0 := h
  obtain ⟨hc, hr, hs⟩ := h
  have hq := hA.1
  have r4 : qR (oQ A) ≤ 4 := hq.2.1
  have eT : I 12 6 = nI (qR (oQ A)) := hc.1.2.1
  have none_ : (rIn x 1 99 && decide (qR (oQ A) < 4)) = false → Rp (some (.int (-1))) (shH ru ta rs) I J := fun e => by
    have eS : reS A x = (-1, A) := by
      unfold reS
      rw [e]
      rfl
    have z := hR I J FCl.rf (by rw [eS]; exact h0)
    rw [eS] at z
    exact z
  refine xm_ofK 0 (X := xxX11) (t := tX11_reaper) (stop := []) (ini := false) xx11 pl11 rfl kX11_reaper (fun h => by cases h) (Nat.le_of_ble_eq_true rfl) (fun K hK => ?_)
  cases hx : rIn x 1 99 with
  | false =>
    refine c_within_f l d x 1 99 _ _ _ _ (fun q => by
      have := rIn_p.mpr (show nI 1 ≤ x ∧ x ≤ nI 99 from q)
      rw [hx] at this
      cases this) ?_
    refine And.intro (fun _ => ?_) (fun z => absurd rfl z)
    exact none_ (by rw [hx]; rfl)
  | true =>
    have hx2 := rIn_p.mp hx
    refine c_within_t l d x 1 99 _ _ _ _ hx2.1 hx2.2 ?_
    refine And.intro (fun z => absurd (show (1 : Int32) = 0 from z) (by decide)) (fun _ => ?_)
    refine xm_ofK 0 (X := xxX9) (t := tX9_addReaper) (stop := []) (ini := false) xx9 pl9 rfl kX9_addReaper (fun h => by cases h) (Nat.le_of_ble_eq_true rfl) (fun K2 hK2 => ?_)
    refine And.intro (fun (v : I 12 6 < nI 4) => ?_) (fun (v : ¬ I 12 6 < nI 4) => ?_)
    · rw [eT, nlt (by omega) (by omega)] at v
      have it : (I 12 6).toNatClampNeg = qR (oQ A) := by rw [eT]; exact nI_clamp (by omega)
      have vt : vp_in (I 12 6) 4 := by rw [eT]; exact vp_in_nI (by omega) (by omega)
      obtain ⟨i, i1, i2, ex, ex2⟩ := rIn_t (by omega) (by omega) hx
      have eS : reS A x = (nI (qR (oQ A)), (reQ (oQ A) i, oW A, oN A, oF A)) := by
        unfold reS
        rw [hx, decide_eq_true v, ex2]
        rfl
      refine And.intro vt ?_
      have fin := hR (uI (uI I 16 (qR (oQ A)) x) 12 6 (I 12 6 + nI 1)) J (fun q a b c d e => by rw [uI_ne (by omega), uI_ne (by omega)]) (by
        rw [eS]
        refine ⟨⟨⟨hc.1.1, ?_, hc.1.2.2.1, hc.1.2.2.2.1, fun t ht => ?_, hc.1.2.2.2.2.2⟩, ?_, ?_, hc.2.2.2⟩, ?_, ?_⟩
        · rw [uI_atC, if_pos rfl, eT, nI_add]
          rfl
        · have ht : t < qR (oQ A) + 1 := ht
          show (uI (uI I 16 (qR (oQ A)) x) 12 6 (I 12 6 + nI 1)) 16 t = nI (ptF (qC (oQ A)) (qR (oQ A)) i t)
          rw [uI_ne (by decide), uI_atC]
          unfold ptF
          by_cases e : t = qR (oQ A)
          · rw [if_pos e, if_pos e]
            exact ex
          · rw [if_neg e, if_neg e]
            exact hc.1.2.2.2.2.1 t (by omega)
        · have y := (hA.re x).1
          rw [eS] at y
          exact y
        · exact hc.2.2.1.keep hc.2.2.2 (fun q hq => by rw [uI_ne (by omega), uI_ne (by omega)])
        · show RC (qT (oQ A)) _ _
          rw [uI_ne (by decide), uI_ne (by decide)]
          exact hr
        · exact hs)
      rw [eS, ← eT] at fin
      have e1 : I 12 6 + nI 1 - nI 1 = I 12 6 := by
        rw [eT, nI_add, nI_subI (by omega) (by omega), Nat.add_sub_cancel]
      rw [← it] at fin
      have fin3 : Rp (some (.int (I 12 6 + nI 1 - nI 1))) (shH ru ta rs) (uI (uI I 16 (I 12 6).toNatClampNeg x) 12 6 (I 12 6 + nI 1)) J := by
        rw [e1]
        exact fin
      exact fin3
    · rw [eT, nlt (by omega) (by omega)] at v
      exact none_ (by rw [decide_eq_false v, Bool.and_false])
set_option maxRecDepth 100000 in
set_option maxHeartbeats 4000000 in
theorem cd_barn (l : Launch) (d : Nat) (ru ta : Nat) (rs : List XO) (I : XI) (J : XJ) (Rp : XR) (L : Lws) (A : Ast) (hA : AOK A) (h : CA I ru L A) (x : Int32) (hR : ∀ (I' : XI) (J' : XJ), FCl I I' → CA I' ru L (baS A x).2 → Rp (some (.int (baS A x).1)) (shH ru ta rs) I' J') : xm l (d + 2) 0 0 mX11_barn [.ref 0, .int x] (shH ru ta rs) I J Rp := by
  have h0 := h
  obtain ⟨hc, hr, hs⟩ := h
  have hq := hA.1
  have r4 : qB (oQ A) ≤ 4 := hq.2.2.1
  have eT : I 12 7 = nI (qB (oQ A)) := hc.1.2.2.1
  have none_ : (rIn x 1 999 && decide (qB (oQ A) < 4)) = false → Rp (some (.int (-1))) (shH ru ta rs) I J := fun e => by
    have eS : baS A x = (-1, A) := by
      unfold baS
      rw [e]
      rfl
    have z := hR I J FCl.rf (by rw [eS]; exact h0)
    rw [eS] at z
    exact z
  refine xm_ofK 0 (X := xxX11) (t := tX11_barn) (stop := []) (ini := false) xx11 pl11 rfl kX11_barn (fun h => by cases h) (Nat.le_of_ble_eq_true rfl) (fun K hK => ?_)
  cases hx : rIn x 1 999 with
  | false =>
    refine c_within_f l d x 1 999 _ _ _ _ (fun q => by
      have := rIn_p.mpr (show nI 1 ≤ x ∧ x ≤ nI 999 from q)
      rw [hx] at this
      cases this) ?_
    refine And.intro (fun _ => ?_) (fun z => absurd rfl z)
    exact none_ (by rw [hx]; rfl)
  | true =>
    have hx2 := rIn_p.mp hx
    refine c_within_t l d x 1 999 _ _ _ _ hx2.1 hx2.2 ?_
    refine And.intro (fun z => absurd (show (1 : Int32) = 0 from z) (by decide)) (fun _ => ?_)
    refine xm_ofK 0 (X := xxX9) (t := tX9_addBarn) (stop := []) (ini := false) xx9 pl9 rfl kX9_addBarn (fun h => by cases h) (Nat.le_of_ble_eq_true rfl) (fun K2 hK2 => ?_)
    refine And.intro (fun (v : I 12 7 < nI 4) => ?_) (fun (v : ¬ I 12 7 < nI 4) => ?_)
    · rw [eT, nlt (by omega) (by omega)] at v
      have it : (I 12 7).toNatClampNeg = qB (oQ A) := by rw [eT]; exact nI_clamp (by omega)
      have vt : vp_in (I 12 7) 4 := by rw [eT]; exact vp_in_nI (by omega) (by omega)
      obtain ⟨i, i1, i2, ex, ex2⟩ := rIn_t (by omega) (by omega) hx
      have eS : baS A x = (nI (qB (oQ A)), (baQ (oQ A) i, oW A, oN A, oF A)) := by
        unfold baS
        rw [hx, decide_eq_true v, ex2]
        rfl
      refine And.intro vt ?_
      have fin := hR (uI (uI I 17 (qB (oQ A)) x) 12 7 (I 12 7 + nI 1)) J (fun q a b c d e => by rw [uI_ne (by omega), uI_ne (by omega)]) (by
        rw [eS]
        refine ⟨⟨⟨hc.1.1, hc.1.2.1, ?_, hc.1.2.2.2.1, hc.1.2.2.2.2.1, fun t ht => ?_⟩, ?_, ?_, hc.2.2.2⟩, ?_, ?_⟩
        · rw [uI_atC, if_pos rfl, eT, nI_add]
          rfl
        · have ht : t < qB (oQ A) + 1 := ht
          show (uI (uI I 17 (qB (oQ A)) x) 12 7 (I 12 7 + nI 1)) 17 t = nI (ptF (qM (oQ A)) (qB (oQ A)) i t)
          rw [uI_ne (by decide), uI_atC]
          unfold ptF
          by_cases e : t = qB (oQ A)
          · rw [if_pos e, if_pos e]
            exact ex
          · rw [if_neg e, if_neg e]
            exact hc.1.2.2.2.2.2 t (by omega)
        · have y := (hA.ba x).1
          rw [eS] at y
          exact y
        · exact hc.2.2.1.keep hc.2.2.2 (fun q hq => by rw [uI_ne (by omega), uI_ne (by omega)])
        · show RC (qT (oQ A)) _ _
          rw [uI_ne (by decide), uI_ne (by decide)]
          exact hr
        · exact hs)
      rw [eS, ← eT] at fin
      have e1 : I 12 7 + nI 1 - nI 1 = I 12 7 := by
        rw [eT, nI_add, nI_subI (by omega) (by omega), Nat.add_sub_cancel]
      rw [← it] at fin
      have fin3 : Rp (some (.int (I 12 7 + nI 1 - nI 1))) (shH ru ta rs) (uI (uI I 17 (I 12 7).toNatClampNeg x) 12 7 (I 12 7 + nI 1)) J := by
        rw [e1]
        exact fin
      exact fin3
    · rw [eT, nlt (by omega) (by omega)] at v
      exact none_ (by rw [decide_eq_false v, Bool.and_false])
