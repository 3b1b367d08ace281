-- ===== the class: steps; the doing calls =====
theorem nmod {a b : Nat} (ha : a < 2 ^ 31) (h0 : 0 < b) (hb : b < 2 ^ 31) : nI a - nI a / nI b * nI b = nI (a % b) := by
  have h1 : a / b * b ≤ a := Nat.div_mul_le_self _ _
  rw [ndiv ha h0 hb, nI_mul, nI_subI h1 ha]
  congr 1
  have := Nat.div_add_mod a b
  rw [Nat.mul_comm] at this
  omega
set_option maxRecDepth 100000 in
theorem cs_place (l : Launch) (d : Nat) (ru ta : Nat) (rs : List XO) (I : XI) (J : XJ) (Rp : XR) (p : Nat) (hp : p = 1 ∨ p = 8) (first k : Nat) (e1 : I p 1 = nI first) (hf : first < 31) (hk : k ≤ 31) (hR : Rp (some (.int (nI ((first + k) % 31 * 69)))) (shH ru ta rs) I J) : xm l (d + 1) 0 0 mX6_placeOf [.ref p, .int (nI k)] (shH ru ta rs) I J Rp := by
  have ev : (I p 1 + nI k - (I p 1 + nI k) / nI 31 * nI 31) * nI 69 = nI ((first + k) % 31 * 69) := by
    rw [e1, nI_add, nmod (by omega) (by omega) (by omega), nI_mul]
  rw [← ev] at hR
  rcases hp with rfl | rfl
  all_goals
    refine xm_ofK 0 (X := xxX6) (t := tX6_placeOf) (stop := []) (ini := false) xx6 pl6 rfl kX6_placeOf (fun h => by cases h) (Nat.le_of_ble_eq_true rfl) (fun K hK => ?_)
    refine And.intro (show ¬ (nI 31 = 0) by decide) ?_
    exact hR
set_option maxRecDepth 100000 in
theorem cs_note (l : Launch) (d : Nat) (ru ta : Nat) (rs : List XO) (I : XI) (J : XJ) (Rp : XR) (T n : Nat) (f : Nat → Rw) (h : SC T n f I) (hR : ∀ first, first < 31 → I 1 1 = nI first → Rp none (shH ru ta rs) (cI I 27 2 0 ((first + n) % 31 * 69) 69) J) : xm l (d + 2) 0 0 mX6_note [.ref 1, .ref 27] (shH ru ta rs) I J Rp := by
  obtain ⟨hn, first, hf, e1, e2, _⟩ := h
  have hR := hR first hf e1
  have hs : (first + n) % 31 * 69 ≤ 2070 := by omega
  have z0 : (nI 0).toNatClampNeg = 0 := by decide
  have z69 : (nI 69).toNatClampNeg = 69 := by decide
  have zs : (nI ((first + n) % 31 * 69)).toNatClampNeg = (first + n) % 31 * 69 := nI_clamp (by omega)
  refine xm_ofK 0 (X := xxX6) (t := tX6_note) (stop := []) (ini := false) xx6 pl6 rfl kX6_note (fun h => by cases h) (Nat.le_of_ble_eq_true rfl) (fun K hK => ?_)
  refine (show xm l (d + 1) 0 0 mX6_placeOf [.ref 1, .int (I 1 2)] (shH ru ta rs) I J _ from ?_)
  rw [e2]
  refine cs_place l d ru ta rs I J _ 1 (Or.inl rfl) first n e1 hf (by omega) ?_
  refine And.intro (fun z => absurd (show nI 69 = nI 69 from rfl) z) (fun _ => ?_)
  refine And.intro (fun z => absurd (show nI ((first + n) % 31 * 69) < 0 from z) (nI_nn (by omega))) (fun _ => ?_)
  refine And.intro (fun z => absurd (show nI 2139 < nI ((first + n) % 31 * 69) + nI 69 from z) (by
    rw [nI_add, nlt (by omega) (by omega)]
    omega)) (fun _ => ?_)
  have q : ¬ nI 0 < 0 ∧ ¬ nI ((first + n) % 31 * 69) < 0 ∧ ¬ nI 69 < 0 ∧ (nI 0).toNatClampNeg + (nI 69).toNatClampNeg ≤ 69 ∧ (nI ((first + n) % 31 * 69)).toNatClampNeg + (nI 69).toNatClampNeg ≤ 2139 := ⟨by decide, nI_nn (by omega), by decide, by decide, by rw [zs, z69]; omega⟩
  refine And.intro q ?_
  rw [← zs, ← z69] at hR
  exact hR
set_option maxRecDepth 100000 in
theorem cs_count (l : Launch) (d : Nat) (ru ta : Nat) (rs : List XO) (I : XI) (J : XJ) (Rp : XR) (n first : Nat) (hn : n ≤ 30) (e1 : I 1 1 = nI first) (hf : first < 31) (e2 : I 1 2 = nI n) (hR : ∀ I', (∀ q, q ≠ 1 → I' q = I q) → (n < 30 → I' 1 1 = nI first ∧ I' 1 2 = nI (n + 1)) ∧ (n = 30 → I' 1 1 = nI ((first + 1) % 31) ∧ I' 1 2 = nI 30) → Rp none (shH ru ta rs) I' J) : xm l (d + 1) 0 0 mX6_count [.ref 1] (shH ru ta rs) I J Rp := by
  refine xm_ofK 0 (X := xxX6) (t := tX6_count) (stop := []) (ini := false) xx6 pl6 rfl kX6_count (fun h => by cases h) (Nat.le_of_ble_eq_true rfl) (fun K hK => ?_)
  refine And.intro (fun (z : nI 30 ≤ I 1 2) => ?_) (fun (z : ¬ nI 30 ≤ I 1 2) => ?_)
  · rw [e2, nle (by omega) (by omega)] at z
    refine And.intro (show ¬ (nI 31 = 0) by decide) ?_
    refine hR (uI I 1 1 (I 1 1 + nI 1 - (I 1 1 + nI 1) / nI 31 * nI 31)) (fun q hq => uI_ne hq) ⟨fun y => by omega, fun _ => ?_⟩
    rw [uI_atC, uI_atC, if_pos rfl, if_neg (by decide), e1, e2, nI_add, nmod (by omega) (by omega) (by omega), show n = 30 by omega]
    exact ⟨rfl, rfl⟩
  · rw [e2, nle (by omega) (by omega)] at z
    refine hR (uI I 1 2 (I 1 2 + nI 1)) (fun q hq => uI_ne hq) ⟨fun _ => ?_, fun y => by omega⟩
    rw [uI_atC, uI_atC, if_pos rfl, if_neg (by decide), e2, nI_add]
    exact ⟨e1, rfl⟩
theorem CE.fc {I I' : XI} {ru : Nat} {Q : Tld} {L : Lws} (f : ∀ q, q ≠ 1 → q ≠ 2 → q ≠ 24 → q ≠ 27 → I' q = I q) (h : CE I ru Q L) : CE I' ru Q L := h.keep (fun q hq => f q (by omega) (by omega) (by omega) (by omega))
/-- a call that notes a step, and counts it where it does something -/
theorem cs_done {T n first : Nat} {f : Nat → Rw} {w : Rw} {I I1 I2 : XI} (h : SC T n f I) (e1 : I 1 1 = nI first) (hf : first < 31) (hr : RC T w (I 27)) (k1 : F24 27 (cI I 27 2 0 ((first + n) % 31 * 69) 69) I1) : SC T n f I1 ∧ I1 1 1 = nI first ∧ I1 1 2 = nI n ∧ (∀ q, q ≠ 1 → q ≠ 2 → q ≠ 24 → q ≠ 27 → I1 q = I q) ∧ I1 2 = va_cpy (I 27) (I 2) 0 ((first + n) % 31 * 69) 69 := by
  have g2 : I1 2 = va_cpy (I 27) (I 2) 0 ((first + n) % 31 * 69) 69 := by rw [k1 2 (by decide) (by decide), cI_eq]
  have g1 : I1 1 = I 1 := by rw [k1 1 (by decide) (by decide), cI_ne (by decide)]
  refine ⟨h.note e1 hf g1 g2, by rw [g1]; exact e1, ?_, fun q a b c d => ?_, g2⟩
  · rw [g1]
    obtain ⟨_, fi, _, _, b, _⟩ := h
    exact b
  · rw [k1 q c d, cI_ne b]
theorem SC.psh {T n first : Nat} {f : Nat → Rw} {w : Rw} {I I1 I2 : XI} (h : SC T n f I) (e1 : I 1 1 = nI first) (hf : first < 31) (hr : RC T w (I 27)) (g2 : I1 2 = va_cpy (I 27) (I 2) 0 ((first + n) % 31 * 69) 69) (k2 : ∀ q, q ≠ 1 → I2 q = I1 q) (hp : (n < 30 → I2 1 1 = nI first ∧ I2 1 2 = nI (n + 1)) ∧ (n = 30 → I2 1 1 = nI ((first + 1) % 31) ∧ I2 1 2 = nI 30)) : SC T (pN n) (pF n f w) I2 := h.push e1 hf (by rw [k2 2 (by decide)]; exact g2) hr hp
set_option maxRecDepth 100000 in
set_option maxHeartbeats 4000000 in
/-- a cut that can't be asked for -/
theorem cw_cutOffX (l : Launch) (d : Nat) (ru ta : Nat) (rs : List XO) (I : XI) (J : XJ) (Rp : XR) (Q : Tld) (L : Lws) (h : CE I ru Q L) (w : Rw) (hr : RC (qT Q) w (I 27)) (hw : WR w) (x y z : Int32) (hv : (vIn x (qT Q) && vIn y (qR Q) && vIn z (qB Q)) = false) (hR : ∀ (I' : XI) (J' : XJ), (∀ q, q ≠ 24 → I' q = I q) → Rp (some (.int (-1))) (shH ru ta rs) I' J') : xm l (d + 6) 0 0 mX10_cutOff [.ref 26, .int x, .int y, .int z] (shH ru ta rs) I J Rp := by
  have t8 := h.2.1.1
  have r4 := h.2.1.2.1
  have b4 := h.2.1.2.2.1
  refine xm_ofK 0 (X := xxX10) (t := tX10_cutOff) (stop := []) (ini := false) xx10 pl10 rfl kX10_cutOff (fun h => by cases h) (Nat.le_of_ble_eq_true rfl) (fun K hK => ?_)
  -- its length is 0
  have len : ∀ Rq : XR, Rq (some (.int (nI 0))) (shH ru ta rs) I J → xm l (d + 5) 0 0 mX10_cutLength [.ref 26, .int x, .int y, .int z] (shH ru ta rs) I J Rq := by
    intro Rq hq
    refine xm_ofK 0 (X := xxX10) (t := tX10_cutLength) (stop := []) (ini := false) xx10 pl10 rfl kX10_cutLength (fun h => by cases h) (Nat.le_of_ble_eq_true rfl) (fun K hK => ?_)
    refine cc_hasThing l (d + 3) ru ta rs I J _ Q L h x (fun t ht e => ?_) (fun hn => ?_)
    · refine And.intro (fun z => absurd (show (1 : Int32) = 0 from z) (by decide)) (fun _ => ?_)
      refine cc_hasReaper l (d + 3) ru ta rs I J _ Q L h y (fun r hr e2 => ?_) (fun hn => ?_)
      · refine And.intro (fun z => absurd (show (1 : Int32) = 0 from z) (by decide)) (fun _ => ?_)
        refine cc_hasBarn l (d + 3) ru ta rs I J _ Q L h z (fun b hb e3 => ?_) (fun hn => ?_)
        · exfalso
          rw [e, e2, e3, vIn_n (by omega) ht, vIn_n (by omega) hr, vIn_n (by omega) hb] at hv
          exact absurd hv (by decide)
        · refine And.intro (fun z => absurd rfl z) (fun _ => hq)
      · refine And.intro (fun _ => hq) (fun z => absurd rfl z)
    · refine And.intro (fun _ => hq) (fun z => absurd rfl z)
  refine len _ ?_
  -- whatever its shadow
  have sha : ∀ Rq : XR, (∀ (v : Int32) (I' : XI) (J' : XJ), (∀ q, q ≠ 24 → I' q = I q) → Rq (some (.int v)) (shH ru ta rs) I' J') → xm l (d + 5) 0 0 mX10_shadowOf [.ref 26, .int x] (shH ru ta rs) I J Rq := by
    intro Rq hq
    cases e : vIn x (qT Q) with
    | true =>
      obtain ⟨t, ht, ex, _⟩ := vIn_t (by omega) e
      subst ex
      exact cw_shadow l (d + 1) ru ta rs I J Rq Q L h w hr hw t ht (fun I' J' f => hq _ I' J' f)
    | false =>
      refine xm_ofK 0 (X := xxX10) (t := tX10_shadowOf) (stop := []) (ini := false) xx10 pl10 rfl kX10_shadowOf (fun h => by cases h) (Nat.le_of_ble_eq_true rfl) (fun K hK => ?_)
      refine cc_hasThing l (d + 3) ru ta rs I J _ Q L h x (fun t ht e2 => absurd e2 (vIn_f (by omega) e t ht)) (fun hn => ?_)
      refine And.intro (fun _ => ?_) (fun z => absurd rfl z)
      exact hq _ I J (fun _ _ => rfl)
  refine sha _ (fun v I' J' f => ?_)
  refine And.intro (fun _ => ?_) (fun z => absurd (show nI 0 ≤ 0 from Int32.le_refl _) z)
  exact hR I' J' f
set_option maxRecDepth 100000 in
set_option maxHeartbeats 4000000 in
theorem cd_cut (l : Launch) (d : Nat) (ru ta : Nat) (rs : List XO) (I : XI) (J : XJ) (Rp : XR) (L : Lws) (A : Ast) (hA : AOK A) (h : CA I ru L A) (x y z : Int32) (hR : ∀ (I' : XI) (J' : XJ), FCl I I' → CA I' ru L (cutS L A x y z).2 → Rp (some (.int (cutS L A x y z).1)) (shH ru ta rs) I' J') : xm l (d + 9) 0 0 mX11_cut [.ref 0, .int x, .int y, .int z] (shH ru ta rs) I J Rp := by
  obtain ⟨hc, hr, hs⟩ := h
  obtain ⟨hq, hw, hn, hf⟩ := hA
  have t8 := hq.1
  have r4 := hq.2.1
  have b4 := hq.2.2.1
  refine xm_ofK 0 (X := xxX11) (t := tX11_cut) (stop := []) (ini := false) xx11 pl11 rfl kX11_cut (fun h => by cases h) (Nat.le_of_ble_eq_true rfl) (fun K hK => ?_)
  refine cs_note l (d + 6) ru ta rs I J _ _ _ _ hs (fun first hfi e1 => ?_)
  have n27 : (cI I 27 2 0 ((first + oN A) % 31 * 69) 69) 27 = I 27 := cI_ne (by decide)
  have cC : CE (cI I 27 2 0 ((first + oN A) % 31 * 69) 69) ru (oQ A) L := hc.fc (fun q a b c d => cI_ne b)
  -- it can't be
  have no : ∀ (I1 : XI) (J1 : XJ), F24 27 (cI I 27 2 0 ((first + oN A) % 31 * 69) 69) I1 → RC (qT (oQ A)) (oW A) (I1 27) → cutS L A x y z = (-1, A) → Rp (some (.int (-1))) (shH ru ta rs) I1 J1 := fun I1 J1 f1 r1 e => by
    obtain ⟨s1, s2, s3, s4, s5⟩ := cs_done (I2 := I1) hs e1 hfi hr f1
    have y := hR I1 J1 (fun q a b c d e => s4 q a b d e) (by rw [e]; exact ⟨hc.fc s4, r1, s1⟩)
    rw [e] at y
    exact y
  -- it is done
  have yes : ∀ (I1 : XI) (J1 : XJ) (v : Int32) (w' : Rw), F24 27 (cI I 27 2 0 ((first + oN A) % 31 * 69) 69) I1 → RC (qT (oQ A)) w' (I1 27) → cutS L A x y z = (v, stp A w') → ∀ (D : Nat) (Rq : XR), (∀ (I2 : XI), Rp (some (.int v)) (shH ru ta rs) I2 J1 → Rq none (shH ru ta rs) I2 J1) → xm l (D + 1) 0 0 mX6_count [.ref 1] (shH ru ta rs) I1 J1 Rq := fun I1 J1 v w' f1 r1 e D Rq hq => by
    obtain ⟨s1, s2, s3, s4, s5⟩ := cs_done (I2 := I1) hs e1 hfi hr f1
    refine cs_count l D ru ta rs I1 J1 Rq (oN A) first hn s2 hfi s3 (fun I2 k2 hp => hq I2 ?_)
    have y := hR I2 J1 (fun q a b c d e => (k2 q a).trans (s4 q a b d e)) (by
      rw [e]
      exact ⟨hc.fc (fun q a b c d => (k2 q a).trans (s4 q a b c d)), by show RC _ w' (I2 27); rw [k2 27 (by decide)]; exact r1, hs.psh e1 hfi hr s5 k2 hp⟩)
    rw [e] at y
    exact y
  cases hv : (vIn x (qT (oQ A)) && vIn y (qR (oQ A)) && vIn z (qB (oQ A))) with
  | false =>
    have eS : cutS L A x y z = (-1, A) := by
      unfold cutS
      rw [hv]
      rfl
    refine cw_cutOffX l (d + 2) ru ta rs _ J _ (oQ A) L cC (oW A) (by rw [n27]; exact hr) hw x y z hv (fun I1 J1 f1 => ?_)
    refine And.intro (fun _ => ?_) (fun z => absurd rfl z)
    exact no I1 J1 (F24.n f1) (by rw [f1 27 (by decide), n27]; exact hr) eS
  | true =>
    have hv' := hv
    simp only [Bool.and_eq_true] at hv
    obtain ⟨t, ht, ex, ex2⟩ := vIn_t (by omega) hv.1.1
    obtain ⟨r, hrr, ey, ey2⟩ := vIn_t (by omega) hv.1.2
    obtain ⟨bn, hb, ez, ez2⟩ := vIn_t (by omega) hv.2
    have eS : cutS L A x y z = if cuOK (oQ A) L (oW A) t r bn = true then (nI (frB (oW A)), stp A (cuW (oQ A) L (oW A) t r bn)) else (-1, A) := by
      unfold cutS
      rw [hv', Bool.true_and, ex2, ey2, ez2]
    subst ex ey ez
    refine cw_cutOff l (d + 2) ru ta rs _ J _ (oQ A) L cC (oW A) (by rw [n27]; exact hr) hw t r bn ht hrr hb (fun I1 J1 f1 r1 => ?_)
    cases hok : cuOK (oQ A) L (oW A) t r bn with
    | false =>
      rw [hok] at eS
      have eB : cuB (oQ A) L (oW A) t r bn = 12 := by
        unfold cuB
        rw [hok]
        rfl
      have eR : cuR (oQ A) L (oW A) t r bn = oW A := by
        unfold cuR
        rw [hok]
        rfl
      rw [eR] at r1
      rw [eB]
      refine And.intro (fun _ => ?_) (fun z => absurd (show bI 12 = -1 from rfl) z)
      exact no I1 J1 f1 r1 eS
    | true =>
      rw [hok] at eS
      have fb : frB (oW A) < 12 := by
        have := (cuOK_el hok).2.2.2.2.1
        have := frB_le (oW A)
        omega
      have eB : cuB (oQ A) L (oW A) t r bn = frB (oW A) := by
        unfold cuB
        rw [hok]
        rfl
      have eR : cuR (oQ A) L (oW A) t r bn = cuW (oQ A) L (oW A) t r bn := by
        unfold cuR
        rw [hok]
        rfl
      rw [eR] at r1
      rw [eB, bI_b fb]
      refine And.intro (fun z => absurd (show nI (frB (oW A)) = -1 from z) (nI_ne1 (by omega))) (fun _ => ?_)
      exact yes I1 J1 _ _ f1 r1 eS (d + 7) _ (fun I2 y => y)
set_option maxRecDepth 100000 in
set_option maxHeartbeats 4000000 in
theorem cd_last (l : Launch) (d : Nat) (ru ta : Nat) (rs : List XO) (I : XI) (J : XJ) (Rp : XR) (L : Lws) (A : Ast) (hA : AOK A) (h : CA I ru L A) (x y : Int32) (hR : ∀ (I' : XI) (J' : XJ), FCl I I' → CA I' ru L (lastS A x y).2 → Rp (some (.int (lastS A x y).1)) (shH ru ta rs) I' J') : xm l (d + 6) 0 0 mX11_last [.ref 0, .int x, .int y] (shH ru ta rs) I J Rp := by
  obtain ⟨hc, hr, hs⟩ := h
  obtain ⟨hq, hw, hn, hf⟩ := hA
  have t8 := hq.1
  have r4 := hq.2.1
  have b4 := hq.2.2.1
  refine xm_ofK 0 (X := xxX11) (t := tX11_last) (stop := []) (ini := false) xx11 pl11 rfl kX11_last (fun h => by cases h) (Nat.le_of_ble_eq_true rfl) (fun K hK => ?_)
  refine cs_note l (d + 3) ru ta rs I J _ _ _ _ hs (fun first hfi e1 => ?_)
  have n27 : (cI I 27 2 0 ((first + oN A) % 31 * 69) 69) 27 = I 27 := cI_ne (by decide)
  have cC : CE (cI I 27 2 0 ((first + oN A) % 31 * 69) 69) ru (oQ A) L := hc.fc (fun q a b c d => cI_ne b)
  -- it can't be
  have no : ∀ (I1 : XI) (J1 : XJ), F24 27 (cI I 27 2 0 ((first + oN A) % 31 * 69) 69) I1 → RC (qT (oQ A)) (oW A) (I1 27) → lastS A x y = (-1, A) → Rp (some (.int (-1))) (shH ru ta rs) I1 J1 := fun I1 J1 f1 r1 e => by
    obtain ⟨s1, s2, s3, s4, s5⟩ := cs_done (I2 := I1) hs e1 hfi hr f1
    have y := hR I1 J1 (fun q a b c d e => s4 q a b d e) (by rw [e]; exact ⟨hc.fc s4, r1, s1⟩)
    rw [e] at y
    exact y
  -- it is done
  have yes : ∀ (I1 : XI) (J1 : XJ) (v : Int32) (w' : Rw), F24 27 (cI I 27 2 0 ((first + oN A) % 31 * 69) 69) I1 → RC (qT (oQ A)) w' (I1 27) → lastS A x y = (v, stp A w') → ∀ (D : Nat) (Rq : XR), (∀ (I2 : XI), Rp (some (.int v)) (shH ru ta rs) I2 J1 → Rq none (shH ru ta rs) I2 J1) → xm l (D + 1) 0 0 mX6_count [.ref 1] (shH ru ta rs) I1 J1 Rq := fun I1 J1 v w' f1 r1 e D Rq hq => by
    obtain ⟨s1, s2, s3, s4, s5⟩ := cs_done (I2 := I1) hs e1 hfi hr f1
    refine cs_count l D ru ta rs I1 J1 Rq (oN A) first hn s2 hfi s3 (fun I2 k2 hp => hq I2 ?_)
    have y := hR I2 J1 (fun q a b c d e => (k2 q a).trans (s4 q a b d e)) (by
      rw [e]
      exact ⟨hc.fc (fun q a b c d => (k2 q a).trans (s4 q a b c d)), by show RC _ w' (I2 27); rw [k2 27 (by decide)]; exact r1, hs.psh e1 hfi hr s5 k2 hp⟩)
    rw [e] at y
    exact y
  refine cw_sendOff l (d + 2) ru ta rs _ J _ (oQ A) L cC (oW A) (by rw [n27]; exact hr) hw x y (fun r bn hrr hb ex ey hok I1 f1 r1 => ?_) (fun hn => ?_)
  · subst ex ey
    have eS : lastS A (nI r) (nI bn) = (nI (frB (oW A)), stp A (laW (oQ A) (oW A) r bn)) := by
      unfold lastS
      rw [nI_clamp (by omega), nI_clamp (by omega), vIn_n (by omega) hrr, vIn_n (by omega) hb, hok]
      rfl
    have fb := frB_le (oW A)
    refine And.intro (fun z => absurd (show nI (frB (oW A)) = -1 from z) (nI_ne1 (by omega))) (fun _ => ?_)
    exact yes I1 J _ _ f1 r1 eS (d + 4) _ (fun I2 y => y)
  · have eS : lastS A x y = (-1, A) := by
      unfold lastS
      cases hv : (vIn x (qR (oQ A)) && vIn y (qB (oQ A))) with
      | false => rfl
      | true =>
        rw [Bool.and_eq_true] at hv
        obtain ⟨r, hrr, ex, ex2⟩ := vIn_t (by omega) hv.1
        obtain ⟨bn, hb, ey, ey2⟩ := vIn_t (by omega) hv.2
        rw [ex2, ey2, hn r bn hrr hb ex ey]
        rfl
    refine And.intro (fun _ => ?_) (fun z => absurd rfl z)
    exact no _ J F24.rf (by rw [n27]; exact hr) eS
set_option maxRecDepth 100000 in
set_option maxHeartbeats 4000000 in
theorem cd_move (l : Launch) (d : Nat) (ru ta : Nat) (rs : List XO) (I : XI) (J : XJ) (Rp : XR) (L : Lws) (A : Ast) (hA : AOK A) (h : CA I ru L A) (x y : Int32) (hR : ∀ (I' : XI) (J' : XJ), FCl I I' → CA I' ru L (moveS A x y).2 → Rp (some (.int (moveS A x y).1)) (shH ru ta rs) I' J') : xm l (d + 6) 0 0 mX11_move [.ref 0, .int x, .int y] (shH ru ta rs) I J Rp := by
  obtain ⟨hc, hr, hs⟩ := h
  obtain ⟨hq, hw, hn, hf⟩ := hA
  have t8 := hq.1
  have r4 := hq.2.1
  have b4 := hq.2.2.1
  refine xm_ofK 0 (X := xxX11) (t := tX11_move) (stop := []) (ini := false) xx11 pl11 rfl kX11_move (fun h => by cases h) (Nat.le_of_ble_eq_true rfl) (fun K hK => ?_)
  refine cs_note l (d + 3) ru ta rs I J _ _ _ _ hs (fun first hfi e1 => ?_)
  have n27 : (cI I 27 2 0 ((first + oN A) % 31 * 69) 69) 27 = I 27 := cI_ne (by decide)
  have cC : CE (cI I 27 2 0 ((first + oN A) % 31 * 69) 69) ru (oQ A) L := hc.fc (fun q a b c d => cI_ne b)
  -- it can't be
  have no : ∀ (I1 : XI) (J1 : XJ), F24 27 (cI I 27 2 0 ((first + oN A) % 31 * 69) 69) I1 → RC (qT (oQ A)) (oW A) (I1 27) → moveS A x y = (0, A) → Rp (some (.int (0))) (shH ru ta rs) I1 J1 := fun I1 J1 f1 r1 e => by
    obtain ⟨s1, s2, s3, s4, s5⟩ := cs_done (I2 := I1) hs e1 hfi hr f1
    have y := hR I1 J1 (fun q a b c d e => s4 q a b d e) (by rw [e]; exact ⟨hc.fc s4, r1, s1⟩)
    rw [e] at y
    exact y
  -- it is done
  have yes : ∀ (I1 : XI) (J1 : XJ) (v : Int32) (w' : Rw), F24 27 (cI I 27 2 0 ((first + oN A) % 31 * 69) 69) I1 → RC (qT (oQ A)) w' (I1 27) → moveS A x y = (v, stp A w') → ∀ (D : Nat) (Rq : XR), (∀ (I2 : XI), Rp (some (.int v)) (shH ru ta rs) I2 J1 → Rq none (shH ru ta rs) I2 J1) → xm l (D + 1) 0 0 mX6_count [.ref 1] (shH ru ta rs) I1 J1 Rq := fun I1 J1 v w' f1 r1 e D Rq hq => by
    obtain ⟨s1, s2, s3, s4, s5⟩ := cs_done (I2 := I1) hs e1 hfi hr f1
    refine cs_count l D ru ta rs I1 J1 Rq (oN A) first hn s2 hfi s3 (fun I2 k2 hp => hq I2 ?_)
    have y := hR I2 J1 (fun q a b c d e => (k2 q a).trans (s4 q a b d e)) (by
      rw [e]
      exact ⟨hc.fc (fun q a b c d => (k2 q a).trans (s4 q a b c d)), by show RC _ w' (I2 27); rw [k2 27 (by decide)]; exact r1, hs.psh e1 hfi hr s5 k2 hp⟩)
    rw [e] at y
    exact y
  refine cw_carry l (d + 2) ru ta rs _ J _ (oQ A) L cC (oW A) (by rw [n27]; exact hr) hw x y (fun b bn hb hbn ex ey hok I1 f1 r1 => ?_) (fun hn => ?_)
  · subst ex ey
    have eS : moveS A (nI b) (nI bn) = (1, stp A (upd (oW A) (52 + b) (nI bn))) := by
      unfold moveS
      rw [nI_clamp (by omega), nI_clamp (by omega), vIn_n (by omega) hb, vIn_n (by omega) hbn, hok]
      rfl
    refine And.intro (fun z => absurd (show (1 : Int32) = 0 from z) (by decide)) (fun _ => ?_)
    exact yes I1 J _ _ f1 r1 eS (d + 4) _ (fun I2 y => And.intro (Or.inr rfl) y)
  · have eS : moveS A x y = (0, A) := by
      unfold moveS
      cases hv : (vIn x 12 && vIn y (qB (oQ A))) with
      | false => rfl
      | true =>
        rw [Bool.and_eq_true] at hv
        obtain ⟨b, hb, ex, ex2⟩ := vIn_t (by omega) hv.1
        obtain ⟨bn, hbn, ey, ey2⟩ := vIn_t (by omega) hv.2
        rw [ex2, ey2, hn b bn hb hbn ex ey]
        rfl
    refine And.intro (fun _ => ?_) (fun z => absurd rfl z)
    exact And.intro (Or.inl rfl) (no _ J F24.rf (by rw [n27]; exact hr) eS)
set_option maxRecDepth 100000 in
set_option maxHeartbeats 4000000 in
theorem cd_sell (l : Launch) (d : Nat) (ru ta : Nat) (rs : List XO) (I : XI) (J : XJ) (Rp : XR) (L : Lws) (A : Ast) (hA : AOK A) (h : CA I ru L A) (x : Int32) (hR : ∀ (I' : XI) (J' : XJ), FCl I I' → CA I' ru L (sellS L A x).2 → Rp (some (.int (sellS L A x).1)) (shH ru ta rs) I' J') : xm l (d + 8) 0 0 mX11_sell [.ref 0, .int x] (shH ru ta rs) I J Rp := by
  obtain ⟨hc, hr, hs⟩ := h
  obtain ⟨hq, hw, hn, hf⟩ := hA
  have t8 := hq.1
  have r4 := hq.2.1
  have b4 := hq.2.2.1
  refine xm_ofK 0 (X := xxX11) (t := tX11_sell) (stop := []) (ini := false) xx11 pl11 rfl kX11_sell (fun h => by cases h) (Nat.le_of_ble_eq_true rfl) (fun K hK => ?_)
  refine cs_note l (d + 5) ru ta rs I J _ _ _ _ hs (fun first hfi e1 => ?_)
  have n27 : (cI I 27 2 0 ((first + oN A) % 31 * 69) 69) 27 = I 27 := cI_ne (by decide)
  have cC : CE (cI I 27 2 0 ((first + oN A) % 31 * 69) 69) ru (oQ A) L := hc.fc (fun q a b c d => cI_ne b)
  -- it can't be
  have no : ∀ (I1 : XI) (J1 : XJ), F24 27 (cI I 27 2 0 ((first + oN A) % 31 * 69) 69) I1 → RC (qT (oQ A)) (oW A) (I1 27) → sellS L A x = (-1, A) → Rp (some (.int (-1))) (shH ru ta rs) I1 J1 := fun I1 J1 f1 r1 e => by
    obtain ⟨s1, s2, s3, s4, s5⟩ := cs_done (I2 := I1) hs e1 hfi hr f1
    have y := hR I1 J1 (fun q a b c d e => s4 q a b d e) (by rw [e]; exact ⟨hc.fc s4, r1, s1⟩)
    rw [e] at y
    exact y
  -- it is done
  have yes : ∀ (I1 : XI) (J1 : XJ) (v : Int32) (w' : Rw), F24 27 (cI I 27 2 0 ((first + oN A) % 31 * 69) 69) I1 → RC (qT (oQ A)) w' (I1 27) → sellS L A x = (v, stp A w') → ∀ (D : Nat) (Rq : XR), (∀ (I2 : XI), Rp (some (.int v)) (shH ru ta rs) I2 J1 → Rq none (shH ru ta rs) I2 J1) → xm l (D + 1) 0 0 mX6_count [.ref 1] (shH ru ta rs) I1 J1 Rq := fun I1 J1 v w' f1 r1 e D Rq hq => by
    obtain ⟨s1, s2, s3, s4, s5⟩ := cs_done (I2 := I1) hs e1 hfi hr f1
    refine cs_count l D ru ta rs I1 J1 Rq (oN A) first hn s2 hfi s3 (fun I2 k2 hp => hq I2 ?_)
    have y := hR I2 J1 (fun q a b c d e => (k2 q a).trans (s4 q a b d e)) (by
      rw [e]
      exact ⟨hc.fc (fun q a b c d => (k2 q a).trans (s4 q a b c d)), by show RC _ w' (I2 27); rw [k2 27 (by decide)]; exact r1, hs.psh e1 hfi hr s5 k2 hp⟩)
    rw [e] at y
    exact y
  refine cw_sellOff l (d + 2) ru ta rs _ J _ (oQ A) L cC (oW A) (by rw [n27]; exact hr) hw x (fun b hb ex hp I1 J1 f1 r1 => ?_) (fun hn => ?_)
  · subst ex
    have eS : sellS L A (nI b) = (nI (seR L (oW A) b), stp A (seW L (oW A) b)) := by
      unfold sellS
      rw [nI_clamp (by omega), vIn_n (by omega) hb, decide_eq_true hp]
      rfl
    have sl := seR_le (L := L) hw hb
    refine And.intro (fun z => absurd (show nI (seR L (oW A) b) = -1 from z) (nI_ne1 (by omega))) (fun _ => ?_)
    exact yes I1 J1 _ _ f1 r1 eS (d + 6) _ (fun I2 y => y)
  · have eS : sellS L A x = (-1, A) := by
      unfold sellS
      cases hv : vIn x 12 with
      | false => rfl
      | true =>
        obtain ⟨b, hb, ex, ex2⟩ := vIn_t (by omega) hv
        rw [ex2, decide_eq_false (hn b hb ex)]
        rfl
    refine And.intro (fun _ => ?_) (fun z => absurd rfl z)
    exact no _ J F24.rf (by rw [n27]; exact hr) eS
