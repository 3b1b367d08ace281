-- ===== the reference: what is told =====
theorem cells_t : (∀ t, t < 8 → cellI CF 68 (10 + t) = fr) ∧ (∀ t, t < 8 → cellI CF 68 (18 + t) = fr) ∧ ∀ t, t < 8 → cellI CF 68 (26 + t) = fr := by decide +kernel
theorem cells_r : (∀ r, r < 4 → cellI CF 68 (34 + r) = (0, 999)) ∧ (∀ r, r < 4 → cellI CF 68 (38 + r) = fr) ∧ cellI CF 68 1 = (0, 4) ∧ cellI CF 68 2 = (0, 4) := by decide +kernel
abbrev tgz (l : Launch) (d : Nat) (ru ta : Nat) (rs : List XO) (J : XJ) (Rp : XR) (n : Nat) (x y z : Int32) (t i : Nat) (I : XI) : Prop := xrun xxX12 (some .int) false false (shH ru ta rs).length 0 0 none l (d + 1) tX12_thing [93] Rp n 93 [some (.ref 67), some (.int x), some (.int y), some (.int z), some (.int (nI t)), some (.int (nI i))] [] (shH ru ta rs) I J 0 0
def tgI (I0 I1 : XI) (t i : Nat) : Prop := (∀ q, q ≠ 68 → I1 q = I0 q) ∧ (∀ k, k < i → I1 68 (130 + 69 * k + t) = nI 100) ∧ ∀ j, (∀ k, k < i → j ≠ 130 + 69 * k + t) → I1 68 j = I0 68 j
theorem tgI.s {I0 I1 : XI} {t i : Nat} (h : tgI I0 I1 t i) : tgI I0 (uI I1 68 (130 + 69 * i + t) (nI 100)) t (i + 1) := by
  refine ⟨fun q hq => (uI_ne hq).trans (h.1 q hq), fun k hk => ?_, fun j hj => ?_⟩
  · rw [uI_eq]
    by_cases e : k = i
    · subst e
      exact upd_s
    · rw [upd_n (by omega)]
      exact h.2.1 k (by omega)
  · rw [uI_eq, upd_n (hj i (by omega))]
    exact h.2.2 j (fun k hk => hj k (by omega))
set_option maxRecDepth 100000 in
set_option maxHeartbeats 4000000 in
theorem md_thing_loop (l : Launch) (d : Nat) (ru ta : Nat) (rs : List XO) (J : XJ) (Rp : XR) (x y z : Int32) (t : Nat) (ht : t < 8) (N : Nat) (hN : N ≤ 30) (I0 : XI) (e5 : I0 68 5 = nI N) (hR : ∀ (I1 : XI), tgI I0 I1 t N → Rp (some (.int (nI t))) (shH ru ta rs) (uI I1 68 0 (I1 68 0 + nI 1)) J) : ∀ (m i n : Nat) (I1 : XI), i + m = N → m < n → tgI I0 I1 t i → tgz l d ru ta rs J Rp n x y z t i I1 := by
  intro m
  induction m with
  | zero =>
    intro i n I1 hi hn h
    obtain ⟨n, rfl⟩ : ∃ n', n = n' + 1 := ⟨n - 1, by omega⟩
    have hi : i = N := by omega
    subst hi
    have e : I1 68 5 = nI i := (h.2.2 5 (fun k hk => by omega)).trans e5
    refine xrun_step fun K hK => ?_
    refine And.intro (show vp_in (nI 5) 2200 from vp_b (by decide)) ?_
    refine And.intro (fun _ => ?_) (fun z => absurd (show I1 68 5 ≤ nI i from by rw [e]; exact Int32.le_refl _) z)
    refine And.intro (show vp_in (nI 0) 2200 from vp_b (by decide)) ?_
    refine And.intro (show vp_in (nI 0) 2200 from vp_b (by decide)) ?_
    exact hR I1 h
  | succ m ih =>
    intro i n I1 hi hn h
    obtain ⟨n, rfl⟩ : ∃ n', n = n' + 1 := ⟨n - 1, by omega⟩
    have e : I1 68 5 = nI N := (h.2.2 5 (fun k hk => by omega)).trans e5
    have ix : (nI 130 + nI 69 * nI i + nI 0 + nI t).toNatClampNeg = 130 + 69 * i + t := by
      rw [nI_mul, nI_add, nI_add, nI_add, nI_clamp (by omega)]
      omega
    have vx : vp_in (nI 130 + nI 69 * nI i + nI 0 + nI t) 2200 := by
      rw [nI_mul, nI_add, nI_add, nI_add]
      exact vp_in_nI (by omega) (by omega)
    refine xrun_step fun K hK => ?_
    refine And.intro (show vp_in (nI 5) 2200 from vp_b (by decide)) ?_
    refine And.intro (fun z => absurd (show I1 68 5 ≤ nI i from z) (by rw [e]; exact nI_ge (by omega) (by omega))) (fun _ => ?_)
    refine And.intro vx ?_
    refine hK 93 [some (.ref 67), some (.int x), some (.int y), some (.int z), some (.int (nI t)), some (.int (nI i + 1))] [] (shH ru ta rs) (uI I1 68 (nI 130 + nI 69 * nI i + nI 0 + nI t).toNatClampNeg (nI 100)) J 0 0 ?_
    rw [ix, nI_1]
    exact ih (i + 1) n _ (by omega) (by omega) h.s
set_option maxRecDepth 100000 in
set_option maxHeartbeats 4000000 in
theorem md_thing (l : Launch) (d : Nat) (ru ta : Nat) (rs : List XO) (I : XI) (J : XJ) (Rp : XR) (L : Lws) (A : Ast) (hA : AOK A) (h : MA I L A) (x y z : Int32) (hR : ∀ (I' : XI) (J' : XJ), FMl I I' → MA I' L (thS A x y z).2 → Rp (some (.int (thS A x y z).1)) (shH ru ta rs) I' J') : xm l (d + 2) 0 0 mX12_thing [.ref 67, .int x, .int y, .int z] (shH ru ta rs) I J Rp := by
  have h0 := h
  obtain ⟨hre, hlay, hs⟩ := h
  have hA0 := hA
  obtain ⟨hq, hw, hn, hf⟩ := hA
  have t8 := hq.1
  have r4 := hq.2.1
  have b4 := hq.2.2.1
  have eT : I 68 0 = nI (qT (oQ A)) := hre.1.1.1
  have eR : I 68 1 = nI (qR (oQ A)) := hre.1.1.2.1
  have eB : I 68 2 = nI (qB (oQ A)) := hre.1.1.2.2.1
  have no : ∀ (I1 : XI) (J1 : XJ), FMl I I1 → MA I1 L A → thS A x y z = (-1, A) → Rp (some (.int (-1))) (shH ru ta rs) I1 J1 := fun I1 J1 f1 m1 e => by
    have z := hR I1 J1 f1 (by rw [e]; exact m1)
    rw [e] at z
    exact z
  refine xm_ofK 40 (X := xxX12) (t := tX12_thing) (stop := [93]) (ini := false) xx12 pl12 rfl kX12_thing (fun h => by cases h) (Nat.le_of_ble_eq_true rfl) (fun K hK => ?_)
  refine And.intro (show vp_in (nI 0) 2200 from vp_b (by decide)) ?_
  refine md_inR l d x 1 99 _ _ _ _ (fun hx => ?_) (fun hx => ?_)
  · refine And.intro (fun z => absurd (show (1 : Int32) = 0 from z) (by decide)) (fun _ => ?_)
    refine md_inR l d y 0 5 _ _ _ _ (fun hy => ?_) (fun hy => ?_)
    · refine And.intro (fun z => absurd (show (1 : Int32) = 0 from z) (by decide)) (fun _ => ?_)
      refine md_inR l d z 0 4 _ _ _ _ (fun hz => ?_) (fun hz => ?_)
      · refine And.intro (fun z => absurd (show (1 : Int32) = 0 from z) (by decide)) (fun _ => ?_)
        refine And.intro (fun (v : ¬ I 68 0 = nI 8) => ?_) (fun (v : I 68 0 = nI 8) => ?_)
        · rw [eT] at v
          have hv : qT (oQ A) < 8 := by
            have : ¬ qT (oQ A) = 8 := fun e => v (by rw [e])
            omega
          obtain ⟨i, i1, i2, ex, ex2⟩ := rIn_t (by omega) (by omega) hx
          obtain ⟨j, j1, j2, ey, ey2⟩ := rIn_t (by omega) (by omega) hy
          obtain ⟨k, k1, k2, ez, ez2⟩ := rIn_t (by omega) (by omega) hz
          have eS : thS A x y z = (nI (qT (oQ A)), (thQ (oQ A) i j k, upd (oW A) (qT (oQ A)) (nI 100), oN A, fun k => upd (oF A k) (qT (oQ A)) (nI 100))) := by
            unfold thS
            rw [hx, hy, hz, decide_eq_true hv, ex2, ey2, ez2]
            rfl
          have x10 : (nI 10 + I 68 0).toNatClampNeg = 10 + qT (oQ A) := by rw [eT]; exact ix_c (by omega)
          have x18 : (nI 18 + I 68 0).toNatClampNeg = 18 + qT (oQ A) := by rw [eT]; exact ix_c (by omega)
          have x26 : (nI 26 + I 68 0).toNatClampNeg = 26 + qT (oQ A) := by rw [eT]; exact ix_c (by omega)
          have x60 : (nI 60 + I 68 0).toNatClampNeg = 60 + qT (oQ A) := by rw [eT]; exact ix_c (by omega)
          refine And.intro (show vp_in (nI 10 + I 68 0) 2200 from by rw [eT]; exact vx_2 (by omega) (by omega)) ?_
          refine And.intro (show vp_in (nI 18 + I 68 0) 2200 from by rw [eT]; exact vx_2 (by omega) (by omega)) ?_
          refine And.intro (show vp_in (nI 26 + I 68 0) 2200 from by rw [eT]; exact vx_2 (by omega) (by omega)) ?_
          refine And.intro (show vp_in (nI 60 + I 68 0) 2200 from by rw [eT]; exact vx_2 (by omega) (by omega)) ?_
          refine hK 93 [some (.ref 67), some (.int x), some (.int y), some (.int z), some (.int (I 68 0)), some (.int (nI 0))] [] (shH ru ta rs) (uI (uI (uI (uI I 68 (nI 10 + I 68 0).toNatClampNeg x) 68 (nI 18 + I 68 0).toNatClampNeg y) 68 (nI 26 + I 68 0).toNatClampNeg z) 68 (nI 60 + I 68 0).toNatClampNeg (nI 100)) J 0 0 ?_
          rw [x10, x18, x26, x60, eT]
          have c0 : ∀ j, (uI (uI (uI (uI I 68 (10 + qT (oQ A)) x) 68 (18 + qT (oQ A)) y) 68 (26 + qT (oQ A)) z) 68 (60 + qT (oQ A)) (nI 100)) 68 j = if j = 60 + qT (oQ A) then nI 100 else if j = 26 + qT (oQ A) then z else if j = 18 + qT (oQ A) then y else if j = 10 + qT (oQ A) then x else I 68 j := fun j => by
            rw [uI_eq, uI_eq, uI_eq, uI_eq]
            unfold upd
            rfl
          have cq : ∀ q, q ≠ 68 → (uI (uI (uI (uI I 68 (10 + qT (oQ A)) x) 68 (18 + qT (oQ A)) y) 68 (26 + qT (oQ A)) z) 68 (60 + qT (oQ A)) (nI 100)) q = I q := fun q hq => by
            rw [uI_ne hq, uI_ne hq, uI_ne hq, uI_ne hq]
          generalize (uI (uI (uI (uI I 68 (10 + qT (oQ A)) x) 68 (18 + qT (oQ A)) y) 68 (26 + qT (oQ A)) z) 68 (60 + qT (oQ A)) (nI 100)) = I0 at c0 cq ⊢
          have c1 : ∀ j, j < 10 ∨ (34 ≤ j ∧ j < 60) ∨ 69 ≤ j → I0 68 j = I 68 j := fun j hj => by
            rw [c0 j, if_neg (by omega), if_neg (by omega), if_neg (by omega), if_neg (by omega)]
          rw [eS] at hR
          refine md_thing_loop l d ru ta rs J Rp x y z (qT (oQ A)) hv (oN A) hn I0 ((c1 5 (by omega)).trans hs.2.1) (fun I1 g => ?_) (oN A) 0 40 I0 (by omega) (by omega) ⟨fun _ _ => rfl, fun k hk => absurd hk (by omega), fun _ _ => rfl⟩
          have g1 : ∀ j, j < 130 → I1 68 j = I0 68 j := fun j hj => g.2.2 j (fun k hk => by omega)
          have f1 : ∀ j, j < 10 ∨ (34 ≤ j ∧ j < 60) → j ≠ 0 → (uI I1 68 0 (I1 68 0 + nI 1)) 68 j = I 68 j := fun j hj h0 => by
            rw [uI_eq, upd_n h0, g1 j (by omega), c1 j (by omega)]
          have fq : ∀ q, q ≠ 68 → (uI I1 68 0 (I1 68 0 + nI 1)) q = I q := fun q hq => by
            rw [uI_ne hq, g.1 q hq, cq q hq]
          have ft : ∀ j, j < 130 → j ≠ 0 → (uI I1 68 0 (I1 68 0 + nI 1)) 68 j = I0 68 j := fun j hj h0 => by
            rw [uI_eq, upd_n h0, g1 j hj]
          refine hR _ J ⟨fun q a _ _ => fq q a, fun j hj => f1 j (by omega) (by omega), fun r => ⟨fun j => ?_, fun j => by rw [fq 93 (by decide)]; exact r.2 j⟩⟩ ⟨⟨⟨⟨?_, (f1 1 (by omega) (by omega)).trans eR, (f1 2 (by omega) (by omega)).trans eB, fun t ht => ?_, fun r hr => ?_, fun b hb => ?_⟩, ?_⟩, hre.2.keep (f1 4 (by omega) (by omega)) (fq 71 (by decide)) (fq 72 (by decide)) (fq 73 (by decide)) (fq 77 (by decide)) (fq 78 (by decide))⟩, ?_, hn, ?_, fun k' j' hk hj => ?_⟩
          · rw [uI_eq]
            by_cases j0 : j = 0
            · subst j0
              rw [upd_s, g1 0 (by omega), c1 0 (by omega), eT, nI_add, show cellI CF 68 0 = (0, 8) from by decide +kernel]
              exact inI_n (by omega) (by omega)
            · rw [upd_n j0]
              by_cases c : j < 130
              · rw [g1 j c, c0]
                split
                · rename_i e
                  rw [e]
                  rcases cells_w.2 (qT (oQ A)) (by omega) with c | c
                  · omega
                  · rw [c]
                    exact inI_fr _
                · split
                  · rename_i e
                    rw [e, cells_t.2.2 _ hv]
                    exact inI_fr _
                  · split
                    · rename_i e
                      rw [e, cells_t.2.1 _ hv]
                      exact inI_fr _
                    · split
                      · rename_i e
                        rw [e, cells_t.1 _ hv]
                        exact inI_fr _
                      · exact r.1 j
              · by_cases c2 : ∃ k, k < oN A ∧ j = 130 + 69 * k + qT (oQ A)
                · obtain ⟨k, _, ek⟩ := c2
                  rw [ek, cell_col (by omega)]
                  rcases cells_w.2 (qT (oQ A)) (by omega) with c | c
                  · omega
                  · rw [c]
                    exact inI_fr _
                · rw [g.2.2 j (fun k hk e => c2 ⟨k, hk, e⟩), c1 j (by omega)]
                  exact r.1 j
          · rw [uI_eq, upd_s, g1 0 (by omega), c1 0 (by omega), eT, nI_add]
            rfl
          · have ht : t < qT (oQ A) + 1 := ht
            show (uI I1 68 0 (I1 68 0 + nI 1)) 68 (10 + t) = nI (ptF (qH (oQ A)) (qT (oQ A)) i t) ∧ (uI I1 68 0 (I1 68 0 + nI 1)) 68 (18 + t) = nI (ptF (qK (oQ A)) (qT (oQ A)) j t) ∧ (uI I1 68 0 (I1 68 0 + nI 1)) 68 (26 + t) = nI (ptF (qO (oQ A)) (qT (oQ A)) k t)
            rw [ft _ (by omega) (by omega), ft _ (by omega) (by omega), ft _ (by omega) (by omega), c0, c0, c0]
            unfold ptF
            by_cases e : t = qT (oQ A)
            · rw [if_pos e, if_pos e, if_pos e, if_neg (by omega), if_neg (by omega), if_neg (by omega), if_pos (by omega), if_neg (by omega), if_neg (by omega), if_pos (by omega), if_neg (by omega), if_pos (by omega)]
              exact ⟨ex, ey, ez⟩
            · rw [if_neg e, if_neg e, if_neg e, if_neg (by omega), if_neg (by omega), if_neg (by omega), if_neg (by omega), if_neg (by omega), if_neg (by omega), if_neg (by omega), if_neg (by omega), if_neg (by omega), if_neg (by omega), if_neg (by omega), if_neg (by omega)]
              exact hre.1.1.2.2.2.1 t (by omega)
          · have hr : r < qR (oQ A) := hr
            rw [f1 _ (by omega) (by omega)]
            exact hre.1.1.2.2.2.2.1 r hr
          · have hb : b < qB (oQ A) := hb
            rw [f1 _ (by omega) (by omega)]
            exact hre.1.1.2.2.2.2.2 b hb
          · have y := (hA0.th x y z).1
            rw [eS] at y
            exact y
          · funext q
            show wLay _ q = upd (oW A) (qT (oQ A)) (nI 100) q
            unfold wLay
            by_cases cj : q < 69
            · rw [if_pos cj, ft _ (by omega) (by omega), c0]
              by_cases e : q = qT (oQ A)
              · rw [if_pos (by omega), e, upd_s]
              · rw [if_neg (by omega), if_neg (by omega), if_neg (by omega), if_neg (by omega), upd_n e]
                exact h0.w cj
            · rw [if_neg cj, fq 93 (by decide), upd_n (by omega)]
              exact h0.w93 cj
          · exact (f1 5 (by omega) (by omega)).trans hs.2.1
          · have hk : k' < oN A := hk
            rw [uI_eq, upd_n (by omega)]
            show I1 68 (130 + 69 * k' + j') = upd (oF A k') (qT (oQ A)) (nI 100) j'
            by_cases e : j' = qT (oQ A)
            · subst e
              rw [upd_s]
              exact g.2.1 k' hk
            · rw [upd_n e, g.2.2 _ (fun q hq => by omega), c1 _ (by omega)]
              exact hs.2.2 k' j' hk hj
        · rw [eT] at v
          have hv : ¬ qT (oQ A) < 8 := by
            have := nI_inj v (by omega) (by omega)
            omega
          exact no I J FMl.rf h0 (by unfold thS; rw [decide_eq_false hv, Bool.and_false]; rfl)
      · refine And.intro (fun _ => ?_) (fun z => absurd rfl z)
        exact no I J FMl.rf h0 (by unfold thS; rw [hz]; simp)
    · refine And.intro (fun _ => ?_) (fun z => absurd rfl z)
      exact no I J FMl.rf h0 (by unfold thS; rw [hy]; simp)
  · refine And.intro (fun _ => ?_) (fun z => absurd rfl z)
    exact no I J FMl.rf h0 (by unfold thS; rw [hx]; simp)
set_option maxRecDepth 100000 in
set_option maxHeartbeats 4000000 in
theorem md_reaper (l : Launch) (d : Nat) (ru ta : Nat) (rs : List XO) (I : XI) (J : XJ) (Rp : XR) (L : Lws) (A : Ast) (hA : AOK A) (h : MA I L A) (x : Int32) (hR : ∀ (I' : XI) (J' : XJ), FMl I I' → MA I' L (reS A x).2 → Rp (some (.int (reS A x).1)) (shH ru ta rs) I' J') : xm l (d + 2) 0 0 mX12_reaper [.ref 67, .int x] (shH ru ta rs) I J Rp := by
  have h0 := h
  obtain ⟨hre, hlay, hs⟩ := h
  have hA0 := hA
  obtain ⟨hq, hw, hn, hf⟩ := hA
  have t8 := hq.1
  have r4 := hq.2.1
  have b4 := hq.2.2.1
  have eT : I 68 0 = nI (qT (oQ A)) := hre.1.1.1
  have eR : I 68 1 = nI (qR (oQ A)) := hre.1.1.2.1
  have eB : I 68 2 = nI (qB (oQ A)) := hre.1.1.2.2.1
  have no : ∀ (I1 : XI) (J1 : XJ), FMl I I1 → MA I1 L A → reS A x = (-1, A) → Rp (some (.int (-1))) (shH ru ta rs) I1 J1 := fun I1 J1 f1 m1 e => by
    have z := hR I1 J1 f1 (by rw [e]; exact m1)
    rw [e] at z
    exact z
  refine xm_ofK 0 (X := xxX12) (t := tX12_reaper) (stop := []) (ini := false) xx12 pl12 rfl kX12_reaper (fun h => by cases h) (Nat.le_of_ble_eq_true rfl) (fun K hK => ?_)
  refine And.intro (show vp_in (nI 1) 2200 from vp_b (by decide)) ?_
  refine md_inR l d x 1 99 _ _ _ _ (fun hx => ?_) (fun hx => ?_)
  · refine And.intro (fun z => absurd (show (1 : Int32) = 0 from z) (by decide)) (fun _ => ?_)
    refine And.intro (fun (v : ¬ I 68 1 = nI 4) => ?_) (fun (v : I 68 1 = nI 4) => ?_)
    · rw [eR] at v
      have hv : qR (oQ A) < 4 := by
        have : ¬ qR (oQ A) = 4 := fun e => v (by rw [e])
        omega
      obtain ⟨i, i1, i2, ex, ex2⟩ := rIn_t (by omega) (by omega) hx
      have eS : reS A x = (nI (qR (oQ A)), (reQ (oQ A) i, oW A, oN A, oF A)) := by
        unfold reS
        rw [hx, decide_eq_true hv, ex2]
        rfl
      have xi : (nI 34 + I 68 1).toNatClampNeg = 34 + qR (oQ A) := by rw [eR]; exact ix_c (by omega)
      refine And.intro (show vp_in (nI 34 + I 68 1) 2200 from by rw [eR]; exact vx_2 (by omega) (by omega)) ?_
      refine And.intro (show vp_in (nI 1) 2200 from vp_b (by decide)) ?_
      refine And.intro (show vp_in (nI 1) 2200 from vp_b (by decide)) ?_
      have c3 : (uI I 68 (nI 34 + I 68 1).toNatClampNeg x) 68 1 = I 68 1 := by
        rw [xi, uI_eq, upd_n (by omega)]
      have fin : Rp (some (.int (I 68 1))) (shH ru ta rs) (uI (uI I 68 (nI 34 + I 68 1).toNatClampNeg x) 68 1 ((uI I 68 (nI 34 + I 68 1).toNatClampNeg x) 68 1 + nI 1)) J := by
        rw [c3, xi]
        rw [eS] at hR
        have f1 : ∀ j, j ≠ 1 → j ≠ 34 + qR (oQ A) → (uI (uI I 68 (34 + qR (oQ A)) x) 68 1 (I 68 1 + nI 1)) 68 j = I 68 j := fun j a b => by
          rw [uI_eq, upd_n a, uI_eq, upd_n b]
        have fq : ∀ q, q ≠ 68 → (uI (uI I 68 (34 + qR (oQ A)) x) 68 1 (I 68 1 + nI 1)) q = I q := fun q hq => by
          rw [uI_ne hq, uI_ne hq]
        rw [show (I 68 1) = nI (qR (oQ A)) from eR] at f1 fq ⊢
        refine hR _ J ⟨fun q a _ _ => fq q a, fun j hj => f1 j (by omega) (by omega), fun r => ⟨fun j => ?_, fun j => by rw [fq 93 (by decide)]; exact r.2 j⟩⟩ ⟨⟨⟨⟨(f1 0 (by omega) (by omega)).trans eT, ?_, (f1 2 (by omega) (by omega)).trans eB, fun t ht => ?_, fun r hr => ?_, fun b hb => ?_⟩, ?_⟩, hre.2.keep (f1 4 (by omega) (by omega)) (fq 71 (by decide)) (fq 72 (by decide)) (fq 73 (by decide)) (fq 77 (by decide)) (fq 78 (by decide))⟩, ?_, hn, (f1 5 (by omega) (by omega)).trans hs.2.1, fun k' j' hk hj => ?_⟩
        · by_cases j0 : j = 1
          · subst j0
            rw [uI_eq, upd_s, nI_add, cells_r.2.2.1]
            exact inI_n (by omega) (by omega)
          · by_cases j1 : j = 34 + qR (oQ A)
            · rw [uI_eq, upd_n j0, uI_eq, j1, upd_s, cells_r.1 _ hv]
              rw [ex]
              exact inI_n (by omega) (by omega)
            · rw [f1 j j0 j1]
              exact r.1 j
        · rw [uI_eq, upd_s, nI_add]
          rfl
        · have ht : t < qT (oQ A) := ht
          rw [f1 _ (by omega) (by omega), f1 _ (by omega) (by omega), f1 _ (by omega) (by omega)]
          exact hre.1.1.2.2.2.1 t ht
        · have hv' : r < qR (oQ A) + 1 := hr
          show (uI (uI I 68 (34 + qR (oQ A)) x) 68 1 (nI (qR (oQ A)) + nI 1)) 68 (34 + r) = nI (ptF (qC (oQ A)) (qR (oQ A)) i r)
          rw [uI_eq, upd_n (by omega), uI_eq]
          unfold ptF
          by_cases e : r = qR (oQ A)
          · rw [if_pos e, e, upd_s]
            exact ex
          · rw [if_neg e, upd_n (by omega)]
            exact hre.1.1.2.2.2.2.1 r (by omega)
        · have hb : b < qB (oQ A) := hb
          rw [f1 _ (by omega) (by omega)]
          exact hre.1.1.2.2.2.2.2 b hb
        · have y := (hA0.re x).1
          rw [eS] at y
          exact y
        · funext q
          show wLay _ q = oW A q
          unfold wLay
          by_cases cj : q < 69
          · rw [if_pos cj, f1 _ (by omega) (by omega)]
            exact h0.w cj
          · rw [if_neg cj, fq 93 (by decide)]
            exact h0.w93 cj
        · have hk : k' < oN A := hk
          rw [f1 _ (by omega) (by omega)]
          exact hs.2.2 k' j' hk hj
      exact fin
    · rw [eR] at v
      have hv : ¬ qR (oQ A) < 4 := by
        have := nI_inj v (by omega) (by omega)
        omega
      exact no I J FMl.rf h0 (by unfold reS; rw [decide_eq_false hv, Bool.and_false]; rfl)
  · refine And.intro (fun _ => ?_) (fun z => absurd rfl z)
    exact no I J FMl.rf h0 (by unfold reS; rw [hx]; simp)
set_option maxRecDepth 100000 in
set_option maxHeartbeats 4000000 in
theorem md_barn (l : Launch) (d : Nat) (ru ta : Nat) (rs : List XO) (I : XI) (J : XJ) (Rp : XR) (L : Lws) (A : Ast) (hA : AOK A) (h : MA I L A) (x : Int32) (hR : ∀ (I' : XI) (J' : XJ), FMl I I' → MA I' L (baS A x).2 → Rp (some (.int (baS A x).1)) (shH ru ta rs) I' J') : xm l (d + 2) 0 0 mX12_barn [.ref 67, .int x] (shH ru ta rs) I J Rp := by
  have h0 := h
  obtain ⟨hre, hlay, hs⟩ := h
  have hA0 := hA
  obtain ⟨hq, hw, hn, hf⟩ := hA
  have t8 := hq.1
  have r4 := hq.2.1
  have b4 := hq.2.2.1
  have eT : I 68 0 = nI (qT (oQ A)) := hre.1.1.1
  have eR : I 68 1 = nI (qR (oQ A)) := hre.1.1.2.1
  have eB : I 68 2 = nI (qB (oQ A)) := hre.1.1.2.2.1
  have no : ∀ (I1 : XI) (J1 : XJ), FMl I I1 → MA I1 L A → baS A x = (-1, A) → Rp (some (.int (-1))) (shH ru ta rs) I1 J1 := fun I1 J1 f1 m1 e => by
    have z := hR I1 J1 f1 (by rw [e]; exact m1)
    rw [e] at z
    exact z
  refine xm_ofK 0 (X := xxX12) (t := tX12_barn) (stop := []) (ini := false) xx12 pl12 rfl kX12_barn (fun h => by cases h) (Nat.le_of_ble_eq_true rfl) (fun K hK => ?_)
  refine And.intro (show vp_in (nI 2) 2200 from vp_b (by decide)) ?_
  refine md_inR l d x 1 999 _ _ _ _ (fun hx => ?_) (fun hx => ?_)
  · refine And.intro (fun z => absurd (show (1 : Int32) = 0 from z) (by decide)) (fun _ => ?_)
    refine And.intro (fun (v : ¬ I 68 2 = nI 4) => ?_) (fun (v : I 68 2 = nI 4) => ?_)
    · rw [eB] at v
      have hv : qB (oQ A) < 4 := by
        have : ¬ qB (oQ A) = 4 := fun e => v (by rw [e])
        omega
      obtain ⟨i, i1, i2, ex, ex2⟩ := rIn_t (by omega) (by omega) hx
      have eS : baS A x = (nI (qB (oQ A)), (baQ (oQ A) i, oW A, oN A, oF A)) := by
        unfold baS
        rw [hx, decide_eq_true hv, ex2]
        rfl
      have xi : (nI 38 + I 68 2).toNatClampNeg = 38 + qB (oQ A) := by rw [eB]; exact ix_c (by omega)
      refine And.intro (show vp_in (nI 38 + I 68 2) 2200 from by rw [eB]; exact vx_2 (by omega) (by omega)) ?_
      refine And.intro (show vp_in (nI 2) 2200 from vp_b (by decide)) ?_
      refine And.intro (show vp_in (nI 2) 2200 from vp_b (by decide)) ?_
      have c3 : (uI I 68 (nI 38 + I 68 2).toNatClampNeg x) 68 2 = I 68 2 := by
        rw [xi, uI_eq, upd_n (by omega)]
      have fin : Rp (some (.int (I 68 2))) (shH ru ta rs) (uI (uI I 68 (nI 38 + I 68 2).toNatClampNeg x) 68 2 ((uI I 68 (nI 38 + I 68 2).toNatClampNeg x) 68 2 + nI 1)) J := by
        rw [c3, xi]
        rw [eS] at hR
        have f1 : ∀ j, j ≠ 2 → j ≠ 38 + qB (oQ A) → (uI (uI I 68 (38 + qB (oQ A)) x) 68 2 (I 68 2 + nI 1)) 68 j = I 68 j := fun j a b => by
          rw [uI_eq, upd_n a, uI_eq, upd_n b]
        have fq : ∀ q, q ≠ 68 → (uI (uI I 68 (38 + qB (oQ A)) x) 68 2 (I 68 2 + nI 1)) q = I q := fun q hq => by
          rw [uI_ne hq, uI_ne hq]
        rw [show (I 68 2) = nI (qB (oQ A)) from eB] at f1 fq ⊢
        refine hR _ J ⟨fun q a _ _ => fq q a, fun j hj => f1 j (by omega) (by omega), fun r => ⟨fun j => ?_, fun j => by rw [fq 93 (by decide)]; exact r.2 j⟩⟩ ⟨⟨⟨⟨(f1 0 (by omega) (by omega)).trans eT, (f1 1 (by omega) (by omega)).trans eR, ?_, fun t ht => ?_, fun r hr => ?_, fun b hb => ?_⟩, ?_⟩, hre.2.keep (f1 4 (by omega) (by omega)) (fq 71 (by decide)) (fq 72 (by decide)) (fq 73 (by decide)) (fq 77 (by decide)) (fq 78 (by decide))⟩, ?_, hn, (f1 5 (by omega) (by omega)).trans hs.2.1, fun k' j' hk hj => ?_⟩
        · by_cases j0 : j = 2
          · subst j0
            rw [uI_eq, upd_s, nI_add, cells_r.2.2.2]
            exact inI_n (by omega) (by omega)
          · by_cases j1 : j = 38 + qB (oQ A)
            · rw [uI_eq, upd_n j0, uI_eq, j1, upd_s, cells_r.2.1 _ hv]
              exact inI_fr _
            · rw [f1 j j0 j1]
              exact r.1 j
        · rw [uI_eq, upd_s, nI_add]
          rfl
        · have ht : t < qT (oQ A) := ht
          rw [f1 _ (by omega) (by omega), f1 _ (by omega) (by omega), f1 _ (by omega) (by omega)]
          exact hre.1.1.2.2.2.1 t ht
        · have hr : r < qR (oQ A) := hr
          rw [f1 _ (by omega) (by omega)]
          exact hre.1.1.2.2.2.2.1 r hr
        · have hv' : b < qB (oQ A) + 1 := hb
          show (uI (uI I 68 (38 + qB (oQ A)) x) 68 2 (nI (qB (oQ A)) + nI 1)) 68 (38 + b) = nI (ptF (qM (oQ A)) (qB (oQ A)) i b)
          rw [uI_eq, upd_n (by omega), uI_eq]
          unfold ptF
          by_cases e : b = qB (oQ A)
          · rw [if_pos e, e, upd_s]
            exact ex
          · rw [if_neg e, upd_n (by omega)]
            exact hre.1.1.2.2.2.2.2 b (by omega)
        · have y := (hA0.ba x).1
          rw [eS] at y
          exact y
        · funext q
          show wLay _ q = oW A q
          unfold wLay
          by_cases cj : q < 69
          · rw [if_pos cj, f1 _ (by omega) (by omega)]
            exact h0.w cj
          · rw [if_neg cj, fq 93 (by decide)]
            exact h0.w93 cj
        · have hk : k' < oN A := hk
          rw [f1 _ (by omega) (by omega)]
          exact hs.2.2 k' j' hk hj
      exact fin
    · rw [eB] at v
      have hv : ¬ qB (oQ A) < 4 := by
        have := nI_inj v (by omega) (by omega)
        omega
      exact no I J FMl.rf h0 (by unfold baS; rw [decide_eq_false hv, Bool.and_false]; rfl)
  · refine And.intro (fun _ => ?_) (fun z => absurd rfl z)
    exact no I J FMl.rf h0 (by unfold baS; rw [hx]; simp)
