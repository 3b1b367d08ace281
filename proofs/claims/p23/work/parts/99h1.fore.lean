-- ===== queries that look ahead: what they leave; hours to come (foretold, stored) =====
def FQ (I I' : XI) : Prop := F93 I I' ∧ (RG I → RG I')
theorem FQ.rf {I : XI} : FQ I I := ⟨F93.rf, fun h => h⟩
theorem FQ.w {I I1 : XI} (h : F93 I I1) (w : WR (I1 93)) : FQ I I1 := ⟨h, fun r => ⟨fun j => by rw [h 68 (by decide) (by decide)]; exact r.1 j, w.r93⟩⟩
theorem FQ.n {I I1 I2 : XI} (h : FQ I I1) (g : ∀ q, q ≠ 91 → I2 q = I1 q) : FQ I I2 := ⟨h.1.tr (F93.n g), fun r => ⟨fun j => by rw [g 68 (by decide)]; exact (h.2 r).1 j, fun j => by rw [g 93 (by decide)]; exact (h.2 r).2 j⟩⟩
theorem lin2.srch {I I1 I2 : XI} {TX : Nat → Txt} {H Hi : Hlf} {ta : Nat} {rs : List XO} (hta : ta ∈ txP) (hi : ivO CF [] I) (hq : QQ I) (hg : GRx I TX H Hi) (tp : TPr I) (fl : FLr I) (f1 : F24 29 I I1) (f2 : FQ I1 I2) : lin2 (shH (ruO (hvR H)) ta rs) I2 := by
  have k : ∀ q, q ≠ 24 → q ≠ 29 → q ≠ 91 → q ≠ 93 → I2 q = I q := fun q a b c d => (f2.1 q c d).trans (f1 q a b)
  have c24 : ∀ j, cellI CF 24 j = fr := fun j => cell_frC (by decide +kernel) (by decide +kernel)
  have c29 : ∀ j, cellI CF 29 j = fr := fun j => cell_frC (by decide +kernel) (by decide +kernel)
  have c91 : ∀ j, cellI CF 91 j = fr := fun j => cell_frC (by decide +kernel) (by decide +kernel)
  have rg : RG I1 := ⟨fun j => by rw [f1 68 (by decide) (by decide)]; exact hi 68 j rfl, fun j => by rw [f1 93 (by decide) (by decide)]; exact hi 93 j rfl⟩
  refine lin2.ask hta hg tp fl (P1 := [24, 29]) (P2 := [91, 93]) (I1 := I1) (I2 := I2) (fun q hq => f1 q (fun e => by subst e; exact absurd hq (by decide)) (fun e => by subst e; exact absurd hq (by decide))) (fun q hq => f2.1 q (fun e => by subst e; exact absurd hq (by decide)) (fun e => by subst e; exact absurd hq (by decide))) (by decide) (by decide) (fun p j hp => ?_) (qq_keep hq (k 71 (by decide) (by decide) (by decide) (by decide)) (k 72 (by decide) (by decide) (by decide) (by decide)) (k 73 (by decide) (by decide) (by decide) (by decide)) (k 77 (by decide) (by decide) (by decide) (by decide)) (k 78 (by decide) (by decide) (by decide) (by decide)))
  by_cases e93 : p = 93
  · subst e93
    exact (f2.2 rg).2 j
  by_cases e24 : p = 24
  · subst e24
    rw [c24 j]
    exact inI_fr _
  by_cases e29 : p = 29
  · subst e29
    rw [c29 j]
    exact inI_fr _
  by_cases e91 : p = 91
  · subst e91
    rw [c91 j]
    exact inI_fr _
  rw [k p e24 e29 e91 e93]
  exact hi p j rfl
theorem MA.fg {I I1 : XI} {L : Lws} {A : Ast} (h : MA I L A) (f : F24 29 I I1) : MA I1 L A := by
  have g : ∀ q, 29 < q → I1 q = I q := fun q hq => f q (by omega) (by omega)
  have e := g 68 (by decide)
  refine ⟨⟨⟨h.1.1.1.keep e, h.1.1.2⟩, h.1.2.keep (congrFun e 4) (g 71 (by decide)) (g 72 (by decide)) (g 73 (by decide)) (g 77 (by decide)) (g 78 (by decide))⟩, ?_, h.2.2.c (congrFun e 5) (fun j _ _ => congrFun e j)⟩
  rw [← h.2.1]
  exact wLay_cg (fun j _ _ => congrFun e j) (g 93 (by decide))
theorem cd_in (l : Launch) (d : Nat) (v : Int32) (lo hi : Nat) (sh : List XO) (I : XI) (J : XJ) (Rp : XR) (h1 : rIn v lo hi = true → Rp (some (.int 1)) sh I J) (h0 : rIn v lo hi = false → Rp (some (.int 0)) sh I J) : xm l (d + 1) 0 0 mX11_within [.int v, .int (nI lo), .int (nI hi)] sh I J Rp := by
  cases e : rIn v lo hi with
  | true =>
    have := rIn_p.mp e
    exact c_within_t l d v (nI lo) (nI hi) _ _ _ _ this.1 this.2 (h1 e)
  | false =>
    exact c_within_f l d v (nI lo) (nI hi) _ _ _ _ (fun q => by
      have := rIn_p.mpr q
      rw [e] at this
      cases this) (h0 e)
set_option maxRecDepth 100000 in
theorem cwg_take (l : Launch) (d : Nat) (ru ta : Nat) (rs : List XO) (I : XI) (J : XJ) (Rp : XR) (hR : ∀ I' : XI, (∀ q, q ≠ 29 → I' q = I q) → (∀ j, j < 69 → I' 29 j = I 27 j) → Rp none (shH ru ta rs) I' J) : xm l (d + 1) 0 0 mX10_takeFrom [.ref 28, .ref 27] (shH ru ta rs) I J Rp := by
  refine xm_ofK 0 (X := xxX10) (t := tX10_takeFrom) (stop := []) (ini := false) xx10 pl10 rfl kX10_takeFrom (fun h => by cases h) (Nat.le_of_ble_eq_true rfl) (fun K hK => ?_)
  refine And.intro (fun z => absurd (show nI 69 = nI 69 from rfl) z) (fun _ => ?_)
  have z0 : (nI 0).toNatClampNeg = 0 := by decide
  have z69 : (nI 69).toNatClampNeg = 69 := by decide
  have q : ¬ nI 0 < 0 ∧ ¬ nI 0 < 0 ∧ ¬ nI 69 < 0 ∧ (nI 0).toNatClampNeg + (nI 69).toNatClampNeg ≤ 69 ∧ (nI 0).toNatClampNeg + (nI 69).toNatClampNeg ≤ 69 := ⟨by decide, by decide, by decide, by decide, by decide⟩
  refine And.intro q ?_
  show Rp none (shH ru ta rs) (cI I 27 29 (nI 0).toNatClampNeg (nI 0).toNatClampNeg (nI 69).toNatClampNeg) J
  rw [z0, z69]
  exact hR _ (fun q hq => cI_ne hq) (fun j hj => by rw [cI_eq]; exact cp_lo hj)
abbrev fsz (l : Launch) (d : Nat) (ru ta : Nat) (rs : List XO) (J : XJ) (Rp : XR) (n k i : Nat) (I : XI) : Prop := xrun xxX11 none false false (shH ru ta rs).length 0 0 none l (d + 5) tX11_foresee [16] Rp n 16 [some (.ref 0), some (.int (nI k)), some (.int (nI i))] [] (shH ru ta rs) I J 0 0
set_option maxRecDepth 100000 in
set_option maxHeartbeats 2000000 in
theorem cd_fs_loop (l : Launch) (d : Nat) (ru ta : Nat) (rs : List XO) (I : XI) (Rp : XR) (Q : Tld) (L : Lws) (h : CE I ru Q L) (k : Nat) (hk : k ≤ 1000) (W : Rw) (hR : ∀ (I' : XI) (J' : XJ), F24 29 I I' → RC (qT Q) W (I' 29) → Rp none (shH ru ta rs) I' J') : ∀ (m i n : Nat) (J : XJ) (I1 : XI) (w : Rw), i + m = k → m < n → F24 29 I I1 → RC (qT Q) w (I1 29) → WR w → ptR Q L m w = W → fsz l d ru ta rs J Rp n k i I1 := by
  intro m
  induction m with
  | zero =>
    intro i n J I1 w hi hn f hr hw eW
    obtain ⟨n, rfl⟩ : ∃ n', n = n' + 1 := ⟨n - 1, by omega⟩
    have hi : i = k := by omega
    subst hi
    have e : w = W := eW
    subst e
    refine xrun_step fun K hK => ?_
    refine And.intro (fun _ => ?_) (fun z => absurd (Int32.le_refl _) z)
    exact hR I1 J f hr
  | succ m ih =>
    intro i n J I1 w hi hn f hr hw eW
    obtain ⟨n, rfl⟩ : ∃ n', n = n' + 1 := ⟨n - 1, by omega⟩
    have eW2 : (if cnP w = true then ptR Q L m (hrR Q L w) else w) = W := eW
    refine xrun_step fun K hK => ?_
    refine And.intro (fun z => absurd (show nI k ≤ nI i from z) (nI_ge (by omega) (by omega))) (fun _ => ?_)
    refine cwg_passHour l d ru ta rs I1 J _ Q L (h.k29 f) w hr hw (fun hc I2 J2 f2 r2 => ?_) (fun hc => ?_)
    · rw [if_pos hc] at eW2
      refine And.intro (fun _ => ?_) (fun z => absurd (show (1 : Int32) = 0 from z) (by decide))
      refine hK 16 [some (.ref 0), some (.int (nI k)), some (.int (nI i + 1))] [] (shH ru ta rs) I2 J2 0 0 ?_
      rw [nI_1]
      exact ih (i + 1) n J2 I2 _ (by omega) (by omega) (f.tr f2) r2 (hw.hr h.2.1.1 hc) eW2
    · rw [if_neg (by rw [hc]; decide)] at eW2
      refine And.intro (fun z => absurd rfl z) (fun _ => ?_)
      exact hR I1 J f (by rw [← eW2]; exact hr)
set_option maxRecDepth 100000 in
set_option maxHeartbeats 2000000 in
theorem cd_fs (l : Launch) (d : Nat) (ru ta : Nat) (rs : List XO) (I : XI) (J : XJ) (Rp : XR) (L : Lws) (A : Ast) (hA : AOK A) (h : CA I ru L A) (k : Nat) (hk : k ≤ 1000) (hR : ∀ (I' : XI) (J' : XJ), F24 29 I I' → RC (qT (oQ A)) (ptR (oQ A) L k (oW A)) (I' 29) → Rp none (shH ru ta rs) I' J') : xm l (d + 6) 0 0 mX11_foresee [.ref 0, .int (nI k)] (shH ru ta rs) I J Rp := by
  obtain ⟨hc, hr, hs⟩ := h
  refine xm_ofK (k + 1) (X := xxX11) (t := tX11_foresee) (stop := [16]) (ini := false) xx11 pl11 rfl kX11_foresee (fun h => by cases h) (Nat.le_of_ble_eq_true rfl) (fun K hK => ?_)
  refine cwg_take l (d + 4) ru ta rs I J _ (fun I1 f1 e1 => ?_)
  have f : F24 29 I I1 := fun q _ b => f1 q b
  exact hK 16 [some (.ref 0), some (.int (nI k)), some (.int (nI 0))] [] _ _ _ _ _ (cd_fs_loop l d ru ta rs I Rp (oQ A) L hc k hk _ hR k 0 (k + 1) J I1 (oW A) (by omega) (by omega) f (hr.cg (fun _ _ => rfl) e1) hA.2.1 rfl)
/-- a thing's growth after hours; feet in a barn then -/
def ftS (L : Lws) (A : Ast) (x y : Int32) : Int32 := if (rIn x 1 60 && vIn y (qT (oQ A))) = true then ptR (oQ A) L x.toNatClampNeg (oW A) y.toNatClampNeg else -1
set_option maxRecDepth 100000 in
set_option maxHeartbeats 2000000 in
theorem cd_foretold (l : Launch) (d : Nat) (ru ta : Nat) (rs : List XO) (I : XI) (J : XJ) (Rp : XR) (L : Lws) (A : Ast) (hA : AOK A) (h : CA I ru L A) (x y : Int32) (hR : ∀ (I' : XI) (J' : XJ), F24 29 I I' → Rp (some (.int (ftS L A x y))) (shH ru ta rs) I' J') : xm l (d + 7) 0 0 mX11_foretold [.ref 0, .int x, .int y] (shH ru ta rs) I J Rp := by
  have t8 := hA.1.1
  have none_ : (rIn x 1 60 && vIn y (qT (oQ A))) = false → Rp (some (.int (-1))) (shH ru ta rs) I J := fun e => by
    have z := hR I J F24.rf
    unfold ftS at z
    rw [e] at z
    exact z
  refine xm_ofK 0 (X := xxX11) (t := tX11_foretold) (stop := []) (ini := false) xx11 pl11 rfl kX11_foretold (fun h => by cases h) (Nat.le_of_ble_eq_true rfl) (fun K hK => ?_)
  refine cd_in l (d + 5) x 1 60 _ _ _ _ (fun hx => ?_) (fun hx => ?_)
  · refine And.intro (fun z => absurd (show (1 : Int32) = 0 from z) (by decide)) (fun _ => ?_)
    obtain ⟨k, k1, k60, ex, ex2⟩ := rIn_t (by omega) (by omega) hx
    refine cc_hasThing l (d + 5) ru ta rs I J _ (oQ A) L h.1 y (fun t ht ey => ?_) (fun hn => ?_)
    · refine And.intro (fun _ => ?_) (fun z => absurd (show (1 : Int32) = 0 from z) (by decide))
      subst ex
      refine cd_fs l d ru ta rs I J _ L A hA h k (by omega) (fun I1 J1 f1 r1 => ?_)
      have eS : ftS L A (nI k) y = ptR (oQ A) L k (oW A) t := by
        unfold ftS
        rw [hx, ey, vIn_n (by omega) ht, nI_clamp (by omega), nI_clamp (by omega)]
        rfl
      have z := hR I1 J1 f1
      have e : I1 29 (0 + t) = ptR (oQ A) L k (oW A) t := by rw [Nat.zero_add]; exact r1.t ht (by omega)
      have ib : (nI 0 + nI t).toNatClampNeg = 0 + t := ix_c (by omega)
      rw [eS, ← e, ← ib] at z
      subst ey
      refine And.intro (show vp_in (nI 0 + nI t) 69 from vx_2 (by omega) (by omega)) ?_
      exact z
    · refine And.intro (fun z => absurd rfl z) (fun _ => ?_)
      refine none_ ?_
      cases e : vIn y (qT (oQ A)) with
      | false => exact Bool.and_false _
      | true =>
        obtain ⟨b, hb, ey, _⟩ := vIn_t (by omega) e
        exact absurd ey (hn b hb)
  · refine And.intro (fun _ => ?_) (fun z => absurd rfl z)
    exact none_ (by rw [hx]; rfl)
set_option maxRecDepth 100000 in
set_option maxHeartbeats 2000000 in
theorem md_foretold (l : Launch) (d : Nat) (ru ta : Nat) (rs : List XO) (I : XI) (J : XJ) (Rp : XR) (L : Lws) (A : Ast) (hA : AOK A) (h : MA I L A) (x y : Int32) (hR : ∀ (I' : XI) (J' : XJ), FQ I I' → Rp (some (.int (ftS L A x y))) (shH ru ta rs) I' J') : xm l (d + 14) 0 0 mX12_foretold [.ref 67, .int x, .int y] (shH ru ta rs) I J Rp := by
  have h0 := h
  obtain ⟨hre, hlay, hs⟩ := h
  have t8 := hA.1.1
  have eT : I 68 0 = nI (qT (oQ A)) := hre.1.1.1
  have none_ : (rIn x 1 60 && vIn y (qT (oQ A))) = false → Rp (some (.int (-1))) (shH ru ta rs) I J := fun e => by
    have z := hR I J FQ.rf
    unfold ftS at z
    rw [e] at z
    exact z
  refine xm_ofK 0 (X := xxX12) (t := tX12_foretold) (stop := []) (ini := false) xx12 pl12 rfl kX12_foretold (fun h => by cases h) (Nat.le_of_ble_eq_true rfl) (fun K hK => ?_)
  refine md_inR l (d + 12) x 1 60 _ _ _ _ (fun hx => ?_) (fun hx => ?_)
  · refine And.intro (fun z => absurd (show (1 : Int32) = 0 from z) (by decide)) (fun _ => ?_)
    obtain ⟨k, k1, k60, ex, ex2⟩ := rIn_t (by omega) (by omega) hx
    refine md_isT l (d + 11) ru ta rs I J _ _ eT (by omega) y (fun hy => ?_) (fun hy => ?_)
    · refine And.intro (fun _ => ?_) (fun z => absurd (show (1 : Int32) = 0 from z) (by decide))
      obtain ⟨t, ht, ey, ey2⟩ := vIn_t (by omega) hy
      subst ex
      refine rx_lays l (d + 12) ru ta rs I J _ (fun I1 f1 e1 => ?_)
      rw [hlay] at e1
      have re1 : RE I1 (oQ A) L := hre.keep f1
      refine rx_pt l d ru ta rs I1 J _ (oQ A) L re1 (by rw [e1]; exact hA.2.1) k (by omega) (fun I2 J2 f2 e2 => ?_)
      rw [e1] at e2
      have eS : ftS L A (nI k) y = ptR (oQ A) L k (oW A) t := by
        unfold ftS
        rw [hx, hy, nI_clamp (by omega), ey2]
        rfl
      have z := hR I2 J2 (FQ.w (f1.tr f2) (by rw [e2]; exact hA.2.1.pt t8 k _))
      have e : I2 93 (0 + t) = ptR (oQ A) L k (oW A) t := by rw [Nat.zero_add, e2]
      have ib : (nI 0 + nI t).toNatClampNeg = 0 + t := ix_c (by omega)
      rw [eS, ← e, ← ib] at z
      subst ey
      refine And.intro (show vp_in (nI 0 + nI t) 69 from vx_2 (by omega) (by omega)) ?_
      exact z
    · refine And.intro (fun z => absurd rfl z) (fun _ => ?_)
      exact none_ (by rw [hy]; exact Bool.and_false _)
  · refine And.intro (fun _ => ?_) (fun z => absurd rfl z)
    exact none_ (by rw [hx]; rfl)
