-- ===== the reference reads a text: what begins, what ends =====
section BEG
variable {I0 : XI} {T : Nat}
theorem st_place {I : XI} {G : TG} {x b : Nat} (h : ST I0 I G T x b) : ∃ at_ : Nat, I 67 14 = nI T ∧ I 67 15 = nI at_ ∧ at_ ≤ T := by
  obtain ⟨tf, hw, at_, n, w, o, c, op, e1, e2, e3, e4, e5, e6, e7, c1, c2, c3, c4⟩ := h
  exact ⟨at_, e1, e2, c3.1⟩
theorem nrt_of {I I' : XI} {a : Nat} (tf : TF I0 I) (hT : T ≤ 300) (e : I 67 15 = nI a) (ha : a ≤ T) (q : NXe I I' T a) : NRT I0 T I I' := by
  intro b hb eb
  have y : b = a := nI_small (eb.symm.trans e) hb (by omega)
  rw [y, ← tf.1 70 (by decide)]
  exact q.2
end BEG
set_option maxRecDepth 100000 in
set_option maxHeartbeats 1000000 in
theorem us_part (l : Launch) (T : Nat) (hT : T ≤ 300) (ru ta : Nat) (rs : List XO) (I0 : XI) (hs : shO CF (shH ru ta rs)) (hi : ivO CF [] I0) (hq : QQ I0) (d : Nat) (G : TG) (h1 : Sh1 G) (hop : opN G ≤ 8) (I : XI) (J : XJ) (Rp : XR) (h : ST I0 I G T 0 310) (hst : I 67 28 = 1) (k : Nat) (ws : List Nat) (j : Nat) (hx : XTm I0 I T k ws j) (hw22 : isWd (tkB I0 T j) 22 = true) (X : Wdr) (of : OSf I G X.1) (oe : OSe I X.2.1) (oa : OSa I X.2.2 ws) (hR : ∀ (I' : XI) (J' : XJ), NXTe I0 I I' T (1, KS G, k, ws, j) X → Rp none (shH ru ta rs) I' J') : xm l (d + 6) 0 0 mX12_part [.ref 67] (shH ru ta rs) I J Rp := by
  have hn := Sh1_n h1
  have r0 := hx.1
  have p1 := (wd_1 hw22).1
  have p2 := (wd_1 hw22).2
  have hso : I 67 17 ≠ 0 := by
    have := (tkR_wd r0.2.2 (tkB_ok hT j) (w := 22) (by omega)).mpr hw22
    rw [this.1]
    decide
  refine xm_ofK 0 (X := xxX12) (t := tX12_part) (stop := []) (ini := false) xx12 pl12 rfl kX12_part (fun h => by cases h) (Nat.le_of_ble_eq_true rfl) (fun K hK => ?_)
  refine us_opensSign l T hT ru ta rs I0 hs hi hq d G 310 (by omega) (by omega) hop 8 (by simp) I J _ h hso (fun I' e h8 => ?_) (fun I1 J1 s1 p8 t1 r1 nk ot => ?_)
  · refine And.intro (fun h => absurd rfl h) (fun _ => ?_)
    exact hR I' J (fer_no h.1 h.2.1 r0 e (by decide) ((s1_part p1 p2).trans (yP_dp (by rw [opK_S]; omega))))
  · refine And.intro (fun _ => ?_) (fun h => absurd h (by decide))
    have h8 : opK (KS G) < 8 := by rw [opK_S]; exact p8
    have hx1 := hx.nk hT nk
    have s1' := s1
    obtain ⟨tf, hw, at_, n, w, o, c, op, e1, e2, e3, e4, e5, e6, e7, c1, c2, c3, c4, c5, c6, c7⟩ := s1
    have hl := Rep_len c1
    simp only [List.length_cons] at hl
    have en : I1 67 22 - nI 1 = nI (n - 1) := by
      obtain ⟨m, rfl⟩ : ∃ m, n = m + 1 := ⟨n - 1, by omega⟩
      rw [e3]
      exact nI_pred m
    have vp : vp_in (I1 67 22 - nI 1) 40 := by
      rw [en]
      exact vp_in_nI (by omega) (by omega)
    have ts1 := tkR_s hx1.1.2.2 (tkB_ok hT (j + 1))
    have er : ∀ (I2 : XI) (r : Int32) (f : Nat), 1 ≤ f → FER I1 I2 (nI f) → deS (tkB I0 T) [(0, 100, 15)] (j + 1) = .inr (ft (tkB I0 T) f (j + 1)) → NXTe I0 I (uI I2 83 (I1 67 22 - nI 1).toNatClampNeg r) T (1, KS G, k, ws, j) X := fun I2 r f hf e hd => by
      have y := e.2.1 hw
      have z := y.2.trans hx1.1.2.1
      exact Or.inl ⟨f, _, (s1_part p1 p2).trans (yP_er h8 hd), hf, ⟨(e.1.tf tf).u (p := 83) rfl (fun z => by cases z), e.1.2.2.2 (Or.inl hw)⟩, y.1, z⟩
    have nw : ¬ 0 < I1 67 19 := fun z => pos_ne z hw
    have bad : ∀ (I2 : XI) (r : Int32) (f : Nat), 1 ≤ f → FER I1 I2 (nI f) → deS (tkB I0 T) [(0, 100, 15)] (j + 1) = .inr (ft (tkB I0 T) f (j + 1)) → vp_in (I1 67 22 - nI 1) 40 ∧ ((¬ I2 67 19 = 0 → (¬ I2 67 19 = 0 → Rp none (shH ru ta rs) (uI I2 83 (I1 67 22 - nI 1).toNatClampNeg r) J1))) := fun I2 r f hf e hd => ⟨vp, fun _ _ => hR _ J1 (er I2 r f hf e hd)⟩
    refine ux_number l T hT ru ta rs d 0 100 I1 J1 _ at_ e1 e2 c3.1 (fun _ q2 rg I2 qe => ?_) (fun _ q2 rg I2 e => ?_) (fun q2 I2 e => ?_)
    · have q := qe.nx e2 c3.1
      have q1e := ts1.2.2.1.mp q2
      have rg' := (tkR_rg hx1.1.2.2 (tkB_ok hT (j + 1)) q1e (lo := 0) (hi := 100) (by omega) (by omega)).mp rg
      have s2 := ST_nx hT s1' (by rw [q2]; decide) q
      have s3 : ST I0 (uI I2 83 (I1 67 22 - nI 1).toNatClampNeg (I1 67 18)) ((8, []) :: G) T 0 310 := ST_83 s2
      have r2 := rm_nx hT (by rw [q2]; decide) q
      have r3 : rm (uI I2 83 (I1 67 22 - nI 1).toNatClampNeg (I1 67 18)) T = rm I2 T := rm_of rfl rfl
      have w3 : I2 67 19 = 0 := s2.2.1
      have t3 : I2 67 28 = 1 := by rw [q.1.2 28 (by omega), t1]; exact hst
      have hx2 : XTm I0 I2 T k ws (j + 2) := hx1.nk hT (NK.of q.1 (nrt_of tf hT e2 c3.1 qe))
      have hx3 : XTm I0 (uI I2 83 (I1 67 22 - nI 1).toNatClampNeg (I1 67 18)) T k ws (j + 2) := hx2.kq ⟨⟨rfl, rfl, rfl⟩, rfl, rfl, rfl, rfl⟩
      have hwd := tkR_wd hx3.1.2.2 (tkB_ok hT (j + 2)) (w := 15) (by omega)
      refine And.intro vp ?_
      refine And.intro (fun h => absurd w3 h) (fun _ => ?_)
      refine tx_isWord l (d + 4) 15 ru ta rs _ J1 _ (fun g1 g2 => ?_) (fun ng => ?_)
      · have z15 := hwd.mp ⟨g1, g2⟩
        refine And.intro (fun _ => ?_) (fun h => absurd h (by decide))
        refine And.intro (fun h => absurd w3 h) (fun _ => ?_)
        refine us_next l T hT ru ta rs I0 hs hi hq (d + 1) ((8, []) :: G) 0 310 _ J1 _ (ST_b s3 (by omega)) (by rw [g1]; decide) (fun I4 J4 s4 q4 r4 n4 => ?_)
        have r4 : rm I4 T < rm (uI I2 83 (I1 67 22 - nI 1).toNatClampNeg (I1 67 18)) T := r4
        have ot1 := ot _ _ of oe
        have o2 := (OTr.eqt (G := G) q.1) _ _ ot1.1 ot1.2
        have e18 : I1 67 18 = nI (tkB I0 T (j + 1)).2.1 := by
          rcases tkR_el hx1.1.2.2 (tkB_ok hT (j + 1)) with ⟨z, _⟩ | ⟨z, _⟩ | ⟨_, _, ⟨_, b⟩ | ⟨a, b⟩⟩ | ⟨z, _⟩ | ⟨z, _⟩
          · omega
          · omega
          · exact b
          · omega
          · omega
          · omega
        have ei : (I1 67 22 - nI 1).toNatClampNeg = G.length := by
          rw [en, nI_clamp (by omega)]
          omega
        have f3 : OSf (uI I2 83 (I1 67 22 - nI 1).toNatClampNeg (I1 67 18)) ((8, []) :: G) (((tkB I0 T (j + 1)).2.1, []) :: X.1) := by
          refine ⟨⟨rfl, fun y hy => by cases hy⟩, fun z => by omega, fun _ => ?_, o2.1.up (fun i _ => rfl) (fun i hi => ?_)⟩
          · show upd (I2 83) (I1 67 22 - nI 1).toNatClampNeg (I1 67 18) G.length = _
            rw [ei, pk_us]
            exact e18
          · show upd (I2 83) (I1 67 22 - nI 1).toNatClampNeg (I1 67 18) i = _
            rw [ei]
            exact pk_un (by omega)
        have o4 := (OTr.eqt (G := (8, []) :: G) q4) _ _ f3 (o2.2.eq rfl rfl rfl)
        have a4 : OSa I4 X.2.2 ws := ((oa.eq nk.1.2.2).eq (C5_eq q.1)).eq (I := I2) ((C5_eq q4).trans rfl)
        have xe : xeff (tkB I0 T) (1, KS G, k, ws, j) X = (((tkB I0 T (j + 1)).2.1, []) :: X.1, X.2) := by
          show y1x (tkB I0 T) (KS G) j X = _
          unfold y1x
          rw [p1, p2]
          rfl
        refine hR I4 J4 (Or.inr ⟨_, (s1_part p1 p2).trans (yP_ok h8 (de_word q1e rg' (by decide) z15)), ?_, mu_lt (by omega)⟩)
        rw [xe]
        exact ⟨⟨(8, []) :: G, rfl, Or.inr (Or.inr (Or.inr ⟨Or.inr rfl, rfl, h1⟩)), by simp [opN]; omega, s4, by rw [q4.2 28 (by omega)]; exact t3, o4.1⟩, hx3.nk hT (NK.of q4 n4), o4.2, a4⟩
      · have nz : isWd (tkB I0 T (j + 2)) 15 = false := bF Iff.rfl (fun y => ng (hwd.mpr y))
        refine And.intro (fun h => absurd rfl h) (fun _ => ?_)
        refine ux_errs l (d + 4) 1 (by decide) ru ta rs _ J1 _ (fun I4 e4 => ?_)
        have w4 : ¬ I4 67 19 = 0 := e4.1.1
        refine And.intro (fun _ => ?_) (fun h => absurd h w4)
        exact hR I4 J1 (fer_no s3.1 w3 hx3.1 e4 (by decide) ((s1_part p1 p2).trans (yP_er h8 (de_odd q1e rg' (by decide) nz))))
    · have q1e := ts1.2.2.1.mp q2
      have rg' := tkR_rg hx1.1.2.2 (tkB_ok hT (j + 1)) q1e (lo := 0) (hi := 100) (by omega) (by omega)
      have b := bad I2 0 2 (by decide) e (de_out q1e (fun z => rg (rg'.mpr z)))
      have w3 : ¬ I2 67 19 = 0 := e.1.1
      refine And.intro vp ?_
      refine And.intro (fun _ => ?_) (fun h => absurd h w3)
      exact And.intro (fun _ => b.2 w3 w3) (fun h => absurd h w3)
    · have b := bad I2 0 1 (by decide) e (de_no (fun z => q2.elim nw (fun y => y (ts1.2.2.1.mpr z))))
      have w3 : ¬ I2 67 19 = 0 := e.1.1
      refine And.intro vp ?_
      refine And.intro (fun _ => ?_) (fun h => absurd h w3)
      exact And.intro (fun _ => b.2 w3 w3) (fun h => absurd h w3)
set_option maxRecDepth 100000 in
set_option maxHeartbeats 2000000 in
theorem us_begins (l : Launch) (T : Nat) (hT : T ≤ 300) (ru ta : Nat) (rs : List XO) (I0 : XI) (hs : shO CF (shH ru ta rs)) (hi : ivO CF [] I0) (hq : QQ I0) (d : Nat) (I : XI) (J : XJ) (Rp : XR) (K : List Nat) (k : Nat) (ws : List Nat) (j : Nat) (X : Wdr) (h : GX I0 I T (1, K, k, ws, j) X) (hR : ∀ (I' : XI) (J' : XJ), NXTe I0 I I' T (1, K, k, ws, j) X → Rp none (shH ru ta rs) I' J') : xm l (d + 7) 0 0 mX12_begins [.ref 67] (shH ru ta rs) I J Rp := by
  obtain ⟨⟨G, hK, h1, hop, h, hst, of⟩, hx, oe, oa⟩ := h
  have oa : OSa I X.2.2 ws := oa
  have hK : KS G = K := hK
  subst hK
  have hx : XTm I0 I T k ws j := hx
  have hn := Sh1_n h1
  have r0 := hx.1
  have okj := tkB_ok (I0 := I0) hT j
  have ts := tkR_s r0.2.2 okj
  have w22 := tkR_wd r0.2.2 okj (w := 22) (by omega)
  have g40 := tkR_sg r0.2.2 okj (w := 40) (by decide)
  have g45 := tkR_sg r0.2.2 okj (w := 45) (by decide)
  have err : ∀ (d' : Nat) (f : Nat) (Rq : XR), 1 ≤ f → (0 : Int32) < nI f → mstep (tkB I0 T) (1, KS G, k, ws, j) = .inr (ft (tkB I0 T) f j) → (∀ (I' : XI) (J' : XJ), NXTe I0 I I' T (1, KS G, k, ws, j) X → Rq none (shH ru ta rs) I' J') → xm l (d' + 1) 0 0 mX12_errs [.ref 67, .int (nI f)] (shH ru ta rs) I J Rq := fun d' f Rq hf hf2 hm hq => ux_errs l d' (nI f) hf2 ru ta rs I J Rq (fun I' e => hq I' J (fer_no h.1 h.2.1 r0 e hf hm))
  refine xm_ofK 0 (X := xxX12) (t := tX12_begins) (stop := []) (ini := false) xx12 pl12 rfl kX12_begins (fun h => by cases h) (Nat.le_of_ble_eq_true rfl) (fun K hK => ?_)
  refine ux_nameNow l (d + 5) ru ta rs I J _ (tkB I0 T j) r0.2.2 okj ?_
  refine And.intro (fun n2 => ?_) (fun is2 => ?_)
  · have n2 : ¬ (tkB I0 T j).1 = 2 := fun z => n2 (ts.2.2.1.mpr z)
    by_cases e1 : (tkB I0 T j).1 = 1
    · rw [if_pos e1]
      have hv := okj.2.1 e1
      have s17 := ts.2.1.mpr e1
      cases hno : nmO (tkB I0 T j).2.1 with
      | none =>
        refine And.intro (fun _ => ?_) (fun hne => absurd rfl hne)
        have no3 : ∀ s : Nat, ¬ (I 67 17 = 3 ∧ I 67 18 = nI s) := fun s z => absurd (s17.symm.trans z.1) (by decide)
        refine tx_isSign l (d + 5) 40 ru ta rs I J _ (fun z1 z2 => absurd ⟨z1, z2⟩ (no3 40)) (fun _ => ?_)
        refine And.intro (fun h => absurd rfl h) (fun _ => ?_)
        refine tx_isSign l (d + 5) 45 ru ta rs I J _ (fun z1 z2 => absurd ⟨z1, z2⟩ (no3 45)) (fun _ => ?_)
        refine And.intro (fun _ => ?_) (fun h => absurd rfl h)
        refine tx_isWord l (d + 5) 22 ru ta rs I J _ (fun g1 g2 => ?_) (fun ng => ?_)
        · refine And.intro (fun h => absurd h (by decide)) (fun _ => ?_)
          exact us_part l T hT ru ta rs I0 hs hi hq d G h1 hop I J _ h hst k ws j hx (w22.mp ⟨g1, g2⟩) X of oe oa hR
        · refine And.intro (fun _ => ?_) (fun h => absurd rfl h)
          refine err (d + 5) 1 _ (by decide) (by decide) (s1_word e1 hno (fun z => ?_)) hR
          exact ng (w22.mpr (wd_of e1 z))
      | some n =>
        have hn10 : n ≤ 10 := by
          have y : ((List.range 32).all fun v => match nmO v with
            | some n => Nat.ble n 10
            | none => true) = true := by decide +kernel
          have z := List.all_eq_true.mp y (tkB I0 T j).2.1 (List.mem_range.mpr hv)
          rw [hno] at z
          exact Nat.le_of_ble_eq_true z
        refine And.intro (fun hz => ?_) (fun _ => ?_)
        · exfalso
          have := nI_pos' (n := n) (by omega)
          rw [show nI n = -1 from hz] at this
          exact absurd this (by decide)
        · refine (show xm l (d + 6) 0 0 mX12_mayName [.int (nI n), .int (I 67 31)] (shH ru ta rs) I J _ from ?_)
          rw [hx.2.1.1]
          refine ux_mayName l (d + 5) n k hn10 hx.2.1.2 _ I J _ (fun hm => ?_) (fun hm => ?_)
          · refine And.intro (fun _ => ?_) (fun h => absurd h (by decide))
            refine us_num l (d + 5) T ru ta rs I0 G 310 (by omega) I J _ 401 (nI n) (Or.inr ⟨rfl, by rw [nI_toInt (by omega)]; omega⟩) (by omega) h 401 n rfl rfl (fun I2 s2 k2 ot => ?_)
            refine us_next l T hT ru ta rs I0 hs hi hq (d + 2) G 1 310 I2 J _ s2 (by rw [k2.1.1, s17]; decide) (fun I3 J3 s3 q3 r3 n3 => ?_)
            refine us_oneIsOver l (d + 4) T ru ta rs I0 310 (by omega) J3 _ G I3 (by omega) h1 s3 (fun I4 G4 s4 z1 z2 z3 z4 z5 z6 z7 z8 => ?_)
            have e5 := rm_of (T := T) k2.1.1 k2.1.2.2.2
            have xe : xeff (tkB I0 T) (1, KS G, k, ws, j) X = z1x (KS G) X (401, n) := by
              show y1x (tkB I0 T) (KS G) j X = _
              unfold y1x
              rw [e1, hno]
            have o4 := ((ot.tr (OTr.eqt q3)).tr z8) _ _ of oe
            refine hR I4 J3 (Or.inr ⟨_, s1_name e1 hno hm, ?_, mu_lt (by omega)⟩)
            rw [xe]
            exact ⟨⟨G4, z7, z1, z2, by omega, s4, z4, o4.1⟩, ((hx.kq k2.kq).nk hT (NK.of q3 n3)).kq z6, o4.2, ((oa.eq k2.kq.2.2.2.2).eq (C5_eq q3)).eq z6.2.2.2.2⟩
          · refine And.intro (fun h => absurd rfl h) (fun _ => ?_)
            exact err (d + 5) 5 _ (by decide) (by decide) (s1_wrong e1 hno hm) hR
    · rw [if_neg e1]
      have nw22 : ¬ (I 67 17 = 1 ∧ I 67 18 = 22) := fun z => e1 (ts.2.1.mp z.1)
      refine And.intro (fun _ => ?_) (fun hne => absurd rfl hne)
      refine tx_isSign l (d + 5) 40 ru ta rs I J _ (fun z1 z2 => ?_) (fun ng => ?_)
      · have z := g40.mp ⟨z1, z2⟩
        refine And.intro (fun _ => ?_) (fun h => absurd h (by decide))
        refine tx_isSign l (d + 5) 40 ru ta rs I J _ (fun _ _ => ?_) (fun ng => absurd ⟨z1, z2⟩ ng)
        refine And.intro (fun h => absurd h (by decide)) (fun _ => ?_)
        refine us_opensSign l T hT ru ta rs I0 hs hi hq (d + 1) G 310 (by omega) (by omega) hop 6 (by simp) I J _ h (by rw [z1]; decide) (fun I' e h8 => ?_) (fun I' J' s1 p1 t1 r1 nk ot => ?_)
        · exact hR I' J (fer_no h.1 h.2.1 r0 e (by decide) (s1_brD z (by rw [opK_S]; omega)))
        · have xe : xeff (tkB I0 T) (1, KS G, k, ws, j) X = ((0, []) :: X.1, X.2) := by
            show y1x (tkB I0 T) (KS G) j X = _
            unfold y1x
            rw [(sg_1 z).1]
          have o4 := ot _ _ of oe
          refine hR I' J' (Or.inr ⟨_, s1_br z (by rw [opK_S]; omega), ?_, mu_lt r1⟩)
          rw [xe]
          exact ⟨⟨(6, []) :: G, rfl, Or.inr (Or.inr (Or.inl ⟨rfl, trivial, h1⟩)), by simp [opN]; omega, s1, by rw [t1]; exact hst, ⟨⟨rfl, fun y hy => by cases hy⟩, fun z => by omega, fun z => by omega, o4.1⟩⟩, hx.nk hT nk, o4.2, oa.eq nk.1.2.2⟩
      · refine And.intro (fun h => absurd rfl h) (fun _ => ?_)
        refine tx_isSign l (d + 5) 45 ru ta rs I J _ (fun z1 z2 => ?_) (fun ng2 => ?_)
        · have z := g45.mp ⟨z1, z2⟩
          refine And.intro (fun h => absurd h (by decide)) (fun _ => ?_)
          refine tx_isSign l (d + 5) 40 ru ta rs I J _ (fun w1 w2 => absurd ⟨w1, w2⟩ ng) (fun _ => ?_)
          refine And.intro (fun _ => ?_) (fun h => absurd rfl h)
          refine us_opensSign l T hT ru ta rs I0 hs hi hq (d + 1) G 310 (by omega) (by omega) hop 7 (by simp) I J _ h (by rw [z1]; decide) (fun I' e h8 => ?_) (fun I' J' s1 p1 t1 r1 nk ot => ?_)
          · exact hR I' J (fer_no h.1 h.2.1 r0 e (by decide) (s1_miD z (by rw [opK_S]; omega)))
          · have xe : xeff (tkB I0 T) (1, KS G, k, ws, j) X = ((0, []) :: X.1, X.2) := by
              show y1x (tkB I0 T) (KS G) j X = _
              unfold y1x
              rw [(sg_1 z).1]
            have o4 := ot _ _ of oe
            refine hR I' J' (Or.inr ⟨_, s1_mi z (by rw [opK_S]; omega), ?_, mu_lt r1⟩)
            rw [xe]
            exact ⟨⟨(7, []) :: G, rfl, Or.inr (Or.inr (Or.inr ⟨Or.inl rfl, rfl, h1⟩)), by simp [opN]; omega, s1, by rw [t1]; exact hst, ⟨⟨rfl, fun y hy => by cases hy⟩, fun z => by omega, fun z => by omega, o4.1⟩⟩, hx.nk hT nk, o4.2, oa.eq nk.1.2.2⟩
        · refine And.intro (fun _ => ?_) (fun h => absurd rfl h)
          refine tx_isWord l (d + 5) 22 ru ta rs I J _ (fun g1 g2 => absurd ⟨g1, g2⟩ nw22) (fun _ => ?_)
          refine And.intro (fun _ => ?_) (fun h => absurd rfl h)
          exact err (d + 5) 1 _ (by decide) (by decide) (s1_no n2 e1 (bF Iff.rfl (fun y => ng (g40.mpr y))) (bF Iff.rfl (fun y => ng2 (g45.mpr y)))) hR
  · have is2 : I 67 17 = 2 := is2
    have e2 := ts.2.2.1.mp is2
    have rg := tkR_rg r0.2.2 okj e2 (lo := 0) (hi := 9999) (by omega) (by omega)
    refine And.intro (fun hle => ?_) (fun hgt => ?_)
    · have hle : I 67 18 ≤ nI 9999 := hle
      have hlt : (tkB I0 T j).2.1 < 10000 := by
        rcases tkR_el r0.2.2 okj with ⟨z, _⟩ | ⟨z, _⟩ | ⟨_, _, ⟨a, b⟩ | ⟨a, b⟩⟩ | ⟨z, _⟩ | ⟨z, _⟩
        · omega
        · omega
        · exact a
        · exfalso
          have := Int32.le_trans b hle
          rw [nI_leI (by omega) (by omega)] at this
          omega
        · omega
        · omega
      have ev18 : I 67 18 = nI (tkB I0 T j).2.1 := by
        rcases tkR_el r0.2.2 okj with ⟨z, _⟩ | ⟨z, _⟩ | ⟨_, _, ⟨_, b⟩ | ⟨a, b⟩⟩ | ⟨z, _⟩ | ⟨z, _⟩
        · omega
        · omega
        · exact b
        · omega
        · omega
        · omega
      refine us_num l (d + 5) T ru ta rs I0 G 310 (by omega) I J _ 400 (I 67 18) (Or.inl rfl) (by omega) h 400 (tkB I0 T j).2.1 rfl ev18 (fun I2 s2 k2 ot => ?_)
      refine us_next l T hT ru ta rs I0 hs hi hq (d + 2) G 1 310 I2 J _ s2 (by rw [k2.1.1, is2]; decide) (fun I3 J3 s3 q3 r3 n3 => ?_)
      refine us_oneIsOver l (d + 4) T ru ta rs I0 310 (by omega) J3 _ G I3 (by omega) h1 s3 (fun I4 G4 s4 z1 z2 z3 z4 z5 z6 z7 z8 => ?_)
      have e5 := rm_of (T := T) k2.1.1 k2.1.2.2.2
      have xe : xeff (tkB I0 T) (1, KS G, k, ws, j) X = z1x (KS G) X (400, (tkB I0 T j).2.1) := by
        show y1x (tkB I0 T) (KS G) j X = _
        unfold y1x
        rw [e2]
      have o4 := ((ot.tr (OTr.eqt q3)).tr z8) _ _ of oe
      refine hR I4 J3 (Or.inr ⟨_, s1_num e2 hlt, ?_, mu_lt (by omega)⟩)
      rw [xe]
      exact ⟨⟨G4, z7, z1, z2, by omega, s4, z4, o4.1⟩, ((hx.kq k2.kq).nk hT (NK.of q3 n3)).kq z6, o4.2, ((oa.eq k2.kq.2.2.2.2).eq (C5_eq q3)).eq z6.2.2.2.2⟩
    · have hgt : ¬ I 67 18 ≤ nI 9999 := hgt
      refine err (d + 5) 2 _ (by decide) (by decide) (s1_big e2 ?_) hR
      rcases tkR_el r0.2.2 okj with ⟨z, _⟩ | ⟨z, _⟩ | ⟨_, _, ⟨a, b⟩ | ⟨a, b⟩⟩ | ⟨z, _⟩ | ⟨z, _⟩
      · omega
      · omega
      · rw [b, nI_leI (by omega) (by omega)] at hgt
        omega
      · omega
      · omega
      · omega
