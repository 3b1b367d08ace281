-- ===== the reference reads a text: one step after another =====
theorem pg_emit {no nv na : Nat → Int32} {c o h h' : Nat} {y v : Int32} (p : PGc no nv na c o h) (s : stOK y v h h') : PGc (upd no o y) (upd nv o v) na c (o + 1) h' := by
  obtain ⟨a, m, e, rfl, p⟩ := p
  refine ⟨a, m + 1, e, by omega, h, Pg_up p (fun i hi => ⟨pk_un (by omega), pk_un (by omega)⟩), ?_⟩
  rw [pk_us, pk_us]
  exact s
theorem dn_emit {no nv nw na : Nat → Int32} {c o : Nat} {y v : Int32} (d : DNc no nv nw na c o) : DNc (upd no o y) (upd nv o v) nw na c (o + 1) := by
  intro j hj h4
  obtain ⟨a, m, h, e, hl, p, e2⟩ := d j hj h4
  refine ⟨a, m, h, e, by omega, Pg_up p (fun i hi => ⟨pk_un (by omega), pk_un (by omega)⟩), ?_⟩
  rw [pk_un (by omega)]
  exact e2
/-- all is well so far: no fault -/
def ST (I0 I : XI) (G : TG) (T x b : Nat) : Prop := TF I0 I ∧ I 67 19 = 0 ∧ TX I G T x b
theorem TF.em {I0 I : XI} (h : TF I0 I) (o : Nat) (y v : Int32) : TF I0 (emI I o y v) := ((h.u (p := 89) rfl (fun z => by cases z)).u (p := 90) rfl (fun z => by cases z)).u (p := 67) rfl (fun _ => by omega)
theorem TX_b {I : XI} {G : TG} {T x b b' : Nat} (h : TX I G T x b) (hb : b ≤ b') : TX I G T x b' := by
  obtain ⟨at_, n, w, o, c, op, e1, e2, e3, e4, e5, e6, e7, c1, c2, c3, c4, c5⟩ := h
  exact ⟨at_, n, w, o, c, op, e1, e2, e3, e4, e5, e6, e7, c1, c2, c3, Nat.le_trans c4 hb, c5⟩
theorem ST_b {I0 I : XI} {G : TG} {T x b b' : Nat} (h : ST I0 I G T x b) (hb : b ≤ b') : ST I0 I G T x b' := ⟨h.1, h.2.1, TX_b h.2.2 hb⟩
theorem nI_small {a b : Nat} (h : nI a = nI b) (ha : a < 1000) (hb : b < 1000) : a = b := (nI_eq (by omega) (by omega)).mp h
-- a token more
theorem TX_next {I I' : XI} {G : TG} {T x b : Nat} (hT : T ≤ 300) (h : TX I G T x (b + 1)) (hs : I 67 17 ≠ 0) (q : NX I I' T) : TX I' G T x b := by
  obtain ⟨at_, n, w, o, c, op, e1, e2, e3, e4, e5, e6, e7, c1, c2, c3, c4, c5, c6, c7⟩ := h
  obtain ⟨q, a, a', h1, h2, h3, h4, h5, h6⟩ := q
  have ea : at_ = a := nI_small (e2.symm.trans h1) (by omega) (by omega)
  subst ea
  refine ⟨a', n, w, o, c, op, by rw [q.2 14 (by omega)]; exact e1, h2, by rw [q.2 22 (by omega)]; exact e3, by rw [q.2 25 (by omega)]; exact e4, by rw [q.2 37 (by omega)]; exact e5, by rw [q.2 30 (by omega)]; exact e6, by rw [q.2 21 (by omega)]; exact e7, ?_⟩
  rw [q.1 79 (by decide), q.1 80 (by decide), q.1 81 (by decide), q.1 82 (by decide), q.1 84 (by decide), q.1 85 (by decide), q.1 89 (by decide), q.1 90 (by decide)]
  refine ⟨c1, c2, ⟨h4, h6⟩, ?_, c5, c6, c7⟩
  rw [if_neg hs] at c4
  rcases h5 with z | z
  · rw [if_pos z]
    omega
  · split <;> omega
/-- how much of the text is left -/
def rm (I : XI) (T : Nat) : Nat := (if I 67 17 = 0 then 0 else 1) + (T - (I 67 15).toNatClampNeg)
theorem rm_of {I I' : XI} {T : Nat} (h1 : I' 67 17 = I 67 17) (h2 : I' 67 15 = I 67 15) : rm I' T = rm I T := by
  unfold rm
  rw [h1, h2]
theorem rm_nx {I I' : XI} {T : Nat} (hT : T ≤ 300) (h0 : I 67 17 ≠ 0) (q : NX I I' T) : rm I' T < rm I T := by
  obtain ⟨q, a, a', h1, h2, h3, h4, h5, h6⟩ := q
  unfold rm
  rw [if_neg h0, h1, h2, nI_clamp (by omega), nI_clamp (by omega)]
  rcases h5 with z | z
  · rw [if_pos z]
    omega
  · split <;> omega
theorem st_next (l : Launch) (T : Nat) (hT : T ≤ 300) (ru ta : Nat) (rs : List XO) (I0 : XI) (hs : shO CF (shH ru ta rs)) (hi : ivO CF [] I0) (hq : QQ I0) (d : Nat) (G : TG) (x b : Nat) (I : XI) (J : XJ) (Rp : XR) (h : ST I0 I G T x (b + 1)) (h0 : I 67 17 ≠ 0) (hR : ∀ (I' : XI) (J' : XJ), ST I0 I' G T x b → EQT I I' → rm I' T < rm I T → Rp none (shH ru ta rs) I' J') : xm l (d + 4) 0 0 mX12_next [.ref 67] (shH ru ta rs) I J Rp := by
  obtain ⟨at_, n, w, o, c, op, e1, e2, _, _, _, _, _, _, _, c3, _⟩ := id h.2.2
  refine tx_next l d T hT ru ta rs I J Rp hs (iv_TF hi h.1) (qq_TF hq h.1) at_ e1 e2 c3.1 (fun I' J' q => ?_)
  exact hR I' J' ⟨EQT.tf h.1 q.1, by rw [q.1.2 19 (by omega)]; exact h.2.1, TX_next hT h.2.2 h0 q⟩ q.1 (rm_nx hT h0 q)
/-- what stays when orders are made and frames end -/
def KP (I I' : XI) : Prop := I' 67 17 = I 67 17 ∧ I' 67 18 = I 67 18 ∧ I' 67 28 = I 67 28 ∧ I' 67 15 = I 67 15
theorem KP.rf {I : XI} : KP I I := ⟨rfl, rfl, rfl, rfl⟩
theorem KP.tr {I I' I'' : XI} (h : KP I I') (g : KP I' I'') : KP I I'' := ⟨g.1.trans h.1, g.2.1.trans h.2.1, g.2.2.1.trans h.2.2.1, g.2.2.2.trans h.2.2.2⟩
set_option maxRecDepth 100000 in
/-- a number or a name -/
theorem st_num (l : Launch) (d T : Nat) (ru ta : Nat) (rs : List XO) (I0 : XI) (G : TG) (b : Nat) (hb : b < 400) (I : XI) (J : XJ) (Rp : XR) (y v : Int32) (hy : y = 400 ∨ (y = 401 ∧ 0 ≤ v.toInt ∧ v.toInt ≤ 10)) (hG : wN G + rN G < 200) (h : ST I0 I G T 0 b) (hR : ∀ I', ST I0 I' G T 1 (b + 1) → KP I I' → Rp none (shH ru ta rs) I' J) : xm l (d + 1) 0 0 mX12_emits [.ref 67, .int y, .int v] (shH ru ta rs) I J Rp := by
  obtain ⟨tf, hw, at_, n, w, o, c, op, e1, e2, e3, e4, e5, e6, e7, c1, c2, c3, c4, c5, c6, c7⟩ := h
  have hl := Rep_len c1
  refine tx_emits l d o (by omega) y v ru ta rs I J Rp e5 ?_
  refine hR (emI I o y v) ⟨tf.em o y v, hw, at_, n, w, o + 1, c, op, e1, e2, e3, e4, rfl, e6, e7, ?_⟩ ⟨rfl, rfl, rfl, rfl⟩
  refine ⟨c1, c2, c3, ?_, pg_emit c5 (Or.inl ⟨hy, by omega, by omega⟩), dn_emit c6, c7⟩
  show o + 1 + w + wtN G + (if I 67 17 = 0 then 0 else 1) + (T - at_) ≤ b + 1
  omega
theorem Rep_top {fr cmp wt wf : Nat → Int32} : ∀ {G : TG} {n w1 : Nat}, Rep fr cmp wt wf G n (w1 + 1) → ∃ n', wf w1 = nI n' ∧ n' ≤ n
  | [], n, w1, h => by
    have := h.2
    omega
  | (k, []) :: G, n, w1, h => by
    obtain ⟨n1, w0, h1, _, _, h4, h5⟩ := h
    have e : w1 + 1 = w0 := h4
    rw [← e] at h5
    obtain ⟨n', a, b⟩ := Rep_top h5
    exact ⟨n', a, by omega⟩
  | (k, x :: a) :: G, n, w1, h => by
    obtain ⟨n1, w0, h1, _, _, ⟨w2, e, _, h4, _⟩, _⟩ := h
    have : w1 = w2 := by omega
    subst this
    exact ⟨n, h4, Nat.le_refl _⟩
set_option maxRecDepth 100000 in
set_option maxHeartbeats 1000000 in
theorem st_works_loop (l : Launch) (d T : Nat) (ru ta : Nat) (rs : List XO) (I0 : XI) (k : Nat) (G : TG) (b q r : Nat) (hb : b < 400) (hr : r < 100) (hG : wN G + G.length < 70) (J : XJ) (Rp : XR) : ∀ (a : List Int32) (N : Nat) (I : XI), a.length ≤ 4 → a.length < N → OPS q a → ST I0 I ((k, a) :: G) T 1 b → (∀ I' a', ST I0 I' ((k, a') :: G) T 1 b → OPS q a' → (∀ y, y ∈ a' → rkN y < r) → KP I I' → Rp none (shH ru ta rs) I' J) → xrun xxX12 none false false (shH ru ta rs).length 0 0 none l (d + 1) tX12_works [0] Rp N 0 [some (.ref 67), some (.int (nI r))] [] (shH ru ta rs) I J 0 0 := by
  intro a
  induction a with
  | nil =>
    intro N I h4 hN ho h hR
    obtain ⟨N, rfl⟩ : ∃ n', N = n' + 1 := ⟨N - 1, by simp at hN; omega⟩
    have out := hR I [] h ho (fun y hy => by cases hy) KP.rf
    obtain ⟨tf, hw, at_, n, w, o, c, op, e1, e2, e3, e4, e5, e6, e7, c1, c2, c3, c4, c5, c6, c7⟩ := h
    obtain ⟨n1, w0, f1, f2, f3, f4, f5⟩ := c1
    have f4 : w = w0 := f4
    subst f4
    have hl := Rep_len f5
    refine xrun_step fun K hK => ?_
    refine And.intro (fun _ => out) (fun hpos => ?_)
    have hw0 : 0 < w := by
      rcases Nat.eq_zero_or_pos w with z | z
      · exfalso
        refine hpos ?_
        show I 67 25 ≤ 0
        rw [e4, z]
        exact Int32.le_refl _
      · exact z
    obtain ⟨w1, rfl⟩ : ∃ w1, w = w1 + 1 := ⟨w - 1, by omega⟩
    have ew : I 67 25 - nI 1 = nI w1 := by rw [e4]; exact nI_pred w1
    have vw : vp_in (I 67 25 - nI 1) 80 := by rw [ew]; exact vp_in_nI (by omega) (by omega)
    obtain ⟨n', g1, g2⟩ := Rep_top f5
    refine And.intro vw (And.intro (fun _ => out) (fun heq => ?_))
    exfalso
    have heq : I 82 (I 67 25 - nI 1).toNatClampNeg = I 67 22 := heq
    rw [ew, nI_clamp (by omega), g1, e3] at heq
    have := nI_small heq (by omega) (by omega)
    omega
  | cons y a ih =>
    intro N I h4 hN ho h hR
    simp only [List.length_cons] at h4 hN
    obtain ⟨N, rfl⟩ : ∃ n', N = n' + 1 := ⟨N - 1, by omega⟩
    have h0 := h
    obtain ⟨tf, hw, at_, n, w, o, c, op, e1, e2, e3, e4, e5, e6, e7, c1, c2, c3, c4, c5, c6, c7⟩ := h
    obtain ⟨n1, w0, f1, f2, f3, ⟨w1, rfl, g1, g2, g3⟩, f5⟩ := c1
    have hl := Rep_len f5
    have hl2 := RepO_len g3
    have ew : I 67 25 - nI 1 = nI w1 := by rw [e4]; exact nI_pred w1
    have vw : vp_in (I 67 25 - nI 1) 80 := by rw [ew]; exact vp_in_nI (by omega) (by omega)
    have ey : I 81 (I 67 25 - nI 1).toNatClampNeg = y := by rw [ew, nI_clamp (by omega)]; exact g1
    refine xrun_step fun K hK => ?_
    refine And.intro (fun hz => ?_) (fun _ => And.intro vw (And.intro (fun hne => ?_) (fun _ => And.intro vw ?_)))
    · exfalso
      have hz : I 67 25 ≤ 0 := hz
      rw [e4] at hz
      exact nI_nle (by omega) (by omega) hz
    · exfalso
      refine hne ?_
      show I 82 (I 67 25 - nI 1).toNatClampNeg = I 67 22
      rw [ew, nI_clamp (by omega), g2, e3]
    · refine tx_rank l d (I 81 (I 67 25 - nI 1).toNatClampNeg) _ _ _ _ ?_
      rw [ey]
      have rk4 := rkN_le y
      refine And.intro (fun hlt => ?_) (fun hge => ?_)
      · have hlt : nI (rkN y) < nI r := hlt
        have hlt := (nI_ltI (by omega) (by omega)).mp hlt
        exact hR I (y :: a) h0 ho (fun z hz => by
          rcases List.mem_cons.mp hz with e | hz
          · rw [e]
            exact hlt
          · exact Nat.lt_trans (ho.2.2.1 z hz) hlt) KP.rf
      · have ev : (I 67 25 - nI 1) = nI w1 := ew
        have vw2 : vp_in (uI I 67 25 (I 67 25 - nI 1) 67 25) 80 := vw
        refine And.intro vw2 ?_
        have es : I 81 (uI I 67 25 (I 67 25 - nI 1) 67 25).toNatClampNeg = y := ey
        refine tx_emits l d o (by omega) _ 0 ru ta rs _ J _ e5 ?_
        refine hK 0 [some (.ref 67), some (.int (nI r))] [] (shH ru ta rs) (emI (uI I 67 25 (I 67 25 - nI 1)) o (I 81 (uI I 67 25 (I 67 25 - nI 1) 67 25).toNatClampNeg) 0) J 0 0 ?_
        rw [es, ew]
        refine ih N _ (by omega) (by omega) ho.2.2.2 ⟨(tf.u (p := 67) rfl (fun _ => by omega)).em o y 0, hw, at_, n, w1, o + 1, c, op, e1, e2, e3, rfl, rfl, e6, e7, ⟨⟨n1, w0, f1, f2, f3, g3, f5⟩, c2, c3, ?_, pg_emit c5 (Or.inr (Or.inr ⟨ho.1, by omega, ?_⟩)), dn_emit c6, c7⟩⟩ (fun I' a' k1 k2 k3 k4 => hR I' a' k1 k2 k3 (KP.tr ⟨rfl, rfl, rfl, rfl⟩ k4))
        · show o + 1 + w1 + wtN ((k, a) :: G) + (if I 67 17 = 0 then 0 else 1) + (T - at_) ≤ b
          have : wtN ((k, a) :: G) = wtN ((k, y :: a) :: G) := rfl
          omega
        · have : rN ((k, a) :: G) = rN ((k, y :: a) :: G) := rfl
          omega
set_option maxRecDepth 100000 in
theorem st_works (l : Launch) (d T : Nat) (ru ta : Nat) (rs : List XO) (I0 : XI) (k : Nat) (G : TG) (b q r : Nat) (hb : b < 400) (hr : r < 100) (hG : wN G + G.length < 70) (J : XJ) (Rp : XR) (a : List Int32) (I : XI) (h4 : a.length ≤ 4) (ho : OPS q a) (h : ST I0 I ((k, a) :: G) T 1 b) (hR : ∀ I' a', ST I0 I' ((k, a') :: G) T 1 b → OPS q a' → (∀ y, y ∈ a' → rkN y < r) → KP I I' → Rp none (shH ru ta rs) I' J) : xm l (d + 2) 0 0 mX12_works [.ref 67, .int (nI r)] (shH ru ta rs) I J Rp :=
  xm_of (X := xxX12) (t := tX12_works) (stop := [0]) (ini := false) (n := 10) xx12 pl12 rfl kX12_works (fun h => by cases h) (Nat.le_of_ble_eq_true rfl) (st_works_loop l d T ru ta rs I0 k G b q r hb hr hG J Rp a 10 I h4 (by omega) ho h hR)
/-- where what is left is below r and not below q, nothing is left -/
theorem OPS_nil {q r : Nat} (hqr : r ≤ q) {a : List Int32} (ho : OPS q a) (h : ∀ y, y ∈ a → rkN y < r) : a = [] := by
  cases a with
  | nil => rfl
  | cons x a =>
    have h1 := h x List.mem_cons_self
    have h2 := ho.2.1
    omega
set_option maxRecDepth 100000 in
set_option maxHeartbeats 1000000 in
theorem st_waitsFor (l : Launch) (T : Nat) (hT : T ≤ 300) (ru ta : Nat) (rs : List XO) (I0 : XI) (hs : shO CF (shH ru ta rs)) (hi : ivO CF [] I0) (hq : QQ I0) (d : Nat) (k : Nat) (G : TG) (b q : Nat) (hb : b < 400) (hq1 : 1 ≤ q) (hG : wN G + G.length < 70) (a : List Int32) (ho : OPS q a) (y : Int32) (hy : isBin y) (hyq : q ≤ rkN y) (I : XI) (J : XJ) (Rp : XR) (h : ST I0 I ((k, a) :: G) T 1 b) (h0 : I 67 17 ≠ 0) (hR : ∀ (I' : XI) (J' : XJ) (a' : List Int32), ST I0 I' ((k, a') :: G) T 0 b → OPS q a' → I' 67 28 = I 67 28 → rm I' T < rm I T → Rp none (shH ru ta rs) I' J') : xm l (d + 5) 0 0 mX12_waitsFor [.ref 67, .int y] (shH ru ta rs) I J Rp := by
  refine xm_ofK 0 (X := xxX12) (t := tX12_waitsFor) (stop := []) (ini := false) xx12 pl12 rfl kX12_waitsFor (fun h => by cases h) (Nat.le_of_ble_eq_true rfl) (fun K hK => ?_)
  refine tx_rank l (d + 3) y _ _ _ _ ?_
  have rk4 := rkN_le y
  refine st_works l (d + 2) T ru ta rs I0 k G b q (rkN y) hb (by omega) hG J _ a I (OPS_4 hq1 ho) ho h (fun I1 a1 s1 o1 lt1 k1 => ?_)
  obtain ⟨tf, hw, at_, n, w, o, c, op, e1, e2, e3, e4, e5, e6, e7, c1, c2, c3, c4, c5, c6, c7⟩ := s1
  have hl := Rep_len c1
  obtain ⟨n1, w0, f1, f2, f3, f4, f5⟩ := c1
  have hl1 := RepO_len f4
  have hl5 := Rep_len f5
  have h4 := OPS_4 hq1 o1
  have vw : vp_in (I1 67 25) 80 := by rw [e4]; exact vp_in_nI (by omega) (by omega)
  refine And.intro vw (And.intro vw ?_)
  have s2 : ST I0 (uI (uI (uI I1 81 w y) 82 w (nI n)) 67 25 (nI (w + 1))) ((k, y :: a1) :: G) T 0 (b + 1) := by
    refine ⟨((tf.u (p := 81) rfl (fun z => by cases z)).u (p := 82) rfl (fun z => by cases z)).u (p := 67) rfl (fun _ => by omega), hw, at_, n, w + 1, o, c, op, e1, e2, e3, rfl, e5, e6, e7, ⟨⟨n1, w0, f1, f2, f3, ⟨w, rfl, pk_us, pk_us, RepO_up f4 (fun i hi => ⟨pk_un (by omega), pk_un (by omega)⟩)⟩, Rep_up f5 (fun _ _ => rfl) (fun _ _ => rfl) (fun i hi => ⟨pk_un (by omega), pk_un (by omega)⟩)⟩, c2, c3, ?_, ?_, c6, c7⟩⟩
    · show o + (w + 1) + wtN ((k, y :: a1) :: G) + (if I1 67 17 = 0 then 0 else 1) + (T - at_) ≤ b + 1
      have : wtN ((k, y :: a1) :: G) = wtN ((k, a1) :: G) := rfl
      omega
    · have : rN ((k, y :: a1) :: G) = rN ((k, a1) :: G) := rfl
      rw [show w + 1 + rN ((k, y :: a1) :: G) + 0 = w + rN ((k, a1) :: G) + 1 by omega]
      exact c5
  have eI : uI (uI (uI I1 81 (I1 67 25).toNatClampNeg y) 82 (I1 67 25).toNatClampNeg (I1 67 22)) 67 25 (I1 67 25 + nI 1) = uI (uI (uI I1 81 w y) 82 w (nI n)) 67 25 (nI (w + 1)) := by rw [e4, e3, nI_clamp (by omega), nI_add]
  show xm l (d + 4) 0 0 mX12_next [.ref 67] (shH ru ta rs) (uI (uI (uI I1 81 (I1 67 25).toNatClampNeg y) 82 (I1 67 25).toNatClampNeg (I1 67 22)) 67 25 (I1 67 25 + nI 1)) J _
  rw [eI]
  refine st_next l T hT ru ta rs I0 hs hi hq d ((k, y :: a1) :: G) 0 b _ J _ s2 (by show I1 67 17 ≠ 0; rw [k1.1]; exact h0) (fun I2 J2 s3 q3 r3 => ?_)
  refine hR I2 J2 (y :: a1) s3 ⟨hy, hyq, lt1, o1⟩ (by rw [q3.2 28 (by omega)]; exact k1.2.2.1) ?_
  have r4 : rm (uI (uI (uI I1 81 w y) 82 w (nI n)) 67 25 (nI (w + 1))) T = rm I T := rm_of k1.1 k1.2.2.2
  omega
set_option maxRecDepth 100000 in
set_option maxHeartbeats 1000000 in
/-- a sign that opens a frame -/
theorem st_opensSign (l : Launch) (T : Nat) (hT : T ≤ 300) (ru ta : Nat) (rs : List XO) (I0 : XI) (hs : shO CF (shH ru ta rs)) (hi : ivO CF [] I0) (hq : QQ I0) (d : Nat) (G : TG) (b : Nat) (hb : b < 400) (hG : G.length < 20) (hop : opN G ≤ 8) (k : Nat) (hk : k = 3 ∨ k = 6 ∨ k = 7 ∨ k = 8) (I : XI) (J : XJ) (Rp : XR) (h : ST I0 I G T 0 b) (h0 : I 67 17 ≠ 0) (hE : ∀ I', ER I I' → Rp (some (.int 0)) (shH ru ta rs) I' J) (hR : ∀ (I' : XI) (J' : XJ), ST I0 I' ((k, []) :: G) T 0 b → opN G < 8 → I' 67 28 = I 67 28 → rm I' T < rm I T → Rp (some (.int 1)) (shH ru ta rs) I' J') : xm l (d + 5) 0 0 mX12_opensSign [.ref 67, .int (nI k)] (shH ru ta rs) I J Rp := by
  obtain ⟨tf, hw, at_, n, w, o, c, op, e1, e2, e3, e4, e5, e6, e7, c1, c2, c3, c4, c5, c6, c7⟩ := h
  have hl := Rep_len c1
  have k5 : k ≠ 5 := by omega
  have hopk : opN ((k, []) :: G) = opN G + 1 := by
    rcases hk with rfl | rfl | rfl | rfl <;> simp [opN] <;> omega
  have hwt : wtN ((k, []) :: G) ≤ wtN G + 1 := by
    rcases hk with rfl | rfl | rfl | rfl <;> simp [wtN] <;> omega
  have hrn : rN ((k, []) :: G) = rN G := by
    rcases hk with rfl | rfl | rfl | rfl <;> simp [rN]
  refine xm_ofK 0 (X := xxX12) (t := tX12_opensSign) (stop := []) (ini := false) xx12 pl12 rfl kX12_opensSign (fun h => by cases h) (Nat.le_of_ble_eq_true rfl) (fun K hK => ?_)
  refine And.intro (fun hne => ?_) (fun _ => ?_)
  · have h8 : opN G < 8 := by
      rcases Nat.lt_or_ge (opN G) 8 with z | z
      · exact z
      · exfalso
        refine hne ?_
        show I 67 21 = nI 8
        rw [e7, c2, show opN G = 8 by omega]
    have ef : uI I 67 21 (I 67 21 + nI 1) = uI I 67 21 (nI (op + 1)) := by rw [e7, nI_add]
    show xm l (d + 4) 0 0 mX12_opensFrame [.ref 67, .int (nI k)] (shH ru ta rs) (uI I 67 21 (I 67 21 + nI 1)) J _
    rw [ef]
    refine tx_opensFrame l (d + 3) n (by omega) (nI k) ru ta rs _ J _ e3 ?_
    have s2 : ST I0 (ofI (uI I 67 21 (nI (op + 1))) n (nI k)) ((k, []) :: G) T 0 (b + 1) := by
      refine ⟨((tf.u (p := 67) rfl (fun _ => by omega)).u (p := 79) rfl (fun z => by cases z)).u (p := 67) rfl (fun _ => by omega), hw, at_, n + 1, w, o, c, op + 1, e1, e2, rfl, e4, e5, e6, rfl, ⟨⟨n, w, rfl, pk_us, fun z => absurd z k5, rfl, Rep_up c1 (fun i hi => pk_un (by omega)) (fun _ _ => rfl) (fun _ _ => ⟨rfl, rfl⟩)⟩, by omega, c3, ?_, ?_, c6, c7⟩⟩
      · show o + w + wtN ((k, []) :: G) + (if I 67 17 = 0 then 0 else 1) + (T - at_) ≤ b + 1
        omega
      · rw [hrn]
        exact c5
    refine st_next l T hT ru ta rs I0 hs hi hq d ((k, []) :: G) 0 b _ J _ s2 h0 (fun I2 J2 s3 q3 r3 => ?_)
    have r4 : rm (ofI (uI I 67 21 (nI (op + 1))) n (nI k)) T = rm I T := rm_of rfl rfl
    exact And.intro (Or.inr rfl) (hR I2 J2 s3 h8 (by rw [q3.2 28 (by omega)]; rfl) (by omega))
  · refine tx_errs l (d + 3) 3 (by decide) ru ta rs I J _ (fun I' e => ?_)
    exact And.intro (Or.inl rfl) (hE I' e)
/-- minus and part are over with what they stand before -/
def top78 : TG → Prop
  | [] => True
  | f :: _ => f.1 ≠ 7 ∧ f.1 ≠ 8
set_option maxRecDepth 100000 in
set_option maxHeartbeats 2000000 in
theorem st_one_loop (l : Launch) (d T : Nat) (ru ta : Nat) (rs : List XO) (I0 : XI) (b : Nat) (hb : b < 400) (J : XJ) (Rp : XR) : ∀ (G : TG) (N : Nat) (I : XI), G.length < 20 → G.length < N → Sh1 G → ST I0 I G T 1 b → (∀ I' G', ST I0 I' G' T 1 b → Sh1 G' → top78 G' → opN G' ≤ opN G → I' 67 28 = 2 → rm I' T = rm I T → Rp none (shH ru ta rs) I' J) → xrun xxX12 none false false (shH ru ta rs).length 0 0 none l (d + 1) tX12_oneIsOver [0] Rp N 0 [some (.ref 67)] [] (shH ru ta rs) I J 0 0 := by
  intro G
  induction G with
  | nil =>
    intro N I _ _ h1
    exact h1.elim
  | cons f G ih =>
    intro N I h20 hN h1 h hR
    obtain ⟨k, a⟩ := f
    simp only [List.length_cons] at h20 hN
    obtain ⟨N, rfl⟩ : ∃ n', N = n' + 1 := ⟨N - 1, by omega⟩
    have h0 := h
    obtain ⟨tf, hw, at_, n, w, o, c, op, e1, e2, e3, e4, e5, e6, e7, c1, c2, c3, c4, c5, c6, c7⟩ := h
    obtain ⟨n1, w0, rfl, f2, f3, f4, f5⟩ := c1
    have hl := Rep_len f5
    have hl4 := RepO_len f4
    have et : ∀ (Rq : XR), Rq (some (.int (nI k))) (shH ru ta rs) I J → xm l (d + 1) 0 0 mX12_top [.ref 67] (shH ru ta rs) I J Rq := fun Rq hq => tx_top l d n1 (by omega) ru ta rs I J Rq e3 (by rw [f2]; exact hq)
    have ek : ∀ m, k < 100 → m < 100 → nI k = nI m → k = m := fun m h1 h2 h3 => nI_small h3 (by omega) (by omega)
    have hk100 : k < 100 := by
      rcases h1 with ⟨rfl, _⟩ | ⟨z, _⟩ | ⟨rfl, _⟩ | ⟨z, _⟩ <;> omega
    refine xrun_step fun K hK => ?_
    by_cases h78 : k = 7 ∨ k = 8
    · -- one of both: an order, a frame less
      have ha : a = [] ∧ Sh1 G := by
        rcases h1 with ⟨z, _⟩ | ⟨z, _⟩ | ⟨z, _⟩ | ⟨_, z1, z2⟩
        · omega
        · omega
        · omega
        · exact ⟨z1, z2⟩
      obtain ⟨rfl, hG⟩ := ha
      have f4 : w = w0 := f4
      subst f4
      have hopk : opN ((k, []) :: G) = opN G + 1 := by
        rcases h78 with rfl | rfl <;> simp [opN] <;> omega
      have hwt : wtN ((k, []) :: G) = wtN G + 1 := by
        rcases h78 with rfl | rfl <;> simp [wtN] <;> omega
      have hrn : rN ((k, []) :: G) = rN G := by
        rcases h78 with rfl | rfl <;> simp [rN]
      have go : ∀ (y v : Int32), (y = 402 ∨ y = 403) → xrun xxX12 none false false (shH ru ta rs).length 0 0 none l (d + 1) tX12_oneIsOver [0] Rp N 0 [some (.ref 67)] [] (shH ru ta rs) (uI (uI (emI I o y v) 67 22 (I 67 22 - nI 1)) 67 21 (I 67 21 - nI 1)) J 0 0 := by
        intro y v hy
        have en : I 67 22 - nI 1 = nI n1 := by rw [e3]; exact nI_pred n1
        have eo : I 67 21 - nI 1 = nI (opN G) := by rw [e7, c2, hopk]; exact nI_pred (opN G)
        rw [en, eo]
        refine ih N _ (by omega) (by omega) hG ⟨((tf.em o y v).u (p := 67) rfl (fun _ => by omega)).u (p := 67) rfl (fun _ => by omega), hw, at_, n1, w, o + 1, c, opN G, e1, e2, rfl, e4, rfl, e6, rfl, ⟨f5, rfl, c3, ?_, pg_emit c5 (Or.inr (Or.inl ⟨by rcases hy with rfl | rfl <;> simp, by omega, by omega⟩)), dn_emit c6, c7⟩⟩ (fun I' G' z1 z2 z3 z4 z5 z6 => hR I' G' z1 z2 z3 (by omega) z5 (by rw [z6]; exact rm_of rfl rfl))
        show o + 1 + w + wtN G + (if I 67 17 = 0 then 0 else 1) + (T - at_) ≤ b
        omega
      have vp : vp_in (I 67 22 - nI 1) 40 := by
        rw [e3, show nI (n1 + 1) - nI 1 = nI n1 from nI_pred n1]
        exact vp_in_nI (by omega) (by omega)
      refine et _ ?_
      rcases h78 with rfl | rfl
      · refine And.intro (fun _ => ?_) (fun h => absurd rfl h)
        refine et _ ?_
        refine And.intro (fun h => absurd rfl h) (fun _ => And.intro vp ?_)
        refine tx_emits l d o (by omega) 402 _ ru ta rs I J _ e5 ?_
        exact hK 0 [some (.ref 67)] [] (shH ru ta rs) _ J 0 0 (go 402 _ (Or.inl rfl))
      · refine And.intro (fun h => absurd h (by decide)) (fun _ => ?_)
        refine et _ ?_
        refine And.intro (fun h => absurd rfl h) (fun _ => ?_)
        refine et _ ?_
        refine And.intro (fun _ => And.intro vp ?_) (fun h => absurd h (by decide))
        refine tx_emits l d o (by omega) 403 _ ru ta rs I J _ e5 ?_
        exact hK 0 [some (.ref 67)] [] (shH ru ta rs) _ J 0 0 (go 403 _ (Or.inr rfl))
    · have n7 : ¬ nI k = nI 7 := fun z => h78 (Or.inl (ek 7 hk100 (by omega) z))
      have n8 : ¬ nI k = nI 8 := fun z => h78 (Or.inr (ek 8 hk100 (by omega) z))
      refine et _ ?_
      refine And.intro (fun h => absurd h n7) (fun _ => ?_)
      refine et _ ?_
      refine And.intro (fun _ => ?_) (fun h => absurd h n8)
      refine hR (uI I 67 28 2) ((k, a) :: G) ⟨tf.u (p := 67) rfl (fun _ => by omega), hw, at_, n1 + 1, w, o, c, op, e1, e2, e3, e4, e5, e6, e7, ⟨⟨n1, w0, rfl, f2, f3, f4, f5⟩, c2, c3, c4, c5, c6, c7⟩⟩ h1 ⟨fun z => h78 (Or.inl z), fun z => h78 (Or.inr z)⟩ (Nat.le_refl _) rfl (rm_of rfl rfl)
set_option maxRecDepth 100000 in
theorem st_oneIsOver (l : Launch) (d T : Nat) (ru ta : Nat) (rs : List XO) (I0 : XI) (b : Nat) (hb : b < 400) (J : XJ) (Rp : XR) (G : TG) (I : XI) (h20 : G.length < 20) (h1 : Sh1 G) (h : ST I0 I G T 1 b) (hR : ∀ I' G', ST I0 I' G' T 1 b → Sh1 G' → top78 G' → opN G' ≤ opN G → I' 67 28 = 2 → rm I' T = rm I T → Rp none (shH ru ta rs) I' J) : xm l (d + 2) 0 0 mX12_oneIsOver [.ref 67] (shH ru ta rs) I J Rp :=
  xm_of (X := xxX12) (t := tX12_oneIsOver) (stop := [0]) (ini := false) (n := 40) xx12 pl12 rfl kX12_oneIsOver (fun h => by cases h) (Nat.le_of_ble_eq_true rfl) (st_one_loop l d T ru ta rs I0 b hb J Rp G 40 I h20 (by omega) h1 h hR)
set_option maxRecDepth 100000 in
set_option maxHeartbeats 2000000 in
theorem st_ask_loop (l : Launch) (d T : Nat) (ru ta : Nat) (rs : List XO) (I0 : XI) (b : Nat) (hb : b < 400) (J : XJ) (Rp : XR) : ∀ (G : TG) (N : Nat) (I : XI), G.length < 20 → G.length < N → Sh0 G → ST I0 I G T 1 b → (∀ I' a, ST I0 I' [(2, a)] T 1 b → OPS 1 a → I' 67 28 = 3 → rm I' T = rm I T → Rp none (shH ru ta rs) I' J) → xrun xxX12 none false false (shH ru ta rs).length 0 0 none l (d + 1) tX12_askIsOver [0] Rp N 0 [some (.ref 67)] [] (shH ru ta rs) I J 0 0 := by
  intro G
  induction G with
  | nil =>
    intro N I _ _ h1
    exact h1.elim
  | cons f G ih =>
    intro N I h20 hN h1 h hR
    obtain ⟨k, a⟩ := f
    simp only [List.length_cons] at h20 hN
    obtain ⟨N, rfl⟩ : ∃ n', N = n' + 1 := ⟨N - 1, by omega⟩
    obtain ⟨tf, hw, at_, n, w, o, c, op, e1, e2, e3, e4, e5, e6, e7, c1, c2, c3, c4, c5, c6, c7⟩ := h
    obtain ⟨n1, w0, rfl, f2, f3, f4, f5⟩ := c1
    have hl := Rep_len f5
    have hl4 := RepO_len f4
    have et : ∀ (Rq : XR), Rq (some (.int (nI k))) (shH ru ta rs) I J → xm l (d + 1) 0 0 mX12_top [.ref 67] (shH ru ta rs) I J Rq := fun Rq hq => tx_top l d n1 (by omega) ru ta rs I J Rq e3 (by rw [f2]; exact hq)
    refine xrun_step fun K hK => ?_
    refine et _ ?_
    rcases h1 with ⟨rfl, rfl, ho⟩ | ⟨rfl, rfl, hG⟩
    · refine And.intro (fun _ => ?_) (fun h => absurd h (by decide))
      exact hR (uI I 67 28 3) a ⟨tf.u (p := 67) rfl (fun _ => by omega), hw, at_, n1 + 1, w, o, c, op, e1, e2, e3, e4, e5, e6, e7, ⟨⟨n1, w0, rfl, f2, f3, f4, f5⟩, c2, c3, c4, c5, c6, c7⟩⟩ ho rfl (rm_of rfl rfl)
    · have f4 : w = w0 := f4
      subst f4
      have hopk : opN ((3, []) :: G) = opN G + 1 := by simp [opN]; omega
      have hwt : wtN ((3, []) :: G) = wtN G + 1 := by simp [wtN]; omega
      have hrn : rN ((3, []) :: G) = rN G := by simp [rN]
      refine And.intro (fun h => absurd rfl h) (fun _ => ?_)
      refine tx_emits l d o (by omega) 405 0 ru ta rs (uI (uI I 67 22 (I 67 22 - nI 1)) 67 21 (I 67 21 - nI 1)) J _ e5 ?_
      have en : I 67 22 - nI 1 = nI n1 := by rw [e3]; exact nI_pred n1
      have eo : I 67 21 - nI 1 = nI (opN G) := by rw [e7, c2, hopk]; exact nI_pred (opN G)
      refine hK 0 [some (.ref 67)] [] (shH ru ta rs) (emI (uI (uI I 67 22 (I 67 22 - nI 1)) 67 21 (I 67 21 - nI 1)) o 405 0) J 0 0 ?_
      rw [en, eo]
      refine ih N _ (by omega) (by omega) hG ⟨((tf.u (p := 67) rfl (fun _ => by omega)).u (p := 67) rfl (fun _ => by omega)).em o 405 0, hw, at_, n1, w, o + 1, c, opN G, e1, e2, rfl, e4, rfl, e6, rfl, ⟨f5, rfl, c3, ?_, pg_emit c5 (Or.inr (Or.inl ⟨by simp, by omega, by omega⟩)), dn_emit c6, c7⟩⟩ (fun I' a' z1 z2 z3 z4 => hR I' a' z1 z2 z3 (by rw [z4]; exact rm_of rfl rfl))
      show o + 1 + w + wtN G + (if I 67 17 = 0 then 0 else 1) + (T - at_) ≤ b
      omega
set_option maxRecDepth 100000 in
theorem st_askIsOver (l : Launch) (d T : Nat) (ru ta : Nat) (rs : List XO) (I0 : XI) (b : Nat) (hb : b < 400) (J : XJ) (Rp : XR) (G : TG) (I : XI) (h20 : G.length < 20) (h1 : Sh0 G) (h : ST I0 I G T 1 b) (hR : ∀ I' a, ST I0 I' [(2, a)] T 1 b → OPS 1 a → I' 67 28 = 3 → rm I' T = rm I T → Rp none (shH ru ta rs) I' J) : xm l (d + 2) 0 0 mX12_askIsOver [.ref 67] (shH ru ta rs) I J Rp :=
  xm_of (X := xxX12) (t := tX12_askIsOver) (stop := [0]) (ini := false) (n := 40) xx12 pl12 rfl kX12_askIsOver (fun h => by cases h) (Nat.le_of_ble_eq_true rfl) (st_ask_loop l d T ru ta rs I0 b hb J Rp G 40 I h20 (by omega) h1 h hR)
