-- ===== the reference reads a text: a clause, exactly =====
set_option maxRecDepth 100000 in
theorem ux_told_loop (l : Launch) (d : Nat) (ws : List Nat) (w : Nat) (hw : w < 100) (ru ta : Nat) (rs : List XO) (I : XI) (J : XJ) (Rp : XR) (h24 : ws.length ≤ 24) (e30 : I 67 30 = nI ws.length) (hwd : WDS I ws) (h1 : w ∈ ws → Rp (some (.int 1)) (shH ru ta rs) I J) (h0 : w ∉ ws → Rp (some (.int 0)) (shH ru ta rs) I J) : ∀ (m k n : Nat) (r : Int32), k + m = ws.length → m < n → ((r = 1 ∧ w ∈ ws) ∨ (r = 0 ∧ ∀ x, x < k → ws.getD x 0 ≠ w)) → xrun xxX12 (some .boolean) false false (shH ru ta rs).length 0 0 none l d tX12_wasTold [4] Rp n 4 [some (.ref 67), some (.int (nI w)), some (.int r), some (.int (nI k))] [] (shH ru ta rs) I J 0 0 := by
  intro m
  induction m with
  | zero =>
    intro k n r hk hn hr
    obtain ⟨n, rfl⟩ : ∃ n', n = n' + 1 := ⟨n - 1, by omega⟩
    refine xrun_step fun K hK => ?_
    refine And.intro (fun _ => ?_) (fun h => absurd ?_ h)
    · rcases hr with ⟨rfl, z⟩ | ⟨rfl, z⟩
      · exact And.intro (Or.inr rfl) (h1 z)
      · refine And.intro (Or.inl rfl) (h0 (fun y => ?_))
        obtain ⟨i, hi, e⟩ := List.getElem_of_mem y
        refine z i (by omega) ?_
        rw [List.getD_eq_getElem?_getD, List.getElem?_eq_getElem hi]
        exact e
    · show I 67 30 ≤ nI k
      rw [e30, show k = ws.length by omega]
      exact Int32.le_refl _
  | succ m ih =>
    intro k n r hk hn hr
    obtain ⟨n, rfl⟩ : ∃ n', n = n' + 1 := ⟨n - 1, by omega⟩
    have go : ∀ r' : Int32, ((r' = 1 ∧ w ∈ ws) ∨ (r' = 0 ∧ ∀ x, x < k + 1 → ws.getD x 0 ≠ w)) → xrun xxX12 (some .boolean) false false (shH ru ta rs).length 0 0 none l d tX12_wasTold [4] Rp n 4 [some (.ref 67), some (.int (nI w)), some (.int r'), some (.int (nI k + 1))] [] (shH ru ta rs) I J 0 0 := by
      intro r' hr'
      rw [nI_1]
      exact ih (k + 1) n r' (by omega) (by omega) hr'
    have vk : vp_in (nI k) 24 := vp_in_nI (by omega) (by omega)
    have ek := hwd k (by omega)
    have e84 : I 84 (nI k).toNatClampNeg = nI (ws.getD k 0) := by rw [nI_clamp (by omega)]; exact ek.1
    have mem : ws.getD k 0 ∈ ws := by
      have hlt : k < ws.length := by omega
      rw [List.getD_eq_getElem?_getD, List.getElem?_eq_getElem hlt]
      exact List.getElem_mem hlt
    refine xrun_step fun K hK => ?_
    refine And.intro (fun h => absurd h ?_) (fun _ => ?_)
    · show ¬ I 67 30 ≤ nI k
      rw [e30]
      exact nI_ge (by omega) (by omega)
    · rcases hr with ⟨rfl, z⟩ | ⟨rfl, z⟩
      · refine And.intro (fun _ => ?_) (fun h => absurd h (by decide))
        exact hK 4 [some (.ref 67), some (.int (nI w)), some (.int 1), some (.int (nI k + 1))] [] (shH ru ta rs) I J 0 0 (go 1 (Or.inl ⟨rfl, z⟩))
      · refine And.intro (fun h => absurd rfl h) (fun _ => And.intro vk ?_)
        refine And.intro (fun hne => ?_) (fun heq => ?_)
        · have hne : ¬ I 84 (nI k).toNatClampNeg = nI w := hne
          rw [e84] at hne
          refine hK 4 [some (.ref 67), some (.int (nI w)), some (.int 0), some (.int (nI k + 1))] [] (shH ru ta rs) I J 0 0 (go 0 (Or.inr ⟨rfl, fun x hx => ?_⟩))
          by_cases e : x = k
          · intro y
            rw [e] at y
            exact hne (by rw [y])
          · exact z x (by omega)
        · have heq : I 84 (nI k).toNatClampNeg = nI w := heq
          rw [e84] at heq
          have e := nI_small heq (by omega) (by omega)
          exact hK 4 [some (.ref 67), some (.int (nI w)), some (.int 1), some (.int (nI k + 1))] [] (shH ru ta rs) I J 0 0 (go 1 (Or.inl ⟨rfl, by rw [← e]; exact mem⟩))
set_option maxRecDepth 100000 in
theorem ux_wasTold (l : Launch) (d : Nat) (ws : List Nat) (w : Nat) (hw : w < 100) (ru ta : Nat) (rs : List XO) (I : XI) (J : XJ) (Rp : XR) (h24 : ws.length ≤ 24) (e30 : I 67 30 = nI ws.length) (hwd : WDS I ws) (h1 : w ∈ ws → Rp (some (.int 1)) (shH ru ta rs) I J) (h0 : w ∉ ws → Rp (some (.int 0)) (shH ru ta rs) I J) : xm l (d + 1) 0 0 mX12_wasTold [.ref 67, .int (nI w)] (shH ru ta rs) I J Rp := by
  refine xm_ofK 30 (X := xxX12) (t := tX12_wasTold) (stop := [4]) (ini := false) xx12 pl12 rfl kX12_wasTold (fun h => by cases h) (Nat.le_of_ble_eq_true rfl) (fun K hK => ?_)
  exact hK 4 [some (.ref 67), some (.int (nI w)), some (.int 0), some (.int (nI 0))] [] (shH ru ta rs) I J 0 0 (ux_told_loop l d ws w hw ru ta rs I J Rp h24 e30 hwd h1 h0 ws.length 0 30 0 (by omega) (by omega) (Or.inr ⟨rfl, fun x hx => by omega⟩))
-- deeds: what is left of the forms
def deW (tk : Nat → TK) (w : Nat) (r : List (Nat × Nat × Nat)) (j : Nat) : Nat ⊕ (Nat × Nat) := match Nat.beq w 99 with
  | true => .inl j
  | false => match isWd (tk j) w with
    | true => deS tk r (j + 1)
    | false => .inr (ft tk 1 j)
theorem deS_W {tk : Nat → TK} {lo hi w j : Nat} {r : List (Nat × Nat × Nat)} (h : (tk j).1 = 2) (g : lo ≤ (tk j).2.1 ∧ (tk j).2.1 ≤ hi) : deS tk ((lo, hi, w) :: r) j = deW tk w r (j + 1) := by
  rw [deS, h, de_in g]
  rfl
abbrev W5 : Type := (Nat → Int32) × (Nat → Int32) × (Nat → Int32) × (Nat → Int32) × (Nat → Int32)
abbrev W8 : Type := W5 × Int32 × (Nat → Int32) × (Nat → Int32)
def C8 (I : XI) : W8 := (C5 I, I 67 37, I 89, I 90)
theorem C8_eq {I I' : XI} (q : EQT I I') : C8 I' = C8 I := by
  unfold C8
  rw [C5_eq q, q.2 37 (by omega), q.1 89 (by decide), q.1 90 (by decide)]
def DXn (I0 I : XI) (T : Nat) (W : W8) (D : Nat ⊕ (Nat × Nat)) (L : List (Nat × Nat × Nat)) (j : Nat) : Prop := (C8 I = W ∧ I 67 20 = -1) ∧ I 67 19 = 0 ∧ RTK I (tkB I0 T j) ∧ D = deS (tkB I0 T) L j
def DXw (I0 I : XI) (T : Nat) (W : W8) (D : Nat ⊕ (Nat × Nat)) (w : Nat) (L : List (Nat × Nat × Nat)) (j : Nat) : Prop := (C8 I = W ∧ I 67 20 = -1) ∧ I 67 19 = 0 ∧ RTK I (tkB I0 T j) ∧ D = deW (tkB I0 T) w L j
def DXf (I : XI) (D : Nat ⊕ (Nat × Nat)) : Prop := ∃ f p, I 67 19 = nI f ∧ I 67 20 = nI p ∧ (1 ≤ f ∧ f < 100) ∧ D = .inr (f, p)
theorem DXf.pos {I : XI} {D : Nat ⊕ (Nat × Nat)} (h : DXf I D) : 0 < I 67 19 := by
  obtain ⟨f, p, e, _, hf, _⟩ := h
  rw [e]
  exact nI_lt (a := 0) (by omega) (by omega)
theorem DXf.er {I I' : XI} {D : Nat ⊕ (Nat × Nat)} {f : Int32} (h : DXf I D) (e : FER I I' f) : DXf I' D := by
  rw [e.2.2 (fun z => pos_ne h.pos z)]
  exact h
theorem DX_fer {I0 I I' : XI} {T f j : Nat} {D : Nat ⊕ (Nat × Nat)} (hw : I 67 19 = 0) (r : RTK I (tkB I0 T j)) (e : FER I I' (nI f)) (hf : 1 ≤ f ∧ f < 100) (hD : D = .inr (ft (tkB I0 T) f j)) : DXf I' D := by
  have y := e.2.1 hw
  exact ⟨f, (tkB I0 T j).2.2.1, y.1, by rw [y.2]; exact r.2.1, hf, hD⟩
theorem tkR_val {s v : Int32} {q : TK} (h : tkR s v q) (ok : tkOK q) (e : q.1 = 2) (hq : q.2.1 < 10000) : v = nI q.2.1 := by
  rcases tkR_el h ok with ⟨z, _⟩ | ⟨z, _⟩ | ⟨_, _, ⟨_, b⟩ | ⟨a, b⟩⟩ | ⟨z, _⟩ | ⟨z, _⟩
  · omega
  · omega
  · exact b
  · omega
  · omega
  · omega
theorem ud_number (l : Launch) (T : Nat) (hT : T ≤ 300) (ru ta : Nat) (rs : List XO) (I0 : XI) (d c r0 : Nat) (lo hi_ w : Nat) (hlo : lo < 10000) (hhi : hi_ < 10000) (W : W8) (D : Nat ⊕ (Nat × Nat)) (r : List (Nat × Nat × Nat)) (j : Nat) (I : XI) (J : XJ) (Rp : XR) (h : DO I0 I T c r0) (Q : Prop) (hx : (DXn I0 I T W D ((lo, hi_, w) :: r) j ∧ Q) ∨ DXf I D) (hR : ∀ (v : Int32) (I' : XI), DO I0 I' T c r0 → ((DXw I0 I' T W D w r (j + 1) ∧ Q ∧ v = nI (tkB I0 T j).2.1) ∨ DXf I' D) → Rp (some (.int v)) (shH ru ta rs) I' J) : xm l (d + 5) 0 0 mX12_number [.ref 67, .int (nI lo), .int (nI hi_)] (shH ru ta rs) I J Rp := by
  obtain ⟨a, e2, ha⟩ := h.2.2.1
  refine ux_number l T hT ru ta rs d (nI lo) (nI hi_) I J Rp a h.2.1 e2 ha (fun hw q2 rg I' qe => ?_) (fun hw q2 rg I' e => ?_) (fun q2 I' e => ?_)
  · rcases hx with ⟨⟨h84, w0, hr, hD⟩, hQ⟩ | hx
    · have okj := tkB_ok (I0 := I0) hT j
      have s2 := (tkR_s hr.2.2 okj).2.2.1.mp q2
      have rg' := (tkR_rg hr.2.2 okj s2 hlo hhi).mp rg
      have q := qe.nx e2 ha
      refine hR _ I' (h.nx hT (by rw [q2]; decide) q) (Or.inl ⟨⟨⟨(C8_eq qe.1).trans h84.1, by rw [qe.1.2 20 (by omega)]; exact h84.2⟩, by rw [qe.1.2 19 (by omega)]; exact w0, (nrt_of h.1 hT e2 ha qe).tk hT hr, hD.trans (deS_W s2 rg')⟩, hQ, tkR_val hr.2.2 okj s2 (by omega)⟩)
    · exact absurd hx.pos hw
  · rcases hx with ⟨⟨h84, w0, hr, hD⟩, hQ⟩ | hx
    · have okj := tkB_ok (I0 := I0) hT j
      have s2 := (tkR_s hr.2.2 okj).2.2.1.mp q2
      have rg' := tkR_rg hr.2.2 okj s2 hlo hhi
      exact hR _ I' (h.er e.1) (Or.inr (DX_fer (f := 2) w0 hr e (by omega) (hD.trans (de_out s2 (fun z => rg (rg'.mpr z))))))
    · exact absurd hx.pos hw
  · rcases hx with ⟨⟨h84, w0, hr, hD⟩, hQ⟩ | hx
    · have okj := tkB_ok (I0 := I0) hT j
      have s2 := (tkR_s hr.2.2 okj).2.2.1
      refine hR _ I' (h.er e.1) (Or.inr (DX_fer (f := 1) w0 hr e (by omega) (hD.trans (de_no (fun z => ?_)))))
      rcases q2 with q2 | q2
      · exact pos_ne q2 w0
      · exact q2 (s2.mpr z)
    · exact hR _ I' (h.er e.1) (Or.inr (hx.er e))
set_option maxRecDepth 100000 in
theorem ud_behind (l : Launch) (T : Nat) (hT : T ≤ 300) (ru ta : Nat) (rs : List XO) (I0 : XI) (d c r0 : Nat) (s lo hi_ w : Nat) (hs32 : s < 32) (hlo : lo < 10000) (hhi : hi_ < 10000) (W : W8) (D : Nat ⊕ (Nat × Nat)) (r : List (Nat × Nat × Nat)) (j : Nat) (I : XI) (J : XJ) (Rp : XR) (h : DO I0 I T c r0) (Q : Prop) (hx : (DXw I0 I T W D s ((lo, hi_, w) :: r) j ∧ Q) ∨ DXf I D) (hR : ∀ (v : Int32) (I' : XI), DO I0 I' T c r0 → ((DXw I0 I' T W D w r (j + 2) ∧ Q ∧ v = nI (tkB I0 T (j + 1)).2.1) ∨ DXf I' D) → Rp (some (.int v)) (shH ru ta rs) I' J) : xm l (d + 6) 0 0 mX12_numberBehind [.ref 67, .int (nI s), .int (nI lo), .int (nI hi_)] (shH ru ta rs) I J Rp := by
  have num : ∀ (I2 : XI) (Rq : XR), DO I0 I2 T c r0 → ((DXn I0 I2 T W D ((lo, hi_, w) :: r) (j + 1) ∧ Q) ∨ DXf I2 D) → (∀ (v : Int32) (I' : XI), DO I0 I' T c r0 → ((DXw I0 I' T W D w r (j + 2) ∧ Q ∧ v = nI (tkB I0 T (j + 1)).2.1) ∨ DXf I' D) → Rq (some (.int v)) (shH ru ta rs) I' J) → xm l (d + 5) 0 0 mX12_number [.ref 67, .int (nI lo), .int (nI hi_)] (shH ru ta rs) I2 J Rq := fun I2 Rq h2 hx2 hq2 => ud_number l T hT ru ta rs I0 d c r0 lo hi_ w hlo hhi W D r (j + 1) I2 J Rq h2 Q hx2 hq2
  refine xm_ofK 0 (X := xxX12) (t := tX12_numberBehind) (stop := []) (ini := false) xx12 pl12 rfl kX12_numberBehind (fun h => by cases h) (Nat.le_of_ble_eq_true rfl) (fun K hK => ?_)
  refine And.intro (fun w => ?_) (fun w0 => ?_)
  · rcases hx with hx | hx
    · exact absurd hx.1.2.1 w
    · refine And.intro (fun _ => ?_) (fun z => absurd z w)
      exact num I _ h (Or.inr hx) (fun r I' h' hx' => hR r I' h' hx')
  · have w0 : I 67 19 = 0 := w0
    rcases hx with ⟨⟨h84, _, hr, hD⟩, hQ⟩ | hx
    · have okj := tkB_ok (I0 := I0) hT j
      have hwd := tkR_wd hr.2.2 okj hs32
      have s99 : Nat.beq s 99 = false := beqf (by omega)
      refine tx_isWord l (d + 4) (nI s) ru ta rs I J _ (fun g1 g2 => ?_) (fun ng => ?_)
      · have z := hwd.mp ⟨g1, g2⟩
        refine And.intro (fun _ => ?_) (fun h => absurd h (by decide))
        refine And.intro (fun z => absurd w0 z) (fun _ => ?_)
        obtain ⟨a, e2, ha⟩ := h.2.2.1
        refine ux_next l (d + 1) T ru ta rs I J _ a hT h.2.1 e2 ha (fun I2 qe => ?_)
        have q := qe.nx e2 ha
        refine num I2 _ (h.nx hT (by rw [g1]; decide) q) (Or.inl ⟨⟨⟨(C8_eq qe.1).trans h84.1, by rw [qe.1.2 20 (by omega)]; exact h84.2⟩, by rw [qe.1.2 19 (by omega)]; exact w0, (nrt_of h.1 hT e2 ha qe).tk hT hr, ?_⟩, hQ⟩) (fun r I' h' hx' => hR r I' h' hx')
        rw [hD, deW, s99, z]
      · refine And.intro (fun h => absurd rfl h) (fun _ => ?_)
        refine ux_errs l (d + 4) 1 (by decide) ru ta rs I J _ (fun I2 e => ?_)
        refine And.intro (fun _ => ?_) (fun z => absurd z e.1.1)
        refine num I2 _ (h.er e.1) (Or.inr (DX_fer (f := 1) w0 hr e (by omega) ?_)) (fun r I' h' hx' => hR r I' h' hx')
        rw [hD, deW, s99, bF Iff.rfl (fun y => ng (hwd.mpr y))]
    · exact absurd w0 (pos_ne hx.pos)
def W3 (W : W5) (c : Nat) (v1 v2 v3 : Int32) : W5 := (W.1, W.2.1, upd W.2.2.1 c v1, upd W.2.2.2.1 c v2, upd W.2.2.2.2 c v3)
set_option maxRecDepth 100000 in
theorem ud_end (l : Launch) (d T c r0 n : Nat) (hc : c < 24) (ru ta : Nat) (rs : List XO) (I0 : XI) (v1 v2 v3 : Int32) (W : W8) (D : Nat ⊕ (Nat × Nat)) (L : List (Nat × Nat × Nat)) (j : Nat) (I : XI) (J : XJ) (Rp : XR) (h : DO I0 I T c r0) (Q : Prop) (hx : (DXw I0 I T W D 99 L j ∧ Q) ∨ DXf I D) (hR : ∀ (I' : XI) (j' : Nat), DO I0 I' T c r0 → ((((C8 I' = (W3 W.1 c v1 v2 v3, W.2) ∧ I' 67 20 = -1) ∧ I' 67 19 = 0 ∧ RTK I' (tkB I0 T j') ∧ D = .inl j') ∧ Q) ∨ DXf I' D) → Rp none (shH ru ta rs) I' J) : xrun xxX12 none false false (shH ru ta rs).length 0 0 none l d tX12_doing [216] Rp (n + 1) 216 [some (.ref 67), some (.int v1), some (.int v2), some (.int v3)] [] (shH ru ta rs) I J 0 0 := by
  have v : vp_in (I 67 30) 24 := by rw [h.2.2.2.1]; exact vp_in_nI hc (by omega)
  have ec : (I 67 30).toNatClampNeg = c := by rw [h.2.2.2.1, nI_clamp (by omega)]
  refine xrun_step fun K hK => ?_
  refine And.intro v (And.intro v (And.intro v ?_))
  refine hR (uI (uI (uI I 86 (I 67 30).toNatClampNeg v1) 87 (I 67 30).toNatClampNeg v2) 88 (I 67 30).toNatClampNeg v3) j (DO_86 (by omega) (DO_86 (by omega) (DO_86 (by omega) h))) ?_
  rw [ec]
  have h67 : uI (uI (uI I 86 c v1) 87 c v2) 88 c v3 67 = I 67 := rfl
  rcases hx with ⟨⟨⟨y1, y5⟩, y2, y3, y4⟩, hQ⟩ | y
  · refine Or.inl ⟨⟨⟨?_, y5⟩, y2, ?_, y4⟩, hQ⟩
    · rw [← y1]
      rfl
    · unfold RTK at y3 ⊢
      rw [h67]
      exact y3
  · refine Or.inr ?_
    unfold DXf at y ⊢
    rw [h67]
    exact y
/-- the numbers of a deed -/
def NU3 (dn : List Nat) (v1 v2 v3 : Int32) : Prop := (0 < dn.length → v1 = nI (dn.getD 0 0)) ∧ (1 < dn.length → v2 = nI (dn.getD 1 0)) ∧ (2 < dn.length → v3 = nI (dn.getD 2 0))
set_option maxRecDepth 100000 in
set_option maxHeartbeats 4000000 in
theorem us_doing (l : Launch) (T : Nat) (hT : T ≤ 300) (ru ta : Nat) (rs : List XO) (I0 : XI) (d c r0 : Nat) (hc : c < 24) (v j0 : Nat) (hv : 5 ≤ v ∧ v ≤ 13) (I : XI) (J : XJ) (Rp : XR) (ev : I 67 31 = nI v) (h : DO I0 I T c r0) (hw : I 67 19 = 0) (h20 : I 67 20 = -1) (hr : RTK I (tkB I0 T j0)) (hR : ∀ (I' : XI) (j' : Nat), DO I0 I' T c r0 → ((∃ v1 v2 v3, (((C8 I' = (W3 (C5 I) c v1 v2 v3, (C8 I).2) ∧ I' 67 20 = -1) ∧ I' 67 19 = 0 ∧ RTK I' (tkB I0 T j') ∧ deS (tkB I0 T) (fmS v) j0 = .inl j') ∧ NU3 (deN (tkB I0 T) (fmS v) j0) v1 v2 v3)) ∨ DXf I' (deS (tkB I0 T) (fmS v) j0)) → Rp none (shH ru ta rs) I' J) : xm l (d + 7) 0 0 mX12_doing [.ref 67] (shH ru ta rs) I J Rp := by
  have N : ∀ (lo hi_ w : Nat) (r : List (Nat × Nat × Nat)), lo < 10000 → hi_ < 10000 → ∀ (j : Nat) (I2 : XI) (Rq : XR) (Q : Prop), DO I0 I2 T c r0 → ((DXn I0 I2 T (C8 I) (deS (tkB I0 T) (fmS v) j0) ((lo, hi_, w) :: r) j ∧ Q) ∨ DXf I2 (deS (tkB I0 T) (fmS v) j0)) → (∀ (x : Int32) (I' : XI), DO I0 I' T c r0 → ((DXw I0 I' T (C8 I) (deS (tkB I0 T) (fmS v) j0) w r (j + 1) ∧ Q ∧ x = nI (tkB I0 T j).2.1) ∨ DXf I' (deS (tkB I0 T) (fmS v) j0)) → Rq (some (.int x)) (shH ru ta rs) I' J) → xm l (d + 6) 0 0 mX12_number [.ref 67, .int (nI lo), .int (nI hi_)] (shH ru ta rs) I2 J Rq := fun lo hi_ w r h1 h2 j I2 Rq Q h3 h4 h5 => ud_number l T hT ru ta rs I0 (d + 1) c r0 lo hi_ w h1 h2 _ _ r j I2 J Rq h3 Q h4 h5
  have B : ∀ (s lo hi_ w : Nat) (r : List (Nat × Nat × Nat)), s < 32 → lo < 10000 → hi_ < 10000 → ∀ (j : Nat) (I2 : XI) (Rq : XR) (Q : Prop), DO I0 I2 T c r0 → ((DXw I0 I2 T (C8 I) (deS (tkB I0 T) (fmS v) j0) s ((lo, hi_, w) :: r) j ∧ Q) ∨ DXf I2 (deS (tkB I0 T) (fmS v) j0)) → (∀ (x : Int32) (I' : XI), DO I0 I' T c r0 → ((DXw I0 I' T (C8 I) (deS (tkB I0 T) (fmS v) j0) w r (j + 2) ∧ Q ∧ x = nI (tkB I0 T (j + 1)).2.1) ∨ DXf I' (deS (tkB I0 T) (fmS v) j0)) → Rq (some (.int x)) (shH ru ta rs) I' J) → xm l (d + 6) 0 0 mX12_numberBehind [.ref 67, .int (nI s), .int (nI lo), .int (nI hi_)] (shH ru ta rs) I2 J Rq := fun s lo hi_ w r h0 h1 h2 j I2 Rq Q h3 h4 h5 => ud_behind l T hT ru ta rs I0 d c r0 s lo hi_ w h0 h1 h2 _ _ r j I2 J Rq h3 Q h4 h5
  have st : ∀ L, fmS v = L → ((DXn I0 I T (C8 I) (deS (tkB I0 T) (fmS v) j0) L j0 ∧ True) ∨ DXf I (deS (tkB I0 T) (fmS v) j0)) := fun L e => Or.inl ⟨⟨⟨rfl, h20⟩, hw, hr, by rw [e]⟩, trivial⟩
  have en : ∀ i, i < 100 → I 67 31 = nI i → v = i := fun i hi z => nI_small (ev.symm.trans z) (by omega) (by omega)
  have nn : ∀ i, i < 100 → ¬ I 67 31 = nI i → v ≠ i := fun i hi z y => z (by rw [ev, y])
  refine xm_ofK 1 (X := xxX12) (t := tX12_doing) (stop := [216]) (ini := false) xx12 pl12 rfl kX12_doing (fun h => by cases h) (Nat.le_of_ble_eq_true rfl) (fun K hK => ?_)
  have fin : ∀ (v1 v2 v3 : Int32) (L : List (Nat × Nat × Nat)) (j : Nat) (I2 : XI) (Q : Prop), DO I0 I2 T c r0 → ((DXw I0 I2 T (C8 I) (deS (tkB I0 T) (fmS v) j0) 99 L j ∧ Q) ∨ DXf I2 (deS (tkB I0 T) (fmS v) j0)) → (Q → NU3 (deN (tkB I0 T) (fmS v) j0) v1 v2 v3) → K 216 [some (.ref 67), some (.int v1), some (.int v2), some (.int v3)] [] (shH ru ta rs) I2 J 0 0 := fun v1 v2 v3 L j I2 Q h2 x2 hQ => hK 216 [some (.ref 67), some (.int v1), some (.int v2), some (.int v3)] [] (shH ru ta rs) I2 J 0 0 (ud_end l (d + 6) T c r0 0 hc ru ta rs I0 v1 v2 v3 _ _ L j I2 J Rp h2 Q x2 (fun I' j' k1 k2 => hR I' j' k1 (by
    rcases k2 with ⟨k2, k3⟩ | k2
    · exact Or.inl ⟨v1, v2, v3, k2, hQ k3⟩
    · exact Or.inr k2)))
  refine And.intro (fun z => ?_) (fun z5 => ?_)
  · have e : fmS v = [(1, 99, 14), (0, 5, 15), (0, 4, 99)] := by rw [en 5 (by omega) z]; rfl
    refine N 1 99 14 _ (by omega) (by omega) j0 I _ _ h (st _ e) (fun r1 I1 h1 x1 => ?_)
    refine B 14 0 5 15 _ (by omega) (by omega) (by omega) _ I1 _ _ h1 x1 (fun r2 I2 h2 x2 => ?_)
    refine B 15 0 4 99 _ (by omega) (by omega) (by omega) _ I2 _ _ h2 x2 (fun r3 I3 h3 x3 => ?_)
    exact fin r1 r2 r3 _ _ I3 _ h3 x3 (fun q => by rw [e]; exact ⟨fun _ => q.1.1.2, fun _ => q.1.2, fun _ => q.2⟩)
  refine And.intro (fun z => ?_) (fun z6 => ?_)
  · have e : fmS v = [(1, 99, 99)] := by rw [en 6 (by omega) z]; rfl
    refine N 1 99 99 _ (by omega) (by omega) j0 I _ _ h (st _ e) (fun r1 I1 h1 x1 => ?_)
    exact fin r1 (-1) (-1) _ _ I1 _ h1 x1 (fun q => by rw [e]; exact ⟨fun _ => q.2, fun z => absurd z (show ¬ 1 < 1 by decide), fun z => absurd z (show ¬ 2 < 1 by decide)⟩)
  refine And.intro (fun z => ?_) (fun z7 => ?_)
  · have e : fmS v = [(1, 999, 99)] := by rw [en 7 (by omega) z]; rfl
    refine N 1 999 99 _ (by omega) (by omega) j0 I _ _ h (st _ e) (fun r1 I1 h1 x1 => ?_)
    exact fin r1 (-1) (-1) _ _ I1 _ h1 x1 (fun q => by rw [e]; exact ⟨fun _ => q.2, fun z => absurd z (show ¬ 1 < 1 by decide), fun z => absurd z (show ¬ 2 < 1 by decide)⟩)
  refine And.intro (fun z => ?_) (fun z8 => ?_)
  · have e : fmS v = [(0, 7, 16), (0, 3, 17), (0, 3, 99)] := by rw [en 8 (by omega) z]; rfl
    refine N 0 7 16 _ (by omega) (by omega) j0 I _ _ h (st _ e) (fun r1 I1 h1 x1 => ?_)
    refine B 16 0 3 17 _ (by omega) (by omega) (by omega) _ I1 _ _ h1 x1 (fun r2 I2 h2 x2 => ?_)
    refine B 17 0 3 99 _ (by omega) (by omega) (by omega) _ I2 _ _ h2 x2 (fun r3 I3 h3 x3 => ?_)
    exact fin r1 r2 r3 _ _ I3 _ h3 x3 (fun q => by rw [e]; exact ⟨fun _ => q.1.1.2, fun _ => q.1.2, fun _ => q.2⟩)
  refine And.intro (fun z => ?_) (fun z9 => ?_)
  · have e : fmS v = [(0, 3, 17), (0, 3, 99)] := by rw [en 9 (by omega) z]; rfl
    refine N 0 3 17 _ (by omega) (by omega) j0 I _ _ h (st _ e) (fun r1 I1 h1 x1 => ?_)
    refine B 17 0 3 99 _ (by omega) (by omega) (by omega) _ I1 _ _ h1 x1 (fun r2 I2 h2 x2 => ?_)
    exact fin r1 r2 (-1) _ _ I2 _ h2 x2 (fun q => by rw [e]; exact ⟨fun _ => q.1.2, fun _ => q.2, fun z => absurd z (show ¬ 2 < 2 by decide)⟩)
  refine And.intro (fun z => ?_) (fun z10 => ?_)
  · have e : fmS v = [(1, 999, 18), (0, 3, 99)] := by rw [en 10 (by omega) z]; rfl
    refine N 1 999 18 _ (by omega) (by omega) j0 I _ _ h (st _ e) (fun r1 I1 h1 x1 => ?_)
    refine B 18 0 3 99 _ (by omega) (by omega) (by omega) _ I1 _ _ h1 x1 (fun r2 I2 h2 x2 => ?_)
    exact fin r1 r2 (-1) _ _ I2 _ h2 x2 (fun q => by rw [e]; exact ⟨fun _ => q.1.2, fun _ => q.2, fun z => absurd z (show ¬ 2 < 2 by decide)⟩)
  refine And.intro (fun z => ?_) (fun z11 => ?_)
  · have e : fmS v = [(0, 11, 17), (0, 3, 99)] := by rw [en 11 (by omega) z]; rfl
    refine N 0 11 17 _ (by omega) (by omega) j0 I _ _ h (st _ e) (fun r1 I1 h1 x1 => ?_)
    refine B 17 0 3 99 _ (by omega) (by omega) (by omega) _ I1 _ _ h1 x1 (fun r2 I2 h2 x2 => ?_)
    exact fin r1 r2 (-1) _ _ I2 _ h2 x2 (fun q => by rw [e]; exact ⟨fun _ => q.1.2, fun _ => q.2, fun z => absurd z (show ¬ 2 < 2 by decide)⟩)
  refine And.intro (fun z => ?_) (fun z12 => ?_)
  · have e : fmS v = [(0, 11, 99)] := by rw [en 12 (by omega) z]; rfl
    refine N 0 11 99 _ (by omega) (by omega) j0 I _ _ h (st _ e) (fun r1 I1 h1 x1 => ?_)
    exact fin r1 (-1) (-1) _ _ I1 _ h1 x1 (fun q => by rw [e]; exact ⟨fun _ => q.2, fun z => absurd z (show ¬ 1 < 1 by decide), fun z => absurd z (show ¬ 2 < 1 by decide)⟩)
  · have m5 := nn 5 (by omega) z5
    have m6 := nn 6 (by omega) z6
    have m7 := nn 7 (by omega) z7
    have m8 := nn 8 (by omega) z8
    have m9 := nn 9 (by omega) z9
    have m10 := nn 10 (by omega) z10
    have m11 := nn 11 (by omega) z11
    have m12 := nn 12 (by omega) z12
    have e : fmS v = [(1, 60, 99)] := by rw [show v = 13 by omega]; rfl
    refine N 1 60 99 _ (by omega) (by omega) j0 I _ _ h (st _ e) (fun r1 I1 h1 x1 => ?_)
    exact fin r1 (-1) (-1) _ _ I1 _ h1 x1 (fun q => by rw [e]; exact ⟨fun _ => q.2, fun z => absurd z (show ¬ 1 < 1 by decide), fun z => absurd z (show ¬ 2 < 1 by decide)⟩)
