-- ===== the reference reads a text: all of it, exactly =====
theorem txI_70 (Ib : XI) : txI Ib 70 = Ib 70 := by
  unfold txI
  rw [uI_ne (by decide), uI_ne (by decide)]
theorem tk_txI (Ib : XI) (T : Nat) : tkB (txI Ib) T = tkS (Ib 70) T := by
  show tkS (txI Ib 70) T = _
  rw [txI_70]
/-- what it told -/
def TXo (Ib : XI) (T t : Nat) (r : Int32) (I' : XI) : Prop := I' 67 3 = 0 ∧ I' 70 = Ib 70 ∧ ((r = -1 ∧ (∃ f p, Ends (tkS (Ib 70) T) (4, [], 0, [], 0) (f, p) ∧ 1 ≤ f ∧ I' 67 4 = nI f ∧ I' 67 5 = nI p) ∧ I' 68 3 = nI t) ∨ (r = nI t ∧ Ends (tkS (Ib 70) T) (4, [], 0, [], 0) (0, 0) ∧ I' 67 4 = 0 ∧ I' 67 5 = -1 ∧ I' 68 3 = nI (t + 1)))
abbrev TXR2 (ru ta : Nat) (rs : List XO) (Ib : XI) (T t : Nat) (Rp : XR) : Prop := ∀ (r : Int32) (I' : XI) (J' : XJ), inI (-1, 3) r.toInt → ivO CF [] I' → QQ I' → frO TXM Ib I' → (I' 68 6 = Ib 68 6 ∧ I' 69 = Ib 69) → TXo Ib T t r I' → Rp (some (.int r)) (shH ru ta rs) I' J'
/-- a fault was found -/
def BADe (Ib I : XI) (T : Nat) : Prop := BAD (txI Ib) I ∧ ∃ f p, Ends (tkS (Ib 70) T) (4, [], 0, [], 0) (f, p) ∧ 1 ≤ f ∧ I 67 19 = nI f ∧ I 67 20 = nI p
set_option maxRecDepth 100000 in
theorem ue_bad167 (l : Launch) (d : Nat) (ru ta : Nat) (rs : List XO) (J : XJ) (Rp : XR) (Ib : XI) (T t : Nat) (e68 : Ib 68 3 = nI t) (hi : ivO CF [] Ib) (hq : QQ Ib) (hR : TXR2 ru ta rs Ib T t Rp) (I : XI) (h : BADe Ib I T) (n : Nat) (o1 o2 : Option Value) : txr l d ru ta rs J Rp (n + 1) 167 o1 o2 I := by
  obtain ⟨h, f, p, y1, y2, y3, y4⟩ := h
  refine xrun_step fun K hK => ?_
  refine And.intro (fun z => absurd z (pos_nle h.2)) (fun _ => ?_)
  have g68 : I 68 = Ib 68 := h.1.1 68 (by decide)
  have g69 : I 69 = Ib 69 := h.1.1 69 (by decide)
  have g70 : I 70 = Ib 70 := (h.1.1 70 (by decide)).trans (txI_70 Ib)
  have g3 : I 67 3 = 0 := h.1.2 3 (by omega)
  refine hR (-1) (uI (uI I 67 4 (I 67 19)) 67 5 (I 67 20)) J ⟨by decide, by decide⟩ ?_ ?_ ?_ ⟨by rw [uI_ne (by decide), uI_ne (by decide), g68], by rw [uI_ne (by decide), uI_ne (by decide), g69]⟩ ⟨g3, g70, Or.inl ⟨rfl, ⟨f, p, y1, y2, y3, y4⟩, ?_⟩⟩
  · exact iv_put (iv_put (iv_TF (iv_txI hi) h.1) (by rw [cell_674.1]; exact inI_fr _)) (by rw [cell_674.2.1]; exact inI_fr _)
  · exact qq_u (by decide) (qq_u (by decide) (qq_TF (qq_txI hq) h.1))
  · exact fr_u (by decide) (fr_u (by decide) (fr_txI h.1))
  · rw [uI_ne (by decide), uI_ne (by decide), g68]
    exact e68
set_option maxRecDepth 100000 in
set_option maxHeartbeats 2000000 in
theorem ue_good167 (l : Launch) (d : Nat) (ru ta : Nat) (rs : List XO) (J : XJ) (Rp : XR) (Ib : XI) (hi : ivO CF [] Ib) (hq : QQ Ib) (t T : Nat) (hR : TXR2 ru ta rs Ib T t Rp) (ht : t < 4) (e68 : Ib 68 3 = nI t) (I : XI) (h : S4 (txI Ib) I T 310) (h20 : I 67 20 = -1) (hE : Ends (tkS (Ib 70) T) (4, [], 0, [], 0) (0, 0)) (n : Nat) (hn : 400 < n) : txr l d ru ta rs J Rp (n + 1) 167 none none I := by
  obtain ⟨tf, hw, hst, at_, o, c, e1, e2, e3, e4, e5, e6, e7, c3, c4, c6, c7⟩ := h
  have g68 : I 68 = Ib 68 := tf.1 68 (by decide)
  have g70 : I 70 = Ib 70 := (tf.1 70 (by decide)).trans (txI_70 Ib)
  have g3 : I 67 3 = 0 := tf.2 3 (by omega)
  have f68 : I 68 3 = nI t := by rw [g68]; exact e68
  have vt : vp_in (I 68 3) 4 := by rw [f68]; exact vp_in_nI ht (by omega)
  have hiI := iv_TF (iv_txI hi) tf
  have hqI := qq_TF (qq_txI hq) tf
  refine xrun_step fun K hK => ?_
  refine And.intro (fun _ => ?_) (fun z => absurd ?_ z)
  · refine And.intro (vp_b (by decide)) (And.intro vt ?_)
    refine hK 211 [some (.ref 67), some (.int (I 68 3)), some (.int (nI 0))] [] (shH ru ta rs) (uI (uI (uI I 67 4 (I 67 19)) 67 5 (I 67 20)) 71 (I 68 3).toNatClampNeg (I 67 30)) J 0 0 ?_
    rw [f68, nI_clamp (by omega), e6]
    refine tx_cp1 l d ru ta rs J Rp t o c ht (by omega) c7 (uI (uI (uI I 67 4 (I 67 19)) 67 5 (I 67 20)) 71 t (nI c)) e6 e5 (fun I5 I' h1 h2 => ?_) c 0 n _ (by omega) (by omega) ⟨fun _ _ => rfl, fun _ _ => ⟨rfl, rfl⟩, fun j hj => absurd hj (Nat.not_lt_zero j)⟩
    have z68 : I' 68 3 = nI t := by rw [h2.1 68 (by decide) (by decide), h1.1 68 (by decide)]; exact f68
    have fr4 : frO TXM Ib (uI (uI (uI I 67 4 (I 67 19)) 67 5 (I 67 20)) 71 t (nI c)) := fr_u (by decide) (fr_u (by decide) (fr_u (by decide) (fr_txI tf)))
    have fr5 : frO TXM Ib I5 := fr_tr (ns := [72, 73, 74, 75, 76]) (by decide) fr4 h1.1
    have fr6 : frO TXM Ib I' := fr_tr (ns := [77, 78]) (by decide) fr5 (fun p hp => h2.1 p (fun z => by subst z; cases hp) (fun z => by subst z; cases hp))
    have iv4 : ivO CF [] (uI (uI (uI I 67 4 (I 67 19)) 67 5 (I 67 20)) 71 t (nI c)) := iv_put (iv_put (iv_put hiI (by rw [cell_674.1]; exact inI_fr _)) (by rw [cell_674.2.1]; exact inI_fr _)) (by
      rw [cell_71, nI_toInt (by omega)]
      exact ⟨by dsimp only; omega, by dsimp only; omega⟩)
    have iv5 : ivO CF [] I5 := iv_frl iv4 (fun p hp => h1.1 p (by
      cases z : nmem p [72, 73, 74, 75, 76] with
      | false => rfl
      | true =>
        rw [nmem_of (nsub_el (a := [72, 73, 74, 75, 76]) (b := FRL) (by decide) (nmem_el z))] at hp
        cases hp))
    have iv6 : ivO CF [] I' := iv_frl iv5 (fun p hp => h2.1 p (fun z => by subst z; cases hp) (fun z => by subst z; cases hp))
    have g69 : I 69 = Ib 69 := tf.1 69 (by decide)
    have k67 : ∀ k, I' 67 k = (uI (uI (uI I 67 4 (I 67 19)) 67 5 (I 67 20)) 71 t (nI c)) 67 k := fun k => by rw [h2.1 67 (by decide) (by decide), h1.1 67 (by decide)]
    have k70 : I' 70 = Ib 70 := by rw [h2.1 70 (by decide) (by decide), h1.1 70 (by decide), uI_ne (by decide), uI_ne (by decide), uI_ne (by decide), g70]
    refine hR (nI t) (uI I' 68 3 (I' 68 3 + 1)) J ?_ ?_ ?_ (fr_u (by decide) fr6) ⟨?_, ?_⟩ ⟨?_, ?_, Or.inr ⟨rfl, hE, ?_, ?_, ?_⟩⟩
    · rw [nI_toInt (by omega)]
      exact ⟨by dsimp only; omega, by dsimp only; omega⟩
    · refine iv_put iv6 ?_
      rw [cell_674.2.2.2.2, z68, nI_1, nI_toInt (by omega)]
      exact ⟨by dsimp only; omega, by dsimp only; omega⟩
    · refine qq_text ht c7 (by omega) (Is := I) (I4 := uI (uI (uI I 67 4 (I 67 19)) 67 5 (I 67 20)) 71 t (nI c)) (I5 := I5) (I6 := I') ?_ (fun p hp => ?_) (fun t' => ?_) hqI c6 h1 h2 _ (fun p hp => uI_ne hp)
      · rw [uI_eq, uI_ne (by decide), uI_ne (by decide)]
      · have y : ∀ q, nmem q [72, 73, 77, 78, 84, 85, 89, 90] = false → p ≠ q := fun q hq z => by
          subst z
          rw [hq] at hp
          cases hp
        rw [uI_ne (y 71 rfl), uI_ne (y 67 rfl), uI_ne (y 67 rfl)]
      · have y : inI (0, 24) (I 71 t').toInt := by
          rw [← cell_71 t']
          exact hiI 71 t' rfl
        exact y.2
    · show I' 68 6 = Ib 68 6
      rw [h2.1 68 (by decide) (by decide), h1.1 68 (by decide), uI_ne (by decide), uI_ne (by decide), uI_ne (by decide), g68]
    · rw [uI_ne (by decide), h2.1 69 (by decide) (by decide), h1.1 69 (by decide), uI_ne (by decide), uI_ne (by decide), uI_ne (by decide), g69]
    · rw [uI_ne (by decide), k67]
      exact g3
    · rw [uI_ne (by decide), k70]
    · rw [uI_ne (by decide), k67]
      exact hw
    · rw [uI_ne (by decide), k67]
      exact h20
    · show I' 68 3 + 1 = _
      rw [z68, nI_1]
  · show I 67 19 ≤ 0
    rw [hw]
    exact Int32.le_refl _
set_option maxRecDepth 100000 in
theorem ue_bad74 (l : Launch) (d : Nat) (ru ta : Nat) (rs : List XO) (J : XJ) (Rp : XR) (Ib : XI) (T t : Nat) (e68 : Ib 68 3 = nI t) (hi : ivO CF [] Ib) (hq : QQ Ib) (hR : TXR2 ru ta rs Ib T t Rp) (I : XI) (h : BADe Ib I T) (n : Nat) (o1 o2 : Option Value) : txr l d ru ta rs J Rp (n + 1 + 1) 74 o1 o2 I := by
  refine xrun_step fun K hK => ?_
  refine And.intro (fun _ => ?_) (fun z => absurd z (pos_ne h.1.2))
  exact hK 167 [some (.ref 67), o1, o2] [] (shH ru ta rs) I J 0 0 (ue_bad167 l d ru ta rs J Rp Ib T t e68 hi hq hR I h n o1 o2)
set_option maxRecDepth 100000 in
set_option maxHeartbeats 2000000 in
theorem ue_step74 (l : Launch) (d T : Nat) (hT : T ≤ 300) (ru ta : Nat) (rs : List XO) (J : XJ) (Rp : XR) (I0 : XI) (hs : shO CF (shH ru ta rs)) (hi : ivO CF [] I0) (hq : QQ I0) (I : XI) (s : MS) (h : GD I0 I T s) (n : Nat) (x167 : S4 I0 I T 310 → I 67 20 = -1 → mstep (tkB I0 T) s = .inr (0, 0) → txr l d ru ta rs J Rp n 167 none none I) (nxt : ∀ (I' : XI) (J' : XJ), NXTe I0 I I' T s → txr l d ru ta rs J' Rp n 74 none none I') : txr l d ru ta rs J Rp (n + 1) 74 none none I := by
  refine xrun_step fun K hK => ?_
  have nx : ∀ (I' : XI) (J' : XJ), NXTe I0 I I' T s → K 74 [some (.ref 67), none, none] [] (shH ru ta rs) I' J' 0 0 := fun I' J' b => hK 74 [some (.ref 67), none, none] [] (shH ru ta rs) I' J' 0 0 (nxt I' J' b)
  obtain ⟨m, Kf, k, ws, j⟩ := s
  match m, h, nx, x167 with
  | 0, h, nx, x167 =>
    obtain ⟨⟨G, y1, y2, y3, y4, hst⟩, _⟩ := id h
    have hw : I 67 19 = 0 := y4.2.1
    refine And.intro (fun z => absurd hw z) (fun _ => ?_)
    refine And.intro (fun _ => ?_) (fun z => absurd (hst.symm.trans z) (by decide))
    refine And.intro (fun _ => ?_) (fun z => absurd hst z)
    exact us_asks l T hT ru ta rs I0 hs hi hq (d + 3) I J _ Kf k ws j h (fun I' J' b => nx I' J' b)
  | 1, h, nx, x167 =>
    obtain ⟨⟨G, y1, y2, y3, y4, hst⟩, _⟩ := id h
    have hw : I 67 19 = 0 := y4.2.1
    refine And.intro (fun z => absurd hw z) (fun _ => ?_)
    refine And.intro (fun _ => ?_) (fun z => absurd (hst.symm.trans z) (by decide))
    refine And.intro (fun z => absurd (hst.symm.trans z) (by decide)) (fun _ => ?_)
    refine And.intro (fun _ => ?_) (fun z => absurd hst z)
    exact us_begins l T hT ru ta rs I0 hs hi hq (d + 2) I J _ Kf k ws j h (fun I' J' b => nx I' J' b)
  | 2, h, nx, x167 =>
    obtain ⟨⟨G, y1, y2, y3, y4, y5, hst⟩, _⟩ := id h
    have hw : I 67 19 = 0 := y5.2.1
    refine And.intro (fun z => absurd hw z) (fun _ => ?_)
    refine And.intro (fun _ => ?_) (fun z => absurd (hst.symm.trans z) (by decide))
    refine And.intro (fun z => absurd (hst.symm.trans z) (by decide)) (fun _ => ?_)
    refine And.intro (fun z => absurd (hst.symm.trans z) (by decide)) (fun _ => ?_)
    refine And.intro (fun _ => ?_) (fun z => absurd hst z)
    exact us_goesOn l T hT ru ta rs I0 hs hi hq d I J _ Kf k ws j h (fun I' J' b => nx I' J' b)
  | 3, h, nx, x167 =>
    obtain ⟨⟨a, y1, y2, y3, hst⟩, _⟩ := id h
    have hw : I 67 19 = 0 := y3.2.1
    refine And.intro (fun z => absurd hw z) (fun _ => ?_)
    refine And.intro (fun _ => ?_) (fun z => absurd (hst.symm.trans z) (by decide))
    refine And.intro (fun z => absurd (hst.symm.trans z) (by decide)) (fun _ => ?_)
    refine And.intro (fun z => absurd (hst.symm.trans z) (by decide)) (fun _ => ?_)
    refine And.intro (fun z => absurd (hst.symm.trans z) (by decide)) (fun _ => ?_)
    refine And.intro (fun _ => ?_) (fun z => absurd hst z)
    exact us_asksOn l T hT ru ta rs I0 hs hi hq d I J _ Kf k ws j h (fun I' J' b => nx I' J' b)
  | m + 4, h, nx, x167 =>
    have h' : S4 I0 I T 310 ∧ XT4 I0 I T ws j := h
    obtain ⟨h, hx⟩ := h'
    have hw : I 67 19 = 0 := h.2.1
    have hst : I 67 28 = 4 := h.2.2.1
    refine And.intro (fun z => absurd hw z) (fun _ => ?_)
    refine And.intro (fun z => absurd hst z) (fun _ => ?_)
    refine And.intro (fun h17 => ?_) (fun h17 => ?_)
    · refine hK 167 [some (.ref 67), none, none] [] (shH ru ta rs) I J 0 0 (x167 h hx.2.2.2.2 ?_)
      have z : (tkB I0 T j).1 = 0 := (tkR_s hx.1.2.2 (tkB_ok hT j)).1.mp h17
      exact s4_fine (K := Kf) (k := k) (ws := ws) z
    · refine And.intro (fun z => absurd (hst.symm.trans z) (by decide)) (fun _ => ?_)
      refine And.intro (fun z => absurd (hst.symm.trans z) (by decide)) (fun _ => ?_)
      refine And.intro (fun z => absurd (hst.symm.trans z) (by decide)) (fun _ => ?_)
      refine And.intro (fun z => absurd (hst.symm.trans z) (by decide)) (fun _ => ?_)
      exact us_clause l T hT ru ta rs I0 (d + 1) I J _ Kf k ws j h hx h17 (fun I' J' b => nx I' J' b)
theorem ue_next {Ib I I' : XI} {T : Nat} {s : MS} (r : Rch (tkB (txI Ib) T) (4, [], 0, [], 0) s) (b : NXTe (txI Ib) I I' T s) : BADe Ib I' T ∨ ∃ s', GD (txI Ib) I' T s' ∧ Rch (tkB (txI Ib) T) (4, [], 0, [], 0) s' ∧ mu I' T < mu I T := by
  rcases b with ⟨f, p, y1, y2, y3, y4, y5⟩ | ⟨s', y1, y2, y3⟩
  · refine Or.inl ⟨y3, f, p, ?_, y2, y4, y5⟩
    have e := r.ends (Ends.now y1)
    rw [tk_txI] at e
    exact e
  · exact Or.inr ⟨s', y2, r.tr (Rch.step y1 (Rch.rf s')), y3⟩
theorem ue_loop (l : Launch) (d T : Nat) (hT : T ≤ 300) (ru ta : Nat) (rs : List XO) (Rp : XR) (hs : shO CF (shH ru ta rs)) (Ib : XI) (hi : ivO CF [] Ib) (hq : QQ Ib) (t : Nat) (hR : TXR2 ru ta rs Ib T t Rp) (ht : t < 4) (e68 : Ib 68 3 = nI t) : ∀ (m n : Nat) (I : XI) (J : XJ) (s : MS), GD (txI Ib) I T s → Rch (tkB (txI Ib) T) (4, [], 0, [], 0) s → mu I T ≤ m → m + 410 < n → txr l d ru ta rs J Rp n 74 none none I := by
  have fin : ∀ (I : XI) (J : XJ) (s : MS) (n : Nat), Rch (tkB (txI Ib) T) (4, [], 0, [], 0) s → 400 < n → S4 (txI Ib) I T 310 → I 67 20 = -1 → mstep (tkB (txI Ib) T) s = .inr (0, 0) → txr l d ru ta rs J Rp (n + 1) 167 none none I := fun I J s n r hn s4 h20 e => by
    have e := r.ends (Ends.now e)
    rw [tk_txI] at e
    exact ue_good167 l d ru ta rs J Rp Ib hi hq t T hR ht e68 I s4 h20 e n hn
  intro m
  induction m with
  | zero =>
    intro n I J s h r hm hn
    obtain ⟨n, rfl⟩ : ∃ n', n = n' + 1 + 1 + 1 := ⟨n - 3, by omega⟩
    refine ue_step74 l d T hT ru ta rs J Rp (txI Ib) hs (iv_txI hi) (qq_txI hq) I s h (n + 1 + 1) (fun s4 h20 e => fin I J s (n + 1) r (by omega) s4 h20 e) (fun I' J' b => ?_)
    rcases ue_next r b with b | ⟨s', _, _, b⟩
    · exact ue_bad74 l d ru ta rs J' Rp Ib T t e68 hi hq hR I' b n none none
    · omega
  | succ m ih =>
    intro n I J s h r hm hn
    obtain ⟨n, rfl⟩ : ∃ n', n = n' + 1 + 1 + 1 := ⟨n - 3, by omega⟩
    refine ue_step74 l d T hT ru ta rs J Rp (txI Ib) hs (iv_txI hi) (qq_txI hq) I s h (n + 1 + 1) (fun s4 h20 e => fin I J s (n + 1) r (by omega) s4 h20 e) (fun I' J' b => ?_)
    rcases ue_next r b with b | ⟨s', g, r', b⟩
    · exact ue_bad74 l d ru ta rs J' Rp Ib T t e68 hi hq hR I' b n none none
    · exact ih (n + 1 + 1) I' J' s' g r' (by omega) (by omega)
set_option maxRecDepth 100000 in
set_option maxHeartbeats 2000000 in
theorem ue_text (l : Launch) (d : Nat) (ru ta : Nat) (rs : List XO) (hs : shO CF (shH ru ta rs)) (I : XI) (J : XJ) (Rp : XR) (hi : ivO CF [] I) (hq : QQ I) (T t : Nat) (eT : I 67 3 = nI T) (hT : T ≤ 300) (et : I 68 3 = nI t) (ht : t ≤ 4) (h4 : t = 4 → Rp (some (.int (-1))) (shH ru ta rs) I J) (hR : t < 4 → TXR2 ru ta rs I T t Rp) : xm l (d + 10) 0 0 mX12_text [.ref 67] (shH ru ta rs) I J Rp := by
  refine xm_ofK 1700 (X := xxX12) (t := tX12_text) (stop := [74, 167, 211, 318]) (ini := false) xx12 pl12 rfl kX12_text (fun h => by cases h) (Nat.le_of_ble_eq_true rfl) (fun K hK => ?_)
  refine And.intro (vp_b (by decide)) (And.intro (fun hne => ?_) (fun heq => ?_))
  · have ht4 : t < 4 := by
      rcases Nat.lt_or_ge t 4 with z | z
      · exact z
      · exfalso
        refine hne ?_
        show I 68 3 = nI 4
        rw [et, show t = 4 by omega]
    show xm l (d + 9) 0 0 mX12_next [.ref 67] (shH ru ta rs) (txS (txI I)) J _
    have tfS : TF (txI I) (txS (txI I)) := ((((((((TF.rf.u (p := 67) rfl (fun _ => by omega)).u (p := 67) rfl (fun _ => by omega)).u (p := 67) rfl (fun _ => by omega)).u (p := 67) rfl (fun _ => by omega)).u (p := 67) rfl (fun _ => by omega)).u (p := 67) rfl (fun _ => by omega)).u (p := 67) rfl (fun _ => by omega)).u (p := 67) rfl (fun _ => by omega)).u (p := 67) rfl (fun _ => by omega)
    refine ux_next l (d + 5) T ru ta rs (txS (txI I)) J _ 0 hT eT rfl (by omega) (fun I2 qe => ?_)
    have nrt : RTK I2 (lexS (txI I 70) T 0) := nrt_of (I0 := txI I) tfS hT (show txS (txI I) 67 15 = nI 0 from rfl) (Nat.zero_le T) qe 0 (by omega) rfl
    have q := NXe.nx (I := txS (txI I)) (show txS (txI I) 67 15 = nI 0 from rfl) (Nat.zero_le T) qe
    obtain ⟨q, a, a', h1, h2, h3, h4, h5, h6⟩ := q
    have s4 : S4 (txI I) I2 T 310 := by
      refine ⟨EQT.tf tfS q, by rw [q.2 19 (by omega)]; rfl, by rw [q.2 28 (by omega)]; rfl, a', 0, 0, by rw [q.2 14 (by omega)]; exact eT, h2, by rw [q.2 22 (by omega)]; rfl, by rw [q.2 25 (by omega)]; rfl, by rw [q.2 37 (by omega)]; rfl, by rw [q.2 30 (by omega)]; rfl, by rw [q.2 21 (by omega)]; rfl, ⟨h4, h6⟩, ?_, fun j hj => absurd hj (Nat.not_lt_zero j), by omega⟩
      split <;> omega
    have x4 : XT4 (txI I) I2 T [] 0 := ⟨nrt, fun x hx => absurd hx (Nat.not_lt_zero x), by rw [q.2 30 (by omega)]; rfl, by decide, by rw [q.2 20 (by omega)]; rfl⟩
    exact hK 74 [some (.ref 67), none, none] [] (shH ru ta rs) I2 J 0 0 (ue_loop l d T hT ru ta rs Rp hs I hi hq t (hR ht4) ht4 et 1205 1700 I2 J (4, [], 0, [], 0) ⟨s4, x4⟩ (Rch.rf _) (Nat.le_trans (mu_le I2 T) (by omega)) (by omega))
  · have heq : I 68 3 = nI 4 := heq
    exact h4 (nI_small (et.symm.trans heq) (by omega) (by omega))
