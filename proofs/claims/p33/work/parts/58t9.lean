-- ===== the reference reads a text: all of it =====
theorem qq_text {t o c : Nat} (ht : t < 4) (hc : c ≤ 24) (ho : o ≤ 310) {Is I4 I5 I6 : XI} (e71 : I4 71 = upd (Is 71) t (nI c)) (e7 : ∀ p, nmem p [72, 73, 77, 78, 84, 85, 89, 90] = true → I4 p = Is p) (hi : ∀ t', (Is 71 t').toInt ≤ 24) (hq : QQ Is) (dn : DNc (Is 89) (Is 90) (Is 84) (Is 85) c o) (h1 : P1 t I4 I5 c) (h2 : P2 t I5 I6 o) (I7 : XI) (e : ∀ p, p ≠ 68 → I7 p = I6 p) : QQ I7 := by
  intro t' j ht' hj hw
  have f71 : I7 71 = upd (Is 71) t (nI c) := by rw [e 71 (by decide), h2.1 71 (by decide) (by decide), h1.1 71 (by decide)]; exact e71
  have f72 : I7 72 = I5 72 := by rw [e 72 (by decide), h2.1 72 (by decide) (by decide)]
  have f73 : I7 73 = I5 73 := by rw [e 73 (by decide), h2.1 73 (by decide) (by decide)]
  have f77 : I7 77 = I6 77 := e 77 (by decide)
  have f78 : I7 78 = I6 78 := e 78 (by decide)
  rw [f71] at hj
  rw [f72] at hw
  rw [f73]
  by_cases z : t' = t
  · subst z
    rw [pk_us, nI_toInt (by omega)] at hj
    have hj : j < c := by omega
    have g := h1.2.2 j hj
    rw [g.1, e7 84 (by decide)] at hw
    obtain ⟨a, m, hh, y1, y2, y3, y4⟩ := dn j hj hw
    rw [g.2, e7 85 (by decide), y1, nI_add]
    refine ⟨400 * t' + a, nI_toInt (by omega), by omega, ?_⟩
    have ord : ∀ i, i < o → I7 77 (400 * t' + i) = Is 89 i ∧ I7 78 (400 * t' + i) = Is 90 i := fun i hi => by
      have g := h2.2.2 i hi
      rw [f77, f78, g.1, g.2, h1.1 89 (by decide), h1.1 90 (by decide), e7 89 (by decide), e7 90 (by decide)]
      exact ⟨rfl, rfl⟩
    refine stL_more (1 + m) 1601 _ _ (Pg_stL (base := 400 * t') (lim := 400 * t' + 400) (n := 1) y3 (fun i hi => ord i (by omega)) (by omega) ?_) (by omega)
    refine ⟨by omega, Or.inl ?_⟩
    rw [(ord (a + m) y2).1]
    exact y4
  · rw [pk_un z] at hj
    have h24 := hi t'
    have g := h1.2.1 (24 * t' + j) (by omega)
    rw [g.1, e7 72 (by decide)] at hw
    rw [g.2, e7 73 (by decide)]
    obtain ⟨f, hf, hl, hs⟩ := hq t' j ht' hj hw
    refine ⟨f, hf, hl, stL_keep (lo := 400 * t') (fun i h1i h2i => ?_) _ _ _ hl hs⟩
    have g := h2.2.1 i (by omega)
    rw [f77, f78, g.1, g.2, h1.1 77 (by decide), h1.1 78 (by decide), e7 77 (by decide), e7 78 (by decide)]
    exact ⟨rfl, rfl⟩
def TXM : List Nat := [67, 68, 69, 70, 71, 72, 73, 74, 75, 76, 77, 78, 79, 80, 81, 82, 83, 84, 85, 86, 87, 88, 89, 90, 91, 92, 93, 94, 95, 96, 97, 98]
theorem fr_u {ms : List Nat} {p : Nat} (h : nmem p ms = true) {I0 I : XI} {k : Nat} {v : Int32} (hf : frO ms I0 I) : frO ms I0 (uI I p k v) := by
  intro q hq
  rw [uI_ne (fun e => by subst e; rw [h] at hq; cases hq)]
  exact hf q hq
theorem qq_u {I : XI} {p k : Nat} {v : Int32} (hp : nmem p QPl = false) (h : QQ I) : QQ (uI I p k v) := qq_ok I (uI I p k v) (fun q hq => uI_ne (fun z => by
  subst z
  rw [nmem_of hq] at hp
  cases hp)) h
def txI (I : XI) : XI := uI (uI I 67 14 (I 67 3)) 67 3 0
def txS (I : XI) : XI := uI (uI (uI (uI (uI (uI (uI (uI (uI I 67 15 0) 67 19 0) 67 20 (-1)) 67 21 0) 67 22 0) 67 25 0) 67 28 4) 67 30 0) 67 37 0
abbrev TXR (ru ta : Nat) (rs : List XO) (Ib : XI) (Rp : XR) : Prop := ∀ (r : Int32) (I' : XI) (J' : XJ), inI (-1, 3) r.toInt → ivO CF [] I' → QQ I' → frO TXM Ib I' → (I' 68 6 = Ib 68 6 ∧ I' 69 = Ib 69) → Rp (some (.int r)) (shH ru ta rs) I' J'
theorem iv_txI {I : XI} (h : ivO CF [] I) : ivO CF [] (txI I) := iv_put (iv_put h (by rw [cell_674.2.2.1]; exact inI_fr _)) (by rw [cell_674.2.2.2.1]; exact ⟨by decide, by decide⟩)
theorem qq_txI {I : XI} (h : QQ I) : QQ (txI I) := qq_u (by decide) (qq_u (by decide) h)
theorem fr_txI {Ib I : XI} (t : TF (txI Ib) I) : frO TXM Ib I := fr_tr (ns := TXP) (by decide) (fr_u (by decide) (fr_u (by decide) (fun _ _ => rfl))) t.1
set_option maxRecDepth 100000 in
theorem tx_bad167 (l : Launch) (d : Nat) (ru ta : Nat) (rs : List XO) (J : XJ) (Rp : XR) (Ib : XI) (hi : ivO CF [] Ib) (hq : QQ Ib) (hR : TXR ru ta rs Ib Rp) (I : XI) (h : BAD (txI Ib) I) (n : Nat) (o1 o2 : Option Value) : txr l d ru ta rs J Rp (n + 1) 167 o1 o2 I := by
  refine xrun_step fun K hK => ?_
  refine And.intro (fun z => absurd z (pos_nle h.2)) (fun _ => ?_)
  have g68 : I 68 = Ib 68 := h.1.1 68 (by decide)
  have g69 : I 69 = Ib 69 := h.1.1 69 (by decide)
  refine hR (-1) (uI (uI I 67 4 (I 67 19)) 67 5 (I 67 20)) J ⟨by decide, by decide⟩ ?_ ?_ ?_ ⟨by rw [uI_ne (by decide), uI_ne (by decide), g68], by rw [uI_ne (by decide), uI_ne (by decide), g69]⟩
  · exact iv_put (iv_put (iv_TF (iv_txI hi) h.1) (by rw [cell_674.1]; exact inI_fr _)) (by rw [cell_674.2.1]; exact inI_fr _)
  · exact qq_u (by decide) (qq_u (by decide) (qq_TF (qq_txI hq) h.1))
  · exact fr_u (by decide) (fr_u (by decide) (fr_txI h.1))
set_option maxRecDepth 100000 in
set_option maxHeartbeats 1000000 in
theorem tx_good167 (l : Launch) (d : Nat) (ru ta : Nat) (rs : List XO) (J : XJ) (Rp : XR) (Ib : XI) (hi : ivO CF [] Ib) (hq : QQ Ib) (hR : TXR ru ta rs Ib Rp) (t : Nat) (ht : t < 4) (e68 : Ib 68 3 = nI t) (T : Nat) (I : XI) (h : S4 (txI Ib) I T 310) (n : Nat) (hn : 400 < n) : txr l d ru ta rs J Rp (n + 1) 167 none none I := by
  obtain ⟨tf, hw, hst, at_, o, c, e1, e2, e3, e4, e5, e6, e7, c3, c4, c6, c7⟩ := h
  have g68 : I 68 = Ib 68 := tf.1 68 (by decide)
  have f68 : I 68 3 = nI t := by rw [g68]; exact e68
  have vt : vp_in (I 68 3) 4 := by rw [f68]; exact vp_in_nI ht (by omega)
  have hiI := iv_TF (iv_txI hi) tf
  have hqI := qq_TF (qq_txI hq) tf
  refine xrun_step fun K hK => ?_
  refine And.intro (fun _ => ?_) (fun z => absurd ?_ z)
  · refine And.intro (vp_b (by decide)) (And.intro vt ?_)
    refine hK 211 [some (.ref 67), some (.int (I 68 3)), some (.int (nI 0))] [] (shH ru ta rs) (uI (uI (uI I 67 4 (I 67 19)) 67 5 (I 67 20)) 71 (I 68 3).toNatClampNeg (I 67 30)) J 0 0 ?_
    rw [f68, nI_clamp (by omega), e6]
    refine tx_cp1 l d ru ta rs J Rp t o c ht (by omega) c7 (uI (uI (uI I 67 4 (I 67 19)) 67 5 (I 67 20)) 71 t (nI c)) e6 e5 (fun I5 I' h1 h2 => ?_) c 0 n _ (by omega) (by omega) ⟨fun _ _ => rfl, fun _ _ => ⟨rfl, rfl⟩, fun j hj => absurd hj (Nat.not_lt_zero j)⟩
    have z68 : I' 68 3 = nI t := by rw [h2.1 68 (by decide) (by decide), h1.1 68 (by decide)]; exact f68
    have fr4 : frO TXM Ib (uI (uI (uI I 67 4 (I 67 19)) 67 5 (I 67 20)) 71 t (nI c)) := fr_u (by decide) (fr_u (by decide) (fr_u (by decide) (fr_txI tf)))
    have fr5 : frO TXM Ib I5 := fr_tr (ns := [72, 73, 74, 75, 76]) (by decide) fr4 h1.1
    have fr6 : frO TXM Ib I' := fr_tr (ns := [77, 78]) (by decide) fr5 (fun p hp => h2.1 p (fun z => by subst z; cases hp) (fun z => by subst z; cases hp))
    have iv4 : ivO CF [] (uI (uI (uI I 67 4 (I 67 19)) 67 5 (I 67 20)) 71 t (nI c)) := iv_put (iv_put (iv_put hiI (by rw [cell_674.1]; exact inI_fr _)) (by rw [cell_674.2.1]; exact inI_fr _)) (by
      rw [cell_71, nI_toInt (by omega)]
      exact ⟨by dsimp only; omega, by dsimp only; omega⟩)
    have iv5 : ivO CF [] I5 := iv_frl iv4 (fun p hp => h1.1 p (by
      cases z : nmem p [72, 73, 74, 75, 76] with
      | false => rfl
      | true =>
        rw [nmem_of (nsub_el (a := [72, 73, 74, 75, 76]) (b := FRL) (by decide) (nmem_el z))] at hp
        cases hp))
    have iv6 : ivO CF [] I' := iv_frl iv5 (fun p hp => h2.1 p (fun z => by subst z; cases hp) (fun z => by subst z; cases hp))
    have g69 : I 69 = Ib 69 := tf.1 69 (by decide)
    refine hR (nI t) (uI I' 68 3 (I' 68 3 + 1)) J ?_ ?_ ?_ (fr_u (by decide) fr6) ⟨?_, ?_⟩
    · rw [nI_toInt (by omega)]
      exact ⟨by dsimp only; omega, by dsimp only; omega⟩
    · refine iv_put iv6 ?_
      rw [cell_674.2.2.2.2, z68, nI_1, nI_toInt (by omega)]
      exact ⟨by dsimp only; omega, by dsimp only; omega⟩
    · refine qq_text ht c7 (by omega) (Is := I) (I4 := uI (uI (uI I 67 4 (I 67 19)) 67 5 (I 67 20)) 71 t (nI c)) (I5 := I5) (I6 := I') ?_ (fun p hp => ?_) (fun t' => ?_) hqI c6 h1 h2 _ (fun p hp => uI_ne hp)
      · rw [uI_eq, uI_ne (by decide), uI_ne (by decide)]
      · have y : ∀ q, nmem q [72, 73, 77, 78, 84, 85, 89, 90] = false → p ≠ q := fun q hq z => by
          subst z
          rw [hq] at hp
          cases hp
        rw [uI_ne (y 71 rfl), uI_ne (y 67 rfl), uI_ne (y 67 rfl)]
      · have y : inI (0, 24) (I 71 t').toInt := by
          rw [← cell_71 t']
          exact hiI 71 t' rfl
        exact y.2
    · show I' 68 6 = Ib 68 6
      rw [h2.1 68 (by decide) (by decide), h1.1 68 (by decide), uI_ne (by decide), uI_ne (by decide), uI_ne (by decide), g68]
    · rw [uI_ne (by decide), h2.1 69 (by decide) (by decide), h1.1 69 (by decide), uI_ne (by decide), uI_ne (by decide), uI_ne (by decide), g69]
  · show I 67 19 ≤ 0
    rw [hw]
    exact Int32.le_refl _
theorem mu_le (I : XI) (T : Nat) : mu I T ≤ 4 * (T + 1) + 1 := by
  unfold mu rm
  split <;> split <;> omega
set_option maxRecDepth 100000 in
theorem tx_bad74 (l : Launch) (d : Nat) (ru ta : Nat) (rs : List XO) (J : XJ) (Rp : XR) (Ib : XI) (hi : ivO CF [] Ib) (hq : QQ Ib) (hR : TXR ru ta rs Ib Rp) (I : XI) (h : BAD (txI Ib) I) (n : Nat) (o1 o2 : Option Value) : txr l d ru ta rs J Rp (n + 1 + 1) 74 o1 o2 I := by
  refine xrun_step fun K hK => ?_
  refine And.intro (fun _ => ?_) (fun z => absurd z (pos_ne h.2))
  exact hK 167 [some (.ref 67), o1, o2] [] (shH ru ta rs) I J 0 0 (tx_bad167 l d ru ta rs J Rp Ib hi hq hR I h n o1 o2)
set_option maxRecDepth 100000 in
set_option maxHeartbeats 1000000 in
theorem tx_step74 (l : Launch) (d T : Nat) (hT : T ≤ 300) (ru ta : Nat) (rs : List XO) (J : XJ) (Rp : XR) (I0 : XI) (hs : shO CF (shH ru ta rs)) (hi : ivO CF [] I0) (hq : QQ I0) (I : XI) (h : GOOD I0 I T) (n : Nat) (x167 : S4 I0 I T 310 → txr l d ru ta rs J Rp n 167 none none I) (nxt : ∀ (I' : XI) (J' : XJ), NXT I0 I I' T → txr l d ru ta rs J' Rp n 74 none none I') : txr l d ru ta rs J Rp (n + 1) 74 none none I := by
  refine xrun_step fun K hK => ?_
  have nx : ∀ (I' : XI) (J' : XJ), NXT I0 I I' T → K 74 [some (.ref 67), none, none] [] (shH ru ta rs) I' J' 0 0 := fun I' J' b => hK 74 [some (.ref 67), none, none] [] (shH ru ta rs) I' J' 0 0 (nxt I' J' b)
  rcases h with h | h | h | h | h
  · have hw : I 67 19 = 0 := h.2.1
    have hst : I 67 28 = 4 := h.2.2.1
    refine And.intro (fun z => absurd hw z) (fun _ => ?_)
    refine And.intro (fun z => absurd hst z) (fun _ => ?_)
    refine And.intro (fun _ => ?_) (fun h17 => ?_)
    · exact hK 167 [some (.ref 67), none, none] [] (shH ru ta rs) I J 0 0 (x167 h)
    · refine And.intro (fun z => absurd (hst.symm.trans z) (by decide)) (fun _ => ?_)
      refine And.intro (fun z => absurd (hst.symm.trans z) (by decide)) (fun _ => ?_)
      refine And.intro (fun z => absurd (hst.symm.trans z) (by decide)) (fun _ => ?_)
      refine And.intro (fun z => absurd (hst.symm.trans z) (by decide)) (fun _ => ?_)
      exact st_clause l T hT ru ta rs I0 hs hi hq (d + 1) I J _ h h17 (fun I' J' b => nx I' J' b)
  · obtain ⟨G, y1, y2, y3, hst⟩ := id h
    have hw : I 67 19 = 0 := y3.2.1
    refine And.intro (fun z => absurd hw z) (fun _ => ?_)
    refine And.intro (fun _ => ?_) (fun z => absurd (hst.symm.trans z) (by decide))
    refine And.intro (fun _ => ?_) (fun z => absurd hst z)
    exact st_asks l T hT ru ta rs I0 hs hi hq (d + 3) I J _ h (fun I' J' b => nx I' J' b)
  · obtain ⟨G, y1, y2, y3, hst⟩ := id h
    have hw : I 67 19 = 0 := y3.2.1
    refine And.intro (fun z => absurd hw z) (fun _ => ?_)
    refine And.intro (fun _ => ?_) (fun z => absurd (hst.symm.trans z) (by decide))
    refine And.intro (fun z => absurd (hst.symm.trans z) (by decide)) (fun _ => ?_)
    refine And.intro (fun _ => ?_) (fun z => absurd hst z)
    exact st_begins l T hT ru ta rs I0 hs hi hq (d + 2) I J _ h (fun I' J' b => nx I' J' b)
  · obtain ⟨G, y1, y0, y2, y3, hst⟩ := id h
    have hw : I 67 19 = 0 := y3.2.1
    refine And.intro (fun z => absurd hw z) (fun _ => ?_)
    refine And.intro (fun _ => ?_) (fun z => absurd (hst.symm.trans z) (by decide))
    refine And.intro (fun z => absurd (hst.symm.trans z) (by decide)) (fun _ => ?_)
    refine And.intro (fun z => absurd (hst.symm.trans z) (by decide)) (fun _ => ?_)
    refine And.intro (fun _ => ?_) (fun z => absurd hst z)
    exact st_goesOn l T hT ru ta rs I0 hs hi hq d I J _ h (fun I' J' b => nx I' J' b)
  · obtain ⟨a, y2, y3, hst⟩ := id h
    have hw : I 67 19 = 0 := y3.2.1
    refine And.intro (fun z => absurd hw z) (fun _ => ?_)
    refine And.intro (fun _ => ?_) (fun z => absurd (hst.symm.trans z) (by decide))
    refine And.intro (fun z => absurd (hst.symm.trans z) (by decide)) (fun _ => ?_)
    refine And.intro (fun z => absurd (hst.symm.trans z) (by decide)) (fun _ => ?_)
    refine And.intro (fun z => absurd (hst.symm.trans z) (by decide)) (fun _ => ?_)
    refine And.intro (fun _ => ?_) (fun z => absurd hst z)
    exact st_asksOn l T hT ru ta rs I0 hs hi hq d I J _ h (fun I' J' b => nx I' J' b)
theorem tx_loop (l : Launch) (d T : Nat) (hT : T ≤ 300) (ru ta : Nat) (rs : List XO) (Rp : XR) (hs : shO CF (shH ru ta rs)) (Ib : XI) (hi : ivO CF [] Ib) (hq : QQ Ib) (hR : TXR ru ta rs Ib Rp) (t : Nat) (ht : t < 4) (e68 : Ib 68 3 = nI t) : ∀ (m n : Nat) (I : XI) (J : XJ), GOOD (txI Ib) I T → mu I T ≤ m → m + 410 < n → txr l d ru ta rs J Rp n 74 none none I := by
  intro m
  induction m with
  | zero =>
    intro n I J h hm hn
    obtain ⟨n, rfl⟩ : ∃ n', n = n' + 1 + 1 + 1 := ⟨n - 3, by omega⟩
    refine tx_step74 l d T hT ru ta rs J Rp (txI Ib) hs (iv_txI hi) (qq_txI hq) I h (n + 1 + 1) (fun s4 => tx_good167 l d ru ta rs J Rp Ib hi hq hR t ht e68 T I s4 (n + 1) (by omega)) (fun I' J' b => ?_)
    rcases b with b | ⟨_, b⟩
    · exact tx_bad74 l d ru ta rs J' Rp Ib hi hq hR I' b n none none
    · omega
  | succ m ih =>
    intro n I J h hm hn
    obtain ⟨n, rfl⟩ : ∃ n', n = n' + 1 + 1 + 1 := ⟨n - 3, by omega⟩
    refine tx_step74 l d T hT ru ta rs J Rp (txI Ib) hs (iv_txI hi) (qq_txI hq) I h (n + 1 + 1) (fun s4 => tx_good167 l d ru ta rs J Rp Ib hi hq hR t ht e68 T I s4 (n + 1) (by omega)) (fun I' J' b => ?_)
    rcases b with b | ⟨b, hb⟩
    · exact tx_bad74 l d ru ta rs J' Rp Ib hi hq hR I' b n none none
    · exact ih (n + 1 + 1) I' J' b (by omega) (by omega)
set_option maxRecDepth 100000 in
set_option maxHeartbeats 1000000 in
theorem tx_text (l : Launch) (d : Nat) (ru ta : Nat) (rs : List XO) (hs : shO CF (shH ru ta rs)) (I : XI) (J : XJ) (Rp : XR) (hi : ivO CF [] I) (hq : QQ I) (hR : TXR ru ta rs I Rp) : xm l (d + 10) 0 0 mX12_text [.ref 67] (shH ru ta rs) I J Rp := by
  have h3 : inI (0, 300) (I 67 3).toInt := by
    rw [← cell_674.2.2.2.1]
    exact hi 67 3 rfl
  have h68 : inI (0, 4) (I 68 3).toInt := by
    rw [← cell_674.2.2.2.2]
    exact hi 68 3 rfl
  obtain ⟨T, eT, _, hT, _⟩ := nI_inI h3 (by omega)
  obtain ⟨t, et, _, ht, _⟩ := nI_inI h68 (by omega)
  refine xm_ofK 1700 (X := xxX12) (t := tX12_text) (stop := [74, 167, 211, 318]) (ini := false) xx12 pl12 rfl kX12_text (fun h => by cases h) (Nat.le_of_ble_eq_true rfl) (fun K hK => ?_)
  refine And.intro (vp_b (by decide)) (And.intro (fun hne => ?_) (fun _ => ?_))
  · have ht4 : t < 4 := by
      rcases Nat.lt_or_ge t 4 with z | z
      · exact z
      · exfalso
        refine hne ?_
        show I 68 3 = nI 4
        rw [et, show t = 4 by omega]
    show xm l (d + 9) 0 0 mX12_next [.ref 67] (shH ru ta rs) (txS (txI I)) J _
    have tfS : TF (txI I) (txS (txI I)) := ((((((((TF.rf.u (p := 67) rfl (fun _ => by omega)).u (p := 67) rfl (fun _ => by omega)).u (p := 67) rfl (fun _ => by omega)).u (p := 67) rfl (fun _ => by omega)).u (p := 67) rfl (fun _ => by omega)).u (p := 67) rfl (fun _ => by omega)).u (p := 67) rfl (fun _ => by omega)).u (p := 67) rfl (fun _ => by omega)).u (p := 67) rfl (fun _ => by omega)
    refine tx_next l (d + 5) T (by omega) ru ta rs (txS (txI I)) J _ hs (iv_TF (iv_txI hi) tfS) (qq_TF (qq_txI hq) tfS) 0 eT rfl (by omega) (fun I2 J2 q => ?_)
    obtain ⟨q, a, a', h1, h2, h3, h4, h5, h6⟩ := q
    have s4 : S4 (txI I) I2 T 310 := by
      refine ⟨EQT.tf tfS q, by rw [q.2 19 (by omega)]; rfl, by rw [q.2 28 (by omega)]; rfl, a', 0, 0, by rw [q.2 14 (by omega)]; exact eT, h2, by rw [q.2 22 (by omega)]; rfl, by rw [q.2 25 (by omega)]; rfl, by rw [q.2 37 (by omega)]; rfl, by rw [q.2 30 (by omega)]; rfl, by rw [q.2 21 (by omega)]; rfl, ⟨h4, h6⟩, ?_, fun j hj => absurd hj (Nat.not_lt_zero j), by omega⟩
      split <;> omega
    exact hK 74 [some (.ref 67), none, none] [] (shH ru ta rs) I2 J2 0 0 (tx_loop l d T (by omega) ru ta rs Rp hs I hi hq hR t ht4 et 1205 1700 I2 J2 (Or.inl s4) (Nat.le_trans (mu_le I2 T) (by omega)) (by omega))
  · exact hR (-1) I J ⟨by decide, by decide⟩ hi hq (fun _ _ => rfl) ⟨rfl, rfl⟩
theorem ct_X12_text_0 : ctrO QQ CF ck_X12_text_0 mX12_text := by
  intro l d sh I J as Rp ha hce hs hi hq hR
  have ea := ag1 ha
  subst ea
  obtain ⟨ru, ta, rs, _, _, rfl⟩ := shX hs
  refine tx_text l (d + 10) ru ta rs hs I J Rp hi hq (fun r I' J' h0 h1 h2 h3 _ => ?_)
  exact hR _ _ I' J' hs (fun _ => rfl) h1 h2 h3 ⟨_, List.mem_cons_self, one_post ha ⟨r, rfl, h0⟩⟩
