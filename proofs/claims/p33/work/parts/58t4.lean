-- ===== the reference reads a text: its states =====
def S4 (I0 I : XI) (T b : Nat) : Prop := TF I0 I ∧ I 67 19 = 0 ∧ I 67 28 = 4 ∧ ∃ at_ o c : Nat, I 67 14 = nI T ∧ I 67 15 = nI at_ ∧ I 67 22 = nI 0 ∧ I 67 25 = nI 0 ∧ I 67 37 = nI o ∧ I 67 30 = nI c ∧ I 67 21 = nI 0 ∧ (at_ ≤ T ∧ (I 67 17 = 1 → (I 67 18).toInt ≤ 31)) ∧ o + (if I 67 17 = 0 then 0 else 1) + (T - at_) ≤ b ∧ DNc (I 89) (I 90) (I 84) (I 85) c o ∧ c ≤ 24
def BAD (I0 I : XI) : Prop := TF I0 I ∧ 0 < I 67 19
def A0 (I0 I : XI) (T : Nat) : Prop := ∃ G, Sh0 G ∧ opN G ≤ 8 ∧ ST I0 I G T 0 310 ∧ I 67 28 = 0
def A1 (I0 I : XI) (T : Nat) : Prop := ∃ G, Sh1 G ∧ opN G ≤ 8 ∧ ST I0 I G T 0 310 ∧ I 67 28 = 1
def A2 (I0 I : XI) (T : Nat) : Prop := ∃ G, Sh1 G ∧ top78 G ∧ opN G ≤ 8 ∧ ST I0 I G T 1 310 ∧ I 67 28 = 2
def A3 (I0 I : XI) (T : Nat) : Prop := ∃ a, OPS 1 a ∧ ST I0 I [(2, a)] T 1 310 ∧ I 67 28 = 3
def GOOD (I0 I : XI) (T : Nat) : Prop := S4 I0 I T 310 ∨ A0 I0 I T ∨ A1 I0 I T ∨ A2 I0 I T ∨ A3 I0 I T
def mu (I : XI) (T : Nat) : Nat := 4 * rm I T + (if I 67 28 = 0 ∨ I 67 28 = 2 then 1 else 0)
def NXT (I0 I I' : XI) (T : Nat) : Prop := BAD I0 I' ∨ (GOOD I0 I' T ∧ mu I' T < mu I T)
theorem ER.bad {I0 I I' : XI} (h : TF I0 I) (e : ER I I') (hw : I 67 19 = 0) : BAD I0 I' := ⟨e.tf h, e.2.2.2 (Or.inl hw)⟩
theorem pos_ne {x : Int32} (h : 0 < x) : ¬ x = 0 := fun z => by
  subst z
  exact absurd h (by decide)
theorem mu_lt {I I' : XI} {T : Nat} (h : rm I' T < rm I T) : mu I' T < mu I T := by
  unfold mu
  split <;> split <;> omega
theorem nIs (n : Nat) (h : n < 1000) (hn : n ≠ 0) : nI n ≠ 0 := nI_ne0 (by omega) (by omega)
theorem ST_st {I0 I : XI} {G : TG} {T x b : Nat} {v : Int32} (h : ST I0 I G T x b) : ST I0 (uI I 67 28 v) G T x b := by
  obtain ⟨tf, hw, at_, n, w, o, c, op, e1, e2, e3, e4, e5, e6, e7, c1⟩ := h
  exact ⟨tf.u (p := 67) rfl (fun _ => by omega), hw, at_, n, w, o, c, op, e1, e2, e3, e4, e5, e6, e7, c1⟩
set_option maxRecDepth 100000 in
set_option maxHeartbeats 1000000 in
theorem st_asks (l : Launch) (T : Nat) (hT : T ≤ 300) (ru ta : Nat) (rs : List XO) (I0 : XI) (hs : shO CF (shH ru ta rs)) (hi : ivO CF [] I0) (hq : QQ I0) (d : Nat) (I : XI) (J : XJ) (Rp : XR) (h : A0 I0 I T) (hR : ∀ (I' : XI) (J' : XJ), NXT I0 I I' T → Rp none (shH ru ta rs) I' J') : xm l (d + 6) 0 0 mX12_asks [.ref 67] (shH ru ta rs) I J Rp := by
  obtain ⟨G, h0, hop, h, hst⟩ := h
  have hn := Sh0_n h0
  refine xm_ofK 0 (X := xxX12) (t := tX12_asks) (stop := []) (ini := false) xx12 pl12 rfl kX12_asks (fun h => by cases h) (Nat.le_of_ble_eq_true rfl) (fun K hK => ?_)
  refine tx_isWord l (d + 4) 21 ru ta rs I J _ (fun g1 _ => ?_) (fun _ => ?_)
  · refine And.intro (fun h => absurd h (by decide)) (fun _ => ?_)
    refine st_opensSign l T hT ru ta rs I0 hs hi hq d G 310 (by omega) (by omega) hop 3 (Or.inl rfl) I J _ h (by rw [g1]; decide) (fun I' e => ?_) (fun I' J' s1 p1 e1 r1 => ?_)
    · exact hR I' J (Or.inl (e.bad h.1 h.2.1))
    · exact hR I' J' (Or.inr ⟨Or.inr (Or.inl ⟨(3, []) :: G, Or.inr ⟨rfl, rfl, h0⟩, by simp [opN]; omega, s1, by rw [e1]; exact hst⟩), mu_lt r1⟩)
  · refine And.intro (fun _ => ?_) (fun h => absurd rfl h)
    obtain ⟨tf, hw, at_, n, w, o, c, op, e1, e2, e3, e4, e5, e6, e7, c1, c2, c3, c4, c5, c6, c7⟩ := h
    have hl := Rep_len c1
    refine tx_opensFrame l (d + 4) n (by omega) (nI 4) ru ta rs I J _ e3 ?_
    refine hR (uI (ofI I n (nI 4)) 67 28 1) J (Or.inr ⟨Or.inr (Or.inr (Or.inl ⟨(4, []) :: G, Or.inr (Or.inl ⟨Or.inl rfl, trivial, h0⟩), by simpa [opN] using hop, ?_, rfl⟩)), ?_⟩)
    · refine ⟨((tf.u (p := 79) rfl (fun z => by cases z)).u (p := 67) rfl (fun _ => by omega)).u (p := 67) rfl (fun _ => by omega), hw, at_, n + 1, w, o, c, op, e1, e2, rfl, e4, e5, e6, e7, ⟨⟨n, w, rfl, pk_us, fun z => by omega, rfl, Rep_up c1 (fun i hi => pk_un (by omega)) (fun _ _ => rfl) (fun _ _ => ⟨rfl, rfl⟩)⟩, by simpa [opN] using c2, c3, ?_, ?_, c6, c7⟩⟩
      · have : wtN ((4, []) :: G) = wtN G := by simp [wtN]
        show o + w + wtN ((4, []) :: G) + (if I 67 17 = 0 then 0 else 1) + (T - at_) ≤ 310
        omega
      · have : rN ((4, []) :: G) = rN G := by simp [rN]
        rw [this]
        exact c5
    · have r : rm (uI (ofI I n (nI 4)) 67 28 1) T = rm I T := rm_of rfl rfl
      unfold mu
      rw [r, if_neg (show ¬ (uI (ofI I n (nI 4)) 67 28 1 67 28 = 0 ∨ uI (ofI I n (nI 4)) 67 28 1 67 28 = 2) by
        show ¬ ((1 : Int32) = 0 ∨ (1 : Int32) = 2)
        decide), if_pos (Or.inl hst)]
      omega
-- ===== numbers of clauses =====
set_option maxRecDepth 100000 in
theorem tx_number (l : Launch) (T : Nat) (hT : T ≤ 300) (ru ta : Nat) (rs : List XO) (hs : shO CF (shH ru ta rs)) (d : Nat) (lo hi_ : Int32) (I : XI) (J : XJ) (Rp : XR) (hi : ivO CF [] I) (hq : QQ I) (a : Nat) (e14 : I 67 14 = nI T) (e15 : I 67 15 = nI a) (ha : a ≤ T) (hR : ∀ (r : Int32) (I' : XI) (J' : XJ), (ER I I' ∨ (NX I I' T ∧ I 67 17 = 2)) → Rp (some (.int r)) (shH ru ta rs) I' J') : xm l (d + 5) 0 0 mX12_number [.ref 67, .int lo, .int hi_] (shH ru ta rs) I J Rp := by
  refine xm_ofK 0 (X := xxX12) (t := tX12_number) (stop := []) (ini := false) xx12 pl12 rfl kX12_number (fun h => by cases h) (Nat.le_of_ble_eq_true rfl) (fun K hK => ?_)
  refine And.intro (fun _ => ?_) (fun _ => And.intro (fun h2 => ?_) (fun _ => ?_))
  · exact tx_errs l (d + 3) 1 (by decide) ru ta rs I J _ (fun I' e => hR lo I' J (Or.inl e))
  · refine tx_in l (d + 3) (I 67 18) lo hi_ _ _ _ _ (fun _ _ => ?_) (fun _ => ?_)
    · refine And.intro (fun _ => ?_) (fun h => absurd h (by decide))
      exact tx_next l d T hT ru ta rs I J _ hs hi hq a e14 e15 ha (fun I' J' q => hR (I 67 18) I' J' (Or.inr ⟨q, h2⟩))
    · refine And.intro (fun h => absurd rfl h) (fun _ => ?_)
      exact tx_errs l (d + 3) 2 (by decide) ru ta rs I J _ (fun I' e => hR lo I' J (Or.inl e))
  · exact tx_errs l (d + 3) 1 (by decide) ru ta rs I J _ (fun I' e => hR lo I' J (Or.inl e))
theorem ST_83 {I0 I : XI} {G : TG} {T x b i : Nat} {v : Int32} (h : ST I0 I G T x b) : ST I0 (uI I 83 i v) G T x b := by
  obtain ⟨tf, hw, at_, n, w, o, c, op, e1, e2, e3, e4, e5, e6, e7, c1⟩ := h
  exact ⟨tf.u (p := 83) rfl (fun z => by cases z), hw, at_, n, w, o, c, op, e1, e2, e3, e4, e5, e6, e7, c1⟩
theorem ST_nx {I0 I I' : XI} {G : TG} {T x b : Nat} (hT : T ≤ 300) (h : ST I0 I G T x b) (h0 : I 67 17 ≠ 0) (q : NX I I' T) : ST I0 I' G T x b := ⟨EQT.tf h.1 q.1, by rw [q.1.2 19 (by omega)]; exact h.2.1, TX_next hT (TX_b h.2.2 (by omega)) h0 q⟩
set_option maxRecDepth 100000 in
set_option maxHeartbeats 1000000 in
theorem st_part (l : Launch) (T : Nat) (hT : T ≤ 300) (ru ta : Nat) (rs : List XO) (I0 : XI) (hs : shO CF (shH ru ta rs)) (hi : ivO CF [] I0) (hq : QQ I0) (d : Nat) (G : TG) (h1 : Sh1 G) (hop : opN G ≤ 8) (I : XI) (J : XJ) (Rp : XR) (h : ST I0 I G T 0 310) (hst : I 67 28 = 1) (hso : I 67 17 ≠ 0) (hR : ∀ (I' : XI) (J' : XJ), NXT I0 I I' T → Rp none (shH ru ta rs) I' J') : xm l (d + 6) 0 0 mX12_part [.ref 67] (shH ru ta rs) I J Rp := by
  have hn := Sh1_n h1
  refine xm_ofK 0 (X := xxX12) (t := tX12_part) (stop := []) (ini := false) xx12 pl12 rfl kX12_part (fun h => by cases h) (Nat.le_of_ble_eq_true rfl) (fun K hK => ?_)
  refine st_opensSign l T hT ru ta rs I0 hs hi hq d G 310 (by omega) (by omega) hop 8 (by simp) I J _ h hso (fun I' e => ?_) (fun I1 J1 s1 p1 t1 r1 => ?_)
  · refine And.intro (fun h => absurd rfl h) (fun _ => ?_)
    exact hR I' J (Or.inl (e.bad h.1 h.2.1))
  · refine And.intro (fun _ => ?_) (fun h => absurd h (by decide))
    have s1' := s1
    obtain ⟨tf, hw, at_, n, w, o, c, op, e1, e2, e3, e4, e5, e6, e7, c1, c2, c3, c4, c5, c6, c7⟩ := s1
    have hl := Rep_len c1
    simp only [List.length_cons] at hl
    have en : I1 67 22 - nI 1 = nI (n - 1) := by
      obtain ⟨m, rfl⟩ : ∃ m, n = m + 1 := ⟨n - 1, by omega⟩
      rw [e3]
      exact nI_pred m
    have vp : vp_in (I1 67 22 - nI 1) 40 := by
      rw [en]
      exact vp_in_nI (by omega) (by omega)
    refine tx_number l T hT ru ta rs hs d 0 100 I1 J1 _ (iv_TF hi tf) (qq_TF hq tf) at_ e1 e2 c3.1 (fun r I2 J2 q => ?_)
    refine And.intro vp ?_
    rcases q with q | ⟨q, q2⟩
    · -- a fault
      have w3 : ¬ I2 67 19 = 0 := q.1
      refine And.intro (fun _ => ?_) (fun h => absurd h w3)
      refine And.intro (fun _ => ?_) (fun h => absurd h w3)
      have b3 : BAD I0 (uI I2 83 (I1 67 22 - nI 1).toNatClampNeg r) := ⟨(q.tf tf).u (p := 83) rfl (fun z => by cases z), q.2.2.2 (Or.inl s1'.2.1)⟩
      exact hR _ J2 (Or.inl b3)
    · have s2 := ST_nx hT s1' (by rw [q2]; decide) q
      have s3 : ST I0 (uI I2 83 (I1 67 22 - nI 1).toNatClampNeg r) ((8, []) :: G) T 0 310 := ST_83 s2
      have r2 := rm_nx hT (by rw [q2]; decide) q
      have r3 : rm (uI I2 83 (I1 67 22 - nI 1).toNatClampNeg r) T = rm I2 T := rm_of rfl rfl
      have w3 : I2 67 19 = 0 := s2.2.1
      have t3 : I2 67 28 = 1 := by rw [q.1.2 28 (by omega), t1]; exact hst
      refine And.intro (fun h => absurd w3 h) (fun _ => ?_)
      refine tx_isWord l (d + 4) 15 ru ta rs _ J2 _ (fun g1 g2 => ?_) (fun _ => ?_)
      · refine And.intro (fun _ => ?_) (fun h => absurd h (by decide))
        refine And.intro (fun h => absurd w3 h) (fun _ => ?_)
        refine st_next l T hT ru ta rs I0 hs hi hq (d + 1) ((8, []) :: G) 0 310 _ J2 _ (ST_b s3 (by omega)) (by rw [g1]; decide) (fun I4 J4 s4 q4 r4 => ?_)
        have r4 : rm I4 T < rm (uI I2 83 (I1 67 22 - nI 1).toNatClampNeg r) T := r4
        refine hR I4 J4 (Or.inr ⟨Or.inr (Or.inr (Or.inl ⟨(8, []) :: G, Or.inr (Or.inr (Or.inr ⟨Or.inr rfl, rfl, h1⟩)), by simp [opN]; omega, s4, by rw [q4.2 28 (by omega)]; exact t3⟩)), mu_lt (by omega)⟩)
      · refine And.intro (fun h => absurd rfl h) (fun _ => ?_)
        refine tx_errs l (d + 4) 1 (by decide) ru ta rs _ J2 _ (fun I4 e4 => ?_)
        have w4 : ¬ I4 67 19 = 0 := e4.1
        refine And.intro (fun _ => ?_) (fun h => absurd h w4)
        exact hR I4 J2 (Or.inl (e4.bad s3.1 w3))
set_option maxRecDepth 100000 in
set_option maxHeartbeats 1000000 in
theorem tx_nameNow (l : Launch) (d : Nat) (ru ta : Nat) (rs : List XO) (I : XI) (J : XJ) (Rp : XR) (ht : I 67 17 = 1 → (I 67 18).toInt ≤ 31) (hR : ∀ r : Int32, (r = -1 ∨ (I 67 17 = 1 ∧ 0 ≤ r.toInt ∧ r.toInt ≤ 10)) → Rp (some (.int r)) (shH ru ta rs) I J) : xm l (d + 1) 0 0 mX12_nameNow [.ref 67] (shH ru ta rs) I J Rp := by
  refine xm_ofK 0 (X := xxX12) (t := tX12_nameNow) (stop := []) (ini := false) xx12 pl12 rfl kX12_nameNow (fun h => by cases h) (Nat.le_of_ble_eq_true rfl) (fun K hK => ?_)
  refine And.intro (fun h1 => ?_) (fun _ => hR (-1) (Or.inl rfl))
  have h1 : I 67 17 = 1 := h1
  have h31 := ht h1
  refine And.intro (fun _ => hR 4 (Or.inr ⟨h1, by decide, by decide⟩)) (fun _ => ?_)
  refine And.intro (fun _ => hR 1 (Or.inr ⟨h1, by decide, by decide⟩)) (fun _ => ?_)
  refine And.intro (fun _ => hR 0 (Or.inr ⟨h1, by decide, by decide⟩)) (fun _ => ?_)
  refine And.intro (fun h24 => ?_) (fun _ => hR (-1) (Or.inl rfl))
  have h24 : nI 24 ≤ I 67 18 := h24
  have g24 : 24 ≤ (I 67 18).toInt := by
    have := Int32.le_iff_toInt_le.mp h24
    rw [nI_toInt (by omega)] at this
    omega
  refine And.intro (fun h26 => ?_) (fun h26 => ?_)
  · have h26 : nI 26 ≤ I 67 18 := h26
    have g26 : 26 ≤ (I 67 18).toInt := by
      have := Int32.le_iff_toInt_le.mp h26
      rw [nI_toInt (by omega)] at this
      omega
    have e1 : (I 67 18 - nI 26).toInt = (I 67 18).toInt - 26 := by
      rw [i32_sub (by rw [nI_toInt (by omega)]; omega) (by rw [nI_toInt (by omega)]; omega), nI_toInt (by omega)]
      rfl
    have e2 : (I 67 18 - nI 26 + nI 5).toInt = (I 67 18).toInt - 26 + 5 := by
      rw [i32_add (by rw [e1, nI_toInt (by omega)]; omega) (by rw [e1, nI_toInt (by omega)]; omega), e1, nI_toInt (by omega)]
      rfl
    exact hR (I 67 18 - nI 26 + nI 5) (Or.inr ⟨h1, by omega, by omega⟩)
  · have h26 : ¬ nI 26 ≤ I 67 18 := h26
    have g26 : (I 67 18).toInt < 26 := by
      have z : ¬ (nI 26).toInt ≤ (I 67 18).toInt := fun z => h26 (Int32.le_iff_toInt_le.mpr z)
      rw [nI_toInt (by omega)] at z
      omega
    have e1 : (I 67 18 - nI 24).toInt = (I 67 18).toInt - 24 := by
      rw [i32_sub (by rw [nI_toInt (by omega)]; omega) (by rw [nI_toInt (by omega)]; omega), nI_toInt (by omega)]
      rfl
    have e2 : (I 67 18 - nI 24 + nI 2).toInt = (I 67 18).toInt - 24 + 2 := by
      rw [i32_add (by rw [e1, nI_toInt (by omega)]; omega) (by rw [e1, nI_toInt (by omega)]; omega), e1, nI_toInt (by omega)]
      rfl
    exact hR (I 67 18 - nI 24 + nI 2) (Or.inr ⟨h1, by omega, by omega⟩)
set_option maxRecDepth 100000 in
set_option maxHeartbeats 2000000 in
theorem st_begins (l : Launch) (T : Nat) (hT : T ≤ 300) (ru ta : Nat) (rs : List XO) (I0 : XI) (hs : shO CF (shH ru ta rs)) (hi : ivO CF [] I0) (hq : QQ I0) (d : Nat) (I : XI) (J : XJ) (Rp : XR) (h : A1 I0 I T) (hR : ∀ (I' : XI) (J' : XJ), NXT I0 I I' T → Rp none (shH ru ta rs) I' J') : xm l (d + 7) 0 0 mX12_begins [.ref 67] (shH ru ta rs) I J Rp := by
  obtain ⟨G, h1, hop, h, hst⟩ := h
  have hn := Sh1_n h1
  have ht : I 67 17 = 1 → (I 67 18).toInt ≤ 31 := by
    obtain ⟨_, _, at_, n, w, o, c, op, e1, e2, e3, e4, e5, e6, e7, c1, c2, c3, c4⟩ := h
    exact c3.2
  have err : ∀ (d' : Nat) (f : Int32) (Rq : XR), 0 < f → (∀ (I' : XI) (J' : XJ), BAD I0 I' → Rq none (shH ru ta rs) I' J') → xm l (d' + 1) 0 0 mX12_errs [.ref 67, .int f] (shH ru ta rs) I J Rq := fun d' f Rq hf hq => tx_errs l d' f hf ru ta rs I J Rq (fun I' e => hq I' J (e.bad h.1 h.2.1))
  refine xm_ofK 0 (X := xxX12) (t := tX12_begins) (stop := []) (ini := false) xx12 pl12 rfl kX12_begins (fun h => by cases h) (Nat.le_of_ble_eq_true rfl) (fun K hK => ?_)
  refine tx_nameNow l (d + 5) ru ta rs I J _ ht (fun r hr => ?_)
  refine And.intro (fun n2 => ?_) (fun is2 => ?_)
  · refine And.intro (fun _ => ?_) (fun hne => ?_)
    · -- no name
      refine tx_isSign l (d + 5) 40 ru ta rs I J _ (fun g1 g2 => ?_) (fun ng => ?_)
      · refine And.intro (fun _ => ?_) (fun h => absurd h (by decide))
        refine tx_isSign l (d + 5) 40 ru ta rs I J _ (fun _ _ => ?_) (fun ng => absurd ⟨g1, g2⟩ ng)
        refine And.intro (fun h => absurd h (by decide)) (fun _ => ?_)
        refine st_opensSign l T hT ru ta rs I0 hs hi hq (d + 1) G 310 (by omega) (by omega) hop 6 (by simp) I J _ h (by rw [g1]; decide) (fun I' e => ?_) (fun I' J' s1 p1 t1 r1 => ?_)
        · exact hR I' J (Or.inl (e.bad h.1 h.2.1))
        · exact hR I' J' (Or.inr ⟨Or.inr (Or.inr (Or.inl ⟨(6, []) :: G, Or.inr (Or.inr (Or.inl ⟨rfl, trivial, h1⟩)), by simp [opN]; omega, s1, by rw [t1]; exact hst⟩)), mu_lt r1⟩)
      · refine And.intro (fun h => absurd rfl h) (fun _ => ?_)
        refine tx_isSign l (d + 5) 45 ru ta rs I J _ (fun g1 g2 => ?_) (fun ng2 => ?_)
        · refine And.intro (fun h => absurd h (by decide)) (fun _ => ?_)
          refine tx_isSign l (d + 5) 40 ru ta rs I J _ (fun w1 w2 => absurd ⟨w1, w2⟩ ng) (fun _ => ?_)
          refine And.intro (fun _ => ?_) (fun h => absurd rfl h)
          refine st_opensSign l T hT ru ta rs I0 hs hi hq (d + 1) G 310 (by omega) (by omega) hop 7 (by simp) I J _ h (by rw [g1]; decide) (fun I' e => ?_) (fun I' J' s1 p1 t1 r1 => ?_)
          · exact hR I' J (Or.inl (e.bad h.1 h.2.1))
          · exact hR I' J' (Or.inr ⟨Or.inr (Or.inr (Or.inl ⟨(7, []) :: G, Or.inr (Or.inr (Or.inr ⟨Or.inl rfl, rfl, h1⟩)), by simp [opN]; omega, s1, by rw [t1]; exact hst⟩)), mu_lt r1⟩)
        · refine And.intro (fun _ => ?_) (fun h => absurd rfl h)
          refine tx_isWord l (d + 5) 22 ru ta rs I J _ (fun g1 g2 => ?_) (fun _ => ?_)
          · refine And.intro (fun h => absurd h (by decide)) (fun _ => ?_)
            exact st_part l T hT ru ta rs I0 hs hi hq d G h1 hop I J _ h hst (by rw [g1]; decide) hR
          · refine And.intro (fun _ => ?_) (fun h => absurd rfl h)
            exact err (d + 5) 1 _ (by decide) (fun I' J' b => hR I' J' (Or.inl b))
    · have hr2 : I 67 17 = 1 ∧ 0 ≤ r.toInt ∧ r.toInt ≤ 10 := by
        rcases hr with z | z
        · exact absurd z hne
        · exact z
      refine ctr_at ct_X12_mayName_0 (Nat.le_trans (Nat.le_of_ble_eq_true rfl : ck_X12_mayName_0.1 ≤ 1) (by omega)) l _ I J [.int r, .int (I 67 31)] _ ⟨inI_fr _, inI_fr _, trivial⟩ (fun e he => by cases he) hs (iv_TF hi h.1) (qq_TF hq h.1) ?_
      intro v1 sh1 I1 J1 g1 w1 i1 q1 f1 p1
      have e1 := w1 rfl
      subst e1
      have e2 : I1 = I := funext fun p => f1 p rfl
      subst e2
      obtain ⟨r1, rfl, _⟩ := le_post (w := 1) (by decide) p1
      refine And.intro (fun _ => ?_) (fun _ => ?_)
      · refine st_num l (d + 5) T ru ta rs I0 G 310 (by omega) I1 J1 _ 401 r (Or.inr ⟨rfl, hr2.2⟩) (by omega) h (fun I2 s2 k2 => ?_)
        refine st_next l T hT ru ta rs I0 hs hi hq (d + 2) G 1 310 I2 J1 _ s2 (by rw [k2.1, hr2.1]; decide) (fun I3 J3 s3 q3 r3 => ?_)
        refine st_oneIsOver l (d + 4) T ru ta rs I0 310 (by omega) J3 _ G I3 (by omega) h1 s3 (fun I4 G4 s4 z1 z2 z3 z4 z5 => ?_)
        have e5 := rm_of (T := T) k2.1 k2.2.2.2
        exact hR I4 J3 (Or.inr ⟨Or.inr (Or.inr (Or.inr (Or.inl ⟨G4, z1, z2, by omega, s4, z4⟩))), mu_lt (by omega)⟩)
      · exact tx_errs l (d + 5) 5 (by decide) ru ta rs I1 J1 _ (fun I' e => hR I' J1 (Or.inl (e.bad h.1 h.2.1)))
  · have is2 : I 67 17 = 2 := is2
    refine And.intro (fun _ => ?_) (fun _ => ?_)
    · refine st_num l (d + 5) T ru ta rs I0 G 310 (by omega) I J _ 400 (I 67 18) (Or.inl rfl) (by omega) h (fun I2 s2 k2 => ?_)
      refine st_next l T hT ru ta rs I0 hs hi hq (d + 2) G 1 310 I2 J _ s2 (by rw [k2.1, is2]; decide) (fun I3 J3 s3 q3 r3 => ?_)
      refine st_oneIsOver l (d + 4) T ru ta rs I0 310 (by omega) J3 _ G I3 (by omega) h1 s3 (fun I4 G4 s4 z1 z2 z3 z4 z5 => ?_)
      have e5 := rm_of (T := T) k2.1 k2.2.2.2
      exact hR I4 J3 (Or.inr ⟨Or.inr (Or.inr (Or.inr (Or.inl ⟨G4, z1, z2, by omega, s4, z4⟩))), mu_lt (by omega)⟩)
    · exact err (d + 5) 2 _ (by decide) (fun I' J' b => hR I' J' (Or.inl b))
-- ===== what goes on =====
set_option maxRecDepth 100000 in
theorem tx_isAsking (l : Launch) (d : Nat) (x : Int32) (sh : List XO) (I : XI) (J : XJ) (Rp : XR) (h1 : isBin x → Rp (some (.int 1)) sh I J) (h0 : Rp (some (.int 0)) sh I J) : xm l (d + 1) 0 0 mX12_isAsking [.int x] sh I J Rp := by
  have b : ∀ c : Int32, isBin c → x = c → Rp (some (.int 1)) sh I J := fun c hc e => h1 (by rw [e]; exact hc)
  refine xm_ofK 0 (X := xxX12) (t := tX12_isAsking) (stop := []) (ini := false) xx12 pl12 rfl kX12_isAsking (fun h => by cases h) (Nat.le_of_ble_eq_true rfl) (fun K hK => ?_)
  refine And.intro (fun h => And.intro (Or.inr rfl) (b 60 (by unfold isBin; decide) h)) (fun _ => ?_)
  refine And.intro (fun h => And.intro (Or.inr rfl) (b 62 (by unfold isBin; decide) h)) (fun _ => ?_)
  refine And.intro (fun h => And.intro (Or.inr rfl) (b 61 (by unfold isBin; decide) h)) (fun _ => ?_)
  refine And.intro (fun h => And.intro (Or.inr rfl) (b 35 (by unfold isBin; decide) h)) (fun _ => ?_)
  refine And.intro (fun h => And.intro (Or.inr rfl) (b 300 (by unfold isBin; decide) h)) (fun _ => ?_)
  exact And.intro (fun _ => And.intro (Or.inl rfl) h0) (fun h => And.intro (Or.inr rfl) (b 301 (by unfold isBin; decide) h))
/-- a clause is over: where its orders are over (or it has none that count) -/
def CL (I0 I : XI) (T b : Nat) : Prop := TF I0 I ∧ I 67 19 = 0 ∧ ∃ at_ o c : Nat, I 67 14 = nI T ∧ I 67 15 = nI at_ ∧ I 67 25 = nI 0 ∧ I 67 37 = nI o ∧ I 67 30 = nI c ∧ I 67 21 = nI 0 ∧ (at_ ≤ T ∧ (I 67 17 = 1 → (I 67 18).toInt ≤ 31)) ∧ o + (if I 67 17 = 0 then 0 else 1) + (T - at_) ≤ b ∧ DNc (I 89) (I 90) (I 84) (I 85) c o ∧ c < 24 ∧ ((I 84 c).toInt ≤ 4 → ∃ h, PGc (I 89) (I 90) (I 85) c o h)
set_option maxRecDepth 100000 in
set_option maxHeartbeats 1000000 in
theorem cl_end (l : Launch) (T : Nat) (hT : T ≤ 300) (ru ta : Nat) (rs : List XO) (I0 : XI) (hs : shO CF (shH ru ta rs)) (hi : ivO CF [] I0) (hq : QQ I0) (d : Nat) (I : XI) (J : XJ) (Rp : XR) (works : ∀ (Rq : XR), (∀ I1, CL I0 I1 T 310 → KP I I1 → Rq none (shH ru ta rs) I1 J) → xm l (d + 5) 0 0 mX12_works [.ref 67, .int 1] (shH ru ta rs) I J Rq) (h0 : I 67 17 ≠ 0) (hR : ∀ (I' : XI) (J' : XJ), S4 I0 I' T 310 → rm I' T < rm I T → Rp none (shH ru ta rs) I' J') : xm l (d + 6) 0 0 mX12_clauseIsOver [.ref 67] (shH ru ta rs) I J Rp := by
  refine xm_ofK 0 (X := xxX12) (t := tX12_clauseIsOver) (stop := []) (ini := false) xx12 pl12 rfl kX12_clauseIsOver (fun h => by cases h) (Nat.le_of_ble_eq_true rfl) (fun K hK => ?_)
  refine works _ (fun I1 c1 k1 => ?_)
  obtain ⟨tf, hw, at_, o, c, e1, e2, e4, e5, e6, e7, c3, c4, c6, c7, c8⟩ := c1
  refine tx_emits l (d + 4) o (by omega) 408 0 ru ta rs (uI I1 67 22 0) J _ e5 ?_
  have ec : I1 67 30 + nI 1 = nI (c + 1) := by rw [e6, nI_add]
  show xm l (d + 5) 0 0 mX12_next [.ref 67] (shH ru ta rs) (uI (emI (uI I1 67 22 0) o 408 0) 67 30 (I1 67 30 + nI 1)) J _
  rw [ec]
  have tf2 : TF I0 (uI (emI (uI I1 67 22 0) o 408 0) 67 30 (nI (c + 1))) := ((tf.u (p := 67) rfl (fun _ => by omega)).em o 408 0).u (p := 67) rfl (fun _ => by omega)
  have h17 : I1 67 17 ≠ 0 := by rw [k1.1]; exact h0
  refine tx_next l (d + 1) T hT ru ta rs _ J _ hs (iv_TF hi tf2) (qq_TF hq tf2) at_ e1 e2 c3.1 (fun I2 J2 q => ?_)
  have r2 : rm I2 T < rm (uI (emI (uI I1 67 22 0) o 408 0) 67 30 (nI (c + 1))) T := rm_nx hT h17 q
  have r1 : rm (uI (emI (uI I1 67 22 0) o 408 0) 67 30 (nI (c + 1))) T = rm I T := rm_of k1.1 k1.2.2.2
  have q0 := q
  obtain ⟨q, a, a', h1, h2, h3, h4, h5, h6⟩ := q
  have ea : at_ = a := nI_small (e2.symm.trans h1) (by omega) (by omega)
  subst ea
  have r3 : rm (uI I2 67 28 4) T = rm I2 T := rm_of rfl rfl
  have d2 : DNc (upd (I1 89) o 408) (upd (I1 90) o 0) (I1 84) (I1 85) (c + 1) (o + 1) := by
    intro j hj hj4
    by_cases z : j = c
    · subst z
      obtain ⟨hh, a, m, y1, y2, y3⟩ := c8 hj4
      refine ⟨a, m, hh, y1, by omega, Pg_up y3 (fun i hi => ⟨pk_un (by omega), pk_un (by omega)⟩), ?_⟩
      rw [← y2, pk_us]
    · exact dn_emit c6 j (by omega) hj4
  refine hR (uI I2 67 28 4) J2 ⟨(EQT.tf tf2 q).u (p := 67) rfl (fun _ => by omega), ?_, rfl, a', o + 1, c + 1, ?_, h2, ?_, ?_, ?_, ?_, ?_, ⟨h4, h6⟩, ?_, ?_, by omega⟩ (by omega)
  · show I2 67 19 = 0
    rw [q.2 19 (by omega)]
    exact hw
  · show I2 67 14 = nI T
    rw [q.2 14 (by omega)]
    exact e1
  · show I2 67 22 = nI 0
    rw [q.2 22 (by omega)]
    rfl
  · show I2 67 25 = nI 0
    rw [q.2 25 (by omega)]
    exact e4
  · show I2 67 37 = nI (o + 1)
    rw [q.2 37 (by omega)]
    rfl
  · show I2 67 30 = nI (c + 1)
    rw [q.2 30 (by omega)]
    rfl
  · show I2 67 21 = nI 0
    rw [q.2 21 (by omega)]
    exact e7
  · show o + 1 + (if I2 67 17 = 0 then 0 else 1) + (T - a') ≤ 310
    rw [if_neg h17] at c4
    rcases h5 with z | z
    · rw [if_pos z]
      omega
    · split <;> omega
  · show DNc (I2 89) (I2 90) (I2 84) (I2 85) (c + 1) (o + 1)
    rw [q.1 89 (by decide), q.1 90 (by decide), q.1 84 (by decide), q.1 85 (by decide)]
    exact d2
theorem st_clauseIsOver (l : Launch) (T : Nat) (hT : T ≤ 300) (ru ta : Nat) (rs : List XO) (I0 : XI) (hs : shO CF (shH ru ta rs)) (hi : ivO CF [] I0) (hq : QQ I0) (d : Nat) (k : Nat) (hk : k = 1 ∨ k = 2) (a : List Int32) (ho : OPS 1 a) (I : XI) (J : XJ) (Rp : XR) (h : ST I0 I [(k, a)] T 1 310) (h0 : I 67 17 ≠ 0) (hR : ∀ (I' : XI) (J' : XJ), S4 I0 I' T 310 → rm I' T < rm I T → Rp none (shH ru ta rs) I' J') : xm l (d + 6) 0 0 mX12_clauseIsOver [.ref 67] (shH ru ta rs) I J Rp := by
  refine cl_end l T hT ru ta rs I0 hs hi hq d I J Rp (fun Rq hq2 => ?_) h0 hR
  refine st_works l (d + 3) T ru ta rs I0 k [] 310 1 1 (by omega) (by omega) (by simp [wN]) J Rq a I (OPS_4 (by omega) ho) ho h (fun I1 a1 s1 o1 lt1 k1 => ?_)
  have ea := OPS_nil (Nat.le_refl _) o1 lt1
  subst ea
  obtain ⟨tf, hw, at_, n, w, o, c, op, e1, e2, e3, e4, e5, e6, e7, c1, c2, c3, c4, c5, c6, c7⟩ := s1
  have hl := Rep_len c1
  have hw0 : w = 0 := by
    have := hl.2
    simpa [wN] using this
  have hop : op = 0 := by
    rw [c2]
    rcases hk with rfl | rfl <;> simp [opN]
  subst hw0 hop
  refine hq2 I1 ⟨tf, hw, at_, o, c, e1, e2, e4, e5, e6, e7, c3, ?_, c6, c7, fun _ => ⟨_, c5⟩⟩ k1
  omega
