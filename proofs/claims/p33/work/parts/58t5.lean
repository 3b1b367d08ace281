-- ===== what goes on, what is asked on =====
abbrev gor (l : Launch) (d : Nat) (ru ta : Nat) (rs : List XO) (J : XJ) (Rp : XR) (n pc k : Nat) (I : XI) : Prop := xrun xxX12 none false false (shH ru ta rs).length 0 0 none l (d + 8) tX12_goesOn [49, 65, 116, 181, 224, 245] Rp n pc [some (.ref 67), some (.int (nI k)), none] [] (shH ru ta rs) I J 0 0
theorem gr_245 (l : Launch) (d : Nat) (ru ta : Nat) (rs : List XO) (I0 I : XI) (T : Nat) (J : XJ) (Rp : XR) (n k : Nat) (tf : TF I0 I) (hw : I 67 19 = 0) (hR : ∀ (I' : XI) (J' : XJ), NXT I0 I I' T → Rp none (shH ru ta rs) I' J') : gor l d ru ta rs J Rp (n + 1) 245 k I := by
  refine xrun_step fun K hK => ?_
  exact tx_errs l (d + 7) 1 (by decide) ru ta rs I J _ (fun I' e => hR I' J (Or.inl (e.bad tf hw)))
set_option maxRecDepth 100000 in
theorem gr_224 (l : Launch) (T : Nat) (hT : T ≤ 300) (ru ta : Nat) (rs : List XO) (I0 : XI) (hs : shO CF (shH ru ta rs)) (hi : ivO CF [] I0) (hq : QQ I0) (d : Nat) (I : XI) (J : XJ) (Rp : XR) (n k : Nat) (hk : k < 100) (a : List Int32) (G : TG) (h : ST I0 I ((k, a) :: G) T 1 310) (h1 : k = 1 → G = [] ∧ OPS 3 a) (hR : ∀ (I' : XI) (J' : XJ), NXT I0 I I' T → Rp none (shH ru ta rs) I' J') : gor l d ru ta rs J Rp (n + 2) 224 k I := by
  refine xrun_step fun K hK => ?_
  have k245 := hK 245 [some (.ref 67), some (.int (nI k)), none] [] (shH ru ta rs) I J 0 0 (gr_245 l d ru ta rs I0 I T J Rp n k h.1 h.2.1 hR)
  refine And.intro (fun _ => k245) (fun he => ?_)
  have ek : k = 1 := nI_small (show nI k = nI 1 from he) (by omega) (by omega)
  obtain ⟨rfl, ho⟩ := h1 ek
  refine tx_isSign l (d + 7) 59 ru ta rs I J _ (fun g1 g2 => ?_) (fun _ => ?_)
  · refine And.intro (fun h => absurd h (by decide)) (fun _ => ?_)
    exact st_clauseIsOver l T hT ru ta rs I0 hs hi hq (d + 2) k (Or.inl ek) a (OPS_mono (by omega) ho) I J _ h (by rw [g1]; decide) (fun I' J' s4 r4 => hR I' J' (Or.inr ⟨Or.inl s4, mu_lt r4⟩))
  · exact And.intro (fun _ => k245) (fun h => absurd rfl h)
set_option maxRecDepth 100000 in
set_option maxHeartbeats 1000000 in
theorem gr_181 (l : Launch) (T : Nat) (hT : T ≤ 300) (ru ta : Nat) (rs : List XO) (I0 : XI) (hs : shO CF (shH ru ta rs)) (hi : ivO CF [] I0) (hq : QQ I0) (d : Nat) (I : XI) (J : XJ) (Rp : XR) (n k : Nat) (hk : k < 100) (a : List Int32) (G : TG) (h20 : G.length < 19 ∧ wN G + G.length < 70) (h : ST I0 I ((k, a) :: G) T 1 310) (hst : I 67 28 = 2) (h1 : k = 1 → G = [] ∧ OPS 3 a) (h5 : k = 5 → Sh0 G ∧ OPS 3 a) (hR : ∀ (I' : XI) (J' : XJ), NXT I0 I I' T → Rp none (shH ru ta rs) I' J') : gor l d ru ta rs J Rp (n + 3) 181 k I := by
  refine xrun_step fun K hK => ?_
  have k224 := hK 224 [some (.ref 67), some (.int (nI k)), none] [] (shH ru ta rs) I J 0 0 (gr_224 l T hT ru ta rs I0 hs hi hq d I J Rp n k hk a G h h1 hR)
  refine And.intro (fun _ => k224) (fun he => ?_)
  have ek : k = 5 := nI_small (show nI k = nI 5 from he) (by omega) (by omega)
  obtain ⟨hG, ho⟩ := h5 ek
  subst ek
  refine st_works l (d + 6) T ru ta rs I0 5 G 310 3 3 (by omega) (by omega) h20.2 J _ a I (OPS_4 (by omega) ho) ho h (fun I1 a1 s1 o1 lt1 k1 => ?_)
  have ea := OPS_nil (Nat.le_refl _) o1 lt1
  subst ea
  obtain ⟨tf, hw, at_, n0, w, o, c, op, e1, e2, e3, e4, e5, e6, e7, c1, c2, c3, c4, c5, c6, c7⟩ := s1
  obtain ⟨n1, w0, rfl, f2, f3, f4, f5⟩ := c1
  have f4 : w = w0 := f4
  subst f4
  have hl := Rep_len f5
  have hop5 : opN ((5, []) :: G) = opN G := by simp [opN]
  have hwt : wtN ((5, []) :: G) = wtN G + 1 := by simp [wtN]; omega
  have hrn : rN ((5, []) :: G) = rN G + 1 := by simp [rN]; omega
  have vp : vp_in (I1 67 22) 41 := by rw [e3]; exact vp_in_nI (by omega) (by omega)
  have en : I1 67 22 - nI 1 = nI n1 := by rw [e3]; exact nI_pred n1
  have ehow : I1 80 (I1 67 22).toNatClampNeg = I1 80 (n1 + 1) := by rw [e3, nI_clamp (by omega)]
  refine And.intro vp ?_
  show xm l (d + 8) 0 0 mX12_emits [.ref 67, .int (I1 80 (I1 67 22).toNatClampNeg), .int 0] (shH ru ta rs) (uI I1 67 22 (I1 67 22 - nI 1)) J _
  rw [ehow, en]
  refine tx_emits l (d + 7) o (by omega) _ 0 ru ta rs _ J _ e5 ?_
  have s2 : ST I0 (emI (uI I1 67 22 (nI n1)) o (I1 80 (n1 + 1)) 0) G T 1 310 := by
    refine ⟨(tf.u (p := 67) rfl (fun _ => by omega)).em _ _ _, hw, at_, n1, w, o + 1, c, op, e1, e2, rfl, e4, rfl, e6, e7, ⟨f5, by omega, c3, ?_, pg_emit c5 (Or.inr (Or.inr ⟨f3 rfl, by omega, by omega⟩)), dn_emit c6, c7⟩⟩
    show o + 1 + w + wtN G + (if I1 67 17 = 0 then 0 else 1) + (T - at_) ≤ 310
    omega
  refine st_askIsOver l (d + 6) T ru ta rs I0 310 (by omega) J _ G _ (by omega) hG s2 (fun I3 a3 s3 o3 t3 r3 => ?_)
  refine hR I3 J (Or.inr ⟨Or.inr (Or.inr (Or.inr (Or.inr ⟨a3, o3, s3, t3⟩))), ?_⟩)
  have r4 : rm (emI (uI I1 67 22 (nI n1)) o (I1 80 (n1 + 1)) 0) T = rm I T := rm_of k1.1 k1.2.2.2
  unfold mu
  rw [t3, hst, r3, r4, if_neg (by decide), if_pos (by decide)]
  omega
set_option maxRecDepth 100000 in
set_option maxHeartbeats 1000000 in
theorem gr_116 (l : Launch) (T : Nat) (hT : T ≤ 300) (ru ta : Nat) (rs : List XO) (I0 : XI) (hs : shO CF (shH ru ta rs)) (hi : ivO CF [] I0) (hq : QQ I0) (d : Nat) (I : XI) (J : XJ) (Rp : XR) (n k : Nat) (hk : k < 100) (a : List Int32) (G : TG) (h20 : G.length < 19 ∧ wN G + G.length < 70) (hop : opN ((k, a) :: G) ≤ 8) (h : ST I0 I ((k, a) :: G) T 1 310) (hst : I 67 28 = 2) (h1 : k = 1 → G = [] ∧ OPS 3 a) (h5 : k = 5 → Sh0 G ∧ OPS 3 a) (h4 : k = 4 → Sh0 G ∧ OPS 3 a) (hR : ∀ (I' : XI) (J' : XJ), NXT I0 I I' T → Rp none (shH ru ta rs) I' J') : gor l d ru ta rs J Rp (n + 4) 116 k I := by
  refine xrun_step fun K hK => ?_
  have k181 := hK 181 [some (.ref 67), some (.int (nI k)), none] [] (shH ru ta rs) I J 0 0 (gr_181 l T hT ru ta rs I0 hs hi hq d I J Rp n k hk a G h20 h hst h1 h5 hR)
  refine And.intro (fun _ => k181) (fun he => ?_)
  have ek : k = 4 := nI_small (show nI k = nI 4 from he) (by omega) (by omega)
  obtain ⟨hG, ho⟩ := h4 ek
  subst ek
  refine And.intro (fun _ => k181) (fun h17 => ?_)
  have h17 : I 67 17 = 3 := h17
  refine tx_isAsking l (d + 7) (I 67 18) _ _ _ _ (fun hb => ?_) ?_
  · refine And.intro (fun h => absurd h (by decide)) (fun _ => ?_)
    refine st_works l (d + 6) T ru ta rs I0 4 G 310 3 3 (by omega) (by omega) h20.2 J _ a I (OPS_4 (by omega) ho) ho h (fun I1 a1 s1 o1 lt1 k1 => ?_)
    have ea := OPS_nil (Nat.le_refl _) o1 lt1
    subst ea
    obtain ⟨tf, hw, at_, n0, w, o, c, op, e1, e2, e3, e4, e5, e6, e7, c1, c2, c3, c4, c5, c6, c7⟩ := s1
    obtain ⟨n1, w0, rfl, f2, f3, f4, f5⟩ := c1
    have f4 : w = w0 := f4
    subst f4
    have hl := Rep_len f5
    have hop4 : opN ((4, []) :: G) = opN G := by simp [opN]
    have hop5 : opN ((5, []) :: G) = opN G := by simp [opN]
    have hopa : opN ((4, a) :: G) = opN G := by simp [opN]
    have hwt : wtN ((5, []) :: G) = wtN ((4, []) :: G) + 1 := by simp [wtN]; omega
    have hrn : rN ((5, []) :: G) = rN ((4, []) :: G) + 1 := by simp [rN]; omega
    have vp : vp_in (I1 67 22) 41 := by rw [e3]; exact vp_in_nI (by omega) (by omega)
    have en : I1 67 22 - nI 1 = nI n1 := by rw [e3]; exact nI_pred n1
    have vp2 : vp_in (I1 67 22 - nI 1) 40 := by rw [en]; exact vp_in_nI (by omega) (by omega)
    have et : I1 67 18 = I 67 18 := k1.2.1
    refine And.intro vp (And.intro vp2 ?_)
    show xm l (d + 8) 0 0 mX12_next [.ref 67] (shH ru ta rs) (uI (uI I1 80 (I1 67 22).toNatClampNeg (I1 67 18)) 79 (I1 67 22 - nI 1).toNatClampNeg (nI 5)) J _
    rw [en, e3, nI_clamp (by omega), nI_clamp (by omega), et]
    have s2 : ST I0 (uI (uI I1 80 (n1 + 1) (I 67 18)) 79 n1 (nI 5)) ((5, []) :: G) T 0 (310 + 1) := by
      refine ⟨(tf.u (p := 80) rfl (fun z => by cases z)).u (p := 79) rfl (fun z => by cases z), hw, at_, n1 + 1, w, o, c, op, e1, e2, e3, e4, e5, e6, e7, ⟨⟨n1, w, rfl, pk_us, fun _ => ?_, rfl, Rep_up f5 (fun i hi => pk_un (by omega)) (fun i hi => pk_un (by omega)) (fun _ _ => ⟨rfl, rfl⟩)⟩, by omega, c3, ?_, ?_, c6, c7⟩⟩
      · show isBin (upd (I1 80) (n1 + 1) (I 67 18) (n1 + 1))
        rw [pk_us]
        exact hb
      · show o + w + wtN ((5, []) :: G) + (if I1 67 17 = 0 then 0 else 1) + (T - at_) ≤ 310 + 1
        omega
      · rw [show w + rN ((5, []) :: G) + 0 = w + rN ((4, []) :: G) + 1 by omega]
        exact c5
    refine st_next l T hT ru ta rs I0 hs hi hq (d + 4) ((5, []) :: G) 0 310 _ J _ s2 (by show I1 67 17 ≠ 0; rw [k1.1, h17]; decide) (fun I2 J2 s3 q3 r3 => ?_)
    have r4 : rm (uI (uI I1 80 (n1 + 1) (I 67 18)) 79 n1 (nI 5)) T = rm I T := rm_of k1.1 k1.2.2.2
    have r5 : rm (uI I2 67 28 1) T = rm I2 T := rm_of rfl rfl
    exact hR (uI I2 67 28 1) J2 (Or.inr ⟨Or.inr (Or.inr (Or.inl ⟨(5, []) :: G, Or.inr (Or.inl ⟨Or.inr rfl, trivial, hG⟩), by omega, ST_st s3, rfl⟩)), mu_lt (by omega)⟩)
  · exact And.intro (fun _ => k181) (fun h => absurd rfl h)
set_option maxRecDepth 100000 in
set_option maxHeartbeats 1000000 in
theorem gr_65 (l : Launch) (T : Nat) (hT : T ≤ 300) (ru ta : Nat) (rs : List XO) (I0 : XI) (hs : shO CF (shH ru ta rs)) (hi : ivO CF [] I0) (hq : QQ I0) (d : Nat) (I : XI) (J : XJ) (Rp : XR) (n k : Nat) (hk : k < 100) (a : List Int32) (G : TG) (h20 : G.length < 19 ∧ wN G + G.length < 70) (hop : opN ((k, a) :: G) ≤ 8) (h : ST I0 I ((k, a) :: G) T 1 310) (hst : I 67 28 = 2) (h1 : k = 1 → G = [] ∧ OPS 3 a) (h5 : k = 5 → Sh0 G ∧ OPS 3 a) (h4 : k = 4 → Sh0 G ∧ OPS 3 a) (h6 : k = 6 → Sh1 G ∧ OPS 3 a) (hR : ∀ (I' : XI) (J' : XJ), NXT I0 I I' T → Rp none (shH ru ta rs) I' J') : gor l d ru ta rs J Rp (n + 5) 65 k I := by
  refine xrun_step fun K hK => ?_
  have k116 := hK 116 [some (.ref 67), some (.int (nI k)), none] [] (shH ru ta rs) I J 0 0 (gr_116 l T hT ru ta rs I0 hs hi hq d I J Rp n k hk a G h20 hop h hst h1 h5 h4 hR)
  refine And.intro (fun _ => k116) (fun he => ?_)
  have ek : k = 6 := nI_small (show nI k = nI 6 from he) (by omega) (by omega)
  obtain ⟨hG, ho⟩ := h6 ek
  subst ek
  refine tx_isSign l (d + 7) 41 ru ta rs I J _ (fun g1 g2 => ?_) (fun _ => ?_)
  · refine And.intro (fun h => absurd h (by decide)) (fun _ => ?_)
    refine st_works l (d + 6) T ru ta rs I0 6 G 310 3 3 (by omega) (by omega) h20.2 J _ a I (OPS_4 (by omega) ho) ho h (fun I1 a1 s1 o1 lt1 k1 => ?_)
    have ea := OPS_nil (Nat.le_refl _) o1 lt1
    subst ea
    obtain ⟨tf, hw, at_, n0, w, o, c, op, e1, e2, e3, e4, e5, e6, e7, c1, c2, c3, c4, c5, c6, c7⟩ := s1
    obtain ⟨n1, w0, rfl, f2, f3, f4, f5⟩ := c1
    have f4 : w = w0 := f4
    subst f4
    have hl := Rep_len f5
    have hop6 : opN ((6, []) :: G) = opN G + 1 := by simp [opN]; omega
    have hopa : opN ((6, a) :: G) = opN G + 1 := by simp [opN]; omega
    have hwt : wtN ((6, []) :: G) = wtN G := by simp [wtN]
    have hrn : rN ((6, []) :: G) = rN G := by simp [rN]
    have en : I1 67 22 - nI 1 = nI n1 := by rw [e3]; exact nI_pred n1
    have eo : I1 67 21 - nI 1 = nI (opN G) := by rw [e7, c2, hop6]; exact nI_pred (opN G)
    show xm l (d + 8) 0 0 mX12_next [.ref 67] (shH ru ta rs) (uI (uI I1 67 22 (I1 67 22 - nI 1)) 67 21 (I1 67 21 - nI 1)) J _
    rw [en, eo]
    have s2 : ST I0 (uI (uI I1 67 22 (nI n1)) 67 21 (nI (opN G))) G T 1 (310 + 1) := by
      refine ⟨(tf.u (p := 67) rfl (fun _ => by omega)).u (p := 67) rfl (fun _ => by omega), hw, at_, n1, w, o, c, opN G, e1, e2, rfl, e4, e5, e6, rfl, ⟨f5, rfl, c3, ?_, ?_, c6, c7⟩⟩
      · show o + w + wtN G + (if I1 67 17 = 0 then 0 else 1) + (T - at_) ≤ 310 + 1
        omega
      · rw [← hrn]
        exact c5
    refine st_next l T hT ru ta rs I0 hs hi hq (d + 4) G 1 310 _ J _ s2 (by show I1 67 17 ≠ 0; rw [k1.1, g1]; decide) (fun I2 J2 s3 q3 r3 => ?_)
    have r4 : rm (uI (uI I1 67 22 (nI n1)) 67 21 (nI (opN G))) T = rm I T := rm_of k1.1 k1.2.2.2
    refine st_oneIsOver l (d + 6) T ru ta rs I0 310 (by omega) J2 _ G I2 (by omega) hG s3 (fun I4 G4 s4 z1 z2 z3 z4 z5 => ?_)
    exact hR I4 J2 (Or.inr ⟨Or.inr (Or.inr (Or.inr (Or.inl ⟨G4, z1, z2, by omega, s4, z4⟩))), mu_lt (by omega)⟩)
  · exact And.intro (fun _ => k116) (fun h => absurd rfl h)
set_option maxRecDepth 100000 in
set_option maxHeartbeats 1000000 in
theorem gr_49 (l : Launch) (T : Nat) (hT : T ≤ 300) (ru ta : Nat) (rs : List XO) (I0 : XI) (hs : shO CF (shH ru ta rs)) (hi : ivO CF [] I0) (hq : QQ I0) (d : Nat) (I : XI) (J : XJ) (Rp : XR) (n k : Nat) (a : List Int32) (G : TG) (h20 : G.length < 19 ∧ wN G + G.length < 70) (hop : opN ((k, a) :: G) ≤ 8) (h : ST I0 I ((k, a) :: G) T 1 310) (ho : OPS 3 a) (hsh : ∀ a', OPS 3 a' → Sh1 ((k, a') :: G)) (h17 : I 67 17 = 3) (ht : I 67 18 = 43 ∨ I 67 18 = 45 ∨ I 67 18 = 42 ∨ I 67 18 = 47) (hR : ∀ (I' : XI) (J' : XJ), NXT I0 I I' T → Rp none (shH ru ta rs) I' J') : gor l d ru ta rs J Rp (n + 1) 49 k I := by
  refine xrun_step fun K hK => ?_
  have hb : isBin (I 67 18) := by rcases ht with e | e | e | e <;> rw [e] <;> (unfold isBin; decide)
  have hr : 3 ≤ rkN (I 67 18) := by rcases ht with e | e | e | e <;> rw [e] <;> decide
  have hopa : ∀ a', opN ((k, a') :: G) = opN ((k, a) :: G) := fun _ => rfl
  refine st_waitsFor l T hT ru ta rs I0 hs hi hq (d + 3) k G 310 3 (by omega) (by omega) h20.2 a ho (I 67 18) hb hr I J _ h (by rw [h17]; decide) (fun I' J' a' s1 o1 t1 r1 => ?_)
  have r5 : rm (uI I' 67 28 1) T = rm I' T := rm_of rfl rfl
  exact hR (uI I' 67 28 1) J' (Or.inr ⟨Or.inr (Or.inr (Or.inl ⟨(k, a') :: G, hsh a' o1, by rw [hopa]; exact hop, ST_st s1, rfl⟩)), mu_lt (by omega)⟩)
set_option maxRecDepth 100000 in
set_option maxHeartbeats 1000000 in
theorem st_goesOn (l : Launch) (T : Nat) (hT : T ≤ 300) (ru ta : Nat) (rs : List XO) (I0 : XI) (hs : shO CF (shH ru ta rs)) (hi : ivO CF [] I0) (hq : QQ I0) (d : Nat) (I : XI) (J : XJ) (Rp : XR) (h : A2 I0 I T) (hR : ∀ (I' : XI) (J' : XJ), NXT I0 I I' T → Rp none (shH ru ta rs) I' J') : xm l (d + 9) 0 0 mX12_goesOn [.ref 67] (shH ru ta rs) I J Rp := by
  obtain ⟨G, h1, h78, hop, h, hst⟩ := h
  have hn := Sh1_n h1
  cases G with
  | nil => exact h1.elim
  | cons f G =>
    obtain ⟨k, a⟩ := f
    simp only [List.length_cons, wN] at hn
    have hsh : OPS 3 a ∧ (∀ a', OPS 3 a' → Sh1 ((k, a') :: G)) ∧ k < 100 ∧ (k = 1 → G = []) ∧ (k = 5 → Sh0 G) ∧ (k = 4 → Sh0 G) ∧ (k = 6 → Sh1 G) := by
      rcases h1 with ⟨rfl, rfl, o⟩ | ⟨z, o, g⟩ | ⟨rfl, o, g⟩ | ⟨z, _, _⟩
      · exact ⟨o, fun a' o' => Or.inl ⟨rfl, rfl, o'⟩, by omega, fun _ => rfl, fun z => by omega, fun z => by omega, fun z => by omega⟩
      · exact ⟨o, fun a' o' => Or.inr (Or.inl ⟨z, o', g⟩), by omega, fun y => by omega, fun _ => g, fun _ => g, fun y => by omega⟩
      · exact ⟨o, fun a' o' => Or.inr (Or.inr (Or.inl ⟨rfl, o', g⟩)), by omega, fun y => by omega, fun y => by omega, fun y => by omega, fun _ => g⟩
      · exfalso
        have y1 : k ≠ 7 := h78.1
        have y2 : k ≠ 8 := h78.2
        omega
    obtain ⟨ho, hs1, hk, g1, g5, g4, g6⟩ := hsh
    have h20 : G.length < 19 ∧ wN G + G.length < 70 := ⟨by omega, by omega⟩
    obtain ⟨n1, hn1, e22, e79⟩ : ∃ n1 : Nat, n1 < 40 ∧ I 67 22 = nI (n1 + 1) ∧ I 79 n1 = nI k := by
      obtain ⟨tf, hw, at_, n0, w, o, c, op, e1, e2, e3, e4, e5, e6, e7, c1, c2⟩ := h
      have hl := Rep_len c1
      obtain ⟨n1, w0, rfl, f2, f3, f4, f5⟩ := c1
      simp only [List.length_cons] at hl
      exact ⟨n1, by omega, e3, f2⟩
    refine xm_ofK 6 (X := xxX12) (t := tX12_goesOn) (stop := [49, 65, 116, 181, 224, 245]) (ini := false) xx12 pl12 rfl kX12_goesOn (fun h => by cases h) (Nat.le_of_ble_eq_true rfl) (fun K hK => ?_)
    have k65 := hK 65 [some (.ref 67), some (.int (nI k)), none] [] (shH ru ta rs) I J 0 0 (gr_65 l T hT ru ta rs I0 hs hi hq d I J Rp 1 k hk a G h20 hop h hst (fun z => ⟨g1 z, ho⟩) (fun z => ⟨g5 z, ho⟩) (fun z => ⟨g4 z, ho⟩) (fun z => ⟨g6 z, ho⟩) hR)
    have k49 : I 67 17 = 3 → (I 67 18 = 43 ∨ I 67 18 = 45 ∨ I 67 18 = 42 ∨ I 67 18 = 47) → K 49 [some (.ref 67), some (.int (nI k)), none] [] (shH ru ta rs) I J 0 0 := fun y1 y2 => hK 49 [some (.ref 67), some (.int (nI k)), none] [] (shH ru ta rs) I J 0 0 (gr_49 l T hT ru ta rs I0 hs hi hq d I J Rp 5 k a G h20 hop h ho hs1 y1 y2 hR)
    refine tx_top l (d + 7) n1 hn1 ru ta rs I J _ e22 ?_
    rw [e79]
    refine And.intro (fun _ => k65) (fun y1 => ?_)
    refine And.intro (fun y2 => k49 y1 (Or.inl y2)) (fun _ => ?_)
    refine And.intro (fun y2 => k49 y1 (Or.inr (Or.inl y2))) (fun _ => ?_)
    refine And.intro (fun y2 => k49 y1 (Or.inr (Or.inr (Or.inl y2)))) (fun _ => ?_)
    exact And.intro (fun _ => k65) (fun y2 => k49 y1 (Or.inr (Or.inr (Or.inr y2))))
set_option maxRecDepth 100000 in
set_option maxHeartbeats 1000000 in
theorem st_asksOn (l : Launch) (T : Nat) (hT : T ≤ 300) (ru ta : Nat) (rs : List XO) (I0 : XI) (hs : shO CF (shH ru ta rs)) (hi : ivO CF [] I0) (hq : QQ I0) (d : Nat) (I : XI) (J : XJ) (Rp : XR) (h : A3 I0 I T) (hR : ∀ (I' : XI) (J' : XJ), NXT I0 I I' T → Rp none (shH ru ta rs) I' J') : xm l (d + 9) 0 0 mX12_asksOn [.ref 67] (shH ru ta rs) I J Rp := by
  obtain ⟨a, ho, h, hst⟩ := h
  have err : ∀ (Rq : XR), (∀ (I' : XI), NXT I0 I I' T → Rq none (shH ru ta rs) I' J) → xm l (d + 8) 0 0 mX12_errs [.ref 67, .int 1] (shH ru ta rs) I J Rq := fun Rq hq => tx_errs l (d + 7) 1 (by decide) ru ta rs I J Rq (fun I' e => hq I' (Or.inl (e.bad h.1 h.2.1)))
  have wt : ∀ (y : Int32) (Rq : XR), isBin y → 1 ≤ rkN y → I 67 17 ≠ 0 → (∀ (I' : XI) (J' : XJ), NXT I0 I (uI I' 67 28 0) T → Rq none (shH ru ta rs) I' J') → xm l (d + 8) 0 0 mX12_waitsFor [.ref 67, .int y] (shH ru ta rs) I J Rq := by
    intro y Rq hy hr h0 hk
    refine st_waitsFor l T hT ru ta rs I0 hs hi hq (d + 3) 2 [] 310 1 (by omega) (by omega) (by simp [wN]) a ho y hy hr I J Rq h h0 (fun I' J' a' s1 o1 t1 r1 => hk I' J' ?_)
    have r5 : rm (uI I' 67 28 0) T = rm I' T := rm_of rfl rfl
    exact Or.inr ⟨Or.inr (Or.inl ⟨[(2, a')], Or.inl ⟨rfl, rfl, o1⟩, by simp [opN], ST_st s1, rfl⟩), mu_lt (by omega)⟩
  obtain ⟨n1, hn1, e22, e79⟩ : ∃ n1 : Nat, n1 < 40 ∧ I 67 22 = nI (n1 + 1) ∧ I 79 n1 = nI 2 := by
    obtain ⟨tf, hw, at_, n0, w, o, c, op, e1, e2, e3, e4, e5, e6, e7, c1, c2⟩ := h
    have hl := Rep_len c1
    obtain ⟨n1, w0, rfl, f2, f3, f4, f5⟩ := c1
    simp only [List.length_cons, List.length_nil] at hl
    exact ⟨n1, by omega, e3, f2⟩
  refine xm_ofK 0 (X := xxX12) (t := tX12_asksOn) (stop := []) (ini := false) xx12 pl12 rfl kX12_asksOn (fun h => by cases h) (Nat.le_of_ble_eq_true rfl) (fun K hK => ?_)
  refine tx_isWord l (d + 7) 19 ru ta rs I J _ (fun g1 g2 => ?_) (fun ng => ?_)
  · refine And.intro (fun _ => ?_) (fun h => absurd h (by decide))
    refine tx_isWord l (d + 7) 19 ru ta rs I J _ (fun _ _ => ?_) (fun ng => absurd ⟨g1, g2⟩ ng)
    refine And.intro (fun h => absurd h (by decide)) (fun _ => ?_)
    exact wt 407 _ (by unfold isBin; decide) (by decide) (by rw [g1]; decide) (fun I' J' b => hR _ J' b)
  · refine And.intro (fun h => absurd rfl h) (fun _ => ?_)
    refine tx_isWord l (d + 7) 20 ru ta rs I J _ (fun g1 g2 => ?_) (fun ng2 => ?_)
    · refine And.intro (fun h => absurd h (by decide)) (fun _ => ?_)
      refine tx_isWord l (d + 7) 19 ru ta rs I J _ (fun w1 w2 => absurd ⟨w1, w2⟩ ng) (fun _ => ?_)
      refine And.intro (fun _ => ?_) (fun h => absurd rfl h)
      exact wt 406 _ (by unfold isBin; decide) (by decide) (by rw [g1]; decide) (fun I' J' b => hR _ J' b)
    · refine And.intro (fun _ => ?_) (fun h => absurd rfl h)
      refine tx_top l (d + 7) n1 hn1 ru ta rs I J _ e22 ?_
      rw [e79]
      refine And.intro (fun h => absurd rfl h) (fun _ => ?_)
      refine tx_isSign l (d + 7) 59 ru ta rs I J _ (fun g1 g2 => ?_) (fun _ => ?_)
      · refine And.intro (fun h => absurd h (by decide)) (fun _ => ?_)
        exact st_clauseIsOver l T hT ru ta rs I0 hs hi hq (d + 2) 2 (Or.inr rfl) a ho I J _ h (by rw [g1]; decide) (fun I' J' s4 r4 => hR I' J' (Or.inr ⟨Or.inl s4, mu_lt r4⟩))
      · refine And.intro (fun _ => ?_) (fun h => absurd rfl h)
        exact err _ (fun I' b => hR I' J b)
