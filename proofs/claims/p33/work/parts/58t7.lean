-- ===== the reference reads a text: clauses, the text =====
theorem dn_up {no nv nw na : Nat → Int32} {c o : Nat} {x y : Int32} (d : DNc no nv nw na c o) : DNc no nv (upd nw c x) (upd na c y) c o := by
  intro j hj h4
  rw [pk_un (by omega)] at h4
  obtain ⟨a, m, h, e, r⟩ := d j hj h4
  exact ⟨a, m, h, by rw [pk_un (by omega)]; exact e, r⟩
theorem pos_nle {x : Int32} (h : 0 < x) : ¬ x ≤ 0 := fun z => by
  have h1 := Int32.lt_iff_toInt_lt.mp h
  have h2 := Int32.le_iff_toInt_le.mp z
  omega
set_option maxRecDepth 100000 in
set_option maxHeartbeats 2000000 in
theorem cl_81 (l : Launch) (T : Nat) (hT : T ≤ 300) (ru ta : Nat) (rs : List XO) (I0 : XI) (hs : shO CF (shH ru ta rs)) (hi : ivO CF [] I0) (hq : QQ I0) (d n : Nat) (I1 : XI) (J : XJ) (Rp : XR) (tf : TF I0 I1) (hw : I1 67 19 = 0) (at_ o c : Nat) (e1 : I1 67 14 = nI T) (e2 : I1 67 15 = nI at_) (e3 : I1 67 22 = nI 0) (e4 : I1 67 25 = nI 0) (e5 : I1 67 37 = nI o) (e6 : I1 67 30 = nI c) (e7 : I1 67 21 = nI 0) (h17 : I1 67 17 ≠ 0) (c3 : at_ ≤ T) (c4 : o + 1 + (T - at_) ≤ 310) (c6 : DNc (I1 89) (I1 90) (I1 84) (I1 85) c o) (hc : c < 24) (hR : ∀ (I' : XI) (J' : XJ), (BAD I0 I' ∨ (GOOD I0 I' T ∧ rm I' T < rm I1 T)) → Rp none (shH ru ta rs) I' J') : xrun xxX12 none false false (shH ru ta rs).length 0 0 none l (d + 7) tX12_clause [58, 81] Rp (n + 1) 81 [some (.ref 67)] [] (shH ru ta rs) I1 J 0 0 := by
  have vc : vp_in (I1 67 30) 24 := by rw [e6]; exact vp_in_nI hc (by omega)
  refine xrun_step fun K hK => ?_
  refine And.intro vc (And.intro vc ?_)
  show xm l (d + 7) 0 0 mX12_next [.ref 67] (shH ru ta rs) (uI (uI I1 84 (I1 67 30).toNatClampNeg (I1 67 31)) 85 (I1 67 30).toNatClampNeg (I1 67 37)) J _
  rw [e6, nI_clamp (by omega), e5]
  have tf2 : TF I0 (uI (uI I1 84 c (I1 67 31)) 85 c (nI o)) := (tf.u (p := 84) rfl (fun z => by cases z)).u (p := 85) rfl (fun z => by cases z)
  refine tx_next l (d + 3) T hT ru ta rs _ J _ hs (iv_TF hi tf2) (qq_TF hq tf2) at_ e1 e2 c3 (fun I3 J3 q => ?_)
  have r3 : rm I3 T < rm (uI (uI I1 84 c (I1 67 31)) 85 c (nI o)) T := rm_nx hT h17 q
  have r2 : rm (uI (uI I1 84 c (I1 67 31)) 85 c (nI o)) T = rm I1 T := rm_of rfl rfl
  obtain ⟨q, a, a', h1, h2, h3, h4, h5, h6⟩ := q
  have ea : at_ = a := nI_small (e2.symm.trans h1) (by omega) (by omega)
  subst ea
  have tf3 := EQT.tf tf2 q
  have f14 : I3 67 14 = nI T := by rw [q.2 14 (by omega)]; exact e1
  have f19 : I3 67 19 = 0 := by rw [q.2 19 (by omega)]; exact hw
  have f22 : I3 67 22 = nI 0 := by rw [q.2 22 (by omega)]; exact e3
  have f25 : I3 67 25 = nI 0 := by rw [q.2 25 (by omega)]; exact e4
  have f37 : I3 67 37 = nI o := by rw [q.2 37 (by omega)]; exact e5
  have f30 : I3 67 30 = nI c := by rw [q.2 30 (by omega)]; exact e6
  have f21 : I3 67 21 = nI 0 := by rw [q.2 21 (by omega)]; exact e7
  have f31 : I3 67 31 = I1 67 31 := by rw [q.2 31 (by omega)]; rfl
  have g84 : I3 84 c = I1 67 31 := by rw [q.1 84 (by decide)]; exact pk_us
  have g85 : I3 85 c = nI o := by rw [q.1 85 (by decide)]; exact pk_us
  have dn3 : DNc (I3 89) (I3 90) (I3 84) (I3 85) c o := by
    rw [q.1 84 (by decide), q.1 85 (by decide), q.1 89 (by decide), q.1 90 (by decide)]
    exact dn_up c6
  have bud : o + (if I3 67 17 = 0 then 0 else 1) + (T - a') ≤ 310 := by
    rcases h5 with z | z
    · rw [if_pos z]
      omega
    · split <;> omega
  have st5 : ∀ (k : Nat) (v : Int32), k ≠ 5 → opN [(k, [])] = 0 → wtN [(k, [])] = 0 → rN [(k, [])] = 0 → ST I0 (uI (ofI I3 0 (nI k)) 67 28 v) [(k, [])] T 0 310 := by
    intro k v h5 ho hw hr
    refine ⟨((tf3.u (p := 79) rfl (fun z => by cases z)).u (p := 67) rfl (fun _ => by omega)).u (p := 67) rfl (fun _ => by omega), f19, a', 0 + 1, 0, o, c, 0, f14, h2, rfl, f25, f37, f30, f21, ⟨⟨0, 0, rfl, (show upd (I3 79) 0 (nI k) 0 = nI k from pk_us), fun z => absurd z h5, rfl, ⟨rfl, rfl⟩⟩, ho.symm, ⟨h4, h6⟩, ?_, ⟨o, 0, g85, rfl, ?_⟩, dn3, hc⟩⟩
    · show o + 0 + wtN [(k, [])] + (if I3 67 17 = 0 then 0 else 1) + (T - a') ≤ 310
      rw [hw]
      omega
    · show 0 + rN [(k, [])] + 0 = 0
      rw [hr]
  have mu5 : ∀ (k v : Int32), rm (uI (ofI I3 0 k) 67 28 v) T < rm I1 T := fun k v => by
    have : rm (uI (ofI I3 0 k) 67 28 v) T = rm I3 T := rm_of rfl rfl
    omega
  refine And.intro (fun hgt => ?_) (fun _ => ?_)
  · have hgt : nI 4 < I3 67 31 := hgt
    have hk : ¬ (I3 84 c).toInt ≤ 4 := by
      have y := Int32.lt_iff_toInt_lt.mp hgt
      rw [nI_toInt (by omega), f31] at y
      rw [g84]
      omega
    have hd : DO I0 I3 T c (rm I1 T) := ⟨tf3, f14, ⟨a', h2, h4⟩, f30, Or.inr ⟨f19, a', o, h2, f25, f37, f21, ⟨h4, h6⟩, bud, dn3, by omega, hk⟩⟩
    refine st_doing l T hT ru ta rs I0 hs hi hq d c (rm I1 T) hc I3 J3 _ hd (fun I4 J4 k4 => ?_)
    refine And.intro (fun w => ?_) (fun w => ?_)
    · refine And.intro (fun _ => ?_) (fun z => absurd z w)
      exact hR I4 J4 (Or.inl ⟨k4.1, k4.2.2.2.2.elim id (fun z => absurd z.1 w)⟩)
    · have w : I4 67 19 = 0 := w
      refine tx_isSign l (d + 6) 59 ru ta rs I4 J4 _ (fun g1 g2 => ?_) (fun _ => ?_)
      · refine And.intro (fun _ => ?_) (fun h => absurd h (by decide))
        refine And.intro (fun z => absurd w z) (fun _ => ?_)
        obtain ⟨tf4, u1, u2, u3, u4⟩ := k4
        rcases u4 with z | ⟨z, at2, o2, d1, d2, d3, d4, d5, d6, d7, d8, d9⟩
        · exact absurd w (pos_ne z)
        · exact cl_end l T hT ru ta rs I0 hs hi hq (d + 1) I4 J4 _ (fun Rq hk2 => tx_works0 l (d + 5) 1 ru ta rs I4 J4 Rq d2 (hk2 I4 ⟨tf4, w, at2, o2, c, u1, d1, d2, d3, u3, d4, d5, d6, d7, hc, fun y => absurd y d9⟩ KP.rf)) (by rw [g1]; decide) (fun I' J' s4 r4 => hR I' J' (Or.inr ⟨Or.inl s4, by omega⟩))
      · refine And.intro (fun h => absurd rfl h) (fun _ => ?_)
        refine tx_errs l (d + 6) 1 (by decide) ru ta rs I4 J4 _ (fun I5 e => ?_)
        refine And.intro (fun _ => ?_) (fun z => absurd z e.1)
        exact hR I5 J4 (Or.inl (e.bad k4.1 w))
  · refine And.intro (fun n4 => ?_) (fun i4 => ?_)
    · refine tx_opensFrame l (d + 6) 0 (by omega) (nI 1) ru ta rs I3 J3 _ f22 ?_
      refine And.intro (fun _ => ?_) (fun z => absurd z n4)
      exact hR (uI (ofI I3 0 (nI 1)) 67 28 1) J3 (Or.inr ⟨Or.inr (Or.inr (Or.inl ⟨[(1, [])], Or.inl ⟨rfl, rfl, trivial⟩, by simp [opN], st5 1 1 (by omega) (by simp [opN]) (by simp [wtN]) (by simp [rN]), rfl⟩)), mu5 _ _⟩)
    · refine tx_opensFrame l (d + 6) 0 (by omega) (nI 2) ru ta rs I3 J3 _ f22 ?_
      refine And.intro (fun z => absurd i4 z) (fun _ => ?_)
      exact hR (uI (ofI I3 0 (nI 2)) 67 28 0) J3 (Or.inr ⟨Or.inr (Or.inl ⟨[(2, [])], Or.inl ⟨rfl, rfl, trivial⟩, by simp [opN], st5 2 0 (by omega) (by simp [opN]) (by simp [wtN]) (by simp [rN]), rfl⟩), mu5 _ _⟩)
set_option maxRecDepth 100000 in
set_option maxHeartbeats 1000000 in
theorem st_clause (l : Launch) (T : Nat) (hT : T ≤ 300) (ru ta : Nat) (rs : List XO) (I0 : XI) (hs : shO CF (shH ru ta rs)) (hi : ivO CF [] I0) (hq : QQ I0) (d : Nat) (I : XI) (J : XJ) (Rp : XR) (h : S4 I0 I T 310) (h0 : I 67 17 ≠ 0) (hR : ∀ (I' : XI) (J' : XJ), NXT I0 I I' T → Rp none (shH ru ta rs) I' J') : xm l (d + 8) 0 0 mX12_clause [.ref 67] (shH ru ta rs) I J Rp := by
  obtain ⟨tf, hw, hst, at_, o, c, e1, e2, e3, e4, e5, e6, e7, c3, c4, c6, c7⟩ := h
  have bad : ∀ I', ER I I' → Rp none (shH ru ta rs) I' J := fun I' e => hR I' J (Or.inl (e.bad tf hw))
  refine xm_ofK 2 (X := xxX12) (t := tX12_clause) (stop := [58, 81]) (ini := false) xx12 pl12 rfl kX12_clause (fun h => by cases h) (Nat.le_of_ble_eq_true rfl) (fun K hK => ?_)
  refine And.intro (fun _ => ?_) (fun _ => And.intro (fun _ => ?_) (fun _ => ?_))
  · exact tx_errs l (d + 6) 1 (by decide) ru ta rs I J _ (fun I' e => bad I' e)
  · have tf1 : TF I0 (uI I 67 31 (I 67 18)) := tf.u (p := 67) rfl (fun _ => by omega)
    have bad1 : ∀ I', ER (uI I 67 31 (I 67 18)) I' → Rp none (shH ru ta rs) I' J := fun I' e => hR I' J (Or.inl (e.bad tf1 hw))
    have pos1 : ∀ I', ER (uI I 67 31 (I 67 18)) I' → ¬ I' 67 19 ≤ 0 := fun I' e => pos_nle (e.2.2.2 (Or.inl hw))
    have p81 : c < 24 → xrun xxX12 none false false (shH ru ta rs).length 0 0 none l (d + 7) tX12_clause [58, 81] Rp (0 + 1) 81 [some (.ref 67)] [] (shH ru ta rs) (uI I 67 31 (I 67 18)) J 0 0 := fun hc => by
      rw [if_neg h0] at c4
      refine cl_81 l T hT ru ta rs I0 hs hi hq d 0 (uI I 67 31 (I 67 18)) J Rp tf1 hw at_ o c e1 e2 e3 e4 e5 e6 e7 h0 c3.1 c4 c6 hc (fun I' J' b => hR I' J' ?_)
      rcases b with b | ⟨b, r⟩
      · exact Or.inl b
      · refine Or.inr ⟨b, mu_lt ?_⟩
        have : rm (uI I 67 31 (I 67 18)) T = rm I T := rm_of rfl rfl
        omega
    have p58 : xrun xxX12 none false false (shH ru ta rs).length 0 0 none l (d + 7) tX12_clause [58, 81] Rp (0 + 1 + 1) 58 [some (.ref 67)] [] (shH ru ta rs) (uI I 67 31 (I 67 18)) J 0 0 := by
      refine xrun_step fun K hK => ?_
      refine And.intro (fun hne => ?_) (fun _ => ?_)
      · have hc : c < 24 := by
          rcases Nat.lt_or_ge c 24 with z | z
          · exact z
          · exfalso
            refine hne ?_
            show I 67 30 = nI 24
            rw [e6, show c = 24 by omega]
        refine And.intro (fun _ => ?_) (fun z => absurd ?_ z)
        · exact hK 81 [some (.ref 67)] [] (shH ru ta rs) (uI I 67 31 (I 67 18)) J 0 0 (p81 hc)
        · show I 67 19 ≤ 0
          rw [hw]
          exact Int32.le_refl _
      · refine tx_errs l (d + 6) 6 (by decide) ru ta rs (uI I 67 31 (I 67 18)) J _ (fun I' e => ?_)
        exact And.intro (fun z => absurd z (pos1 I' e)) (fun _ => bad1 I' e)
    refine And.intro (fun _ => ?_) (fun _ => ?_)
    · exact hK 58 [some (.ref 67)] [] (shH ru ta rs) (uI I 67 31 (I 67 18)) J 0 0 p58
    · refine tx_wasTold l (d + 6) c c7 _ ru ta rs (uI I 67 31 (I 67 18)) J _ e6 (fun r => ?_)
      refine And.intro (fun _ => ?_) (fun _ => ?_)
      · exact hK 58 [some (.ref 67)] [] (shH ru ta rs) (uI I 67 31 (I 67 18)) J 0 0 p58
      · refine tx_errs l (d + 6) 4 (by decide) ru ta rs (uI I 67 31 (I 67 18)) J _ (fun I' e => ?_)
        exact And.intro (fun z => absurd z (pos1 I' e)) (fun _ => bad1 I' e)
  · exact tx_errs l (d + 6) 1 (by decide) ru ta rs I J _ (fun I' e => bad I' e)
