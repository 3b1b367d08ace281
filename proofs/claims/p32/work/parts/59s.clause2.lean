-- ===== the reference reads a text: a clause begins, exactly =====
theorem WDS_app {I I' : XI} {ws : List Nat} {c v : Nat} (h : WDS I ws) (hc : c = ws.length) (hv : v < 100) (e : I' 84 = upd (I 84) c (nI v)) : WDS I' (ws ++ [v]) := by
  intro x hx
  rw [List.length_append, List.length_singleton] at hx
  rw [e]
  by_cases z : x = c
  · have g : (ws ++ [v]).getD x 0 = v := by
      rw [List.getD_eq_getElem?_getD, List.getElem?_append_right (by omega), show x - ws.length = 0 by omega]
      rfl
    rw [g, z, pk_us]
    exact ⟨rfl, hv⟩
  · have g : (ws ++ [v]).getD x 0 = ws.getD x 0 := by
      rw [List.getD_eq_getElem?_getD, List.getElem?_append_left (by omega), ← List.getD_eq_getElem?_getD]
    rw [g, pk_un z]
    exact h x (by omega)
def NXr (I0 I I' : XI) (T : Nat) (s : MS) (X : Wdr) : Prop := (∃ f p, mstep (tkB I0 T) s = .inr (f, p) ∧ 1 ≤ f ∧ BAD I0 I' ∧ I' 67 19 = nI f ∧ I' 67 20 = nI p) ∨ ∃ s', mstep (tkB I0 T) s = .inl s' ∧ GX I0 I' T s' (xeff (tkB I0 T) s X) ∧ rm I' T < rm I T
theorem fer_nr {I0 I Ib I' : XI} {T f j : Nat} {s : MS} {X : Wdr} (tf : TF I0 I) (hw : I 67 19 = 0) (r : RTK I (tkB I0 T j)) (e : FER I I' (nI f)) (hf : 1 ≤ f) (hm : mstep (tkB I0 T) s = .inr (ft (tkB I0 T) f j)) : NXr I0 Ib I' T s X := by
  have y := e.2.1 hw
  exact Or.inl ⟨f, (tkB I0 T j).2.2.1, hm, hf, e.1.bad tf hw, y.1, by rw [y.2]; exact r.2.1⟩
theorem upd_id {f : Nat → Int32} {c : Nat} : upd f c (f c) = f := by
  funext i
  by_cases z : i = c
  · subst z
    exact pk_us
  · exact pk_un z
theorem OSa.snoc {I I' : XI} {A : Adr} {ws : List Nat} {c v o : Nat} {dn : List Nat} {x1 x2 x3 : Int32} (h : OSa I A ws) (hc : c = ws.length) (e85 : I' 85 = upd (I 85) c (nI o)) (e86 : I' 86 = upd (I 86) c x1) (e87 : I' 87 = upd (I 87) c x2) (e88 : I' 88 = upd (I 88) c x3) (hn : NU3 dn x1 x2 x3) : OSa I' (A ++ [(o, dn)]) (ws ++ [v]) := by
  refine ⟨by simp [h.1], fun i hi => ?_⟩
  rw [e85, e86, e87, e88]
  by_cases z : i = c
  · have g : (A ++ [(o, dn)]).getD i (0, []) = (o, dn) := by
      rw [z, hc, ← h.1]
      exact getD_appR
    rw [g, z, pk_us, pk_us, pk_us, pk_us]
    exact ⟨rfl, hn.1, hn.2.1, hn.2.2⟩
  · have hi : i < ws.length + 1 := by simpa using hi
    rw [getD_appL (by rw [h.1]; omega), pk_un z, pk_un z, pk_un z, pk_un z]
    exact h.2 i (by omega)
set_option maxRecDepth 100000 in
set_option maxHeartbeats 4000000 in
theorem us_cl_81 (l : Launch) (T : Nat) (hT : T ≤ 300) (ru ta : Nat) (rs : List XO) (I0 : XI) (d n : Nat) (I1 : XI) (J : XJ) (Rp : XR) (tf : TF I0 I1) (hw : I1 67 19 = 0) (at_ o c : Nat) (e1 : I1 67 14 = nI T) (e2 : I1 67 15 = nI at_) (e3 : I1 67 22 = nI 0) (e4 : I1 67 25 = nI 0) (e5 : I1 67 37 = nI o) (e6 : I1 67 30 = nI c) (e7 : I1 67 21 = nI 0) (h17 : I1 67 17 ≠ 0) (c3 : at_ ≤ T) (c4 : o + 1 + (T - at_) ≤ 310) (c6 : DNc (I1 89) (I1 90) (I1 84) (I1 85) c o) (hc : c < 24) (v k : Nat) (Kf : List Nat) (ws : List Nat) (j : Nat) (q1 : (tkB I0 T j).1 = 1) (q2 : (tkB I0 T j).2.1 = v) (hv : v ≤ 13) (e31 : I1 67 31 = nI v) (hr : RTK I1 (tkB I0 T j)) (hwd : WDS I1 ws) (hl : c = ws.length) (h20 : I1 67 20 = -1) (hnt : ¬ (v ≤ 4 ∧ v ∈ ws)) (X : Wdr) (oe : OSe I1 X.2.1) (oa : OSa I1 X.2.2 ws) (hR : ∀ (I' : XI) (J' : XJ), NXr I0 I1 I' T (4, Kf, k, ws, j) X → Rp none (shH ru ta rs) I' J') : xrun xxX12 none false false (shH ru ta rs).length 0 0 none l (d + 7) tX12_clause [58, 81] Rp (n + 1) 81 [some (.ref 67)] [] (shH ru ta rs) I1 J 0 0 := by
  have vc : vp_in (I1 67 30) 24 := by rw [e6]; exact vp_in_nI hc (by omega)
  refine xrun_step fun K hK => ?_
  refine And.intro vc (And.intro vc ?_)
  show xm l (d + 7) 0 0 mX12_next [.ref 67] (shH ru ta rs) (uI (uI I1 84 (I1 67 30).toNatClampNeg (I1 67 31)) 85 (I1 67 30).toNatClampNeg (I1 67 37)) J _
  rw [e6, nI_clamp (by omega), e5, e31]
  have tf2 : TF I0 (uI (uI I1 84 c (nI v)) 85 c (nI o)) := (tf.u (p := 84) rfl (fun z => by cases z)).u (p := 85) rfl (fun z => by cases z)
  refine ux_next l (d + 3) T ru ta rs _ J _ at_ hT e1 e2 c3 (fun I3 qe => ?_)
  have q := NXe.nx (I := uI (uI I1 84 c (nI v)) 85 c (nI o)) e2 c3 qe
  have nrt : NRT I0 T (uI (uI I1 84 c (nI v)) 85 c (nI o)) I3 := nrt_of tf2 hT e2 c3 qe
  have hrK : RTK (uI (uI I1 84 c (nI v)) 85 c (nI o)) (tkB I0 T j) := by
    obtain ⟨a, b, x⟩ := hr
    exact ⟨a, b, x⟩
  have hr3 := nrt.tk hT hrK
  have r3 : rm I3 T < rm (uI (uI I1 84 c (nI v)) 85 c (nI o)) T := rm_nx hT h17 q
  have r2 : rm (uI (uI I1 84 c (nI v)) 85 c (nI o)) T = rm I1 T := rm_of rfl rfl
  obtain ⟨q, a, a', h1, h2, h3, h4, h5, h6⟩ := q
  have ea : at_ = a := nI_small (e2.symm.trans h1) (by omega) (by omega)
  subst ea
  have tf3 := EQT.tf tf2 q
  have f14 : I3 67 14 = nI T := by rw [q.2 14 (by omega)]; exact e1
  have f19 : I3 67 19 = 0 := by rw [q.2 19 (by omega)]; exact hw
  have f20 : I3 67 20 = -1 := by rw [q.2 20 (by omega)]; exact h20
  have f22 : I3 67 22 = nI 0 := by rw [q.2 22 (by omega)]; exact e3
  have f25 : I3 67 25 = nI 0 := by rw [q.2 25 (by omega)]; exact e4
  have f37 : I3 67 37 = nI o := by rw [q.2 37 (by omega)]; exact e5
  have f30 : I3 67 30 = nI c := by rw [q.2 30 (by omega)]; exact e6
  have f21 : I3 67 21 = nI 0 := by rw [q.2 21 (by omega)]; exact e7
  have f31 : I3 67 31 = nI v := by rw [q.2 31 (by omega)]; exact e31
  have g84' : I3 84 = upd (I1 84) c (nI v) := by rw [q.1 84 (by decide)]; rfl
  have g84 : I3 84 c = nI v := by rw [g84']; exact pk_us
  have g85' : I3 85 = upd (I1 85) c (nI o) := by rw [q.1 85 (by decide)]; rfl
  have g85 : I3 85 c = nI o := by rw [g85']; exact pk_us
  have el := oe.len e5 (by omega)
  have oe3 : OSe I3 X.2.1 := (oe.eq (I' := uI (uI I1 84 c (nI v)) 85 c (nI o)) rfl rfl rfl).eq (q.2 37 (by omega)) (q.1 89 (by decide)) (q.1 90 (by decide))
  have g86 : I3 86 = I1 86 := by rw [q.1 86 (by decide)]; rfl
  have g87 : I3 87 = I1 87 := by rw [q.1 87 (by decide)]; rfl
  have g88 : I3 88 = I1 88 := by rw [q.1 88 (by decide)]; rfl
  have hwd3 : WDS I3 (ws ++ [v]) := WDS_app hwd hl (by omega) g84'
  have len3 : c + 1 = (ws ++ [v]).length := by rw [List.length_append, hl]; rfl
  have dn3 : DNc (I3 89) (I3 90) (I3 84) (I3 85) c o := by
    rw [q.1 84 (by decide), q.1 85 (by decide), q.1 89 (by decide), q.1 90 (by decide)]
    exact dn_up c6
  have bud : o + (if I3 67 17 = 0 then 0 else 1) + (T - a') ≤ 310 := by
    rcases h5 with z | z
    · rw [if_pos z]
      omega
    · split <;> omega
  have st5 : ∀ (k : Nat) (v : Int32), k ≠ 5 → opN [(k, [])] = 0 → wtN [(k, [])] = 0 → rN [(k, [])] = 0 → ST I0 (uI (ofI I3 0 (nI k)) 67 28 v) [(k, [])] T 0 310 := by
    intro k v h5 ho hw hr
    refine ⟨((tf3.u (p := 79) rfl (fun z => by cases z)).u (p := 67) rfl (fun _ => by omega)).u (p := 67) rfl (fun _ => by omega), f19, a', 0 + 1, 0, o, c, 0, f14, h2, rfl, f25, f37, f30, f21, ⟨⟨0, 0, rfl, (show upd (I3 79) 0 (nI k) 0 = nI k from pk_us), fun z => absurd z h5, rfl, ⟨rfl, rfl⟩⟩, ho.symm, ⟨h4, h6⟩, ?_, ⟨o, 0, g85, rfl, ?_⟩, dn3, hc⟩⟩
    · show o + 0 + wtN [(k, [])] + (if I3 67 17 = 0 then 0 else 1) + (T - a') ≤ 310
      rw [hw]
      omega
    · show 0 + rN [(k, [])] + 0 = 0
      rw [hr]
  have mu5 : ∀ (k v : Int32), rm (uI (ofI I3 0 k) 67 28 v) T < rm I1 T := fun k v => by
    have : rm (uI (ofI I3 0 k) 67 28 v) T = rm I3 T := rm_of rfl rfl
    omega
  have x5 : ∀ (kk : Int32) (b : Int32), v < 5 → XTm I0 (uI (ofI I3 0 kk) 67 28 b) T v (ws ++ [v]) (j + 1) := fun kk b h5 => by
    refine ⟨?_, ⟨f31, h5⟩, hwd3, c, f30, ⟨len3, by omega⟩, f20⟩
    obtain ⟨a, b, x⟩ := hr3
    exact ⟨a, b, x⟩
  refine And.intro (fun hgt => ?_) (fun hle => ?_)
  · have hgt : nI 4 < I3 67 31 := hgt
    rw [f31] at hgt
    have hgt4 : 4 < v := by
      have y := Int32.lt_iff_toInt_lt.mp hgt
      rw [nI_toInt (by omega), nI_toInt (by omega)] at y
      omega
    have hk : ¬ (I3 84 c).toInt ≤ 4 := by
      rw [g84, nI_toInt (by omega)]
      omega
    have ms := s4_deed (tk := tkB I0 T) (K := Kf) (k := k) (ws := ws) (j := j) q1 (by omega) (by omega) (by omega)
    rw [q2] at ms
    have hd : DO I0 I3 T c (rm I1 T) := ⟨tf3, f14, ⟨a', h2, h4⟩, f30, Or.inr ⟨f19, a', o, h2, f25, f37, f21, ⟨h4, h6⟩, bud, dn3, by omega, hk⟩⟩
    refine us_doing l T hT ru ta rs I0 d c (rm I1 T) hc v (j + 1) (by omega) I3 J _ f31 hd f19 f20 hr3 (fun I4 j' k4 x4 => ?_)
    refine And.intro (fun w => ?_) (fun w => ?_)
    · refine And.intro (fun _ => ?_) (fun z => absurd z w)
      rcases x4 with x4 | x4
      · obtain ⟨v1, v2, v3, x4⟩ := x4
        exact absurd x4.1.2.1 w
      · have hp := x4.pos
        obtain ⟨f, p, y1, y2, y3, y4⟩ := x4
        rw [y4] at ms
        exact hR I4 J (Or.inl ⟨f, p, ms, y3.1, ⟨k4.1, hp⟩, y1, y2⟩)
    · have w : I4 67 19 = 0 := w
      rcases x4 with x4 | x4
      · obtain ⟨v1, v2, v3, ⟨⟨y84, y20⟩, _, hr4, y4⟩, hnu⟩ := x4
        rw [y4] at ms
        have sg := tkR_sg hr4.2.2 (tkB_ok hT j') (w := 59) (by decide)
        refine tx_isSign l (d + 6) 59 ru ta rs I4 J _ (fun g1 g2 => ?_) (fun ng => ?_)
        · refine And.intro (fun _ => ?_) (fun h => absurd h (by decide))
          refine And.intro (fun z => absurd w z) (fun _ => ?_)
          have z59 := sg.mp ⟨g1, g2⟩
          have ms : mstep (tkB I0 T) (4, Kf, k, ws, j) = (match isSg (tkB I0 T j') 59 with
            | true => .inl (4, [], v, ws ++ [v], j' + 1)
            | false => .inr (ft (tkB I0 T) 1 j')) := ms
          rw [z59] at ms
          obtain ⟨tf4, u1, u2, u3, u4⟩ := k4
          rcases u4 with z | ⟨z, at2, o2, d1, d2, d3, d4, d5, d6, d7, d8, d9⟩
          · exact absurd w (pos_ne z)
          · have hwd4 : WDS I4 (ws ++ [v]) := fun x hx => by
              rw [show I4 84 = I3 84 from congrArg (fun x => x.1.1) y84]
              exact hwd3 x hx
            have oe4 : OSe I4 X.2.1 := oe3.eq (congrArg (fun x => x.2.1) y84) (congrArg (fun x => x.2.2.1) y84) (congrArg (fun x => x.2.2.2) y84)
            have oa4 : OSa I4 (X.2.2 ++ [(o, deN (tkB I0 T) (fmS v) (j + 1))]) (ws ++ [v]) := oa.snoc hl ((show I4 85 = I3 85 from congrArg (fun x => x.1.2.1) y84).trans g85') ((show I4 86 = upd (I3 86) c v1 from congrArg (fun x => x.1.2.2.1) y84).trans (by rw [g86])) ((show I4 87 = upd (I3 87) c v2 from congrArg (fun x => x.1.2.2.2.1) y84).trans (by rw [g87])) ((show I4 88 = upd (I3 88) c v3 from congrArg (fun x => x.1.2.2.2.2) y84).trans (by rw [g88])) hnu
            have xe : xeff (tkB I0 T) (4, Kf, k, ws, j) X = ([], X.2.1 ++ [(408, 0)], X.2.2 ++ [(o, deN (tkB I0 T) (fmS v) (j + 1))]) := by
              show y4x (tkB I0 T) j X = _
              unfold y4x
              rw [q2, blef hgt4, el]
            refine us_cl_end l T hT ru ta rs I0 (d + 1) I4 J _ (ws ++ [v]) j' c hr4 hwd4 u3 len3 (by omega) y20 X.2.1 (fun Rq hk2 => tx_works0 l (d + 5) 1 ru ta rs I4 J Rq d2 (hk2 I4 ⟨tf4, w, at2, o2, c, u1, d1, d2, d3, u3, d4, d5, d6, d7, hc, fun y => absurd y d9⟩ KX.rf oe4)) (by rw [g1]; decide) (fun I' s4 x4 r4 oe5 c5 => ?_)
            refine hR I' J (Or.inr ⟨_, ms, ?_, by omega⟩)
            rw [xe]
            exact ⟨s4, x4, rfl, oe5, oa4.eq c5⟩
        · refine And.intro (fun h => absurd rfl h) (fun _ => ?_)
          have z59 : isSg (tkB I0 T j') 59 = false := bF Iff.rfl (fun y => ng (sg.mpr y))
          have ms : mstep (tkB I0 T) (4, Kf, k, ws, j) = (match isSg (tkB I0 T j') 59 with
            | true => .inl (4, [], v, ws ++ [v], j' + 1)
            | false => .inr (ft (tkB I0 T) 1 j')) := ms
          rw [z59] at ms
          refine ux_errs l (d + 6) 1 (by decide) ru ta rs I4 J _ (fun I5 e => ?_)
          refine And.intro (fun _ => ?_) (fun z => absurd z e.1.1)
          exact hR I5 J (fer_nr (f := 1) k4.1 w hr4 e (by decide) ms)
      · exact absurd w (pos_ne x4.pos)
  · have hle4 : v ≤ 4 := by
      rcases Nat.lt_or_ge 4 v with z | z
      · refine absurd (show nI 4 < I3 67 31 from ?_) hle
        rw [f31]
        exact nI_lt z (by omega)
      · exact z
    have hni : v ∉ ws := fun z => hnt ⟨hle4, z⟩
    have xe5 : xeff (tkB I0 T) (4, Kf, k, ws, j) X = ([(0, [])], X.2.1, X.2.2 ++ [(o, [])]) := by
      show y4x (tkB I0 T) j X = _
      unfold y4x
      rw [q2, Nat.ble_eq.mpr hle4, el]
    have oa5 : OSa I3 (X.2.2 ++ [(o, [])]) (ws ++ [v]) := oa.snoc hl g85' (x1 := I1 86 c) (x2 := I1 87 c) (x3 := I1 88 c) (by rw [g86, upd_id]) (by rw [g87, upd_id]) (by rw [g88, upd_id]) ⟨fun z => absurd z (by decide), fun z => absurd z (by decide), fun z => absurd z (by decide)⟩
    refine And.intro (fun n4 => ?_) (fun i4 => ?_)
    · have n4 : ¬ I3 67 31 = nI 4 := n4
      rw [f31] at n4
      have v4 : v ≠ 4 := fun z => n4 (by rw [z])
      refine tx_opensFrame l (d + 6) 0 (by omega) (nI 1) ru ta rs I3 J _ f22 ?_
      refine And.intro (fun _ => ?_) (fun z => absurd (show I3 67 31 = nI 4 from z) (by rw [f31]; exact n4))
      have ms := s4_law (tk := tkB I0 T) (K := Kf) (k := k) (ws := ws) (j := j) q1 (by omega) (by rw [q2]; exact hni) (by omega)
      rw [q2] at ms
      refine hR (uI (ofI I3 0 (nI 1)) 67 28 1) J (Or.inr ⟨_, ms, ?_, mu5 _ _⟩)
      rw [xe5]
      exact ⟨⟨[(1, [])], rfl, Or.inl ⟨rfl, rfl, trivial⟩, by simp [opN], st5 1 1 (by omega) (by simp [opN]) (by simp [wtN]) (by simp [rN]), rfl, ⟨rfl, fun y hy => by cases hy⟩, fun z => absurd z (by decide), fun z => absurd z (by decide), trivial⟩, x5 _ _ (by omega), oe3.eq rfl rfl rfl, oa5.eq rfl⟩
    · have i4 : I3 67 31 = nI 4 := i4
      have v4 : v = 4 := nI_small (f31.symm.trans i4) (by omega) (by omega)
      subst v4
      refine tx_opensFrame l (d + 6) 0 (by omega) (nI 2) ru ta rs I3 J _ f22 ?_
      refine And.intro (fun z => absurd i4 z) (fun _ => ?_)
      have ms := s4_may (tk := tkB I0 T) (K := Kf) (k := k) (ws := ws) (j := j) q1 q2 hni (by omega)
      refine hR (uI (ofI I3 0 (nI 2)) 67 28 0) J (Or.inr ⟨_, ms, ?_, mu5 _ _⟩)
      rw [xe5]
      exact ⟨⟨[(2, [])], rfl, Or.inl ⟨rfl, rfl, trivial⟩, by simp [opN], st5 2 0 (by omega) (by simp [opN]) (by simp [wtN]) (by simp [rN]), rfl, ⟨rfl, fun y hy => by cases hy⟩, fun z => absurd z (by decide), fun z => absurd z (by decide), trivial⟩, x5 _ _ (by omega), oe3.eq rfl rfl rfl, oa5.eq rfl⟩
set_option maxRecDepth 100000 in
set_option maxHeartbeats 4000000 in
theorem us_clause (l : Launch) (T : Nat) (hT : T ≤ 300) (ru ta : Nat) (rs : List XO) (I0 : XI) (d : Nat) (I : XI) (J : XJ) (Rp : XR) (Kf : List Nat) (k : Nat) (ws : List Nat) (j : Nat) (h : S4 I0 I T 310) (hx : XT4 I0 I T ws j) (h0 : I 67 17 ≠ 0) (X : Wdr) (oe : OSe I X.2.1) (oa : OSa I X.2.2 ws) (hR : ∀ (I' : XI) (J' : XJ), NXTe I0 I I' T (4, Kf, k, ws, j) X → Rp none (shH ru ta rs) I' J') : xm l (d + 8) 0 0 mX12_clause [.ref 67] (shH ru ta rs) I J Rp := by
  obtain ⟨tf, hw, hst, at_, o, c, e1, e2, e3, e4, e5, e6, e7, c3, c4, c6, c7⟩ := h
  obtain ⟨hr, hwd, f30, hl24, h20⟩ := hx
  have okj := tkB_ok (I0 := I0) hT j
  have ts := tkR_s hr.2.2 okj
  have hlc : c = ws.length := nI_small (e6.symm.trans f30) (by omega) (by omega)
  have n0 : (tkB I0 T j).1 ≠ 0 := fun z => h0 (ts.1.mpr z)
  refine xm_ofK 2 (X := xxX12) (t := tX12_clause) (stop := [58, 81]) (ini := false) xx12 pl12 rfl kX12_clause (fun h => by cases h) (Nat.le_of_ble_eq_true rfl) (fun K hK => ?_)
  refine And.intro (fun n1 => ?_) (fun i1 => And.intro (fun le13 => ?_) (fun gt13 => ?_))
  · have n1 : ¬ I 67 17 = 1 := n1
    exact ux_errs l (d + 6) 1 (by decide) ru ta rs I J _ (fun I' e => hR I' J (fer_no (f := 1) tf hw hr e (by decide) (s4_odd n0 (fun z => n1 (ts.2.1.mpr z.1)))))
  · have i1 : I 67 17 = 1 := i1
    have q1 := ts.2.1.mp i1
    have v31 : I 67 18 = nI (tkB I0 T j).2.1 := by
      rcases tkR_el hr.2.2 okj with ⟨z, _⟩ | ⟨_, _, y⟩ | ⟨z, _⟩ | ⟨z, _⟩ | ⟨z, _⟩
      · omega
      · exact y
      · omega
      · omega
      · omega
    have b31 := okj.2.1 q1
    have le13 : I 67 18 ≤ nI 13 := le13
    rw [v31] at le13
    have hv : (tkB I0 T j).2.1 ≤ 13 := (nI_leI (by omega) (by omega)).mp le13
    generalize ev : (tkB I0 T j).2.1 = v at v31 hv b31
    have tf1 : TF I0 (uI I 67 31 (I 67 18)) := tf.u (p := 67) rfl (fun _ => by omega)
    have hr1 : RTK (uI I 67 31 (I 67 18)) (tkB I0 T j) := by
      obtain ⟨a, b, x⟩ := hr
      exact ⟨a, b, x⟩
    have pos1 : ∀ I', ER (uI I 67 31 (I 67 18)) I' → ¬ I' 67 19 ≤ 0 := fun I' e => pos_nle (e.2.2.2 (Or.inl hw))
    have p81 : c < 24 → ¬ (v ≤ 4 ∧ v ∈ ws) → xrun xxX12 none false false (shH ru ta rs).length 0 0 none l (d + 7) tX12_clause [58, 81] Rp (0 + 1) 81 [some (.ref 67)] [] (shH ru ta rs) (uI I 67 31 (I 67 18)) J 0 0 := fun hc hnt => by
      rw [if_neg h0] at c4
      refine us_cl_81 l T hT ru ta rs I0 d 0 (uI I 67 31 (I 67 18)) J Rp tf1 hw at_ o c e1 e2 e3 e4 e5 e6 e7 h0 c3.1 c4 c6 hc v k Kf ws j q1 ev hv v31 hr1 hwd hlc h20 hnt X (oe.eq rfl rfl rfl) (oa.eq rfl) (fun I' J' b => hR I' J' ?_)
      rcases b with b | ⟨s', b, g, r⟩
      · exact Or.inl b
      · refine Or.inr ⟨s', b, g, mu_lt ?_⟩
        have : rm (uI I 67 31 (I 67 18)) T = rm I T := rm_of rfl rfl
        omega
    have p58 : ¬ (v ≤ 4 ∧ v ∈ ws) → xrun xxX12 none false false (shH ru ta rs).length 0 0 none l (d + 7) tX12_clause [58, 81] Rp (0 + 1 + 1) 58 [some (.ref 67)] [] (shH ru ta rs) (uI I 67 31 (I 67 18)) J 0 0 := fun hnt => by
      refine xrun_step fun K hK => ?_
      refine And.intro (fun hne => ?_) (fun heq => ?_)
      · have hc : c < 24 := by
          rcases Nat.lt_or_ge c 24 with z | z
          · exact z
          · exfalso
            refine hne ?_
            show I 67 30 = nI 24
            rw [e6, show c = 24 by omega]
        refine And.intro (fun _ => ?_) (fun z => absurd ?_ z)
        · exact hK 81 [some (.ref 67)] [] (shH ru ta rs) (uI I 67 31 (I 67 18)) J 0 0 (p81 hc hnt)
        · show I 67 19 ≤ 0
          rw [hw]
          exact Int32.le_refl _
      · have heq : I 67 30 = nI 24 := heq
        have c24 : c = 24 := nI_small (e6.symm.trans heq) (by omega) (by omega)
        refine ux_errs l (d + 6) 6 (by decide) ru ta rs (uI I 67 31 (I 67 18)) J _ (fun I' e => ?_)
        exact And.intro (fun z => absurd z (pos1 I' e.1)) (fun _ => hR I' J (fer_no (f := 6) tf1 hw hr1 e (by decide) (s4_many q1 (by omega) (by rw [ev]; exact hnt) (by omega))))
    refine And.intro (fun gt4 => ?_) (fun le4 => ?_)
    · have gt4 : nI 4 < I 67 18 := gt4
      refine hK 58 [some (.ref 67)] [] (shH ru ta rs) (uI I 67 31 (I 67 18)) J 0 0 (p58 (fun z => ?_))
      rw [v31] at gt4
      have y := Int32.lt_iff_toInt_lt.mp gt4
      rw [nI_toInt (by omega), nI_toInt (by omega)] at y
      omega
    · have le4 : ¬ nI 4 < I 67 18 := le4
      rw [v31] at le4
      have hv4 : v ≤ 4 := by
        rcases Nat.lt_or_ge 4 v with z | z
        · exact absurd (nI_lt z (by omega)) le4
        · exact z
      show xm l (d + 7) 0 0 mX12_wasTold [.ref 67, .int (I 67 18)] (shH ru ta rs) (uI I 67 31 (I 67 18)) J _
      have arg : ∀ x : Int32, x = nI v → ∀ Rq : XR, xm l (d + 7) 0 0 mX12_wasTold [.ref 67, .int (nI v)] (shH ru ta rs) (uI I 67 31 (I 67 18)) J Rq → xm l (d + 7) 0 0 mX12_wasTold [.ref 67, .int x] (shH ru ta rs) (uI I 67 31 (I 67 18)) J Rq := fun x hx Rq h => by
        rw [hx]
        exact h
      refine arg _ v31 _ ?_
      refine ux_wasTold l (d + 6) ws v (by omega) ru ta rs (uI I 67 31 (I 67 18)) J _ hl24 f30 hwd (fun hm => ?_) (fun hm => ?_)
      · refine And.intro (fun z => absurd z (by decide)) (fun _ => ?_)
        refine ux_errs l (d + 6) 4 (by decide) ru ta rs (uI I 67 31 (I 67 18)) J _ (fun I' e => ?_)
        exact And.intro (fun z => absurd z (pos1 I' e.1)) (fun _ => hR I' J (fer_no (f := 4) tf1 hw hr1 e (by decide) (s4_twice q1 (by omega) (by rw [ev]; exact hm))))
      · refine And.intro (fun _ => ?_) (fun z => absurd rfl z)
        exact hK 58 [some (.ref 67)] [] (shH ru ta rs) (uI I 67 31 (I 67 18)) J 0 0 (p58 (fun z => hm z.2))
  · have i1 : I 67 17 = 1 := i1
    have q1 := ts.2.1.mp i1
    have gt13 : ¬ I 67 18 ≤ nI 13 := gt13
    refine ux_errs l (d + 6) 1 (by decide) ru ta rs I J _ (fun I' e => hR I' J (fer_no (f := 1) tf hw hr e (by decide) (s4_odd n0 (fun z => gt13 ?_))))
    rcases tkR_el hr.2.2 okj with ⟨y, _⟩ | ⟨_, _, y⟩ | ⟨y, _⟩ | ⟨y, _⟩ | ⟨y, _⟩
    · omega
    · rw [y]
      exact (nI_leI (by omega) (by omega)).mpr z.2
    · omega
    · omega
    · omega
