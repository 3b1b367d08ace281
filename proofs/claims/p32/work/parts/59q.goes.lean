-- ===== the reference reads a text: what goes on, what is over =====
def asS (x : Int32) : Prop := x = 60 ∨ x = 62 ∨ x = 61 ∨ x = 35 ∨ x = 300 ∨ x = 301
set_option maxRecDepth 100000 in
theorem ux_isAsking (l : Launch) (d : Nat) (x : Int32) (sh : List XO) (I : XI) (J : XJ) (Rp : XR) (h1 : asS x → isBin x → Rp (some (.int 1)) sh I J) (h0 : ¬ asS x → Rp (some (.int 0)) sh I J) : xm l (d + 1) 0 0 mX12_isAsking [.int x] sh I J Rp := by
  have b : ∀ c : Int32, isBin c → asS c → x = c → Rp (some (.int 1)) sh I J := fun c hc ha e => h1 (by rw [e]; exact ha) (by rw [e]; exact hc)
  refine xm_ofK 0 (X := xxX12) (t := tX12_isAsking) (stop := []) (ini := false) xx12 pl12 rfl kX12_isAsking (fun h => by cases h) (Nat.le_of_ble_eq_true rfl) (fun K hK => ?_)
  refine And.intro (fun h => And.intro (Or.inr rfl) (b 60 (by unfold isBin; decide) (by unfold asS; decide) h)) (fun n1 => ?_)
  refine And.intro (fun h => And.intro (Or.inr rfl) (b 62 (by unfold isBin; decide) (by unfold asS; decide) h)) (fun n2 => ?_)
  refine And.intro (fun h => And.intro (Or.inr rfl) (b 61 (by unfold isBin; decide) (by unfold asS; decide) h)) (fun n3 => ?_)
  refine And.intro (fun h => And.intro (Or.inr rfl) (b 35 (by unfold isBin; decide) (by unfold asS; decide) h)) (fun n4 => ?_)
  refine And.intro (fun h => And.intro (Or.inr rfl) (b 300 (by unfold isBin; decide) (by unfold asS; decide) h)) (fun n5 => ?_)
  refine And.intro (fun n6 => And.intro (Or.inl rfl) (h0 ?_)) (fun h => And.intro (Or.inr rfl) (b 301 (by unfold isBin; decide) (by unfold asS; decide) h))
  intro z
  rcases z with z | z | z | z | z | z
  · exact n1 z
  · exact n2 z
  · exact n3 z
  · exact n4 z
  · exact n5 z
  · exact n6 z
theorem tkR_as {s v : Int32} {q : TK} (h : tkR s v q) (ok : tkOK q) : (s = 3 ∧ asS v) ↔ isAs q = true := by
  have a := tkR_sg h ok (w := 60) (by decide)
  have b := tkR_sg h ok (w := 62) (by decide)
  have c := tkR_sg h ok (w := 61) (by decide)
  have d := tkR_sg h ok (w := 35) (by decide)
  have e := tkR_sg h ok (w := 300) (by decide)
  have f := tkR_sg h ok (w := 301) (by decide)
  unfold isAs
  simp only [Bool.or_eq_true]
  rw [← a, ← b, ← c, ← d, ← e, ← f]
  unfold asS
  constructor
  · rintro ⟨x, z | z | z | z | z | z⟩
    · exact Or.inl (Or.inl (Or.inl ⟨x, z⟩))
    · exact Or.inl (Or.inl (Or.inr ⟨x, z⟩))
    · exact Or.inl (Or.inr (Or.inl ⟨x, z⟩))
    · exact Or.inl (Or.inr (Or.inr ⟨x, z⟩))
    · exact Or.inr (Or.inl ⟨x, z⟩)
    · exact Or.inr (Or.inr ⟨x, z⟩)
  · rintro (((⟨x, z⟩ | ⟨x, z⟩) | (⟨x, z⟩ | ⟨x, z⟩)) | (⟨x, z⟩ | ⟨x, z⟩))
    · exact ⟨x, Or.inl z⟩
    · exact ⟨x, Or.inr (Or.inl z)⟩
    · exact ⟨x, Or.inr (Or.inr (Or.inl z))⟩
    · exact ⟨x, Or.inr (Or.inr (Or.inr (Or.inl z)))⟩
    · exact ⟨x, Or.inr (Or.inr (Or.inr (Or.inr (Or.inl z))))⟩
    · exact ⟨x, Or.inr (Or.inr (Or.inr (Or.inr (Or.inr z))))⟩
theorem tkR_op {s v : Int32} {q : TK} (h : tkR s v q) (ok : tkOK q) : (s = 3 ∧ (v = 43 ∨ v = 45 ∨ v = 42 ∨ v = 47)) ↔ isOp q = true := by
  have a := tkR_sg h ok (w := 43) (by decide)
  have b := tkR_sg h ok (w := 45) (by decide)
  have c := tkR_sg h ok (w := 42) (by decide)
  have d := tkR_sg h ok (w := 47) (by decide)
  unfold isOp
  simp only [Bool.or_eq_true]
  rw [← a, ← b, ← c, ← d]
  constructor
  · rintro ⟨x, z | z | z | z⟩
    · exact Or.inl (Or.inl ⟨x, z⟩)
    · exact Or.inl (Or.inr ⟨x, z⟩)
    · exact Or.inr (Or.inl ⟨x, z⟩)
    · exact Or.inr (Or.inr ⟨x, z⟩)
  · rintro ((⟨x, z⟩ | ⟨x, z⟩) | (⟨x, z⟩ | ⟨x, z⟩))
    · exact ⟨x, Or.inl z⟩
    · exact ⟨x, Or.inr (Or.inl z)⟩
    · exact ⟨x, Or.inr (Or.inr (Or.inl z))⟩
    · exact ⟨x, Or.inr (Or.inr (Or.inr z))⟩
theorem sh0_cl3 : ∀ {G : TG}, Sh0 G → cl3 (KS G) = [2]
  | [], h => h.elim
  | (k, a) :: G, h => by
    rcases h with ⟨rfl, rfl, _⟩ | ⟨rfl, _, h⟩
    · rfl
    · exact (show cl3 (KS G) = [2] from sh0_cl3 h)
set_option maxRecDepth 100000 in
set_option maxHeartbeats 1000000 in
theorem us_cl_end (l : Launch) (T : Nat) (hT : T ≤ 300) (ru ta : Nat) (rs : List XO) (I0 : XI) (d : Nat) (I : XI) (J : XJ) (Rp : XR) (ws : List Nat) (j c0 : Nat) (hr : RTK I (tkB I0 T j)) (hwd : WDS I ws) (e30 : I 67 30 = nI c0) (ec0 : c0 + 1 = ws.length) (h24 : ws.length ≤ 24) (h20 : I 67 20 = -1) (E : List Odr) (works : ∀ (Rq : XR), (∀ I1, CL I0 I1 T 310 → KX I I1 → OSe I1 E → Rq none (shH ru ta rs) I1 J) → xm l (d + 5) 0 0 mX12_works [.ref 67, .int 1] (shH ru ta rs) I J Rq) (h0 : I 67 17 ≠ 0) (hR : ∀ (I' : XI), S4 I0 I' T 310 → XT4 I0 I' T ws (j + 1) → rm I' T < rm I T → OSe I' (E ++ [(408, 0)]) → C5 I' = C5 I → Rp none (shH ru ta rs) I' J) : xm l (d + 6) 0 0 mX12_clauseIsOver [.ref 67] (shH ru ta rs) I J Rp := by
  refine xm_ofK 0 (X := xxX12) (t := tX12_clauseIsOver) (stop := []) (ini := false) xx12 pl12 rfl kX12_clauseIsOver (fun h => by cases h) (Nat.le_of_ble_eq_true rfl) (fun K hK => ?_)
  refine works _ (fun I1 c1 k1 oe1 => ?_)
  obtain ⟨tf, hw, at_, o, c, e1, e2, e4, e5, e6, e7, c3, c4, c6, c7, c8⟩ := c1
  refine tx_emits l (d + 4) o (by omega) 408 0 ru ta rs (uI I1 67 22 0) J _ e5 ?_
  have ec : I1 67 30 + nI 1 = nI (c + 1) := by rw [e6, nI_add]
  show xm l (d + 5) 0 0 mX12_next [.ref 67] (shH ru ta rs) (uI (emI (uI I1 67 22 0) o 408 0) 67 30 (I1 67 30 + nI 1)) J _
  rw [ec]
  have tf2 : TF I0 (uI (emI (uI I1 67 22 0) o 408 0) 67 30 (nI (c + 1))) := ((tf.u (p := 67) rfl (fun _ => by omega)).em o 408 0).u (p := 67) rfl (fun _ => by omega)
  have h17 : I1 67 17 ≠ 0 := by rw [k1.1.1]; exact h0
  refine ux_next l (d + 1) T ru ta rs _ J _ at_ hT e1 e2 c3.1 (fun I2 qe => ?_)
  have q := NXe.nx (I := uI (emI (uI I1 67 22 0) o 408 0) 67 30 (nI (c + 1))) e2 c3.1 qe
  have r2 : rm I2 T < rm (uI (emI (uI I1 67 22 0) o 408 0) 67 30 (nI (c + 1))) T := rm_nx hT h17 q
  have r1 : rm (uI (emI (uI I1 67 22 0) o 408 0) 67 30 (nI (c + 1))) T = rm I T := rm_of k1.1.1 k1.1.2.2.2
  have nrt : NRT I0 T (uI (emI (uI I1 67 22 0) o 408 0) 67 30 (nI (c + 1))) I2 := nrt_of tf2 hT e2 c3.1 qe
  have hrK : RTK (uI (emI (uI I1 67 22 0) o 408 0) 67 30 (nI (c + 1))) (tkB I0 T j) := by
    obtain ⟨a, b, x⟩ := hr.kq k1.kq
    exact ⟨a, b, x⟩
  have hr2 := nrt.tk hT hrK
  have ecc : c = c0 := by
    have := k1.2.2.1
    rw [e30, e6] at this
    exact nI_small this (by omega) (by omega)
  obtain ⟨q, a, a', h1, h2, h3, h4, h5, h6⟩ := q
  have ea : at_ = a := nI_small (e2.symm.trans h1) (by omega) (by omega)
  subst ea
  have r3 : rm (uI I2 67 28 4) T = rm I2 T := rm_of rfl rfl
  have d2 : DNc (upd (I1 89) o 408) (upd (I1 90) o 0) (I1 84) (I1 85) (c + 1) (o + 1) := by
    intro j hj hj4
    by_cases z : j = c
    · subst z
      obtain ⟨hh, a, m, y1, y2, y3⟩ := c8 hj4
      refine ⟨a, m, hh, y1, by omega, Pg_up y3 (fun i hi => ⟨pk_un (by omega), pk_un (by omega)⟩), ?_⟩
      rw [← y2, pk_us]
    · exact dn_emit c6 j (by omega) hj4
  have x4 : XT4 I0 (uI I2 67 28 4) T ws (j + 1) := by
    refine ⟨hr2.st, fun x hx => ?_, ?_, h24, ?_⟩
    · show I2 84 x = _ ∧ _
      rw [q.1 84 (by decide)]
      show I1 84 x = _ ∧ _
      rw [C5_84 k1.2.2.2.2]
      exact hwd x hx
    · show I2 67 30 = _
      rw [q.2 30 (by omega), ← ec0, ← ecc]
      rfl
    · show I2 67 20 = _
      rw [q.2 20 (by omega)]
      show I1 67 20 = _
      rw [← h20]
      exact congrArg Prod.snd k1.2.1
  have oe2 : OSe (uI I2 67 28 4) (E ++ [(408, 0)]) := by
    have b0 : OSe (uI I1 67 22 0) E := oe1.eq rfl rfl rfl
    have b1 : OSe (emI (uI I1 67 22 0) o 408 0) (E ++ [(408, 0)]) := b0.emit (y := 408) (n := 0) e5 (by omega) (Or.inr rfl)
    have b2 : OSe (uI (emI (uI I1 67 22 0) o 408 0) 67 30 (nI (c + 1))) (E ++ [(408, 0)]) := b1.eq rfl rfl rfl
    exact (b2.eq (q.2 37 (by omega)) (q.1 89 (by decide)) (q.1 90 (by decide))).eq (I := I2) rfl rfl rfl
  have cc5 : C5 (uI I2 67 28 4) = C5 I := by
    have z1 : C5 (uI I2 67 28 4) = C5 I2 := rfl
    have z2 : C5 I2 = C5 (uI (emI (uI I1 67 22 0) o 408 0) 67 30 (nI (c + 1))) := C5_eq q
    have z3 : C5 (uI (emI (uI I1 67 22 0) o 408 0) 67 30 (nI (c + 1))) = C5 I1 := rfl
    exact z1.trans (z2.trans (z3.trans k1.2.2.2.2))
  refine hR (uI I2 67 28 4) ⟨(EQT.tf tf2 q).u (p := 67) rfl (fun _ => by omega), ?_, rfl, a', o + 1, c + 1, ?_, h2, ?_, ?_, ?_, ?_, ?_, ⟨h4, h6⟩, ?_, ?_, by omega⟩ x4 (by omega) oe2 cc5
  · show I2 67 19 = 0
    rw [q.2 19 (by omega)]
    exact hw
  · show I2 67 14 = nI T
    rw [q.2 14 (by omega)]
    exact e1
  · show I2 67 22 = nI 0
    rw [q.2 22 (by omega)]
    rfl
  · show I2 67 25 = nI 0
    rw [q.2 25 (by omega)]
    exact e4
  · show I2 67 37 = nI (o + 1)
    rw [q.2 37 (by omega)]
    rfl
  · show I2 67 30 = nI (c + 1)
    rw [q.2 30 (by omega)]
    rfl
  · show I2 67 21 = nI 0
    rw [q.2 21 (by omega)]
    exact e7
  · show o + 1 + (if I2 67 17 = 0 then 0 else 1) + (T - a') ≤ 310
    rw [if_neg h17] at c4
    rcases h5 with z | z
    · rw [if_pos z]
      omega
    · split <;> omega
  · show DNc (I2 89) (I2 90) (I2 84) (I2 85) (c + 1) (o + 1)
    rw [q.1 89 (by decide), q.1 90 (by decide), q.1 84 (by decide), q.1 85 (by decide)]
    exact d2
theorem us_clauseIsOver (l : Launch) (T : Nat) (hT : T ≤ 300) (ru ta : Nat) (rs : List XO) (I0 : XI) (d : Nat) (k : Nat) (hk : k = 1 ∨ k = 2) (a : List Int32) (ho : OPS 1 a) (I : XI) (J : XJ) (Rp : XR) (h : ST I0 I [(k, a)] T 1 310) (h0 : I 67 17 ≠ 0) (kk : Nat) (ws : List Nat) (j : Nat) (hx : XTm I0 I T kk ws j) (D : Fdr) (E : List Odr) (of : OSf I [(k, a)] D) (oe : OSe I E) (hR : ∀ (I' : XI), S4 I0 I' T 310 → XT4 I0 I' T ws (j + 1) → rm I' T < rm I T → OSe I' ((wkD 1 D E).2 ++ [(408, 0)]) → C5 I' = C5 I → Rp none (shH ru ta rs) I' J) : xm l (d + 6) 0 0 mX12_clauseIsOver [.ref 67] (shH ru ta rs) I J Rp := by
  obtain ⟨x1, x2, x3, c0, x4, x5, x6⟩ := hx
  refine us_cl_end l T hT ru ta rs I0 d I J Rp ws j c0 x1 x3 x4 x5.1 x5.2 x6 (wkD 1 D E).2 (fun Rq hq2 => ?_) h0 hR
  refine us_works l (d + 3) T ru ta rs I0 k [] 310 1 1 (by omega) (by omega) (by simp [wN]) J Rq a I (OPS_4 (by omega) ho) ho h (fun I1 a1 s1 o1 lt1 k1 ot1 => ?_)
  have ea := OPS_nil (Nat.le_refl _) o1 lt1
  subst ea
  obtain ⟨tf, hw, at_, n, w, o, c, op, e1, e2, e3, e4, e5, e6, e7, c1, c2, c3, c4, c5, c6, c7⟩ := s1
  have hl := Rep_len c1
  have hw0 : w = 0 := by
    have := hl.2
    simpa [wN] using this
  have hop : op = 0 := by
    rw [c2]
    rcases hk with rfl | rfl <;> simp [opN]
  subst hw0 hop
  refine hq2 I1 ⟨tf, hw, at_, o, c, e1, e2, e4, e5, e6, e7, c3, ?_, c6, c7, fun _ => ⟨_, c5⟩⟩ k1 (ot1 D E of oe).2
  omega
theorem y2x_end {tk : Nat → TK} {j k : Nat} {a : List Int32} {I : XI} {X : Wdr} (nop : isOp (tk j) = false) (of : OSf I [(k, a)] X.1) : y2x tk [1] j X = ([], (wkD 1 X.1 X.2.1).2 ++ [(408, 0)], X.2.2) := by
  obtain ⟨D, E, A⟩ := X
  cases D with
  | nil => exact of.elim
  | cons d D =>
    unfold y2x
    dsimp only
    rw [nop]
    all_goals rfl
theorem us_245 (l : Launch) (d : Nat) (ru ta : Nat) (rs : List XO) (I0 I : XI) (T : Nat) (J : XJ) (Rp : XR) (n k j : Nat) (s : MS) (X : Wdr) (tf : TF I0 I) (hw : I 67 19 = 0) (r : RTK I (tkB I0 T j)) (hm : mstep (tkB I0 T) s = .inr (ft (tkB I0 T) 1 j)) (hR : ∀ (I' : XI) (J' : XJ), NXTe I0 I I' T s X → Rp none (shH ru ta rs) I' J') : gor l d ru ta rs J Rp (n + 1) 245 k I := by
  refine xrun_step fun K hK => ?_
  exact ux_errs l (d + 7) 1 (by decide) ru ta rs I J _ (fun I' e => hR I' J (fer_no tf hw r e (by decide) hm))
set_option maxRecDepth 100000 in
theorem us_224 (l : Launch) (T : Nat) (hT : T ≤ 300) (ru ta : Nat) (rs : List XO) (I0 : XI) (d : Nat) (I : XI) (J : XJ) (Rp : XR) (n k : Nat) (hk : k < 100) (a : List Int32) (G : TG) (h : ST I0 I ((k, a) :: G) T 1 310) (h1 : k = 1 → G = [] ∧ OPS 3 a) (kk : Nat) (ws : List Nat) (j : Nat) (hx : XTm I0 I T kk ws j) (nop : isOp (tkB I0 T j) = false) (X : Wdr) (of : OSf I ((k, a) :: G) X.1) (oe : OSe I X.2.1) (oa : OSa I X.2.2 ws) (hE : (k = 1 → isSg (tkB I0 T j) 59 = false) → mstep (tkB I0 T) (2, k :: KS G, kk, ws, j) = .inr (ft (tkB I0 T) 1 j)) (hG : k = 1 → isSg (tkB I0 T j) 59 = true → mstep (tkB I0 T) (2, k :: KS G, kk, ws, j) = .inl (4, [], kk, ws, j + 1)) (hR : ∀ (I' : XI) (J' : XJ), NXTe I0 I I' T (2, k :: KS G, kk, ws, j) X → Rp none (shH ru ta rs) I' J') : gor l d ru ta rs J Rp (n + 2) 224 k I := by
  have g59 := tkR_sg hx.1.2.2 (tkB_ok hT j) (w := 59) (by decide)
  refine xrun_step fun K hK => ?_
  have k245 := fun hm => hK 245 [some (.ref 67), some (.int (nI k)), none] [] (shH ru ta rs) I J 0 0 (us_245 l d ru ta rs I0 I T J Rp n k j (2, k :: KS G, kk, ws, j) X h.1 h.2.1 hx.1 hm hR)
  refine And.intro (fun hn => k245 (hE (fun z => absurd (by rw [z]; rfl) hn))) (fun he => ?_)
  have ek : k = 1 := nI_small (show nI k = nI 1 from he) (by omega) (by omega)
  obtain ⟨hGn, ho⟩ := h1 ek
  subst hGn
  refine tx_isSign l (d + 7) 59 ru ta rs I J _ (fun g1 g2 => ?_) (fun ng => ?_)
  · have z := g59.mp ⟨g1, g2⟩
    refine And.intro (fun h => absurd h (by decide)) (fun _ => ?_)
    refine us_clauseIsOver l T hT ru ta rs I0 (d + 2) k (Or.inl ek) a (OPS_mono (by omega) ho) I J _ h (by rw [g1]; decide) kk ws j hx X.1 X.2.1 of oe (fun I' s4 x4 r4 oe4 c54 => hR I' J (Or.inr ⟨_, hG ek z, ?_, mu_lt r4⟩))
    have xe : xeff (tkB I0 T) (2, k :: KS [], kk, ws, j) X = ([], (wkD 1 X.1 X.2.1).2 ++ [(408, 0)], X.2.2) := by
      subst ek
      show y2x (tkB I0 T) [1] j X = _
      exact y2x_end nop of
    rw [xe]
    exact ⟨s4, x4, rfl, oe4, oa.eq c54⟩
  · exact And.intro (fun _ => k245 (hE (fun _ => bF Iff.rfl (fun y => ng (g59.mpr y))))) (fun h => absurd rfl h)
set_option maxRecDepth 100000 in
set_option maxHeartbeats 1000000 in
theorem us_181 (l : Launch) (T : Nat) (hT : T ≤ 300) (ru ta : Nat) (rs : List XO) (I0 : XI) (d : Nat) (I : XI) (J : XJ) (Rp : XR) (n k : Nat) (hk : k < 100) (a : List Int32) (G : TG) (h20 : G.length < 19 ∧ wN G + G.length < 70) (h : ST I0 I ((k, a) :: G) T 1 310) (hst : I 67 28 = 2) (h1 : k = 1 → G = [] ∧ OPS 3 a) (h5 : k = 5 → Sh0 G ∧ OPS 3 a) (kk : Nat) (ws : List Nat) (j : Nat) (hx : XTm I0 I T kk ws j) (nop : isOp (tkB I0 T j) = false) (X : Wdr) (of : OSf I ((k, a) :: G) X.1) (oe : OSe I X.2.1) (oa : OSa I X.2.2 ws) (hE : k ≠ 5 → (k = 1 → isSg (tkB I0 T j) 59 = false) → mstep (tkB I0 T) (2, k :: KS G, kk, ws, j) = .inr (ft (tkB I0 T) 1 j)) (hG : k = 1 → isSg (tkB I0 T j) 59 = true → mstep (tkB I0 T) (2, k :: KS G, kk, ws, j) = .inl (4, [], kk, ws, j + 1)) (hR : ∀ (I' : XI) (J' : XJ), NXTe I0 I I' T (2, k :: KS G, kk, ws, j) X → Rp none (shH ru ta rs) I' J') : gor l d ru ta rs J Rp (n + 3) 181 k I := by
  refine xrun_step fun K hK => ?_
  refine And.intro (fun hn => ?_) (fun he => ?_)
  · exact hK 224 [some (.ref 67), some (.int (nI k)), none] [] (shH ru ta rs) I J 0 0 (us_224 l T hT ru ta rs I0 d I J Rp n k hk a G h h1 kk ws j hx nop X of oe oa (hE (fun z => absurd (by rw [z]; rfl) hn)) hG hR)
  have ek : k = 5 := nI_small (show nI k = nI 5 from he) (by omega) (by omega)
  obtain ⟨hGs, ho⟩ := h5 ek
  subst ek
  refine us_works l (d + 6) T ru ta rs I0 5 G 310 3 3 (by omega) (by omega) h20.2 J _ a I (OPS_4 (by omega) ho) ho h (fun I1 a1 s1 o1 lt1 k1 ot1 => ?_)
  have ea := OPS_nil (Nat.le_refl _) o1 lt1
  subst ea
  obtain ⟨tf, hw, at_, n0, w, o, c, op, e1, e2, e3, e4, e5, e6, e7, c1, c2, c3, c4, c5, c6, c7⟩ := s1
  obtain ⟨n1, w0, rfl, f2, f3, f4, f5⟩ := c1
  have f4 : w = w0 := f4
  subst f4
  have hl := Rep_len f5
  have hop5 : opN ((5, []) :: G) = opN G := by simp [opN]
  have hwt : wtN ((5, []) :: G) = wtN G + 1 := by simp [wtN]; omega
  have hrn : rN ((5, []) :: G) = rN G + 1 := by simp [rN]; omega
  have vp : vp_in (I1 67 22) 41 := by rw [e3]; exact vp_in_nI (by omega) (by omega)
  have en : I1 67 22 - nI 1 = nI n1 := by rw [e3]; exact nI_pred n1
  have ehow : I1 80 (I1 67 22).toNatClampNeg = I1 80 (n1 + 1) := by rw [e3, nI_clamp (by omega)]
  refine And.intro vp ?_
  show xm l (d + 8) 0 0 mX12_emits [.ref 67, .int (I1 80 (I1 67 22).toNatClampNeg), .int 0] (shH ru ta rs) (uI I1 67 22 (I1 67 22 - nI 1)) J _
  rw [ehow, en]
  refine tx_emits l (d + 7) o (by omega) _ 0 ru ta rs _ J _ e5 ?_
  have s2 : ST I0 (emI (uI I1 67 22 (nI n1)) o (I1 80 (n1 + 1)) 0) G T 1 310 := by
    refine ⟨(tf.u (p := 67) rfl (fun _ => by omega)).em _ _ _, hw, at_, n1, w, o + 1, c, op, e1, e2, rfl, e4, rfl, e6, e7, ⟨f5, by omega, c3, ?_, pg_emit c5 (Or.inr (Or.inr ⟨f3 rfl, by omega, by omega⟩)), dn_emit c6, c7⟩⟩
    show o + 1 + w + wtN G + (if I1 67 17 = 0 then 0 else 1) + (T - at_) ≤ 310
    omega
  refine us_askIsOver l (d + 6) T ru ta rs I0 310 (by omega) J _ G _ (by omega) hGs s2 (fun I3 a3 s3 o3 t3 r3 kq ot3 => ?_)
  have q1 : KQ I1 (emI (uI I1 67 22 (nI n1)) o (I1 80 (n1 + 1)) 0) := ⟨⟨rfl, rfl, rfl⟩, rfl, rfl, rfl, rfl⟩
  obtain ⟨DX, EX, AX⟩ := X
  cases DX with
  | nil => exact of.elim
  | cons dx DX =>
  have w1 := ot1 _ _ of oe
  have hw1 : (wkD 3 (dx :: DX) EX) = ((dx.1, (wk 3 dx.2).1) :: DX, EX ++ (wk 3 dx.2).2) := rfl
  rw [hw1] at w1
  have ecmp : I1 80 (n1 + 1) = nI dx.1 := by
    have z := w1.1.2.1 rfl
    rw [← hl.1] at z
    exact z
  have w2 : OSe (emI (uI I1 67 22 (nI n1)) o (I1 80 (n1 + 1)) 0) (EX ++ (wk 3 dx.2).2 ++ [(dx.1, 0)]) := by
    rw [ecmp]
    have b0 : OSe (uI I1 67 22 (nI n1)) (EX ++ (wk 3 dx.2).2) := w1.2.eq rfl rfl rfl
    exact b0.emit (n := 0) e5 (by omega) (Or.inr rfl)
  have w3 := ot3 DX _ (OSf.eq w1.1.2.2.2 rfl rfl) w2
  have xe : xeff (tkB I0 T) (2, 5 :: KS G, kk, ws, j) (dx :: DX, EX, AX) = ((x3 (KS G) DX (EX ++ (wk 3 dx.2).2 ++ [(dx.1, 0)])).1, (x3 (KS G) DX (EX ++ (wk 3 dx.2).2 ++ [(dx.1, 0)])).2, AX) := by
    show y2x (tkB I0 T) (5 :: KS G) j (dx :: DX, EX, AX) = _
    unfold y2x
    dsimp only
    rw [nop]
    all_goals rfl
  refine hR I3 J (Or.inr ⟨_, s2_cmp nop, ?_, ?_⟩)
  · rw [xe]
    exact ⟨⟨a3, sh0_cl3 hGs, o3, s3, t3, w3.1⟩, hx.kq ((k1.kq.tr q1).tr kq), w3.2, OSa.eq (OSa.eq (OSa.eq oa k1.2.2.2.2) q1.2.2.2.2) kq.2.2.2.2⟩
  have r4 : rm (emI (uI I1 67 22 (nI n1)) o (I1 80 (n1 + 1)) 0) T = rm I T := rm_of k1.1.1 k1.1.2.2.2
  unfold mu
  rw [t3, hst, r3, r4, if_neg (by decide), if_pos (by decide)]
  omega
set_option maxRecDepth 100000 in
set_option maxHeartbeats 1000000 in
theorem us_116 (l : Launch) (T : Nat) (hT : T ≤ 300) (ru ta : Nat) (rs : List XO) (I0 : XI) (hs : shO CF (shH ru ta rs)) (hi : ivO CF [] I0) (hq : QQ I0) (d : Nat) (I : XI) (J : XJ) (Rp : XR) (n k : Nat) (hk : k < 100) (a : List Int32) (G : TG) (h20 : G.length < 19 ∧ wN G + G.length < 70) (hop : opN ((k, a) :: G) ≤ 8) (h : ST I0 I ((k, a) :: G) T 1 310) (hst : I 67 28 = 2) (h1 : k = 1 → G = [] ∧ OPS 3 a) (h5 : k = 5 → Sh0 G ∧ OPS 3 a) (h4 : k = 4 → Sh0 G ∧ OPS 3 a) (kk : Nat) (ws : List Nat) (j : Nat) (hx : XTm I0 I T kk ws j) (nop : isOp (tkB I0 T j) = false) (X : Wdr) (of : OSf I ((k, a) :: G) X.1) (oe : OSe I X.2.1) (oa : OSa I X.2.2 ws) (hE : k ≠ 5 → k ≠ 4 → (k = 1 → isSg (tkB I0 T j) 59 = false) → mstep (tkB I0 T) (2, k :: KS G, kk, ws, j) = .inr (ft (tkB I0 T) 1 j)) (hG : k = 1 → isSg (tkB I0 T j) 59 = true → mstep (tkB I0 T) (2, k :: KS G, kk, ws, j) = .inl (4, [], kk, ws, j + 1)) (hR : ∀ (I' : XI) (J' : XJ), NXTe I0 I I' T (2, k :: KS G, kk, ws, j) X → Rp none (shH ru ta rs) I' J') : gor l d ru ta rs J Rp (n + 4) 116 k I := by
  have has := tkR_as hx.1.2.2 (tkB_ok hT j)
  refine xrun_step fun K hK => ?_
  have k181 := fun hE' => hK 181 [some (.ref 67), some (.int (nI k)), none] [] (shH ru ta rs) I J 0 0 (us_181 l T hT ru ta rs I0 d I J Rp n k hk a G h20 h hst h1 h5 kk ws j hx nop X of oe oa hE' hG hR)
  refine And.intro (fun hn => k181 (fun z5 => hE z5 (fun z => absurd (by rw [z]; rfl) hn))) (fun he => ?_)
  have ek : k = 4 := nI_small (show nI k = nI 4 from he) (by omega) (by omega)
  obtain ⟨hGs, ho⟩ := h4 ek
  subst ek
  have no : isAs (tkB I0 T j) = false → (4 ≠ 5 → (4 = 1 → isSg (tkB I0 T j) 59 = false) → mstep (tkB I0 T) (2, 4 :: KS G, kk, ws, j) = .inr (ft (tkB I0 T) 1 j)) := fun z _ _ => s2_asE nop z
  refine And.intro (fun n17 => k181 (no (bF Iff.rfl (fun y => n17 (has.mpr y).1)))) (fun h17 => ?_)
  have h17 : I 67 17 = 3 := h17
  refine ux_isAsking l (d + 7) (I 67 18) _ _ _ _ (fun ha hb => ?_) (fun ha => ?_)
  · have as := has.mp ⟨h17, ha⟩
    refine And.intro (fun h => absurd h (by decide)) (fun _ => ?_)
    refine us_works l (d + 6) T ru ta rs I0 4 G 310 3 3 (by omega) (by omega) h20.2 J _ a I (OPS_4 (by omega) ho) ho h (fun I1 a1 s1 o1 lt1 k1 ot1 => ?_)
    have ea := OPS_nil (Nat.le_refl _) o1 lt1
    subst ea
    obtain ⟨tf, hw, at_, n0, w, o, c, op, e1, e2, e3, e4, e5, e6, e7, c1, c2, c3, c4, c5, c6, c7⟩ := s1
    obtain ⟨n1, w0, rfl, f2, f3, f4, f5⟩ := c1
    have f4 : w = w0 := f4
    subst f4
    have hl := Rep_len f5
    have hop4 : opN ((4, []) :: G) = opN G := by simp [opN]
    have hop5 : opN ((5, []) :: G) = opN G := by simp [opN]
    have hopa : opN ((4, a) :: G) = opN G := by simp [opN]
    have hwt : wtN ((5, []) :: G) = wtN ((4, []) :: G) + 1 := by simp [wtN]; omega
    have hrn : rN ((5, []) :: G) = rN ((4, []) :: G) + 1 := by simp [rN]; omega
    have vp : vp_in (I1 67 22) 41 := by rw [e3]; exact vp_in_nI (by omega) (by omega)
    have en : I1 67 22 - nI 1 = nI n1 := by rw [e3]; exact nI_pred n1
    have vp2 : vp_in (I1 67 22 - nI 1) 40 := by rw [en]; exact vp_in_nI (by omega) (by omega)
    have et : I1 67 18 = I 67 18 := k1.1.2.1
    refine And.intro vp (And.intro vp2 ?_)
    show xm l (d + 8) 0 0 mX12_next [.ref 67] (shH ru ta rs) (uI (uI I1 80 (I1 67 22).toNatClampNeg (I1 67 18)) 79 (I1 67 22 - nI 1).toNatClampNeg (nI 5)) J _
    rw [en, e3, nI_clamp (by omega), nI_clamp (by omega), et]
    have s2 : ST I0 (uI (uI I1 80 (n1 + 1) (I 67 18)) 79 n1 (nI 5)) ((5, []) :: G) T 0 (310 + 1) := by
      refine ⟨(tf.u (p := 80) rfl (fun z => by cases z)).u (p := 79) rfl (fun z => by cases z), hw, at_, n1 + 1, w, o, c, op, e1, e2, e3, e4, e5, e6, e7, ⟨⟨n1, w, rfl, pk_us, fun _ => ?_, rfl, Rep_up f5 (fun i hi => pk_un (by omega)) (fun i hi => pk_un (by omega)) (fun _ _ => ⟨rfl, rfl⟩)⟩, by omega, c3, ?_, ?_, c6, c7⟩⟩
      · show isBin (upd (I1 80) (n1 + 1) (I 67 18) (n1 + 1))
        rw [pk_us]
        exact hb
      · show o + w + wtN ((5, []) :: G) + (if I1 67 17 = 0 then 0 else 1) + (T - at_) ≤ 310 + 1
        omega
      · rw [show w + rN ((5, []) :: G) + 0 = w + rN ((4, []) :: G) + 1 by omega]
        exact c5
    refine us_next l T hT ru ta rs I0 hs hi hq (d + 4) ((5, []) :: G) 0 310 _ J _ s2 (by show I1 67 17 ≠ 0; rw [k1.1.1, h17]; decide) (fun I2 J2 s3 q3 r3 n3 => ?_)
    have r4 : rm (uI (uI I1 80 (n1 + 1) (I 67 18)) 79 n1 (nI 5)) T = rm I T := rm_of k1.1.1 k1.1.2.2.2
    have r5 : rm (uI I2 67 28 1) T = rm I2 T := rm_of rfl rfl
    have q1 : KQ I1 (uI (uI I1 80 (n1 + 1) (I 67 18)) 79 n1 (nI 5)) := ⟨⟨rfl, rfl, rfl⟩, rfl, rfl, rfl, rfl⟩
    have x2 : XTm I0 (uI I2 67 28 1) T kk ws (j + 1) := ((hx.kq (k1.kq.tr q1)).nk hT (NK.of q3 n3)).st
    obtain ⟨DX, EX, AX⟩ := X
    cases DX with
    | nil => exact of.elim
    | cons dx DX =>
    have w1 := ot1 _ _ of oe
    have hw1 : (wkD 3 (dx :: DX) EX) = ((dx.1, (wk 3 dx.2).1) :: DX, EX ++ (wk 3 dx.2).2) := rfl
    rw [hw1] at w1
    have e18 : I 67 18 = nI (tkB I0 T j).2.1 := by
      have q3 := (tkR_s hx.1.2.2 (tkB_ok hT j)).2.2.2
      rcases tkR_el hx.1.2.2 (tkB_ok hT j) with ⟨_, z⟩ | ⟨_, z, _⟩ | ⟨_, z, _⟩ | ⟨_, _, y⟩ | ⟨z, _⟩
      · exact absurd (h17.symm.trans z) (by decide)
      · exact absurd (h17.symm.trans z) (by decide)
      · exact absurd (h17.symm.trans z) (by decide)
      · exact y
      · exfalso
        unfold isAs isSg at as
        rw [z] at as
        simp at as
    have f2 : OSf (uI (uI I1 80 (n1 + 1) (I 67 18)) 79 n1 (nI 5)) ((5, []) :: G) (((tkB I0 T j).2.1, (wk 3 dx.2).1) :: DX) := by
      obtain ⟨u1, u2, u3, u4⟩ := w1.1
      refine ⟨u1, fun _ => ?_, fun z => absurd z (by decide), u4.up (fun i hi => ?_) (fun i _ => rfl)⟩
      · show upd (I1 80) (n1 + 1) (I 67 18) (G.length + 1) = _
        rw [← hl.1, pk_us]
        exact e18
      · show upd (I1 80) (n1 + 1) (I 67 18) i = _
        exact pk_un (by omega)
    have w2 := (OTr.eqt (G := (5, []) :: G) q3) _ _ f2 (w1.2.eq (I' := uI (uI I1 80 (n1 + 1) (I 67 18)) 79 n1 (nI 5)) rfl rfl rfl)
    have xe : xeff (tkB I0 T) (2, 4 :: KS G, kk, ws, j) (dx :: DX, EX, AX) = (((tkB I0 T j).2.1, (wk 3 dx.2).1) :: DX, EX ++ (wk 3 dx.2).2, AX) := by
      show y2x (tkB I0 T) (4 :: KS G) j (dx :: DX, EX, AX) = _
      unfold y2x
      dsimp only
      rw [nop]
      all_goals rfl
    refine hR (uI I2 67 28 1) J2 (Or.inr ⟨_, s2_as nop as, ?_, mu_lt (by omega)⟩)
    rw [xe]
    exact ⟨⟨(5, []) :: G, rfl, Or.inr (Or.inl ⟨Or.inr rfl, trivial, hGs⟩), by omega, ST_st s3, rfl, w2.1.eq rfl rfl⟩, x2, w2.2.eq rfl rfl rfl, (OSa.eq (OSa.eq oa k1.2.2.2.2) ((C5_eq q3).trans rfl)).eq (I' := uI I2 67 28 1) rfl⟩
  · exact And.intro (fun _ => k181 (no (bF Iff.rfl (fun y => ha (has.mpr y).2)))) (fun h => absurd rfl h)
set_option maxRecDepth 100000 in
set_option maxHeartbeats 1000000 in
theorem us_65 (l : Launch) (T : Nat) (hT : T ≤ 300) (ru ta : Nat) (rs : List XO) (I0 : XI) (hs : shO CF (shH ru ta rs)) (hi : ivO CF [] I0) (hq : QQ I0) (d : Nat) (I : XI) (J : XJ) (Rp : XR) (n k : Nat) (hk : k < 100) (a : List Int32) (G : TG) (h20 : G.length < 19 ∧ wN G + G.length < 70) (hop : opN ((k, a) :: G) ≤ 8) (h : ST I0 I ((k, a) :: G) T 1 310) (hst : I 67 28 = 2) (h1 : k = 1 → G = [] ∧ OPS 3 a) (h5 : k = 5 → Sh0 G ∧ OPS 3 a) (h4 : k = 4 → Sh0 G ∧ OPS 3 a) (h6 : k = 6 → Sh1 G ∧ OPS 3 a) (hk4 : k = 1 ∨ k = 4 ∨ k = 5 ∨ k = 6) (kk : Nat) (ws : List Nat) (j : Nat) (hx : XTm I0 I T kk ws j) (nop : isOp (tkB I0 T j) = false) (X : Wdr) (of : OSf I ((k, a) :: G) X.1) (oe : OSe I X.2.1) (oa : OSa I X.2.2 ws) (hR : ∀ (I' : XI) (J' : XJ), NXTe I0 I I' T (2, k :: KS G, kk, ws, j) X → Rp none (shH ru ta rs) I' J') : gor l d ru ta rs J Rp (n + 5) 65 k I := by
  have g41 := tkR_sg hx.1.2.2 (tkB_ok hT j) (w := 41) (by decide)
  have hG : k = 1 → isSg (tkB I0 T j) 59 = true → mstep (tkB I0 T) (2, k :: KS G, kk, ws, j) = .inl (4, [], kk, ws, j + 1) := fun e z => by
    obtain ⟨rfl, _⟩ := h1 e
    subst e
    exact s2_end nop z
  have hE0 : k ≠ 6 → k ≠ 5 → k ≠ 4 → (k = 1 → isSg (tkB I0 T j) 59 = false) → mstep (tkB I0 T) (2, k :: KS G, kk, ws, j) = .inr (ft (tkB I0 T) 1 j) := fun e6 e5 e4 z => by
    have e : k = 1 := by omega
    obtain ⟨rfl, _⟩ := h1 e
    subst e
    exact s2_endE nop (z rfl)
  refine xrun_step fun K hK => ?_
  have k116 := fun hE => hK 116 [some (.ref 67), some (.int (nI k)), none] [] (shH ru ta rs) I J 0 0 (us_116 l T hT ru ta rs I0 hs hi hq d I J Rp n k hk a G h20 hop h hst h1 h5 h4 kk ws j hx nop X of oe oa hE hG hR)
  refine And.intro (fun hn => k116 (hE0 (fun z => absurd (by rw [z]; rfl) hn))) (fun he => ?_)
  have ek : k = 6 := nI_small (show nI k = nI 6 from he) (by omega) (by omega)
  obtain ⟨hGs, ho⟩ := h6 ek
  subst ek
  refine tx_isSign l (d + 7) 41 ru ta rs I J _ (fun g1 g2 => ?_) (fun ng => ?_)
  · have z41 := g41.mp ⟨g1, g2⟩
    refine And.intro (fun h => absurd h (by decide)) (fun _ => ?_)
    refine us_works l (d + 6) T ru ta rs I0 6 G 310 3 3 (by omega) (by omega) h20.2 J _ a I (OPS_4 (by omega) ho) ho h (fun I1 a1 s1 o1 lt1 k1 ot1 => ?_)
    have ea := OPS_nil (Nat.le_refl _) o1 lt1
    subst ea
    obtain ⟨tf, hw, at_, n0, w, o, c, op, e1, e2, e3, e4, e5, e6, e7, c1, c2, c3, c4, c5, c6, c7⟩ := s1
    obtain ⟨n1, w0, rfl, f2, f3, f4, f5⟩ := c1
    have f4 : w = w0 := f4
    subst f4
    have hl := Rep_len f5
    have hop6 : opN ((6, []) :: G) = opN G + 1 := by simp [opN]; omega
    have hopa : opN ((6, a) :: G) = opN G + 1 := by simp [opN]; omega
    have hwt : wtN ((6, []) :: G) = wtN G := by simp [wtN]
    have hrn : rN ((6, []) :: G) = rN G := by simp [rN]
    have en : I1 67 22 - nI 1 = nI n1 := by rw [e3]; exact nI_pred n1
    have eo : I1 67 21 - nI 1 = nI (opN G) := by rw [e7, c2, hop6]; exact nI_pred (opN G)
    show xm l (d + 8) 0 0 mX12_next [.ref 67] (shH ru ta rs) (uI (uI I1 67 22 (I1 67 22 - nI 1)) 67 21 (I1 67 21 - nI 1)) J _
    rw [en, eo]
    have s2 : ST I0 (uI (uI I1 67 22 (nI n1)) 67 21 (nI (opN G))) G T 1 (310 + 1) := by
      refine ⟨(tf.u (p := 67) rfl (fun _ => by omega)).u (p := 67) rfl (fun _ => by omega), hw, at_, n1, w, o, c, opN G, e1, e2, rfl, e4, e5, e6, rfl, ⟨f5, rfl, c3, ?_, ?_, c6, c7⟩⟩
      · show o + w + wtN G + (if I1 67 17 = 0 then 0 else 1) + (T - at_) ≤ 310 + 1
        omega
      · rw [← hrn]
        exact c5
    refine us_next l T hT ru ta rs I0 hs hi hq (d + 4) G 1 310 _ J _ s2 (by show I1 67 17 ≠ 0; rw [k1.1.1, g1]; decide) (fun I2 J2 s3 q3 r3 n3 => ?_)
    have r4 : rm (uI (uI I1 67 22 (nI n1)) 67 21 (nI (opN G))) T = rm I T := rm_of k1.1.1 k1.1.2.2.2
    refine us_oneIsOver l (d + 6) T ru ta rs I0 310 (by omega) J2 _ G I2 (by omega) hGs s3 (fun I4 G4 s4 z1 z2 z3 z4 z5 z6 z7 z8 => ?_)
    have q1 : KQ I1 (uI (uI I1 67 22 (nI n1)) 67 21 (nI (opN G))) := ⟨⟨rfl, rfl, rfl⟩, rfl, rfl, rfl, rfl⟩
    obtain ⟨DX, EX, AX⟩ := X
    cases DX with
    | nil => exact of.elim
    | cons dx DX =>
    have w1 := ot1 _ _ of oe
    have hw1 : (wkD 3 (dx :: DX) EX) = ((dx.1, (wk 3 dx.2).1) :: DX, EX ++ (wk 3 dx.2).2) := rfl
    rw [hw1] at w1
    have f2 : OSf (uI (uI I1 67 22 (nI n1)) 67 21 (nI (opN G))) G DX := OSf.eq w1.1.2.2.2 rfl rfl
    have b2 : OSe (uI (uI I1 67 22 (nI n1)) 67 21 (nI (opN G))) (EX ++ (wk 3 dx.2).2) := w1.2.eq rfl rfl rfl
    have w3 := ((OTr.eqt (G := G) q3).tr z8) _ _ f2 b2
    have xe : xeff (tkB I0 T) (2, 6 :: KS G, kk, ws, j) (dx :: DX, EX, AX) = ((x78 (KS G) DX (EX ++ (wk 3 dx.2).2)).1, (x78 (KS G) DX (EX ++ (wk 3 dx.2).2)).2, AX) := by
      show y2x (tkB I0 T) (6 :: KS G) j (dx :: DX, EX, AX) = _
      unfold y2x
      dsimp only
      rw [nop]
      all_goals rfl
    refine hR I4 J2 (Or.inr ⟨_, s2_br nop z41, ?_, mu_lt (by omega)⟩)
    rw [xe]
    exact ⟨⟨G4, z7, z1, z2, by omega, s4, z4, w3.1⟩, ((hx.kq (k1.kq.tr q1)).nk hT (NK.of q3 n3)).kq z6, w3.2, OSa.eq (OSa.eq (OSa.eq oa k1.2.2.2.2) ((C5_eq q3).trans rfl)) z6.2.2.2.2⟩
  · refine And.intro (fun _ => k116 (fun _ _ _ => s2_brE nop (bF Iff.rfl (fun y => ng (g41.mpr y))))) (fun h => absurd rfl h)
set_option maxRecDepth 100000 in
set_option maxHeartbeats 1000000 in
theorem us_49 (l : Launch) (T : Nat) (hT : T ≤ 300) (ru ta : Nat) (rs : List XO) (I0 : XI) (hs : shO CF (shH ru ta rs)) (hi : ivO CF [] I0) (hq : QQ I0) (d : Nat) (I : XI) (J : XJ) (Rp : XR) (n k : Nat) (a : List Int32) (G : TG) (h20 : G.length < 19 ∧ wN G + G.length < 70) (hop : opN ((k, a) :: G) ≤ 8) (h : ST I0 I ((k, a) :: G) T 1 310) (ho : OPS 3 a) (hsh : ∀ a', OPS 3 a' → Sh1 ((k, a') :: G)) (h17 : I 67 17 = 3) (ht : I 67 18 = 43 ∨ I 67 18 = 45 ∨ I 67 18 = 42 ∨ I 67 18 = 47) (kk : Nat) (ws : List Nat) (j : Nat) (hx : XTm I0 I T kk ws j) (X : Wdr) (of : OSf I ((k, a) :: G) X.1) (oe : OSe I X.2.1) (oa : OSa I X.2.2 ws) (hR : ∀ (I' : XI) (J' : XJ), NXTe I0 I I' T (2, k :: KS G, kk, ws, j) X → Rp none (shH ru ta rs) I' J') : gor l d ru ta rs J Rp (n + 1) 49 k I := by
  have yop := (tkR_op hx.1.2.2 (tkB_ok hT j)).mp ⟨h17, ht⟩
  refine xrun_step fun K hK => ?_
  have hb : isBin (I 67 18) := by rcases ht with e | e | e | e <;> rw [e] <;> (unfold isBin; decide)
  have hr : 3 ≤ rkN (I 67 18) := by rcases ht with e | e | e | e <;> rw [e] <;> decide
  have hopa : ∀ a', opN ((k, a') :: G) = opN ((k, a) :: G) := fun _ => rfl
  have q13 : (tkB I0 T j).1 = 3 := by
    unfold isOp isSg at yop
    rcases tk_five (tkB_ok (I0 := I0) hT j).1 with z | z | z | z | z
    · rw [z] at yop
      simp at yop
    · rw [z] at yop
      simp at yop
    · rw [z] at yop
      simp at yop
    · exact z
    · rw [z] at yop
      simp at yop
  have b301 := SGN_b ((tkB_ok (I0 := I0) hT j).2.2.2.1 q13)
  have e18 : I 67 18 = nI (tkB I0 T j).2.1 := by
    rcases tkR_el hx.1.2.2 (tkB_ok hT j) with ⟨z, _⟩ | ⟨z, _⟩ | ⟨z, _⟩ | ⟨_, _, y⟩ | ⟨z, _⟩
    · omega
    · omega
    · omega
    · exact y
    · omega
  refine us_waitsFor l T hT ru ta rs I0 hs hi hq (d + 3) k G 310 3 (by omega) (by omega) h20.2 a ho (I 67 18) hb hr (tkB I0 T j).2.1 e18 (by omega) I J _ h (by rw [h17]; decide) (fun I' J' a' s1 o1 t1 r1 nk _ ot => ?_)
  have r5 : rm (uI I' 67 28 1) T = rm I' T := rm_of rfl rfl
  have x2 : XTm I0 (uI I' 67 28 1) T kk ws (j + 1) := (hx.nk hT nk).st
  obtain ⟨DX, EX, AX⟩ := X
  cases DX with
  | nil => exact of.elim
  | cons dx DX =>
  have w1 := ot _ _ of oe
  have xe : xeff (tkB I0 T) (2, k :: KS G, kk, ws, j) (dx :: DX, EX, AX) = ((wtD (tkB I0 T j).2.1 (dx :: DX) EX).1, (wtD (tkB I0 T j).2.1 (dx :: DX) EX).2, AX) := by
    show y2x (tkB I0 T) (k :: KS G) j (dx :: DX, EX, AX) = _
    unfold y2x
    dsimp only
    rw [yop]
    all_goals rfl
  refine hR (uI I' 67 28 1) J' (Or.inr ⟨_, s2_op yop, ?_, mu_lt (by omega)⟩)
  rw [xe]
  exact ⟨⟨(k, a') :: G, rfl, hsh a' o1, by rw [hopa]; exact hop, ST_st s1, rfl, w1.1.eq rfl rfl⟩, x2, w1.2.eq rfl rfl rfl, (OSa.eq oa nk.1.2.2).eq (I' := uI I' 67 28 1) rfl⟩
set_option maxRecDepth 100000 in
set_option maxHeartbeats 1000000 in
theorem us_goesOn (l : Launch) (T : Nat) (hT : T ≤ 300) (ru ta : Nat) (rs : List XO) (I0 : XI) (hs : shO CF (shH ru ta rs)) (hi : ivO CF [] I0) (hq : QQ I0) (d : Nat) (I : XI) (J : XJ) (Rp : XR) (Kf : List Nat) (kk : Nat) (ws : List Nat) (j : Nat) (X : Wdr) (h : GX I0 I T (2, Kf, kk, ws, j) X) (hR : ∀ (I' : XI) (J' : XJ), NXTe I0 I I' T (2, Kf, kk, ws, j) X → Rp none (shH ru ta rs) I' J') : xm l (d + 9) 0 0 mX12_goesOn [.ref 67] (shH ru ta rs) I J Rp := by
  obtain ⟨⟨G, hKf, h1, h78, hop, h, hst, of⟩, hx, oe, oa⟩ := h
  have oa : OSa I X.2.2 ws := oa
  have hKf : KS G = Kf := hKf
  subst hKf
  have hx : XTm I0 I T kk ws j := hx
  have hn := Sh1_n h1
  have rop := tkR_op hx.1.2.2 (tkB_ok hT j)
  cases G with
  | nil => exact h1.elim
  | cons f G =>
    obtain ⟨k, a⟩ := f
    simp only [List.length_cons, wN] at hn
    have hsh : OPS 3 a ∧ (∀ a', OPS 3 a' → Sh1 ((k, a') :: G)) ∧ k < 100 ∧ (k = 1 → G = []) ∧ (k = 5 → Sh0 G) ∧ (k = 4 → Sh0 G) ∧ (k = 6 → Sh1 G) ∧ (k = 1 ∨ k = 4 ∨ k = 5 ∨ k = 6) := by
      rcases h1 with ⟨rfl, rfl, o⟩ | ⟨z, o, g⟩ | ⟨rfl, o, g⟩ | ⟨z, _, _⟩
      · exact ⟨o, fun a' o' => Or.inl ⟨rfl, rfl, o'⟩, by omega, fun _ => rfl, fun z => by omega, fun z => by omega, fun z => by omega, by omega⟩
      · exact ⟨o, fun a' o' => Or.inr (Or.inl ⟨z, o', g⟩), by omega, fun y => by omega, fun _ => g, fun _ => g, fun y => by omega, by omega⟩
      · exact ⟨o, fun a' o' => Or.inr (Or.inr (Or.inl ⟨rfl, o', g⟩)), by omega, fun y => by omega, fun y => by omega, fun y => by omega, fun _ => g, by omega⟩
      · exfalso
        have y1 : k ≠ 7 := h78.1
        have y2 : k ≠ 8 := h78.2
        omega
    obtain ⟨ho, hs1, hk, g1, g5, g4, g6, hk4⟩ := hsh
    have h20 : G.length < 19 ∧ wN G + G.length < 70 := ⟨by omega, by omega⟩
    obtain ⟨n1, hn1, e22, e79⟩ : ∃ n1 : Nat, n1 < 40 ∧ I 67 22 = nI (n1 + 1) ∧ I 79 n1 = nI k := by
      obtain ⟨tf, hw, at_, n0, w, o, c, op, e1, e2, e3, e4, e5, e6, e7, c1, c2⟩ := h
      have hl := Rep_len c1
      obtain ⟨n1, w0, rfl, f2, f3, f4, f5⟩ := c1
      simp only [List.length_cons] at hl
      exact ⟨n1, by omega, e3, f2⟩
    refine xm_ofK 6 (X := xxX12) (t := tX12_goesOn) (stop := [49, 65, 116, 181, 224, 245]) (ini := false) xx12 pl12 rfl kX12_goesOn (fun h => by cases h) (Nat.le_of_ble_eq_true rfl) (fun K hK => ?_)
    have k65 := fun nop => hK 65 [some (.ref 67), some (.int (nI k)), none] [] (shH ru ta rs) I J 0 0 (us_65 l T hT ru ta rs I0 hs hi hq d I J Rp 1 k hk a G h20 hop h hst (fun z => ⟨g1 z, ho⟩) (fun z => ⟨g5 z, ho⟩) (fun z => ⟨g4 z, ho⟩) (fun z => ⟨g6 z, ho⟩) hk4 kk ws j hx nop X of oe oa hR)
    have k49 : I 67 17 = 3 → (I 67 18 = 43 ∨ I 67 18 = 45 ∨ I 67 18 = 42 ∨ I 67 18 = 47) → K 49 [some (.ref 67), some (.int (nI k)), none] [] (shH ru ta rs) I J 0 0 := fun y1 y2 => hK 49 [some (.ref 67), some (.int (nI k)), none] [] (shH ru ta rs) I J 0 0 (us_49 l T hT ru ta rs I0 hs hi hq d I J Rp 5 k a G h20 hop h ho hs1 y1 y2 kk ws j hx X of oe oa hR)
    refine tx_top l (d + 7) n1 hn1 ru ta rs I J _ e22 ?_
    rw [e79]
    refine And.intro (fun n17 => k65 (bF Iff.rfl (fun y => n17 (rop.mpr y).1))) (fun y1 => ?_)
    refine And.intro (fun y2 => k49 y1 (Or.inl y2)) (fun m1 => ?_)
    refine And.intro (fun y2 => k49 y1 (Or.inr (Or.inl y2))) (fun m2 => ?_)
    refine And.intro (fun y2 => k49 y1 (Or.inr (Or.inr (Or.inl y2)))) (fun m3 => ?_)
    refine And.intro (fun m4 => k65 (bF Iff.rfl (fun y => ?_))) (fun y2 => k49 y1 (Or.inr (Or.inr (Or.inr y2))))
    rcases (rop.mpr y).2 with z | z | z | z
    · exact m1 z
    · exact m2 z
    · exact m3 z
    · exact m4 z
theorem y3x_w {tk : Nat → TK} {s : MS} {yn : Nat} {I : XI} {G : TG} {k : Nat} {a : List Int32} {X : Wdr} (of : OSf I ((k, a) :: G) X.1) (h : ∀ d D, X.1 = d :: D → xeff tk s (d :: D, X.2.1, X.2.2) = ((wtD yn (d :: D) X.2.1).1, (wtD yn (d :: D) X.2.1).2, X.2.2)) : xeff tk s X = ((wtD yn X.1 X.2.1).1, (wtD yn X.1 X.2.1).2, X.2.2) := by
  obtain ⟨D, E, A⟩ := X
  cases D with
  | nil => exact of.elim
  | cons d D => exact h d D rfl
set_option maxRecDepth 100000 in
set_option maxHeartbeats 1000000 in
theorem us_asksOn (l : Launch) (T : Nat) (hT : T ≤ 300) (ru ta : Nat) (rs : List XO) (I0 : XI) (hs : shO CF (shH ru ta rs)) (hi : ivO CF [] I0) (hq : QQ I0) (d : Nat) (I : XI) (J : XJ) (Rp : XR) (Kf : List Nat) (kk : Nat) (ws : List Nat) (j : Nat) (X : Wdr) (h : GX I0 I T (3, Kf, kk, ws, j) X) (hR : ∀ (I' : XI) (J' : XJ), NXTe I0 I I' T (3, Kf, kk, ws, j) X → Rp none (shH ru ta rs) I' J') : xm l (d + 9) 0 0 mX12_asksOn [.ref 67] (shH ru ta rs) I J Rp := by
  obtain ⟨⟨a, hKf, ho, h, hst, of⟩, hx, oe, oa⟩ := h
  have oa : OSa I X.2.2 ws := oa
  have hKf : Kf = [2] := hKf
  subst hKf
  have hx : XTm I0 I T kk ws j := hx
  have okj := tkB_ok (I0 := I0) hT j
  have w19 := tkR_wd hx.1.2.2 okj (w := 19) (by omega)
  have w20 := tkR_wd hx.1.2.2 okj (w := 20) (by omega)
  have g59 := tkR_sg hx.1.2.2 okj (w := 59) (by decide)
  have wt : ∀ (y : Int32) (yn : Nat) (Rq : XR), y = nI yn → yn < 1000 → (xeff (tkB I0 T) (3, [2], kk, ws, j) X = ((wtD yn X.1 X.2.1).1, (wtD yn X.1 X.2.1).2, X.2.2)) → isBin y → 1 ≤ rkN y → I 67 17 ≠ 0 → (isWd (tkB I0 T j) 19 || isWd (tkB I0 T j) 20) = true → (∀ (I' : XI) (J' : XJ), NXTe I0 I (uI I' 67 28 0) T (3, [2], kk, ws, j) X → Rq none (shH ru ta rs) I' J') → xm l (d + 8) 0 0 mX12_waitsFor [.ref 67, .int y] (shH ru ta rs) I J Rq := by
    intro y yn Rq hyn hy1 xe hy hr h0 hw hk
    refine us_waitsFor l T hT ru ta rs I0 hs hi hq (d + 3) 2 [] 310 1 (by omega) (by omega) (by simp [wN]) a ho y hy hr yn hyn hy1 I J Rq h h0 (fun I' J' a' s1 o1 t1 r1 nk _ ot => hk I' J' ?_)
    have r5 : rm (uI I' 67 28 0) T = rm I' T := rm_of rfl rfl
    have x2 : XTm I0 (uI I' 67 28 0) T kk ws (j + 1) := (hx.nk hT nk).st
    have w1 := ot _ _ of oe
    refine Or.inr ⟨_, s3_go hw, ?_, mu_lt (by omega)⟩
    rw [xe]
    exact ⟨⟨[(2, a')], rfl, Or.inl ⟨rfl, rfl, o1⟩, by simp [opN], ST_st s1, rfl, w1.1.eq rfl rfl⟩, x2, w1.2.eq rfl rfl rfl, (OSa.eq oa nk.1.2.2).eq (I' := uI I' 67 28 0) rfl⟩
  have x19 : isWd (tkB I0 T j) 19 = true → xeff (tkB I0 T) (3, [2], kk, ws, j) X = ((wtD 407 X.1 X.2.1).1, (wtD 407 X.1 X.2.1).2, X.2.2) := fun z => y3x_w of (fun d D e => by
    show y3x (tkB I0 T) j (d :: D, X.2.1, X.2.2) = _
    unfold y3x
    dsimp only
    rw [z]
    all_goals rfl)
  have x20 : isWd (tkB I0 T j) 19 = false → isWd (tkB I0 T j) 20 = true → xeff (tkB I0 T) (3, [2], kk, ws, j) X = ((wtD 406 X.1 X.2.1).1, (wtD 406 X.1 X.2.1).2, X.2.2) := fun z y => y3x_w of (fun d D e => by
    show y3x (tkB I0 T) j (d :: D, X.2.1, X.2.2) = _
    unfold y3x
    dsimp only
    rw [z, y]
    all_goals rfl)
  obtain ⟨n1, hn1, e22, e79⟩ : ∃ n1 : Nat, n1 < 40 ∧ I 67 22 = nI (n1 + 1) ∧ I 79 n1 = nI 2 := by
    obtain ⟨tf, hw, at_, n0, w, o, c, op, e1, e2, e3, e4, e5, e6, e7, c1, c2⟩ := h
    have hl := Rep_len c1
    obtain ⟨n1, w0, rfl, f2, f3, f4, f5⟩ := c1
    simp only [List.length_cons, List.length_nil] at hl
    exact ⟨n1, by omega, e3, f2⟩
  refine xm_ofK 0 (X := xxX12) (t := tX12_asksOn) (stop := []) (ini := false) xx12 pl12 rfl kX12_asksOn (fun h => by cases h) (Nat.le_of_ble_eq_true rfl) (fun K hK => ?_)
  refine tx_isWord l (d + 7) 19 ru ta rs I J _ (fun g1 g2 => ?_) (fun ng => ?_)
  · refine And.intro (fun _ => ?_) (fun h => absurd h (by decide))
    refine tx_isWord l (d + 7) 19 ru ta rs I J _ (fun _ _ => ?_) (fun ng => absurd ⟨g1, g2⟩ ng)
    refine And.intro (fun h => absurd h (by decide)) (fun _ => ?_)
    exact wt 407 407 _ rfl (by omega) (x19 (w19.mp ⟨g1, g2⟩)) (by unfold isBin; decide) (by decide) (by rw [g1]; decide) (by rw [w19.mp ⟨g1, g2⟩]; rfl) (fun I' J' b => hR _ J' b)
  · refine And.intro (fun h => absurd rfl h) (fun _ => ?_)
    refine tx_isWord l (d + 7) 20 ru ta rs I J _ (fun g1 g2 => ?_) (fun ng2 => ?_)
    · refine And.intro (fun h => absurd h (by decide)) (fun _ => ?_)
      refine tx_isWord l (d + 7) 19 ru ta rs I J _ (fun w1 w2 => absurd ⟨w1, w2⟩ ng) (fun _ => ?_)
      refine And.intro (fun _ => ?_) (fun h => absurd rfl h)
      exact wt 406 406 _ rfl (by omega) (x20 (bF Iff.rfl (fun y => ng (w19.mpr y))) (w20.mp ⟨g1, g2⟩)) (by unfold isBin; decide) (by decide) (by rw [g1]; decide) (by rw [w20.mp ⟨g1, g2⟩, Bool.or_true]) (fun I' J' b => hR _ J' b)
    · have nw : (isWd (tkB I0 T j) 19 || isWd (tkB I0 T j) 20) = false := by
        rw [bF Iff.rfl (fun y => ng (w19.mpr y)), bF Iff.rfl (fun y => ng2 (w20.mpr y))]
        rfl
      refine And.intro (fun _ => ?_) (fun h => absurd rfl h)
      refine tx_top l (d + 7) n1 hn1 ru ta rs I J _ e22 ?_
      rw [e79]
      refine And.intro (fun h => absurd rfl h) (fun _ => ?_)
      refine tx_isSign l (d + 7) 59 ru ta rs I J _ (fun g1 g2 => ?_) (fun ng3 => ?_)
      · refine And.intro (fun h => absurd h (by decide)) (fun _ => ?_)
        have xe : xeff (tkB I0 T) (3, [2], kk, ws, j) X = ([], (wkD 1 X.1 X.2.1).2 ++ [(408, 0)], X.2.2) := by
          obtain ⟨DX, EX, AX⟩ := X
          cases DX with
          | nil => exact of.elim
          | cons dx DX =>
            have nw2 := Bool.or_eq_false_iff.mp nw
            show y3x (tkB I0 T) j (dx :: DX, EX, AX) = _
            unfold y3x
            dsimp only
            rw [nw2.1, nw2.2]
            all_goals rfl
        refine us_clauseIsOver l T hT ru ta rs I0 (d + 2) 2 (Or.inr rfl) a ho I J _ h (by rw [g1]; decide) kk ws j hx X.1 X.2.1 of oe (fun I' s4 x4 r4 oe4 c54 => hR I' J (Or.inr ⟨_, s3_end nw (g59.mp ⟨g1, g2⟩), ?_, mu_lt r4⟩))
        rw [xe]
        exact ⟨s4, x4, rfl, oe4, oa.eq c54⟩
      · refine And.intro (fun _ => ?_) (fun h => absurd rfl h)
        exact ux_errs l (d + 7) 1 (by decide) ru ta rs I J _ (fun I' e => hR I' J (fer_no h.1 h.2.1 hx.1 e (by decide) (s3_endE nw (bF Iff.rfl (fun y => ng3 (g59.mpr y))))))
