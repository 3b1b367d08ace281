-- ===== the reference reads a text: one step after another, exactly =====
/-- what stays when orders are made and frames end -/
def C5 (I : XI) : (Nat → Int32) × (Nat → Int32) × (Nat → Int32) × (Nat → Int32) × (Nat → Int32) := (I 84, I 85, I 86, I 87, I 88)
def KE (I I' : XI) : Prop := (I' 67 16, I' 67 20) = (I 67 16, I 67 20) ∧ I' 67 30 = I 67 30 ∧ I' 67 31 = I 67 31 ∧ C5 I' = C5 I
theorem KE.rf {I : XI} : KE I I := ⟨rfl, rfl, rfl, rfl⟩
theorem KE.tr {I I' I'' : XI} (h : KE I I') (g : KE I' I'') : KE I I'' := ⟨g.1.trans h.1, g.2.1.trans h.2.1, g.2.2.1.trans h.2.2.1, g.2.2.2.trans h.2.2.2⟩
def KX (I I' : XI) : Prop := KP I I' ∧ KE I I'
theorem KX.rf {I : XI} : KX I I := ⟨KP.rf, KE.rf⟩
theorem KX.tr {I I' I'' : XI} (h : KX I I') (g : KX I' I'') : KX I I'' := ⟨h.1.tr g.1, h.2.tr g.2⟩
/-- the same but for the state -/
def KQ (I I' : XI) : Prop := (I' 67 17 = I 67 17 ∧ I' 67 18 = I 67 18 ∧ I' 67 15 = I 67 15) ∧ KE I I'
theorem KQ.rf {I : XI} : KQ I I := ⟨⟨rfl, rfl, rfl⟩, KE.rf⟩
theorem KQ.tr {I I' I'' : XI} (h : KQ I I') (g : KQ I' I'') : KQ I I'' := ⟨⟨g.1.1.trans h.1.1, g.1.2.1.trans h.1.2.1, g.1.2.2.trans h.1.2.2⟩, h.2.tr g.2⟩
theorem KX.kq {I I' : XI} (h : KX I I') : KQ I I' := ⟨⟨h.1.1, h.1.2.1, h.1.2.2.2⟩, h.2⟩
/-- another token has been read -/
def NRT (I0 : XI) (T : Nat) (I I' : XI) : Prop := ∀ a, a < 1000 → I 67 15 = nI a → RTK I' (lexS (I0 70) T a)
def NK (I0 : XI) (T : Nat) (I I' : XI) : Prop := ((I' 67 30, I' 67 20) = (I 67 30, I 67 20) ∧ I' 67 31 = I 67 31 ∧ C5 I' = C5 I) ∧ NRT I0 T I I'
theorem NK.pre {I0 I I1 I' : XI} {T : Nat} (h : KQ I I1) (g : NK I0 T I1 I') : NK I0 T I I' := ⟨⟨g.1.1.trans (Prod.ext h.2.2.1 (show I1 67 20 = I 67 20 from congrArg Prod.snd h.2.1)), g.1.2.1.trans h.2.2.2.1, g.1.2.2.trans h.2.2.2.2⟩, fun a ha e => g.2 a ha (h.1.2.2.trans e)⟩
theorem C5_eq {I I' : XI} (q : EQT I I') : C5 I' = C5 I := by
  unfold C5
  rw [q.1 84 (by decide), q.1 85 (by decide), q.1 86 (by decide), q.1 87 (by decide), q.1 88 (by decide)]
theorem C5_84 {I I' : XI} (h : C5 I' = C5 I) : I' 84 = I 84 := congrArg Prod.fst h
theorem NK.of {I0 I I' : XI} {T : Nat} (q : EQT I I') (r : NRT I0 T I I') : NK I0 T I I' := ⟨⟨Prod.ext (q.2 30 (by omega)) (q.2 20 (by omega)), q.2 31 (by omega), C5_eq q⟩, r⟩
def FER (I I' : XI) (f : Int32) : Prop := ER I I' ∧ (I 67 19 = 0 → I' 67 19 = f ∧ I' 67 20 = I 67 16) ∧ (¬ I 67 19 = 0 → I' = I)
set_option maxRecDepth 100000 in
theorem ux_errs (l : Launch) (d : Nat) (f : Int32) (hf : 0 < f) (ru ta : Nat) (rs : List XO) (I : XI) (J : XJ) (Rp : XR) (hR : ∀ I', FER I I' f → Rp none (shH ru ta rs) I' J) : xm l (d + 1) 0 0 mX12_errs [.ref 67, .int f] (shH ru ta rs) I J Rp := by
  refine xm_ofK 0 (X := xxX12) (t := tX12_errs) (stop := []) (ini := false) xx12 pl12 rfl kX12_errs (fun h => by cases h) (Nat.le_of_ble_eq_true rfl) (fun K hK => ?_)
  refine And.intro (fun h => hR I ⟨ER.rf h, fun z => absurd z h, fun _ => rfl⟩) (fun h0 => ?_)
  refine hR (uI (uI I 67 19 f) 67 20 (I 67 16)) ⟨⟨fun z => ?_, fun p hp => ?_, fun k h1 h2 => ?_, fun _ => hf⟩, fun _ => ⟨rfl, rfl⟩, fun z => absurd h0 z⟩
  · have z : f = 0 := z
    subst z
    exact absurd hf (by decide)
  · rw [uI_ne hp, uI_ne hp]
  · rw [uI_atC, uI_atC, if_neg h2, if_neg h1]
def KS (G : TG) : List Nat := G.map fun f => f.1
/-- the frames' numbers, and what waits in them -/
def OSf (I : XI) : TG → Fdr → Prop
  | [], [] => True
  | (k, a) :: G, d :: D => (a = d.2.map nI ∧ ∀ y, y ∈ d.2 → y < 1000) ∧ (k = 5 → I 80 (G.length + 1) = nI d.1) ∧ (k = 8 → I 83 G.length = nI d.1) ∧ OSf I G D
  | _, _ => False
def OSe (I : XI) (E : List Odr) : Prop := E.length ≤ 400 ∧ I 67 37 = nI E.length ∧ ∀ i, i < E.length → I 89 i = nI (E.getD i (0, 0)).1 ∧ ((E.getD i (0, 0)).1 = 402 ∨ I 90 i = nI (E.getD i (0, 0)).2)
def OTr (I I' : XI) (G G' : TG) (f : Fdr → List Odr → Fdr × List Odr) : Prop := ∀ D E, OSf I G D → OSe I E → OSf I' G' (f D E).1 ∧ OSe I' (f D E).2
theorem OSf.up {I I' : XI} : ∀ {G : TG} {D : Fdr}, OSf I G D → (∀ i, i ≤ G.length → I' 80 i = I 80 i) → (∀ i, i < G.length → I' 83 i = I 83 i) → OSf I' G D
  | [], [], _, _, _ => trivial
  | (k, a) :: G, d :: D, h, e80, e83 => by
    obtain ⟨h1, h2, h3, h4⟩ := h
    simp only [List.length_cons] at e80 e83
    exact ⟨h1, fun z => by rw [e80 _ (by omega)]; exact h2 z, fun z => by rw [e83 _ (by omega)]; exact h3 z, OSf.up h4 (fun i hi => e80 i (by omega)) (fun i hi => e83 i (by omega))⟩
  | [], _ :: _, h, _, _ => h.elim
  | _ :: _, [], h, _, _ => h.elim
theorem OSf.eq {I I' : XI} {G : TG} {D : Fdr} (h : OSf I G D) (e80 : I' 80 = I 80) (e83 : I' 83 = I 83) : OSf I' G D := h.up (fun i _ => by rw [e80]) (fun i _ => by rw [e83])
theorem OSe.eq {I I' : XI} {E : List Odr} (h : OSe I E) (e37 : I' 67 37 = I 67 37) (e89 : I' 89 = I 89) (e90 : I' 90 = I 90) : OSe I' E := by
  unfold OSe at h ⊢
  rw [e37, e89, e90]
  exact h
theorem getD_q {l m : List Odr} {i : Nat} (h : i < l.length) : (l ++ m).getD i (0, 0) = l.getD i (0, 0) := by
  rw [List.getD_eq_getElem?_getD, List.getD_eq_getElem?_getD, List.getElem?_append_left h]
theorem getD_z {l : List Odr} {a : Odr} : (l ++ [a]).getD l.length (0, 0) = a := by
  rw [List.getD_eq_getElem?_getD, List.getElem?_append_right (Nat.le_refl _)]
  simp
theorem OSe.len {I : XI} {E : List Odr} {o : Nat} (h : OSe I E) (e : I 67 37 = nI o) (ho : o < 1000) : o = E.length := nI_small (e.symm.trans h.2.1) (by omega) (by have := h.1; omega)
theorem OSe.emit {I : XI} {E : List Odr} {o y n : Nat} {v : Int32} (h : OSe I E) (e : I 67 37 = nI o) (ho : o < 400) (hv : y = 402 ∨ v = nI n) : OSe (emI I o (nI y) v) (E ++ [(y, n)]) := by
  have el := h.len e (by omega)
  subst el
  refine ⟨by simp; omega, by simp [emI, uI_eq, upd], fun i hi => ?_⟩
  have r89 : emI I E.length (nI y) v 89 = upd (I 89) E.length (nI y) := by
    unfold emI
    rw [uI_ne (by decide), uI_ne (by decide), uI_eq]
  have r90 : emI I E.length (nI y) v 90 = upd (I 90) E.length v := by
    unfold emI
    rw [uI_ne (by decide), uI_eq, uI_ne (by decide)]
  rw [r89, r90]
  rcases Nat.lt_or_ge i E.length with z | z
  · rw [getD_q z]
    simp only [upd, if_neg (show ¬ i = E.length by omega)]
    exact h.2.2 i z
  · have ei : i = E.length := by
      simp at hi
      omega
    subst ei
    rw [getD_z]
    rw [pk_us, pk_us]
    exact ⟨rfl, hv⟩
theorem OTr.tr {I I1 I' : XI} {G G1 G' : TG} {f g : Fdr → List Odr → Fdr × List Odr} (h : OTr I I1 G G1 f) (k : OTr I1 I' G1 G' g) : OTr I I' G G' (fun D E => g (f D E).1 (f D E).2) := fun D E a b => by
  have y := h D E a b
  exact k _ _ y.1 y.2
theorem OTr.rf {I I' : XI} {G : TG} (e80 : I' 80 = I 80) (e83 : I' 83 = I 83) (e37 : I' 67 37 = I 67 37) (e89 : I' 89 = I 89) (e90 : I' 90 = I 90) : OTr I I' G G (fun D E => (D, E)) := fun D E a b => ⟨a.eq e80 e83, b.eq e37 e89 e90⟩
theorem OTr.eqt {I I' : XI} {G : TG} (q : EQT I I') : OTr I I' G G (fun D E => (D, E)) := OTr.rf (q.1 80 (by decide)) (q.1 83 (by decide)) (q.2 37 (by omega)) (q.1 89 (by decide)) (q.1 90 (by decide))
theorem rk_eq {y : Nat} (h : y < 1000) : rkN (nI y) = rkn y := by
  have x : ∀ m : Nat, m < 1000 → (nI y = nI m ↔ y = m) := fun m hm => nI_eq (by omega) (by omega)
  have a : (nI y = 407) ↔ y = 407 := x 407 (by omega)
  have b : (nI y = 406) ↔ y = 406 := x 406 (by omega)
  have c : (nI y = 43) ↔ y = 43 := x 43 (by omega)
  have d : (nI y = 45) ↔ y = 45 := x 45 (by omega)
  unfold rkN rkn
  by_cases h1 : y = 407
  · rw [if_pos (a.mpr h1), h1]
  · rw [if_neg (fun z => h1 (a.mp z)), beqf h1]
    by_cases h2 : y = 406
    · rw [if_pos (b.mpr h2), h2]
    · rw [if_neg (fun z => h2 (b.mp z)), beqf h2]
      by_cases h3 : y = 43 ∨ y = 45
      · rw [if_pos (by rcases h3 with z | z; exact Or.inl (c.mpr z); exact Or.inr (d.mpr z))]
        rcases h3 with z | z <;> rw [z] <;> rfl
      · rw [if_neg (fun z => h3 (by rcases z with z | z; exact Or.inl (c.mp z); exact Or.inr (d.mp z))), beqf (fun z => h3 (Or.inl z)), beqf (fun z => h3 (Or.inr z))]
        rfl
def wkD (r : Nat) (D : Fdr) (E : List Odr) : Fdr × List Odr := match D with
  | [] => ([], E)
  | d :: D => ((d.1, (wk r d.2).1) :: D, E ++ (wk r d.2).2)
theorem map_nil {l : List Nat} (h : [] = l.map nI) : l = [] := by
  cases l with
  | nil => rfl
  | cons a l => cases h
theorem map_cons {l : List Nat} {y : Int32} {a : List Int32} (h : y :: a = l.map nI) : ∃ y0 l0, l = y0 :: l0 ∧ y = nI y0 ∧ a = l0.map nI := by
  cases l with
  | nil => cases h
  | cons b l =>
    rw [List.map_cons] at h
    exact ⟨b, l, rfl, (List.cons.inj h).1, (List.cons.inj h).2⟩
theorem OTr.w0 {I : XI} {k r : Nat} {G : TG} : OTr I I ((k, []) :: G) ((k, []) :: G) (wkD r) := fun D E a b => by
  cases D with
  | nil => exact a.elim
  | cons d D =>
    obtain ⟨⟨h1, h2⟩, h3⟩ := a
    have e := map_nil h1
    obtain ⟨d1, d2⟩ := d
    dsimp only at e
    subst e
    refine ⟨⟨⟨rfl, fun y hy => by cases hy⟩, h3⟩, ?_⟩
    show OSe I (E ++ [])
    rw [List.append_nil]
    exact b
theorem OTr.wlt {I : XI} {k r : Nat} {y : Int32} {a : List Int32} {G : TG} (hr : rkN y < r) : OTr I I ((k, y :: a) :: G) ((k, y :: a) :: G) (wkD r) := fun D E h b => by
  cases D with
  | nil => exact h.elim
  | cons d D =>
    obtain ⟨d1, d2⟩ := d
    have h0 := h
    obtain ⟨⟨h1, h2⟩, h3⟩ := h
    obtain ⟨y0, l0, e1, e2, e3⟩ := map_cons h1
    have e1 : d2 = y0 :: l0 := e1
    subst e1
    have hy : y0 < 1000 := h2 y0 List.mem_cons_self
    have w : wk r (y0 :: l0) = (y0 :: l0, []) := by
      rw [wk, blef (show rkn y0 < r by rw [← rk_eq hy, ← e2]; exact hr)]
    unfold wkD
    dsimp only
    rw [w]
    refine ⟨h0, ?_⟩
    show OSe I (E ++ [])
    rw [List.append_nil]
    exact b
theorem OTr.wge {I I1 : XI} {k r o : Nat} {y : Int32} {a : List Int32} {G : TG} (hr : ¬ rkN y < r) (e5 : I 67 37 = nI o) (ho : o < 400) {v : Int32} (e : I1 = emI (uI I 67 25 v) o y 0) {I' : XI} {a' : List Int32} (h : OTr I1 I' ((k, a) :: G) ((k, a') :: G) (wkD r)) : OTr I I' ((k, y :: a) :: G) ((k, a') :: G) (wkD r) := fun D E g b => by
  cases D with
  | nil => exact g.elim
  | cons d D =>
    obtain ⟨d1, d2⟩ := d
    obtain ⟨⟨h1, h2⟩, h3, h4, h5⟩ := g
    obtain ⟨y0, l0, e1, e2, e3⟩ := map_cons h1
    have e1 : d2 = y0 :: l0 := e1
    subst e1
    have hy : y0 < 1000 := h2 y0 List.mem_cons_self
    have w : wk r (y0 :: l0) = ((wk r l0).1, (y0, 0) :: (wk r l0).2) := by
      rw [wk, Nat.ble_eq.mpr (show r ≤ rkn y0 by rw [← rk_eq hy, ← e2]; omega)]
    subst e2
    have r80 : I1 80 = I 80 := by rw [e]; rfl
    have r83 : I1 83 = I 83 := by rw [e]; rfl
    have b0 : OSe (uI I 67 25 v) E := b.eq rfl rfl rfl
    have b1 : OSe I1 (E ++ [(y0, 0)]) := by
      rw [e]
      exact b0.emit (n := 0) e5 ho (Or.inr rfl)
    have z := h ((d1, l0) :: D) (E ++ [(y0, 0)]) ⟨⟨e3, fun x hx => h2 x (List.mem_cons_of_mem _ hx)⟩, fun q => by rw [r80]; exact h3 q, fun q => by rw [r83]; exact h4 q, h5.eq r80 r83⟩ b1
    unfold wkD at z ⊢
    dsimp only at z ⊢
    rw [w]
    rw [List.append_assoc] at z
    exact z
theorem opK_S : ∀ G : TG, opK (KS G) = opN G
  | [] => rfl
  | f :: G => by
    show (if f.1 = 3 ∨ f.1 = 6 ∨ f.1 = 7 ∨ f.1 = 8 then 1 else 0) + opK (KS G) = _
    rw [opK_S G]
    rfl
theorem cl78_n {k : Nat} {a : List Int32} {G : TG} (h : ¬ (k = 7 ∨ k = 8)) : KS ((k, a) :: G) = cl78 (KS ((k, a) :: G)) := by
  show k :: KS G = cl78 (k :: KS G)
  rw [cl78, beqf (fun z => h (Or.inl z)), beqf (fun z => h (Or.inr z))]
  rfl
theorem us_next (l : Launch) (T : Nat) (hT : T ≤ 300) (ru ta : Nat) (rs : List XO) (I0 : XI) (hs : shO CF (shH ru ta rs)) (hi : ivO CF [] I0) (hq : QQ I0) (d : Nat) (G : TG) (x b : Nat) (I : XI) (J : XJ) (Rp : XR) (h : ST I0 I G T x (b + 1)) (h0 : I 67 17 ≠ 0) (hR : ∀ (I' : XI) (J' : XJ), ST I0 I' G T x b → EQT I I' → rm I' T < rm I T → NRT I0 T I I' → Rp none (shH ru ta rs) I' J') : xm l (d + 4) 0 0 mX12_next [.ref 67] (shH ru ta rs) I J Rp := by
  obtain ⟨at_, n, w, o, c, op, e1, e2, _, _, _, _, _, _, _, c3, _⟩ := id h.2.2
  refine ux_next l d T ru ta rs I J Rp at_ hT e1 e2 c3.1 (fun I' qe => ?_)
  have q := qe.nx e2 c3.1
  refine hR I' J ⟨EQT.tf h.1 q.1, by rw [q.1.2 19 (by omega)]; exact h.2.1, TX_next hT h.2.2 h0 q⟩ q.1 (rm_nx hT h0 q) (fun a ha ea => ?_)
  have e : a = at_ := nI_small (ea.symm.trans e2) ha (by omega)
  rw [e, ← h.1.1 70 (by decide)]
  exact qe.2
set_option maxRecDepth 100000 in
/-- a number or a name -/
theorem us_num (l : Launch) (d T : Nat) (ru ta : Nat) (rs : List XO) (I0 : XI) (G : TG) (b : Nat) (hb : b < 400) (I : XI) (J : XJ) (Rp : XR) (y v : Int32) (hy : y = 400 ∨ (y = 401 ∧ 0 ≤ v.toInt ∧ v.toInt ≤ 10)) (hG : wN G + rN G < 200) (h : ST I0 I G T 0 b) (yn vn : Nat) (hyn : y = nI yn) (hvn : v = nI vn) (hR : ∀ I', ST I0 I' G T 1 (b + 1) → KX I I' → OTr I I' G G (fun D E => (D, E ++ [(yn, vn)])) → Rp none (shH ru ta rs) I' J) : xm l (d + 1) 0 0 mX12_emits [.ref 67, .int y, .int v] (shH ru ta rs) I J Rp := by
  obtain ⟨tf, hw, at_, n, w, o, c, op, e1, e2, e3, e4, e5, e6, e7, c1, c2, c3, c4, c5, c6, c7⟩ := h
  have hl := Rep_len c1
  refine tx_emits l d o (by omega) y v ru ta rs I J Rp e5 ?_
  refine hR (emI I o y v) ⟨tf.em o y v, hw, at_, n, w, o + 1, c, op, e1, e2, e3, e4, rfl, e6, e7, ?_⟩ ⟨⟨rfl, rfl, rfl, rfl⟩, rfl, rfl, rfl, rfl⟩ (fun D E a b => ⟨a.eq rfl rfl, by rw [hyn]; exact b.emit e5 (by omega) (Or.inr hvn)⟩)
  refine ⟨c1, c2, c3, ?_, pg_emit c5 (Or.inl ⟨hy, by omega, by omega⟩), dn_emit c6, c7⟩
  show o + 1 + w + wtN G + (if I 67 17 = 0 then 0 else 1) + (T - at_) ≤ b + 1
  omega
set_option maxRecDepth 100000 in
set_option maxHeartbeats 1000000 in
theorem us_works_loop (l : Launch) (d T : Nat) (ru ta : Nat) (rs : List XO) (I0 : XI) (k : Nat) (G : TG) (b q r : Nat) (hb : b < 400) (hr : r < 100) (hG : wN G + G.length < 70) (J : XJ) (Rp : XR) : ∀ (a : List Int32) (N : Nat) (I : XI), a.length ≤ 4 → a.length < N → OPS q a → ST I0 I ((k, a) :: G) T 1 b → (∀ I' a', ST I0 I' ((k, a') :: G) T 1 b → OPS q a' → (∀ y, y ∈ a' → rkN y < r) → KX I I' → OTr I I' ((k, a) :: G) ((k, a') :: G) (wkD r) → Rp none (shH ru ta rs) I' J) → xrun xxX12 none false false (shH ru ta rs).length 0 0 none l (d + 1) tX12_works [0] Rp N 0 [some (.ref 67), some (.int (nI r))] [] (shH ru ta rs) I J 0 0 := by
  intro a
  induction a with
  | nil =>
    intro N I h4 hN ho h hR
    obtain ⟨N, rfl⟩ : ∃ n', N = n' + 1 := ⟨N - 1, by simp at hN; omega⟩
    have out := hR I [] h ho (fun y hy => by cases hy) KX.rf OTr.w0
    obtain ⟨tf, hw, at_, n, w, o, c, op, e1, e2, e3, e4, e5, e6, e7, c1, c2, c3, c4, c5, c6, c7⟩ := h
    obtain ⟨n1, w0, f1, f2, f3, f4, f5⟩ := c1
    have f4 : w = w0 := f4
    subst f4
    have hl := Rep_len f5
    refine xrun_step fun K hK => ?_
    refine And.intro (fun _ => out) (fun hpos => ?_)
    have hw0 : 0 < w := by
      rcases Nat.eq_zero_or_pos w with z | z
      · exfalso
        refine hpos ?_
        show I 67 25 ≤ 0
        rw [e4, z]
        exact Int32.le_refl _
      · exact z
    obtain ⟨w1, rfl⟩ : ∃ w1, w = w1 + 1 := ⟨w - 1, by omega⟩
    have ew : I 67 25 - nI 1 = nI w1 := by rw [e4]; exact nI_pred w1
    have vw : vp_in (I 67 25 - nI 1) 80 := by rw [ew]; exact vp_in_nI (by omega) (by omega)
    obtain ⟨n', g1, g2⟩ := Rep_top f5
    refine And.intro vw (And.intro (fun _ => out) (fun heq => ?_))
    exfalso
    have heq : I 82 (I 67 25 - nI 1).toNatClampNeg = I 67 22 := heq
    rw [ew, nI_clamp (by omega), g1, e3] at heq
    have := nI_small heq (by omega) (by omega)
    omega
  | cons y a ih =>
    intro N I h4 hN ho h hR
    simp only [List.length_cons] at h4 hN
    obtain ⟨N, rfl⟩ : ∃ n', N = n' + 1 := ⟨N - 1, by omega⟩
    have h0 := h
    obtain ⟨tf, hw, at_, n, w, o, c, op, e1, e2, e3, e4, e5, e6, e7, c1, c2, c3, c4, c5, c6, c7⟩ := h
    obtain ⟨n1, w0, f1, f2, f3, ⟨w1, rfl, g1, g2, g3⟩, f5⟩ := c1
    have hl := Rep_len f5
    have hl2 := RepO_len g3
    have ew : I 67 25 - nI 1 = nI w1 := by rw [e4]; exact nI_pred w1
    have vw : vp_in (I 67 25 - nI 1) 80 := by rw [ew]; exact vp_in_nI (by omega) (by omega)
    have ey : I 81 (I 67 25 - nI 1).toNatClampNeg = y := by rw [ew, nI_clamp (by omega)]; exact g1
    refine xrun_step fun K hK => ?_
    refine And.intro (fun hz => ?_) (fun _ => And.intro vw (And.intro (fun hne => ?_) (fun _ => And.intro vw ?_)))
    · exfalso
      have hz : I 67 25 ≤ 0 := hz
      rw [e4] at hz
      exact nI_nle (by omega) (by omega) hz
    · exfalso
      refine hne ?_
      show I 82 (I 67 25 - nI 1).toNatClampNeg = I 67 22
      rw [ew, nI_clamp (by omega), g2, e3]
    · refine tx_rank l d (I 81 (I 67 25 - nI 1).toNatClampNeg) _ _ _ _ ?_
      rw [ey]
      have rk4 := rkN_le y
      refine And.intro (fun hlt => ?_) (fun hge => ?_)
      · have hlt : nI (rkN y) < nI r := hlt
        have hlt := (nI_ltI (by omega) (by omega)).mp hlt
        exact hR I (y :: a) h0 ho (fun z hz => by
          rcases List.mem_cons.mp hz with e | hz
          · rw [e]
            exact hlt
          · exact Nat.lt_trans (ho.2.2.1 z hz) hlt) KX.rf (OTr.wlt hlt)
      · have hge : ¬ nI (rkN y) < nI r := hge
        rw [nI_ltI (by omega) (by omega)] at hge
        have ev : (I 67 25 - nI 1) = nI w1 := ew
        have vw2 : vp_in (uI I 67 25 (I 67 25 - nI 1) 67 25) 80 := vw
        refine And.intro vw2 ?_
        have es : I 81 (uI I 67 25 (I 67 25 - nI 1) 67 25).toNatClampNeg = y := ey
        refine tx_emits l d o (by omega) _ 0 ru ta rs _ J _ e5 ?_
        refine hK 0 [some (.ref 67), some (.int (nI r))] [] (shH ru ta rs) (emI (uI I 67 25 (I 67 25 - nI 1)) o (I 81 (uI I 67 25 (I 67 25 - nI 1) 67 25).toNatClampNeg) 0) J 0 0 ?_
        rw [es, ew]
        refine ih N _ (by omega) (by omega) ho.2.2.2 ⟨(tf.u (p := 67) rfl (fun _ => by omega)).em o y 0, hw, at_, n, w1, o + 1, c, op, e1, e2, e3, rfl, rfl, e6, e7, ⟨⟨n1, w0, f1, f2, f3, g3, f5⟩, c2, c3, ?_, pg_emit c5 (Or.inr (Or.inr ⟨ho.1, by omega, ?_⟩)), dn_emit c6, c7⟩⟩ (fun I' a' k1 k2 k3 k4 k5 => hR I' a' k1 k2 k3 (KX.tr ⟨⟨rfl, rfl, rfl, rfl⟩, rfl, rfl, rfl, rfl⟩ k4) (OTr.wge hge e5 (by omega) rfl k5))
        · show o + 1 + w1 + wtN ((k, a) :: G) + (if I 67 17 = 0 then 0 else 1) + (T - at_) ≤ b
          have : wtN ((k, a) :: G) = wtN ((k, y :: a) :: G) := rfl
          omega
        · have : rN ((k, a) :: G) = rN ((k, y :: a) :: G) := rfl
          omega
set_option maxRecDepth 100000 in
theorem us_works (l : Launch) (d T : Nat) (ru ta : Nat) (rs : List XO) (I0 : XI) (k : Nat) (G : TG) (b q r : Nat) (hb : b < 400) (hr : r < 100) (hG : wN G + G.length < 70) (J : XJ) (Rp : XR) (a : List Int32) (I : XI) (h4 : a.length ≤ 4) (ho : OPS q a) (h : ST I0 I ((k, a) :: G) T 1 b) (hR : ∀ I' a', ST I0 I' ((k, a') :: G) T 1 b → OPS q a' → (∀ y, y ∈ a' → rkN y < r) → KX I I' → OTr I I' ((k, a) :: G) ((k, a') :: G) (wkD r) → Rp none (shH ru ta rs) I' J) : xm l (d + 2) 0 0 mX12_works [.ref 67, .int (nI r)] (shH ru ta rs) I J Rp :=
  xm_of (X := xxX12) (t := tX12_works) (stop := [0]) (ini := false) (n := 10) xx12 pl12 rfl kX12_works (fun h => by cases h) (Nat.le_of_ble_eq_true rfl) (us_works_loop l d T ru ta rs I0 k G b q r hb hr hG J Rp a 10 I h4 (by omega) ho h hR)
def wtD (y : Nat) (D : Fdr) (E : List Odr) : Fdr × List Odr := match D with
  | [] => ([], E)
  | d :: D => ((d.1, y :: (wk (rkn y) d.2).1) :: D, E ++ (wk (rkn y) d.2).2)
theorem OTr.wait {I I1 I2 : XI} {k yn : Nat} {y : Int32} {a a1 : List Int32} {G : TG} (h : OTr I I1 ((k, a) :: G) ((k, a1) :: G) (wkD (rkn yn))) (hy : y = nI yn) (hy1 : yn < 1000) (e80 : I2 80 = I1 80) (e83 : I2 83 = I1 83) (e37 : I2 67 37 = I1 67 37) (e89 : I2 89 = I1 89) (e90 : I2 90 = I1 90) : OTr I I2 ((k, a) :: G) ((k, y :: a1) :: G) (wtD yn) := fun D E g b => by
  have z := h D E g b
  cases D with
  | nil => exact g.elim
  | cons d D =>
    obtain ⟨⟨⟨h1, h2⟩, h3, h4, h5⟩, h6⟩ := z
    have h1 : a1 = (wk (rkn yn) d.2).1.map nI := h1
    refine ⟨⟨⟨?_, fun x hx => ?_⟩, fun q => by rw [e80]; exact h3 q, fun q => by rw [e83]; exact h4 q, h5.eq e80 e83⟩, h6.eq e37 e89 e90⟩
    · show y :: a1 = (yn :: (wk (rkn yn) d.2).1).map nI
      rw [List.map_cons, hy, h1]
    · have hx : x ∈ yn :: (wk (rkn yn) d.2).1 := hx
      rcases List.mem_cons.mp hx with q | q
      · rw [q]
        exact hy1
      · exact h2 x q
set_option maxRecDepth 100000 in
set_option maxHeartbeats 1000000 in
theorem us_waitsFor (l : Launch) (T : Nat) (hT : T ≤ 300) (ru ta : Nat) (rs : List XO) (I0 : XI) (hs : shO CF (shH ru ta rs)) (hi : ivO CF [] I0) (hq : QQ I0) (d : Nat) (k : Nat) (G : TG) (b q : Nat) (hb : b < 400) (hq1 : 1 ≤ q) (hG : wN G + G.length < 70) (a : List Int32) (ho : OPS q a) (y : Int32) (hy : isBin y) (hyq : q ≤ rkN y) (yn : Nat) (hyn : y = nI yn) (hy1 : yn < 1000) (I : XI) (J : XJ) (Rp : XR) (h : ST I0 I ((k, a) :: G) T 1 b) (h0 : I 67 17 ≠ 0) (hR : ∀ (I' : XI) (J' : XJ) (a' : List Int32), ST I0 I' ((k, a') :: G) T 0 b → OPS q a' → I' 67 28 = I 67 28 → rm I' T < rm I T → NK I0 T I I' → (∃ z, a' = y :: z) → OTr I I' ((k, a) :: G) ((k, a') :: G) (wtD yn) → Rp none (shH ru ta rs) I' J') : xm l (d + 5) 0 0 mX12_waitsFor [.ref 67, .int y] (shH ru ta rs) I J Rp := by
  refine xm_ofK 0 (X := xxX12) (t := tX12_waitsFor) (stop := []) (ini := false) xx12 pl12 rfl kX12_waitsFor (fun h => by cases h) (Nat.le_of_ble_eq_true rfl) (fun K hK => ?_)
  refine tx_rank l (d + 3) y _ _ _ _ ?_
  have rk4 := rkN_le y
  refine us_works l (d + 2) T ru ta rs I0 k G b q (rkN y) hb (by omega) hG J _ a I (OPS_4 hq1 ho) ho h (fun I1 a1 s1 o1 lt1 k1 ot1 => ?_)
  obtain ⟨tf, hw, at_, n, w, o, c, op, e1, e2, e3, e4, e5, e6, e7, c1, c2, c3, c4, c5, c6, c7⟩ := s1
  have hl := Rep_len c1
  obtain ⟨n1, w0, f1, f2, f3, f4, f5⟩ := c1
  have hl1 := RepO_len f4
  have hl5 := Rep_len f5
  have h4 := OPS_4 hq1 o1
  have vw : vp_in (I1 67 25) 80 := by rw [e4]; exact vp_in_nI (by omega) (by omega)
  refine And.intro vw (And.intro vw ?_)
  have s2 : ST I0 (uI (uI (uI I1 81 w y) 82 w (nI n)) 67 25 (nI (w + 1))) ((k, y :: a1) :: G) T 0 (b + 1) := by
    refine ⟨((tf.u (p := 81) rfl (fun z => by cases z)).u (p := 82) rfl (fun z => by cases z)).u (p := 67) rfl (fun _ => by omega), hw, at_, n, w + 1, o, c, op, e1, e2, e3, rfl, e5, e6, e7, ⟨⟨n1, w0, f1, f2, f3, ⟨w, rfl, pk_us, pk_us, RepO_up f4 (fun i hi => ⟨pk_un (by omega), pk_un (by omega)⟩)⟩, Rep_up f5 (fun _ _ => rfl) (fun _ _ => rfl) (fun i hi => ⟨pk_un (by omega), pk_un (by omega)⟩)⟩, c2, c3, ?_, ?_, c6, c7⟩⟩
    · show o + (w + 1) + wtN ((k, y :: a1) :: G) + (if I1 67 17 = 0 then 0 else 1) + (T - at_) ≤ b + 1
      have : wtN ((k, y :: a1) :: G) = wtN ((k, a1) :: G) := rfl
      omega
    · have : rN ((k, y :: a1) :: G) = rN ((k, a1) :: G) := rfl
      rw [show w + 1 + rN ((k, y :: a1) :: G) + 0 = w + rN ((k, a1) :: G) + 1 by omega]
      exact c5
  have eI : uI (uI (uI I1 81 (I1 67 25).toNatClampNeg y) 82 (I1 67 25).toNatClampNeg (I1 67 22)) 67 25 (I1 67 25 + nI 1) = uI (uI (uI I1 81 w y) 82 w (nI n)) 67 25 (nI (w + 1)) := by rw [e4, e3, nI_clamp (by omega), nI_add]
  show xm l (d + 4) 0 0 mX12_next [.ref 67] (shH ru ta rs) (uI (uI (uI I1 81 (I1 67 25).toNatClampNeg y) 82 (I1 67 25).toNatClampNeg (I1 67 22)) 67 25 (I1 67 25 + nI 1)) J _
  rw [eI]
  refine us_next l T hT ru ta rs I0 hs hi hq d ((k, y :: a1) :: G) 0 b _ J _ s2 (by show I1 67 17 ≠ 0; rw [k1.1.1]; exact h0) (fun I2 J2 s3 q3 r3 n3 => ?_)
  refine hR I2 J2 (y :: a1) s3 ⟨hy, hyq, lt1, o1⟩ (by rw [q3.2 28 (by omega)]; exact k1.1.2.2.1) ?_ (NK.pre (I1 := uI (uI (uI I1 81 w y) 82 w (nI n)) 67 25 (nI (w + 1))) (KQ.tr k1.kq ⟨⟨rfl, rfl, rfl⟩, rfl, rfl, rfl, rfl⟩) (NK.of q3 n3)) ⟨a1, rfl⟩ ((by rw [hyn, rk_eq hy1] at ot1; exact ot1.wait (I2 := uI (uI (uI I1 81 w y) 82 w (nI n)) 67 25 (nI (w + 1))) hyn hy1 rfl rfl rfl rfl rfl : OTr I (uI (uI (uI I1 81 w y) 82 w (nI n)) 67 25 (nI (w + 1))) ((k, a) :: G) ((k, y :: a1) :: G) (wtD yn)).tr (OTr.eqt q3))
  have r4 : rm (uI (uI (uI I1 81 w y) 82 w (nI n)) 67 25 (nI (w + 1))) T = rm I T := rm_of k1.1.1 k1.1.2.2.2
  omega
set_option maxRecDepth 100000 in
set_option maxHeartbeats 1000000 in
/-- a sign that opens a frame -/
theorem us_opensSign (l : Launch) (T : Nat) (hT : T ≤ 300) (ru ta : Nat) (rs : List XO) (I0 : XI) (hs : shO CF (shH ru ta rs)) (hi : ivO CF [] I0) (hq : QQ I0) (d : Nat) (G : TG) (b : Nat) (hb : b < 400) (hG : G.length < 20) (hop : opN G ≤ 8) (k : Nat) (hk : k = 3 ∨ k = 6 ∨ k = 7 ∨ k = 8) (I : XI) (J : XJ) (Rp : XR) (h : ST I0 I G T 0 b) (h0 : I 67 17 ≠ 0) (hE : ∀ I', FER I I' 3 → opN G = 8 → Rp (some (.int 0)) (shH ru ta rs) I' J) (hR : ∀ (I' : XI) (J' : XJ), ST I0 I' ((k, []) :: G) T 0 b → opN G < 8 → I' 67 28 = I 67 28 → rm I' T < rm I T → NK I0 T I I' → OTr I I' G G (fun D E => (D, E)) → Rp (some (.int 1)) (shH ru ta rs) I' J') : xm l (d + 5) 0 0 mX12_opensSign [.ref 67, .int (nI k)] (shH ru ta rs) I J Rp := by
  obtain ⟨tf, hw, at_, n, w, o, c, op, e1, e2, e3, e4, e5, e6, e7, c1, c2, c3, c4, c5, c6, c7⟩ := h
  have hl := Rep_len c1
  have k5 : k ≠ 5 := by omega
  have hopk : opN ((k, []) :: G) = opN G + 1 := by
    rcases hk with rfl | rfl | rfl | rfl <;> simp [opN] <;> omega
  have hwt : wtN ((k, []) :: G) ≤ wtN G + 1 := by
    rcases hk with rfl | rfl | rfl | rfl <;> simp [wtN] <;> omega
  have hrn : rN ((k, []) :: G) = rN G := by
    rcases hk with rfl | rfl | rfl | rfl <;> simp [rN]
  refine xm_ofK 0 (X := xxX12) (t := tX12_opensSign) (stop := []) (ini := false) xx12 pl12 rfl kX12_opensSign (fun h => by cases h) (Nat.le_of_ble_eq_true rfl) (fun K hK => ?_)
  refine And.intro (fun hne => ?_) (fun h88 => ?_)
  · have h8 : opN G < 8 := by
      rcases Nat.lt_or_ge (opN G) 8 with z | z
      · exact z
      · exfalso
        refine hne ?_
        show I 67 21 = nI 8
        rw [e7, c2, show opN G = 8 by omega]
    have ef : uI I 67 21 (I 67 21 + nI 1) = uI I 67 21 (nI (op + 1)) := by rw [e7, nI_add]
    show xm l (d + 4) 0 0 mX12_opensFrame [.ref 67, .int (nI k)] (shH ru ta rs) (uI I 67 21 (I 67 21 + nI 1)) J _
    rw [ef]
    refine tx_opensFrame l (d + 3) n (by omega) (nI k) ru ta rs _ J _ e3 ?_
    have s2 : ST I0 (ofI (uI I 67 21 (nI (op + 1))) n (nI k)) ((k, []) :: G) T 0 (b + 1) := by
      refine ⟨((tf.u (p := 67) rfl (fun _ => by omega)).u (p := 79) rfl (fun z => by cases z)).u (p := 67) rfl (fun _ => by omega), hw, at_, n + 1, w, o, c, op + 1, e1, e2, rfl, e4, e5, e6, rfl, ⟨⟨n, w, rfl, pk_us, fun z => absurd z k5, rfl, Rep_up c1 (fun i hi => pk_un (by omega)) (fun _ _ => rfl) (fun _ _ => ⟨rfl, rfl⟩)⟩, by omega, c3, ?_, ?_, c6, c7⟩⟩
      · show o + w + wtN ((k, []) :: G) + (if I 67 17 = 0 then 0 else 1) + (T - at_) ≤ b + 1
        omega
      · rw [hrn]
        exact c5
    refine us_next l T hT ru ta rs I0 hs hi hq d ((k, []) :: G) 0 b _ J _ s2 h0 (fun I2 J2 s3 q3 r3 n3 => ?_)
    have r4 : rm (ofI (uI I 67 21 (nI (op + 1))) n (nI k)) T = rm I T := rm_of rfl rfl
    exact And.intro (Or.inr rfl) (hR I2 J2 s3 h8 (by rw [q3.2 28 (by omega)]; rfl) (by omega) (NK.pre (I1 := ofI (uI I 67 21 (nI (op + 1))) n (nI k)) ⟨⟨rfl, rfl, rfl⟩, rfl, rfl, rfl, rfl⟩ (NK.of q3 n3)) ((OTr.rf (I := I) (I' := ofI (uI I 67 21 (nI (op + 1))) n (nI k)) (G := G) rfl rfl rfl rfl rfl).tr (OTr.eqt q3)))
  · have h88 : I 67 21 = nI 8 := h88
    rw [e7, c2] at h88
    refine ux_errs l (d + 3) 3 (by decide) ru ta rs I J _ (fun I' e => ?_)
    exact And.intro (Or.inl rfl) (hE I' e (nI_small h88 (by omega) (by omega)))
theorem OTr.top {I I' : XI} {k : Nat} {a : List Int32} {G : TG} (h : ¬ (k = 7 ∨ k = 8)) (e80 : I' 80 = I 80) (e83 : I' 83 = I 83) (e37 : I' 67 37 = I 67 37) (e89 : I' 89 = I 89) (e90 : I' 90 = I 90) : OTr I I' ((k, a) :: G) ((k, a) :: G) (x78 (KS ((k, a) :: G))) := fun D E g b => by
  cases D with
  | nil => exact g.elim
  | cons d D =>
    have x : x78 (KS ((k, a) :: G)) (d :: D) E = (d :: D, E) := by
      show x78 (k :: KS G) (d :: D) E = _
      rw [x78, beqf (fun z => h (Or.inl z)), beqf (fun z => h (Or.inr z))]
    rw [x]
    exact ⟨OSf.eq g e80 e83, b.eq e37 e89 e90⟩
theorem OTr.o78 {I I' : XI} {k o n1 : Nat} {G G' : TG} {y v a b : Int32} (e5 : I 67 37 = nI o) (ho : o < 400) (hy : (y = 402 ∧ k = 7) ∨ (y = 403 ∧ k = 8 ∧ v = I 83 n1)) (hn : n1 = G.length) (h : OTr (uI (uI (emI I o y v) 67 22 a) 67 21 b) I' G G' (x78 (KS G))) : OTr I I' ((k, []) :: G) G' (x78 (KS ((k, []) :: G))) := fun D E g c => by
  cases D with
  | nil => exact g.elim
  | cons d D =>
    obtain ⟨⟨_, _⟩, h3, h4, h5⟩ := g
    have f1 : OSf (uI (uI (emI I o y v) 67 22 a) 67 21 b) G D := h5.eq rfl rfl
    rcases hy with ⟨rfl, rfl⟩ | ⟨rfl, rfl, hv⟩
    · have x : x78 (KS ((7, []) :: G)) (d :: D) E = x78 (KS G) D (E ++ [(402, 0)]) := rfl
      rw [x]
      exact h D _ f1 ((c.emit (y := 402) (n := 0) e5 ho (Or.inl rfl)).eq rfl rfl rfl)
    · have x : x78 (KS ((8, []) :: G)) (d :: D) E = x78 (KS G) D (E ++ [(403, d.1)]) := rfl
      rw [x]
      exact h D _ f1 ((c.emit (y := 403) (n := d.1) e5 ho (Or.inr (by rw [hv, hn]; exact h4 rfl))).eq rfl rfl rfl)
theorem OTr.o3 {I I' : XI} {o : Nat} {G G' : TG} {a b : Int32} (e5 : I 67 37 = nI o) (ho : o < 400) (h : OTr (emI (uI (uI I 67 22 a) 67 21 b) o 405 0) I' G G' (x3 (KS G))) : OTr I I' ((3, []) :: G) G' (x3 (KS ((3, []) :: G))) := fun D E g c => by
  cases D with
  | nil => exact g.elim
  | cons d D =>
    obtain ⟨⟨_, _⟩, h3, h4, h5⟩ := g
    have f1 : OSf (emI (uI (uI I 67 22 a) 67 21 b) o 405 0) G D := h5.eq rfl rfl
    have c1 : OSe (uI (uI I 67 22 a) 67 21 b) E := c.eq rfl rfl rfl
    have x : x3 (KS ((3, []) :: G)) (d :: D) E = x3 (KS G) D (E ++ [(405, 0)]) := rfl
    rw [x]
    exact h D _ f1 (c1.emit (y := 405) (n := 0) e5 ho (Or.inr rfl))
theorem OTr.top2 {I I' : XI} {a : List Int32} {G : TG} (e80 : I' 80 = I 80) (e83 : I' 83 = I 83) (e37 : I' 67 37 = I 67 37) (e89 : I' 89 = I 89) (e90 : I' 90 = I 90) : OTr I I' ((2, a) :: G) ((2, a) :: G) (x3 (KS ((2, a) :: G))) := fun D E g b => by
  cases D with
  | nil => exact g.elim
  | cons d D =>
    have x : x3 (KS ((2, a) :: G)) (d :: D) E = (d :: D, E) := rfl
    rw [x]
    exact ⟨OSf.eq g e80 e83, b.eq e37 e89 e90⟩
set_option maxRecDepth 100000 in
set_option maxHeartbeats 2000000 in
theorem us_one_loop (l : Launch) (d T : Nat) (ru ta : Nat) (rs : List XO) (I0 : XI) (b : Nat) (hb : b < 400) (J : XJ) (Rp : XR) : ∀ (G : TG) (N : Nat) (I : XI), G.length < 20 → G.length < N → Sh1 G → ST I0 I G T 1 b → (∀ I' G', ST I0 I' G' T 1 b → Sh1 G' → top78 G' → opN G' ≤ opN G → I' 67 28 = 2 → rm I' T = rm I T → KQ I I' → KS G' = cl78 (KS G) → OTr I I' G G' (x78 (KS G)) → Rp none (shH ru ta rs) I' J) → xrun xxX12 none false false (shH ru ta rs).length 0 0 none l (d + 1) tX12_oneIsOver [0] Rp N 0 [some (.ref 67)] [] (shH ru ta rs) I J 0 0 := by
  intro G
  induction G with
  | nil =>
    intro N I _ _ h1
    exact h1.elim
  | cons f G ih =>
    intro N I h20 hN h1 h hR
    obtain ⟨k, a⟩ := f
    simp only [List.length_cons] at h20 hN
    obtain ⟨N, rfl⟩ : ∃ n', N = n' + 1 := ⟨N - 1, by omega⟩
    have h0 := h
    obtain ⟨tf, hw, at_, n, w, o, c, op, e1, e2, e3, e4, e5, e6, e7, c1, c2, c3, c4, c5, c6, c7⟩ := h
    obtain ⟨n1, w0, rfl, f2, f3, f4, f5⟩ := c1
    have hl := Rep_len f5
    have hl4 := RepO_len f4
    have et : ∀ (Rq : XR), Rq (some (.int (nI k))) (shH ru ta rs) I J → xm l (d + 1) 0 0 mX12_top [.ref 67] (shH ru ta rs) I J Rq := fun Rq hq => tx_top l d n1 (by omega) ru ta rs I J Rq e3 (by rw [f2]; exact hq)
    have ek : ∀ m, k < 100 → m < 100 → nI k = nI m → k = m := fun m h1 h2 h3 => nI_small h3 (by omega) (by omega)
    have hk100 : k < 100 := by
      rcases h1 with ⟨rfl, _⟩ | ⟨z, _⟩ | ⟨rfl, _⟩ | ⟨z, _⟩ <;> omega
    refine xrun_step fun K hK => ?_
    by_cases h78 : k = 7 ∨ k = 8
    · -- one of both: an order, a frame less
      have ha : a = [] ∧ Sh1 G := by
        rcases h1 with ⟨z, _⟩ | ⟨z, _⟩ | ⟨z, _⟩ | ⟨_, z1, z2⟩
        · omega
        · omega
        · omega
        · exact ⟨z1, z2⟩
      obtain ⟨rfl, hG⟩ := ha
      have f4 : w = w0 := f4
      subst f4
      have hopk : opN ((k, []) :: G) = opN G + 1 := by
        rcases h78 with rfl | rfl <;> simp [opN] <;> omega
      have hwt : wtN ((k, []) :: G) = wtN G + 1 := by
        rcases h78 with rfl | rfl <;> simp [wtN] <;> omega
      have hrn : rN ((k, []) :: G) = rN G := by
        rcases h78 with rfl | rfl <;> simp [rN]
      have go : ∀ (y v : Int32), ((y = 402 ∧ k = 7) ∨ (y = 403 ∧ k = 8 ∧ v = I 83 n1)) → xrun xxX12 none false false (shH ru ta rs).length 0 0 none l (d + 1) tX12_oneIsOver [0] Rp N 0 [some (.ref 67)] [] (shH ru ta rs) (uI (uI (emI I o y v) 67 22 (I 67 22 - nI 1)) 67 21 (I 67 21 - nI 1)) J 0 0 := by
        intro y v hy
        have en : I 67 22 - nI 1 = nI n1 := by rw [e3]; exact nI_pred n1
        have eo : I 67 21 - nI 1 = nI (opN G) := by rw [e7, c2, hopk]; exact nI_pred (opN G)
        rw [en, eo]
        refine ih N _ (by omega) (by omega) hG ⟨((tf.em o y v).u (p := 67) rfl (fun _ => by omega)).u (p := 67) rfl (fun _ => by omega), hw, at_, n1, w, o + 1, c, opN G, e1, e2, rfl, e4, rfl, e6, rfl, ⟨f5, rfl, c3, ?_, pg_emit c5 (Or.inr (Or.inl ⟨by rcases hy with ⟨rfl, _⟩ | ⟨rfl, _⟩ <;> simp, by omega, by omega⟩)), dn_emit c6, c7⟩⟩ (fun I' G' z1 z2 z3 z4 z5 z6 z7 z8 z9 => hR I' G' z1 z2 z3 (by omega) z5 (by rw [z6]; exact rm_of rfl rfl) (KQ.tr ⟨⟨rfl, rfl, rfl⟩, rfl, rfl, rfl, rfl⟩ z7) (by rw [z8]; rcases h78 with rfl | rfl <;> rfl) (OTr.o78 e5 (by omega) hy hl.1 z9))
        show o + 1 + w + wtN G + (if I 67 17 = 0 then 0 else 1) + (T - at_) ≤ b
        omega
      have vp : vp_in (I 67 22 - nI 1) 40 := by
        rw [e3, show nI (n1 + 1) - nI 1 = nI n1 from nI_pred n1]
        exact vp_in_nI (by omega) (by omega)
      refine et _ ?_
      rcases h78 with rfl | rfl
      · refine And.intro (fun _ => ?_) (fun h => absurd rfl h)
        refine et _ ?_
        refine And.intro (fun h => absurd rfl h) (fun _ => And.intro vp ?_)
        refine tx_emits l d o (by omega) 402 _ ru ta rs I J _ e5 ?_
        exact hK 0 [some (.ref 67)] [] (shH ru ta rs) _ J 0 0 (go 402 _ (Or.inl ⟨rfl, rfl⟩))
      · refine And.intro (fun h => absurd h (by decide)) (fun _ => ?_)
        refine et _ ?_
        refine And.intro (fun h => absurd rfl h) (fun _ => ?_)
        refine et _ ?_
        refine And.intro (fun _ => And.intro vp ?_) (fun h => absurd h (by decide))
        refine tx_emits l d o (by omega) 403 _ ru ta rs I J _ e5 ?_
        exact hK 0 [some (.ref 67)] [] (shH ru ta rs) _ J 0 0 (go 403 _ (Or.inr ⟨rfl, rfl, (congrArg (fun z : Int32 => I 83 z.toNatClampNeg) (show I 67 22 - nI 1 = nI n1 by rw [e3]; exact nI_pred n1)).trans (by show I 83 (nI n1).toNatClampNeg = I 83 n1; rw [nI_clamp (by omega)])⟩))
    · have n7 : ¬ nI k = nI 7 := fun z => h78 (Or.inl (ek 7 hk100 (by omega) z))
      have n8 : ¬ nI k = nI 8 := fun z => h78 (Or.inr (ek 8 hk100 (by omega) z))
      refine et _ ?_
      refine And.intro (fun h => absurd h n7) (fun _ => ?_)
      refine et _ ?_
      refine And.intro (fun _ => ?_) (fun h => absurd h n8)
      refine hR (uI I 67 28 2) ((k, a) :: G) ⟨tf.u (p := 67) rfl (fun _ => by omega), hw, at_, n1 + 1, w, o, c, op, e1, e2, e3, e4, e5, e6, e7, ⟨⟨n1, w0, rfl, f2, f3, f4, f5⟩, c2, c3, c4, c5, c6, c7⟩⟩ h1 ⟨fun z => h78 (Or.inl z), fun z => h78 (Or.inr z)⟩ (Nat.le_refl _) rfl (rm_of rfl rfl) ⟨⟨rfl, rfl, rfl⟩, rfl, rfl, rfl, rfl⟩ (cl78_n h78) (OTr.top h78 rfl rfl rfl rfl rfl)
set_option maxRecDepth 100000 in
theorem us_oneIsOver (l : Launch) (d T : Nat) (ru ta : Nat) (rs : List XO) (I0 : XI) (b : Nat) (hb : b < 400) (J : XJ) (Rp : XR) (G : TG) (I : XI) (h20 : G.length < 20) (h1 : Sh1 G) (h : ST I0 I G T 1 b) (hR : ∀ I' G', ST I0 I' G' T 1 b → Sh1 G' → top78 G' → opN G' ≤ opN G → I' 67 28 = 2 → rm I' T = rm I T → KQ I I' → KS G' = cl78 (KS G) → OTr I I' G G' (x78 (KS G)) → Rp none (shH ru ta rs) I' J) : xm l (d + 2) 0 0 mX12_oneIsOver [.ref 67] (shH ru ta rs) I J Rp :=
  xm_of (X := xxX12) (t := tX12_oneIsOver) (stop := [0]) (ini := false) (n := 40) xx12 pl12 rfl kX12_oneIsOver (fun h => by cases h) (Nat.le_of_ble_eq_true rfl) (us_one_loop l d T ru ta rs I0 b hb J Rp G 40 I h20 (by omega) h1 h hR)
set_option maxRecDepth 100000 in
set_option maxHeartbeats 2000000 in
theorem us_ask_loop (l : Launch) (d T : Nat) (ru ta : Nat) (rs : List XO) (I0 : XI) (b : Nat) (hb : b < 400) (J : XJ) (Rp : XR) : ∀ (G : TG) (N : Nat) (I : XI), G.length < 20 → G.length < N → Sh0 G → ST I0 I G T 1 b → (∀ I' a, ST I0 I' [(2, a)] T 1 b → OPS 1 a → I' 67 28 = 3 → rm I' T = rm I T → KQ I I' → OTr I I' G [(2, a)] (x3 (KS G)) → Rp none (shH ru ta rs) I' J) → xrun xxX12 none false false (shH ru ta rs).length 0 0 none l (d + 1) tX12_askIsOver [0] Rp N 0 [some (.ref 67)] [] (shH ru ta rs) I J 0 0 := by
  intro G
  induction G with
  | nil =>
    intro N I _ _ h1
    exact h1.elim
  | cons f G ih =>
    intro N I h20 hN h1 h hR
    obtain ⟨k, a⟩ := f
    simp only [List.length_cons] at h20 hN
    obtain ⟨N, rfl⟩ : ∃ n', N = n' + 1 := ⟨N - 1, by omega⟩
    obtain ⟨tf, hw, at_, n, w, o, c, op, e1, e2, e3, e4, e5, e6, e7, c1, c2, c3, c4, c5, c6, c7⟩ := h
    obtain ⟨n1, w0, rfl, f2, f3, f4, f5⟩ := c1
    have hl := Rep_len f5
    have hl4 := RepO_len f4
    have et : ∀ (Rq : XR), Rq (some (.int (nI k))) (shH ru ta rs) I J → xm l (d + 1) 0 0 mX12_top [.ref 67] (shH ru ta rs) I J Rq := fun Rq hq => tx_top l d n1 (by omega) ru ta rs I J Rq e3 (by rw [f2]; exact hq)
    refine xrun_step fun K hK => ?_
    refine et _ ?_
    rcases h1 with ⟨rfl, rfl, ho⟩ | ⟨rfl, rfl, hG⟩
    · refine And.intro (fun _ => ?_) (fun h => absurd h (by decide))
      exact hR (uI I 67 28 3) a ⟨tf.u (p := 67) rfl (fun _ => by omega), hw, at_, n1 + 1, w, o, c, op, e1, e2, e3, e4, e5, e6, e7, ⟨⟨n1, w0, rfl, f2, f3, f4, f5⟩, c2, c3, c4, c5, c6, c7⟩⟩ ho rfl (rm_of rfl rfl) ⟨⟨rfl, rfl, rfl⟩, rfl, rfl, rfl, rfl⟩ (OTr.top2 rfl rfl rfl rfl rfl)
    · have f4 : w = w0 := f4
      subst f4
      have hopk : opN ((3, []) :: G) = opN G + 1 := by simp [opN]; omega
      have hwt : wtN ((3, []) :: G) = wtN G + 1 := by simp [wtN]; omega
      have hrn : rN ((3, []) :: G) = rN G := by simp [rN]
      refine And.intro (fun h => absurd rfl h) (fun _ => ?_)
      refine tx_emits l d o (by omega) 405 0 ru ta rs (uI (uI I 67 22 (I 67 22 - nI 1)) 67 21 (I 67 21 - nI 1)) J _ e5 ?_
      have en : I 67 22 - nI 1 = nI n1 := by rw [e3]; exact nI_pred n1
      have eo : I 67 21 - nI 1 = nI (opN G) := by rw [e7, c2, hopk]; exact nI_pred (opN G)
      refine hK 0 [some (.ref 67)] [] (shH ru ta rs) (emI (uI (uI I 67 22 (I 67 22 - nI 1)) 67 21 (I 67 21 - nI 1)) o 405 0) J 0 0 ?_
      rw [en, eo]
      refine ih N _ (by omega) (by omega) hG ⟨((tf.u (p := 67) rfl (fun _ => by omega)).u (p := 67) rfl (fun _ => by omega)).em o 405 0, hw, at_, n1, w, o + 1, c, opN G, e1, e2, rfl, e4, rfl, e6, rfl, ⟨f5, rfl, c3, ?_, pg_emit c5 (Or.inr (Or.inl ⟨by simp, by omega, by omega⟩)), dn_emit c6, c7⟩⟩ (fun I' a' z1 z2 z3 z4 z5 z6 => hR I' a' z1 z2 z3 (by rw [z4]; exact rm_of rfl rfl) (KQ.tr ⟨⟨rfl, rfl, rfl⟩, rfl, rfl, rfl, rfl⟩ z5) (OTr.o3 e5 (by omega) z6))
      show o + 1 + w + wtN G + (if I 67 17 = 0 then 0 else 1) + (T - at_) ≤ b
      omega
set_option maxRecDepth 100000 in
theorem us_askIsOver (l : Launch) (d T : Nat) (ru ta : Nat) (rs : List XO) (I0 : XI) (b : Nat) (hb : b < 400) (J : XJ) (Rp : XR) (G : TG) (I : XI) (h20 : G.length < 20) (h1 : Sh0 G) (h : ST I0 I G T 1 b) (hR : ∀ I' a, ST I0 I' [(2, a)] T 1 b → OPS 1 a → I' 67 28 = 3 → rm I' T = rm I T → KQ I I' → OTr I I' G [(2, a)] (x3 (KS G)) → Rp none (shH ru ta rs) I' J) : xm l (d + 2) 0 0 mX12_askIsOver [.ref 67] (shH ru ta rs) I J Rp :=
  xm_of (X := xxX12) (t := tX12_askIsOver) (stop := [0]) (ini := false) (n := 40) xx12 pl12 rfl kX12_askIsOver (fun h => by cases h) (Nat.le_of_ble_eq_true rfl) (us_ask_loop l d T ru ta rs I0 b hb J Rp G 40 I h20 (by omega) h1 h hR)
