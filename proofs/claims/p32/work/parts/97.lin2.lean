-- ===== the law's relation: all of a state, the tape, the last fault =====
def TPr (I : XI) : Prop := ∃ T, T ≤ 300 ∧ I 30 1 = nI T ∧ I 67 3 = nI T ∧ ∀ i, i < T → BR (I 31 i) (I 70 i)
def FLr (I : XI) : Prop := (I 35 6 = 0 ∧ I 67 4 = -1 ∧ I 67 5 = -1) ∨ (¬ I 35 6 = 0 ∧ I 35 7 = I 67 4 ∧ I 35 8 = I 67 5)
theorem tp_keep {I I2 : XI} (h : TPr I) (e30 : I2 30 1 = I 30 1) (e31 : I2 31 = I 31) (e67 : I2 67 3 = I 67 3) (e70 : I2 70 = I 70) : TPr I2 := by
  unfold TPr at h ⊢
  rw [e30, e31, e67, e70]
  exact h
theorem fl_keep {I I2 : XI} (h : FLr I) (e35 : I2 35 = I 35) (e4 : I2 67 4 = I 67 4) (e5 : I2 67 5 = I 67 5) : FLr I2 := by
  unfold FLr at h ⊢
  rw [e35, e4, e5]
  exact h
def shHB (ru ta : Nat) : Bool := CF.1.all fun q => match xn (shH ru ta []) q.1 with
  | some x => aoB q.2 x
  | none => false
set_option maxRecDepth 100000 in
theorem shHB_all : (txP.all fun ru => txP.all fun ta => shHB ru ta) = true := by decide +kernel
theorem xn_apx {α : Type} {m : List α} : ∀ {l : List α} {p : Nat} {x : α}, xn l p = some x → xn (l ++ m) p = some x
  | [], _, _, h => by cases h
  | _ :: _, 0, _, h => h
  | _ :: l, p + 1, _, h => xn_apx (l := l) (p := p) h
set_option maxRecDepth 100000 in
theorem sh_ok {ru ta : Nat} (hru : ru ∈ txP) (hta : ta ∈ txP) (rs : List XO) : shO CF (shH ru ta rs) := by
  intro p o h
  have y := List.all_eq_true.mp (List.all_eq_true.mp shHB_all ru hru) ta hta
  unfold shHB at y
  have y := List.all_eq_true.mp y (p, o) (xlk_mem h)
  dsimp only at y
  split at y
  · rename_i x e
    exact ⟨x, xn_apx (l := shH ru ta []) (m := rs) e, aoB_ok y⟩
  · cases y
theorem txP_in {t : Nat} (h : t < 4) : 47 + 5 * t ∈ txP := by
  have y : t = 0 ∨ t = 1 ∨ t = 2 ∨ t = 3 := by omega
  rcases y with rfl | rfl | rfl | rfl <;> decide
def lin2 (sh : List XO) (I : XI) : Prop := ∃ (TX : Nat → Txt) (H Hi : Hlf) (ta : Nat) (rs : List XO), (sh = shH (ruO (hvR H)) ta rs ∧ ta ∈ txP) ∧ (ivO CF [] I ∧ QQ I) ∧ GRx I TX H Hi ∧ TPr I ∧ FLr I
theorem ruO_mem {r : Option Nat} (h : rOK r 4) : ruO r ∈ txP := by
  cases r with
  | none => decide
  | some t => exact txP_in (h t rfl)
theorem HOK.ru {H : Hlf} (h : HOK H) : rOK (hvR H) 4 := fun t e => by
  have := h.2.2.1 t e
  have := h.2.1
  omega
theorem HOK.sh {H : Hlf} (h : HOK H) {ta : Nat} (hta : ta ∈ txP) (rs : List XO) : shO CF (shH (ruO (hvR H)) ta rs) := sh_ok (ruO_mem h.ru) hta rs
theorem MA.fc {I I1 : XI} {L : Lws} {A : Ast} (f : FCl I I1) (h : MA I L A) : MA I1 L A := by
  have g : ∀ q, 27 < q → I1 q = I q := fun q hq => f q (by omega) (by omega) (by omega) (by omega) (by omega)
  have e := g 68 (by decide)
  refine ⟨⟨⟨h.1.1.1.keep e, h.1.1.2⟩, h.1.2.keep (congrFun e 4) (g 71 (by decide)) (g 72 (by decide)) (g 73 (by decide)) (g 77 (by decide)) (g 78 (by decide))⟩, ?_, h.2.2.c (congrFun e 5) (fun j _ _ => congrFun e j)⟩
  rw [← h.2.1]
  exact wLay_cg (fun j _ _ => congrFun e j) (g 93 (by decide))
theorem qq_keep {I I' : XI} (h : QQ I) (e71 : I' 71 = I 71) (e72 : I' 72 = I 72) (e73 : I' 73 = I 73) (e77 : I' 77 = I 77) (e78 : I' 78 = I 78) : QQ I' := qq_ok I I' (fun p hp => by
  simp only [QPl, List.mem_cons, List.not_mem_nil, or_false] at hp
  rcases hp with rfl | rfl | rfl | rfl | rfl
  · exact e71
  · exact e72
  · exact e73
  · exact e77
  · exact e78) h
/-- a call on both sides whose effect is told -/
theorem lin2.op {I I1 I2 : XI} {TX : Nat → Txt} {H Hi : Hlf} {ta : Nat} {rs : List XO} {A' : Ast} {ru : Nat} {L L' : Lws} (hta : ta ∈ txP) (hi : ivO CF [] I) (hq : QQ I) (hg : GRx I TX H Hi) (tp : TPr I) (fl : FLr I) (hA' : AOK A') (ht : Tle (oQ (hvA H)) (oQ A')) (fc : FCl I I1) (c : CA I1 ru L A') (fm : FMl I1 I2) (m : MA I2 L' A') : lin2 (shH (ruO (hvR H)) ta rs) I2 := by
  have k : ∀ q, 27 < q → q ≠ 68 → q ≠ 91 → q ≠ 93 → I2 q = I q := fun q a f g i => (fm.1 q f g i).trans (fc q (by omega) (by omega) (by omega) (by omega) (by omega))
  have k2 : ∀ q, 17 < q → q ≠ 24 → q ≠ 27 → q ≠ 68 → q ≠ 91 → q ≠ 93 → I2 q = I q := fun q a b c' f g i => (fm.1 q f g i).trans (fc q (by omega) (by omega) (by omega) b c')
  have g := hg.op hA' ht fc c fm m
  have e68 : I1 68 = I 68 := fc 68 (by decide) (by decide) (by decide) (by decide) (by decide)
  have e93 : I1 93 = I 93 := fc 93 (by decide) (by decide) (by decide) (by decide) (by decide)
  refine ⟨TX, (A', H.2), Hi, ta, rs, ⟨rfl, hta⟩, ⟨iv_gr hi g (fun q a b c' d e f g' => k2 q a b c' d f g') (fm.2.2 ⟨fun j => by rw [e68]; exact hi 68 j rfl, fun j => by rw [e93]; exact hi 93 j rfl⟩) (fun j => by rw [k 69 (by decide) (by decide) (by decide) (by decide)]; exact hi 69 j rfl), ?_⟩, g, ?_, ?_⟩
  · exact qq_keep hq (k 71 (by decide) (by decide) (by decide) (by decide)) (k 72 (by decide) (by decide) (by decide) (by decide)) (k 73 (by decide) (by decide) (by decide) (by decide)) (k 77 (by decide) (by decide) (by decide) (by decide)) (k 78 (by decide) (by decide) (by decide) (by decide))
  · exact tp_keep tp (congrFun (k 30 (by decide) (by decide) (by decide) (by decide)) 1) (k 31 (by decide) (by decide) (by decide) (by decide)) (congrFun (k 67 (by decide) (by decide) (by decide) (by decide)) 3) (k 70 (by decide) (by decide) (by decide) (by decide))
  · exact fl_keep fl (k 35 (by decide) (by decide) (by decide) (by decide)) (congrFun (k 67 (by decide) (by decide) (by decide) (by decide)) 4) (congrFun (k 67 (by decide) (by decide) (by decide) (by decide)) 5)
theorem lin2.by_ {I : XI} {TX : Nat → Txt} {H Hi : Hlf} {ta : Nat} {rs : List XO} (hta : ta ∈ txP) (hi : ivO CF [] I) (hq : QQ I) (hg : GRx I TX H Hi) (tp : TPr I) (fl : FLr I) {r : Option Nat} (hr : rOK r (hvM H)) : lin2 (shH (ruO r) ta rs) (uI (uI I 0 13 (rI r)) 68 4 (rI r)) := by
  have g := hg.by_ hr
  have hm4 := hg.1.1.2.1
  have k : ∀ q, q ≠ 0 → q ≠ 68 → (uI (uI I 0 13 (rI r)) 68 4 (rI r)) q = I q := fun q a b => by rw [uI_ne b, uI_ne a]
  refine ⟨TX, (hvA H, r, H.2.2), Hi, ta, rs, ⟨rfl, hta⟩, ⟨iv_gr hi g (fun q a _ _ b _ _ _ => k q (by omega) b) ⟨fun j => ?_, fun j => by rw [k 93 (by decide) (by decide)]; exact hi 93 j rfl⟩ (fun j => by rw [k 69 (by decide) (by decide)]; exact hi 69 j rfl), ?_⟩, g, ?_, ?_⟩
  · rw [uI_eq]
    by_cases e : j = 4
    · subst e
      rw [upd_s, show cellI CF 68 4 = (-1, 3) from by decide +kernel]
      cases r with
      | none => exact ⟨by decide, by decide⟩
      | some t =>
        have := hr t rfl
        show inI (-1, 3) (nI t).toInt
        rw [nI_toInt (by omega)]
        exact ⟨by dsimp only; omega, by dsimp only; omega⟩
    · rw [upd_n e, uI_ne (by decide)]
      exact hi 68 j rfl
  · exact qq_keep hq (k 71 (by decide) (by decide)) (k 72 (by decide) (by decide)) (k 73 (by decide) (by decide)) (k 77 (by decide) (by decide)) (k 78 (by decide) (by decide))
  · exact tp_keep tp (congrFun (k 30 (by decide) (by decide)) 1) (k 31 (by decide) (by decide)) (congrFun (k 67 (by decide) (by decide)) 3) (k 70 (by decide) (by decide))
  · exact fl_keep fl (k 35 (by decide) (by decide)) (congrFun (k 67 (by decide) (by decide)) 4) (congrFun (k 67 (by decide) (by decide)) 5)
theorem lin2.need_ {I I2 : XI} {TX : Nat → Txt} {H Hi : Hlf} {ta : Nat} {rs : List XO} (hta : ta ∈ txP) (hi : ivO CF [] I) (hq : QQ I) (hg : GRx I TX H Hi) (tp : TPr I) (fl : FLr I) {u : Nat} {x y : Nat → Int32} (hu : u ≤ 8) (k : ∀ q, q ≠ 0 → q ≠ 3 → q ≠ 4 → q ≠ 68 → I2 q = I q) (k0 : ∀ j, j ≠ 7 → I2 0 j = I 0 j) (k68 : ∀ j, j ≠ 6 → (j < 42 ∨ 58 ≤ j) → I2 68 j = I 68 j) (e7 : I2 0 7 = nI u) (e6 : I2 68 6 = nI u) (en1 : ∀ i, i < u → I2 3 i = x i ∧ I2 4 i = y i) (en2 : ∀ i, i < u → I2 68 (42 + 2 * i) = x i ∧ I2 68 (43 + 2 * i) = y i) : lin2 (shH (ruO (hvR H)) ta rs) I2 := by
  have g := hg.need_ hu k k0 k68 e7 e6 en1 en2
  have kk : ∀ q, 4 < q → q ≠ 68 → I2 q = I q := fun q a b => k q (by omega) (by omega) (by omega) b
  refine ⟨TX, (hvA H, hvR H, hvM H, u, x, y), Hi, ta, rs, ⟨rfl, hta⟩, ⟨iv_gr hi g (fun q a _ _ b _ _ _ => kk q (by omega) b) ⟨fun j => ?_, fun j => by rw [kk 93 (by decide) (by decide)]; exact hi 93 j rfl⟩ (fun j => by rw [kk 69 (by decide) (by decide)]; exact hi 69 j rfl), ?_⟩, g, ?_, ?_⟩
  · by_cases e : j = 6
    · subst e
      rw [e6, show cellI CF 68 6 = (0, 8) from by decide +kernel]
      exact inI_n (by omega) (by omega)
    · by_cases c : j < 42 ∨ 58 ≤ j
      · rw [k68 j e c]
        exact hi 68 j rfl
      · have z : ∀ i, i < 16 → cellI CF 68 (42 + i) = fr := by decide +kernel
        have y := z (j - 42) (by omega)
        rw [show 42 + (j - 42) = j by omega] at y
        rw [y]
        exact inI_fr _
  · exact qq_keep hq (kk 71 (by decide) (by decide)) (kk 72 (by decide) (by decide)) (kk 73 (by decide) (by decide)) (kk 77 (by decide) (by decide)) (kk 78 (by decide) (by decide))
  · exact tp_keep tp (congrFun (kk 30 (by decide) (by decide)) 1) (kk 31 (by decide) (by decide)) (congrFun (kk 67 (by decide) (by decide)) 3) (kk 70 (by decide) (by decide))
  · exact fl_keep fl (kk 35 (by decide) (by decide)) (congrFun (kk 67 (by decide) (by decide)) 4) (congrFun (kk 67 (by decide) (by decide)) 5)
theorem lin2.image_ {I : XI} {TX : Nat → Txt} {H Hi : Hlf} {ta : Nat} {rs : List XO} (hta : ta ∈ txP) (hi : ivO CF [] I) (hq : QQ I) (hg : GRx I TX H Hi) (tp : TPr I) (fl : FLr I) : lin2 (shH (ruO (hvR H)) ta rs) (cI (gKp I) 68 69 0 0 2200) := by
  have g := hg.image_
  have k : ∀ q, 11 < q → q ≠ 69 → (cI (gKp I) 68 69 0 0 2200) q = I q := fun q a b => by rw [cI_ne b, gKp_k I q (by omega)]
  refine ⟨TX, H, H, ta, rs, ⟨rfl, hta⟩, ⟨iv_gr hi g (fun q a _ _ _ b _ _ => k q (by omega) b) ⟨fun j => by rw [k 68 (by decide) (by decide)]; exact hi 68 j rfl, fun j => by rw [k 93 (by decide) (by decide)]; exact hi 93 j rfl⟩ (fun j => ?_), ?_⟩, g, ?_, ?_⟩
  · rw [cI_eq, gKp_k I 68 (by decide), gKp_k I 69 (by decide)]
    by_cases c : j < 2200
    · rw [cp_lo c, cell_6 j]
      exact hi 68 j rfl
    · simp only [va_cpy]
      rw [if_neg (by omega)]
      exact hi 69 j rfl
  · exact qq_keep hq (k 71 (by decide) (by decide)) (k 72 (by decide) (by decide)) (k 73 (by decide) (by decide)) (k 77 (by decide) (by decide)) (k 78 (by decide) (by decide))
  · exact tp_keep tp (congrFun (k 30 (by decide) (by decide)) 1) (k 31 (by decide) (by decide)) (congrFun (k 67 (by decide) (by decide)) 3) (k 70 (by decide) (by decide))
  · exact fl_keep fl (k 35 (by decide) (by decide)) (congrFun (k 67 (by decide) (by decide)) 4) (congrFun (k 67 (by decide) (by decide)) 5)
theorem lin2.back_ {I : XI} {TX : Nat → Txt} {H Hi : Hlf} {ta : Nat} {rs : List XO} (hta : ta ∈ txP) (hi : ivO CF [] I) (hq : QQ I) (hg : GRx I TX H Hi) (tp : TPr I) (fl : FLr I) : lin2 (shH (ruO (hvR Hi)) ta rs) (cI (gBk I) 69 68 0 0 2200) := by
  have g := hg.back_
  have k : ∀ q, 12 < q → q ≠ 27 → q ≠ 68 → (cI (gBk I) 69 68 0 0 2200) q = I q := fun q a c b => by rw [cI_ne b, gBk_k I q (by omega)]
  refine ⟨TX, ((oQ (hvA Hi), wLay (cI (gBk I) 69 68 0 0 2200), oN (hvA Hi), oF (hvA Hi)), Hi.2), Hi, ta, rs, ⟨rfl, hta⟩, ⟨iv_gr hi g (fun q a _ c b _ _ _ => k q (by omega) c b) ⟨fun j => ?_, fun j => by rw [k 93 (by decide) (by decide) (by decide)]; exact hi 93 j rfl⟩ (fun j => by rw [k 69 (by decide) (by decide) (by decide)]; exact hi 69 j rfl), ?_⟩, g, ?_, ?_⟩
  · rw [cI_eq, gBk_k I 69 (by decide), gBk_k I 68 (by decide)]
    by_cases c : j < 2200
    · rw [cp_lo c, ← cell_6 j]
      exact hi 69 j rfl
    · simp only [va_cpy]
      rw [if_neg (by omega)]
      exact hi 68 j rfl
  · exact qq_keep hq (k 71 (by decide) (by decide) (by decide)) (k 72 (by decide) (by decide) (by decide)) (k 73 (by decide) (by decide) (by decide)) (k 77 (by decide) (by decide) (by decide)) (k 78 (by decide) (by decide) (by decide))
  · exact tp_keep tp (congrFun (k 30 (by decide) (by decide) (by decide)) 1) (k 31 (by decide) (by decide) (by decide)) (congrFun (k 67 (by decide) (by decide) (by decide)) 3) (k 70 (by decide) (by decide) (by decide))
  · exact fl_keep fl (k 35 (by decide) (by decide) (by decide)) (congrFun (k 67 (by decide) (by decide) (by decide)) 4) (congrFun (k 67 (by decide) (by decide) (by decide)) 5)
-- what the doing calls tell
theorem Tle.eq {Q P : Tld} (h : P = Q) : Tle Q P := h ▸ Tle.rf Q
theorem q_cut {L : Lws} {A : Ast} {x y z : Int32} : oQ (cutS L A x y z).2 = oQ A := by
  unfold cutS
  split <;> rfl
theorem q_last {A : Ast} {x y : Int32} : oQ (lastS A x y).2 = oQ A := by
  unfold lastS
  split <;> rfl
theorem q_use {A : Ast} {x y : Int32} : oQ (useS A x y).2 = oQ A := by
  unfold useS
  split <;> rfl
theorem q_move {A : Ast} {x y : Int32} : oQ (moveS A x y).2 = oQ A := by
  unfold moveS
  split <;> rfl
theorem q_sell {L : Lws} {A : Ast} {x : Int32} : oQ (sellS L A x).2 = oQ A := by
  unfold sellS
  split <;> rfl
theorem q_ph {L : Lws} : ∀ (k : Nat) {A : Ast}, oQ (phS L k A) = oQ A
  | 0, _ => rfl
  | k + 1, A => by
    unfold phS
    split
    · exact (q_ph k).trans rfl
    · rfl
theorem q_hour {L : Lws} {A : Ast} {x : Int32} : oQ (hourS L A x).2 = oQ A := by
  unfold hourS
  split
  · exact q_ph _
  · rfl
theorem q_dec {L : Lws} {A : Ast} {x y : Int32} : oQ (decS L A x y).2 = oQ A := by
  unfold decS
  split <;> rfl
theorem q_undo {A : Ast} : oQ (undoS A).2 = oQ A := by
  unfold undoS
  split <;> rfl
theorem q_th {A : Ast} {x y z : Int32} : Tle (oQ A) (oQ (thS A x y z).2) := by
  unfold thS
  split
  · exact Tle.th _ _ _ _
  · exact Tle.rf _
theorem q_re {A : Ast} {x : Int32} : Tle (oQ A) (oQ (reS A x).2) := by
  unfold reS
  split
  · exact Tle.re _ _
  · exact Tle.rf _
theorem q_ba {A : Ast} {x : Int32} : Tle (oQ A) (oQ (baS A x).2) := by
  unfold baS
  split
  · exact Tle.ba _ _
  · exact Tle.rf _
