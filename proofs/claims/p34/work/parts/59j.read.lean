section
-- ===== the reader: a clause, all of them =====
def FC (ta : Nat) (I I' : XI) : Prop := (∀ p, p ≠ 35 → p ≠ ta → p ≠ ta + 1 → p ≠ ta + 2 → p ≠ ta + 3 → p ≠ ta + 4 → I' p = I p) ∧ I' 35 6 = I 35 6
theorem FC.rf {ta : Nat} {I : XI} : FC ta I I := ⟨fun _ _ _ _ _ _ _ => rfl, rfl⟩
theorem FC.tr {ta : Nat} {I I' I'' : XI} (h : FC ta I I') (g : FC ta I' I'') : FC ta I I'' := ⟨fun p a b c d e f => (g.1 p a b c d e f).trans (h.1 p a b c d e f), g.2.trans h.2⟩
theorem FE.fc {ta : Nat} {I I' : XI} (h : FE ta I I') : FC ta I I' := ⟨fun p a b c _ _ _ => h.1 p a b c, h.2.1 6 (by decide) (by decide) (by decide) (by decide) (by decide)⟩
theorem FD.fc {ta : Nat} {I I' : XI} (h : FD ta I I') : FC ta I I' := ⟨fun p a _ _ _ _ f => h.1 p a f, h.2⟩
theorem FC.ev {ta : Nat} {I I' : XI} {tk : Nat → TK} {N : Nat} (ht : TSP ta) (f : FC ta I I') (h : EV I tk N) : EV I' tk N := by
  unfold TSP at ht
  unfold EV
  rw [f.1 30 (by decide) (by omega) (by omega) (by omega) (by omega) (by omega), f.1 32 (by decide) (by omega) (by omega) (by omega) (by omega) (by omega), f.1 33 (by decide) (by omega) (by omega) (by omega) (by omega) (by omega), f.1 34 (by decide) (by omega) (by omega) (by omega) (by omega) (by omega)]
  exact h
/-- ahead of a clause -/
def CLs (ta : Nat) (I : XI) (j c : Nat) (ws : List Nat) : Prop := ATt ta I j c ∧ I ta 5 = nI ws.length ∧ ∀ w, w < 5 → (w ∈ ws ↔ I (ta + 2) w < I (ta + 3) w)
/-- a clause that was read: its word, its orders, its numbers -/
def CLp (ta : Nat) (I : XI) (c : Nat) (E : List Odr) (i w at_ : Nat) (dn : List Nat) : Prop := w ≤ 13 ∧ I (ta + 4) (4 * i) = nI w ∧ (w ≤ 4 → ∃ st e pre r, I (ta + 2) w = nI st ∧ I (ta + 3) w = nI (st + e.length) ∧ st + e.length ≤ c ∧ Cds (I (ta + 1)) st e ∧ Typ w 22 (Nat.beq w 4) e ∧ E = pre ++ e ++ [(408, 0)] ++ r ∧ pre.length = at_) ∧ (4 < w → dn.length = (fmS w).length ∧ ∀ x, x < dn.length → I (ta + 4) (4 * i + 1 + x) = nI (dn.getD x 0))
def GT (ta : Nat) (I : XI) (ws : List Nat) (c : Nat) (E : List Odr) (A : Adr) : Prop := A.length = ws.length ∧ ∀ i, i < ws.length → CLp ta I c E i (ws.getD i 0) (A.getD i (0, [])).1 (A.getD i (0, [])).2
theorem getD_mem {l : List Nat} {i : Nat} (h : i < l.length) : l.getD i 0 ∈ l := by
  rw [List.getD_eq_getElem?_getD, List.getElem?_eq_getElem h]
  exact List.getElem_mem h
theorem getD_appL {α : Type} {l m : List α} {i : Nat} {d : α} (h : i < l.length) : (l ++ m).getD i d = l.getD i d := by
  rw [List.getD_eq_getElem?_getD, List.getD_eq_getElem?_getD, List.getElem?_append_left h]
theorem getD_appR {α : Type} {l : List α} {a d : α} : (l ++ [a]).getD l.length d = a := by
  rw [List.getD_eq_getElem?_getD, List.getElem?_append_right (Nat.le_refl _)]
  simp
theorem CLp.keep {ta : Nat} {I I' : XI} {c c' : Nat} {E F : List Odr} {i w at_ q : Nat} {dn : List Nat} (h : CLp ta I c E i w at_ dn) (hi : i < q) (hdn : 4 < w → dn.length ≤ 3) (h4 : ∀ x, x < 4 * q → I' (ta + 4) x = I (ta + 4) x) (h1 : ∀ x, x < c → I' (ta + 1) x = I (ta + 1) x) (hc : c ≤ c') (h23 : w ≤ 4 → I' (ta + 2) w = I (ta + 2) w ∧ I' (ta + 3) w = I (ta + 3) w) : CLp ta I' c' (E ++ F) i w at_ dn := by
  obtain ⟨a1, a2, a3, a4⟩ := h
  refine ⟨a1, by rw [h4 _ (by omega)]; exact a2, fun hw => ?_, fun hw => ⟨(a4 hw).1, fun x hx => ?_⟩⟩
  · obtain ⟨st, e, pre, r, b1, b2, b3, b4, b5, b6, b7⟩ := a3 hw
    refine ⟨st, e, pre, r ++ F, by rw [(h23 hw).1]; exact b1, by rw [(h23 hw).2]; exact b2, by omega, b4.up (fun x _ hx => h1 x (by omega)), b5, ?_, b7⟩
    rw [b6]
    simp [List.append_assoc]
  · have := hdn hw
    rw [h4 _ (by omega)]
    exact (a4 hw).2 x hx
theorem fm_len : ((List.range 9).all fun v => Nat.ble (fmS (v + 5)).length 3) = true := by decide +kernel
theorem fm_le {w : Nat} (h : 4 < w) (h2 : w ≤ 13) : (fmS w).length ≤ 3 := by
  have y := List.all_eq_true.mp fm_len (w - 5) (List.mem_range.mpr (by omega))
  rw [show w - 5 + 5 = w by omega] at y
  exact Nat.le_of_ble_eq_true y
theorem deN_len {tk : Nat → TK} {w j : Nat} (h : 4 < w) (h2 : w ≤ 13) : (deN tk (fmS w) j).length = (fmS w).length := by
  have y : w = 5 ∨ w = 6 ∨ w = 7 ∨ w = 8 ∨ w = 9 ∨ w = 10 ∨ w = 11 ∨ w = 12 ∨ w = 13 := by omega
  rcases y with rfl | rfl | rfl | rfl | rfl | rfl | rfl | rfl | rfl <;> rfl
theorem GT.snoc {ta : Nat} {I I' : XI} {ws : List Nat} {c c' : Nat} {E F : List Odr} {A : Adr} {v at_ : Nat} {dn : List Nat} (h : GT ta I ws c E A) (h4 : ∀ x, x < 4 * ws.length → I' (ta + 4) x = I (ta + 4) x) (h1 : ∀ x, x < c → I' (ta + 1) x = I (ta + 1) x) (hc : c ≤ c') (h23 : ∀ w, w ∈ ws → w ≤ 4 → I' (ta + 2) w = I (ta + 2) w ∧ I' (ta + 3) w = I (ta + 3) w) (g : CLp ta I' c' (E ++ F) ws.length v at_ dn) : GT ta I' (ws ++ [v]) c' (E ++ F) (A ++ [(at_, dn)]) := by
  refine ⟨by simp [h.1], fun i hi => ?_⟩
  rcases Nat.lt_or_ge i ws.length with z | z
  · rw [getD_appL z, getD_appL (by rw [h.1]; exact z)]
    have y := h.2 i z
    refine y.keep (q := ws.length) z (fun hw => ?_) h4 h1 hc (fun hw => h23 _ (getD_mem z) hw)
    rw [(y.2.2.2 hw).1]
    exact fm_le hw y.1
  · have e : i = ws.length := by
      simp at hi
      omega
    subst e
    rw [getD_appR, show (A ++ [(at_, dn)]).getD ws.length (0, []) = (at_, dn) by rw [← h.1]; exact getD_appR]
    exact g
/-- what a clause adds -/
def GTX (ta : Nat) (tk : Nat → TK) (I I' : XI) (ws : List Nat) (c c' v : Nat) (s t : MS) : Prop := ∀ (E : List Odr) (A : Adr), GT ta I ws c E A → ∃ E' A', GT ta I' (ws ++ [v]) c' E' A' ∧ Rx tk (s, [], E, A) (t, [], E', A')
def CNO (ta : Nat) (tk : Nat → TK) (I : XI) (s : MS) (I' : XI) : Prop := ∃ f p c' q, FC ta I I' ∧ (I' 35 7 = nI f ∧ I' 35 8 = nI p ∧ 1 ≤ f) ∧ (c' ≤ 300 ∧ I' ta 1 = nI c') ∧ (q ≤ 24 ∧ I' ta 5 = nI q) ∧ Ends tk s (f, p)
def COK (ta N : Nat) (tk : Nat → TK) (I : XI) (j c : Nat) (ws : List Nat) (s : MS) (I' : XI) : Prop := ∃ j' c' v, FC ta I I' ∧ (I' 35 7 = I 35 7 ∧ I' 35 8 = I 35 8) ∧ CLs ta I' j' c' (ws ++ [v]) ∧ j' < N ∧ c' ≤ j' ∧ j + 1 ≤ j' ∧ Rch tk s (4, [], v, ws ++ [v], j') ∧ GTX ta tk I I' ws c c' v s (4, [], v, ws ++ [v], j')
theorem cw_id : ((List.range 32).all fun w => match Nat.ble w 13 with
  | true => Nat.beq (cw w) w
  | false => Nat.blt 13 (cw w)) = true := by decide +kernel
theorem cw_id1 {w : Nat} (h : w ≤ 13) : cw w = w := by
  have y := List.all_eq_true.mp cw_id w (List.mem_range.mpr (by omega))
  rw [Nat.ble_eq.mpr h] at y
  exact Nat.eq_of_beq_eq_true y
theorem cw_id2 {w : Nat} (h : 13 < w) (h2 : w < 32) : 13 < cw w := by
  have y := List.all_eq_true.mp cw_id w (List.mem_range.mpr h2)
  have e : Nat.ble w 13 = false := by
    cases e : Nat.ble w 13 with
    | true => exact absurd (Nat.le_of_ble_eq_true e) (by omega)
    | false => rfl
  rw [e] at y
  exact Nat.blt_eq.mp y
theorem naL_get {w : Nat} (h : w < 5) : ([63, 62, 454, 199, 1567] : List Int32).getD w 0 = nI (naL w) := by
  have y : ((List.range 5).all fun w => decide (([63, 62, 454, 199, 1567] : List Int32).getD w 0 = nI (naL w))) = true := by decide +kernel
  exact of_decide_eq_true (List.all_eq_true.mp y w (List.mem_range.mpr h))
theorem avI_23 {ta i : Nat} {I : XI} (ht : TSP ta) : avI I i (ta + 2) = I (ta + 2) := by
  unfold TSP at ht
  unfold avI
  rw [uI_ne (by omega), uI_ne (by omega), uI_ne (by omega)]
theorem avI_23' {ta i : Nat} {I : XI} (ht : TSP ta) : avI I i (ta + 3) = I (ta + 3) := by
  unfold TSP at ht
  unfold avI
  rw [uI_ne (by omega), uI_ne (by omega), uI_ne (by omega)]
theorem opI_ne {ta w : Nat} {I : XI} {v : Int32} (ht : TSP ta) : opI (uI I 35 2 v) ta w (ta + 1) = I (ta + 1) := by
  unfold TSP at ht
  unfold opI
  rw [uI_ne (by omega), uI_ne (by omega)]
theorem opI_ac {ta w q : Nat} {I I0 : XI} {v x : Int32} (ht : TSP ta) (h : I (ta + 4) (4 * q) = x) (g : ∀ y, y < 4 * q → I (ta + 4) y = I0 (ta + 4) y) : AC4 ta I0 (opI (uI I 35 2 v) ta w) q x := by
  unfold TSP at ht
  have e : opI (uI I 35 2 v) ta w (ta + 4) = I (ta + 4) := by
    unfold opI
    rw [uI_ne (by omega), uI_ne (by omega)]
  unfold AC4
  rw [e]
  exact ⟨h, g⟩
theorem opI_23 {ta w x : Nat} {I I0 : XI} {v : Int32} (ht : TSP ta) (hx : x ≠ w) (h2 : I (ta + 2) = I0 (ta + 2)) (h3 : I (ta + 3) = I0 (ta + 3)) : opI (uI I 35 2 v) ta w (ta + 2) x = I0 (ta + 2) x ∧ opI (uI I 35 2 v) ta w (ta + 3) x = I0 (ta + 3) x := by
  unfold TSP at ht
  unfold opI
  rw [uI_atC, if_neg hx, uI_ne (show ta + 2 ≠ 35 by omega), uI_ne (show ta + 3 ≠ ta + 2 by omega), uI_ne (show ta + 3 ≠ 35 by omega), h2, h3]
  exact ⟨rfl, rfl⟩
section CLAUSE
variable {l : Launch} {ru_ ta : Nat} {rs : List XO} {tk : Nat → TK} {N : Nat}
abbrev clr (l : Launch) (ru_ ta : Nat) (rs : List XO) (J : XJ) (Rp : XR) (n S pc : Nat) (lc : List (Option Value)) (I : XI) : Prop := xrun xxX5 (some .boolean) false false (shH ru_ ta rs).length 0 0 none l n tX5_clause [137] Rp S pc lc [] (shH ru_ ta rs) I J 0 0
set_option maxRecDepth 100000 in
set_option maxHeartbeats 1000000 in
/-- behind the law: it is closed, then its end -/
theorem rd_law_137 (ht : TSP ta) (hk : TKN tk N) {n : Nat} (hn : 2 ≤ n) (J : XJ) (Rp : XR) (ws : List Nat) (w j0 c0 : Nat) (hw : w < 5) (hlen : ws.length < 24) (s0 : MS) (I I3 : XI) (f3 : FC ta I I3) (e78 : I3 35 7 = I 35 7 ∧ I3 35 8 = I 35 8) (ev3 : EV I3 tk N) (e5 : I3 ta 5 = nI (ws.length + 1)) (hl : ∀ x, x < 5 → x ≠ w → (x ∈ ws ↔ I3 (ta + 2) x < I3 (ta + 3) x)) (hst : I3 (ta + 2) w = nI c0) (hc0 : c0 ≤ j0) (hnw : w ∉ ws) (ac : AC4 ta I I3 ws.length (nI w)) (row1 : I3 (ta + 1) = I (ta + 1)) (r23 : ∀ x, x < 5 → x ≠ w → I3 (ta + 2) x = I (ta + 2) x ∧ I3 (ta + 3) x = I (ta + 3) x) (hS : ∀ I', COK ta N tk I j0 c0 ws s0 I' → Rp (some (.int 1)) (shH ru_ ta rs) I' J) (hF : ∀ I', CNO ta tk I s0 I' → Rp (some (.int 0)) (shH ru_ ta rs) I' J) (S : Nat) (num : Int32) : (∀ (I4 : XI) (j4 c4 : Nat) (s1 : MS), FS ta I3 I4 → ATt ta I4 j4 c4 → j4 < N → c0 + 1 ≤ c4 → c4 ≤ j4 → j0 + 1 ≤ j4 → Rch tk s0 s1 → (isSg (tk j4) 59 = true → mstep tk s1 = .inl (4, [], w, ws ++ [w], j4 + 1)) → (isSg (tk j4) 59 = false → mstep tk s1 = .inr (ft tk 1 j4)) → (∀ e, Cem ta I3 I4 c0 c4 e → Typ w 22 (Nat.beq w 4) e → (isSg (tk j4) 59 = true → ∀ (E : List Odr) (A : Adr), Rx tk (s0, [], E, A) ((4, [], w, ws ++ [w], j4 + 1), [], E ++ e ++ [(408, 0)], A ++ [(E.length, [])])) → clr l ru_ ta rs J Rp n (S + 1) 137 [some (.ref 35), some (.int num), some (.int (nI w)), some (.int 1)] I4)) ∧ (∀ (I4 : XI) (s1 : MS), NOR ta tk I3 s1 I4 → Rch tk s0 s1 → clr l ru_ ta rs J Rp n (S + 1) 137 [some (.ref 35), some (.int num), some (.int (nI w)), some (.int 0)] I4) := by
  have hN := hk.2.1
  have ht2 := ht
  unfold TSP at ht2
  constructor
  · intro I4 j4 c4 s1 f4 at4 hj4 hcc hc4 hjj r1 hA hB e ce tye hX
    have ev4 := ev3.fe ht f4.1
    have f5 : FC ta I (clsI I4 ta w) := (f3.tr f4.1.fc).tr ⟨fun p _ _ _ _ d _ => uI_ne d, by
      unfold clsI
      rw [uI_ne (by omega)]⟩
    have e35 : clsI I4 ta w 35 = I4 35 := by unfold clsI; rw [uI_ne (by omega)]
    have eta : clsI I4 ta w ta = I4 ta := by unfold clsI; rw [uI_ne (by omega)]
    have e32 : clsI I4 ta w 32 = I4 32 := by unfold clsI; rw [uI_ne (by omega)]
    have e33 : clsI I4 ta w 33 = I4 33 := by unfold clsI; rw [uI_ne (by omega)]
    have ev5 : EV (clsI I4 ta w) tk N := f5.ev ht ((show FC ta I3 I from ⟨fun p a b c d e f => (f3.1 p a b c d e f).symm, f3.2.symm⟩).ev ht ev3)
    have at5 : ATt ta (clsI I4 ta w) j4 c4 := by
      unfold ATt
      rw [e35, eta, e32, e33]
      exact at4
    have tk5 := at5.tk ev5 hj4
    have hsg := tkC_sg tk5 (hk.2.2.2.2 j4) (w := 59) (by decide)
    have nx : isSg (tk j4) 59 = true → j4 + 1 < N := fun z => hk.nx hj4 (by rw [(sg_1 z).1]; decide)
    have r2 : ∀ x, clsI I4 ta w (ta + 2) x = I3 (ta + 2) x := fun x => by
      unfold clsI
      rw [uI_ne (by omega), f4.1.1 (ta + 2) (by omega) (by omega) (by omega)]
    have r3 : ∀ x, clsI I4 ta w (ta + 3) x = if x = w then nI c4 else I3 (ta + 3) x := fun x => by
      unfold clsI
      rw [uI_atC, at4.2.2.2, f4.1.1 (ta + 3) (by omega) (by omega) (by omega)]
    have law : ∀ x, x < 5 → (x ∈ ws ++ [w] ↔ clsI I4 ta w (ta + 2) x < clsI I4 ta w (ta + 3) x) := fun x hx => by
      rw [r2, r3]
      by_cases e : x = w
      · rw [if_pos e, e, hst]
        exact ⟨fun _ => nI_lt (by omega) (by omega), fun _ => List.mem_append_right _ (List.mem_singleton.mpr rfl)⟩
      · rw [if_neg e, ← hl x hx e]
        constructor
        · intro z
          rcases List.mem_append.mp z with z | z
          · exact z
          · exact absurd (List.mem_singleton.mp z) e
        · exact fun z => List.mem_append_left _ z
    have cta : clsI I4 ta w ta 5 = nI (ws.length + 1) := by rw [eta, f4.1.2.2 5 (by decide)]; exact e5
    have c78 : clsI I4 ta w 35 7 = I 35 7 ∧ clsI I4 ta w 35 8 = I 35 8 := by
      rw [e35]
      exact ⟨f4.2.1.trans e78.1, f4.2.2.trans e78.2⟩
    have fin : isSg (tk j4) 59 = true → COK ta N tk I j0 c0 ws s0 (avI (clsI I4 ta w) (j4 + 1)) := fun z => by
      have g := avI_fs (I := clsI I4 ta w) (i := j4 + 1) ht
      refine ⟨j4 + 1, c4, w, f5.tr g.1.fc, ⟨g.2.1.trans c78.1, g.2.2.trans c78.2⟩, ⟨avI_at ht at5.2.2.2, ?_, fun x hx => ?_⟩, nx z, by omega, by omega, r1.tr (Rch.step (hA z) (Rch.rf _)), fun E A hg => ?_⟩
      · rw [g.1.2.2 5 (by decide), cta, List.length_append]
        rfl
      · rw [g.1.1 (ta + 2) (by omega) (by omega) (by omega), g.1.1 (ta + 3) (by omega) (by omega) (by omega)]
        exact law x hx
      · have s2 : ∀ x, avI (clsI I4 ta w) (j4 + 1) (ta + 2) x = I3 (ta + 2) x := fun x => by
          rw [g.1.1 (ta + 2) (by omega) (by omega) (by omega)]
          exact r2 x
        have s3 : ∀ x, avI (clsI I4 ta w) (j4 + 1) (ta + 3) x = if x = w then nI c4 else I3 (ta + 3) x := fun x => by
          rw [g.1.1 (ta + 3) (by omega) (by omega) (by omega)]
          exact r3 x
        have s4 : avI (clsI I4 ta w) (j4 + 1) (ta + 4) = I3 (ta + 4) := by
          rw [avI_r4 ht]
          unfold clsI
          rw [uI_ne (by omega), f4.1.1 (ta + 4) (by omega) (by omega) (by omega)]
        have s1' : avI (clsI I4 ta w) (j4 + 1) (ta + 1) = I4 (ta + 1) := by
          rw [avI_row ht]
          unfold clsI
          rw [uI_ne (by omega)]
        refine ⟨E ++ (e ++ [(408, 0)]), A ++ [(E.length, [])], hg.snoc (fun x hx => by rw [s4]; exact ac.2 x hx) (fun x hx => by rw [s1', ce.1 x hx, row1]) (by rw [ce.2.1]; omega) (fun x hx hx4 => ?_) ⟨by omega, by rw [s4]; exact ac.1, fun _ => ⟨c0, e, E, [], by rw [s2]; exact hst, by rw [s3, if_pos rfl, ce.2.1], by rw [ce.2.1]; exact Nat.le_refl _, by rw [s1']; exact ce.2.2, tye, by simp [List.append_assoc], rfl⟩, fun hw4 => by omega⟩, ?_⟩
        · have hne : x ≠ w := fun z => hnw (by rw [← z]; exact hx)
          rw [s2, s3, if_neg hne]
          exact r23 x (by omega) hne
        · have y := hX z E A
          rw [List.append_assoc] at y
          exact y
    have fail : isSg (tk j4) 59 = false → CNO ta tk I s0 (FI (clsI I4 ta w) 1 j4) := fun z => by
      have g := FI_fe (ta := ta) (I := clsI I4 ta w) (f := 1) (j := j4) ht
      have eta2 : FI (clsI I4 ta w) 1 j4 ta = I4 ta := by unfold FI; rw [uI_ne (by omega), uI_ne (by omega), eta]
      refine ⟨1, (tk j4).2.2.1, c4, ws.length + 1, f5.tr g.fc, ⟨rfl, (ev5.2 j4 hj4).2, by decide⟩, ⟨by omega, by rw [eta2]; exact at4.2.2.2⟩, ⟨by omega, ?_⟩, r1.ends (Ends.now (hB z))⟩
      rw [eta2, f4.1.2.2 5 (by decide)]
      exact e5
    have key : ∀ (Rq : XR), (isSg (tk j4) 59 = true → Rq (some (.int 1)) (shH ru_ ta rs) (avI (clsI I4 ta w) (j4 + 1)) J) → (isSg (tk j4) 59 = false → Rq (some (.int 0)) (shH ru_ ta rs) (FI (clsI I4 ta w) 1 j4) J) → xm l n 0 0 mX5_sign [.ref 35, .int 59] (shH ru_ ta rs) (clsI I4 ta w) J Rq := fun Rq h1 h2 => rd_sign l ru_ ta rs (clsI I4 ta w) J Rq n hn 59 j4 N hN hj4 at5.1 ev5.1 (fun z => nx (hsg.mp z)) (fun z => h1 (hsg.mp z)) (fun z => h2 (bF Iff.rfl (fun y => z (hsg.mpr y))))
    obtain rfl | rfl | rfl | rfl | rfl := id ht
    all_goals
      refine xrun_step fun Kk hKk => ?_
      refine rd_closeLaw l ru_ _ rs I4 J _ ht n (by omega) w hw ?_
      refine And.intro (fun h => absurd h (by decide)) (fun _ => ?_)
      refine key _ (fun z => ?_) (fun z => ?_)
      · exact And.intro (fun h => absurd h (by decide)) (fun _ => And.intro (Or.inr rfl) (hS _ (fin z)))
      · exact And.intro (fun _ => And.intro (Or.inl rfl) (hF _ (fail z))) (fun h => absurd rfl h)
  · intro I4 s1 h r1
    obtain ⟨f, p, c', h1, h2, h3, h4, h5, h6, h7⟩ := h
    have e35 : clsI I4 ta w 35 = I4 35 := by unfold clsI; rw [uI_ne (by omega)]
    have eta : clsI I4 ta w ta = I4 ta := by unfold clsI; rw [uI_ne (by omega)]
    have fin : CNO ta tk I s0 (clsI I4 ta w) := by
      refine ⟨f, p, c', ws.length + 1, (f3.tr h1.fc).tr ⟨fun p _ _ _ _ d _ => uI_ne d, by rw [e35]⟩, ⟨by rw [e35]; exact h2, by rw [e35]; exact h3, h7⟩, ⟨h4, by rw [eta]; exact h5⟩, ⟨by omega, ?_⟩, r1.ends h6⟩
      rw [eta, h1.2.2 5 (by decide)]
      exact e5
    obtain rfl | rfl | rfl | rfl | rfl := id ht
    all_goals
      refine xrun_step fun Kk hKk => ?_
      refine rd_closeLaw l ru_ _ rs I4 J _ ht n (by omega) w hw ?_
      exact And.intro (fun _ => And.intro (Or.inl rfl) (hF _ fin)) (fun h => absurd rfl h)
set_option maxRecDepth 100000 in
set_option maxHeartbeats 2000000 in
theorem rd_clause (ht : TSP ta) (hk : TKN tk N) {n : Nat} (hn : 31 ≤ n) (j c : Nat) (ws K : List Nat) (k : Nat) (I : XI) (J : XJ) (Rp : XR) (hev : EV I tk N) (h : CLs ta I j c ws) (hj : j < N) (hc : c ≤ j) (h0 : (tk j).1 ≠ 0) (hlen : ws.length ≤ 24) (hS : ∀ I', COK ta N tk I j c ws (4, K, k, ws, j) I' → Rp (some (.int 1)) (shH ru_ ta rs) I' J) (hF : ∀ I', CNO ta tk I (4, K, k, ws, j) I' → Rp (some (.int 0)) (shH ru_ ta rs) I' J) : xm l (n + 1) 0 0 mX5_clause [.ref 35, .int (nI ws.length)] (shH ru_ ta rs) I J Rp := by
  obtain ⟨hat, e5, hlaw⟩ := h
  have hN := hk.2.1
  have ht2 := ht
  unfold TSP at ht2
  have okj := hk.2.2.2.2 j
  have tkj := hat.tk hev hj
  have hlt := hk.nx hj h0
  have fail : ∀ f, 1 ≤ f → mstep tk (4, K, k, ws, j) = .inr (ft tk f j) → CNO ta tk I (4, K, k, ws, j) (FI I f j) := fun f hf hm => by
    have g := FI_fe (ta := ta) (I := I) (f := f) (j := j) ht
    have eta : FI I f j ta = I ta := by unfold FI; rw [uI_ne (by omega), uI_ne (by omega)]
    exact ⟨f, (tk j).2.2.1, c, ws.length, g.fc, ⟨rfl, (hev.2 j hj).2, hf⟩, ⟨by omega, by rw [eta]; exact hat.2.2.2⟩, ⟨hlen, by rw [eta]; exact e5⟩, Ends.now hm⟩
  have odd : ¬ ((tk j).1 = 1 ∧ (tk j).2.1 ≤ 13) → ∀ Rq : XR, (((0 : Int32) = 0 ∨ (0 : Int32) = 1) ∧ Rp (some (.int 0)) (shH ru_ ta rs) (FI I 1 j) J → Rq (some (.int 0)) (shH ru_ ta rs) (FI I 1 j) J) → xm l n 0 0 mX5_fail [.ref 35, .int 1] (shH ru_ ta rs) I J Rq := fun hz Rq hq => rd_fail l ru_ ta rs I J Rq n (by omega) 1 j (by omega) hat.1 (hq ⟨Or.inl rfl, hF _ (fail 1 (by decide) (s4_odd h0 hz))⟩)
  refine xm_ofK 3 (X := xxX5) (t := tX5_clause) (stop := [137]) (ini := false) xx5 pl5 rfl kX5_clause (fun h => by cases h) (Nat.le_of_ble_eq_true rfl) (fun Kk hKk => ?_)
  rcases tkC_el tkj okj with ⟨e, z⟩ | ⟨e, z, y⟩ | ⟨e, z, _⟩ | ⟨e, z⟩ | ⟨e, z⟩
  · exact absurd e h0
  · refine And.intro (fun w => absurd z w) (fun _ => ?_)
    have hv := okj.2.1 e
    have hcw := cw_lt (k := (tk j).2.1)
    generalize hw : (tk j).2.1 = w at y hv hcw
    refine And.intro (fun q => absurd (show I 35 5 < 0 from q) (by rw [y]; exact nI_pos (by omega))) (fun _ => ?_)
    refine And.intro (fun q => ?_) (fun q => ?_)
    · have q : I 35 5 ≤ nI 13 := q
      rw [y, nI_leI (by omega) (by omega)] at q
      have h13 : w ≤ 13 := by
        rcases Nat.lt_or_ge 13 w with u | u
        · have := cw_id2 u hv
          omega
        · exact u
      rw [cw_id1 h13] at y
      have noT : ¬ (w < 5 ∧ I (ta + 2) w < I (ta + 3) w) → ¬ ((tk j).2.1 ≤ 4 ∧ (tk j).2.1 ∈ ws) := fun u v => by
        rw [hw] at v
        exact u ⟨by omega, (hlaw w (by omega)).mp v.2⟩
      have many : 24 ≤ ws.length → ¬ ((tk j).2.1 ≤ 4 ∧ (tk j).2.1 ∈ ws) → ((0 : Int32) = 0 ∨ (0 : Int32) = 1) ∧ Rp (some (.int 0)) (shH ru_ ta rs) (FI I 6 j) J := fun u v => ⟨Or.inl rfl, hF _ (fail 6 (by decide) (s4_many e (by omega) v u))⟩
      have twice : w < 5 → I (ta + 2) w < I (ta + 3) w → ((0 : Int32) = 0 ∨ (0 : Int32) = 1) ∧ Rp (some (.int 0)) (shH ru_ ta rs) (FI I 4 j) J := fun u v => ⟨Or.inl rfl, hF _ (fail 4 (by decide) (s4_twice e (by omega) (by rw [hw]; exact (hlaw w u).mpr v)))⟩
      -- what addClause leaves
      have add : ∀ I1 : XI, (∀ p, p ≠ ta → p ≠ ta + 4 → I1 p = I p) → (∀ k, k ≠ 5 → I1 ta k = I ta k) → I1 ta 5 = I ta 5 + 1 → AC4 ta I I1 ws.length (nI w) → FC ta I (avI I1 (j + 1)) ∧ (avI I1 (j + 1) 35 7 = I 35 7 ∧ avI I1 (j + 1) 35 8 = I 35 8) ∧ ATt ta (avI I1 (j + 1)) (j + 1) c ∧ avI I1 (j + 1) ta 5 = nI (ws.length + 1) ∧ (∀ x, avI I1 (j + 1) (ta + 2) x = I (ta + 2) x ∧ avI I1 (j + 1) (ta + 3) x = I (ta + 3) x) ∧ (I1 35 3 + 1 = nI (j + 1) ∧ I1 30 5 = nI N) := fun I1 h1 h2 h3 ac => by
        have g := avI_fs (ta := ta) (I := I1) (i := j + 1) ht
        have e35 : I1 35 = I 35 := h1 35 (by omega) (by omega)
        refine ⟨FC.tr ⟨fun p _ b _ _ _ d => h1 p b d, by rw [e35]⟩ g.1.fc, ⟨by rw [g.2.1, e35], by rw [g.2.2, e35]⟩, avI_at ht (by rw [h2 1 (by decide)]; exact hat.2.2.2), ?_, fun x => ⟨?_, ?_⟩, ?_, ?_⟩
        · rw [g.1.2.2 5 (by decide), h3, e5, nI_1]
        · rw [g.1.1 (ta + 2) (by omega) (by omega) (by omega), h1 (ta + 2) (by omega) (by omega)]
        · rw [g.1.1 (ta + 3) (by omega) (by omega) (by omega), h1 (ta + 3) (by omega) (by omega)]
        · rw [e35, hat.1, nI_1]
        · rw [h1 30 (by omega) (by omega)]
          exact hev.1
      -- a deed
      have deed : ∀ I1 : XI, (∀ p, p ≠ ta → p ≠ ta + 4 → I1 p = I p) → (∀ k, k ≠ 5 → I1 ta k = I ta k) → I1 ta 5 = I ta 5 + 1 → AC4 ta I I1 ws.length (nI w) → 5 ≤ w → ws.length < 24 → ∀ (Rq Rs : XR), (∀ I', CNO ta tk I (4, K, k, ws, j) I' → Rq (some (.int 0)) (shH ru_ ta rs) I' J) → (∀ (I2 : XI), xm l n 0 0 mX5_sign [.ref 35, .int 59] (shH ru_ ta rs) I2 J Rs → Rq (some (.int 1)) (shH ru_ ta rs) I2 J) → (∀ I', COK ta N tk I j c ws (4, K, k, ws, j) I' → Rs (some (.int 1)) (shH ru_ ta rs) I' J) → (∀ I', CNO ta tk I (4, K, k, ws, j) I' → Rs (some (.int 0)) (shH ru_ ta rs) I' J) → xm l n 0 0 mX5_deed [.ref 35, .int (nI w)] (shH ru_ ta rs) (avI I1 (j + 1)) J Rq := fun I1 h1 h2 h3 ac hw5 hl Rq Rs b1 b2 b3 b4 => by
        obtain ⟨g1, g2, g3, g4, g5, g6⟩ := add I1 h1 h2 h3 ac
        have ev2 := g1.ev ht hev
        have sd : mstep tk (4, K, k, ws, j) = _ := s4_deed e (by omega) (by omega) hl
        rw [hw] at sd
        obtain ⟨n, rfl⟩ : ∃ n', n = n' + 1 := ⟨n - 1, by omega⟩
        refine rd_deed ht hk (by omega) w (j + 1) c ⟨hw5, h13⟩ (avI I1 (j + 1)) J Rq ev2 g3 hlt ws.length hl g4 (fun I2 j2 q1 q2 q3 q4 q5 q6 q7 => ?_) (fun I2 f p q1 q2 q3 q4 q5 => ?_)
        · rw [q6] at sd
          have f2 := g1.tr q1.fc
          have ev3 := f2.ev ht hev
          have tk2 := q3.tk ev3 q4
          have hsg := tkC_sg tk2 (hk.2.2.2.2 j2) (w := 59) (by decide)
          have nx : isSg (tk j2) 59 = true → j2 + 1 < N := fun z => hk.nx q4 (by rw [(sg_1 z).1]; decide)
          have e2ta : I2 ta = avI I1 (j + 1) ta := q1.1 ta (by omega) (by omega)
          refine b2 I2 (rd_sign l ru_ ta rs I2 J _ (n + 1) (by omega) 59 j2 N hN q4 q3.1 ev3.1 (fun z => nx (hsg.mp z)) (fun z => b3 _ ?_) (fun z => b4 _ ?_))
          · have z := hsg.mp z
            dsimp only at sd
            rw [z] at sd
            have g := avI_fs (ta := ta) (I := I2) (i := j2 + 1) ht
            refine ⟨j2 + 1, c, w, f2.tr g.1.fc, ⟨g.2.1.trans (q2.1.trans g2.1), g.2.2.trans (q2.2.trans g2.2)⟩, ⟨avI_at ht q3.2.2.2, ?_, fun x hx => ?_⟩, nx z, by omega, by omega, Rch.step sd (Rch.rf _), fun E A hg => ?_⟩
            · rw [g.1.2.2 5 (by decide), e2ta, g4, List.length_append]
              rfl
            · rw [g.1.1 (ta + 2) (by omega) (by omega) (by omega), g.1.1 (ta + 3) (by omega) (by omega) (by omega), q1.1 (ta + 2) (by omega) (by omega), q1.1 (ta + 3) (by omega) (by omega), (g5 x).1, (g5 x).2, ← hlaw x hx]
              constructor
              · intro u
                rcases List.mem_append.mp u with u | u
                · exact u
                · have := List.mem_singleton.mp u
                  omega
              · exact fun u => List.mem_append_left _ u
            · have r4 : ∀ x, avI I1 (j + 1) (ta + 4) x = I1 (ta + 4) x := fun x => by rw [avI_r4 ht]
              have t4 : avI I2 (j2 + 1) (ta + 4) = I2 (ta + 4) := avI_r4 ht
              have t1 : avI I2 (j2 + 1) (ta + 1) = I (ta + 1) := by
                rw [avI_row ht, q1.1 (ta + 1) (by omega) (by omega), avI_row ht, h1 (ta + 1) (by omega) (by omega)]
              refine ⟨E ++ [(408, 0)], A ++ [(E.length, deN tk (fmS w) (j + 1))], hg.snoc (fun x hx => ?_) (fun x _ => by rw [t1]) (Nat.le_refl _) (fun x hx hx4 => ?_) ⟨h13, ?_, fun h4 => by omega, fun _ => ⟨deN_len (by omega) h13, fun x hx => ?_⟩⟩, ?_⟩
              · rw [t4, q7.1 x (by omega), r4]
                exact ac.2 x hx
              · rw [g.1.1 (ta + 2) (by omega) (by omega) (by omega), g.1.1 (ta + 3) (by omega) (by omega) (by omega), q1.1 (ta + 2) (by omega) (by omega), q1.1 (ta + 3) (by omega) (by omega), (g5 x).1, (g5 x).2]
                exact ⟨rfl, rfl⟩
              · rw [t4, q7.1 (4 * ws.length) (by omega), r4]
                exact ac.1
              · rw [t4]
                exact q7.2 x hx
              · refine Rx.one sd ?_
                show y4x tk j ([], E, A) = _
                unfold y4x
                rw [hw, blef (show 4 < w by omega)]
          · have z : isSg (tk j2) 59 = false := bF Iff.rfl (fun u => z (hsg.mpr u))
            dsimp only at sd
            rw [z] at sd
            have g := FI_fe (ta := ta) (I := I2) (f := 1) (j := j2) ht
            have eta : FI I2 1 j2 ta = avI I1 (j + 1) ta := by unfold FI; rw [uI_ne (by omega), uI_ne (by omega), e2ta]
            exact ⟨1, (tk j2).2.2.1, c, ws.length + 1, f2.tr g.fc, ⟨rfl, (ev3.2 j2 q4).2, by decide⟩, ⟨by omega, by rw [eta]; exact g3.2.2.2⟩, ⟨by omega, by rw [eta]; exact g4⟩, Ends.now sd⟩
        · rw [q5] at sd
          have e2ta : I2 ta = avI I1 (j + 1) ta := q1.1 ta (by omega) (by omega)
          exact b1 I2 ⟨f, p, c, ws.length + 1, g1.tr q1.fc, ⟨q2, q3, q4⟩, ⟨by omega, by rw [e2ta]; exact g3.2.2.2⟩, ⟨by omega, by rw [e2ta]; exact g4⟩, Ends.now sd⟩
      -- a law
      have law : ∀ I1 : XI, (∀ p, p ≠ ta → p ≠ ta + 4 → I1 p = I p) → (∀ k, k ≠ 5 → I1 ta k = I ta k) → I1 ta 5 = I ta 5 + 1 → AC4 ta I I1 ws.length (nI w) → w < 5 → ws.length < 24 → w ∉ ws → FC ta I (opI (uI (avI I1 (j + 1)) 35 2 (nI (naL w))) ta w) ∧ (opI (uI (avI I1 (j + 1)) 35 2 (nI (naL w))) ta w 35 7 = I 35 7 ∧ opI (uI (avI I1 (j + 1)) 35 2 (nI (naL w))) ta w 35 8 = I 35 8) ∧ ATt ta (opI (uI (avI I1 (j + 1)) 35 2 (nI (naL w))) ta w) (j + 1) c ∧ opI (uI (avI I1 (j + 1)) 35 2 (nI (naL w))) ta w ta 5 = nI (ws.length + 1) ∧ (∀ x, x < 5 → x ≠ w → (x ∈ ws ↔ opI (uI (avI I1 (j + 1)) 35 2 (nI (naL w))) ta w (ta + 2) x < opI (uI (avI I1 (j + 1)) 35 2 (nI (naL w))) ta w (ta + 3) x)) ∧ opI (uI (avI I1 (j + 1)) 35 2 (nI (naL w))) ta w (ta + 2) w = nI c ∧ opI (uI (avI I1 (j + 1)) 35 2 (nI (naL w))) ta w 35 2 = nI (naL w) := fun I1 h1 h2 h3 ac hw5 hl hnw => by
        obtain ⟨g1, g2, g3, g4, g5, g6⟩ := add I1 h1 h2 h3 ac
        have a1 : ∀ p, p ≠ 35 → p ≠ ta + 2 → opI (uI (avI I1 (j + 1)) 35 2 (nI (naL w))) ta w p = avI I1 (j + 1) p := fun p a b => by
          unfold opI
          rw [uI_ne b, uI_ne a]
        have a35 : ∀ q, opI (uI (avI I1 (j + 1)) 35 2 (nI (naL w))) ta w 35 q = if q = 2 then nI (naL w) else avI I1 (j + 1) 35 q := fun q => by
          unfold opI
          rw [uI_ne (by omega), uI_atC]
        have a2 : ∀ x, opI (uI (avI I1 (j + 1)) 35 2 (nI (naL w))) ta w (ta + 2) x = if x = w then nI c else I (ta + 2) x := fun x => by
          unfold opI
          rw [uI_atC, uI_ne (show ta ≠ 35 by omega), g3.2.2.2, uI_ne (show ta + 2 ≠ 35 by omega), (g5 x).1]
        refine ⟨g1.tr ⟨fun p a _ _ d _ _ => a1 p a d, by rw [a35, if_neg (by decide)]⟩, ⟨by rw [a35, if_neg (by decide)]; exact g2.1, by rw [a35, if_neg (by decide)]; exact g2.2⟩, ?_, ?_, fun x hx hxw => ?_, ?_, ?_⟩
        · unfold ATt
          rw [a35, a35, a35, if_neg (by decide), if_neg (by decide), if_neg (by decide), a1 32 (by decide) (by omega), a1 33 (by decide) (by omega), a1 ta (by omega) (by omega)]
          exact g3
        · rw [a1 ta (by omega) (by omega)]
          exact g4
        · rw [a2, if_neg hxw, a1 (ta + 3) (by omega) (by omega), (g5 x).2]
          exact hlaw x hx
        · rw [a2, if_pos rfl]
        · rw [a35, if_pos rfl]
      have lawR : ∀ I1 : XI, (∀ p, p ≠ ta → p ≠ ta + 4 → I1 p = I p) → (∀ k, k ≠ 5 → I1 ta k = I ta k) → I1 ta 5 = I ta 5 + 1 → AC4 ta I I1 ws.length (nI w) → w < 5 → ws.length < 24 → w ∉ ws → ∀ (Rq : XR), (∀ I4, clr l ru_ ta rs J Rp n 3 137 [some (.ref 35), some (.int (nI ws.length)), some (.int (nI w)), some (.int 1)] I4 → Rq (some (.int 1)) (shH ru_ ta rs) I4 J) → (∀ I4, clr l ru_ ta rs J Rp n 3 137 [some (.ref 35), some (.int (nI ws.length)), some (.int (nI w)), some (.int 0)] I4 → Rq (some (.int 0)) (shH ru_ ta rs) I4 J) → (w ≠ 4 → xm l n 0 0 mX5_sum [.ref 35, .int (nI 0)] (shH ru_ ta rs) (opI (uI (avI I1 (j + 1)) 35 2 (nI (naL w))) ta w) J Rq) ∧ (w = 4 → xm l n 0 0 mX5_either [.ref 35] (shH ru_ ta rs) (opI (uI (avI I1 (j + 1)) 35 2 (nI (naL w))) ta w) J Rq) := fun I1 h1 h2 h3 ac hw5 hl hnw Rq b1 b2 => by
        obtain ⟨g1, g2, g3, g4, g5, g6, g7⟩ := law I1 h1 h2 h3 ac hw5 hl hnw
        have ev3 := g1.ev ht hev
        obtain ⟨x1, x2⟩ := rd_law_137 (l := l) (ru_ := ru_) (rs := rs) ht hk (n := n) (by omega) J Rp ws w j c hw5 hl (4, K, k, ws, j) I _ g1 g2 ev3 g4 g5 g6 hc hnw (opI_ac ht (by rw [avI_r4 ht]; exact ac.1) (fun x hx => by rw [avI_r4 ht]; exact ac.2 x hx)) ((opI_ne ht).trans ((avI_row ht).trans (h1 (ta + 1) (by have := ht.ne; omega) (by omega)))) (fun x hx hxw => opI_23 ht hxw (by rw [avI_23 ht, h1 (ta + 2) (by omega) (by omega)]) (by rw [(avI_23' ht), h1 (ta + 3) (by omega) (by omega)])) hS hF 2 (nI ws.length)
        constructor
        · intro hw4
          have s1 : mstep tk (4, K, k, ws, j) = .inl (1, [1], w, ws ++ [w], j + 1) := by
            have := s4_law (K := K) (k := k) e (by omega) (by rw [hw]; exact hnw) hl
            rw [hw] at this
            exact this
          refine rd_sums (k := w) (ws := ws ++ [w]) ht hk hw5 8 n (by omega) 0 (j + 1) c [1] _ J Rq (by omega) rfl rfl ev3 g3 hlt (by omega) g7 (fun u => absurd u (by decide)) (fun I4 ok => b1 I4 ?_) (fun I4 no => b2 I4 ?_)
          · obtain ⟨j4, c4, k1, k2, k3, k4, k5, ⟨k6, e', ce, rr, ty⟩, k7⟩ := ok
            have ql : Ql tk w false (1, [1], w, ws ++ [w], j + 1) (2, [1], w, ws ++ [w], j4) e' := Ql.sum (K := [1]) rfl (by omega) rr ty
            refine x1 I4 j4 c4 (2, [1], w, ws ++ [w], j4) k1 k2 k3 k4 (by omega) (by omega) (Rch.step s1 k6) (fun u => s2_end k7 u) (fun u => s2_endE k7 u) e' ce (by rw [beqf hw4]; exact ql.2) (fun u E A => ?_)
            refine (Rx.one s1 ?_).tr (ql.end2 k7 u E (A ++ [(E.length, [])]))
            show y4x tk j ([], E, A) = _
            unfold y4x
            rw [hw, Nat.ble_eq.mpr (show w ≤ 4 by omega)]
          · exact x2 I4 _ no (Rch.step s1 (Rch.rf _))
        · intro hw4
          subst hw4
          have s1 : mstep tk (4, K, k, ws, j) = .inl (0, [2], 4, ws ++ [4], j + 1) := s4_may e hw hnw hl
          obtain ⟨n, rfl⟩ : ∃ n', n = n' + 2 := ⟨n - 2, by omega⟩
          have hC : ∀ m, C3 l ru_ ta rs tk N 4 (ws ++ [4]) m n := fun m => by
            by_cases hm : m ≤ 8
            · exact rd_sums ht hk (by omega) m n (by omega)
            · intro δ _ _ _ _ _ _ hd
              omega
          refine rd_either ht hk (by omega) hC (j + 1) c _ J Rq ev3 g3 hlt (by omega) g7 (fun I4 ok => b1 I4 ?_) (fun I4 no => b2 I4 ?_)
          · obtain ⟨j4, c4, k1, k2, k3, k4, k5, ⟨k6, e', ce, ql⟩, k7⟩ := ok
            refine x1 I4 j4 c4 (3, [2], 4, ws ++ [4], j4) k1 k2 k3 k4 (by omega) (by omega) (Rch.step s1 k6) (fun u => s3_end k7 u) (fun u => s3_endE k7 u) e' ce ql.2 (fun u E A => ?_)
            refine (Rx.one s1 ?_).tr (ql.end3 k7 u E (A ++ [(E.length, [])]))
            show y4x tk j ([], E, A) = _
            unfold y4x
            rw [hw]
          · exact x2 I4 _ no (Rch.step s1 (Rch.rf _))
      have evI1 : ∀ I1 : XI, (∀ p, p ≠ ta → p ≠ ta + 4 → I1 p = I p) → (∀ k, k ≠ 5 → I1 ta k = I ta k) → I1 ta 5 = I ta 5 + 1 → AC4 ta I I1 ws.length (nI w) → I1 35 3 + 1 = nI (j + 1) ∧ I1 30 5 = nI N := fun I1 h1 h2 h3 ac => (add I1 h1 h2 h3 ac).2.2.2.2.2
      have p5 : w < 5 → vp_in (nI w) 5 := fun u => vp_in_nI u (by omega)
      have nget : w < 5 → ([63, 62, 454, 199, 1567] : List Int32).getD (nI w).toNatClampNeg 0 = nI (naL w) := fun u => by
        rw [nI_clamp (by omega)]
        exact naL_get u
      obtain rfl | rfl | rfl | rfl | rfl := id ht
      all_goals
        refine (show xm l n 0 0 mX8_hasLaw [.ref _, .int (I 35 5)] (shH ru_ _ rs) I J _ from ?_)
        rw [y]
        refine rd_hasLaw l ru_ _ rs I J _ ht n (by omega) w (by omega) (fun u1 u2 => ?_) (fun u => ?_)
        · refine And.intro (fun h => absurd h (by decide)) (fun _ => ?_)
          exact rd_fail l ru_ _ rs I J _ n (by omega) 4 j (by omega) hat.1 (twice u1 u2)
        · refine And.intro (fun _ => ?_) (fun h => absurd rfl h)
          refine And.intro (fun hl => ?_) (fun hl => ?_)
          · have hl : ws.length < 24 := (nI_ltI (by omega) (by omega)).mp (show nI ws.length < nI 24 from hl)
            refine rd_addClause l ru_ _ rs I J _ ht n (by omega) _ ws.length hl e5 (fun I1 h1 h2 h3 ac => ?_)
            refine rd_advance l ru_ _ rs I1 J _ n (by omega) (j + 1) N hN hlt (evI1 I1 h1 h2 h3 ac).1 (evI1 I1 h1 h2 h3 ac).2 ?_
            refine And.intro (fun h5 => ?_) (fun h5 => ?_)
            · have h5 : w < 5 := (nI_ltI (by omega) (by omega)).mp (show nI w < nI 5 from (by first | exact h5 | (rw [← y]; exact h5)))
              have hnw : w ∉ ws := fun u2 => u ⟨h5, (hlaw w h5).mp u2⟩
              refine And.intro (p5 h5) ?_
              refine (show xm l n 0 0 mX8_openLaw [.ref _, .int (nI w)] (shH ru_ _ rs) (uI (avI I1 (j + 1)) 35 2 (([63, 62, 454, 199, 1567] : List Int32).getD (nI w).toNatClampNeg 0)) J _ from ?_)
              rw [nget h5]
              refine rd_openLaw l ru_ _ rs _ J _ ht n (by omega) w h5 ?_
              refine And.intro (fun hne => ?_) (fun heq => ?_)
              · exact (lawR I1 h1 h2 h3 ac h5 hl hnw _ (fun I4 q => hKk 137 _ _ _ _ _ _ _ q) (fun I4 q => hKk 137 _ _ _ _ _ _ _ q)).1 (fun z => hne (by rw [z]; rfl))
              · exact (lawR I1 h1 h2 h3 ac h5 hl hnw _ (fun I4 q => hKk 137 _ _ _ _ _ _ _ q) (fun I4 q => hKk 137 _ _ _ _ _ _ _ q)).2 ((nI_eq (by omega) (by omega)).mp (show nI w = nI 4 from heq))
            · have h5 : ¬ nI w < nI 5 := by first | exact h5 | (rw [← y]; exact h5)
              rw [nI_ltI (by omega) (by omega)] at h5
              exact deed I1 h1 h2 h3 ac (by omega) hl _ _ (fun I' z => And.intro (fun _ => And.intro (Or.inl rfl) (hF I' z)) (fun h => absurd rfl h)) (fun I2 z => And.intro (fun h => absurd h (by decide)) (fun _ => z)) (fun I' z => And.intro (fun h => absurd h (by decide)) (fun _ => And.intro (Or.inr rfl) (hS I' z))) (fun I' z => And.intro (fun _ => And.intro (Or.inl rfl) (hF I' z)) (fun h => absurd rfl h))
          · have hl : ¬ nI ws.length < nI 24 := hl
            rw [nI_ltI (by omega) (by omega)] at hl
            exact rd_fail l ru_ _ rs I J _ n (by omega) 6 j (by omega) hat.1 (many (by omega) (noT u))
    · have q : ¬ I 35 5 ≤ nI 13 := q
      rw [y, nI_leI (by omega) (by omega)] at q
      exact odd (fun u => by
        have := cw_id1 u.2
        rw [hw] at this
        omega) _ (fun u => u)
  · exact And.intro (fun _ => odd (fun u => by omega) _ (fun u => u)) (fun w => absurd (z.symm.trans w) (by decide))
  · have gs := sgC_ge (okj.2.2.2.1 e)
    refine And.intro (fun _ => odd (fun u => by omega) _ (fun u => u)) (fun w => ?_)
    have w : I 35 4 = nI 3 := w
    rw [z] at w
    have := (nI_eq (by omega) (by omega)).mp w
    omega
  · refine And.intro (fun _ => odd (fun u => by omega) _ (fun u => u)) (fun w3 => ?_)
    rcases z with z | ⟨z, y⟩
    · exact absurd (z.symm.trans w3) (by decide)
    · refine And.intro (fun _ => odd (fun u => by omega) _ (fun u => u)) (fun w => ?_)
      exfalso
      have w : ¬ I 35 5 < 0 := w
      rw [y] at w
      exact w (by decide)
end CLAUSE
end
section
-- ===== the whole text; feed, end, fault, by =====
/-- what reading may change, and what it leaves -/
def RDF (ta : Nat) (I I' : XI) : Prop := (∀ p, p ≠ 35 → p ≠ 30 → p ≠ 32 → p ≠ 33 → p ≠ 34 → p ≠ ta → p ≠ ta + 1 → p ≠ ta + 2 → p ≠ ta + 3 → p ≠ ta + 4 → I' p = I p) ∧ (∀ k, k ≠ 5 → I' 30 k = I 30 k) ∧ (∃ N, N ≤ 301 ∧ I' 30 5 = nI N) ∧ (∃ c, c ≤ 300 ∧ I' ta 1 = nI c) ∧ (∃ q, q ≤ 24 ∧ I' ta 5 = nI q) ∧ I' 35 6 = 1
/-- what a text is that was read: its clauses as the machine tells them -/
def TXk (ta : Nat) (tk : Nat → TK) (I' : XI) : Prop := ∃ ws c E A K k j, GT ta I' ws c E A ∧ ws.length ≤ 24 ∧ c ≤ 300 ∧ I' ta 5 = nI ws.length ∧ (∀ w, w < 5 → (w ∈ ws ↔ I' (ta + 2) w < I' (ta + 3) w)) ∧ Ex tk ((4, [], 0, [], 0), [], [], []) (0, 0) ((4, K, k, ws, j), [], E, A)
def ROK (ta : Nat) (tk : Nat → TK) (I I' : XI) : Prop := RDF ta I I' ∧ I' 35 7 = 0 ∧ I' 35 8 = -1 ∧ Ends tk (4, [], 0, [], 0) (0, 0) ∧ TXk ta tk I'
def RNO (ta : Nat) (tk : Nat → TK) (I I' : XI) : Prop := RDF ta I I' ∧ ∃ f p, I' 35 7 = nI f ∧ I' 35 8 = nI p ∧ 1 ≤ f ∧ Ends tk (4, [], 0, [], 0) (f, p)
section RD
variable {l : Launch} {ru_ ta : Nat} {rs : List XO}
abbrev rdr (l : Launch) (ru_ ta : Nat) (rs : List XO) (J : XJ) (Rp : XR) (n S pc : Nat) (lc : List (Option Value)) (I : XI) : Prop := xrun xxX5 (some .boolean) false false (shH ru_ ta rs).length 0 0 none l n tX5_read [12, 47] Rp S pc lc [] (shH ru_ ta rs) I J 0 0
set_option maxRecDepth 100000 in
set_option maxHeartbeats 1000000 in
theorem rd_47 (ht : TSP ta) {tk : Nat → TK} {N : Nat} (hk : TKN tk N) {n : Nat} (hn : 32 ≤ n) (I0 I1 : XI) (J : XJ) (Rp : XR) (hev : EV I1 tk N) (hrd : ∀ I', FC ta I1 I' → (∃ c, c ≤ 300 ∧ I' ta 1 = nI c) → (∃ q, q ≤ 24 ∧ I' ta 5 = nI q) → RDF ta I0 I') (h78 : I1 35 7 = 0 ∧ I1 35 8 = -1) (hS : ∀ I', ROK ta tk I0 I' → Rp (some (.int 1)) (shH ru_ ta rs) I' J) (hF : ∀ I', RNO ta tk I0 I' → Rp (some (.int 0)) (shH ru_ ta rs) I' J) : ∀ (M j c S : Nat) (ws : List Nat) (I' : XI), N - j ≤ M → M + 2 < S → FC ta I1 I' → (I' 35 7 = 0 ∧ I' 35 8 = -1) → CLs ta I' j c ws → c ≤ j → j < N → ws.length ≤ 24 → (∃ K k E A, GT ta I' ws c E A ∧ Rx tk ((4, [], 0, [], 0), [], [], []) ((4, K, k, ws, j), [], E, A)) → rdr l ru_ ta rs J Rp n S 47 [some (.ref 35), some (.ref ta), some (.int 1), some (.int (nI ws.length))] I' := by
  intro M
  induction M with
  | zero =>
    intro j c S ws I' hM _ _ _ _ _ hj
    omega
  | succ M ih =>
    intro j c S ws I' hM hS' f e78 h hc hj hlen ⟨K, k, E, A, gt, rx⟩
    have r : Rch tk (4, [], 0, [], 0) (4, K, k, ws, j) := rx.rch
    obtain ⟨S, rfl⟩ : ∃ n', S = n' + 2 := ⟨S - 2, by omega⟩
    have hN := hk.2.1
    have ev' := f.ev ht hev
    have tkj := h.1.tk ev' hj
    have he := tkC_end tkj (hk.2.2.2.2 j)
    refine xrun_step fun Kk hKk => ?_
    refine And.intro (fun z => absurd (show nI 24 < nI ws.length from z) (nI_nlt (by omega) (by omega))) (fun _ => ?_)
    refine And.intro (fun z => absurd z (by decide)) (fun _ => ?_)
    refine And.intro (fun z => ?_) (fun z => ?_)
    · refine And.intro (Or.inr rfl) (hS I' ⟨hrd I' f ⟨c, by omega, h.1.2.2.2⟩ ⟨ws.length, hlen, h.2.1⟩, e78.1, e78.2, r.ends (Ends.now (s4_fine (he.mp z))), ws, c, E, A, K, k, j, gt, hlen, by omega, h.2.1, h.2.2, rx, s4_fine (he.mp z)⟩)
    · obtain ⟨n, rfl⟩ : ∃ n', n = n' + 1 := ⟨n - 1, by omega⟩
      refine rd_clause ht hk (by omega) j c ws K k I' J _ ev' h hj hc (fun y => z (he.mpr y)) hlen (fun I2 ok => ?_) (fun I2 no => ?_)
      · obtain ⟨j2, c2, v, g1, g2, g3, g4, g5, g6, g7, g8⟩ := ok
        obtain ⟨E2, A2, gt2, rx2⟩ := g8 E A gt
        refine hKk 47 [some (.ref 35), some (.ref ta), some (.int 1), some (.int (nI ws.length + 1))] [] (shH ru_ ta rs) I2 J 0 0 ?_
        rw [nI_1, show ws.length + 1 = (ws ++ [v]).length by simp]
        by_cases h24 : ws.length < 24
        · exact ih j2 c2 (S + 1) (ws ++ [v]) I2 (by omega) (by omega) (f.tr g1) ⟨g2.1.trans e78.1, g2.2.trans e78.2⟩ g3 g5 g4 (by simp; omega) ⟨_, _, E2, A2, gt2, rx.tr rx2⟩
        · -- the machine would have ended there
          exfalso
          have e24 : 24 ≤ ws.length := by omega
          have nz : (tk j).1 ≠ 0 := fun y => z (he.mpr y)
          have y : ∃ q, mstep tk (4, K, k, ws, j) = .inr q := by
            by_cases a : (tk j).1 = 1 ∧ (tk j).2.1 ≤ 13
            · by_cases b : (tk j).2.1 ≤ 4 ∧ (tk j).2.1 ∈ ws
              · exact ⟨_, s4_twice a.1 b.1 b.2⟩
              · exact ⟨_, s4_many a.1 a.2 b e24⟩
            · exact ⟨_, s4_odd nz a⟩
          obtain ⟨q, hq⟩ := y
          obtain ⟨m, hm⟩ := g7
          cases m with
          | zero =>
            have e := Sum.inl.inj hm
            have e2 := congrArg (fun s : MS => s.2.2.2.2) e
            have e2 : j = j2 := e2
            omega
          | succ m =>
            rw [mit_e hq] at hm
            cases hm
      · obtain ⟨f', p, c', q, g1, g2, g3, g4, g5⟩ := no
        have ro : RNO ta tk I0 I2 := ⟨hrd I2 (f.tr g1) ⟨c', g3.1, g3.2⟩ ⟨q, g4.1, g4.2⟩, f', p, g2.1, g2.2.1, g2.2.2, r.ends g5⟩
        refine hKk 47 [some (.ref 35), some (.ref ta), some (.int 0), some (.int (nI ws.length + 1))] [] (shH ru_ ta rs) I2 J 0 0 ?_
        refine xrun_step fun Kk hKk => ?_
        exact And.intro (fun _ => And.intro (Or.inl rfl) (hF I2 ro)) (fun _ => And.intro (fun _ => And.intro (Or.inl rfl) (hF I2 ro)) (fun z => absurd rfl z))
set_option maxRecDepth 100000 in
set_option maxHeartbeats 1000000 in
theorem rd_12 (ht : TSP ta) (d : Nat) (B : Nat → Int32) (T : Nat) (hT : T ≤ 300) (I : XI) (J : XJ) (Rp : XR) (eT : I 30 1 = nI T) (hB : ∀ i, i < T → BR (I 31 i) (B i)) (hS : ∀ I', ROK ta (tkS B T) I I' → Rp (some (.int 1)) (shH ru_ ta rs) I' J) (hF : ∀ I', RNO ta (tkS B T) I I' → Rp (some (.int 0)) (shH ru_ ta rs) I' J) : rdr l ru_ ta rs J Rp (d + 32) 400 12 [some (.ref 35), some (.ref ta), none, none] (clrI I ta) := by
  have ht2 := ht
  unfold TSP at ht2
  have c30 : clrI I ta 30 = I 30 := clrI_ne (by omega) (by omega) (by omega)
  have c31 : clrI I ta 31 = I 31 := clrI_ne (by omega) (by omega) (by omega)
  refine xrun_step fun Kk hKk => ?_
  refine And.intro (Or.inr rfl) ?_
  refine tc_split l ru_ ta rs (uI (uI (uI (clrI I ta) 35 6 1) 35 7 0) 35 8 (-1)) J _ B T (d + 25) hT (by rw [uI_ne (by decide), uI_ne (by decide), uI_ne (by decide), c30]; exact eT) (fun i hi => by rw [uI_ne (by decide), uI_ne (by decide), uI_ne (by decide), c31]; exact hB i hi) (fun I2 N n1 n2 ta2 ne e0 sf => ?_)
  have hk : TKN (tkS B T) N := ⟨n1, n2, e0, ne, fun j => tkS_ok hT j⟩
  have r2 : ∀ p, p ≠ 30 → p ≠ 32 → p ≠ 33 → p ≠ 34 → p ≠ 35 → I2 p = clrI I ta p := fun p a b c d e => by rw [sf.1 p a b c d, uI_ne e, uI_ne e, uI_ne e]
  have r35 : ∀ k, I2 35 k = if k = 8 then -1 else if k = 7 then 0 else if k = 6 then 1 else clrI I ta 35 k := fun k => by rw [sf.1 35 (by decide) (by decide) (by decide) (by decide), uI_atC, uI_atC, uI_atC]
  have ev2 : EV I2 (tkS B T) N := ⟨ta2.1, ta2.2⟩
  have cta := clrI_ta (I := I) (ta := ta)
  have ev3 : EV (uI I2 35 3 (-1)) (tkS B T) N := by
    unfold EV
    rw [uI_ne (by decide), uI_ne (by decide), uI_ne (by decide), uI_ne (by decide)]
    exact ev2
  refine rd_advance l ru_ ta rs (uI I2 35 3 (-1)) J _ (d + 32) (by omega) 0 N n2 (by omega) (by rw [uI_atC, if_pos rfl]; rfl) ev3.1 ?_
  have ga := avI_fs (ta := ta) (I := uI I2 35 3 (-1)) (i := 0) ht
  refine hKk 47 [some (.ref 35), some (.ref ta), some (.int 1), some (.int (nI 0))] [] (shH ru_ ta rs) (avI (uI I2 35 3 (-1)) 0) J 0 0 ?_
  have a35 : ∀ k, k ≠ 3 → k ≠ 4 → k ≠ 5 → avI (uI I2 35 3 (-1)) 0 35 k = I2 35 k := fun k a b c => by
    unfold avI
    rw [uI_atC, if_neg c, uI_atC, if_neg b, uI_atC, if_neg a, uI_atC, if_neg a]
  have ane : ∀ p, p ≠ 35 → avI (uI I2 35 3 (-1)) 0 p = I2 p := fun p a => by
    unfold avI
    rw [uI_ne a, uI_ne a, uI_ne a, uI_ne a]
  have z78 : avI (uI I2 35 3 (-1)) 0 35 7 = 0 ∧ avI (uI I2 35 3 (-1)) 0 35 8 = -1 := by
    rw [a35 7 (by decide) (by decide) (by decide), a35 8 (by decide) (by decide) (by decide), r35, r35]
    exact ⟨rfl, rfl⟩
  refine rd_47 ht hk (by omega) I (avI (uI I2 35 3 (-1)) 0) J Rp (ev3.fe ht ga.1) (fun I' f h1 h2 => ?_) z78 hS hF 301 0 0 399 [] (avI (uI I2 35 3 (-1)) 0) (by omega) (by omega) FC.rf z78 ⟨avI_at ht ?_, ?_, fun w hw => ?_⟩ (Nat.le_refl _) (by omega) (by simp) ⟨_, _, [], [], ⟨rfl, fun i hi => absurd hi (Nat.not_lt_zero i)⟩, Rx.rf _⟩
  · refine ⟨fun p a b c d e q q1 q2 q3 q4 => ?_, fun k hk5 => ?_, ⟨N, n2, ?_⟩, h1, h2, ?_⟩
    · rw [f.1 p a q q1 q2 q3 q4, ane p a, r2 p b c d e a, clrI_ne q q2 q3]
    · rw [f.1 30 (by decide) (by omega) (by omega) (by omega) (by omega) (by omega), ane 30 (by decide), sf.2 k hk5, uI_ne (by decide), uI_ne (by decide), uI_ne (by decide), c30]
    · rw [f.1 30 (by decide) (by omega) (by omega) (by omega) (by omega) (by omega), ane 30 (by decide)]
      exact ta2.1
    · rw [f.2, a35 6 (by decide) (by decide) (by decide), r35]
      rfl
  · rw [uI_ne (by omega), r2 ta (by omega) (by omega) (by omega) (by omega) (by omega), cta.1]
    rfl
  · rw [ane ta (by omega), r2 ta (by omega) (by omega) (by omega) (by omega) (by omega), cta.2]
    rfl
  · rw [ane (ta + 2) (by omega), ane (ta + 3) (by omega), r2 (ta + 2) (by omega) (by omega) (by omega) (by omega) (by omega), r2 (ta + 3) (by omega) (by omega) (by omega) (by omega) (by omega), (clrI_law (I := I) (ta := ta) hw).1, (clrI_law (I := I) (ta := ta) hw).2]
    exact ⟨(fun z => nomatch z), fun z => absurd z (by decide)⟩
set_option maxRecDepth 100000 in
set_option maxHeartbeats 1000000 in
theorem rd_read (ht : TSP ta) (ta0 d : Nat) (B : Nat → Int32) (T : Nat) (hT : T ≤ 300) (I : XI) (J : XJ) (Rp : XR) (eT : I 30 1 = nI T) (hB : ∀ i, i < T → BR (I 31 i) (B i)) (hS : ∀ I', ROK ta (tkS B T) I I' → Rp (some (.int 1)) (shH ru_ ta rs) I' J) (hF : ∀ I', RNO ta (tkS B T) I I' → Rp (some (.int 0)) (shH ru_ ta rs) I' J) : xm l (d + 33) 0 0 mX5_read [.ref 35, .ref ta] (shH ru_ ta0 rs) I J Rp := by
  have x := rd_12 (l := l) (ru_ := ru_) (rs := rs) ht d B T hT I J Rp eT hB hS hF
  obtain rfl | rfl | rfl | rfl | rfl := id ht
  all_goals
    refine xm_ofK 400 (X := xxX5) (t := tX5_read) (stop := [12, 47]) (ini := false) xx5 pl5 rfl kX5_read (fun h => by cases h) (Nat.le_of_ble_eq_true rfl) (fun Kk hKk => ?_)
    refine rd_clear l ru_ _ rs I J _ ht (d + 32) (by omega) ?_
    exact hKk 12 _ _ _ _ _ _ _ x
end RD
set_option maxRecDepth 100000 in
theorem c_textAt (l : Launch) (d t : Nat) (ht : t < 4) (ru_ ta : Nat) (rs : List XO) (I : XI) (J : XJ) (Rp : XR) (hR : Rp (some (.ref (47 + 5 * t))) (shH ru_ ta rs) I J) : xm l (d + 1) 0 0 mX11_textAt [.ref 0, .int (nI t)] (shH ru_ ta rs) I J Rp := by
  have y : t = 0 ∨ t = 1 ∨ t = 2 ∨ t = 3 := by omega
  rcases y with rfl | rfl | rfl | rfl
  all_goals
    refine xm_ofK 0 (X := xxX11) (t := tX11_textAt) (stop := []) (ini := false) xx11 pl11 rfl kX11_textAt (fun h => by cases h) (Nat.le_of_ble_eq_true rfl) (fun K hK => ?_)
    refine And.intro (fun h => absurd h (by decide)) (fun _ => And.intro (fun h => absurd h (by decide)) (fun _ => And.intro (vp_b (by decide)) ?_))
    exact hR
theorem TSP_t {t : Nat} (h : t < 4) : TSP (47 + 5 * t) := by
  unfold TSP
  omega
/-- behind text(): what told it -/
def TXC (ta : Nat) (I I' : XI) : Prop := ∃ I1, RDF ta I I1 ∧ ((I' = uI I1 30 1 0) ∨ I' = uI (uI I1 30 1 0) 0 12 (I 0 12 + 1))
set_option maxRecDepth 100000 in
set_option maxHeartbeats 1000000 in
theorem c_text (l : Launch) (d : Nat) (ru_ ta : Nat) (rs : List XO) (B : Nat → Int32) (T t : Nat) (hT : T ≤ 300) (ht : t ≤ 4) (I : XI) (J : XJ) (Rp : XR) (et : I 0 12 = nI t) (eT : I 30 1 = nI T) (hB : ∀ i, i < T → BR (I 31 i) (B i)) (h4 : t = 4 → Rp (some (.int (-1))) (shH ru_ ta rs) I J) (hS : t < 4 → ∀ I1, ROK (47 + 5 * t) (tkS B T) I I1 → Rp (some (.int (nI t))) (shH ru_ (47 + 5 * t) rs) (uI (uI I1 30 1 0) 0 12 (nI (t + 1))) J) (hF : t < 4 → ∀ I1, RNO (47 + 5 * t) (tkS B T) I I1 → Rp (some (.int (-1))) (shH ru_ (47 + 5 * t) rs) (uI I1 30 1 0) J) : xm l (d + 34) 0 0 mX11_text [.ref 0] (shH ru_ ta rs) I J Rp := by
  rcases Nat.lt_or_ge t 4 with c | c
  · have hS := hS c
    have hF := hF c
    refine xm_ofK 0 (X := xxX11) (t := tX11_text) (stop := []) (ini := false) xx11 pl11 rfl kX11_text (fun h => by cases h) (Nat.le_of_ble_eq_true rfl) (fun K hK => ?_)
    refine And.intro (fun _ => ?_) (fun h => absurd (show I 0 12 < nI 4 by rw [et]; exact nI_lt c (by omega)) h)
    refine (show xm l (d + 33) 0 0 mX11_textAt [.ref 0, .int (I 0 12)] (shH ru_ ta rs) I J _ from ?_)
    rw [et]
    refine c_textAt l (d + 32) t c ru_ ta rs I J _ ?_
    have sOK : ∀ I1, ROK (47 + 5 * t) (tkS B T) I I1 → I1 0 12 = nI t := fun I1 h => by rw [h.1.1 0 (by decide) (by decide) (by decide) (by decide) (by decide) (by omega) (by omega) (by omega) (by omega) (by omega)]; exact et
    have x : ∀ (Rq : XR), (∀ I', ROK (47 + 5 * t) (tkS B T) I I' → Rq (some (.int 1)) (shH ru_ (47 + 5 * t) rs) I' J) → (∀ I', RNO (47 + 5 * t) (tkS B T) I I' → Rq (some (.int 0)) (shH ru_ (47 + 5 * t) rs) I' J) → xm l (d + 33) 0 0 mX5_read [.ref 35, .ref (47 + 5 * t)] (shH ru_ ta rs) I J Rq := fun Rq h1 h2 => rd_read (TSP_t c) ta d B T hT I J Rq eT hB h1 h2
    refine x _ (fun I1 ok => ?_) (fun I1 no => ?_)
    · refine And.intro (fun _ => ?_) (fun h => absurd h (by decide))
      have e := sOK I1 ok
      show Rp (some (.int (I1 0 12 + 1 - nI 1))) (shH ru_ (47 + 5 * t) rs) (uI (uI I1 30 1 0) 0 12 (I1 0 12 + 1)) J
      rw [e, nI_1, show nI (t + 1) - nI 1 = nI t from nI_pred t]
      exact hS I1 ok
    · exact And.intro (fun h => absurd rfl h) (fun _ => hF I1 no)
  · have e4 : t = 4 := by omega
    refine xm_ofK 0 (X := xxX11) (t := tX11_text) (stop := []) (ini := false) xx11 pl11 rfl kX11_text (fun h => by cases h) (Nat.le_of_ble_eq_true rfl) (fun K hK => ?_)
    exact And.intro (fun h => absurd (show I 0 12 < nI 4 from h) (by rw [et, e4]; decide)) (fun _ => h4 e4)
end
section
-- ===== the reference's next token, exactly =====
def tkR (s v : Int32) (q : TK) : Prop := match q.1 with
  | 0 => s = 0
  | 1 => s = 1 ∧ v = nI q.2.1
  | 2 => s = 2 ∧ ((q.2.1 < 10000 ∧ v = nI q.2.1) ∨ (q.2.1 = 10000 ∧ nI 10000 ≤ v))
  | 3 => s = 3 ∧ v = nI q.2.1
  | _ => s = 4 ∨ (s = 3 ∧ v = 44)
/-- the token that is come to -/
def RTK (I : XI) (q : TK) : Prop := I 67 15 = nI q.2.2.2 ∧ I 67 16 = nI q.2.2.1 ∧ tkR (I 67 17) (I 67 18) q
theorem en64_snoc : ∀ (l : List Int32) (x : Int32) (L : Int64), en64 (l ++ [x]) L = 64 * en64 l L + x.toInt64 - 64
  | [], _, _ => rfl
  | y :: l, x, L => by
    rw [List.cons_append, en64, en64]
    exact en64_snoc l x _
theorem ltN_snoc (B : Nat → Int32) : ∀ (n i : Nat), ltN B (n + 1) i = ltN B n i ++ [B (i + n)]
  | 0, i => rfl
  | n + 1, i => by
    rw [ltN, ltN_snoc B n (i + 1), ltN, List.cons_append, show i + 1 + n = i + (n + 1) by omega]
theorem wy {Rp : XR} {sh : List XO} {I : XI} {J : XJ} {L c : Int64} {r : List Int64} {k : Nat} (hR : Rp (some (.int (wIx L (c :: r) k))) sh I J) (h : L = c) : Rp (some (.int (nI k))) sh I J := by
  rw [wIx_y h] at hR
  exact hR
theorem wn {Rp : XR} {sh : List XO} {I : XI} {J : XJ} {L c : Int64} {r : List Int64} {k : Nat} (hR : Rp (some (.int (wIx L (c :: r) k))) sh I J) (h : ¬ L = c) : Rp (some (.int (wIx L r (k + 1)))) sh I J := by
  rw [wIx_n h] at hR
  exact hR
set_option maxRecDepth 100000 in
set_option maxHeartbeats 1000000 in
theorem ux_wordOf (l : Launch) (d : Nat) (L : Int64) (sh : List XO) (I : XI) (J : XJ) (Rp : XR) (hR : Rp (some (.int (wIx L [11729831, 667614707, 55578630963, 865520435, 186489, 883071911, 54316697970, 9051310, 146804, 11672820, 220389, 11992485, 13523756, 10681714, 11443108, 3046, 2233, 3375, 10169325, 3058, 138148, 191476, 12721332, 149625, 43581340212, 667614702, 598932836, 9575595, 47877618984, 10640549, 803137906, 55440722935] 0))) sh I J) : xm l (d + 1) 0 0 mX12_wordOf [.long L] sh I J Rp := by
  refine xm_ofK 0 (X := xxX12) (t := tX12_wordOf) (stop := []) (ini := false) xx12 pl12 rfl kX12_wordOf (fun h => by cases h) (Nat.le_of_ble_eq_true rfl) (fun K hK => ?_)
  refine And.intro (fun h => ?_) (fun h => ?_)
  case refine_2 => exact wy hR ((lg_cmp_eq L 11729831).mp h)
  replace hR := wn hR (fun z => h ((lg_cmp_eq L 11729831).mpr z))
  refine And.intro (fun h => ?_) (fun h => ?_)
  case refine_2 => exact wy hR ((lg_cmp_eq L 667614707).mp h)
  replace hR := wn hR (fun z => h ((lg_cmp_eq L 667614707).mpr z))
  refine And.intro (fun h => ?_) (fun h => ?_)
  case refine_2 => exact wy hR ((lg_cmp_eq L 55578630963).mp h)
  replace hR := wn hR (fun z => h ((lg_cmp_eq L 55578630963).mpr z))
  refine And.intro (fun h => ?_) (fun h => ?_)
  case refine_2 => exact wy hR ((lg_cmp_eq L 865520435).mp h)
  replace hR := wn hR (fun z => h ((lg_cmp_eq L 865520435).mpr z))
  refine And.intro (fun h => ?_) (fun h => ?_)
  case refine_2 => exact wy hR ((lg_cmp_eq L 186489).mp h)
  replace hR := wn hR (fun z => h ((lg_cmp_eq L 186489).mpr z))
  refine And.intro (fun h => ?_) (fun h => ?_)
  case refine_2 => exact wy hR ((lg_cmp_eq L 883071911).mp h)
  replace hR := wn hR (fun z => h ((lg_cmp_eq L 883071911).mpr z))
  refine And.intro (fun h => ?_) (fun h => ?_)
  case refine_2 => exact wy hR ((lg_cmp_eq L 54316697970).mp h)
  replace hR := wn hR (fun z => h ((lg_cmp_eq L 54316697970).mpr z))
  refine And.intro (fun h => ?_) (fun h => ?_)
  case refine_2 => exact wy hR ((lg_cmp_eq L 9051310).mp h)
  replace hR := wn hR (fun z => h ((lg_cmp_eq L 9051310).mpr z))
  refine And.intro (fun h => ?_) (fun h => ?_)
  case refine_2 => exact wy hR ((lg_cmp_eq L 146804).mp h)
  replace hR := wn hR (fun z => h ((lg_cmp_eq L 146804).mpr z))
  refine And.intro (fun h => ?_) (fun h => ?_)
  case refine_2 => exact wy hR ((lg_cmp_eq L 11672820).mp h)
  replace hR := wn hR (fun z => h ((lg_cmp_eq L 11672820).mpr z))
  refine And.intro (fun h => ?_) (fun h => ?_)
  case refine_2 => exact wy hR ((lg_cmp_eq L 220389).mp h)
  replace hR := wn hR (fun z => h ((lg_cmp_eq L 220389).mpr z))
  refine And.intro (fun h => ?_) (fun h => ?_)
  case refine_2 => exact wy hR ((lg_cmp_eq L 11992485).mp h)
  replace hR := wn hR (fun z => h ((lg_cmp_eq L 11992485).mpr z))
  refine And.intro (fun h => ?_) (fun h => ?_)
  case refine_2 => exact wy hR ((lg_cmp_eq L 13523756).mp h)
  replace hR := wn hR (fun z => h ((lg_cmp_eq L 13523756).mpr z))
  refine And.intro (fun h => ?_) (fun h => ?_)
  case refine_2 => exact wy hR ((lg_cmp_eq L 10681714).mp h)
  replace hR := wn hR (fun z => h ((lg_cmp_eq L 10681714).mpr z))
  refine And.intro (fun h => ?_) (fun h => ?_)
  case refine_2 => exact wy hR ((lg_cmp_eq L 11443108).mp h)
  replace hR := wn hR (fun z => h ((lg_cmp_eq L 11443108).mpr z))
  refine And.intro (fun h => ?_) (fun h => ?_)
  case refine_2 => exact wy hR ((lg_cmp_eq L 3046).mp h)
  replace hR := wn hR (fun z => h ((lg_cmp_eq L 3046).mpr z))
  refine And.intro (fun h => ?_) (fun h => ?_)
  case refine_2 => exact wy hR ((lg_cmp_eq L 2233).mp h)
  replace hR := wn hR (fun z => h ((lg_cmp_eq L 2233).mpr z))
  refine And.intro (fun h => ?_) (fun h => ?_)
  case refine_2 => exact wy hR ((lg_cmp_eq L 3375).mp h)
  replace hR := wn hR (fun z => h ((lg_cmp_eq L 3375).mpr z))
  refine And.intro (fun h => ?_) (fun h => ?_)
  case refine_2 => exact wy hR ((lg_cmp_eq L 10169325).mp h)
  replace hR := wn hR (fun z => h ((lg_cmp_eq L 10169325).mpr z))
  refine And.intro (fun h => ?_) (fun h => ?_)
  case refine_2 => exact wy hR ((lg_cmp_eq L 3058).mp h)
  replace hR := wn hR (fun z => h ((lg_cmp_eq L 3058).mpr z))
  refine And.intro (fun h => ?_) (fun h => ?_)
  case refine_2 => exact wy hR ((lg_cmp_eq L 138148).mp h)
  replace hR := wn hR (fun z => h ((lg_cmp_eq L 138148).mpr z))
  refine And.intro (fun h => ?_) (fun h => ?_)
  case refine_2 => exact wy hR ((lg_cmp_eq L 191476).mp h)
  replace hR := wn hR (fun z => h ((lg_cmp_eq L 191476).mpr z))
  refine And.intro (fun h => ?_) (fun h => ?_)
  case refine_2 => exact wy hR ((lg_cmp_eq L 12721332).mp h)
  replace hR := wn hR (fun z => h ((lg_cmp_eq L 12721332).mpr z))
  refine And.intro (fun h => ?_) (fun h => ?_)
  case refine_2 => exact wy hR ((lg_cmp_eq L 149625).mp h)
  replace hR := wn hR (fun z => h ((lg_cmp_eq L 149625).mpr z))
  refine And.intro (fun h => ?_) (fun h => ?_)
  case refine_2 => exact wy hR ((lg_cmp_eq L 43581340212).mp h)
  replace hR := wn hR (fun z => h ((lg_cmp_eq L 43581340212).mpr z))
  refine And.intro (fun h => ?_) (fun h => ?_)
  case refine_2 => exact wy hR ((lg_cmp_eq L 667614702).mp h)
  replace hR := wn hR (fun z => h ((lg_cmp_eq L 667614702).mpr z))
  refine And.intro (fun h => ?_) (fun h => ?_)
  case refine_2 => exact wy hR ((lg_cmp_eq L 598932836).mp h)
  replace hR := wn hR (fun z => h ((lg_cmp_eq L 598932836).mpr z))
  refine And.intro (fun h => ?_) (fun h => ?_)
  case refine_2 => exact wy hR ((lg_cmp_eq L 9575595).mp h)
  replace hR := wn hR (fun z => h ((lg_cmp_eq L 9575595).mpr z))
  refine And.intro (fun h => ?_) (fun h => ?_)
  case refine_2 => exact wy hR ((lg_cmp_eq L 47877618984).mp h)
  replace hR := wn hR (fun z => h ((lg_cmp_eq L 47877618984).mpr z))
  refine And.intro (fun h => ?_) (fun h => ?_)
  case refine_2 => exact wy hR ((lg_cmp_eq L 10640549).mp h)
  replace hR := wn hR (fun z => h ((lg_cmp_eq L 10640549).mpr z))
  refine And.intro (fun h => ?_) (fun h => ?_)
  case refine_2 => exact wy hR ((lg_cmp_eq L 803137906).mp h)
  replace hR := wn hR (fun z => h ((lg_cmp_eq L 803137906).mpr z))
  refine And.intro (fun h => ?_) (fun h => ?_)
  case refine_2 => exact wy hR ((lg_cmp_eq L 55440722935).mp h)
  replace hR := wn hR (fun z => h ((lg_cmp_eq L 55440722935).mpr z))
  exact hR
theorem word_val {B : Nat → Int32} {T i : Nat} (hi : i ≤ T) (h7 : (lts B T i).length ≤ 7) : wIx (en64 (lts B T i) 0) [11729831, 667614707, 55578630963, 865520435, 186489, 883071911, 54316697970, 9051310, 146804, 11672820, 220389, 11992485, 13523756, 10681714, 11443108, 3046, 2233, 3375, 10169325, 3058, 138148, 191476, 12721332, 149625, 43581340212, 667614702, 598932836, 9575595, 47877618984, 10640549, 803137906, 55440722935] 0 = oI (kW (lts B T i) wT 0) := by
  rw [wK_en]
  exact wIx_k (lts_let hi) h7 wT 0 wT_let
theorem word_long {B : Nat → Int32} {T i : Nat} (h : 7 < (lts B T i).length) : kW (lts B T i) wT 0 = none := by
  cases e : kW (lts B T i) wT 0 with
  | none => rfl
  | some k =>
    obtain ⟨m, _, h2⟩ := kW_some e
    have := (wT_let _ (List.mem_of_getElem? h2)).1
    omega
/-- what next() leaves -/
def NXe (I I' : XI) (T a0 : Nat) : Prop := EQT I I' ∧ RTK I' (lexS (I 70) T a0)
theorem NXe.nx {I I' : XI} {T a0 : Nat} (e0 : I 67 15 = nI a0) (ha : a0 ≤ T) (h : NXe I I' T a0) : NX I I' T := by
  obtain ⟨q, r1, r2, r3⟩ := h
  have b := lexS_b (B := I 70) ha
  generalize lexS (I 70) T a0 = tk at *
  obtain ⟨s, v, p, x⟩ := tk
  refine ⟨q, a0, x, e0, r1, b.1, b.2.1, ?_, fun z => ?_⟩
  · by_cases e : s = 0
    · left
      subst e
      exact r3
    · right
      exact b.2.2.1 e
  · have b4 : s ≤ 4 := b.2.2.2.1
    have y : s = 0 ∨ s = 1 ∨ s = 2 ∨ s = 3 ∨ s = 4 := by omega
    rcases y with rfl | rfl | rfl | rfl | rfl
    · have r3 : I' 67 17 = 0 := r3
      exact absurd (r3.symm.trans z) (by decide)
    · have r3 : I' 67 17 = 1 ∧ I' 67 18 = nI v := r3
      have := b.2.2.2.2.2.1 rfl
      have this : v < 32 := this
      rw [r3.2, nI_toInt (by omega)]
      omega
    · exact absurd (r3.1.symm.trans z) (by decide)
    · exact absurd (r3.1.symm.trans z) (by decide)
    · have r3 : I' 67 17 = 4 ∨ (I' 67 17 = 3 ∧ I' 67 18 = 44) := r3
      rcases r3 with r3 | ⟨r3, _⟩
      · exact absurd (r3.symm.trans z) (by decide)
      · exact absurd (r3.symm.trans z) (by decide)
abbrev uxr (l : Launch) (d : Nat) (ru_ ta : Nat) (rs : List XO) (J : XJ) (Rp : XR) (n pc : Nat) (lc : List (Option Value)) (I' : XI) : Prop := xrun xxX12 none false false (shH ru_ ta rs).length 0 0 none l (d + 3) tX12_next [0, 52, 99, 173, 232, 373] Rp n pc lc [] (shH ru_ ta rs) I' J 0 0
section UX
variable (l : Launch) (d T : Nat) (ru_ ta : Nat) (rs : List XO) (I : XI) (J : XJ) (Rp : XR) (a0 : Nat)
set_option maxRecDepth 100000 in
set_option maxHeartbeats 1000000 in
theorem ux_173 (hT : T ≤ 300) (hR : ∀ I', NXe I I' T a0 → Rp none (shH ru_ ta rs) I' J) (b0 n : Nat) (hb : b0 < T) (elex : lexS (I 70) T a0 = lexC (I 70) T b0) (hlet : bLt (I 70 b0) = true) (x : Int32) (L : Int64) (hL : ru bLt (I 70) T b0 - b0 ≤ 8 → L = en64 (lts (I 70) T b0) 0) (I' : XI) (q : EQT I I') (e : I' 67 15 = nI (ru bLt (I 70) T b0)) (e16 : I' 67 16 = nI b0) : uxr l d ru_ ta rs J Rp (n + 1) 173 [some (.ref 67), some (.int x), some (.long L), none, some (.int (nI (ru bLt (I 70) T b0 - b0)))] I' := by
  have hlen : (lts (I 70) T b0).length = ru bLt (I 70) T b0 - b0 := ltN_len _ _ _
  have hle := ru_le (f := bLt) (B := I 70) (T := T) (i := b0) (by omega)
  have ek := elex.trans (lexC_lt hb hlet)
  have fin : ∀ (r s : Int32), tkR s r (lexS (I 70) T a0) → Rp none (shH ru_ ta rs) (uI (uI I' 67 18 r) 67 17 s) J := by
    intro r s hr
    refine hR _ ⟨(q.u (by omega) (by omega)).u (by omega) (by omega), ?_, ?_, ?_⟩
    · rw [uI_atC, uI_atC, if_neg (by decide), if_neg (by decide), e, ek]
      cases kW (lts (I 70) T b0) wT 0 <;> rfl
    · rw [uI_atC, uI_atC, if_neg (by decide), if_neg (by decide), e16, ek]
      cases kW (lts (I 70) T b0) wT 0 <;> rfl
    · rw [uI_atC, uI_atC, uI_atC, uI_atC, if_pos rfl, if_neg (by decide), if_pos rfl]
      exact hr
  refine xrun_step fun K hK => ?_
  refine And.intro (fun h => ?_) (fun h => ?_)
  · have h : nI (ru bLt (I 70) T b0 - b0) ≤ nI 7 := h
    rw [nI_leI (by omega) (by omega)] at h
    refine ux_wordOf l (d + 2) L _ I' J _ ?_
    rw [hL (by omega), word_val (by omega) (by omega)]
    cases hk : kW (lts (I 70) T b0) wT 0 with
    | some k =>
      rw [hk] at ek
      refine And.intro (fun _ => fin (nI k) 1 ?_) (fun h => absurd (nI_pos' (by have := kW_lt hk; omega)) h)
      rw [ek]
      exact ⟨rfl, rfl⟩
    | none =>
      rw [hk] at ek
      refine And.intro (fun h => absurd (show (0 : Int32) ≤ -1 from h) (by decide)) (fun _ => fin (-1) 4 ?_)
      rw [ek]
      exact Or.inl rfl
  · have h : ¬ nI (ru bLt (I 70) T b0 - b0) ≤ nI 7 := h
    rw [nI_leI (by omega) (by omega)] at h
    rw [word_long (by omega)] at ek
    refine And.intro (fun h => absurd (show (0 : Int32) ≤ -1 from h) (by decide)) (fun _ => fin (-1) 4 ?_)
    rw [ek]
    exact Or.inl rfl
set_option maxRecDepth 100000 in
set_option maxHeartbeats 1000000 in
theorem ux_word (hT : T ≤ 300) (hR : ∀ I', NXe I I' T a0 → Rp none (shH ru_ ta rs) I' J) (e14 : I 67 14 = nI T) (b0 : Nat) (hb : b0 < T) (elex : lexS (I 70) T a0 = lexC (I 70) T b0) (hlet : bLt (I 70 b0) = true) (x : Int32) : ∀ (m n a : Nat) (L : Int64) (I' : XI), a + m = T → m + 1 < n → b0 ≤ a → ru bLt (I 70) T a = ru bLt (I 70) T b0 → (a - b0 ≤ 8 → L = en64 (ltN (I 70) (a - b0) b0) 0) → EQT I I' → I' 67 15 = nI a → I' 67 16 = nI b0 → uxr l d ru_ ta rs J Rp n 99 [some (.ref 67), some (.int x), some (.long L), none, some (.int (nI (a - b0)))] I' := by
  intro m
  have out : ∀ (n a : Nat) (L : Int64) (I' : XI), 1 < n → ru bLt (I 70) T b0 = a → (a - b0 ≤ 8 → L = en64 (ltN (I 70) (a - b0) b0) 0) → EQT I I' → I' 67 15 = nI a → I' 67 16 = nI b0 → uxr l d ru_ ta rs J Rp (n - 1) 173 [some (.ref 67), some (.int x), some (.long L), none, some (.int (nI (a - b0)))] I' := by
    intro n a L I' hn hr hL q e e16
    obtain ⟨n, rfl⟩ : ∃ n', n = n' + 1 + 1 := ⟨n - 2, by omega⟩
    subst hr
    exact ux_173 l d T ru_ ta rs I J Rp a0 hT hR b0 n hb elex hlet x L hL I' q e e16
  induction m with
  | zero =>
    intro n a L I' hm hn hb2 hr hL q e e16
    obtain ⟨n, rfl⟩ : ∃ n', n = n' + 1 + 1 := ⟨n - 2, by omega⟩
    rw [ru_e (show T ≤ a by omega)] at hr
    refine xrun_step fun K hK => ?_
    refine And.intro (fun _ => ?_) (fun h => absurd (nx_ge e14 q e (by omega)) h)
    exact hK 173 [some (.ref 67), some (.int x), some (.long L), none, some (.int (nI (a - b0)))] [] (shH ru_ ta rs) I' J 0 0 (out (n + 1 + 1) a L I' (by omega) hr.symm hL q e e16)
  | succ m ih =>
    intro n a L I' hm hn hb2 hr hL q e e16
    obtain ⟨n, rfl⟩ : ∃ n', n = n' + 1 + 1 := ⟨n - 2, by omega⟩
    have v : vp_in (I' 67 15) 300 := by rw [e]; exact vp_in_nI (by omega) (by omega)
    have ex : I' 70 (I' 67 15).toNatClampNeg = I 70 a := by rw [e, nI_clamp (by omega), q.1 70 (by decide)]
    have go : bLt (I 70 a) = true → ∀ L', (a + 1 - b0 ≤ 8 → L' = en64 (ltN (I 70) (a + 1 - b0) b0) 0) → uxr l d ru_ ta rs J Rp (n + 1) 99 [some (.ref 67), some (.int x), some (.long L'), none, some (.int (nI (a - b0) + 1))] (uI I' 67 15 (I' 67 15 + 1)) := by
      intro hl L' hL'
      rw [nI_1, show a - b0 + 1 = a + 1 - b0 by omega]
      refine ih (n + 1) (a + 1) L' _ (by omega) (by omega) (by omega) (by rw [← ru_t (by omega) hl]; exact hr) hL' (q.u (by omega) (by omega)) ?_ ?_
      · rw [uI_atC, if_pos rfl, e, nI_1]
      · rw [uI_atC, if_neg (by decide)]
        exact e16
    refine xrun_step fun K hK => ?_
    refine And.intro (fun h => absurd h (nx_lt hT e14 q e (by omega))) (fun _ => And.intro v ?_)
    refine tx_isLetter l (d + 1) (I' 70 (I' 67 15).toNatClampNeg) _ _ _ _ (fun hl => ?_) (fun hl => ?_)
    · rw [ex] at hl
      have hl := (bLt_iff _).mpr hl
      refine And.intro (fun h => absurd h (by decide)) (fun _ => ?_)
      refine And.intro (fun h8 => ?_) (fun h8 => And.intro v ?_)
      · have h8 : nI 8 ≤ nI (a - b0) := h8
        rw [nI_leI (by omega) (by omega)] at h8
        exact hK 99 [some (.ref 67), some (.int x), some (.long L), none, some (.int (nI (a - b0) + 1))] [] (shH ru_ ta rs) (uI I' 67 15 (I' 67 15 + 1)) J 0 0 (go hl L (fun z => by omega))
      · have h8 : ¬ nI 8 ≤ nI (a - b0) := h8
        rw [nI_leI (by omega) (by omega)] at h8
        refine hK 99 [some (.ref 67), some (.int x), some (.long (64 * L + (I' 70 (I' 67 15).toNatClampNeg).toInt64 - 64)), none, some (.int (nI (a - b0) + 1))] [] (shH ru_ ta rs) (uI I' 67 15 (I' 67 15 + 1)) J 0 0 (go hl _ (fun _ => ?_))
        rw [ex, hL (by omega), show a + 1 - b0 = (a - b0) + 1 by omega, ltN_snoc, en64_snoc, show b0 + (a - b0) = a by omega]
    · rw [ex] at hl
      have hl : bLt (I 70 a) = false := bF (bLt_iff _) hl
      rw [ru_f hl] at hr
      refine And.intro (fun _ => ?_) (fun h => absurd rfl h)
      exact hK 173 [some (.ref 67), some (.int x), some (.long L), none, some (.int (nI (a - b0)))] [] (shH ru_ ta rs) I' J 0 0 (out (n + 1 + 1) a L I' (by omega) hr.symm hL q e e16)
def nuR (a : Nat) (v : Int32) : Prop := (a < 10000 ∧ v = nI a) ∨ (a = 10000 ∧ ∃ m : Nat, v = nI m ∧ 10000 ≤ m ∧ m < 1100000)
theorem nuR_step {a k : Nat} {v : Int32} (h : nuR a v) (hk : k ≤ 9) : nuR (min 10000 (10 * a + k)) (if nI 99999 < v then v else 10 * v + nI (48 + k) - 48) := by
  rcases h with ⟨h1, rfl⟩ | ⟨h1, m, rfl, h2, h3⟩
  · rw [if_neg (nI_nlt (by omega) (by omega))]
    have e : (10 : Int32) * nI a + nI (48 + k) - 48 = nI (10 * a + k) := by
      rw [show (10 : Int32) = nI 10 from rfl, nI_mul, nI_add, show (48 : Int32) = nI 48 from rfl, nI_subI (by omega) (by omega)]
      congr 1
      omega
    rw [e]
    rcases Nat.lt_or_ge (10 * a + k) 10000 with c | c
    · exact Or.inl ⟨by omega, by rw [Nat.min_eq_right (by omega)]⟩
    · exact Or.inr ⟨by omega, 10 * a + k, rfl, c, by omega⟩
  · refine Or.inr ⟨by omega, ?_⟩
    by_cases c : nI 99999 < nI m
    · rw [if_pos c]
      exact ⟨m, rfl, h2, h3⟩
    · rw [if_neg c]
      rw [nI_ltI (by omega) (by omega)] at c
      have e : (10 : Int32) * nI m + nI (48 + k) - 48 = nI (10 * m + k) := by
        rw [show (10 : Int32) = nI 10 from rfl, nI_mul, nI_add, show (48 : Int32) = nI 48 from rfl, nI_subI (by omega) (by omega)]
        congr 1
        omega
      exact ⟨10 * m + k, e, by omega, by omega⟩
theorem nuR_tk {a : Nat} {v : Int32} (h : nuR a v) : (a < 10000 ∧ v = nI a) ∨ (a = 10000 ∧ nI 10000 ≤ v) := by
  rcases h with h | ⟨h1, m, rfl, h2, h3⟩
  · exact Or.inl h
  · exact Or.inr ⟨h1, nI_le h2 (by omega)⟩
set_option maxRecDepth 100000 in
set_option maxHeartbeats 1000000 in
theorem ux_num (hT : T ≤ 300) (hR : ∀ I', NXe I I' T a0 → Rp none (shH ru_ ta rs) I' J) (e14 : I 67 14 = nI T) (b0 : Nat) (elex : lexS (I 70) T a0 = (2, nuS (I 70) T b0 0, b0, ru bDg (I 70) T b0)) (o1 o2 o3 o4 : Option Value) : ∀ (m n a w : Nat) (I' : XI), a + m = T → m < n → ru bDg (I 70) T a = ru bDg (I 70) T b0 → nuS (I 70) T a w = nuS (I 70) T b0 0 → nuR w (I' 67 18) → EQT I I' → I' 67 15 = nI a → I' 67 16 = nI b0 → I' 67 17 = 2 → uxr l d ru_ ta rs J Rp n 232 [some (.ref 67), o1, o2, o3, o4] I' := by
  have fin : ∀ (a w : Nat) (I' : XI), ru bDg (I 70) T b0 = a → nuS (I 70) T b0 0 = w → nuR w (I' 67 18) → EQT I I' → I' 67 15 = nI a → I' 67 16 = nI b0 → I' 67 17 = 2 → Rp none (shH ru_ ta rs) I' J := by
    intro a w I' h1 h2 h3 q e e16 e17
    refine hR I' ⟨q, ?_, ?_, ?_⟩
    · rw [elex, h1]
      exact e
    · rw [elex]
      exact e16
    · rw [elex, h2]
      exact ⟨e17, nuR_tk h3⟩
  intro m
  induction m with
  | zero =>
    intro n a w I' hm hn hr hu hw q e e16 e2
    obtain ⟨n, rfl⟩ : ∃ n', n = n' + 1 := ⟨n - 1, by omega⟩
    rw [ru_e (show T ≤ a by omega)] at hr
    rw [nuS_e (show T ≤ a by omega)] at hu
    refine xrun_step fun K hK => ?_
    exact And.intro (fun _ => fin a w I' hr.symm hu.symm hw q e e16 e2) (fun h => absurd (nx_ge e14 q e (by omega)) h)
  | succ m ih =>
    intro n a w I' hm hn hr hu hw q e e16 e2
    obtain ⟨n, rfl⟩ : ∃ n', n = n' + 1 := ⟨n - 1, by omega⟩
    have v : vp_in (I' 67 15) 300 := by rw [e]; exact vp_in_nI (by omega) (by omega)
    have ex : I' 70 (I' 67 15).toNatClampNeg = I 70 a := by rw [e, nI_clamp (by omega), q.1 70 (by decide)]
    refine xrun_step fun K hK => ?_
    refine And.intro (fun h => absurd h (nx_lt hT e14 q e (by omega))) (fun _ => And.intro v ?_)
    refine tx_in l (d + 2) (I' 70 (I' 67 15).toNatClampNeg) 48 57 _ _ _ _ (fun h1 h2 => ?_) (fun h => ?_)
    · rw [ex] at h1 h2
      have hd : bDg (I 70 a) = true := (bDg_iff _).mpr ⟨h1, h2⟩
      obtain ⟨k, hk9, ek, ek2⟩ := dg_BR (c := I 70 a) (r := I 70 a) (Or.inl ⟨Int32.le_trans (by decide) h1, rfl, Int32.le_trans h2 (by decide)⟩) hd
      rw [ru_t (by omega) hd] at hr
      rw [nuS_t (by omega) hd, ek2] at hu
      have st := nuR_step hw hk9
      have go : ∀ y : Int32, nuR (min 10000 (10 * w + k)) y → uxr l d ru_ ta rs J Rp n 232 [some (.ref 67), o1, o2, o3, o4] (uI (uI I' 67 18 y) 67 15 (I' 67 15 + 1)) := by
        intro y hy
        refine ih n (a + 1) (min 10000 (10 * w + k)) _ (by omega) (by omega) hr hu ?_ ((q.u (by omega) (by omega)).u (by omega) (by omega)) ?_ ?_ ?_
        · rw [uI_atC, if_neg (by decide), uI_atC, if_pos rfl]
          exact hy
        · rw [uI_atC, if_pos rfl, e, nI_1]
        · rw [uI_atC, if_neg (by decide), uI_atC, if_neg (by decide)]
          exact e16
        · rw [uI_atC, if_neg (by decide), uI_atC, if_neg (by decide)]
          exact e2
      refine And.intro (fun h => absurd h (by decide)) (fun _ => ?_)
      refine And.intro (fun hle => And.intro v ?_) (fun hgt => ?_)
      · have hle : I' 67 18 ≤ nI 99999 := hle
        rw [if_neg (Int32.not_lt.mpr hle)] at st
        refine hK 232 [some (.ref 67), o1, o2, o3, o4] [] (shH ru_ ta rs) (uI (uI I' 67 18 (10 * I' 67 18 + I' 70 (I' 67 15).toNatClampNeg - 48)) 67 15 (I' 67 15 + 1)) J 0 0 (go _ ?_)
        rw [ex, ek]
        exact st
      · have hgt : ¬ I' 67 18 ≤ nI 99999 := hgt
        rw [if_pos (Int32.not_le.mp hgt)] at st
        exact hK 232 [some (.ref 67), o1, o2, o3, o4] [] (shH ru_ ta rs) (uI (uI I' 67 18 (I' 67 18)) 67 15 (I' 67 15 + 1)) J 0 0 (go _ st)
    · rw [ex] at h
      have hd : bDg (I 70 a) = false := bF (bDg_iff _) h
      rw [ru_f hd] at hr
      rw [nuS_f hd] at hu
      refine And.intro (fun _ => ?_) (fun h => absurd rfl h)
      exact fin a w I' hr.symm hu.symm hw q e e16 e2
theorem i32_of {x : Int32} {z : Int} (h : x.toInt = z) (y : Int32) (hy : y.toInt = z) : x = y := Int32.toInt_inj.mp (h.trans hy.symm)
theorem sg_59 {x : Int32} (h1 : 59 ≤ x) (h2 : x ≤ 62) : sgL.contains x = true := by
  have a := Int32.le_iff_toInt_le.mp h1
  have b := Int32.le_iff_toInt_le.mp h2
  rw [show (59 : Int32).toInt = 59 by decide] at a
  rw [show (62 : Int32).toInt = 62 by decide] at b
  have y : x.toInt = 59 ∨ x.toInt = 60 ∨ x.toInt = 61 ∨ x.toInt = 62 := by omega
  rcases y with y | y | y | y
  · rw [i32_of y 59 (by decide)]; decide
  · rw [i32_of y 60 (by decide)]; decide
  · rw [i32_of y 61 (by decide)]; decide
  · rw [i32_of y 62 (by decide)]; decide
theorem sg_40 {x : Int32} (h1 : 40 ≤ x) (h2 : x ≤ 45) : sgL.contains x = true ∨ (sgL.contains x = false ∧ x = 44) := by
  have a := Int32.le_iff_toInt_le.mp h1
  have b := Int32.le_iff_toInt_le.mp h2
  rw [show (40 : Int32).toInt = 40 by decide] at a
  rw [show (45 : Int32).toInt = 45 by decide] at b
  have y : x.toInt = 40 ∨ x.toInt = 41 ∨ x.toInt = 42 ∨ x.toInt = 43 ∨ x.toInt = 44 ∨ x.toInt = 45 := by omega
  rcases y with y | y | y | y | y | y
  · rw [i32_of y 40 (by decide)]; decide
  · rw [i32_of y 41 (by decide)]; decide
  · rw [i32_of y 42 (by decide)]; decide
  · rw [i32_of y 43 (by decide)]; decide
  · rw [i32_of y 44 (by decide)]; decide
  · rw [i32_of y 45 (by decide)]; decide
theorem sg_no {x : Int32} (h1 : ¬ (59 ≤ x ∧ x ≤ 62)) (h2 : ¬ (40 ≤ x ∧ x ≤ 45)) (h3 : ¬ x = 47) (h4 : ¬ x = 35) : sgL.contains x = false := by
  cases e : sgL.contains x with
  | false => rfl
  | true =>
    have y : ∀ z, z ∈ sgL → (59 ≤ z ∧ z ≤ 62) ∨ (40 ≤ z ∧ z ≤ 45) ∨ z = 47 ∨ z = 35 := by decide
    rcases y x (by simpa using e) with z | z | z | z
    · exact absurd z h1
    · exact absurd z h2
    · exact absurd z h3
    · exact absurd z h4
def srt (x s : Int32) : Prop := (sgL.contains x = true ∧ s = 3) ∨ (sgL.contains x = false ∧ (s = 4 ∨ (s = 3 ∧ x = 44)))
set_option maxRecDepth 100000 in
set_option maxHeartbeats 1000000 in
theorem ux_373 (hT : T ≤ 300) (hR : ∀ I', NXe I I' T a0 → Rp none (shH ru_ ta rs) I' J) (e14 : I 67 14 = nI T) (a n : Nat) (hn : 0 < n) (hlt : a < T) (elex : lexS (I 70) T a0 = lexC (I 70) T a) (n1 : bLt (I 70 a) = false) (n2 : bDg (I 70 a) = false) (s : Int32) (hs : srt (I 70 a) s) (o2 o3 o4 : Option Value) (I' : XI) (q : EQT I I') (e : I' 67 15 = nI (a + 1)) (e16 : I' 67 16 = nI a) (e17 : I' 67 17 = s) (e18 : I' 67 18 = I 70 a) : uxr l d ru_ ta rs J Rp n 373 [some (.ref 67), some (.int (I 70 a)), o2, o3, o4] I' := by
  obtain ⟨n, rfl⟩ : ∃ n', n = n' + 1 := ⟨n - 1, by omega⟩
  have end1 : ((decide (I 70 a = 60) || decide (I 70 a = 62)) && (Nat.blt (a + 1) T && decide (I 70 (a + 1) = 61))) = false → Rp none (shH ru_ ta rs) I' J := by
    intro h3
    have ek := elex.trans (lexC_sg hlt n1 n2 h3)
    refine hR I' ⟨q, ?_, ?_, ?_⟩
    · rw [ek, e]
      cases sgL.contains (I 70 a) <;> rfl
    · rw [ek, e16]
      cases sgL.contains (I 70 a) <;> rfl
    · rw [ek, e17, e18]
      rcases hs with ⟨c, rfl⟩ | ⟨c, z⟩
      · rw [c]
        exact ⟨rfl, (sgL_nI c).1⟩
      · rw [c]
        exact z
  have fin : ∀ y : Int32, (I 70 a = 60 ∧ y = 300) ∨ (¬ I 70 a = 60 ∧ I 70 a = 62 ∧ y = 301) → a + 1 < T → I 70 (a + 1) = 61 → Rp none (shH ru_ ta rs) (uI (uI I' 67 18 y) 67 15 (I' 67 15 + 1)) J := by
    intro y hy h2 h61
    have h3 : ((decide (I 70 a = 60) || decide (I 70 a = 62)) && (Nat.blt (a + 1) T && decide (I 70 (a + 1) = 61))) = true := by
      rw [h61, Bool.and_eq_true, Bool.and_eq_true]
      refine ⟨?_, Nat.blt_eq.mpr h2, rfl⟩
      rcases hy with ⟨z, _⟩ | ⟨_, z, _⟩
      · rw [z]; rfl
      · rw [z]; rfl
    have ek := elex.trans (lexC_le hlt n1 n2 h3)
    have c3 : s = 3 := by
      rcases hs with ⟨_, z⟩ | ⟨z, _⟩
      · exact z
      · rcases hy with ⟨w, _⟩ | ⟨_, w, _⟩
        · rw [w] at z
          exact absurd z (by decide)
        · rw [w] at z
          exact absurd z (by decide)
    refine hR _ ⟨(q.u (by omega) (by omega)).u (by omega) (by omega), ?_, ?_, ?_⟩
    · rw [ek, uI_atC, if_pos rfl, e, nI_1]
    · rw [ek, uI_atC, if_neg (by decide), uI_atC, if_neg (by decide), e16]
    · rw [ek, uI_atC, if_neg (by decide), uI_atC, if_neg (by decide), uI_atC, if_neg (by decide), uI_atC, if_pos rfl, e17, c3]
      rcases hy with ⟨z, rfl⟩ | ⟨z, _, rfl⟩
      · rw [decide_eq_true z]
        exact ⟨rfl, rfl⟩
      · rw [decide_eq_false z]
        exact ⟨rfl, rfl⟩
  have up : ¬ I' 67 14 ≤ I' 67 15 → a + 1 < T := by
    intro h
    rcases Nat.lt_or_ge (a + 1) T with y | y
    · exact y
    · exact absurd (nx_ge e14 q e (by omega)) h
  have dn : I' 67 14 ≤ I' 67 15 → ¬ a + 1 < T := fun h z => nx_lt hT e14 q e z h
  have v : a + 1 < T → vp_in (I' 67 15) 300 := fun h => by rw [e]; exact vp_in_nI (by omega) (by omega)
  have ex : I' 70 (I' 67 15).toNatClampNeg = I 70 (a + 1) := by rw [e, nI_clamp (by omega), q.1 70 (by decide)]
  have noT : I' 67 14 ≤ I' 67 15 → Rp none (shH ru_ ta rs) I' J := fun h => end1 (by
    have : (Nat.blt (a + 1) T && decide (I 70 (a + 1) = 61)) = false := by
      cases z : (Nat.blt (a + 1) T && decide (I 70 (a + 1) = 61)) with
      | false => rfl
      | true =>
        rw [Bool.and_eq_true] at z
        exact absurd (Nat.blt_eq.mp z.1) (dn h)
    rw [this, Bool.and_false])
  have no61 : ¬ I' 70 (I' 67 15).toNatClampNeg = 61 → Rp none (shH ru_ ta rs) I' J := fun h => end1 (by
    rw [ex] at h
    rw [decide_eq_false h, Bool.and_false, Bool.and_false])
  have is61 : I' 70 (I' 67 15).toNatClampNeg = 61 → I 70 (a + 1) = 61 := fun h => by rw [← ex]; exact h
  refine xrun_step fun K hK => ?_
  refine And.intro (fun h60 => ?_) (fun h60 => And.intro (fun h62 => ?_) (fun h62 => ?_))
  · exact And.intro (fun h => noT h) (fun h => And.intro (v (up h)) (And.intro (fun g => no61 g) (fun g => And.intro (fun z => absurd h60 z) (fun _ => fin 300 (Or.inl ⟨h60, rfl⟩) (up h) (is61 g)))))
  · exact end1 (by
      have h60 : ¬ I 70 a = 60 := h60
      have h62 : ¬ I 70 a = 62 := h62
      rw [decide_eq_false h60, decide_eq_false h62]
      rfl)
  · exact And.intro (fun h => noT h) (fun h => And.intro (v (up h)) (And.intro (fun g => no61 g) (fun g => And.intro (fun _ => fin 301 (Or.inr ⟨h60, h62, rfl⟩) (up h) (is61 g)) (fun z => absurd z h60))))
set_option maxRecDepth 100000 in
set_option maxHeartbeats 2000000 in
theorem ux_52 (hT : T ≤ 300) (hR : ∀ I', NXe I I' T a0 → Rp none (shH ru_ ta rs) I' J) (e14 : I 67 14 = nI T) (a n : Nat) (hn : 304 < n) (ha : a ≤ T) (hru : ru bBl (I 70) T a0 = a) (hbl : a < T → bBl (I 70 a) = false) (o1 o2 o3 o4 : Option Value) (I' : XI) (q : EQT I I') (e : I' 67 15 = nI a) : uxr l d ru_ ta rs J Rp n 52 [some (.ref 67), o1, o2, o3, o4] I' := by
  obtain ⟨n, rfl⟩ : ∃ n', n = n' + 1 := ⟨n - 1, by omega⟩
  have elex : lexS (I 70) T a0 = lexC (I 70) T a := by rw [← hru]; rfl
  have q1 : EQT I (uI I' 67 16 (I' 67 15)) := q.u (by omega) (by omega)
  have et : I' 67 14 = nI T := by rw [q.2 14 (by omega), e14]
  refine xrun_step fun K hK => ?_
  refine And.intro (fun hne => ?_) (fun heq => ?_)
  · have hlt : a < T := by
      rcases Nat.lt_or_ge a T with h | h
      · exact h
      · exfalso
        refine hne ?_
        show I' 67 15 = I' 67 14
        rw [et, e, show a = T by omega]
    have v : vp_in (I' 67 15) 300 := by rw [e]; exact vp_in_nI (by omega) (by omega)
    have ex : I' 70 (I' 67 15).toNatClampNeg = I 70 a := by rw [e, nI_clamp (by omega), q.1 70 (by decide)]
    have e15 : uI I' 67 16 (I' 67 15) 67 15 = nI a := by
      rw [uI_atC]
      exact e
    have e16 : uI I' 67 16 (I' 67 15) 67 16 = nI a := by
      rw [uI_atC, if_pos rfl]
      exact e
    refine And.intro v ?_
    refine tx_isLetter l (d + 1) (I' 70 (I' 67 15).toNatClampNeg) _ _ _ _ (fun hlet => ?_) (fun hlet => ?_)
    · rw [ex] at hlet
      have hl := (bLt_iff _).mpr hlet
      refine And.intro (fun h => absurd h (by decide)) (fun _ => ?_)
      refine hK 99 [some (.ref 67), some (.int (I' 70 (I' 67 15).toNatClampNeg)), some (.long 0), none, some (.int (nI 0))] [] (shH ru_ ta rs) (uI I' 67 16 (I' 67 15)) J 0 0 ?_
      have x := ux_word l d T ru_ ta rs I J Rp a0 hT hR e14 a hlt elex hl (I' 70 (I' 67 15).toNatClampNeg) (T - a) n a 0 _ (by omega) (by omega) (Nat.le_refl _) rfl (fun _ => by rw [Nat.sub_self]; rfl) q1 e15 e16
      rw [Nat.sub_self] at x
      exact x
    · rw [ex] at hlet
      have n1 : bLt (I 70 a) = false := bF (bLt_iff _) hlet
      refine And.intro (fun _ => ?_) (fun h => absurd rfl h)
      refine tx_in l (d + 2) (I' 70 (I' 67 15).toNatClampNeg) 48 57 _ _ _ _ (fun h1 h2 => ?_) (fun h => ?_)
      · rw [ex] at h1 h2
        have hd : bDg (I 70 a) = true := (bDg_iff _).mpr ⟨h1, h2⟩
        refine And.intro (fun h => absurd h (by decide)) (fun _ => ?_)
        refine hK 232 [some (.ref 67), some (.int _), o2, o3, o4] [] (shH ru_ ta rs) (uI (uI (uI I' 67 16 (I' 67 15)) 67 17 2) 67 18 0) J 0 0 (ux_num l d T ru_ ta rs I J Rp a0 hT hR e14 a (elex.trans (lexC_dg hlt hd)) _ _ _ _ (T - a) n a 0 _ (by omega) (by omega) rfl rfl ?_ ((q1.u (by omega) (by omega)).u (by omega) (by omega)) ?_ ?_ ?_)
        · rw [uI_atC, if_pos rfl]
          exact Or.inl ⟨by omega, rfl⟩
        · rw [uI_atC, uI_atC]
          exact e15
        · rw [uI_atC, uI_atC]
          exact e16
        · rw [uI_atC, uI_atC]
          rfl
      · rw [ex] at h
        have n2 : bDg (I 70 a) = false := bF (bDg_iff _) h
        refine And.intro (fun _ => ?_) (fun h => absurd rfl h)
        have go : ∀ s : Int32, srt (I 70 a) s → uxr l d ru_ ta rs J Rp n 373 [some (.ref 67), some (.int (I' 70 (I' 67 15).toNatClampNeg)), o2, o3, o4] (uI (uI (uI (uI I' 67 16 (I' 67 15)) 67 15 (I' 67 15 + 1)) 67 18 (I' 70 (I' 67 15).toNatClampNeg)) 67 17 s) := by
          intro s hs
          rw [ex]
          refine ux_373 l d T ru_ ta rs I J Rp a0 hT hR e14 a n (by omega) hlt elex n1 n2 s hs o2 o3 o4 _ (((q1.u (by omega) (by omega)).u (by omega) (by omega)).u (by omega) (by omega)) ?_ ?_ ?_ ?_
          · rw [uI_atC, uI_atC, uI_atC, if_neg (by omega), if_neg (by omega), if_pos rfl, e, nI_1]
          · rw [uI_atC, uI_atC, uI_atC, if_neg (by omega), if_neg (by omega), if_neg (by omega)]
            exact e16
          · rw [uI_atC, if_pos rfl]
          · rw [uI_atC, uI_atC, if_neg (by omega), if_pos rfl]
        have at_ : ∀ s : Int32, srt (I 70 a) s → K 373 [some (.ref 67), some (.int (I' 70 (I' 67 15).toNatClampNeg)), o2, o3, o4] [] (shH ru_ ta rs) (uI (uI (uI (uI I' 67 16 (I' 67 15)) 67 15 (I' 67 15 + 1)) 67 18 (I' 70 (I' 67 15).toNatClampNeg)) 67 17 s) J 0 0 := fun s hs => hK 373 [some (.ref 67), some (.int (I' 70 (I' 67 15).toNatClampNeg)), o2, o3, o4] [] (shH ru_ ta rs) _ J 0 0 (go s hs)
        refine tx_in l (d + 2) (I' 70 (I' 67 15).toNatClampNeg) 59 62 _ _ _ _ (fun h1 h2 => ?_) (fun h59 => ?_)
        · rw [ex] at h1 h2
          exact And.intro (fun _ => at_ 3 (Or.inl ⟨sg_59 h1 h2, rfl⟩)) (fun h => absurd h (by decide))
        · refine And.intro (fun h => absurd rfl h) (fun _ => ?_)
          refine tx_in l (d + 2) (I' 70 (I' 67 15).toNatClampNeg) 40 45 _ _ _ _ (fun h1 h2 => ?_) (fun h40 => ?_)
          · rw [ex] at h1 h2
            refine And.intro (fun _ => at_ 3 ?_) (fun h => absurd h (by decide))
            rcases sg_40 h1 h2 with z | ⟨z, z2⟩
            · exact Or.inl ⟨z, rfl⟩
            · exact Or.inr ⟨z, Or.inr ⟨rfl, z2⟩⟩
          · rw [ex] at h59 h40
            refine And.intro (fun h => absurd rfl h) (fun _ => ?_)
            refine And.intro (fun h47 => ?_) (fun h47 => And.intro (fun h35 => ?_) (fun h35 => ?_))
            · have h47 : I' 70 (I' 67 15).toNatClampNeg = 47 := h47
              rw [ex] at h47
              exact at_ 3 (Or.inl ⟨by rw [show I 70 a = 47 from h47]; decide, rfl⟩)
            · have h47 : ¬ I' 70 (I' 67 15).toNatClampNeg = 47 := h47
              have h35 : ¬ I' 70 (I' 67 15).toNatClampNeg = 35 := h35
              rw [ex] at h35 h47
              exact at_ 4 (Or.inr ⟨sg_no h59 h40 h47 h35, Or.inl rfl⟩)
            · have h35 : I' 70 (I' 67 15).toNatClampNeg = 35 := h35
              rw [ex] at h35
              exact at_ 3 (Or.inl ⟨by rw [show I 70 a = 35 from h35]; decide, rfl⟩)
  · have ha2 : a = T := by
      have h : I' 67 15 = I' 67 14 := heq
      rw [et, e] at h
      exact (nI_eq (by omega) (by omega)).mp h
    have ek := elex.trans (lexC_end (show T ≤ a by omega))
    refine hR (uI (uI I' 67 16 (I' 67 15)) 67 17 0) ⟨q1.u (by omega) (by omega), ?_, ?_, ?_⟩
    · rw [ek, uI_atC, uI_atC, if_neg (by decide), if_neg (by decide), e, ha2]
    · rw [ek, uI_atC, uI_atC, if_neg (by decide), if_pos rfl, e, ha2]
    · rw [ek, uI_atC, if_pos rfl]
      rfl
set_option maxRecDepth 100000 in
set_option maxHeartbeats 1000000 in
theorem ux_0 (hT : T ≤ 300) (hR : ∀ I', NXe I I' T a0 → Rp none (shH ru_ ta rs) I' J) (e14 : I 67 14 = nI T) (o1 o2 o3 o4 : Option Value) : ∀ (m n a : Nat) (I' : XI), a + m = T → m + 305 < n → EQT I I' → I' 67 15 = nI a → ru bBl (I 70) T a0 = ru bBl (I 70) T a → uxr l d ru_ ta rs J Rp n 0 [some (.ref 67), o1, o2, o3, o4] I' := by
  intro m
  induction m with
  | zero =>
    intro n a I' hm hn q e h0
    obtain ⟨n, rfl⟩ : ∃ n', n = n' + 1 := ⟨n - 1, by omega⟩
    rw [ru_e (show T ≤ a by omega)] at h0
    refine xrun_step fun K hK => ?_
    exact And.intro (fun _ => hK 52 [some (.ref 67), o1, o2, o3, o4] [] (shH ru_ ta rs) I' J 0 0 (ux_52 l d T ru_ ta rs I J Rp a0 hT hR e14 a n (by omega) (by omega) h0 (fun z => by omega) o1 o2 o3 o4 I' q e)) (fun h => absurd (nx_ge e14 q e (by omega)) h)
  | succ m ih =>
    intro n a I' hm hn q e h0
    obtain ⟨n, rfl⟩ : ∃ n', n = n' + 1 := ⟨n - 1, by omega⟩
    have v : vp_in (I' 67 15) 300 := by rw [e]; exact vp_in_nI (by omega) (by omega)
    have ex : I' 70 (I' 67 15).toNatClampNeg = I 70 a := by rw [e, nI_clamp (by omega), q.1 70 (by decide)]
    have go : bBl (I 70 a) = true → uxr l d ru_ ta rs J Rp n 0 [some (.ref 67), o1, o2, o3, o4] (uI I' 67 15 (I' 67 15 + 1)) := by
      intro hb
      refine ih n (a + 1) _ (by omega) (by omega) (q.u (by omega) (by omega)) ?_ (by rw [← ru_t (by omega) hb]; exact h0)
      rw [uI_atC, if_pos rfl, e, nI_1]
    have out : bBl (I 70 a) = false → uxr l d ru_ ta rs J Rp n 52 [some (.ref 67), o1, o2, o3, o4] I' := fun hb => ux_52 l d T ru_ ta rs I J Rp a0 hT hR e14 a n (by omega) (by omega) (by rw [h0, ru_f hb]) (fun _ => hb) o1 o2 o3 o4 I' q e
    refine xrun_step fun K hK => ?_
    have k0 := fun hb => hK 0 [some (.ref 67), o1, o2, o3, o4] [] (shH ru_ ta rs) (uI I' 67 15 (I' 67 15 + 1)) J 0 0 (go hb)
    have k52 := fun hb => hK 52 [some (.ref 67), o1, o2, o3, o4] [] (shH ru_ ta rs) I' J 0 0 (out hb)
    refine And.intro (fun h => absurd h (nx_lt hT e14 q e (by omega))) (fun _ => And.intro v (And.intro (fun h32 => ?_) (fun h32 => And.intro v (And.intro (fun h10 => ?_) (fun h10 => ?_)))))
    · have h32 : I' 70 (I' 67 15).toNatClampNeg = 32 := h32
      rw [ex] at h32
      exact k0 ((bBl_iff _).mpr (Or.inl h32))
    · have h32 : ¬ I' 70 (I' 67 15).toNatClampNeg = 32 := h32
      have h10 : ¬ I' 70 (I' 67 15).toNatClampNeg = 10 := h10
      rw [ex] at h32 h10
      exact k52 (bF (bBl_iff _) (fun z => z.elim h32 h10))
    · have h10 : I' 70 (I' 67 15).toNatClampNeg = 10 := h10
      rw [ex] at h10
      exact k0 ((bBl_iff _).mpr (Or.inr h10))
set_option maxRecDepth 100000 in
theorem ux_next (hT : T ≤ 300) (e14 : I 67 14 = nI T) (e0 : I 67 15 = nI a0) (ha : a0 ≤ T) (hR : ∀ I', NXe I I' T a0 → Rp none (shH ru_ ta rs) I' J) : xm l (d + 4) 0 0 mX12_next [.ref 67] (shH ru_ ta rs) I J Rp :=
  xm_of (X := xxX12) (t := tX12_next) (stop := [0, 52, 99, 173, 232, 373]) (ini := false) (n := 700) xx12 pl12 rfl kX12_next (fun h => by cases h) (Nat.le_of_ble_eq_true rfl) (ux_0 l d T ru_ ta rs I J Rp a0 hT hR e14 none none none none (T - a0) 700 a0 I (by omega) (by omega) EQT.rf e0 rfl)
end UX
end
section
-- ===== the reference reads a text: one step after another, exactly =====
/-- what stays when orders are made and frames end -/
def C5 (I : XI) : (Nat → Int32) × (Nat → Int32) × (Nat → Int32) × (Nat → Int32) × (Nat → Int32) := (I 84, I 85, I 86, I 87, I 88)
def KE (I I' : XI) : Prop := (I' 67 16, I' 67 20) = (I 67 16, I 67 20) ∧ I' 67 30 = I 67 30 ∧ I' 67 31 = I 67 31 ∧ C5 I' = C5 I
theorem KE.rf {I : XI} : KE I I := ⟨rfl, rfl, rfl, rfl⟩
theorem KE.tr {I I' I'' : XI} (h : KE I I') (g : KE I' I'') : KE I I'' := ⟨g.1.trans h.1, g.2.1.trans h.2.1, g.2.2.1.trans h.2.2.1, g.2.2.2.trans h.2.2.2⟩
def KX (I I' : XI) : Prop := KP I I' ∧ KE I I'
theorem KX.rf {I : XI} : KX I I := ⟨KP.rf, KE.rf⟩
theorem KX.tr {I I' I'' : XI} (h : KX I I') (g : KX I' I'') : KX I I'' := ⟨h.1.tr g.1, h.2.tr g.2⟩
/-- the same but for the state -/
def KQ (I I' : XI) : Prop := (I' 67 17 = I 67 17 ∧ I' 67 18 = I 67 18 ∧ I' 67 15 = I 67 15) ∧ KE I I'
theorem KQ.rf {I : XI} : KQ I I := ⟨⟨rfl, rfl, rfl⟩, KE.rf⟩
theorem KQ.tr {I I' I'' : XI} (h : KQ I I') (g : KQ I' I'') : KQ I I'' := ⟨⟨g.1.1.trans h.1.1, g.1.2.1.trans h.1.2.1, g.1.2.2.trans h.1.2.2⟩, h.2.tr g.2⟩
theorem KX.kq {I I' : XI} (h : KX I I') : KQ I I' := ⟨⟨h.1.1, h.1.2.1, h.1.2.2.2⟩, h.2⟩
/-- another token has been read -/
def NRT (I0 : XI) (T : Nat) (I I' : XI) : Prop := ∀ a, a < 1000 → I 67 15 = nI a → RTK I' (lexS (I0 70) T a)
def NK (I0 : XI) (T : Nat) (I I' : XI) : Prop := ((I' 67 30, I' 67 20) = (I 67 30, I 67 20) ∧ I' 67 31 = I 67 31 ∧ C5 I' = C5 I) ∧ NRT I0 T I I'
theorem NK.pre {I0 I I1 I' : XI} {T : Nat} (h : KQ I I1) (g : NK I0 T I1 I') : NK I0 T I I' := ⟨⟨g.1.1.trans (Prod.ext h.2.2.1 (show I1 67 20 = I 67 20 from congrArg Prod.snd h.2.1)), g.1.2.1.trans h.2.2.2.1, g.1.2.2.trans h.2.2.2.2⟩, fun a ha e => g.2 a ha (h.1.2.2.trans e)⟩
theorem C5_eq {I I' : XI} (q : EQT I I') : C5 I' = C5 I := by
  unfold C5
  rw [q.1 84 (by decide), q.1 85 (by decide), q.1 86 (by decide), q.1 87 (by decide), q.1 88 (by decide)]
theorem C5_84 {I I' : XI} (h : C5 I' = C5 I) : I' 84 = I 84 := congrArg Prod.fst h
theorem NK.of {I0 I I' : XI} {T : Nat} (q : EQT I I') (r : NRT I0 T I I') : NK I0 T I I' := ⟨⟨Prod.ext (q.2 30 (by omega)) (q.2 20 (by omega)), q.2 31 (by omega), C5_eq q⟩, r⟩
def FER (I I' : XI) (f : Int32) : Prop := ER I I' ∧ (I 67 19 = 0 → I' 67 19 = f ∧ I' 67 20 = I 67 16) ∧ (¬ I 67 19 = 0 → I' = I)
set_option maxRecDepth 100000 in
theorem ux_errs (l : Launch) (d : Nat) (f : Int32) (hf : 0 < f) (ru ta : Nat) (rs : List XO) (I : XI) (J : XJ) (Rp : XR) (hR : ∀ I', FER I I' f → Rp none (shH ru ta rs) I' J) : xm l (d + 1) 0 0 mX12_errs [.ref 67, .int f] (shH ru ta rs) I J Rp := by
  refine xm_ofK 0 (X := xxX12) (t := tX12_errs) (stop := []) (ini := false) xx12 pl12 rfl kX12_errs (fun h => by cases h) (Nat.le_of_ble_eq_true rfl) (fun K hK => ?_)
  refine And.intro (fun h => hR I ⟨ER.rf h, fun z => absurd z h, fun _ => rfl⟩) (fun h0 => ?_)
  refine hR (uI (uI I 67 19 f) 67 20 (I 67 16)) ⟨⟨fun z => ?_, fun p hp => ?_, fun k h1 h2 => ?_, fun _ => hf⟩, fun _ => ⟨rfl, rfl⟩, fun z => absurd h0 z⟩
  · have z : f = 0 := z
    subst z
    exact absurd hf (by decide)
  · rw [uI_ne hp, uI_ne hp]
  · rw [uI_atC, uI_atC, if_neg h2, if_neg h1]
def KS (G : TG) : List Nat := G.map fun f => f.1
/-- the frames' numbers, and what waits in them -/
def OSf (I : XI) : TG → Fdr → Prop
  | [], [] => True
  | (k, a) :: G, d :: D => (a = d.2.map nI ∧ ∀ y, y ∈ d.2 → y < 1000) ∧ (k = 5 → I 80 (G.length + 1) = nI d.1) ∧ (k = 8 → I 83 G.length = nI d.1) ∧ OSf I G D
  | _, _ => False
def OSe (I : XI) (E : List Odr) : Prop := E.length ≤ 400 ∧ I 67 37 = nI E.length ∧ ∀ i, i < E.length → I 89 i = nI (E.getD i (0, 0)).1 ∧ ((E.getD i (0, 0)).1 = 402 ∨ I 90 i = nI (E.getD i (0, 0)).2)
def OTr (I I' : XI) (G G' : TG) (f : Fdr → List Odr → Fdr × List Odr) : Prop := ∀ D E, OSf I G D → OSe I E → OSf I' G' (f D E).1 ∧ OSe I' (f D E).2
theorem OSf.up {I I' : XI} : ∀ {G : TG} {D : Fdr}, OSf I G D → (∀ i, i ≤ G.length → I' 80 i = I 80 i) → (∀ i, i < G.length → I' 83 i = I 83 i) → OSf I' G D
  | [], [], _, _, _ => trivial
  | (k, a) :: G, d :: D, h, e80, e83 => by
    obtain ⟨h1, h2, h3, h4⟩ := h
    simp only [List.length_cons] at e80 e83
    exact ⟨h1, fun z => by rw [e80 _ (by omega)]; exact h2 z, fun z => by rw [e83 _ (by omega)]; exact h3 z, OSf.up h4 (fun i hi => e80 i (by omega)) (fun i hi => e83 i (by omega))⟩
  | [], _ :: _, h, _, _ => h.elim
  | _ :: _, [], h, _, _ => h.elim
theorem OSf.eq {I I' : XI} {G : TG} {D : Fdr} (h : OSf I G D) (e80 : I' 80 = I 80) (e83 : I' 83 = I 83) : OSf I' G D := h.up (fun i _ => by rw [e80]) (fun i _ => by rw [e83])
theorem OSe.eq {I I' : XI} {E : List Odr} (h : OSe I E) (e37 : I' 67 37 = I 67 37) (e89 : I' 89 = I 89) (e90 : I' 90 = I 90) : OSe I' E := by
  unfold OSe at h ⊢
  rw [e37, e89, e90]
  exact h
theorem getD_q {l m : List Odr} {i : Nat} (h : i < l.length) : (l ++ m).getD i (0, 0) = l.getD i (0, 0) := by
  rw [List.getD_eq_getElem?_getD, List.getD_eq_getElem?_getD, List.getElem?_append_left h]
theorem getD_z {l : List Odr} {a : Odr} : (l ++ [a]).getD l.length (0, 0) = a := by
  rw [List.getD_eq_getElem?_getD, List.getElem?_append_right (Nat.le_refl _)]
  simp
theorem OSe.len {I : XI} {E : List Odr} {o : Nat} (h : OSe I E) (e : I 67 37 = nI o) (ho : o < 1000) : o = E.length := nI_small (e.symm.trans h.2.1) (by omega) (by have := h.1; omega)
theorem OSe.emit {I : XI} {E : List Odr} {o y n : Nat} {v : Int32} (h : OSe I E) (e : I 67 37 = nI o) (ho : o < 400) (hv : y = 402 ∨ v = nI n) : OSe (emI I o (nI y) v) (E ++ [(y, n)]) := by
  have el := h.len e (by omega)
  subst el
  refine ⟨by simp; omega, by simp [emI, uI_eq, upd], fun i hi => ?_⟩
  have r89 : emI I E.length (nI y) v 89 = upd (I 89) E.length (nI y) := by
    unfold emI
    rw [uI_ne (by decide), uI_ne (by decide), uI_eq]
  have r90 : emI I E.length (nI y) v 90 = upd (I 90) E.length v := by
    unfold emI
    rw [uI_ne (by decide), uI_eq, uI_ne (by decide)]
  rw [r89, r90]
  rcases Nat.lt_or_ge i E.length with z | z
  · rw [getD_q z]
    simp only [upd, if_neg (show ¬ i = E.length by omega)]
    exact h.2.2 i z
  · have ei : i = E.length := by
      simp at hi
      omega
    subst ei
    rw [getD_z]
    rw [pk_us, pk_us]
    exact ⟨rfl, hv⟩
theorem OTr.tr {I I1 I' : XI} {G G1 G' : TG} {f g : Fdr → List Odr → Fdr × List Odr} (h : OTr I I1 G G1 f) (k : OTr I1 I' G1 G' g) : OTr I I' G G' (fun D E => g (f D E).1 (f D E).2) := fun D E a b => by
  have y := h D E a b
  exact k _ _ y.1 y.2
theorem OTr.rf {I I' : XI} {G : TG} (e80 : I' 80 = I 80) (e83 : I' 83 = I 83) (e37 : I' 67 37 = I 67 37) (e89 : I' 89 = I 89) (e90 : I' 90 = I 90) : OTr I I' G G (fun D E => (D, E)) := fun D E a b => ⟨a.eq e80 e83, b.eq e37 e89 e90⟩
theorem OTr.eqt {I I' : XI} {G : TG} (q : EQT I I') : OTr I I' G G (fun D E => (D, E)) := OTr.rf (q.1 80 (by decide)) (q.1 83 (by decide)) (q.2 37 (by omega)) (q.1 89 (by decide)) (q.1 90 (by decide))
theorem rk_eq {y : Nat} (h : y < 1000) : rkN (nI y) = rkn y := by
  have x : ∀ m : Nat, m < 1000 → (nI y = nI m ↔ y = m) := fun m hm => nI_eq (by omega) (by omega)
  have a : (nI y = 407) ↔ y = 407 := x 407 (by omega)
  have b : (nI y = 406) ↔ y = 406 := x 406 (by omega)
  have c : (nI y = 43) ↔ y = 43 := x 43 (by omega)
  have d : (nI y = 45) ↔ y = 45 := x 45 (by omega)
  unfold rkN rkn
  by_cases h1 : y = 407
  · rw [if_pos (a.mpr h1), h1]
  · rw [if_neg (fun z => h1 (a.mp z)), beqf h1]
    by_cases h2 : y = 406
    · rw [if_pos (b.mpr h2), h2]
    · rw [if_neg (fun z => h2 (b.mp z)), beqf h2]
      by_cases h3 : y = 43 ∨ y = 45
      · rw [if_pos (by rcases h3 with z | z; exact Or.inl (c.mpr z); exact Or.inr (d.mpr z))]
        rcases h3 with z | z <;> rw [z] <;> rfl
      · rw [if_neg (fun z => h3 (by rcases z with z | z; exact Or.inl (c.mp z); exact Or.inr (d.mp z))), beqf (fun z => h3 (Or.inl z)), beqf (fun z => h3 (Or.inr z))]
        rfl
def wkD (r : Nat) (D : Fdr) (E : List Odr) : Fdr × List Odr := match D with
  | [] => ([], E)
  | d :: D => ((d.1, (wk r d.2).1) :: D, E ++ (wk r d.2).2)
theorem map_nil {l : List Nat} (h : [] = l.map nI) : l = [] := by
  cases l with
  | nil => rfl
  | cons a l => cases h
theorem map_cons {l : List Nat} {y : Int32} {a : List Int32} (h : y :: a = l.map nI) : ∃ y0 l0, l = y0 :: l0 ∧ y = nI y0 ∧ a = l0.map nI := by
  cases l with
  | nil => cases h
  | cons b l =>
    rw [List.map_cons] at h
    exact ⟨b, l, rfl, (List.cons.inj h).1, (List.cons.inj h).2⟩
theorem OTr.w0 {I : XI} {k r : Nat} {G : TG} : OTr I I ((k, []) :: G) ((k, []) :: G) (wkD r) := fun D E a b => by
  cases D with
  | nil => exact a.elim
  | cons d D =>
    obtain ⟨⟨h1, h2⟩, h3⟩ := a
    have e := map_nil h1
    obtain ⟨d1, d2⟩ := d
    dsimp only at e
    subst e
    refine ⟨⟨⟨rfl, fun y hy => by cases hy⟩, h3⟩, ?_⟩
    show OSe I (E ++ [])
    rw [List.append_nil]
    exact b
theorem OTr.wlt {I : XI} {k r : Nat} {y : Int32} {a : List Int32} {G : TG} (hr : rkN y < r) : OTr I I ((k, y :: a) :: G) ((k, y :: a) :: G) (wkD r) := fun D E h b => by
  cases D with
  | nil => exact h.elim
  | cons d D =>
    obtain ⟨d1, d2⟩ := d
    have h0 := h
    obtain ⟨⟨h1, h2⟩, h3⟩ := h
    obtain ⟨y0, l0, e1, e2, e3⟩ := map_cons h1
    have e1 : d2 = y0 :: l0 := e1
    subst e1
    have hy : y0 < 1000 := h2 y0 List.mem_cons_self
    have w : wk r (y0 :: l0) = (y0 :: l0, []) := by
      rw [wk, blef (show rkn y0 < r by rw [← rk_eq hy, ← e2]; exact hr)]
    unfold wkD
    dsimp only
    rw [w]
    refine ⟨h0, ?_⟩
    show OSe I (E ++ [])
    rw [List.append_nil]
    exact b
theorem OTr.wge {I I1 : XI} {k r o : Nat} {y : Int32} {a : List Int32} {G : TG} (hr : ¬ rkN y < r) (e5 : I 67 37 = nI o) (ho : o < 400) {v : Int32} (e : I1 = emI (uI I 67 25 v) o y 0) {I' : XI} {a' : List Int32} (h : OTr I1 I' ((k, a) :: G) ((k, a') :: G) (wkD r)) : OTr I I' ((k, y :: a) :: G) ((k, a') :: G) (wkD r) := fun D E g b => by
  cases D with
  | nil => exact g.elim
  | cons d D =>
    obtain ⟨d1, d2⟩ := d
    obtain ⟨⟨h1, h2⟩, h3, h4, h5⟩ := g
    obtain ⟨y0, l0, e1, e2, e3⟩ := map_cons h1
    have e1 : d2 = y0 :: l0 := e1
    subst e1
    have hy : y0 < 1000 := h2 y0 List.mem_cons_self
    have w : wk r (y0 :: l0) = ((wk r l0).1, (y0, 0) :: (wk r l0).2) := by
      rw [wk, Nat.ble_eq.mpr (show r ≤ rkn y0 by rw [← rk_eq hy, ← e2]; omega)]
    subst e2
    have r80 : I1 80 = I 80 := by rw [e]; rfl
    have r83 : I1 83 = I 83 := by rw [e]; rfl
    have b0 : OSe (uI I 67 25 v) E := b.eq rfl rfl rfl
    have b1 : OSe I1 (E ++ [(y0, 0)]) := by
      rw [e]
      exact b0.emit (n := 0) e5 ho (Or.inr rfl)
    have z := h ((d1, l0) :: D) (E ++ [(y0, 0)]) ⟨⟨e3, fun x hx => h2 x (List.mem_cons_of_mem _ hx)⟩, fun q => by rw [r80]; exact h3 q, fun q => by rw [r83]; exact h4 q, h5.eq r80 r83⟩ b1
    unfold wkD at z ⊢
    dsimp only at z ⊢
    rw [w]
    rw [List.append_assoc] at z
    exact z
theorem opK_S : ∀ G : TG, opK (KS G) = opN G
  | [] => rfl
  | f :: G => by
    show (if f.1 = 3 ∨ f.1 = 6 ∨ f.1 = 7 ∨ f.1 = 8 then 1 else 0) + opK (KS G) = _
    rw [opK_S G]
    rfl
theorem cl78_n {k : Nat} {a : List Int32} {G : TG} (h : ¬ (k = 7 ∨ k = 8)) : KS ((k, a) :: G) = cl78 (KS ((k, a) :: G)) := by
  show k :: KS G = cl78 (k :: KS G)
  rw [cl78, beqf (fun z => h (Or.inl z)), beqf (fun z => h (Or.inr z))]
  rfl
theorem us_next (l : Launch) (T : Nat) (hT : T ≤ 300) (ru ta : Nat) (rs : List XO) (I0 : XI) (hs : shO CF (shH ru ta rs)) (hi : ivO CF [] I0) (hq : QQ I0) (d : Nat) (G : TG) (x b : Nat) (I : XI) (J : XJ) (Rp : XR) (h : ST I0 I G T x (b + 1)) (h0 : I 67 17 ≠ 0) (hR : ∀ (I' : XI) (J' : XJ), ST I0 I' G T x b → EQT I I' → rm I' T < rm I T → NRT I0 T I I' → Rp none (shH ru ta rs) I' J') : xm l (d + 4) 0 0 mX12_next [.ref 67] (shH ru ta rs) I J Rp := by
  obtain ⟨at_, n, w, o, c, op, e1, e2, _, _, _, _, _, _, _, c3, _⟩ := id h.2.2
  refine ux_next l d T ru ta rs I J Rp at_ hT e1 e2 c3.1 (fun I' qe => ?_)
  have q := qe.nx e2 c3.1
  refine hR I' J ⟨EQT.tf h.1 q.1, by rw [q.1.2 19 (by omega)]; exact h.2.1, TX_next hT h.2.2 h0 q⟩ q.1 (rm_nx hT h0 q) (fun a ha ea => ?_)
  have e : a = at_ := nI_small (ea.symm.trans e2) ha (by omega)
  rw [e, ← h.1.1 70 (by decide)]
  exact qe.2
set_option maxRecDepth 100000 in
/-- a number or a name -/
theorem us_num (l : Launch) (d T : Nat) (ru ta : Nat) (rs : List XO) (I0 : XI) (G : TG) (b : Nat) (hb : b < 400) (I : XI) (J : XJ) (Rp : XR) (y v : Int32) (hy : y = 400 ∨ (y = 401 ∧ 0 ≤ v.toInt ∧ v.toInt ≤ 10)) (hG : wN G + rN G < 200) (h : ST I0 I G T 0 b) (yn vn : Nat) (hyn : y = nI yn) (hvn : v = nI vn) (hR : ∀ I', ST I0 I' G T 1 (b + 1) → KX I I' → OTr I I' G G (fun D E => (D, E ++ [(yn, vn)])) → Rp none (shH ru ta rs) I' J) : xm l (d + 1) 0 0 mX12_emits [.ref 67, .int y, .int v] (shH ru ta rs) I J Rp := by
  obtain ⟨tf, hw, at_, n, w, o, c, op, e1, e2, e3, e4, e5, e6, e7, c1, c2, c3, c4, c5, c6, c7⟩ := h
  have hl := Rep_len c1
  refine tx_emits l d o (by omega) y v ru ta rs I J Rp e5 ?_
  refine hR (emI I o y v) ⟨tf.em o y v, hw, at_, n, w, o + 1, c, op, e1, e2, e3, e4, rfl, e6, e7, ?_⟩ ⟨⟨rfl, rfl, rfl, rfl⟩, rfl, rfl, rfl, rfl⟩ (fun D E a b => ⟨a.eq rfl rfl, by rw [hyn]; exact b.emit e5 (by omega) (Or.inr hvn)⟩)
  refine ⟨c1, c2, c3, ?_, pg_emit c5 (Or.inl ⟨hy, by omega, by omega⟩), dn_emit c6, c7⟩
  show o + 1 + w + wtN G + (if I 67 17 = 0 then 0 else 1) + (T - at_) ≤ b + 1
  omega
set_option maxRecDepth 100000 in
set_option maxHeartbeats 1000000 in
theorem us_works_loop (l : Launch) (d T : Nat) (ru ta : Nat) (rs : List XO) (I0 : XI) (k : Nat) (G : TG) (b q r : Nat) (hb : b < 400) (hr : r < 100) (hG : wN G + G.length < 70) (J : XJ) (Rp : XR) : ∀ (a : List Int32) (N : Nat) (I : XI), a.length ≤ 4 → a.length < N → OPS q a → ST I0 I ((k, a) :: G) T 1 b → (∀ I' a', ST I0 I' ((k, a') :: G) T 1 b → OPS q a' → (∀ y, y ∈ a' → rkN y < r) → KX I I' → OTr I I' ((k, a) :: G) ((k, a') :: G) (wkD r) → Rp none (shH ru ta rs) I' J) → xrun xxX12 none false false (shH ru ta rs).length 0 0 none l (d + 1) tX12_works [0] Rp N 0 [some (.ref 67), some (.int (nI r))] [] (shH ru ta rs) I J 0 0 := by
  intro a
  induction a with
  | nil =>
    intro N I h4 hN ho h hR
    obtain ⟨N, rfl⟩ : ∃ n', N = n' + 1 := ⟨N - 1, by simp at hN; omega⟩
    have out := hR I [] h ho (fun y hy => by cases hy) KX.rf OTr.w0
    obtain ⟨tf, hw, at_, n, w, o, c, op, e1, e2, e3, e4, e5, e6, e7, c1, c2, c3, c4, c5, c6, c7⟩ := h
    obtain ⟨n1, w0, f1, f2, f3, f4, f5⟩ := c1
    have f4 : w = w0 := f4
    subst f4
    have hl := Rep_len f5
    refine xrun_step fun K hK => ?_
    refine And.intro (fun _ => out) (fun hpos => ?_)
    have hw0 : 0 < w := by
      rcases Nat.eq_zero_or_pos w with z | z
      · exfalso
        refine hpos ?_
        show I 67 25 ≤ 0
        rw [e4, z]
        exact Int32.le_refl _
      · exact z
    obtain ⟨w1, rfl⟩ : ∃ w1, w = w1 + 1 := ⟨w - 1, by omega⟩
    have ew : I 67 25 - nI 1 = nI w1 := by rw [e4]; exact nI_pred w1
    have vw : vp_in (I 67 25 - nI 1) 80 := by rw [ew]; exact vp_in_nI (by omega) (by omega)
    obtain ⟨n', g1, g2⟩ := Rep_top f5
    refine And.intro vw (And.intro (fun _ => out) (fun heq => ?_))
    exfalso
    have heq : I 82 (I 67 25 - nI 1).toNatClampNeg = I 67 22 := heq
    rw [ew, nI_clamp (by omega), g1, e3] at heq
    have := nI_small heq (by omega) (by omega)
    omega
  | cons y a ih =>
    intro N I h4 hN ho h hR
    simp only [List.length_cons] at h4 hN
    obtain ⟨N, rfl⟩ : ∃ n', N = n' + 1 := ⟨N - 1, by omega⟩
    have h0 := h
    obtain ⟨tf, hw, at_, n, w, o, c, op, e1, e2, e3, e4, e5, e6, e7, c1, c2, c3, c4, c5, c6, c7⟩ := h
    obtain ⟨n1, w0, f1, f2, f3, ⟨w1, rfl, g1, g2, g3⟩, f5⟩ := c1
    have hl := Rep_len f5
    have hl2 := RepO_len g3
    have ew : I 67 25 - nI 1 = nI w1 := by rw [e4]; exact nI_pred w1
    have vw : vp_in (I 67 25 - nI 1) 80 := by rw [ew]; exact vp_in_nI (by omega) (by omega)
    have ey : I 81 (I 67 25 - nI 1).toNatClampNeg = y := by rw [ew, nI_clamp (by omega)]; exact g1
    refine xrun_step fun K hK => ?_
    refine And.intro (fun hz => ?_) (fun _ => And.intro vw (And.intro (fun hne => ?_) (fun _ => And.intro vw ?_)))
    · exfalso
      have hz : I 67 25 ≤ 0 := hz
      rw [e4] at hz
      exact nI_nle (by omega) (by omega) hz
    · exfalso
      refine hne ?_
      show I 82 (I 67 25 - nI 1).toNatClampNeg = I 67 22
      rw [ew, nI_clamp (by omega), g2, e3]
    · refine tx_rank l d (I 81 (I 67 25 - nI 1).toNatClampNeg) _ _ _ _ ?_
      rw [ey]
      have rk4 := rkN_le y
      refine And.intro (fun hlt => ?_) (fun hge => ?_)
      · have hlt : nI (rkN y) < nI r := hlt
        have hlt := (nI_ltI (by omega) (by omega)).mp hlt
        exact hR I (y :: a) h0 ho (fun z hz => by
          rcases List.mem_cons.mp hz with e | hz
          · rw [e]
            exact hlt
          · exact Nat.lt_trans (ho.2.2.1 z hz) hlt) KX.rf (OTr.wlt hlt)
      · have hge : ¬ nI (rkN y) < nI r := hge
        rw [nI_ltI (by omega) (by omega)] at hge
        have ev : (I 67 25 - nI 1) = nI w1 := ew
        have vw2 : vp_in (uI I 67 25 (I 67 25 - nI 1) 67 25) 80 := vw
        refine And.intro vw2 ?_
        have es : I 81 (uI I 67 25 (I 67 25 - nI 1) 67 25).toNatClampNeg = y := ey
        refine tx_emits l d o (by omega) _ 0 ru ta rs _ J _ e5 ?_
        refine hK 0 [some (.ref 67), some (.int (nI r))] [] (shH ru ta rs) (emI (uI I 67 25 (I 67 25 - nI 1)) o (I 81 (uI I 67 25 (I 67 25 - nI 1) 67 25).toNatClampNeg) 0) J 0 0 ?_
        rw [es, ew]
        refine ih N _ (by omega) (by omega) ho.2.2.2 ⟨(tf.u (p := 67) rfl (fun _ => by omega)).em o y 0, hw, at_, n, w1, o + 1, c, op, e1, e2, e3, rfl, rfl, e6, e7, ⟨⟨n1, w0, f1, f2, f3, g3, f5⟩, c2, c3, ?_, pg_emit c5 (Or.inr (Or.inr ⟨ho.1, by omega, ?_⟩)), dn_emit c6, c7⟩⟩ (fun I' a' k1 k2 k3 k4 k5 => hR I' a' k1 k2 k3 (KX.tr ⟨⟨rfl, rfl, rfl, rfl⟩, rfl, rfl, rfl, rfl⟩ k4) (OTr.wge hge e5 (by omega) rfl k5))
        · show o + 1 + w1 + wtN ((k, a) :: G) + (if I 67 17 = 0 then 0 else 1) + (T - at_) ≤ b
          have : wtN ((k, a) :: G) = wtN ((k, y :: a) :: G) := rfl
          omega
        · have : rN ((k, a) :: G) = rN ((k, y :: a) :: G) := rfl
          omega
set_option maxRecDepth 100000 in
theorem us_works (l : Launch) (d T : Nat) (ru ta : Nat) (rs : List XO) (I0 : XI) (k : Nat) (G : TG) (b q r : Nat) (hb : b < 400) (hr : r < 100) (hG : wN G + G.length < 70) (J : XJ) (Rp : XR) (a : List Int32) (I : XI) (h4 : a.length ≤ 4) (ho : OPS q a) (h : ST I0 I ((k, a) :: G) T 1 b) (hR : ∀ I' a', ST I0 I' ((k, a') :: G) T 1 b → OPS q a' → (∀ y, y ∈ a' → rkN y < r) → KX I I' → OTr I I' ((k, a) :: G) ((k, a') :: G) (wkD r) → Rp none (shH ru ta rs) I' J) : xm l (d + 2) 0 0 mX12_works [.ref 67, .int (nI r)] (shH ru ta rs) I J Rp :=
  xm_of (X := xxX12) (t := tX12_works) (stop := [0]) (ini := false) (n := 10) xx12 pl12 rfl kX12_works (fun h => by cases h) (Nat.le_of_ble_eq_true rfl) (us_works_loop l d T ru ta rs I0 k G b q r hb hr hG J Rp a 10 I h4 (by omega) ho h hR)
def wtD (y : Nat) (D : Fdr) (E : List Odr) : Fdr × List Odr := match D with
  | [] => ([], E)
  | d :: D => ((d.1, y :: (wk (rkn y) d.2).1) :: D, E ++ (wk (rkn y) d.2).2)
theorem OTr.wait {I I1 I2 : XI} {k yn : Nat} {y : Int32} {a a1 : List Int32} {G : TG} (h : OTr I I1 ((k, a) :: G) ((k, a1) :: G) (wkD (rkn yn))) (hy : y = nI yn) (hy1 : yn < 1000) (e80 : I2 80 = I1 80) (e83 : I2 83 = I1 83) (e37 : I2 67 37 = I1 67 37) (e89 : I2 89 = I1 89) (e90 : I2 90 = I1 90) : OTr I I2 ((k, a) :: G) ((k, y :: a1) :: G) (wtD yn) := fun D E g b => by
  have z := h D E g b
  cases D with
  | nil => exact g.elim
  | cons d D =>
    obtain ⟨⟨⟨h1, h2⟩, h3, h4, h5⟩, h6⟩ := z
    have h1 : a1 = (wk (rkn yn) d.2).1.map nI := h1
    refine ⟨⟨⟨?_, fun x hx => ?_⟩, fun q => by rw [e80]; exact h3 q, fun q => by rw [e83]; exact h4 q, h5.eq e80 e83⟩, h6.eq e37 e89 e90⟩
    · show y :: a1 = (yn :: (wk (rkn yn) d.2).1).map nI
      rw [List.map_cons, hy, h1]
    · have hx : x ∈ yn :: (wk (rkn yn) d.2).1 := hx
      rcases List.mem_cons.mp hx with q | q
      · rw [q]
        exact hy1
      · exact h2 x q
set_option maxRecDepth 100000 in
set_option maxHeartbeats 1000000 in
theorem us_waitsFor (l : Launch) (T : Nat) (hT : T ≤ 300) (ru ta : Nat) (rs : List XO) (I0 : XI) (hs : shO CF (shH ru ta rs)) (hi : ivO CF [] I0) (hq : QQ I0) (d : Nat) (k : Nat) (G : TG) (b q : Nat) (hb : b < 400) (hq1 : 1 ≤ q) (hG : wN G + G.length < 70) (a : List Int32) (ho : OPS q a) (y : Int32) (hy : isBin y) (hyq : q ≤ rkN y) (yn : Nat) (hyn : y = nI yn) (hy1 : yn < 1000) (I : XI) (J : XJ) (Rp : XR) (h : ST I0 I ((k, a) :: G) T 1 b) (h0 : I 67 17 ≠ 0) (hR : ∀ (I' : XI) (J' : XJ) (a' : List Int32), ST I0 I' ((k, a') :: G) T 0 b → OPS q a' → I' 67 28 = I 67 28 → rm I' T < rm I T → NK I0 T I I' → (∃ z, a' = y :: z) → OTr I I' ((k, a) :: G) ((k, a') :: G) (wtD yn) → Rp none (shH ru ta rs) I' J') : xm l (d + 5) 0 0 mX12_waitsFor [.ref 67, .int y] (shH ru ta rs) I J Rp := by
  refine xm_ofK 0 (X := xxX12) (t := tX12_waitsFor) (stop := []) (ini := false) xx12 pl12 rfl kX12_waitsFor (fun h => by cases h) (Nat.le_of_ble_eq_true rfl) (fun K hK => ?_)
  refine tx_rank l (d + 3) y _ _ _ _ ?_
  have rk4 := rkN_le y
  refine us_works l (d + 2) T ru ta rs I0 k G b q (rkN y) hb (by omega) hG J _ a I (OPS_4 hq1 ho) ho h (fun I1 a1 s1 o1 lt1 k1 ot1 => ?_)
  obtain ⟨tf, hw, at_, n, w, o, c, op, e1, e2, e3, e4, e5, e6, e7, c1, c2, c3, c4, c5, c6, c7⟩ := s1
  have hl := Rep_len c1
  obtain ⟨n1, w0, f1, f2, f3, f4, f5⟩ := c1
  have hl1 := RepO_len f4
  have hl5 := Rep_len f5
  have h4 := OPS_4 hq1 o1
  have vw : vp_in (I1 67 25) 80 := by rw [e4]; exact vp_in_nI (by omega) (by omega)
  refine And.intro vw (And.intro vw ?_)
  have s2 : ST I0 (uI (uI (uI I1 81 w y) 82 w (nI n)) 67 25 (nI (w + 1))) ((k, y :: a1) :: G) T 0 (b + 1) := by
    refine ⟨((tf.u (p := 81) rfl (fun z => by cases z)).u (p := 82) rfl (fun z => by cases z)).u (p := 67) rfl (fun _ => by omega), hw, at_, n, w + 1, o, c, op, e1, e2, e3, rfl, e5, e6, e7, ⟨⟨n1, w0, f1, f2, f3, ⟨w, rfl, pk_us, pk_us, RepO_up f4 (fun i hi => ⟨pk_un (by omega), pk_un (by omega)⟩)⟩, Rep_up f5 (fun _ _ => rfl) (fun _ _ => rfl) (fun i hi => ⟨pk_un (by omega), pk_un (by omega)⟩)⟩, c2, c3, ?_, ?_, c6, c7⟩⟩
    · show o + (w + 1) + wtN ((k, y :: a1) :: G) + (if I1 67 17 = 0 then 0 else 1) + (T - at_) ≤ b + 1
      have : wtN ((k, y :: a1) :: G) = wtN ((k, a1) :: G) := rfl
      omega
    · have : rN ((k, y :: a1) :: G) = rN ((k, a1) :: G) := rfl
      rw [show w + 1 + rN ((k, y :: a1) :: G) + 0 = w + rN ((k, a1) :: G) + 1 by omega]
      exact c5
  have eI : uI (uI (uI I1 81 (I1 67 25).toNatClampNeg y) 82 (I1 67 25).toNatClampNeg (I1 67 22)) 67 25 (I1 67 25 + nI 1) = uI (uI (uI I1 81 w y) 82 w (nI n)) 67 25 (nI (w + 1)) := by rw [e4, e3, nI_clamp (by omega), nI_add]
  show xm l (d + 4) 0 0 mX12_next [.ref 67] (shH ru ta rs) (uI (uI (uI I1 81 (I1 67 25).toNatClampNeg y) 82 (I1 67 25).toNatClampNeg (I1 67 22)) 67 25 (I1 67 25 + nI 1)) J _
  rw [eI]
  refine us_next l T hT ru ta rs I0 hs hi hq d ((k, y :: a1) :: G) 0 b _ J _ s2 (by show I1 67 17 ≠ 0; rw [k1.1.1]; exact h0) (fun I2 J2 s3 q3 r3 n3 => ?_)
  refine hR I2 J2 (y :: a1) s3 ⟨hy, hyq, lt1, o1⟩ (by rw [q3.2 28 (by omega)]; exact k1.1.2.2.1) ?_ (NK.pre (I1 := uI (uI (uI I1 81 w y) 82 w (nI n)) 67 25 (nI (w + 1))) (KQ.tr k1.kq ⟨⟨rfl, rfl, rfl⟩, rfl, rfl, rfl, rfl⟩) (NK.of q3 n3)) ⟨a1, rfl⟩ ((by rw [hyn, rk_eq hy1] at ot1; exact ot1.wait (I2 := uI (uI (uI I1 81 w y) 82 w (nI n)) 67 25 (nI (w + 1))) hyn hy1 rfl rfl rfl rfl rfl : OTr I (uI (uI (uI I1 81 w y) 82 w (nI n)) 67 25 (nI (w + 1))) ((k, a) :: G) ((k, y :: a1) :: G) (wtD yn)).tr (OTr.eqt q3))
  have r4 : rm (uI (uI (uI I1 81 w y) 82 w (nI n)) 67 25 (nI (w + 1))) T = rm I T := rm_of k1.1.1 k1.1.2.2.2
  omega
set_option maxRecDepth 100000 in
set_option maxHeartbeats 1000000 in
/-- a sign that opens a frame -/
theorem us_opensSign (l : Launch) (T : Nat) (hT : T ≤ 300) (ru ta : Nat) (rs : List XO) (I0 : XI) (hs : shO CF (shH ru ta rs)) (hi : ivO CF [] I0) (hq : QQ I0) (d : Nat) (G : TG) (b : Nat) (hb : b < 400) (hG : G.length < 20) (hop : opN G ≤ 8) (k : Nat) (hk : k = 3 ∨ k = 6 ∨ k = 7 ∨ k = 8) (I : XI) (J : XJ) (Rp : XR) (h : ST I0 I G T 0 b) (h0 : I 67 17 ≠ 0) (hE : ∀ I', FER I I' 3 → opN G = 8 → Rp (some (.int 0)) (shH ru ta rs) I' J) (hR : ∀ (I' : XI) (J' : XJ), ST I0 I' ((k, []) :: G) T 0 b → opN G < 8 → I' 67 28 = I 67 28 → rm I' T < rm I T → NK I0 T I I' → OTr I I' G G (fun D E => (D, E)) → Rp (some (.int 1)) (shH ru ta rs) I' J') : xm l (d + 5) 0 0 mX12_opensSign [.ref 67, .int (nI k)] (shH ru ta rs) I J Rp := by
  obtain ⟨tf, hw, at_, n, w, o, c, op, e1, e2, e3, e4, e5, e6, e7, c1, c2, c3, c4, c5, c6, c7⟩ := h
  have hl := Rep_len c1
  have k5 : k ≠ 5 := by omega
  have hopk : opN ((k, []) :: G) = opN G + 1 := by
    rcases hk with rfl | rfl | rfl | rfl <;> simp [opN] <;> omega
  have hwt : wtN ((k, []) :: G) ≤ wtN G + 1 := by
    rcases hk with rfl | rfl | rfl | rfl <;> simp [wtN] <;> omega
  have hrn : rN ((k, []) :: G) = rN G := by
    rcases hk with rfl | rfl | rfl | rfl <;> simp [rN]
  refine xm_ofK 0 (X := xxX12) (t := tX12_opensSign) (stop := []) (ini := false) xx12 pl12 rfl kX12_opensSign (fun h => by cases h) (Nat.le_of_ble_eq_true rfl) (fun K hK => ?_)
  refine And.intro (fun hne => ?_) (fun h88 => ?_)
  · have h8 : opN G < 8 := by
      rcases Nat.lt_or_ge (opN G) 8 with z | z
      · exact z
      · exfalso
        refine hne ?_
        show I 67 21 = nI 8
        rw [e7, c2, show opN G = 8 by omega]
    have ef : uI I 67 21 (I 67 21 + nI 1) = uI I 67 21 (nI (op + 1)) := by rw [e7, nI_add]
    show xm l (d + 4) 0 0 mX12_opensFrame [.ref 67, .int (nI k)] (shH ru ta rs) (uI I 67 21 (I 67 21 + nI 1)) J _
    rw [ef]
    refine tx_opensFrame l (d + 3) n (by omega) (nI k) ru ta rs _ J _ e3 ?_
    have s2 : ST I0 (ofI (uI I 67 21 (nI (op + 1))) n (nI k)) ((k, []) :: G) T 0 (b + 1) := by
      refine ⟨((tf.u (p := 67) rfl (fun _ => by omega)).u (p := 79) rfl (fun z => by cases z)).u (p := 67) rfl (fun _ => by omega), hw, at_, n + 1, w, o, c, op + 1, e1, e2, rfl, e4, e5, e6, rfl, ⟨⟨n, w, rfl, pk_us, fun z => absurd z k5, rfl, Rep_up c1 (fun i hi => pk_un (by omega)) (fun _ _ => rfl) (fun _ _ => ⟨rfl, rfl⟩)⟩, by omega, c3, ?_, ?_, c6, c7⟩⟩
      · show o + w + wtN ((k, []) :: G) + (if I 67 17 = 0 then 0 else 1) + (T - at_) ≤ b + 1
        omega
      · rw [hrn]
        exact c5
    refine us_next l T hT ru ta rs I0 hs hi hq d ((k, []) :: G) 0 b _ J _ s2 h0 (fun I2 J2 s3 q3 r3 n3 => ?_)
    have r4 : rm (ofI (uI I 67 21 (nI (op + 1))) n (nI k)) T = rm I T := rm_of rfl rfl
    exact And.intro (Or.inr rfl) (hR I2 J2 s3 h8 (by rw [q3.2 28 (by omega)]; rfl) (by omega) (NK.pre (I1 := ofI (uI I 67 21 (nI (op + 1))) n (nI k)) ⟨⟨rfl, rfl, rfl⟩, rfl, rfl, rfl, rfl⟩ (NK.of q3 n3)) ((OTr.rf (I := I) (I' := ofI (uI I 67 21 (nI (op + 1))) n (nI k)) (G := G) rfl rfl rfl rfl rfl).tr (OTr.eqt q3)))
  · have h88 : I 67 21 = nI 8 := h88
    rw [e7, c2] at h88
    refine ux_errs l (d + 3) 3 (by decide) ru ta rs I J _ (fun I' e => ?_)
    exact And.intro (Or.inl rfl) (hE I' e (nI_small h88 (by omega) (by omega)))
theorem OTr.top {I I' : XI} {k : Nat} {a : List Int32} {G : TG} (h : ¬ (k = 7 ∨ k = 8)) (e80 : I' 80 = I 80) (e83 : I' 83 = I 83) (e37 : I' 67 37 = I 67 37) (e89 : I' 89 = I 89) (e90 : I' 90 = I 90) : OTr I I' ((k, a) :: G) ((k, a) :: G) (x78 (KS ((k, a) :: G))) := fun D E g b => by
  cases D with
  | nil => exact g.elim
  | cons d D =>
    have x : x78 (KS ((k, a) :: G)) (d :: D) E = (d :: D, E) := by
      show x78 (k :: KS G) (d :: D) E = _
      rw [x78, beqf (fun z => h (Or.inl z)), beqf (fun z => h (Or.inr z))]
    rw [x]
    exact ⟨OSf.eq g e80 e83, b.eq e37 e89 e90⟩
theorem OTr.o78 {I I' : XI} {k o n1 : Nat} {G G' : TG} {y v a b : Int32} (e5 : I 67 37 = nI o) (ho : o < 400) (hy : (y = 402 ∧ k = 7) ∨ (y = 403 ∧ k = 8 ∧ v = I 83 n1)) (hn : n1 = G.length) (h : OTr (uI (uI (emI I o y v) 67 22 a) 67 21 b) I' G G' (x78 (KS G))) : OTr I I' ((k, []) :: G) G' (x78 (KS ((k, []) :: G))) := fun D E g c => by
  cases D with
  | nil => exact g.elim
  | cons d D =>
    obtain ⟨⟨_, _⟩, h3, h4, h5⟩ := g
    have f1 : OSf (uI (uI (emI I o y v) 67 22 a) 67 21 b) G D := h5.eq rfl rfl
    rcases hy with ⟨rfl, rfl⟩ | ⟨rfl, rfl, hv⟩
    · have x : x78 (KS ((7, []) :: G)) (d :: D) E = x78 (KS G) D (E ++ [(402, 0)]) := rfl
      rw [x]
      exact h D _ f1 ((c.emit (y := 402) (n := 0) e5 ho (Or.inl rfl)).eq rfl rfl rfl)
    · have x : x78 (KS ((8, []) :: G)) (d :: D) E = x78 (KS G) D (E ++ [(403, d.1)]) := rfl
      rw [x]
      exact h D _ f1 ((c.emit (y := 403) (n := d.1) e5 ho (Or.inr (by rw [hv, hn]; exact h4 rfl))).eq rfl rfl rfl)
theorem OTr.o3 {I I' : XI} {o : Nat} {G G' : TG} {a b : Int32} (e5 : I 67 37 = nI o) (ho : o < 400) (h : OTr (emI (uI (uI I 67 22 a) 67 21 b) o 405 0) I' G G' (x3 (KS G))) : OTr I I' ((3, []) :: G) G' (x3 (KS ((3, []) :: G))) := fun D E g c => by
  cases D with
  | nil => exact g.elim
  | cons d D =>
    obtain ⟨⟨_, _⟩, h3, h4, h5⟩ := g
    have f1 : OSf (emI (uI (uI I 67 22 a) 67 21 b) o 405 0) G D := h5.eq rfl rfl
    have c1 : OSe (uI (uI I 67 22 a) 67 21 b) E := c.eq rfl rfl rfl
    have x : x3 (KS ((3, []) :: G)) (d :: D) E = x3 (KS G) D (E ++ [(405, 0)]) := rfl
    rw [x]
    exact h D _ f1 (c1.emit (y := 405) (n := 0) e5 ho (Or.inr rfl))
theorem OTr.top2 {I I' : XI} {a : List Int32} {G : TG} (e80 : I' 80 = I 80) (e83 : I' 83 = I 83) (e37 : I' 67 37 = I 67 37) (e89 : I' 89 = I 89) (e90 : I' 90 = I 90) : OTr I I' ((2, a) :: G) ((2, a) :: G) (x3 (KS ((2, a) :: G))) := fun D E g b => by
  cases D with
  | nil => exact g.elim
  | cons d D =>
    have x : x3 (KS ((2, a) :: G)) (d :: D) E = (d :: D, E) := rfl
    rw [x]
    exact ⟨OSf.eq g e80 e83, b.eq e37 e89 e90⟩
set_option maxRecDepth 100000 in
set_option maxHeartbeats 2000000 in
theorem us_one_loop (l : Launch) (d T : Nat) (ru ta : Nat) (rs : List XO) (I0 : XI) (b : Nat) (hb : b < 400) (J : XJ) (Rp : XR) : ∀ (G : TG) (N : Nat) (I : XI), G.length < 20 → G.length < N → Sh1 G → ST I0 I G T 1 b → (∀ I' G', ST I0 I' G' T 1 b → Sh1 G' → top78 G' → opN G' ≤ opN G → I' 67 28 = 2 → rm I' T = rm I T → KQ I I' → KS G' = cl78 (KS G) → OTr I I' G G' (x78 (KS G)) → Rp none (shH ru ta rs) I' J) → xrun xxX12 none false false (shH ru ta rs).length 0 0 none l (d + 1) tX12_oneIsOver [0] Rp N 0 [some (.ref 67)] [] (shH ru ta rs) I J 0 0 := by
  intro G
  induction G with
  | nil =>
    intro N I _ _ h1
    exact h1.elim
  | cons f G ih =>
    intro N I h20 hN h1 h hR
    obtain ⟨k, a⟩ := f
    simp only [List.length_cons] at h20 hN
    obtain ⟨N, rfl⟩ : ∃ n', N = n' + 1 := ⟨N - 1, by omega⟩
    have h0 := h
    obtain ⟨tf, hw, at_, n, w, o, c, op, e1, e2, e3, e4, e5, e6, e7, c1, c2, c3, c4, c5, c6, c7⟩ := h
    obtain ⟨n1, w0, rfl, f2, f3, f4, f5⟩ := c1
    have hl := Rep_len f5
    have hl4 := RepO_len f4
    have et : ∀ (Rq : XR), Rq (some (.int (nI k))) (shH ru ta rs) I J → xm l (d + 1) 0 0 mX12_top [.ref 67] (shH ru ta rs) I J Rq := fun Rq hq => tx_top l d n1 (by omega) ru ta rs I J Rq e3 (by rw [f2]; exact hq)
    have ek : ∀ m, k < 100 → m < 100 → nI k = nI m → k = m := fun m h1 h2 h3 => nI_small h3 (by omega) (by omega)
    have hk100 : k < 100 := by
      rcases h1 with ⟨rfl, _⟩ | ⟨z, _⟩ | ⟨rfl, _⟩ | ⟨z, _⟩ <;> omega
    refine xrun_step fun K hK => ?_
    by_cases h78 : k = 7 ∨ k = 8
    · -- one of both: an order, a frame less
      have ha : a = [] ∧ Sh1 G := by
        rcases h1 with ⟨z, _⟩ | ⟨z, _⟩ | ⟨z, _⟩ | ⟨_, z1, z2⟩
        · omega
        · omega
        · omega
        · exact ⟨z1, z2⟩
      obtain ⟨rfl, hG⟩ := ha
      have f4 : w = w0 := f4
      subst f4
      have hopk : opN ((k, []) :: G) = opN G + 1 := by
        rcases h78 with rfl | rfl <;> simp [opN] <;> omega
      have hwt : wtN ((k, []) :: G) = wtN G + 1 := by
        rcases h78 with rfl | rfl <;> simp [wtN] <;> omega
      have hrn : rN ((k, []) :: G) = rN G := by
        rcases h78 with rfl | rfl <;> simp [rN]
      have go : ∀ (y v : Int32), ((y = 402 ∧ k = 7) ∨ (y = 403 ∧ k = 8 ∧ v = I 83 n1)) → xrun xxX12 none false false (shH ru ta rs).length 0 0 none l (d + 1) tX12_oneIsOver [0] Rp N 0 [some (.ref 67)] [] (shH ru ta rs) (uI (uI (emI I o y v) 67 22 (I 67 22 - nI 1)) 67 21 (I 67 21 - nI 1)) J 0 0 := by
        intro y v hy
        have en : I 67 22 - nI 1 = nI n1 := by rw [e3]; exact nI_pred n1
        have eo : I 67 21 - nI 1 = nI (opN G) := by rw [e7, c2, hopk]; exact nI_pred (opN G)
        rw [en, eo]
        refine ih N _ (by omega) (by omega) hG ⟨((tf.em o y v).u (p := 67) rfl (fun _ => by omega)).u (p := 67) rfl (fun _ => by omega), hw, at_, n1, w, o + 1, c, opN G, e1, e2, rfl, e4, rfl, e6, rfl, ⟨f5, rfl, c3, ?_, pg_emit c5 (Or.inr (Or.inl ⟨by rcases hy with ⟨rfl, _⟩ | ⟨rfl, _⟩ <;> simp, by omega, by omega⟩)), dn_emit c6, c7⟩⟩ (fun I' G' z1 z2 z3 z4 z5 z6 z7 z8 z9 => hR I' G' z1 z2 z3 (by omega) z5 (by rw [z6]; exact rm_of rfl rfl) (KQ.tr ⟨⟨rfl, rfl, rfl⟩, rfl, rfl, rfl, rfl⟩ z7) (by rw [z8]; rcases h78 with rfl | rfl <;> rfl) (OTr.o78 e5 (by omega) hy hl.1 z9))
        show o + 1 + w + wtN G + (if I 67 17 = 0 then 0 else 1) + (T - at_) ≤ b
        omega
      have vp : vp_in (I 67 22 - nI 1) 40 := by
        rw [e3, show nI (n1 + 1) - nI 1 = nI n1 from nI_pred n1]
        exact vp_in_nI (by omega) (by omega)
      refine et _ ?_
      rcases h78 with rfl | rfl
      · refine And.intro (fun _ => ?_) (fun h => absurd rfl h)
        refine et _ ?_
        refine And.intro (fun h => absurd rfl h) (fun _ => And.intro vp ?_)
        refine tx_emits l d o (by omega) 402 _ ru ta rs I J _ e5 ?_
        exact hK 0 [some (.ref 67)] [] (shH ru ta rs) _ J 0 0 (go 402 _ (Or.inl ⟨rfl, rfl⟩))
      · refine And.intro (fun h => absurd h (by decide)) (fun _ => ?_)
        refine et _ ?_
        refine And.intro (fun h => absurd rfl h) (fun _ => ?_)
        refine et _ ?_
        refine And.intro (fun _ => And.intro vp ?_) (fun h => absurd h (by decide))
        refine tx_emits l d o (by omega) 403 _ ru ta rs I J _ e5 ?_
        exact hK 0 [some (.ref 67)] [] (shH ru ta rs) _ J 0 0 (go 403 _ (Or.inr ⟨rfl, rfl, (congrArg (fun z : Int32 => I 83 z.toNatClampNeg) (show I 67 22 - nI 1 = nI n1 by rw [e3]; exact nI_pred n1)).trans (by show I 83 (nI n1).toNatClampNeg = I 83 n1; rw [nI_clamp (by omega)])⟩))
    · have n7 : ¬ nI k = nI 7 := fun z => h78 (Or.inl (ek 7 hk100 (by omega) z))
      have n8 : ¬ nI k = nI 8 := fun z => h78 (Or.inr (ek 8 hk100 (by omega) z))
      refine et _ ?_
      refine And.intro (fun h => absurd h n7) (fun _ => ?_)
      refine et _ ?_
      refine And.intro (fun _ => ?_) (fun h => absurd h n8)
      refine hR (uI I 67 28 2) ((k, a) :: G) ⟨tf.u (p := 67) rfl (fun _ => by omega), hw, at_, n1 + 1, w, o, c, op, e1, e2, e3, e4, e5, e6, e7, ⟨⟨n1, w0, rfl, f2, f3, f4, f5⟩, c2, c3, c4, c5, c6, c7⟩⟩ h1 ⟨fun z => h78 (Or.inl z), fun z => h78 (Or.inr z)⟩ (Nat.le_refl _) rfl (rm_of rfl rfl) ⟨⟨rfl, rfl, rfl⟩, rfl, rfl, rfl, rfl⟩ (cl78_n h78) (OTr.top h78 rfl rfl rfl rfl rfl)
set_option maxRecDepth 100000 in
theorem us_oneIsOver (l : Launch) (d T : Nat) (ru ta : Nat) (rs : List XO) (I0 : XI) (b : Nat) (hb : b < 400) (J : XJ) (Rp : XR) (G : TG) (I : XI) (h20 : G.length < 20) (h1 : Sh1 G) (h : ST I0 I G T 1 b) (hR : ∀ I' G', ST I0 I' G' T 1 b → Sh1 G' → top78 G' → opN G' ≤ opN G → I' 67 28 = 2 → rm I' T = rm I T → KQ I I' → KS G' = cl78 (KS G) → OTr I I' G G' (x78 (KS G)) → Rp none (shH ru ta rs) I' J) : xm l (d + 2) 0 0 mX12_oneIsOver [.ref 67] (shH ru ta rs) I J Rp :=
  xm_of (X := xxX12) (t := tX12_oneIsOver) (stop := [0]) (ini := false) (n := 40) xx12 pl12 rfl kX12_oneIsOver (fun h => by cases h) (Nat.le_of_ble_eq_true rfl) (us_one_loop l d T ru ta rs I0 b hb J Rp G 40 I h20 (by omega) h1 h hR)
set_option maxRecDepth 100000 in
set_option maxHeartbeats 2000000 in
theorem us_ask_loop (l : Launch) (d T : Nat) (ru ta : Nat) (rs : List XO) (I0 : XI) (b : Nat) (hb : b < 400) (J : XJ) (Rp : XR) : ∀ (G : TG) (N : Nat) (I : XI), G.length < 20 → G.length < N → Sh0 G → ST I0 I G T 1 b → (∀ I' a, ST I0 I' [(2, a)] T 1 b → OPS 1 a → I' 67 28 = 3 → rm I' T = rm I T → KQ I I' → OTr I I' G [(2, a)] (x3 (KS G)) → Rp none (shH ru ta rs) I' J) → xrun xxX12 none false false (shH ru ta rs).length 0 0 none l (d + 1) tX12_askIsOver [0] Rp N 0 [some (.ref 67)] [] (shH ru ta rs) I J 0 0 := by
  intro G
  induction G with
  | nil =>
    intro N I _ _ h1
    exact h1.elim
  | cons f G ih =>
    intro N I h20 hN h1 h hR
    obtain ⟨k, a⟩ := f
    simp only [List.length_cons] at h20 hN
    obtain ⟨N, rfl⟩ : ∃ n', N = n' + 1 := ⟨N - 1, by omega⟩
    obtain ⟨tf, hw, at_, n, w, o, c, op, e1, e2, e3, e4, e5, e6, e7, c1, c2, c3, c4, c5, c6, c7⟩ := h
    obtain ⟨n1, w0, rfl, f2, f3, f4, f5⟩ := c1
    have hl := Rep_len f5
    have hl4 := RepO_len f4
    have et : ∀ (Rq : XR), Rq (some (.int (nI k))) (shH ru ta rs) I J → xm l (d + 1) 0 0 mX12_top [.ref 67] (shH ru ta rs) I J Rq := fun Rq hq => tx_top l d n1 (by omega) ru ta rs I J Rq e3 (by rw [f2]; exact hq)
    refine xrun_step fun K hK => ?_
    refine et _ ?_
    rcases h1 with ⟨rfl, rfl, ho⟩ | ⟨rfl, rfl, hG⟩
    · refine And.intro (fun _ => ?_) (fun h => absurd h (by decide))
      exact hR (uI I 67 28 3) a ⟨tf.u (p := 67) rfl (fun _ => by omega), hw, at_, n1 + 1, w, o, c, op, e1, e2, e3, e4, e5, e6, e7, ⟨⟨n1, w0, rfl, f2, f3, f4, f5⟩, c2, c3, c4, c5, c6, c7⟩⟩ ho rfl (rm_of rfl rfl) ⟨⟨rfl, rfl, rfl⟩, rfl, rfl, rfl, rfl⟩ (OTr.top2 rfl rfl rfl rfl rfl)
    · have f4 : w = w0 := f4
      subst f4
      have hopk : opN ((3, []) :: G) = opN G + 1 := by simp [opN]; omega
      have hwt : wtN ((3, []) :: G) = wtN G + 1 := by simp [wtN]; omega
      have hrn : rN ((3, []) :: G) = rN G := by simp [rN]
      refine And.intro (fun h => absurd rfl h) (fun _ => ?_)
      refine tx_emits l d o (by omega) 405 0 ru ta rs (uI (uI I 67 22 (I 67 22 - nI 1)) 67 21 (I 67 21 - nI 1)) J _ e5 ?_
      have en : I 67 22 - nI 1 = nI n1 := by rw [e3]; exact nI_pred n1
      have eo : I 67 21 - nI 1 = nI (opN G) := by rw [e7, c2, hopk]; exact nI_pred (opN G)
      refine hK 0 [some (.ref 67)] [] (shH ru ta rs) (emI (uI (uI I 67 22 (I 67 22 - nI 1)) 67 21 (I 67 21 - nI 1)) o 405 0) J 0 0 ?_
      rw [en, eo]
      refine ih N _ (by omega) (by omega) hG ⟨((tf.u (p := 67) rfl (fun _ => by omega)).u (p := 67) rfl (fun _ => by omega)).em o 405 0, hw, at_, n1, w, o + 1, c, opN G, e1, e2, rfl, e4, rfl, e6, rfl, ⟨f5, rfl, c3, ?_, pg_emit c5 (Or.inr (Or.inl ⟨by simp, by omega, by omega⟩)), dn_emit c6, c7⟩⟩ (fun I' a' z1 z2 z3 z4 z5 z6 => hR I' a' z1 z2 z3 (by rw [z4]; exact rm_of rfl rfl) (KQ.tr ⟨⟨rfl, rfl, rfl⟩, rfl, rfl, rfl, rfl⟩ z5) (OTr.o3 e5 (by omega) z6))
      show o + 1 + w + wtN G + (if I 67 17 = 0 then 0 else 1) + (T - at_) ≤ b
      omega
set_option maxRecDepth 100000 in
theorem us_askIsOver (l : Launch) (d T : Nat) (ru ta : Nat) (rs : List XO) (I0 : XI) (b : Nat) (hb : b < 400) (J : XJ) (Rp : XR) (G : TG) (I : XI) (h20 : G.length < 20) (h1 : Sh0 G) (h : ST I0 I G T 1 b) (hR : ∀ I' a, ST I0 I' [(2, a)] T 1 b → OPS 1 a → I' 67 28 = 3 → rm I' T = rm I T → KQ I I' → OTr I I' G [(2, a)] (x3 (KS G)) → Rp none (shH ru ta rs) I' J) : xm l (d + 2) 0 0 mX12_askIsOver [.ref 67] (shH ru ta rs) I J Rp :=
  xm_of (X := xxX12) (t := tX12_askIsOver) (stop := [0]) (ini := false) (n := 40) xx12 pl12 rfl kX12_askIsOver (fun h => by cases h) (Nat.le_of_ble_eq_true rfl) (us_ask_loop l d T ru ta rs I0 b hb J Rp G 40 I h20 (by omega) h1 h hR)
end
section
-- ===== the reference reads a text: its states, exactly =====
abbrev tkB (I0 : XI) (T : Nat) : Nat → TK := tkS (I0 70) T
def WDS (I : XI) (ws : List Nat) : Prop := ∀ x, x < ws.length → I 84 x = nI (ws.getD x 0) ∧ ws.getD x 0 < 100
def XTm (I0 I : XI) (T k : Nat) (ws : List Nat) (j : Nat) : Prop := RTK I (tkB I0 T j) ∧ (I 67 31 = nI k ∧ k < 5) ∧ WDS I ws ∧ ∃ c, I 67 30 = nI c ∧ (c + 1 = ws.length ∧ ws.length ≤ 24) ∧ I 67 20 = -1
def XT4 (I0 I : XI) (T : Nat) (ws : List Nat) (j : Nat) : Prop := RTK I (tkB I0 T j) ∧ WDS I ws ∧ I 67 30 = nI ws.length ∧ ws.length ≤ 24 ∧ I 67 20 = -1
/-- the clauses so far: where their orders begin, their numbers -/
def OSa (I : XI) (A : Adr) (ws : List Nat) : Prop := A.length = ws.length ∧ ∀ i, i < ws.length → I 85 i = nI (A.getD i (0, [])).1 ∧ (0 < (A.getD i (0, [])).2.length → I 86 i = nI ((A.getD i (0, [])).2.getD 0 0)) ∧ (1 < (A.getD i (0, [])).2.length → I 87 i = nI ((A.getD i (0, [])).2.getD 1 0)) ∧ (2 < (A.getD i (0, [])).2.length → I 88 i = nI ((A.getD i (0, [])).2.getD 2 0))
theorem OSa.eq {I I' : XI} {A : Adr} {ws : List Nat} (h : OSa I A ws) (e : C5 I' = C5 I) : OSa I' A ws := by
  have e85 : I' 85 = I 85 := congrArg (fun x => x.2.1) e
  have e86 : I' 86 = I 86 := congrArg (fun x => x.2.2.1) e
  have e87 : I' 87 = I 87 := congrArg (fun x => x.2.2.2.1) e
  have e88 : I' 88 = I 88 := congrArg (fun x => x.2.2.2.2) e
  unfold OSa at h ⊢
  rw [e85, e86, e87, e88]
  exact h
def GX (I0 I : XI) (T : Nat) (s : MS) (X : Wdr) : Prop := match s.1 with
  | 0 => (∃ G, KS G = s.2.1 ∧ Sh0 G ∧ opN G ≤ 8 ∧ ST I0 I G T 0 310 ∧ I 67 28 = 0 ∧ OSf I G X.1) ∧ XTm I0 I T s.2.2.1 s.2.2.2.1 s.2.2.2.2 ∧ OSe I X.2.1 ∧ OSa I X.2.2 s.2.2.2.1
  | 1 => (∃ G, KS G = s.2.1 ∧ Sh1 G ∧ opN G ≤ 8 ∧ ST I0 I G T 0 310 ∧ I 67 28 = 1 ∧ OSf I G X.1) ∧ XTm I0 I T s.2.2.1 s.2.2.2.1 s.2.2.2.2 ∧ OSe I X.2.1 ∧ OSa I X.2.2 s.2.2.2.1
  | 2 => (∃ G, KS G = s.2.1 ∧ Sh1 G ∧ top78 G ∧ opN G ≤ 8 ∧ ST I0 I G T 1 310 ∧ I 67 28 = 2 ∧ OSf I G X.1) ∧ XTm I0 I T s.2.2.1 s.2.2.2.1 s.2.2.2.2 ∧ OSe I X.2.1 ∧ OSa I X.2.2 s.2.2.2.1
  | 3 => (∃ a, s.2.1 = [2] ∧ OPS 1 a ∧ ST I0 I [(2, a)] T 1 310 ∧ I 67 28 = 3 ∧ OSf I [(2, a)] X.1) ∧ XTm I0 I T s.2.2.1 s.2.2.2.1 s.2.2.2.2 ∧ OSe I X.2.1 ∧ OSa I X.2.2 s.2.2.2.1
  | _ => S4 I0 I T 310 ∧ XT4 I0 I T s.2.2.2.1 s.2.2.2.2 ∧ X.1 = [] ∧ OSe I X.2.1 ∧ OSa I X.2.2 s.2.2.2.1
def NXTe (I0 I I' : XI) (T : Nat) (s : MS) (X : Wdr) : Prop := (∃ f p, mstep (tkB I0 T) s = .inr (f, p) ∧ 1 ≤ f ∧ BAD I0 I' ∧ I' 67 19 = nI f ∧ I' 67 20 = nI p) ∨ ∃ s', mstep (tkB I0 T) s = .inl s' ∧ GX I0 I' T s' (xeff (tkB I0 T) s X) ∧ mu I' T < mu I T
theorem RTK.kq {I I' : XI} {q : TK} (h : KQ I I') (r : RTK I q) : RTK I' q := ⟨h.1.2.2.trans r.1, (congrArg Prod.fst h.2.1).trans r.2.1, by rw [h.1.1, h.1.2.1]; exact r.2.2⟩
theorem XTm.kq {I0 I I' : XI} {T k j : Nat} {ws : List Nat} (h : KQ I I') (x : XTm I0 I T k ws j) : XTm I0 I' T k ws j := by
  obtain ⟨x1, x2, x3, c, x4, x5, x6⟩ := x
  exact ⟨x1.kq h, ⟨h.2.2.2.1.trans x2.1, x2.2⟩, fun y hy => by rw [C5_84 h.2.2.2.2]; exact x3 y hy, c, h.2.2.1.trans x4, x5, (congrArg Prod.snd h.2.1).trans x6⟩
theorem tkB_pos (I0 : XI) (T j : Nat) : (tkB I0 T j).2.2.2 = pos (I0 70) T (j + 1) := rfl
theorem NRT.tk {I0 I I' : XI} {T j : Nat} (hT : T ≤ 300) (n : NRT I0 T I I') (r : RTK I (tkB I0 T j)) : RTK I' (tkB I0 T (j + 1)) := by
  have e := r.1
  rw [tkB_pos] at e
  have b := pos_le (I0 70) T (j + 1)
  exact n _ (by omega) e
theorem XTm.nk {I0 I I' : XI} {T k j : Nat} {ws : List Nat} (hT : T ≤ 300) (h : NK I0 T I I') (x : XTm I0 I T k ws j) : XTm I0 I' T k ws (j + 1) := by
  obtain ⟨x1, x2, x3, c, x4, x5, x6⟩ := x
  exact ⟨h.2.tk hT x1, ⟨h.1.2.1.trans x2.1, x2.2⟩, fun y hy => by rw [C5_84 h.1.2.2]; exact x3 y hy, c, (congrArg Prod.fst h.1.1).trans x4, x5, (congrArg Prod.snd h.1.1).trans x6⟩
theorem RTK.st {I : XI} {v : Int32} {q : TK} (r : RTK I q) : RTK (uI I 67 28 v) q := by
  obtain ⟨a, b, c⟩ := r
  exact ⟨a, b, c⟩
theorem XTm.st {I0 I : XI} {T k j : Nat} {ws : List Nat} {v : Int32} (x : XTm I0 I T k ws j) : XTm I0 (uI I 67 28 v) T k ws j := by
  obtain ⟨x1, x2, x3, x4⟩ := x
  exact ⟨x1.st, x2, x3, x4⟩
-- what a token of the reference is
theorem tkR_el {s v : Int32} {q : TK} (h : tkR s v q) (ok : tkOK q) : (q.1 = 0 ∧ s = 0) ∨ (q.1 = 1 ∧ s = 1 ∧ v = nI q.2.1) ∨ (q.1 = 2 ∧ s = 2 ∧ ((q.2.1 < 10000 ∧ v = nI q.2.1) ∨ (q.2.1 = 10000 ∧ nI 10000 ≤ v))) ∨ (q.1 = 3 ∧ s = 3 ∧ v = nI q.2.1) ∨ (q.1 = 4 ∧ (s = 4 ∨ (s = 3 ∧ v = 44))) := by
  obtain ⟨a, b, c, d⟩ := q
  unfold tkR at h
  rcases tk_five ok.1 with e | e | e | e | e
  · have e : a = 0 := e
    subst e
    exact Or.inl ⟨rfl, h⟩
  · have e : a = 1 := e
    subst e
    exact Or.inr (Or.inl ⟨rfl, h⟩)
  · have e : a = 2 := e
    subst e
    exact Or.inr (Or.inr (Or.inl ⟨rfl, h⟩))
  · have e : a = 3 := e
    subst e
    exact Or.inr (Or.inr (Or.inr (Or.inl ⟨rfl, h⟩)))
  · have e : a = 4 := e
    subst e
    exact Or.inr (Or.inr (Or.inr (Or.inr ⟨rfl, h⟩)))
theorem tkR_s {s v : Int32} {q : TK} (h : tkR s v q) (ok : tkOK q) : (s = 0 ↔ q.1 = 0) ∧ (s = 1 ↔ q.1 = 1) ∧ (s = 2 ↔ q.1 = 2) ∧ (q.1 = 3 → s = 3) := by
  rcases tkR_el h ok with ⟨e, z⟩ | ⟨e, z, _⟩ | ⟨e, z, _⟩ | ⟨e, z, _⟩ | ⟨e, z | ⟨z, _⟩⟩
  · rw [z, e]; decide
  · rw [z, e]; decide
  · rw [z, e]; decide
  · rw [z, e]; decide
  · rw [z, e]; decide
  · rw [z, e]; decide
theorem SGN_b {v : Nat} (h : v ∈ SGN) : v ≤ 301 ∧ v ≠ 44 := by
  have y : ∀ z, z ∈ SGN → z ≤ 301 ∧ z ≠ 44 := by decide
  exact y v h
theorem tkR_wd {s v : Int32} {q : TK} (h : tkR s v q) (ok : tkOK q) {w : Nat} (hw : w < 32) : (s = 1 ∧ v = nI w) ↔ isWd q w = true := by
  have t := tkR_s h ok
  constructor
  · rintro ⟨a, b⟩
    have e := t.2.1.mp a
    rcases tkR_el h ok with ⟨z, _⟩ | ⟨_, _, y⟩ | ⟨z, _⟩ | ⟨z, _⟩ | ⟨z, _⟩
    · omega
    · rw [y] at b
      exact wd_of e ((nI_eq (by have := ok.2.1 e; omega) (by omega)).mp b)
    · omega
    · omega
    · omega
  · intro g
    have e := wd_1 g
    rcases tkR_el h ok with ⟨z, _⟩ | ⟨_, x, y⟩ | ⟨z, _⟩ | ⟨z, _⟩ | ⟨z, _⟩
    · omega
    · exact ⟨x, by rw [y, e.2]⟩
    · omega
    · omega
    · omega
theorem tkR_sg {s v : Int32} {q : TK} (h : tkR s v q) (ok : tkOK q) {w : Nat} (hw : w ∈ SGN) : (s = 3 ∧ v = nI w) ↔ isSg q w = true := by
  have bw := SGN_b hw
  constructor
  · rintro ⟨a, b⟩
    rcases tkR_el h ok with ⟨_, z⟩ | ⟨_, z, _⟩ | ⟨_, z, _⟩ | ⟨e, _, y⟩ | ⟨_, z | ⟨_, y⟩⟩
    · exact absurd (z.symm.trans a) (by decide)
    · exact absurd (z.symm.trans a) (by decide)
    · exact absurd (z.symm.trans a) (by decide)
    · rw [y] at b
      have bq := SGN_b (ok.2.2.2.1 e)
      exact sg_of e ((nI_eq (by omega) (by omega)).mp b)
    · exact absurd (z.symm.trans a) (by decide)
    · rw [y] at b
      exact absurd ((nI_eq (a := 44) (b := w) (by omega) (by omega)).mp b).symm bw.2
  · intro g
    have e := sg_1 g
    rcases tkR_el h ok with ⟨z, _⟩ | ⟨z, _⟩ | ⟨z, _⟩ | ⟨_, x, y⟩ | ⟨z, _⟩
    · omega
    · omega
    · omega
    · exact ⟨x, by rw [y, e.2]⟩
    · omega
theorem tkR_rg {s v : Int32} {q : TK} (h : tkR s v q) (ok : tkOK q) (e : q.1 = 2) {lo hi : Nat} (h1 : lo < 10000) (h2 : hi < 10000) : (nI lo ≤ v ∧ v ≤ nI hi) ↔ (lo ≤ q.2.1 ∧ q.2.1 ≤ hi) := by
  rcases tkR_el h ok with ⟨z, _⟩ | ⟨z, _⟩ | ⟨_, _, ⟨a, b⟩ | ⟨a, b⟩⟩ | ⟨z, _⟩ | ⟨z, _⟩
  · omega
  · omega
  · rw [b, nI_leI (by omega) (by omega), nI_leI (by omega) (by omega)]
  · constructor
    · rintro ⟨_, y⟩
      have := Int32.le_trans b y
      rw [nI_leI (by omega) (by omega)] at this
      omega
    · rintro ⟨_, y⟩
      omega
  · omega
  · omega
theorem tkB_ok {I0 : XI} {T : Nat} (hT : T ≤ 300) (j : Nat) : tkOK (tkB I0 T j) := tkS_ok hT j
/-- a fault, told at the token -/
theorem fer_no {I0 I Ib I' : XI} {T f j : Nat} {s : MS} {X : Wdr} (tf : TF I0 I) (hw : I 67 19 = 0) (r : RTK I (tkB I0 T j)) (e : FER I I' (nI f)) (hf : 1 ≤ f) (hm : mstep (tkB I0 T) s = .inr (ft (tkB I0 T) f j)) : NXTe I0 Ib I' T s X := by
  have y := e.2.1 hw
  exact Or.inl ⟨f, (tkB I0 T j).2.2.1, hm, hf, e.1.bad tf hw, y.1, by rw [y.2]; exact r.2.1⟩
set_option maxRecDepth 100000 in
set_option maxHeartbeats 1000000 in
theorem us_asks (l : Launch) (T : Nat) (hT : T ≤ 300) (ru ta : Nat) (rs : List XO) (I0 : XI) (hs : shO CF (shH ru ta rs)) (hi : ivO CF [] I0) (hq : QQ I0) (d : Nat) (I : XI) (J : XJ) (Rp : XR) (K : List Nat) (k : Nat) (ws : List Nat) (j : Nat) (X : Wdr) (h : GX I0 I T (0, K, k, ws, j) X) (hR : ∀ (I' : XI) (J' : XJ), NXTe I0 I I' T (0, K, k, ws, j) X → Rp none (shH ru ta rs) I' J') : xm l (d + 6) 0 0 mX12_asks [.ref 67] (shH ru ta rs) I J Rp := by
  obtain ⟨⟨G, hK, h0, hop, h, hst, of⟩, hx, oe, oa⟩ := h
  have oa : OSa I X.2.2 ws := oa
  have hK : KS G = K := hK
  subst hK
  have hx : XTm I0 I T k ws j := hx
  have hn := Sh0_n h0
  have r := hx.1
  have hwd := tkR_wd r.2.2 (tkB_ok hT j) (w := 21) (by omega)
  refine xm_ofK 0 (X := xxX12) (t := tX12_asks) (stop := []) (ini := false) xx12 pl12 rfl kX12_asks (fun h => by cases h) (Nat.le_of_ble_eq_true rfl) (fun K hK => ?_)
  refine tx_isWord l (d + 4) 21 ru ta rs I J _ (fun g1 g2 => ?_) (fun ng => ?_)
  · have z := hwd.mp ⟨g1, g2⟩
    refine And.intro (fun h => absurd h (by decide)) (fun _ => ?_)
    refine us_opensSign l T hT ru ta rs I0 hs hi hq d G 310 (by omega) (by omega) hop 3 (Or.inl rfl) I J _ h (by rw [g1]; decide) (fun I' e h8 => ?_) (fun I' J' s1 p1 e1 r1 nk ot => ?_)
    · exact hR I' J (fer_no h.1 h.2.1 r e (by decide) (s0_deep z (by rw [opK_S]; omega)))
    · exact hR I' J' (Or.inr ⟨_, s0_not z (by rw [opK_S]; omega), ⟨⟨(3, []) :: G, rfl, Or.inr ⟨rfl, rfl, h0⟩, by simp [opN]; omega, s1, by rw [e1]; exact hst, ⟨⟨rfl, fun y hy => by cases hy⟩, fun z => by omega, fun z => by omega, (ot _ _ of oe).1⟩⟩, hx.nk hT nk, (ot _ _ of oe).2, oa.eq nk.1.2.2⟩, mu_lt r1⟩)
  · refine And.intro (fun _ => ?_) (fun h => absurd rfl h)
    obtain ⟨tf, hw, at_, n, w, o, c, op, e1, e2, e3, e4, e5, e6, e7, c1, c2, c3, c4, c5, c6, c7⟩ := h
    have hl := Rep_len c1
    refine tx_opensFrame l (d + 4) n (by omega) (nI 4) ru ta rs I J _ e3 ?_
    have nz : isWd (tkB I0 T j) 21 = false := bF Iff.rfl (fun y => ng (hwd.mpr y))
    have hx2 : XTm I0 (uI (ofI I n (nI 4)) 67 28 1) T k ws j := hx.kq ⟨⟨rfl, rfl, rfl⟩, rfl, rfl, rfl, rfl⟩
    refine hR (uI (ofI I n (nI 4)) 67 28 1) J (Or.inr ⟨_, s0_go nz, ⟨⟨(4, []) :: G, rfl, Or.inr (Or.inl ⟨Or.inl rfl, trivial, h0⟩), by simpa [opN] using hop, ?_, rfl, ⟨⟨rfl, fun y hy => by cases hy⟩, fun z => by omega, fun z => by omega, of.eq rfl rfl⟩⟩, hx2, oe.eq rfl rfl rfl, oa.eq rfl⟩, ?_⟩)
    · refine ⟨((tf.u (p := 79) rfl (fun z => by cases z)).u (p := 67) rfl (fun _ => by omega)).u (p := 67) rfl (fun _ => by omega), hw, at_, n + 1, w, o, c, op, e1, e2, rfl, e4, e5, e6, e7, ⟨⟨n, w, rfl, pk_us, fun z => by omega, rfl, Rep_up c1 (fun i hi => pk_un (by omega)) (fun _ _ => rfl) (fun _ _ => ⟨rfl, rfl⟩)⟩, by simpa [opN] using c2, c3, ?_, ?_, c6, c7⟩⟩
      · have : wtN ((4, []) :: G) = wtN G := by simp [wtN]
        show o + w + wtN ((4, []) :: G) + (if I 67 17 = 0 then 0 else 1) + (T - at_) ≤ 310
        omega
      · have : rN ((4, []) :: G) = rN G := by simp [rN]
        rw [this]
        exact c5
    · have r : rm (uI (ofI I n (nI 4)) 67 28 1) T = rm I T := rm_of rfl rfl
      unfold mu
      rw [r, if_neg (show ¬ (uI (ofI I n (nI 4)) 67 28 1 67 28 = 0 ∨ uI (ofI I n (nI 4)) 67 28 1 67 28 = 2) by
        show ¬ ((1 : Int32) = 0 ∨ (1 : Int32) = 2)
        decide), if_pos (Or.inl hst)]
      omega
-- ===== numbers of clauses =====
set_option maxRecDepth 100000 in
theorem ux_number (l : Launch) (T : Nat) (hT : T ≤ 300) (ru ta : Nat) (rs : List XO) (d : Nat) (lo hi_ : Int32) (I : XI) (J : XJ) (Rp : XR) (a : Nat) (e14 : I 67 14 = nI T) (e15 : I 67 15 = nI a) (ha : a ≤ T) (hA : ¬ 0 < I 67 19 → I 67 17 = 2 → lo ≤ I 67 18 ∧ I 67 18 ≤ hi_ → ∀ I', NXe I I' T a → Rp (some (.int (I 67 18))) (shH ru ta rs) I' J) (hB : ¬ 0 < I 67 19 → I 67 17 = 2 → ¬ (lo ≤ I 67 18 ∧ I 67 18 ≤ hi_) → ∀ I', FER I I' 2 → Rp (some (.int lo)) (shH ru ta rs) I' J) (hC : (0 < I 67 19 ∨ ¬ I 67 17 = 2) → ∀ I', FER I I' 1 → Rp (some (.int lo)) (shH ru ta rs) I' J) : xm l (d + 5) 0 0 mX12_number [.ref 67, .int lo, .int hi_] (shH ru ta rs) I J Rp := by
  refine xm_ofK 0 (X := xxX12) (t := tX12_number) (stop := []) (ini := false) xx12 pl12 rfl kX12_number (fun h => by cases h) (Nat.le_of_ble_eq_true rfl) (fun K hK => ?_)
  refine And.intro (fun h1 => ?_) (fun h1 => And.intro (fun h2 => ?_) (fun h2 => ?_))
  · exact ux_errs l (d + 3) 1 (by decide) ru ta rs I J _ (fun I' e => hC (Or.inl h1) I' e)
  · refine tx_in l (d + 3) (I 67 18) lo hi_ _ _ _ _ (fun u1 u2 => ?_) (fun u => ?_)
    · refine And.intro (fun _ => ?_) (fun h => absurd h (by decide))
      exact ux_next l d T ru ta rs I J _ a hT e14 e15 ha (fun I' q => hA h1 h2 ⟨u1, u2⟩ I' q)
    · refine And.intro (fun h => absurd rfl h) (fun _ => ?_)
      exact ux_errs l (d + 3) 2 (by decide) ru ta rs I J _ (fun I' e => hB h1 h2 u I' e)
  · exact ux_errs l (d + 3) 1 (by decide) ru ta rs I J _ (fun I' e => hC (Or.inr h2) I' e)
set_option maxRecDepth 100000 in
set_option maxHeartbeats 1000000 in
theorem ux_mayName (l : Launch) (d n k : Nat) (hn : n ≤ 10) (hk : k < 5) (sh : List XO) (I : XI) (J : XJ) (Rp : XR) (h1 : myN n k = true → Rp (some (.int 1)) sh I J) (h0 : myN n k = false → Rp (some (.int 0)) sh I J) : xm l (d + 1) 0 0 mX12_mayName [.int (nI n), .int (nI k)] sh I J Rp := by
  have b1 : myN n k = true → ((1 : Int32) = 0 ∨ (1 : Int32) = 1) ∧ Rp (some (.int 1)) sh I J := fun z => ⟨Or.inr rfl, h1 z⟩
  have b0 : myN n k = false → ((0 : Int32) = 0 ∨ (0 : Int32) = 1) ∧ Rp (some (.int 0)) sh I J := fun z => ⟨Or.inl rfl, h0 z⟩
  have kk : ∀ i, i < 5 → nI k = nI i → k = i := fun i hi h => nI_small h (by omega) (by omega)
  have kn : ∀ i, i < 5 → ¬ nI k = nI i → k ≠ i := fun i hi h z => h (by rw [z])
  have en : ∀ i, i < 100 → nI n = nI i → n = i := fun i hi h => nI_small h (by omega) (by omega)
  refine xm_ofK 0 (X := xxX12) (t := tX12_mayName) (stop := []) (ini := false) xx12 pl12 rfl kX12_mayName (fun h => by cases h) (Nat.le_of_ble_eq_true rfl) (fun K hK => ?_)
  refine And.intro (fun h => ?_) (fun n0 => And.intro (fun h => ?_) (fun n1 => And.intro (fun h => ?_) (fun n2 => And.intro (fun h => ?_) (fun n3 => And.intro (fun h => ?_) (fun n4 => And.intro (fun h => ?_) (fun n5 => And.intro (fun h => ?_) (fun n6 => And.intro (fun h => ?_) (fun n7 => And.intro (fun h => ?_) (fun n8 => ?_)))))))))
  · have e := en 0 (by omega) h
    subst e
    exact b1 rfl
  · have e := en 1 (by omega) h
    subst e
    exact b1 rfl
  · have e := en 2 (by omega) h
    subst e
    exact And.intro (fun h => b1 (by rw [kk 0 (by omega) h]; rfl)) (fun m0 => And.intro (fun h => b1 (by rw [kk 1 (by omega) h]; rfl)) (fun m1 => And.intro (fun m4 => b0 (by
      show (Nat.beq k 0 || Nat.beq k 1 || Nat.beq k 4) = false
      rw [beqf (kn 0 (by omega) m0), beqf (kn 1 (by omega) m1), beqf (kn 4 (by omega) m4)]
      all_goals rfl)) (fun h => b1 (by rw [kk 4 (by omega) h]; rfl))))
  · have e := en 3 (by omega) h
    subst e
    exact And.intro (fun h => b1 (by rw [kk 0 (by omega) h]; rfl)) (fun m0 => And.intro (fun h => b1 (by rw [kk 1 (by omega) h]; rfl)) (fun m1 => And.intro (fun m4 => b0 (by
      show (Nat.beq k 0 || Nat.beq k 1 || Nat.beq k 4) = false
      rw [beqf (kn 0 (by omega) m0), beqf (kn 1 (by omega) m1), beqf (kn 4 (by omega) m4)]
      all_goals rfl)) (fun h => b1 (by rw [kk 4 (by omega) h]; rfl))))
  · have e := en 4 (by omega) h
    subst e
    exact And.intro (fun h => b1 (by rw [kk 0 (by omega) h]; rfl)) (fun m0 => And.intro (fun h => b1 (by rw [kk 3 (by omega) h]; rfl)) (fun m3 => And.intro (fun m4 => b0 (by
      show (Nat.beq k 0 || Nat.beq k 3 || Nat.beq k 4) = false
      rw [beqf (kn 0 (by omega) m0), beqf (kn 3 (by omega) m3), beqf (kn 4 (by omega) m4)]
      all_goals rfl)) (fun h => b1 (by rw [kk 4 (by omega) h]; rfl))))
  · have e := en 5 (by omega) h
    subst e
    exact And.intro (fun h => b1 (by rw [kk 0 (by omega) h]; rfl)) (fun m0 => And.intro (fun m1 => b0 (by
      show (Nat.beq k 0 || Nat.beq k 1) = false
      rw [beqf (kn 0 (by omega) m0), beqf (kn 1 (by omega) m1)]
      all_goals rfl)) (fun h => b1 (by rw [kk 1 (by omega) h]; rfl)))
  · have e := en 6 (by omega) h
    subst e
    exact And.intro (fun h => b1 (by rw [kk 2 (by omega) h]; rfl)) (fun m2 => And.intro (fun m3 => b0 (by
      show (Nat.beq k 2 || Nat.beq k 3) = false
      rw [beqf (kn 2 (by omega) m2), beqf (kn 3 (by omega) m3)]
      all_goals rfl)) (fun h => b1 (by rw [kk 3 (by omega) h]; rfl)))
  · have e := en 7 (by omega) h
    subst e
    exact And.intro (fun h => b1 (by rw [kk 2 (by omega) h]; rfl)) (fun m2 => And.intro (fun m3 => b0 (by
      show (Nat.beq k 2 || Nat.beq k 3) = false
      rw [beqf (kn 2 (by omega) m2), beqf (kn 3 (by omega) m3)]
      all_goals rfl)) (fun h => b1 (by rw [kk 3 (by omega) h]; rfl)))
  · have e := en 8 (by omega) h
    subst e
    exact And.intro (fun m2 => b0 (by
      show (Nat.beq k 2) = false
      rw [beqf (kn 2 (by omega) m2)]
      all_goals rfl)) (fun h => b1 (by rw [kk 2 (by omega) h]; rfl))
  · have e : n = 9 ∨ n = 10 := by
      have f : ∀ i, i < 9 → ¬ n = i := fun i hi z => by
        subst z
        have y : n = 0 ∨ n = 1 ∨ n = 2 ∨ n = 3 ∨ n = 4 ∨ n = 5 ∨ n = 6 ∨ n = 7 ∨ n = 8 := by omega
        rcases y with rfl | rfl | rfl | rfl | rfl | rfl | rfl | rfl | rfl
        · exact n0 rfl
        · exact n1 rfl
        · exact n2 rfl
        · exact n3 rfl
        · exact n4 rfl
        · exact n5 rfl
        · exact n6 rfl
        · exact n7 rfl
        · exact n8 rfl
      have f0 := f 0 (by omega)
      have f1 := f 1 (by omega)
      have f2 := f 2 (by omega)
      have f3 := f 3 (by omega)
      have f4 := f 4 (by omega)
      have f5 := f 5 (by omega)
      have f6 := f 6 (by omega)
      have f7 := f 7 (by omega)
      have f8 := f 8 (by omega)
      omega
    rcases e with rfl | rfl
    · exact And.intro (fun m4 => b0 (by
      show (Nat.beq k 4) = false
      rw [beqf (kn 4 (by omega) m4)]
      all_goals rfl)) (fun h => b1 (by rw [kk 4 (by omega) h]; rfl))
    · exact And.intro (fun m4 => b0 (by
      show (Nat.beq k 4) = false
      rw [beqf (kn 4 (by omega) m4)]
      all_goals rfl)) (fun h => b1 (by rw [kk 4 (by omega) h]; rfl))
set_option maxRecDepth 100000 in
set_option maxHeartbeats 1000000 in
theorem ux_nameNow (l : Launch) (d : Nat) (ru ta : Nat) (rs : List XO) (I : XI) (J : XJ) (Rp : XR) (q : TK) (hq : tkR (I 67 17) (I 67 18) q) (ok : tkOK q) (hR : Rp (some (.int (if q.1 = 1 then oI (nmO q.2.1) else -1))) (shH ru ta rs) I J) : xm l (d + 1) 0 0 mX12_nameNow [.ref 67] (shH ru ta rs) I J Rp := by
  have ts := tkR_s hq ok
  refine xm_ofK 0 (X := xxX12) (t := tX12_nameNow) (stop := []) (ini := false) xx12 pl12 rfl kX12_nameNow (fun h => by cases h) (Nat.le_of_ble_eq_true rfl) (fun K hK => ?_)
  refine And.intro (fun h1 => ?_) (fun h1 => ?_)
  · have e1 := ts.2.1.mp h1
    have hw := ok.2.1 e1
    have ev : I 67 18 = nI q.2.1 := by
      rcases tkR_el hq ok with ⟨z, _⟩ | ⟨_, _, y⟩ | ⟨z, _⟩ | ⟨z, _⟩ | ⟨z, _⟩
      · omega
      · exact y
      · omega
      · omega
      · omega
    rw [if_pos e1] at hR
    generalize q.2.1 = w at hR hw ev
    have nx : ∀ i, i < 100 → I 67 18 = nI i → w = i := fun i hi h => nI_small (ev.symm.trans h) (by omega) (by omega)
    have ne : ∀ i, i < 100 → ¬ I 67 18 = nI i → w ≠ i := fun i hi h z => h (by rw [ev, z])
    refine And.intro (fun h => ?_) (fun n13 => And.intro (fun h => ?_) (fun n14 => And.intro (fun h => ?_) (fun n23 => ?_)))
    · rw [nx 13 (by omega) h] at hR
      exact hR
    · rw [nx 14 (by omega) h] at hR
      exact hR
    · rw [nx 23 (by omega) h] at hR
      exact hR
    · have m13 := ne 13 (by omega) n13
      have m14 := ne 14 (by omega) n14
      have m23 := ne 23 (by omega) n23
      refine And.intro (fun h24 => ?_) (fun h24 => ?_)
      · have h24 : nI 24 ≤ I 67 18 := h24
        rw [ev, nI_leI (by omega) (by omega)] at h24
        have b24 : Nat.blt w 24 = false := by
          cases z : Nat.blt w 24 with
          | false => rfl
          | true => exact absurd (Nat.blt_eq.mp z) (by omega)
        refine And.intro (fun h26 => ?_) (fun h26 => ?_)
        · have h26 : nI 26 ≤ I 67 18 := h26
          rw [ev, nI_leI (by omega) (by omega)] at h26
          have b26 : Nat.blt w 26 = false := by
            cases z : Nat.blt w 26 with
            | false => rfl
            | true => exact absurd (Nat.blt_eq.mp z) (by omega)
          show Rp (some (.int (I 67 18 - nI 26 + nI 5))) (shH ru ta rs) I J
          rw [ev, nI_subI (by omega) (by omega), nI_add]
          unfold nmO at hR
          rw [beqf m13, beqf m14, beqf m23, b24, b26] at hR
          rw [show w - 26 + 5 = w - 21 by omega]
          exact hR
        · have h26 : ¬ nI 26 ≤ I 67 18 := h26
          rw [ev, nI_leI (by omega) (by omega)] at h26
          have b26 : Nat.blt w 26 = true := Nat.blt_eq.mpr (by omega)
          show Rp (some (.int (I 67 18 - nI 24 + nI 2))) (shH ru ta rs) I J
          rw [ev, nI_subI (by omega) (by omega), nI_add]
          unfold nmO at hR
          rw [beqf m13, beqf m14, beqf m23, b24, b26] at hR
          rw [show w - 24 + 2 = w - 22 by omega]
          exact hR
      · have h24 : ¬ nI 24 ≤ I 67 18 := h24
        rw [ev, nI_leI (by omega) (by omega)] at h24
        have b24 : Nat.blt w 24 = true := Nat.blt_eq.mpr (by omega)
        unfold nmO at hR
        rw [beqf m13, beqf m14, beqf m23, b24] at hR
        exact hR
  · rw [if_neg (fun z => h1 (ts.2.1.mpr z))] at hR
    exact hR
end
section
-- ===== the reference reads a text: what begins, what ends =====
section BEG
variable {I0 : XI} {T : Nat}
theorem st_place {I : XI} {G : TG} {x b : Nat} (h : ST I0 I G T x b) : ∃ at_ : Nat, I 67 14 = nI T ∧ I 67 15 = nI at_ ∧ at_ ≤ T := by
  obtain ⟨tf, hw, at_, n, w, o, c, op, e1, e2, e3, e4, e5, e6, e7, c1, c2, c3, c4⟩ := h
  exact ⟨at_, e1, e2, c3.1⟩
theorem nrt_of {I I' : XI} {a : Nat} (tf : TF I0 I) (hT : T ≤ 300) (e : I 67 15 = nI a) (ha : a ≤ T) (q : NXe I I' T a) : NRT I0 T I I' := by
  intro b hb eb
  have y : b = a := nI_small (eb.symm.trans e) hb (by omega)
  rw [y, ← tf.1 70 (by decide)]
  exact q.2
end BEG
set_option maxRecDepth 100000 in
set_option maxHeartbeats 1000000 in
theorem us_part (l : Launch) (T : Nat) (hT : T ≤ 300) (ru ta : Nat) (rs : List XO) (I0 : XI) (hs : shO CF (shH ru ta rs)) (hi : ivO CF [] I0) (hq : QQ I0) (d : Nat) (G : TG) (h1 : Sh1 G) (hop : opN G ≤ 8) (I : XI) (J : XJ) (Rp : XR) (h : ST I0 I G T 0 310) (hst : I 67 28 = 1) (k : Nat) (ws : List Nat) (j : Nat) (hx : XTm I0 I T k ws j) (hw22 : isWd (tkB I0 T j) 22 = true) (X : Wdr) (of : OSf I G X.1) (oe : OSe I X.2.1) (oa : OSa I X.2.2 ws) (hR : ∀ (I' : XI) (J' : XJ), NXTe I0 I I' T (1, KS G, k, ws, j) X → Rp none (shH ru ta rs) I' J') : xm l (d + 6) 0 0 mX12_part [.ref 67] (shH ru ta rs) I J Rp := by
  have hn := Sh1_n h1
  have r0 := hx.1
  have p1 := (wd_1 hw22).1
  have p2 := (wd_1 hw22).2
  have hso : I 67 17 ≠ 0 := by
    have := (tkR_wd r0.2.2 (tkB_ok hT j) (w := 22) (by omega)).mpr hw22
    rw [this.1]
    decide
  refine xm_ofK 0 (X := xxX12) (t := tX12_part) (stop := []) (ini := false) xx12 pl12 rfl kX12_part (fun h => by cases h) (Nat.le_of_ble_eq_true rfl) (fun K hK => ?_)
  refine us_opensSign l T hT ru ta rs I0 hs hi hq d G 310 (by omega) (by omega) hop 8 (by simp) I J _ h hso (fun I' e h8 => ?_) (fun I1 J1 s1 p8 t1 r1 nk ot => ?_)
  · refine And.intro (fun h => absurd rfl h) (fun _ => ?_)
    exact hR I' J (fer_no h.1 h.2.1 r0 e (by decide) ((s1_part p1 p2).trans (yP_dp (by rw [opK_S]; omega))))
  · refine And.intro (fun _ => ?_) (fun h => absurd h (by decide))
    have h8 : opK (KS G) < 8 := by rw [opK_S]; exact p8
    have hx1 := hx.nk hT nk
    have s1' := s1
    obtain ⟨tf, hw, at_, n, w, o, c, op, e1, e2, e3, e4, e5, e6, e7, c1, c2, c3, c4, c5, c6, c7⟩ := s1
    have hl := Rep_len c1
    simp only [List.length_cons] at hl
    have en : I1 67 22 - nI 1 = nI (n - 1) := by
      obtain ⟨m, rfl⟩ : ∃ m, n = m + 1 := ⟨n - 1, by omega⟩
      rw [e3]
      exact nI_pred m
    have vp : vp_in (I1 67 22 - nI 1) 40 := by
      rw [en]
      exact vp_in_nI (by omega) (by omega)
    have ts1 := tkR_s hx1.1.2.2 (tkB_ok hT (j + 1))
    have er : ∀ (I2 : XI) (r : Int32) (f : Nat), 1 ≤ f → FER I1 I2 (nI f) → deS (tkB I0 T) [(0, 100, 15)] (j + 1) = .inr (ft (tkB I0 T) f (j + 1)) → NXTe I0 I (uI I2 83 (I1 67 22 - nI 1).toNatClampNeg r) T (1, KS G, k, ws, j) X := fun I2 r f hf e hd => by
      have y := e.2.1 hw
      have z := y.2.trans hx1.1.2.1
      exact Or.inl ⟨f, _, (s1_part p1 p2).trans (yP_er h8 hd), hf, ⟨(e.1.tf tf).u (p := 83) rfl (fun z => by cases z), e.1.2.2.2 (Or.inl hw)⟩, y.1, z⟩
    have nw : ¬ 0 < I1 67 19 := fun z => pos_ne z hw
    have bad : ∀ (I2 : XI) (r : Int32) (f : Nat), 1 ≤ f → FER I1 I2 (nI f) → deS (tkB I0 T) [(0, 100, 15)] (j + 1) = .inr (ft (tkB I0 T) f (j + 1)) → vp_in (I1 67 22 - nI 1) 40 ∧ ((¬ I2 67 19 = 0 → (¬ I2 67 19 = 0 → Rp none (shH ru ta rs) (uI I2 83 (I1 67 22 - nI 1).toNatClampNeg r) J1))) := fun I2 r f hf e hd => ⟨vp, fun _ _ => hR _ J1 (er I2 r f hf e hd)⟩
    refine ux_number l T hT ru ta rs d 0 100 I1 J1 _ at_ e1 e2 c3.1 (fun _ q2 rg I2 qe => ?_) (fun _ q2 rg I2 e => ?_) (fun q2 I2 e => ?_)
    · have q := qe.nx e2 c3.1
      have q1e := ts1.2.2.1.mp q2
      have rg' := (tkR_rg hx1.1.2.2 (tkB_ok hT (j + 1)) q1e (lo := 0) (hi := 100) (by omega) (by omega)).mp rg
      have s2 := ST_nx hT s1' (by rw [q2]; decide) q
      have s3 : ST I0 (uI I2 83 (I1 67 22 - nI 1).toNatClampNeg (I1 67 18)) ((8, []) :: G) T 0 310 := ST_83 s2
      have r2 := rm_nx hT (by rw [q2]; decide) q
      have r3 : rm (uI I2 83 (I1 67 22 - nI 1).toNatClampNeg (I1 67 18)) T = rm I2 T := rm_of rfl rfl
      have w3 : I2 67 19 = 0 := s2.2.1
      have t3 : I2 67 28 = 1 := by rw [q.1.2 28 (by omega), t1]; exact hst
      have hx2 : XTm I0 I2 T k ws (j + 2) := hx1.nk hT (NK.of q.1 (nrt_of tf hT e2 c3.1 qe))
      have hx3 : XTm I0 (uI I2 83 (I1 67 22 - nI 1).toNatClampNeg (I1 67 18)) T k ws (j + 2) := hx2.kq ⟨⟨rfl, rfl, rfl⟩, rfl, rfl, rfl, rfl⟩
      have hwd := tkR_wd hx3.1.2.2 (tkB_ok hT (j + 2)) (w := 15) (by omega)
      refine And.intro vp ?_
      refine And.intro (fun h => absurd w3 h) (fun _ => ?_)
      refine tx_isWord l (d + 4) 15 ru ta rs _ J1 _ (fun g1 g2 => ?_) (fun ng => ?_)
      · have z15 := hwd.mp ⟨g1, g2⟩
        refine And.intro (fun _ => ?_) (fun h => absurd h (by decide))
        refine And.intro (fun h => absurd w3 h) (fun _ => ?_)
        refine us_next l T hT ru ta rs I0 hs hi hq (d + 1) ((8, []) :: G) 0 310 _ J1 _ (ST_b s3 (by omega)) (by rw [g1]; decide) (fun I4 J4 s4 q4 r4 n4 => ?_)
        have r4 : rm I4 T < rm (uI I2 83 (I1 67 22 - nI 1).toNatClampNeg (I1 67 18)) T := r4
        have ot1 := ot _ _ of oe
        have o2 := (OTr.eqt (G := G) q.1) _ _ ot1.1 ot1.2
        have e18 : I1 67 18 = nI (tkB I0 T (j + 1)).2.1 := by
          rcases tkR_el hx1.1.2.2 (tkB_ok hT (j + 1)) with ⟨z, _⟩ | ⟨z, _⟩ | ⟨_, _, ⟨_, b⟩ | ⟨a, b⟩⟩ | ⟨z, _⟩ | ⟨z, _⟩
          · omega
          · omega
          · exact b
          · omega
          · omega
          · omega
        have ei : (I1 67 22 - nI 1).toNatClampNeg = G.length := by
          rw [en, nI_clamp (by omega)]
          omega
        have f3 : OSf (uI I2 83 (I1 67 22 - nI 1).toNatClampNeg (I1 67 18)) ((8, []) :: G) (((tkB I0 T (j + 1)).2.1, []) :: X.1) := by
          refine ⟨⟨rfl, fun y hy => by cases hy⟩, fun z => by omega, fun _ => ?_, o2.1.up (fun i _ => rfl) (fun i hi => ?_)⟩
          · show upd (I2 83) (I1 67 22 - nI 1).toNatClampNeg (I1 67 18) G.length = _
            rw [ei, pk_us]
            exact e18
          · show upd (I2 83) (I1 67 22 - nI 1).toNatClampNeg (I1 67 18) i = _
            rw [ei]
            exact pk_un (by omega)
        have o4 := (OTr.eqt (G := (8, []) :: G) q4) _ _ f3 (o2.2.eq rfl rfl rfl)
        have a4 : OSa I4 X.2.2 ws := ((oa.eq nk.1.2.2).eq (C5_eq q.1)).eq (I := I2) ((C5_eq q4).trans rfl)
        have xe : xeff (tkB I0 T) (1, KS G, k, ws, j) X = (((tkB I0 T (j + 1)).2.1, []) :: X.1, X.2) := by
          show y1x (tkB I0 T) (KS G) j X = _
          unfold y1x
          rw [p1, p2]
          rfl
        refine hR I4 J4 (Or.inr ⟨_, (s1_part p1 p2).trans (yP_ok h8 (de_word q1e rg' (by decide) z15)), ?_, mu_lt (by omega)⟩)
        rw [xe]
        exact ⟨⟨(8, []) :: G, rfl, Or.inr (Or.inr (Or.inr ⟨Or.inr rfl, rfl, h1⟩)), by simp [opN]; omega, s4, by rw [q4.2 28 (by omega)]; exact t3, o4.1⟩, hx3.nk hT (NK.of q4 n4), o4.2, a4⟩
      · have nz : isWd (tkB I0 T (j + 2)) 15 = false := bF Iff.rfl (fun y => ng (hwd.mpr y))
        refine And.intro (fun h => absurd rfl h) (fun _ => ?_)
        refine ux_errs l (d + 4) 1 (by decide) ru ta rs _ J1 _ (fun I4 e4 => ?_)
        have w4 : ¬ I4 67 19 = 0 := e4.1.1
        refine And.intro (fun _ => ?_) (fun h => absurd h w4)
        exact hR I4 J1 (fer_no s3.1 w3 hx3.1 e4 (by decide) ((s1_part p1 p2).trans (yP_er h8 (de_odd q1e rg' (by decide) nz))))
    · have q1e := ts1.2.2.1.mp q2
      have rg' := tkR_rg hx1.1.2.2 (tkB_ok hT (j + 1)) q1e (lo := 0) (hi := 100) (by omega) (by omega)
      have b := bad I2 0 2 (by decide) e (de_out q1e (fun z => rg (rg'.mpr z)))
      have w3 : ¬ I2 67 19 = 0 := e.1.1
      refine And.intro vp ?_
      refine And.intro (fun _ => ?_) (fun h => absurd h w3)
      exact And.intro (fun _ => b.2 w3 w3) (fun h => absurd h w3)
    · have b := bad I2 0 1 (by decide) e (de_no (fun z => q2.elim nw (fun y => y (ts1.2.2.1.mpr z))))
      have w3 : ¬ I2 67 19 = 0 := e.1.1
      refine And.intro vp ?_
      refine And.intro (fun _ => ?_) (fun h => absurd h w3)
      exact And.intro (fun _ => b.2 w3 w3) (fun h => absurd h w3)
set_option maxRecDepth 100000 in
set_option maxHeartbeats 2000000 in
theorem us_begins (l : Launch) (T : Nat) (hT : T ≤ 300) (ru ta : Nat) (rs : List XO) (I0 : XI) (hs : shO CF (shH ru ta rs)) (hi : ivO CF [] I0) (hq : QQ I0) (d : Nat) (I : XI) (J : XJ) (Rp : XR) (K : List Nat) (k : Nat) (ws : List Nat) (j : Nat) (X : Wdr) (h : GX I0 I T (1, K, k, ws, j) X) (hR : ∀ (I' : XI) (J' : XJ), NXTe I0 I I' T (1, K, k, ws, j) X → Rp none (shH ru ta rs) I' J') : xm l (d + 7) 0 0 mX12_begins [.ref 67] (shH ru ta rs) I J Rp := by
  obtain ⟨⟨G, hK, h1, hop, h, hst, of⟩, hx, oe, oa⟩ := h
  have oa : OSa I X.2.2 ws := oa
  have hK : KS G = K := hK
  subst hK
  have hx : XTm I0 I T k ws j := hx
  have hn := Sh1_n h1
  have r0 := hx.1
  have okj := tkB_ok (I0 := I0) hT j
  have ts := tkR_s r0.2.2 okj
  have w22 := tkR_wd r0.2.2 okj (w := 22) (by omega)
  have g40 := tkR_sg r0.2.2 okj (w := 40) (by decide)
  have g45 := tkR_sg r0.2.2 okj (w := 45) (by decide)
  have err : ∀ (d' : Nat) (f : Nat) (Rq : XR), 1 ≤ f → (0 : Int32) < nI f → mstep (tkB I0 T) (1, KS G, k, ws, j) = .inr (ft (tkB I0 T) f j) → (∀ (I' : XI) (J' : XJ), NXTe I0 I I' T (1, KS G, k, ws, j) X → Rq none (shH ru ta rs) I' J') → xm l (d' + 1) 0 0 mX12_errs [.ref 67, .int (nI f)] (shH ru ta rs) I J Rq := fun d' f Rq hf hf2 hm hq => ux_errs l d' (nI f) hf2 ru ta rs I J Rq (fun I' e => hq I' J (fer_no h.1 h.2.1 r0 e hf hm))
  refine xm_ofK 0 (X := xxX12) (t := tX12_begins) (stop := []) (ini := false) xx12 pl12 rfl kX12_begins (fun h => by cases h) (Nat.le_of_ble_eq_true rfl) (fun K hK => ?_)
  refine ux_nameNow l (d + 5) ru ta rs I J _ (tkB I0 T j) r0.2.2 okj ?_
  refine And.intro (fun n2 => ?_) (fun is2 => ?_)
  · have n2 : ¬ (tkB I0 T j).1 = 2 := fun z => n2 (ts.2.2.1.mpr z)
    by_cases e1 : (tkB I0 T j).1 = 1
    · rw [if_pos e1]
      have hv := okj.2.1 e1
      have s17 := ts.2.1.mpr e1
      cases hno : nmO (tkB I0 T j).2.1 with
      | none =>
        refine And.intro (fun _ => ?_) (fun hne => absurd rfl hne)
        have no3 : ∀ s : Nat, ¬ (I 67 17 = 3 ∧ I 67 18 = nI s) := fun s z => absurd (s17.symm.trans z.1) (by decide)
        refine tx_isSign l (d + 5) 40 ru ta rs I J _ (fun z1 z2 => absurd ⟨z1, z2⟩ (no3 40)) (fun _ => ?_)
        refine And.intro (fun h => absurd rfl h) (fun _ => ?_)
        refine tx_isSign l (d + 5) 45 ru ta rs I J _ (fun z1 z2 => absurd ⟨z1, z2⟩ (no3 45)) (fun _ => ?_)
        refine And.intro (fun _ => ?_) (fun h => absurd rfl h)
        refine tx_isWord l (d + 5) 22 ru ta rs I J _ (fun g1 g2 => ?_) (fun ng => ?_)
        · refine And.intro (fun h => absurd h (by decide)) (fun _ => ?_)
          exact us_part l T hT ru ta rs I0 hs hi hq d G h1 hop I J _ h hst k ws j hx (w22.mp ⟨g1, g2⟩) X of oe oa hR
        · refine And.intro (fun _ => ?_) (fun h => absurd rfl h)
          refine err (d + 5) 1 _ (by decide) (by decide) (s1_word e1 hno (fun z => ?_)) hR
          exact ng (w22.mpr (wd_of e1 z))
      | some n =>
        have hn10 : n ≤ 10 := by
          have y : ((List.range 32).all fun v => match nmO v with
            | some n => Nat.ble n 10
            | none => true) = true := by decide +kernel
          have z := List.all_eq_true.mp y (tkB I0 T j).2.1 (List.mem_range.mpr hv)
          rw [hno] at z
          exact Nat.le_of_ble_eq_true z
        refine And.intro (fun hz => ?_) (fun _ => ?_)
        · exfalso
          have := nI_pos' (n := n) (by omega)
          rw [show nI n = -1 from hz] at this
          exact absurd this (by decide)
        · refine (show xm l (d + 6) 0 0 mX12_mayName [.int (nI n), .int (I 67 31)] (shH ru ta rs) I J _ from ?_)
          rw [hx.2.1.1]
          refine ux_mayName l (d + 5) n k hn10 hx.2.1.2 _ I J _ (fun hm => ?_) (fun hm => ?_)
          · refine And.intro (fun _ => ?_) (fun h => absurd h (by decide))
            refine us_num l (d + 5) T ru ta rs I0 G 310 (by omega) I J _ 401 (nI n) (Or.inr ⟨rfl, by rw [nI_toInt (by omega)]; omega⟩) (by omega) h 401 n rfl rfl (fun I2 s2 k2 ot => ?_)
            refine us_next l T hT ru ta rs I0 hs hi hq (d + 2) G 1 310 I2 J _ s2 (by rw [k2.1.1, s17]; decide) (fun I3 J3 s3 q3 r3 n3 => ?_)
            refine us_oneIsOver l (d + 4) T ru ta rs I0 310 (by omega) J3 _ G I3 (by omega) h1 s3 (fun I4 G4 s4 z1 z2 z3 z4 z5 z6 z7 z8 => ?_)
            have e5 := rm_of (T := T) k2.1.1 k2.1.2.2.2
            have xe : xeff (tkB I0 T) (1, KS G, k, ws, j) X = z1x (KS G) X (401, n) := by
              show y1x (tkB I0 T) (KS G) j X = _
              unfold y1x
              rw [e1, hno]
            have o4 := ((ot.tr (OTr.eqt q3)).tr z8) _ _ of oe
            refine hR I4 J3 (Or.inr ⟨_, s1_name e1 hno hm, ?_, mu_lt (by omega)⟩)
            rw [xe]
            exact ⟨⟨G4, z7, z1, z2, by omega, s4, z4, o4.1⟩, ((hx.kq k2.kq).nk hT (NK.of q3 n3)).kq z6, o4.2, ((oa.eq k2.kq.2.2.2.2).eq (C5_eq q3)).eq z6.2.2.2.2⟩
          · refine And.intro (fun h => absurd rfl h) (fun _ => ?_)
            exact err (d + 5) 5 _ (by decide) (by decide) (s1_wrong e1 hno hm) hR
    · rw [if_neg e1]
      have nw22 : ¬ (I 67 17 = 1 ∧ I 67 18 = 22) := fun z => e1 (ts.2.1.mp z.1)
      refine And.intro (fun _ => ?_) (fun hne => absurd rfl hne)
      refine tx_isSign l (d + 5) 40 ru ta rs I J _ (fun z1 z2 => ?_) (fun ng => ?_)
      · have z := g40.mp ⟨z1, z2⟩
        refine And.intro (fun _ => ?_) (fun h => absurd h (by decide))
        refine tx_isSign l (d + 5) 40 ru ta rs I J _ (fun _ _ => ?_) (fun ng => absurd ⟨z1, z2⟩ ng)
        refine And.intro (fun h => absurd h (by decide)) (fun _ => ?_)
        refine us_opensSign l T hT ru ta rs I0 hs hi hq (d + 1) G 310 (by omega) (by omega) hop 6 (by simp) I J _ h (by rw [z1]; decide) (fun I' e h8 => ?_) (fun I' J' s1 p1 t1 r1 nk ot => ?_)
        · exact hR I' J (fer_no h.1 h.2.1 r0 e (by decide) (s1_brD z (by rw [opK_S]; omega)))
        · have xe : xeff (tkB I0 T) (1, KS G, k, ws, j) X = ((0, []) :: X.1, X.2) := by
            show y1x (tkB I0 T) (KS G) j X = _
            unfold y1x
            rw [(sg_1 z).1]
          have o4 := ot _ _ of oe
          refine hR I' J' (Or.inr ⟨_, s1_br z (by rw [opK_S]; omega), ?_, mu_lt r1⟩)
          rw [xe]
          exact ⟨⟨(6, []) :: G, rfl, Or.inr (Or.inr (Or.inl ⟨rfl, trivial, h1⟩)), by simp [opN]; omega, s1, by rw [t1]; exact hst, ⟨⟨rfl, fun y hy => by cases hy⟩, fun z => by omega, fun z => by omega, o4.1⟩⟩, hx.nk hT nk, o4.2, oa.eq nk.1.2.2⟩
      · refine And.intro (fun h => absurd rfl h) (fun _ => ?_)
        refine tx_isSign l (d + 5) 45 ru ta rs I J _ (fun z1 z2 => ?_) (fun ng2 => ?_)
        · have z := g45.mp ⟨z1, z2⟩
          refine And.intro (fun h => absurd h (by decide)) (fun _ => ?_)
          refine tx_isSign l (d + 5) 40 ru ta rs I J _ (fun w1 w2 => absurd ⟨w1, w2⟩ ng) (fun _ => ?_)
          refine And.intro (fun _ => ?_) (fun h => absurd rfl h)
          refine us_opensSign l T hT ru ta rs I0 hs hi hq (d + 1) G 310 (by omega) (by omega) hop 7 (by simp) I J _ h (by rw [z1]; decide) (fun I' e h8 => ?_) (fun I' J' s1 p1 t1 r1 nk ot => ?_)
          · exact hR I' J (fer_no h.1 h.2.1 r0 e (by decide) (s1_miD z (by rw [opK_S]; omega)))
          · have xe : xeff (tkB I0 T) (1, KS G, k, ws, j) X = ((0, []) :: X.1, X.2) := by
              show y1x (tkB I0 T) (KS G) j X = _
              unfold y1x
              rw [(sg_1 z).1]
            have o4 := ot _ _ of oe
            refine hR I' J' (Or.inr ⟨_, s1_mi z (by rw [opK_S]; omega), ?_, mu_lt r1⟩)
            rw [xe]
            exact ⟨⟨(7, []) :: G, rfl, Or.inr (Or.inr (Or.inr ⟨Or.inl rfl, rfl, h1⟩)), by simp [opN]; omega, s1, by rw [t1]; exact hst, ⟨⟨rfl, fun y hy => by cases hy⟩, fun z => by omega, fun z => by omega, o4.1⟩⟩, hx.nk hT nk, o4.2, oa.eq nk.1.2.2⟩
        · refine And.intro (fun _ => ?_) (fun h => absurd rfl h)
          refine tx_isWord l (d + 5) 22 ru ta rs I J _ (fun g1 g2 => absurd ⟨g1, g2⟩ nw22) (fun _ => ?_)
          refine And.intro (fun _ => ?_) (fun h => absurd rfl h)
          exact err (d + 5) 1 _ (by decide) (by decide) (s1_no n2 e1 (bF Iff.rfl (fun y => ng (g40.mpr y))) (bF Iff.rfl (fun y => ng2 (g45.mpr y)))) hR
  · have is2 : I 67 17 = 2 := is2
    have e2 := ts.2.2.1.mp is2
    have rg := tkR_rg r0.2.2 okj e2 (lo := 0) (hi := 9999) (by omega) (by omega)
    refine And.intro (fun hle => ?_) (fun hgt => ?_)
    · have hle : I 67 18 ≤ nI 9999 := hle
      have hlt : (tkB I0 T j).2.1 < 10000 := by
        rcases tkR_el r0.2.2 okj with ⟨z, _⟩ | ⟨z, _⟩ | ⟨_, _, ⟨a, b⟩ | ⟨a, b⟩⟩ | ⟨z, _⟩ | ⟨z, _⟩
        · omega
        · omega
        · exact a
        · exfalso
          have := Int32.le_trans b hle
          rw [nI_leI (by omega) (by omega)] at this
          omega
        · omega
        · omega
      have ev18 : I 67 18 = nI (tkB I0 T j).2.1 := by
        rcases tkR_el r0.2.2 okj with ⟨z, _⟩ | ⟨z, _⟩ | ⟨_, _, ⟨_, b⟩ | ⟨a, b⟩⟩ | ⟨z, _⟩ | ⟨z, _⟩
        · omega
        · omega
        · exact b
        · omega
        · omega
        · omega
      refine us_num l (d + 5) T ru ta rs I0 G 310 (by omega) I J _ 400 (I 67 18) (Or.inl rfl) (by omega) h 400 (tkB I0 T j).2.1 rfl ev18 (fun I2 s2 k2 ot => ?_)
      refine us_next l T hT ru ta rs I0 hs hi hq (d + 2) G 1 310 I2 J _ s2 (by rw [k2.1.1, is2]; decide) (fun I3 J3 s3 q3 r3 n3 => ?_)
      refine us_oneIsOver l (d + 4) T ru ta rs I0 310 (by omega) J3 _ G I3 (by omega) h1 s3 (fun I4 G4 s4 z1 z2 z3 z4 z5 z6 z7 z8 => ?_)
      have e5 := rm_of (T := T) k2.1.1 k2.1.2.2.2
      have xe : xeff (tkB I0 T) (1, KS G, k, ws, j) X = z1x (KS G) X (400, (tkB I0 T j).2.1) := by
        show y1x (tkB I0 T) (KS G) j X = _
        unfold y1x
        rw [e2]
      have o4 := ((ot.tr (OTr.eqt q3)).tr z8) _ _ of oe
      refine hR I4 J3 (Or.inr ⟨_, s1_num e2 hlt, ?_, mu_lt (by omega)⟩)
      rw [xe]
      exact ⟨⟨G4, z7, z1, z2, by omega, s4, z4, o4.1⟩, ((hx.kq k2.kq).nk hT (NK.of q3 n3)).kq z6, o4.2, ((oa.eq k2.kq.2.2.2.2).eq (C5_eq q3)).eq z6.2.2.2.2⟩
    · have hgt : ¬ I 67 18 ≤ nI 9999 := hgt
      refine err (d + 5) 2 _ (by decide) (by decide) (s1_big e2 ?_) hR
      rcases tkR_el r0.2.2 okj with ⟨z, _⟩ | ⟨z, _⟩ | ⟨_, _, ⟨a, b⟩ | ⟨a, b⟩⟩ | ⟨z, _⟩ | ⟨z, _⟩
      · omega
      · omega
      · rw [b, nI_leI (by omega) (by omega)] at hgt
        omega
      · omega
      · omega
      · omega
end
