-- ===== the reader: a clause, all of them =====
def FC (ta : Nat) (I I' : XI) : Prop := (∀ p, p ≠ 35 → p ≠ ta → p ≠ ta + 1 → p ≠ ta + 2 → p ≠ ta + 3 → p ≠ ta + 4 → I' p = I p) ∧ I' 35 6 = I 35 6
theorem FC.rf {ta : Nat} {I : XI} : FC ta I I := ⟨fun _ _ _ _ _ _ _ => rfl, rfl⟩
theorem FC.tr {ta : Nat} {I I' I'' : XI} (h : FC ta I I') (g : FC ta I' I'') : FC ta I I'' := ⟨fun p a b c d e f => (g.1 p a b c d e f).trans (h.1 p a b c d e f), g.2.trans h.2⟩
theorem FE.fc {ta : Nat} {I I' : XI} (h : FE ta I I') : FC ta I I' := ⟨fun p a b c _ _ _ => h.1 p a b c, h.2.1 6 (by decide) (by decide) (by decide) (by decide) (by decide)⟩
theorem FD.fc {ta : Nat} {I I' : XI} (h : FD ta I I') : FC ta I I' := ⟨fun p a _ _ _ _ f => h.1 p a f, h.2⟩
theorem FC.ev {ta : Nat} {I I' : XI} {tk : Nat → TK} {N : Nat} (ht : TSP ta) (f : FC ta I I') (h : EV I tk N) : EV I' tk N := by
  unfold TSP at ht
  unfold EV
  rw [f.1 30 (by decide) (by omega) (by omega) (by omega) (by omega) (by omega), f.1 32 (by decide) (by omega) (by omega) (by omega) (by omega) (by omega), f.1 33 (by decide) (by omega) (by omega) (by omega) (by omega) (by omega), f.1 34 (by decide) (by omega) (by omega) (by omega) (by omega) (by omega)]
  exact h
/-- ahead of a clause -/
def CLs (ta : Nat) (I : XI) (j c : Nat) (ws : List Nat) : Prop := ATt ta I j c ∧ I ta 5 = nI ws.length ∧ ∀ w, w < 5 → (w ∈ ws ↔ I (ta + 2) w < I (ta + 3) w)
/-- a clause that was read: its word, its orders, its numbers -/
def CLp (ta : Nat) (I : XI) (c : Nat) (E : List Odr) (i w at_ : Nat) (dn : List Nat) : Prop := w ≤ 13 ∧ I (ta + 4) (4 * i) = nI w ∧ (w ≤ 4 → ∃ st e pre r, I (ta + 2) w = nI st ∧ I (ta + 3) w = nI (st + e.length) ∧ st + e.length ≤ c ∧ Cds (I (ta + 1)) st e ∧ Typ w 22 (Nat.beq w 4) e ∧ E = pre ++ e ++ [(408, 0)] ++ r ∧ pre.length = at_) ∧ (4 < w → dn.length = (fmS w).length ∧ ∀ x, x < dn.length → I (ta + 4) (4 * i + 1 + x) = nI (dn.getD x 0))
def GT (ta : Nat) (I : XI) (ws : List Nat) (c : Nat) (E : List Odr) (A : Adr) : Prop := A.length = ws.length ∧ ∀ i, i < ws.length → CLp ta I c E i (ws.getD i 0) (A.getD i (0, [])).1 (A.getD i (0, [])).2
theorem getD_mem {l : List Nat} {i : Nat} (h : i < l.length) : l.getD i 0 ∈ l := by
  rw [List.getD_eq_getElem?_getD, List.getElem?_eq_getElem h]
  exact List.getElem_mem h
theorem getD_appL {α : Type} {l m : List α} {i : Nat} {d : α} (h : i < l.length) : (l ++ m).getD i d = l.getD i d := by
  rw [List.getD_eq_getElem?_getD, List.getD_eq_getElem?_getD, List.getElem?_append_left h]
theorem getD_appR {α : Type} {l : List α} {a d : α} : (l ++ [a]).getD l.length d = a := by
  rw [List.getD_eq_getElem?_getD, List.getElem?_append_right (Nat.le_refl _)]
  simp
theorem CLp.keep {ta : Nat} {I I' : XI} {c c' : Nat} {E F : List Odr} {i w at_ q : Nat} {dn : List Nat} (h : CLp ta I c E i w at_ dn) (hi : i < q) (hdn : 4 < w → dn.length ≤ 3) (h4 : ∀ x, x < 4 * q → I' (ta + 4) x = I (ta + 4) x) (h1 : ∀ x, x < c → I' (ta + 1) x = I (ta + 1) x) (hc : c ≤ c') (h23 : w ≤ 4 → I' (ta + 2) w = I (ta + 2) w ∧ I' (ta + 3) w = I (ta + 3) w) : CLp ta I' c' (E ++ F) i w at_ dn := by
  obtain ⟨a1, a2, a3, a4⟩ := h
  refine ⟨a1, by rw [h4 _ (by omega)]; exact a2, fun hw => ?_, fun hw => ⟨(a4 hw).1, fun x hx => ?_⟩⟩
  · obtain ⟨st, e, pre, r, b1, b2, b3, b4, b5, b6, b7⟩ := a3 hw
    refine ⟨st, e, pre, r ++ F, by rw [(h23 hw).1]; exact b1, by rw [(h23 hw).2]; exact b2, by omega, b4.up (fun x _ hx => h1 x (by omega)), b5, ?_, b7⟩
    rw [b6]
    simp [List.append_assoc]
  · have := hdn hw
    rw [h4 _ (by omega)]
    exact (a4 hw).2 x hx
theorem fm_len : ((List.range 9).all fun v => Nat.ble (fmS (v + 5)).length 3) = true := by decide +kernel
theorem fm_le {w : Nat} (h : 4 < w) (h2 : w ≤ 13) : (fmS w).length ≤ 3 := by
  have y := List.all_eq_true.mp fm_len (w - 5) (List.mem_range.mpr (by omega))
  rw [show w - 5 + 5 = w by omega] at y
  exact Nat.le_of_ble_eq_true y
theorem deN_len {tk : Nat → TK} {w j : Nat} (h : 4 < w) (h2 : w ≤ 13) : (deN tk (fmS w) j).length = (fmS w).length := by
  have y : w = 5 ∨ w = 6 ∨ w = 7 ∨ w = 8 ∨ w = 9 ∨ w = 10 ∨ w = 11 ∨ w = 12 ∨ w = 13 := by omega
  rcases y with rfl | rfl | rfl | rfl | rfl | rfl | rfl | rfl | rfl <;> rfl
theorem GT.snoc {ta : Nat} {I I' : XI} {ws : List Nat} {c c' : Nat} {E F : List Odr} {A : Adr} {v at_ : Nat} {dn : List Nat} (h : GT ta I ws c E A) (h4 : ∀ x, x < 4 * ws.length → I' (ta + 4) x = I (ta + 4) x) (h1 : ∀ x, x < c → I' (ta + 1) x = I (ta + 1) x) (hc : c ≤ c') (h23 : ∀ w, w ∈ ws → w ≤ 4 → I' (ta + 2) w = I (ta + 2) w ∧ I' (ta + 3) w = I (ta + 3) w) (g : CLp ta I' c' (E ++ F) ws.length v at_ dn) : GT ta I' (ws ++ [v]) c' (E ++ F) (A ++ [(at_, dn)]) := by
  refine ⟨by simp [h.1], fun i hi => ?_⟩
  rcases Nat.lt_or_ge i ws.length with z | z
  · rw [getD_appL z, getD_appL (by rw [h.1]; exact z)]
    have y := h.2 i z
    refine y.keep (q := ws.length) z (fun hw => ?_) h4 h1 hc (fun hw => h23 _ (getD_mem z) hw)
    rw [(y.2.2.2 hw).1]
    exact fm_le hw y.1
  · have e : i = ws.length := by
      simp at hi
      omega
    subst e
    rw [getD_appR, show (A ++ [(at_, dn)]).getD ws.length (0, []) = (at_, dn) by rw [← h.1]; exact getD_appR]
    exact g
/-- what a clause adds -/
def GTX (ta : Nat) (tk : Nat → TK) (I I' : XI) (ws : List Nat) (c c' v : Nat) (s t : MS) : Prop := ∀ (E : List Odr) (A : Adr), GT ta I ws c E A → ∃ E' A', GT ta I' (ws ++ [v]) c' E' A' ∧ Rx tk (s, [], E, A) (t, [], E', A')
def CNO (ta : Nat) (tk : Nat → TK) (I : XI) (s : MS) (I' : XI) : Prop := ∃ f p c' q, FC ta I I' ∧ (I' 35 7 = nI f ∧ I' 35 8 = nI p ∧ 1 ≤ f) ∧ (c' ≤ 300 ∧ I' ta 1 = nI c') ∧ (q ≤ 24 ∧ I' ta 5 = nI q) ∧ Ends tk s (f, p)
def COK (ta N : Nat) (tk : Nat → TK) (I : XI) (j c : Nat) (ws : List Nat) (s : MS) (I' : XI) : Prop := ∃ j' c' v, FC ta I I' ∧ (I' 35 7 = I 35 7 ∧ I' 35 8 = I 35 8) ∧ CLs ta I' j' c' (ws ++ [v]) ∧ j' < N ∧ c' ≤ j' ∧ j + 1 ≤ j' ∧ Rch tk s (4, [], v, ws ++ [v], j') ∧ GTX ta tk I I' ws c c' v s (4, [], v, ws ++ [v], j')
theorem cw_id : ((List.range 32).all fun w => match Nat.ble w 13 with
  | true => Nat.beq (cw w) w
  | false => Nat.blt 13 (cw w)) = true := by decide +kernel
theorem cw_id1 {w : Nat} (h : w ≤ 13) : cw w = w := by
  have y := List.all_eq_true.mp cw_id w (List.mem_range.mpr (by omega))
  rw [Nat.ble_eq.mpr h] at y
  exact Nat.eq_of_beq_eq_true y
theorem cw_id2 {w : Nat} (h : 13 < w) (h2 : w < 32) : 13 < cw w := by
  have y := List.all_eq_true.mp cw_id w (List.mem_range.mpr h2)
  have e : Nat.ble w 13 = false := by
    cases e : Nat.ble w 13 with
    | true => exact absurd (Nat.le_of_ble_eq_true e) (by omega)
    | false => rfl
  rw [e] at y
  exact Nat.blt_eq.mp y
theorem naL_get {w : Nat} (h : w < 5) : ([63, 62, 454, 199, 1567] : List Int32).getD w 0 = nI (naL w) := by
  have y : ((List.range 5).all fun w => decide (([63, 62, 454, 199, 1567] : List Int32).getD w 0 = nI (naL w))) = true := by decide +kernel
  exact of_decide_eq_true (List.all_eq_true.mp y w (List.mem_range.mpr h))
theorem avI_23 {ta i : Nat} {I : XI} (ht : TSP ta) : avI I i (ta + 2) = I (ta + 2) := by
  unfold TSP at ht
  unfold avI
  rw [uI_ne (by omega), uI_ne (by omega), uI_ne (by omega)]
theorem avI_23' {ta i : Nat} {I : XI} (ht : TSP ta) : avI I i (ta + 3) = I (ta + 3) := by
  unfold TSP at ht
  unfold avI
  rw [uI_ne (by omega), uI_ne (by omega), uI_ne (by omega)]
theorem opI_ne {ta w : Nat} {I : XI} {v : Int32} (ht : TSP ta) : opI (uI I 35 2 v) ta w (ta + 1) = I (ta + 1) := by
  unfold TSP at ht
  unfold opI
  rw [uI_ne (by omega), uI_ne (by omega)]
theorem opI_ac {ta w q : Nat} {I I0 : XI} {v x : Int32} (ht : TSP ta) (h : I (ta + 4) (4 * q) = x) (g : ∀ y, y < 4 * q → I (ta + 4) y = I0 (ta + 4) y) : AC4 ta I0 (opI (uI I 35 2 v) ta w) q x := by
  unfold TSP at ht
  have e : opI (uI I 35 2 v) ta w (ta + 4) = I (ta + 4) := by
    unfold opI
    rw [uI_ne (by omega), uI_ne (by omega)]
  unfold AC4
  rw [e]
  exact ⟨h, g⟩
theorem opI_23 {ta w x : Nat} {I I0 : XI} {v : Int32} (ht : TSP ta) (hx : x ≠ w) (h2 : I (ta + 2) = I0 (ta + 2)) (h3 : I (ta + 3) = I0 (ta + 3)) : opI (uI I 35 2 v) ta w (ta + 2) x = I0 (ta + 2) x ∧ opI (uI I 35 2 v) ta w (ta + 3) x = I0 (ta + 3) x := by
  unfold TSP at ht
  unfold opI
  rw [uI_atC, if_neg hx, uI_ne (show ta + 2 ≠ 35 by omega), uI_ne (show ta + 3 ≠ ta + 2 by omega), uI_ne (show ta + 3 ≠ 35 by omega), h2, h3]
  exact ⟨rfl, rfl⟩
section CLAUSE
variable {l : Launch} {ru_ ta : Nat} {rs : List XO} {tk : Nat → TK} {N : Nat}
abbrev clr (l : Launch) (ru_ ta : Nat) (rs : List XO) (J : XJ) (Rp : XR) (n S pc : Nat) (lc : List (Option Value)) (I : XI) : Prop := xrun xxX5 (some .boolean) false false (shH ru_ ta rs).length 0 0 none l n tX5_clause [137] Rp S pc lc [] (shH ru_ ta rs) I J 0 0
set_option maxRecDepth 100000 in
set_option maxHeartbeats 1000000 in
/-- behind the law: it is closed, then its end -/
theorem rd_law_137 (ht : TSP ta) (hk : TKN tk N) {n : Nat} (hn : 2 ≤ n) (J : XJ) (Rp : XR) (ws : List Nat) (w j0 c0 : Nat) (hw : w < 5) (hlen : ws.length < 24) (s0 : MS) (I I3 : XI) (f3 : FC ta I I3) (e78 : I3 35 7 = I 35 7 ∧ I3 35 8 = I 35 8) (ev3 : EV I3 tk N) (e5 : I3 ta 5 = nI (ws.length + 1)) (hl : ∀ x, x < 5 → x ≠ w → (x ∈ ws ↔ I3 (ta + 2) x < I3 (ta + 3) x)) (hst : I3 (ta + 2) w = nI c0) (hc0 : c0 ≤ j0) (hnw : w ∉ ws) (ac : AC4 ta I I3 ws.length (nI w)) (row1 : I3 (ta + 1) = I (ta + 1)) (r23 : ∀ x, x < 5 → x ≠ w → I3 (ta + 2) x = I (ta + 2) x ∧ I3 (ta + 3) x = I (ta + 3) x) (hS : ∀ I', COK ta N tk I j0 c0 ws s0 I' → Rp (some (.int 1)) (shH ru_ ta rs) I' J) (hF : ∀ I', CNO ta tk I s0 I' → Rp (some (.int 0)) (shH ru_ ta rs) I' J) (S : Nat) (num : Int32) : (∀ (I4 : XI) (j4 c4 : Nat) (s1 : MS), FS ta I3 I4 → ATt ta I4 j4 c4 → j4 < N → c0 + 1 ≤ c4 → c4 ≤ j4 → j0 + 1 ≤ j4 → Rch tk s0 s1 → (isSg (tk j4) 59 = true → mstep tk s1 = .inl (4, [], w, ws ++ [w], j4 + 1)) → (isSg (tk j4) 59 = false → mstep tk s1 = .inr (ft tk 1 j4)) → (∀ e, Cem ta I3 I4 c0 c4 e → Typ w 22 (Nat.beq w 4) e → (isSg (tk j4) 59 = true → ∀ (E : List Odr) (A : Adr), Rx tk (s0, [], E, A) ((4, [], w, ws ++ [w], j4 + 1), [], E ++ e ++ [(408, 0)], A ++ [(E.length, [])])) → clr l ru_ ta rs J Rp n (S + 1) 137 [some (.ref 35), some (.int num), some (.int (nI w)), some (.int 1)] I4)) ∧ (∀ (I4 : XI) (s1 : MS), NOR ta tk I3 s1 I4 → Rch tk s0 s1 → clr l ru_ ta rs J Rp n (S + 1) 137 [some (.ref 35), some (.int num), some (.int (nI w)), some (.int 0)] I4) := by
  have hN := hk.2.1
  have ht2 := ht
  unfold TSP at ht2
  constructor
  · intro I4 j4 c4 s1 f4 at4 hj4 hcc hc4 hjj r1 hA hB e ce tye hX
    have ev4 := ev3.fe ht f4.1
    have f5 : FC ta I (clsI I4 ta w) := (f3.tr f4.1.fc).tr ⟨fun p _ _ _ _ d _ => uI_ne d, by
      unfold clsI
      rw [uI_ne (by omega)]⟩
    have e35 : clsI I4 ta w 35 = I4 35 := by unfold clsI; rw [uI_ne (by omega)]
    have eta : clsI I4 ta w ta = I4 ta := by unfold clsI; rw [uI_ne (by omega)]
    have e32 : clsI I4 ta w 32 = I4 32 := by unfold clsI; rw [uI_ne (by omega)]
    have e33 : clsI I4 ta w 33 = I4 33 := by unfold clsI; rw [uI_ne (by omega)]
    have ev5 : EV (clsI I4 ta w) tk N := f5.ev ht ((show FC ta I3 I from ⟨fun p a b c d e f => (f3.1 p a b c d e f).symm, f3.2.symm⟩).ev ht ev3)
    have at5 : ATt ta (clsI I4 ta w) j4 c4 := by
      unfold ATt
      rw [e35, eta, e32, e33]
      exact at4
    have tk5 := at5.tk ev5 hj4
    have hsg := tkC_sg tk5 (hk.2.2.2.2 j4) (w := 59) (by decide)
    have nx : isSg (tk j4) 59 = true → j4 + 1 < N := fun z => hk.nx hj4 (by rw [(sg_1 z).1]; decide)
    have r2 : ∀ x, clsI I4 ta w (ta + 2) x = I3 (ta + 2) x := fun x => by
      unfold clsI
      rw [uI_ne (by omega), f4.1.1 (ta + 2) (by omega) (by omega) (by omega)]
    have r3 : ∀ x, clsI I4 ta w (ta + 3) x = if x = w then nI c4 else I3 (ta + 3) x := fun x => by
      unfold clsI
      rw [uI_atC, at4.2.2.2, f4.1.1 (ta + 3) (by omega) (by omega) (by omega)]
    have law : ∀ x, x < 5 → (x ∈ ws ++ [w] ↔ clsI I4 ta w (ta + 2) x < clsI I4 ta w (ta + 3) x) := fun x hx => by
      rw [r2, r3]
      by_cases e : x = w
      · rw [if_pos e, e, hst]
        exact ⟨fun _ => nI_lt (by omega) (by omega), fun _ => List.mem_append_right _ (List.mem_singleton.mpr rfl)⟩
      · rw [if_neg e, ← hl x hx e]
        constructor
        · intro z
          rcases List.mem_append.mp z with z | z
          · exact z
          · exact absurd (List.mem_singleton.mp z) e
        · exact fun z => List.mem_append_left _ z
    have cta : clsI I4 ta w ta 5 = nI (ws.length + 1) := by rw [eta, f4.1.2.2 5 (by decide)]; exact e5
    have c78 : clsI I4 ta w 35 7 = I 35 7 ∧ clsI I4 ta w 35 8 = I 35 8 := by
      rw [e35]
      exact ⟨f4.2.1.trans e78.1, f4.2.2.trans e78.2⟩
    have fin : isSg (tk j4) 59 = true → COK ta N tk I j0 c0 ws s0 (avI (clsI I4 ta w) (j4 + 1)) := fun z => by
      have g := avI_fs (I := clsI I4 ta w) (i := j4 + 1) ht
      refine ⟨j4 + 1, c4, w, f5.tr g.1.fc, ⟨g.2.1.trans c78.1, g.2.2.trans c78.2⟩, ⟨avI_at ht at5.2.2.2, ?_, fun x hx => ?_⟩, nx z, by omega, by omega, r1.tr (Rch.step (hA z) (Rch.rf _)), fun E A hg => ?_⟩
      · rw [g.1.2.2 5 (by decide), cta, List.length_append]
        rfl
      · rw [g.1.1 (ta + 2) (by omega) (by omega) (by omega), g.1.1 (ta + 3) (by omega) (by omega) (by omega)]
        exact law x hx
      · have s2 : ∀ x, avI (clsI I4 ta w) (j4 + 1) (ta + 2) x = I3 (ta + 2) x := fun x => by
          rw [g.1.1 (ta + 2) (by omega) (by omega) (by omega)]
          exact r2 x
        have s3 : ∀ x, avI (clsI I4 ta w) (j4 + 1) (ta + 3) x = if x = w then nI c4 else I3 (ta + 3) x := fun x => by
          rw [g.1.1 (ta + 3) (by omega) (by omega) (by omega)]
          exact r3 x
        have s4 : avI (clsI I4 ta w) (j4 + 1) (ta + 4) = I3 (ta + 4) := by
          rw [avI_r4 ht]
          unfold clsI
          rw [uI_ne (by omega), f4.1.1 (ta + 4) (by omega) (by omega) (by omega)]
        have s1' : avI (clsI I4 ta w) (j4 + 1) (ta + 1) = I4 (ta + 1) := by
          rw [avI_row ht]
          unfold clsI
          rw [uI_ne (by omega)]
        refine ⟨E ++ (e ++ [(408, 0)]), A ++ [(E.length, [])], hg.snoc (fun x hx => by rw [s4]; exact ac.2 x hx) (fun x hx => by rw [s1', ce.1 x hx, row1]) (by rw [ce.2.1]; omega) (fun x hx hx4 => ?_) ⟨by omega, by rw [s4]; exact ac.1, fun _ => ⟨c0, e, E, [], by rw [s2]; exact hst, by rw [s3, if_pos rfl, ce.2.1], by rw [ce.2.1]; exact Nat.le_refl _, by rw [s1']; exact ce.2.2, tye, by simp [List.append_assoc], rfl⟩, fun hw4 => by omega⟩, ?_⟩
        · have hne : x ≠ w := fun z => hnw (by rw [← z]; exact hx)
          rw [s2, s3, if_neg hne]
          exact r23 x (by omega) hne
        · have y := hX z E A
          rw [List.append_assoc] at y
          exact y
    have fail : isSg (tk j4) 59 = false → CNO ta tk I s0 (FI (clsI I4 ta w) 1 j4) := fun z => by
      have g := FI_fe (ta := ta) (I := clsI I4 ta w) (f := 1) (j := j4) ht
      have eta2 : FI (clsI I4 ta w) 1 j4 ta = I4 ta := by unfold FI; rw [uI_ne (by omega), uI_ne (by omega), eta]
      refine ⟨1, (tk j4).2.2.1, c4, ws.length + 1, f5.tr g.fc, ⟨rfl, (ev5.2 j4 hj4).2, by decide⟩, ⟨by omega, by rw [eta2]; exact at4.2.2.2⟩, ⟨by omega, ?_⟩, r1.ends (Ends.now (hB z))⟩
      rw [eta2, f4.1.2.2 5 (by decide)]
      exact e5
    have key : ∀ (Rq : XR), (isSg (tk j4) 59 = true → Rq (some (.int 1)) (shH ru_ ta rs) (avI (clsI I4 ta w) (j4 + 1)) J) → (isSg (tk j4) 59 = false → Rq (some (.int 0)) (shH ru_ ta rs) (FI (clsI I4 ta w) 1 j4) J) → xm l n 0 0 mX5_sign [.ref 35, .int 59] (shH ru_ ta rs) (clsI I4 ta w) J Rq := fun Rq h1 h2 => rd_sign l ru_ ta rs (clsI I4 ta w) J Rq n hn 59 j4 N hN hj4 at5.1 ev5.1 (fun z => nx (hsg.mp z)) (fun z => h1 (hsg.mp z)) (fun z => h2 (bF Iff.rfl (fun y => z (hsg.mpr y))))
    obtain rfl | rfl | rfl | rfl | rfl := id ht
    all_goals
      refine xrun_step fun Kk hKk => ?_
      refine rd_closeLaw l ru_ _ rs I4 J _ ht n (by omega) w hw ?_
      refine And.intro (fun h => absurd h (by decide)) (fun _ => ?_)
      refine key _ (fun z => ?_) (fun z => ?_)
      · exact And.intro (fun h => absurd h (by decide)) (fun _ => And.intro (Or.inr rfl) (hS _ (fin z)))
      · exact And.intro (fun _ => And.intro (Or.inl rfl) (hF _ (fail z))) (fun h => absurd rfl h)
  · intro I4 s1 h r1
    obtain ⟨f, p, c', h1, h2, h3, h4, h5, h6, h7⟩ := h
    have e35 : clsI I4 ta w 35 = I4 35 := by unfold clsI; rw [uI_ne (by omega)]
    have eta : clsI I4 ta w ta = I4 ta := by unfold clsI; rw [uI_ne (by omega)]
    have fin : CNO ta tk I s0 (clsI I4 ta w) := by
      refine ⟨f, p, c', ws.length + 1, (f3.tr h1.fc).tr ⟨fun p _ _ _ _ d _ => uI_ne d, by rw [e35]⟩, ⟨by rw [e35]; exact h2, by rw [e35]; exact h3, h7⟩, ⟨h4, by rw [eta]; exact h5⟩, ⟨by omega, ?_⟩, r1.ends h6⟩
      rw [eta, h1.2.2 5 (by decide)]
      exact e5
    obtain rfl | rfl | rfl | rfl | rfl := id ht
    all_goals
      refine xrun_step fun Kk hKk => ?_
      refine rd_closeLaw l ru_ _ rs I4 J _ ht n (by omega) w hw ?_
      exact And.intro (fun _ => And.intro (Or.inl rfl) (hF _ fin)) (fun h => absurd rfl h)
set_option maxRecDepth 100000 in
set_option maxHeartbeats 2000000 in
theorem rd_clause (ht : TSP ta) (hk : TKN tk N) {n : Nat} (hn : 31 ≤ n) (j c : Nat) (ws K : List Nat) (k : Nat) (I : XI) (J : XJ) (Rp : XR) (hev : EV I tk N) (h : CLs ta I j c ws) (hj : j < N) (hc : c ≤ j) (h0 : (tk j).1 ≠ 0) (hlen : ws.length ≤ 24) (hS : ∀ I', COK ta N tk I j c ws (4, K, k, ws, j) I' → Rp (some (.int 1)) (shH ru_ ta rs) I' J) (hF : ∀ I', CNO ta tk I (4, K, k, ws, j) I' → Rp (some (.int 0)) (shH ru_ ta rs) I' J) : xm l (n + 1) 0 0 mX5_clause [.ref 35, .int (nI ws.length)] (shH ru_ ta rs) I J Rp := by
  obtain ⟨hat, e5, hlaw⟩ := h
  have hN := hk.2.1
  have ht2 := ht
  unfold TSP at ht2
  have okj := hk.2.2.2.2 j
  have tkj := hat.tk hev hj
  have hlt := hk.nx hj h0
  have fail : ∀ f, 1 ≤ f → mstep tk (4, K, k, ws, j) = .inr (ft tk f j) → CNO ta tk I (4, K, k, ws, j) (FI I f j) := fun f hf hm => by
    have g := FI_fe (ta := ta) (I := I) (f := f) (j := j) ht
    have eta : FI I f j ta = I ta := by unfold FI; rw [uI_ne (by omega), uI_ne (by omega)]
    exact ⟨f, (tk j).2.2.1, c, ws.length, g.fc, ⟨rfl, (hev.2 j hj).2, hf⟩, ⟨by omega, by rw [eta]; exact hat.2.2.2⟩, ⟨hlen, by rw [eta]; exact e5⟩, Ends.now hm⟩
  have odd : ¬ ((tk j).1 = 1 ∧ (tk j).2.1 ≤ 13) → ∀ Rq : XR, (((0 : Int32) = 0 ∨ (0 : Int32) = 1) ∧ Rp (some (.int 0)) (shH ru_ ta rs) (FI I 1 j) J → Rq (some (.int 0)) (shH ru_ ta rs) (FI I 1 j) J) → xm l n 0 0 mX5_fail [.ref 35, .int 1] (shH ru_ ta rs) I J Rq := fun hz Rq hq => rd_fail l ru_ ta rs I J Rq n (by omega) 1 j (by omega) hat.1 (hq ⟨Or.inl rfl, hF _ (fail 1 (by decide) (s4_odd h0 hz))⟩)
  refine xm_ofK 3 (X := xxX5) (t := tX5_clause) (stop := [137]) (ini := false) xx5 pl5 rfl kX5_clause (fun h => by cases h) (Nat.le_of_ble_eq_true rfl) (fun Kk hKk => ?_)
  rcases tkC_el tkj okj with ⟨e, z⟩ | ⟨e, z, y⟩ | ⟨e, z, _⟩ | ⟨e, z⟩ | ⟨e, z⟩
  · exact absurd e h0
  · refine And.intro (fun w => absurd z w) (fun _ => ?_)
    have hv := okj.2.1 e
    have hcw := cw_lt (k := (tk j).2.1)
    generalize hw : (tk j).2.1 = w at y hv hcw
    refine And.intro (fun q => absurd (show I 35 5 < 0 from q) (by rw [y]; exact nI_pos (by omega))) (fun _ => ?_)
    refine And.intro (fun q => ?_) (fun q => ?_)
    · have q : I 35 5 ≤ nI 13 := q
      rw [y, nI_leI (by omega) (by omega)] at q
      have h13 : w ≤ 13 := by
        rcases Nat.lt_or_ge 13 w with u | u
        · have := cw_id2 u hv
          omega
        · exact u
      rw [cw_id1 h13] at y
      have noT : ¬ (w < 5 ∧ I (ta + 2) w < I (ta + 3) w) → ¬ ((tk j).2.1 ≤ 4 ∧ (tk j).2.1 ∈ ws) := fun u v => by
        rw [hw] at v
        exact u ⟨by omega, (hlaw w (by omega)).mp v.2⟩
      have many : 24 ≤ ws.length → ¬ ((tk j).2.1 ≤ 4 ∧ (tk j).2.1 ∈ ws) → ((0 : Int32) = 0 ∨ (0 : Int32) = 1) ∧ Rp (some (.int 0)) (shH ru_ ta rs) (FI I 6 j) J := fun u v => ⟨Or.inl rfl, hF _ (fail 6 (by decide) (s4_many e (by omega) v u))⟩
      have twice : w < 5 → I (ta + 2) w < I (ta + 3) w → ((0 : Int32) = 0 ∨ (0 : Int32) = 1) ∧ Rp (some (.int 0)) (shH ru_ ta rs) (FI I 4 j) J := fun u v => ⟨Or.inl rfl, hF _ (fail 4 (by decide) (s4_twice e (by omega) (by rw [hw]; exact (hlaw w u).mpr v)))⟩
      -- what addClause leaves
      have add : ∀ I1 : XI, (∀ p, p ≠ ta → p ≠ ta + 4 → I1 p = I p) → (∀ k, k ≠ 5 → I1 ta k = I ta k) → I1 ta 5 = I ta 5 + 1 → AC4 ta I I1 ws.length (nI w) → FC ta I (avI I1 (j + 1)) ∧ (avI I1 (j + 1) 35 7 = I 35 7 ∧ avI I1 (j + 1) 35 8 = I 35 8) ∧ ATt ta (avI I1 (j + 1)) (j + 1) c ∧ avI I1 (j + 1) ta 5 = nI (ws.length + 1) ∧ (∀ x, avI I1 (j + 1) (ta + 2) x = I (ta + 2) x ∧ avI I1 (j + 1) (ta + 3) x = I (ta + 3) x) ∧ (I1 35 3 + 1 = nI (j + 1) ∧ I1 30 5 = nI N) := fun I1 h1 h2 h3 ac => by
        have g := avI_fs (ta := ta) (I := I1) (i := j + 1) ht
        have e35 : I1 35 = I 35 := h1 35 (by omega) (by omega)
        refine ⟨FC.tr ⟨fun p _ b _ _ _ d => h1 p b d, by rw [e35]⟩ g.1.fc, ⟨by rw [g.2.1, e35], by rw [g.2.2, e35]⟩, avI_at ht (by rw [h2 1 (by decide)]; exact hat.2.2.2), ?_, fun x => ⟨?_, ?_⟩, ?_, ?_⟩
        · rw [g.1.2.2 5 (by decide), h3, e5, nI_1]
        · rw [g.1.1 (ta + 2) (by omega) (by omega) (by omega), h1 (ta + 2) (by omega) (by omega)]
        · rw [g.1.1 (ta + 3) (by omega) (by omega) (by omega), h1 (ta + 3) (by omega) (by omega)]
        · rw [e35, hat.1, nI_1]
        · rw [h1 30 (by omega) (by omega)]
          exact hev.1
      -- a deed
      have deed : ∀ I1 : XI, (∀ p, p ≠ ta → p ≠ ta + 4 → I1 p = I p) → (∀ k, k ≠ 5 → I1 ta k = I ta k) → I1 ta 5 = I ta 5 + 1 → AC4 ta I I1 ws.length (nI w) → 5 ≤ w → ws.length < 24 → ∀ (Rq Rs : XR), (∀ I', CNO ta tk I (4, K, k, ws, j) I' → Rq (some (.int 0)) (shH ru_ ta rs) I' J) → (∀ (I2 : XI), xm l n 0 0 mX5_sign [.ref 35, .int 59] (shH ru_ ta rs) I2 J Rs → Rq (some (.int 1)) (shH ru_ ta rs) I2 J) → (∀ I', COK ta N tk I j c ws (4, K, k, ws, j) I' → Rs (some (.int 1)) (shH ru_ ta rs) I' J) → (∀ I', CNO ta tk I (4, K, k, ws, j) I' → Rs (some (.int 0)) (shH ru_ ta rs) I' J) → xm l n 0 0 mX5_deed [.ref 35, .int (nI w)] (shH ru_ ta rs) (avI I1 (j + 1)) J Rq := fun I1 h1 h2 h3 ac hw5 hl Rq Rs b1 b2 b3 b4 => by
        obtain ⟨g1, g2, g3, g4, g5, g6⟩ := add I1 h1 h2 h3 ac
        have ev2 := g1.ev ht hev
        have sd : mstep tk (4, K, k, ws, j) = _ := s4_deed e (by omega) (by omega) hl
        rw [hw] at sd
        obtain ⟨n, rfl⟩ : ∃ n', n = n' + 1 := ⟨n - 1, by omega⟩
        refine rd_deed ht hk (by omega) w (j + 1) c ⟨hw5, h13⟩ (avI I1 (j + 1)) J Rq ev2 g3 hlt ws.length hl g4 (fun I2 j2 q1 q2 q3 q4 q5 q6 q7 => ?_) (fun I2 f p q1 q2 q3 q4 q5 => ?_)
        · rw [q6] at sd
          have f2 := g1.tr q1.fc
          have ev3 := f2.ev ht hev
          have tk2 := q3.tk ev3 q4
          have hsg := tkC_sg tk2 (hk.2.2.2.2 j2) (w := 59) (by decide)
          have nx : isSg (tk j2) 59 = true → j2 + 1 < N := fun z => hk.nx q4 (by rw [(sg_1 z).1]; decide)
          have e2ta : I2 ta = avI I1 (j + 1) ta := q1.1 ta (by omega) (by omega)
          refine b2 I2 (rd_sign l ru_ ta rs I2 J _ (n + 1) (by omega) 59 j2 N hN q4 q3.1 ev3.1 (fun z => nx (hsg.mp z)) (fun z => b3 _ ?_) (fun z => b4 _ ?_))
          · have z := hsg.mp z
            dsimp only at sd
            rw [z] at sd
            have g := avI_fs (ta := ta) (I := I2) (i := j2 + 1) ht
            refine ⟨j2 + 1, c, w, f2.tr g.1.fc, ⟨g.2.1.trans (q2.1.trans g2.1), g.2.2.trans (q2.2.trans g2.2)⟩, ⟨avI_at ht q3.2.2.2, ?_, fun x hx => ?_⟩, nx z, by omega, by omega, Rch.step sd (Rch.rf _), fun E A hg => ?_⟩
            · rw [g.1.2.2 5 (by decide), e2ta, g4, List.length_append]
              rfl
            · rw [g.1.1 (ta + 2) (by omega) (by omega) (by omega), g.1.1 (ta + 3) (by omega) (by omega) (by omega), q1.1 (ta + 2) (by omega) (by omega), q1.1 (ta + 3) (by omega) (by omega), (g5 x).1, (g5 x).2, ← hlaw x hx]
              constructor
              · intro u
                rcases List.mem_append.mp u with u | u
                · exact u
                · have := List.mem_singleton.mp u
                  omega
              · exact fun u => List.mem_append_left _ u
            · have r4 : ∀ x, avI I1 (j + 1) (ta + 4) x = I1 (ta + 4) x := fun x => by rw [avI_r4 ht]
              have t4 : avI I2 (j2 + 1) (ta + 4) = I2 (ta + 4) := avI_r4 ht
              have t1 : avI I2 (j2 + 1) (ta + 1) = I (ta + 1) := by
                rw [avI_row ht, q1.1 (ta + 1) (by omega) (by omega), avI_row ht, h1 (ta + 1) (by omega) (by omega)]
              refine ⟨E ++ [(408, 0)], A ++ [(E.length, deN tk (fmS w) (j + 1))], hg.snoc (fun x hx => ?_) (fun x _ => by rw [t1]) (Nat.le_refl _) (fun x hx hx4 => ?_) ⟨h13, ?_, fun h4 => by omega, fun _ => ⟨deN_len (by omega) h13, fun x hx => ?_⟩⟩, ?_⟩
              · rw [t4, q7.1 x (by omega), r4]
                exact ac.2 x hx
              · rw [g.1.1 (ta + 2) (by omega) (by omega) (by omega), g.1.1 (ta + 3) (by omega) (by omega) (by omega), q1.1 (ta + 2) (by omega) (by omega), q1.1 (ta + 3) (by omega) (by omega), (g5 x).1, (g5 x).2]
                exact ⟨rfl, rfl⟩
              · rw [t4, q7.1 (4 * ws.length) (by omega), r4]
                exact ac.1
              · rw [t4]
                exact q7.2 x hx
              · refine Rx.one sd ?_
                show y4x tk j ([], E, A) = _
                unfold y4x
                rw [hw, blef (show 4 < w by omega)]
          · have z : isSg (tk j2) 59 = false := bF Iff.rfl (fun u => z (hsg.mpr u))
            dsimp only at sd
            rw [z] at sd
            have g := FI_fe (ta := ta) (I := I2) (f := 1) (j := j2) ht
            have eta : FI I2 1 j2 ta = avI I1 (j + 1) ta := by unfold FI; rw [uI_ne (by omega), uI_ne (by omega), e2ta]
            exact ⟨1, (tk j2).2.2.1, c, ws.length + 1, f2.tr g.fc, ⟨rfl, (ev3.2 j2 q4).2, by decide⟩, ⟨by omega, by rw [eta]; exact g3.2.2.2⟩, ⟨by omega, by rw [eta]; exact g4⟩, Ends.now sd⟩
        · rw [q5] at sd
          have e2ta : I2 ta = avI I1 (j + 1) ta := q1.1 ta (by omega) (by omega)
          exact b1 I2 ⟨f, p, c, ws.length + 1, g1.tr q1.fc, ⟨q2, q3, q4⟩, ⟨by omega, by rw [e2ta]; exact g3.2.2.2⟩, ⟨by omega, by rw [e2ta]; exact g4⟩, Ends.now sd⟩
      -- a law
      have law : ∀ I1 : XI, (∀ p, p ≠ ta → p ≠ ta + 4 → I1 p = I p) → (∀ k, k ≠ 5 → I1 ta k = I ta k) → I1 ta 5 = I ta 5 + 1 → AC4 ta I I1 ws.length (nI w) → w < 5 → ws.length < 24 → w ∉ ws → FC ta I (opI (uI (avI I1 (j + 1)) 35 2 (nI (naL w))) ta w) ∧ (opI (uI (avI I1 (j + 1)) 35 2 (nI (naL w))) ta w 35 7 = I 35 7 ∧ opI (uI (avI I1 (j + 1)) 35 2 (nI (naL w))) ta w 35 8 = I 35 8) ∧ ATt ta (opI (uI (avI I1 (j + 1)) 35 2 (nI (naL w))) ta w) (j + 1) c ∧ opI (uI (avI I1 (j + 1)) 35 2 (nI (naL w))) ta w ta 5 = nI (ws.length + 1) ∧ (∀ x, x < 5 → x ≠ w → (x ∈ ws ↔ opI (uI (avI I1 (j + 1)) 35 2 (nI (naL w))) ta w (ta + 2) x < opI (uI (avI I1 (j + 1)) 35 2 (nI (naL w))) ta w (ta + 3) x)) ∧ opI (uI (avI I1 (j + 1)) 35 2 (nI (naL w))) ta w (ta + 2) w = nI c ∧ opI (uI (avI I1 (j + 1)) 35 2 (nI (naL w))) ta w 35 2 = nI (naL w) := fun I1 h1 h2 h3 ac hw5 hl hnw => by
        obtain ⟨g1, g2, g3, g4, g5, g6⟩ := add I1 h1 h2 h3 ac
        have a1 : ∀ p, p ≠ 35 → p ≠ ta + 2 → opI (uI (avI I1 (j + 1)) 35 2 (nI (naL w))) ta w p = avI I1 (j + 1) p := fun p a b => by
          unfold opI
          rw [uI_ne b, uI_ne a]
        have a35 : ∀ q, opI (uI (avI I1 (j + 1)) 35 2 (nI (naL w))) ta w 35 q = if q = 2 then nI (naL w) else avI I1 (j + 1) 35 q := fun q => by
          unfold opI
          rw [uI_ne (by omega), uI_atC]
        have a2 : ∀ x, opI (uI (avI I1 (j + 1)) 35 2 (nI (naL w))) ta w (ta + 2) x = if x = w then nI c else I (ta + 2) x := fun x => by
          unfold opI
          rw [uI_atC, uI_ne (show ta ≠ 35 by omega), g3.2.2.2, uI_ne (show ta + 2 ≠ 35 by omega), (g5 x).1]
        refine ⟨g1.tr ⟨fun p a _ _ d _ _ => a1 p a d, by rw [a35, if_neg (by decide)]⟩, ⟨by rw [a35, if_neg (by decide)]; exact g2.1, by rw [a35, if_neg (by decide)]; exact g2.2⟩, ?_, ?_, fun x hx hxw => ?_, ?_, ?_⟩
        · unfold ATt
          rw [a35, a35, a35, if_neg (by decide), if_neg (by decide), if_neg (by decide), a1 32 (by decide) (by omega), a1 33 (by decide) (by omega), a1 ta (by omega) (by omega)]
          exact g3
        · rw [a1 ta (by omega) (by omega)]
          exact g4
        · rw [a2, if_neg hxw, a1 (ta + 3) (by omega) (by omega), (g5 x).2]
          exact hlaw x hx
        · rw [a2, if_pos rfl]
        · rw [a35, if_pos rfl]
      have lawR : ∀ I1 : XI, (∀ p, p ≠ ta → p ≠ ta + 4 → I1 p = I p) → (∀ k, k ≠ 5 → I1 ta k = I ta k) → I1 ta 5 = I ta 5 + 1 → AC4 ta I I1 ws.length (nI w) → w < 5 → ws.length < 24 → w ∉ ws → ∀ (Rq : XR), (∀ I4, clr l ru_ ta rs J Rp n 3 137 [some (.ref 35), some (.int (nI ws.length)), some (.int (nI w)), some (.int 1)] I4 → Rq (some (.int 1)) (shH ru_ ta rs) I4 J) → (∀ I4, clr l ru_ ta rs J Rp n 3 137 [some (.ref 35), some (.int (nI ws.length)), some (.int (nI w)), some (.int 0)] I4 → Rq (some (.int 0)) (shH ru_ ta rs) I4 J) → (w ≠ 4 → xm l n 0 0 mX5_sum [.ref 35, .int (nI 0)] (shH ru_ ta rs) (opI (uI (avI I1 (j + 1)) 35 2 (nI (naL w))) ta w) J Rq) ∧ (w = 4 → xm l n 0 0 mX5_either [.ref 35] (shH ru_ ta rs) (opI (uI (avI I1 (j + 1)) 35 2 (nI (naL w))) ta w) J Rq) := fun I1 h1 h2 h3 ac hw5 hl hnw Rq b1 b2 => by
        obtain ⟨g1, g2, g3, g4, g5, g6, g7⟩ := law I1 h1 h2 h3 ac hw5 hl hnw
        have ev3 := g1.ev ht hev
        obtain ⟨x1, x2⟩ := rd_law_137 (l := l) (ru_ := ru_) (rs := rs) ht hk (n := n) (by omega) J Rp ws w j c hw5 hl (4, K, k, ws, j) I _ g1 g2 ev3 g4 g5 g6 hc hnw (opI_ac ht (by rw [avI_r4 ht]; exact ac.1) (fun x hx => by rw [avI_r4 ht]; exact ac.2 x hx)) ((opI_ne ht).trans ((avI_row ht).trans (h1 (ta + 1) (by have := ht.ne; omega) (by omega)))) (fun x hx hxw => opI_23 ht hxw (by rw [avI_23 ht, h1 (ta + 2) (by omega) (by omega)]) (by rw [(avI_23' ht), h1 (ta + 3) (by omega) (by omega)])) hS hF 2 (nI ws.length)
        constructor
        · intro hw4
          have s1 : mstep tk (4, K, k, ws, j) = .inl (1, [1], w, ws ++ [w], j + 1) := by
            have := s4_law (K := K) (k := k) e (by omega) (by rw [hw]; exact hnw) hl
            rw [hw] at this
            exact this
          refine rd_sums (k := w) (ws := ws ++ [w]) ht hk hw5 8 n (by omega) 0 (j + 1) c [1] _ J Rq (by omega) rfl rfl ev3 g3 hlt (by omega) g7 (fun u => absurd u (by decide)) (fun I4 ok => b1 I4 ?_) (fun I4 no => b2 I4 ?_)
          · obtain ⟨j4, c4, k1, k2, k3, k4, k5, ⟨k6, e', ce, rr, ty⟩, k7⟩ := ok
            have ql : Ql tk w false (1, [1], w, ws ++ [w], j + 1) (2, [1], w, ws ++ [w], j4) e' := Ql.sum (K := [1]) rfl (by omega) rr ty
            refine x1 I4 j4 c4 (2, [1], w, ws ++ [w], j4) k1 k2 k3 k4 (by omega) (by omega) (Rch.step s1 k6) (fun u => s2_end k7 u) (fun u => s2_endE k7 u) e' ce (by rw [beqf hw4]; exact ql.2) (fun u E A => ?_)
            refine (Rx.one s1 ?_).tr (ql.end2 k7 u E (A ++ [(E.length, [])]))
            show y4x tk j ([], E, A) = _
            unfold y4x
            rw [hw, Nat.ble_eq.mpr (show w ≤ 4 by omega)]
          · exact x2 I4 _ no (Rch.step s1 (Rch.rf _))
        · intro hw4
          subst hw4
          have s1 : mstep tk (4, K, k, ws, j) = .inl (0, [2], 4, ws ++ [4], j + 1) := s4_may e hw hnw hl
          obtain ⟨n, rfl⟩ : ∃ n', n = n' + 2 := ⟨n - 2, by omega⟩
          have hC : ∀ m, C3 l ru_ ta rs tk N 4 (ws ++ [4]) m n := fun m => by
            by_cases hm : m ≤ 8
            · exact rd_sums ht hk (by omega) m n (by omega)
            · intro δ _ _ _ _ _ _ hd
              omega
          refine rd_either ht hk (by omega) hC (j + 1) c _ J Rq ev3 g3 hlt (by omega) g7 (fun I4 ok => b1 I4 ?_) (fun I4 no => b2 I4 ?_)
          · obtain ⟨j4, c4, k1, k2, k3, k4, k5, ⟨k6, e', ce, ql⟩, k7⟩ := ok
            refine x1 I4 j4 c4 (3, [2], 4, ws ++ [4], j4) k1 k2 k3 k4 (by omega) (by omega) (Rch.step s1 k6) (fun u => s3_end k7 u) (fun u => s3_endE k7 u) e' ce ql.2 (fun u E A => ?_)
            refine (Rx.one s1 ?_).tr (ql.end3 k7 u E (A ++ [(E.length, [])]))
            show y4x tk j ([], E, A) = _
            unfold y4x
            rw [hw]
          · exact x2 I4 _ no (Rch.step s1 (Rch.rf _))
      have evI1 : ∀ I1 : XI, (∀ p, p ≠ ta → p ≠ ta + 4 → I1 p = I p) → (∀ k, k ≠ 5 → I1 ta k = I ta k) → I1 ta 5 = I ta 5 + 1 → AC4 ta I I1 ws.length (nI w) → I1 35 3 + 1 = nI (j + 1) ∧ I1 30 5 = nI N := fun I1 h1 h2 h3 ac => (add I1 h1 h2 h3 ac).2.2.2.2.2
      have p5 : w < 5 → vp_in (nI w) 5 := fun u => vp_in_nI u (by omega)
      have nget : w < 5 → ([63, 62, 454, 199, 1567] : List Int32).getD (nI w).toNatClampNeg 0 = nI (naL w) := fun u => by
        rw [nI_clamp (by omega)]
        exact naL_get u
      obtain rfl | rfl | rfl | rfl | rfl := id ht
      all_goals
        refine (show xm l n 0 0 mX8_hasLaw [.ref _, .int (I 35 5)] (shH ru_ _ rs) I J _ from ?_)
        rw [y]
        refine rd_hasLaw l ru_ _ rs I J _ ht n (by omega) w (by omega) (fun u1 u2 => ?_) (fun u => ?_)
        · refine And.intro (fun h => absurd h (by decide)) (fun _ => ?_)
          exact rd_fail l ru_ _ rs I J _ n (by omega) 4 j (by omega) hat.1 (twice u1 u2)
        · refine And.intro (fun _ => ?_) (fun h => absurd rfl h)
          refine And.intro (fun hl => ?_) (fun hl => ?_)
          · have hl : ws.length < 24 := (nI_ltI (by omega) (by omega)).mp (show nI ws.length < nI 24 from hl)
            refine rd_addClause l ru_ _ rs I J _ ht n (by omega) _ ws.length hl e5 (fun I1 h1 h2 h3 ac => ?_)
            refine rd_advance l ru_ _ rs I1 J _ n (by omega) (j + 1) N hN hlt (evI1 I1 h1 h2 h3 ac).1 (evI1 I1 h1 h2 h3 ac).2 ?_
            refine And.intro (fun h5 => ?_) (fun h5 => ?_)
            · have h5 : w < 5 := (nI_ltI (by omega) (by omega)).mp (show nI w < nI 5 from (by first | exact h5 | (rw [← y]; exact h5)))
              have hnw : w ∉ ws := fun u2 => u ⟨h5, (hlaw w h5).mp u2⟩
              refine And.intro (p5 h5) ?_
              refine (show xm l n 0 0 mX8_openLaw [.ref _, .int (nI w)] (shH ru_ _ rs) (uI (avI I1 (j + 1)) 35 2 (([63, 62, 454, 199, 1567] : List Int32).getD (nI w).toNatClampNeg 0)) J _ from ?_)
              rw [nget h5]
              refine rd_openLaw l ru_ _ rs _ J _ ht n (by omega) w h5 ?_
              refine And.intro (fun hne => ?_) (fun heq => ?_)
              · exact (lawR I1 h1 h2 h3 ac h5 hl hnw _ (fun I4 q => hKk 137 _ _ _ _ _ _ _ q) (fun I4 q => hKk 137 _ _ _ _ _ _ _ q)).1 (fun z => hne (by rw [z]; rfl))
              · exact (lawR I1 h1 h2 h3 ac h5 hl hnw _ (fun I4 q => hKk 137 _ _ _ _ _ _ _ q) (fun I4 q => hKk 137 _ _ _ _ _ _ _ q)).2 ((nI_eq (by omega) (by omega)).mp (show nI w = nI 4 from heq))
            · have h5 : ¬ nI w < nI 5 := by first | exact h5 | (rw [← y]; exact h5)
              rw [nI_ltI (by omega) (by omega)] at h5
              exact deed I1 h1 h2 h3 ac (by omega) hl _ _ (fun I' z => And.intro (fun _ => And.intro (Or.inl rfl) (hF I' z)) (fun h => absurd rfl h)) (fun I2 z => And.intro (fun h => absurd h (by decide)) (fun _ => z)) (fun I' z => And.intro (fun h => absurd h (by decide)) (fun _ => And.intro (Or.inr rfl) (hS I' z))) (fun I' z => And.intro (fun _ => And.intro (Or.inl rfl) (hF I' z)) (fun h => absurd rfl h))
          · have hl : ¬ nI ws.length < nI 24 := hl
            rw [nI_ltI (by omega) (by omega)] at hl
            exact rd_fail l ru_ _ rs I J _ n (by omega) 6 j (by omega) hat.1 (many (by omega) (noT u))
    · have q : ¬ I 35 5 ≤ nI 13 := q
      rw [y, nI_leI (by omega) (by omega)] at q
      exact odd (fun u => by
        have := cw_id1 u.2
        rw [hw] at this
        omega) _ (fun u => u)
  · exact And.intro (fun _ => odd (fun u => by omega) _ (fun u => u)) (fun w => absurd (z.symm.trans w) (by decide))
  · have gs := sgC_ge (okj.2.2.2.1 e)
    refine And.intro (fun _ => odd (fun u => by omega) _ (fun u => u)) (fun w => ?_)
    have w : I 35 4 = nI 3 := w
    rw [z] at w
    have := (nI_eq (by omega) (by omega)).mp w
    omega
  · refine And.intro (fun _ => odd (fun u => by omega) _ (fun u => u)) (fun w3 => ?_)
    rcases z with z | ⟨z, y⟩
    · exact absurd (z.symm.trans w3) (by decide)
    · refine And.intro (fun _ => odd (fun u => by omega) _ (fun u => u)) (fun w => ?_)
      exfalso
      have w : ¬ I 35 5 < 0 := w
      rw [y] at w
      exact w (by decide)
end CLAUSE
