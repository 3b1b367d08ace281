-- ===== the class: its laws =====
/-- what is told, in the class -/
def TDc (I : XI) (Q : Tld) : Prop := I 12 5 = nI (qT Q) ∧ I 12 6 = nI (qR Q) ∧ I 12 7 = nI (qB Q) ∧ (∀ t, t < qT Q → I 13 t = nI (qH Q t) ∧ I 14 t = nI (qK Q t) ∧ I 15 t = nI (qO Q t)) ∧ (∀ r, r < qR Q → I 16 r = nI (qC Q r)) ∧ ∀ b, b < qB Q → I 17 b = nI (qM Q b)
/-- a law of the class's text -/
def LCw (I : XI) (ru w : Nat) (o : Option (List Odr)) : Prop := match o with
  | none => I (ru + 3) w ≤ I (ru + 2) w
  | some e => ∃ st, I (ru + 2) w = nI st ∧ I (ru + 3) w = nI (st + e.length) ∧ st + e.length ≤ 300 ∧ Cds (I (ru + 1)) st e ∧ tyE w e [] = some [Nat.beq w 4] ∧ 0 < e.length
def LC (I : XI) (ru : Nat) (L : Lws) : Prop := ∀ w, w < 5 → LCw I ru w (L w)
/-- what the class knows beside worlds -/
def CE (I : XI) (ru : Nat) (Q : Tld) (L : Lws) : Prop := TDc I Q ∧ TOK Q ∧ LC I ru L ∧ TSP ru
theorem LCw.keep {I I' : XI} {ru w : Nat} {o : Option (List Odr)} (e1 : I' (ru + 1) = I (ru + 1)) (e2 : I' (ru + 2) = I (ru + 2)) (e3 : I' (ru + 3) = I (ru + 3)) (h : LCw I ru w o) : LCw I' ru w o := by
  unfold LCw at h ⊢
  rw [e1, e2, e3]
  exact h
theorem CE.keep {I I' : XI} {ru : Nat} {Q : Tld} {L : Lws} (f : ∀ q, (11 < q ∧ q < 18) ∨ (18 ≤ q ∧ q < 23) ∨ (46 < q ∧ q < 67) → I' q = I q) (h : CE I ru Q L) : CE I' ru Q L := by
  obtain ⟨h1, h2, h3, h4⟩ := h
  refine ⟨?_, h2, fun w hw => ?_, h4⟩
  · unfold TDc at h1 ⊢
    rw [f 12 (by omega), f 13 (by omega), f 14 (by omega), f 15 (by omega), f 16 (by omega), f 17 (by omega)]
    exact h1
  · unfold TSP at h4
    exact (h3 w hw).keep (f _ (by omega)) (f _ (by omega)) (f _ (by omega))
theorem CE.k24 {I I' : XI} {ru : Nat} {Q : Tld} {L : Lws} (f : ∀ q, q ≠ 24 → I' q = I q) (h : CE I ru Q L) : CE I' ru Q L := h.keep (fun q hq => f q (by omega))
set_option maxRecDepth 100000 in
theorem cx_hasLaw (l : Launch) (d : Nat) (ru ta : Nat) (rs : List XO) (I : XI) (J : XJ) (Rp : XR) (w : Nat) (hw : w < 5) (hr : TSP ru) (L : Lws) (hL : LC I ru L) (h1 : ∀ e, L w = some e → Rp (some (.int 1)) (shH ru ta rs) I J) (h0 : L w = none → Rp (some (.int 0)) (shH ru ta rs) I J) : xm l (d + 1) 0 0 mX8_hasLaw [.ref ru, .int (nI w)] (shH ru ta rs) I J Rp := by
  have g0 : ¬ nI w < 0 := nI_nlt (b := 0) (by omega) (by omega)
  have g5 : ¬ nI 5 ≤ nI w := by
    rw [Int32.le_iff_toInt_le, nI_toInt (by omega), nI_toInt (by omega)]
    omega
  have v5 : vp_in (nI w) 5 := vp_in_nI hw (by omega)
  have cw : (nI w).toNatClampNeg = w := nI_clamp (by omega)
  have hl := hL w hw
  have key : (I (ru + 3) w ≤ I (ru + 2) w ∧ L w = none) ∨ (¬ I (ru + 3) w ≤ I (ru + 2) w ∧ ∃ e, L w = some e) := by
    cases e : L w with
    | none =>
      rw [e] at hl
      exact Or.inl ⟨hl, rfl⟩
    | some es =>
      rw [e] at hl
      obtain ⟨st, e2, e3, h3, _, _, hp⟩ := hl
      refine Or.inr ⟨?_, es, rfl⟩
      rw [e2, e3, Int32.le_iff_toInt_le, nI_toInt (by omega), nI_toInt (by omega)]
      omega
  rcases hr with rfl | rfl | rfl | rfl | rfl
  all_goals
    refine xm_ofK 0 (X := xxX8) (t := tX8_hasLaw) (stop := []) (ini := false) xx8 pl8 rfl kX8_hasLaw (fun h => by cases h) (Nat.le_of_ble_eq_true rfl) (fun K hK => ?_)
    refine And.intro (fun z => absurd z g0) (fun _ => ?_)
    refine And.intro (fun z => absurd z g5) (fun _ => ?_)
    refine And.intro v5 ?_
    refine And.intro v5 ?_
    rcases key with ⟨k1, k2⟩ | ⟨k1, e, k2⟩
    · rw [← cw] at k1
      refine And.intro (fun _ => ?_) (fun z => absurd k1 z)
      exact And.intro (Or.inl rfl) (h0 k2)
    · rw [← cw] at k1
      refine And.intro (fun z => absurd z k1) (fun _ => ?_)
      exact And.intro (Or.inr rfl) (h1 e k2)
/-- the class's names of a thing -/
def NT (r : Nat → Int32) (nm : Nat → Nat) : Prop := r 1 = nI (nm 0) ∧ r 2 = nI (nm 1) ∧ r 3 = nI (nm 2) ∧ r 4 = nI (nm 3)
set_option maxRecDepth 100000 in
theorem cx_descT (l : Launch) (d : Nat) (ru ta : Nat) (rs : List XO) (I : XI) (J : XJ) (Rp : XR) (Q : Tld) (L : Lws) (h : CE I ru Q L) (t : Nat) (ht : t < qT Q) (g dy : Int32) (hR : ∀ I' : XI, (∀ q, q ≠ 24 → I' q = I q) → (I' 24 1 = dy ∧ I' 24 2 = nI (qK Q t) ∧ I' 24 3 = nI (qH Q t) ∧ I' 24 4 = g ∧ I' 24 9 = nI (qO Q t)) → Rp none (shH ru ta rs) I' J) : xm l (d + 1) 0 0 mX2_describeThing [.ref 23, .int (nI t), .int g, .int dy] (shH ru ta rs) I J Rp := by
  have ht8 : t < 8 := Nat.lt_of_lt_of_le ht h.2.1.1
  have ct : (nI t).toNatClampNeg = t := nI_clamp (by omega)
  have vt : vp_in (nI t) 8 := vp_in_nI ht8 (by omega)
  obtain ⟨e13, e14, e15⟩ := h.1.2.2.2.1 t ht
  refine xm_ofK 0 (X := xxX2) (t := tX2_describeThing) (stop := []) (ini := false) xx2 pl2 rfl kX2_describeThing (fun h => by cases h) (Nat.le_of_ble_eq_true rfl) (fun K hK => ?_)
  refine And.intro (fun z => absurd z (nI_nlt (b := 0) (by omega) (by omega))) (fun _ => ?_)
  refine And.intro (fun (z : nI 8 ≤ nI t) => absurd z (by rw [Int32.le_iff_toInt_le, nI_toInt (by omega), nI_toInt (by omega)]; omega)) (fun _ => ?_)
  refine And.intro vt (And.intro (show vp_in (nI 2) 11 from vp_b (by decide)) ?_)
  refine And.intro vt (And.intro (show vp_in (nI 3) 11 from vp_b (by decide)) ?_)
  refine And.intro vt (And.intro (show vp_in (nI 9) 11 from vp_b (by decide)) ?_)
  refine And.intro (show vp_in (nI 4) 11 from vp_b (by decide)) ?_
  refine And.intro (show vp_in (nI 1) 11 from vp_b (by decide)) ?_
  refine hR (uI (uI (uI (uI (uI I 24 2 (I 14 (nI t).toNatClampNeg)) 24 3 (I 13 (nI t).toNatClampNeg)) 24 9 (I 15 (nI t).toNatClampNeg)) 24 4 g) 24 1 dy) (fun q hq => by rw [uI_ne hq, uI_ne hq, uI_ne hq, uI_ne hq, uI_ne hq]) ?_
  rw [ct, e13, e14, e15]
  exact ⟨rfl, rfl, rfl, rfl, rfl⟩
theorem wth_run {w G : Nat} {e : List Odr} {nm : Nat → Nat} (hT : tyE w e [] = some [Nat.beq w 4]) (hn : ∀ n, n ≤ 10 → myN n w = true → nm n ≤ 1000000) : smE (fun n => (nm n : Int)) e [] = [wth nm e] := (wth_eq hT hn).1
set_option maxRecDepth 100000 in
/-- what a law says, from a state whose names are told -/
theorem cx_run (l : Launch) (d : Nat) (ru ta : Nat) (rs : List XO) (I : XI) (J : XJ) (Rp : XR) (w G : Nat) (hw : w < 5) (hG : G < 10000) (hr : TSP ru) (e : List Odr) (hL : LCw I ru w (some e)) (nm : Nat → Nat) (hn : ∀ n, n ≤ 10 → myN n w = true → I 24 (rnm n) = nI (nm n) ∧ nm n ≤ 1000000) (hR : ∀ J' : XJ, Rp (some (.int (nI (hld (wth nm e) 0 G).toNat))) (shH ru ta rs) I J') : xm l (d + 1) 0 0 mX2_run [.ref 23, .int (nI w), .int (nI G)] (shH ru ta rs) I J Rp := by
  obtain ⟨st, e2, e3, h3, hC, hT, _⟩ := hL
  exact ex_run l ta rs I Rp d ru hr w w G st e _ hw hG e2 e3 h3 hC hT (fun n => (nm n : Int)) (fun n h1 h2 => show (I 24 (rnm n)).toInt = (nm n : Int) ∧ inM (nm n : Int) from ⟨by rw [(hn n h1 h2).1, nI_toInt (by have := (hn n h1 h2).2; omega)], by omega, by have := (hn n h1 h2).2; omega⟩) _ (wth_run (G := 0) hT (fun n h1 h2 => (hn n h1 h2).2)) J (fun J' _ => hR J')
set_option maxRecDepth 100000 in
set_option maxHeartbeats 4000000 in
theorem cx_shadow (l : Launch) (d : Nat) (ru ta : Nat) (rs : List XO) (I : XI) (J : XJ) (Rp : XR) (Q : Tld) (L : Lws) (h : CE I ru Q L) (t : Nat) (ht : t < qT Q) (nm : Nat → Nat) (n1 : nm 1 = qK Q t) (n2 : nm 2 = qH Q t) (b0 : nm 0 ≤ 999) (b3 : nm 3 ≤ 100) (b4 : nm 4 ≤ 9) (b5 : nm 5 ≤ 9) (hR : ∀ (I' : XI) (J' : XJ), (∀ q, q ≠ 24 → I' q = I q) → Rp (some (.int (nI (lgOf L nm)))) (shH ru ta rs) I' J') : xm l (d + 3) 0 0 mX2_shadow [.ref 23, .int (nI t), .int (nI (nm 3)), .int (nI (nm 4)), .int (nI (nm 0)), .int (nI (nm 5))] (shH ru ta rs) I J Rp := by
  have q := h.2.1.2.2.2.1 t ht
  have hr0 := h.2.2.2
  unfold TSP at hr0
  rcases hr0 with rfl | rfl | rfl | rfl | rfl
  all_goals
    refine xm_ofK 0 (X := xxX2) (t := tX2_shadow) (stop := []) (ini := false) xx2 pl2 rfl kX2_shadow (fun h => by cases h) (Nat.le_of_ble_eq_true rfl) (fun K hK => ?_)
    refine cx_descT l (d + 1) _ ta rs I J _ Q L h t ht (nI (nm 3)) (nI (nm 0)) (fun I1 f1 r1 => ?_)
    have h1 := h.k24 f1
    refine cx_hasLaw l (d + 1) _ ta rs I1 J _ 0 (by decide) h.2.2.2 L h1.2.2.1 (fun e he => ?_) (fun he => ?_)
    · refine And.intro (fun _ => ?_) (fun z => absurd z (by decide))
      refine And.intro (show vp_in (nI 0) 11 from vp_b (by decide)) ?_
      refine And.intro (show vp_in (nI 5) 11 from vp_b (by decide)) ?_
      have hl := h1.2.2.1 0 (by decide)
      rw [he] at hl
      have f2 : ∀ q, q ≠ 24 → (uI (uI I1 24 0 (nI (nm 4))) 24 5 (nI (nm 5))) q = I q := fun q hq => by rw [uI_ne hq, uI_ne hq, f1 q hq]
      refine cx_run l (d + 1) _ ta rs (uI (uI I1 24 0 (nI (nm 4))) 24 5 (nI (nm 5))) J _ 0 999 (by decide) (by decide) h.2.2.2 e ?_ nm (fun n g1 g2 => ?_) (fun J' => ?_)
      · exact hl.keep (by rw [uI_ne (by decide), uI_ne (by decide)]) (by rw [uI_ne (by decide), uI_ne (by decide)]) (by rw [uI_ne (by decide), uI_ne (by decide)])
      · have hn := myN_T g1 (Or.inl rfl) g2
        rw [uI_atC, uI_atC]
        have hc : n = 0 ∨ n = 1 ∨ n = 2 ∨ n = 3 ∨ n = 4 ∨ n = 5 := by omega
        rcases hc with rfl | rfl | rfl | rfl | rfl | rfl
        · exact ⟨r1.1, by omega⟩
        · exact ⟨by rw [n1]; exact r1.2.1, by omega⟩
        · exact ⟨by rw [n2]; exact r1.2.2.1, by omega⟩
        · exact ⟨r1.2.2.2.1, by omega⟩
        · exact ⟨rfl, by omega⟩
        · exact ⟨rfl, by omega⟩
      · have e2 : lgOf L nm = (hld (wth nm e) 0 999).toNat := by
          simp only [lgOf, he]
        rw [e2] at hR
        exact hR _ J' f2
    · refine And.intro (fun z => absurd rfl z) (fun _ => ?_)
      refine And.intro (show vp_in (nI 3) 11 from vp_b (by decide)) ?_
      refine And.intro (show ¬ ((nI 200) = 0) by decide) ?_
      have e2 : lgOf L nm = nm 2 * nm 3 * (1 + (if nm 4 < 5 then 5 - nm 4 else nm 4 - 5)) / 200 := by
        simp only [lgOf, he]
      have ea : (if 0 ≤ nI (nm 4) - nI 5 then nI (nm 4) - nI 5 else 0 - (nI (nm 4) - nI 5)) = nI (if nm 4 < 5 then 5 - nm 4 else nm 4 - 5) := by
        have y : ∀ k, k < 10 → (if 0 ≤ nI k - nI 5 then nI k - nI 5 else 0 - (nI k - nI 5)) = nI (if k < 5 then 5 - k else k - 5) := by decide
        exact y (nm 4) (by omega)
      have ha : (if nm 4 < 5 then 5 - nm 4 else nm 4 - 5) ≤ 5 := by split <;> omega
      have hm1 : qH Q t * nm 3 ≤ 99 * 100 := Nat.mul_le_mul q.2.1 b3
      have ev : I1 24 3 * nI (nm 3) * (nI 1 + (if 0 ≤ nI (nm 4) - nI 5 then nI (nm 4) - nI 5 else 0 - (nI (nm 4) - nI 5))) / nI 200 = nI (lgOf L nm) := by
        rw [e2, ea, r1.2.2.1, n2]
        generalize (if nm 4 < 5 then 5 - nm 4 else nm 4 - 5) = a at ha
        have hm2 : qH Q t * nm 3 * (1 + a) ≤ 99 * 100 * 6 := Nat.mul_le_mul hm1 (by omega)
        rw [nI_mul, nI_add, nI_mul]
        apply Int32.toInt_inj.mp
        rw [Int32.toInt_div_of_ne_right _ _ (by decide), nI_toInt (by omega), nI_toInt (by omega), nI_toInt (by omega)]
        rw [Int.tdiv_eq_ediv_of_nonneg (by omega)]
        omega
      have fin := hR I1 J f1
      rw [← ev] at fin
      exact fin
set_option maxRecDepth 100000 in
set_option maxHeartbeats 4000000 in
theorem cx_growth (l : Launch) (d : Nat) (ru ta : Nat) (rs : List XO) (I : XI) (J : XJ) (Rp : XR) (Q : Tld) (L : Lws) (h : CE I ru Q L) (t : Nat) (ht : t < qT Q) (nm : Nat → Nat) (n1 : nm 1 = qK Q t) (n2 : nm 2 = qH Q t) (n4 : I 24 0 = nI (nm 4) ∨ True) (b0 : nm 0 ≤ 999) (b3 : nm 3 ≤ 100) (b5 : nm 5 ≤ 9) (hR : ∀ (I' : XI) (J' : XJ), (∀ q, q ≠ 24 → I' q = I q) → Rp (some (.int (nI (grOf L nm)))) (shH ru ta rs) I' J') : xm l (d + 3) 0 0 mX2_growth [.ref 23, .int (nI t), .int (nI (nm 3)), .int (nI (nm 0)), .int (nI (nm 5))] (shH ru ta rs) I J Rp := by
  have q := h.2.1.2.2.2.1 t ht
  have hr0 := h.2.2.2
  unfold TSP at hr0
  rcases hr0 with rfl | rfl | rfl | rfl | rfl
  all_goals
    refine xm_ofK 0 (X := xxX2) (t := tX2_growth) (stop := []) (ini := false) xx2 pl2 rfl kX2_growth (fun h => by cases h) (Nat.le_of_ble_eq_true rfl) (fun K hK => ?_)
    refine cx_hasLaw l (d + 1) _ ta rs I J _ 1 (by decide) h.2.2.2 L h.2.2.1 (fun e he => ?_) (fun he => ?_)
    · refine And.intro (fun _ => ?_) (fun z => absurd z (by decide))
      refine cx_descT l (d + 1) _ ta rs I J _ Q L h t ht (nI (nm 3)) (nI (nm 0)) (fun I1 f1 r1 => ?_)
      have h1 := h.k24 f1
      refine And.intro (show vp_in (nI 5) 11 from vp_b (by decide)) ?_
      have hl := h1.2.2.1 1 (by decide)
      rw [he] at hl
      have f2 : ∀ q, q ≠ 24 → (uI I1 24 5 (nI (nm 5))) q = I q := fun q hq => by rw [uI_ne hq, f1 q hq]
      refine cx_run l (d + 1) _ ta rs (uI I1 24 5 (nI (nm 5))) J _ 1 100 (by decide) (by decide) h.2.2.2 e ?_ nm (fun n g1 g2 => ?_) (fun J' => ?_)
      · exact hl.keep (by rw [uI_ne (by decide)]) (by rw [uI_ne (by decide)]) (by rw [uI_ne (by decide)])
      · have hn : n = 0 ∨ n = 1 ∨ n = 2 ∨ n = 3 ∨ n = 5 := by
          have y : ∀ n, n < 11 → myN n 1 = true → n = 0 ∨ n = 1 ∨ n = 2 ∨ n = 3 ∨ n = 5 := by decide
          exact y n (by omega) g2
        rw [uI_atC]
        rcases hn with rfl | rfl | rfl | rfl | rfl
        · exact ⟨r1.1, by omega⟩
        · exact ⟨by rw [n1]; exact r1.2.1, by omega⟩
        · exact ⟨by rw [n2]; exact r1.2.2.1, by omega⟩
        · exact ⟨r1.2.2.2.1, by omega⟩
        · exact ⟨rfl, by omega⟩
      · have e2 : grOf L nm = (hld (wth nm e) 0 100).toNat := by
          simp only [grOf, he]
        rw [e2] at hR
        exact hR _ J' f2
    · refine And.intro (fun z => absurd rfl z) (fun _ => ?_)
      have e2 : grOf L nm = 10 := by
        simp only [grOf, he]
      rw [e2] at hR
      exact hR I J (fun _ _ => rfl)
set_option maxRecDepth 100000 in
set_option maxHeartbeats 4000000 in
theorem cx_allows (l : Launch) (d : Nat) (ru ta : Nat) (rs : List XO) (I : XI) (J : XJ) (Rp : XR) (Q : Tld) (L : Lws) (h : CE I ru Q L) (t : Nat) (ht : t < qT Q) (nm : Nat → Nat) (n1 : nm 1 = qK Q t) (n2 : nm 2 = qH Q t) (n9 : nm 9 = qO Q t) (b0 : nm 0 ≤ 999) (b3 : nm 3 ≤ 100) (b4 : nm 4 ≤ 9) (b10 : nm 10 ≤ 999) (hR : ∀ (r : Int32) (I' : XI) (J' : XJ), r = (if maOf L nm then 1 else 0) → (∀ q, q ≠ 24 → I' q = I q) → Rp (some (.int r)) (shH ru ta rs) I' J') : xm l (d + 3) 0 0 mX2_allows [.ref 23, .int (nI t), .int (nI (nm 3)), .int (nI (nm 4)), .int (nI (nm 0)), .int (nI (nm 10))] (shH ru ta rs) I J Rp := by
  have q := h.2.1.2.2.2.1 t ht
  have hr0 := h.2.2.2
  unfold TSP at hr0
  rcases hr0 with rfl | rfl | rfl | rfl | rfl
  all_goals
    refine xm_ofK 0 (X := xxX2) (t := tX2_allows) (stop := []) (ini := false) xx2 pl2 rfl kX2_allows (fun h => by cases h) (Nat.le_of_ble_eq_true rfl) (fun K hK => ?_)
    refine cx_hasLaw l (d + 1) _ ta rs I J _ 4 (by decide) h.2.2.2 L h.2.2.1 (fun e he => ?_) (fun he => ?_)
    · refine And.intro (fun _ => ?_) (fun z => absurd z (by decide))
      refine cx_descT l (d + 1) _ ta rs I J _ Q L h t ht (nI (nm 3)) (nI (nm 0)) (fun I1 f1 r1 => ?_)
      have h1 := h.k24 f1
      refine And.intro (show vp_in (nI 0) 11 from vp_b (by decide)) ?_
      refine And.intro (show vp_in (nI 10) 11 from vp_b (by decide)) ?_
      have hl := h1.2.2.1 4 (by decide)
      rw [he] at hl
      have hT := hl
      have f2 : ∀ q, q ≠ 24 → (uI (uI I1 24 0 (nI (nm 4))) 24 10 (nI (nm 10))) q = I q := fun q hq => by rw [uI_ne hq, uI_ne hq, f1 q hq]
      have nn : ∀ n, n ≤ 10 → myN n 4 = true → (uI (uI I1 24 0 (nI (nm 4))) 24 10 (nI (nm 10))) 24 (rnm n) = nI (nm n) ∧ nm n ≤ 1000000 := fun n g1 g2 => by
        have hn : n = 0 ∨ n = 1 ∨ n = 2 ∨ n = 3 ∨ n = 4 ∨ n = 9 ∨ n = 10 := by
          have y : ∀ n, n < 11 → myN n 4 = true → n = 0 ∨ n = 1 ∨ n = 2 ∨ n = 3 ∨ n = 4 ∨ n = 9 ∨ n = 10 := by decide
          exact y n (by omega) g2
        rw [uI_atC, uI_atC]
        rcases hn with rfl | rfl | rfl | rfl | rfl | rfl | rfl
        · exact ⟨r1.1, by omega⟩
        · exact ⟨by rw [n1]; exact r1.2.1, by omega⟩
        · exact ⟨by rw [n2]; exact r1.2.2.1, by omega⟩
        · exact ⟨r1.2.2.2.1, by omega⟩
        · exact ⟨rfl, by omega⟩
        · exact ⟨by rw [n9]; exact r1.2.2.2.2, by omega⟩
        · exact ⟨rfl, by omega⟩
      have b01 : wth nm e = 0 ∨ wth nm e = 1 := by
        obtain ⟨st, _, _, _, _, hT, _⟩ := hT
        exact (wth_eq hT (fun n g1 g2 => (nn n g1 g2).2)).2 rfl
      refine cx_run l (d + 1) _ ta rs (uI (uI I1 24 0 (nI (nm 4))) 24 10 (nI (nm 10))) J _ 4 1 (by decide) (by decide) h.2.2.2 e ?_ nm nn (fun J' => ?_)
      · exact hl.keep (by rw [uI_ne (by decide), uI_ne (by decide)]) (by rw [uI_ne (by decide), uI_ne (by decide)]) (by rw [uI_ne (by decide), uI_ne (by decide)])
      · have e2 : maOf L nm = !(decide (wth nm e = 0)) := by
          simp only [maOf, he]
        rcases b01 with b | b
        · have ev : nI (hld (wth nm e) 0 (1 : Nat)).toNat = nI 0 := by rw [b]; rfl
          rw [e2, b] at hR
          have hc : ¬ nI (hld (wth nm e) 0 (1 : Nat)).toNat = nI 1 := by
            rw [ev]
            decide
          refine And.intro (fun _ => ?_) (fun z => absurd z hc)
          refine And.intro (Or.inl rfl) ?_
          exact hR _ _ J' rfl f2
        · have ev : nI (hld (wth nm e) 0 (1 : Nat)).toNat = nI 1 := by rw [b]; rfl
          rw [e2, b] at hR
          refine And.intro (fun z => absurd ev z) (fun _ => ?_)
          refine And.intro (Or.inr rfl) ?_
          exact hR _ _ J' rfl f2
    · refine And.intro (fun z => absurd rfl z) (fun _ => ?_)
      have e2 : maOf L nm = true := by
        simp only [maOf, he]
      rw [e2] at hR
      refine And.intro (Or.inr rfl) ?_
      exact hR _ I J rfl (fun _ _ => rfl)
set_option maxRecDepth 100000 in
theorem cx_descB (l : Launch) (d : Nat) (ru ta : Nat) (rs : List XO) (I : XI) (J : XJ) (Rp : XR) (a b c e : Int32) (hR : ∀ I' : XI, (∀ q, q ≠ 24 → I' q = I q) → (I' 24 2 = a ∧ I' 24 7 = b ∧ I' 24 6 = c ∧ I' 24 8 = e) → Rp none (shH ru ta rs) I' J) : xm l (d + 1) 0 0 mX2_describe [.ref 23, .int a, .int b, .int c, .int e] (shH ru ta rs) I J Rp := by
  refine xm_ofK 0 (X := xxX2) (t := tX2_describe) (stop := []) (ini := false) xx2 pl2 rfl kX2_describe (fun h => by cases h) (Nat.le_of_ble_eq_true rfl) (fun K hK => ?_)
  refine And.intro (show vp_in (nI 2) 11 from vp_b (by decide)) ?_
  refine And.intro (show vp_in (nI 7) 11 from vp_b (by decide)) ?_
  refine And.intro (show vp_in (nI 6) 11 from vp_b (by decide)) ?_
  refine And.intro (show vp_in (nI 8) 11 from vp_b (by decide)) ?_
  exact hR (uI (uI (uI (uI I 24 2 a) 24 7 b) 24 6 c) 24 8 e) (fun q hq => by rw [uI_ne hq, uI_ne hq, uI_ne hq, uI_ne hq]) ⟨rfl, rfl, rfl, rfl⟩
/-- the names of a bale, but day and hour -/
def NB4 (r : Nat → Int32) (nm : Nat → Nat) : Prop := r 2 = nI (nm 1) ∧ r 7 = nI (nm 7) ∧ r 6 = nI (nm 6) ∧ r 8 = nI (nm 8)
set_option maxRecDepth 100000 in
set_option maxHeartbeats 4000000 in
theorem cx_spoiling (l : Launch) (d : Nat) (ru ta : Nat) (rs : List XO) (I : XI) (J : XJ) (Rp : XR) (Q : Tld) (L : Lws) (h : CE I ru Q L) (nm : Nat → Nat) (hn : NB4 (I 24) nm) (bn : ∀ n, nm n ≤ 1000) (hR : ∀ (I' : XI) (J' : XJ), (∀ q, q ≠ 24 → I' q = I q) → Rp (some (.int (nI (spOf L nm)))) (shH ru ta rs) I' J') : xm l (d + 3) 0 0 mX2_spoiling [.ref 23, .int (nI (nm 0))] (shH ru ta rs) I J Rp := by
  have hr0 := h.2.2.2
  unfold TSP at hr0
  rcases hr0 with rfl | rfl | rfl | rfl | rfl
  all_goals
    refine xm_ofK 1 (X := xxX2) (t := tX2_spoiling) (stop := [30]) (ini := false) xx2 pl2 rfl kX2_spoiling (fun h => by cases h) (Nat.le_of_ble_eq_true rfl) (fun K hK => ?_)
    refine And.intro (show vp_in (nI 1) 11 from vp_b (by decide)) ?_
    have f1 : ∀ q, q ≠ 24 → (uI I 24 1 (nI (nm 0))) q = I q := fun q hq => uI_ne hq
    have h1 := h.k24 f1
    refine cx_hasLaw l (d + 1) _ ta rs (uI I 24 1 (nI (nm 0))) J _ 2 (by decide) h.2.2.2 L h1.2.2.1 (fun e he => ?_) (fun he => ?_)
    · refine And.intro (fun z => absurd z (by decide)) (fun _ => ?_)
      have hl := h1.2.2.1 2 (by decide)
      rw [he] at hl
      refine cx_run l (d + 1) _ ta rs (uI I 24 1 (nI (nm 0))) J _ 2 999 (by decide) (by decide) h.2.2.2 e hl nm (fun n g1 g2 => ?_) (fun J' => ?_)
      · have hc : n = 0 ∨ n = 1 ∨ n = 6 ∨ n = 7 ∨ n = 8 := by
          have y : ∀ n, n < 11 → myN n 2 = true → n = 0 ∨ n = 1 ∨ n = 6 ∨ n = 7 ∨ n = 8 := by decide
          exact y n (by omega) g2
        have := bn n
        rw [uI_atC]
        rcases hc with rfl | rfl | rfl | rfl | rfl
        · exact ⟨rfl, by omega⟩
        · exact ⟨hn.1, by omega⟩
        · exact ⟨hn.2.2.1, by omega⟩
        · exact ⟨hn.2.1, by omega⟩
        · exact ⟨hn.2.2.2, by omega⟩
      · have e2 : spOf L nm = (hld (wth nm e) 0 999).toNat := by
          simp only [spOf, he]
        rw [e2] at hR
        refine hK 30 [some (.ref 23), some (.int (nI (nm 0)))] [.int (nI (hld (wth nm e) 0 (999 : Nat)).toNat)] _ _ J' 0 0 ?_
        refine xrun_step fun K hK => ?_
        exact hR _ J' f1
    · refine And.intro (fun _ => ?_) (fun z => absurd rfl z)
      have e2 : spOf L nm = 1 := by
        simp only [spOf, he]
      rw [e2] at hR
      refine hK 30 [some (.ref 23), some (.int (nI (nm 0)))] [.int (nI 1)] _ _ J 0 0 ?_
      refine xrun_step fun K hK => ?_
      exact hR _ J f1
set_option maxRecDepth 100000 in
set_option maxHeartbeats 4000000 in
theorem cx_price (l : Launch) (d : Nat) (ru ta : Nat) (rs : List XO) (I : XI) (J : XJ) (Rp : XR) (Q : Tld) (L : Lws) (h : CE I ru Q L) (nm : Nat → Nat) (hn : I 24 2 = nI (nm 1) ∧ I 24 7 = nI (nm 7) ∧ I 24 6 = nI (nm 6)) (bn : ∀ n, nm n ≤ 1000) (hR : ∀ (I' : XI) (J' : XJ), (∀ q, q ≠ 24 → I' q = I q) → Rp (some (.int (nI (seOf L nm)))) (shH ru ta rs) I' J') : xm l (d + 3) 0 0 mX2_price [.ref 23, .int (nI (nm 0)), .int (nI (nm 4))] (shH ru ta rs) I J Rp := by
  have hr0 := h.2.2.2
  unfold TSP at hr0
  rcases hr0 with rfl | rfl | rfl | rfl | rfl
  all_goals
    refine xm_ofK 1 (X := xxX2) (t := tX2_price) (stop := [43]) (ini := false) xx2 pl2 rfl kX2_price (fun h => by cases h) (Nat.le_of_ble_eq_true rfl) (fun K hK => ?_)
    refine And.intro (show vp_in (nI 1) 11 from vp_b (by decide)) ?_
    refine And.intro (show vp_in (nI 0) 11 from vp_b (by decide)) ?_
    have f1 : ∀ q, q ≠ 24 → (uI (uI I 24 1 (nI (nm 0))) 24 0 (nI (nm 4))) q = I q := fun q hq => by rw [uI_ne hq, uI_ne hq]
    have h1 := h.k24 f1
    refine cx_hasLaw l (d + 1) _ ta rs (uI (uI I 24 1 (nI (nm 0))) 24 0 (nI (nm 4))) J _ 3 (by decide) h.2.2.2 L h1.2.2.1 (fun e he => ?_) (fun he => ?_)
    · refine And.intro (fun z => absurd z (by decide)) (fun _ => ?_)
      have hl := h1.2.2.1 3 (by decide)
      rw [he] at hl
      refine cx_run l (d + 1) _ ta rs (uI (uI I 24 1 (nI (nm 0))) 24 0 (nI (nm 4))) J _ 3 9999 (by decide) (by decide) h.2.2.2 e hl nm (fun n g1 g2 => ?_) (fun J' => ?_)
      · have hc : n = 0 ∨ n = 1 ∨ n = 4 ∨ n = 6 ∨ n = 7 := by
          have y : ∀ n, n < 11 → myN n 3 = true → n = 0 ∨ n = 1 ∨ n = 4 ∨ n = 6 ∨ n = 7 := by decide
          exact y n (by omega) g2
        have := bn n
        rw [uI_atC, uI_atC]
        rcases hc with rfl | rfl | rfl | rfl | rfl
        · exact ⟨rfl, by omega⟩
        · exact ⟨hn.1, by omega⟩
        · exact ⟨rfl, by omega⟩
        · exact ⟨hn.2.2, by omega⟩
        · exact ⟨hn.2.1, by omega⟩
      · have e2 : seOf L nm = (hld (wth nm e) 0 9999).toNat := by
          simp only [seOf, he]
        rw [e2] at hR
        refine hK 43 [some (.ref 23), some (.int (nI (nm 0))), some (.int (nI (nm 4)))] [.int (nI (hld (wth nm e) 0 (9999 : Nat)).toNat)] _ _ J' 0 0 ?_
        refine xrun_step fun K hK => ?_
        exact hR _ J' f1
    · refine And.intro (fun _ => ?_) (fun z => absurd rfl z)
      have e2 : seOf L nm = nm 7 := by
        simp only [seOf, he]
      rw [e2, ← hn.2.1] at hR
      refine And.intro (show vp_in (nI 7) 11 from vp_b (by decide)) ?_
      refine hK 43 [some (.ref 23), some (.int (nI (nm 0))), some (.int (nI (nm 4)))] [.int (I 24 7)] _ _ J 0 0 ?_
      refine xrun_step fun K hK => ?_
      exact hR _ J f1
