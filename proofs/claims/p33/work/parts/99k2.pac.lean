-- ===== packed: the class =====
def kI (m : Int) : Int32 := Int32.ofInt m
theorem kI_nat (n : Nat) : kI (n : Int) = nI n := Int32.ofInt_eq_ofNat
theorem kI_to {m : Int} (h1 : -1 ≤ m) (h2 : m < 100000) : (kI m).toInt = m := Int32.toInt_ofInt_of_le (by omega) (by omega)
theorem kI_n1 : kI (-1) = -1 := by decide
theorem kI_1 {m : Int} (h1 : -1 ≤ m) (h2 : m < 100000) : kI m = -1 ↔ m = -1 := by
  refine ⟨fun h => ?_, fun h => by rw [h]; exact kI_n1⟩
  have y := congrArg Int32.toInt h
  rw [kI_to h1 h2, show (-1 : Int32).toInt = -1 from rfl] at y
  exact y
theorem kI_lt {m : Int} {v : Nat} (h1 : -1 ≤ m) (h2 : m < 100000) (hv : v < 100000) : (nI v < kI m ↔ (v : Int) < m) ∧ (kI m ≤ nI v ↔ m ≤ (v : Int)) := by
  rw [Int32.lt_iff_toInt_lt, Int32.le_iff_toInt_le, nI_toInt (by omega), kI_to h1 h2]
  exact ⟨Iff.rfl, Iff.rfl⟩
/-- what is loaded: the bale, its length, its kind -/
def LdW (w : Rw) (p a kd : Nat → Nat) (n : Nat) : Prop := ∀ j, j < n → p j < 12 ∧ 0 < w (28 + p j) ∧ w (28 + p j) = nI (a j) ∧ w (16 + p j) = nI (kd j) ∧ 0 < a j ∧ a j ≤ 999 ∧ kd j ≤ 5
def PwS (p a kd : Nat → Nat) (n i : Nat) (g : Nat → Nat) (x : Pac) (I : XI) : Prop := I 41 2 = nI n ∧ (I 41 7 = kI x.1 ∧ -1 ≤ x.1 ∧ x.1 ≤ 10) ∧ (∀ j, j < n → I 42 j = nI (p j)) ∧ (∀ b, b < 4 → I 44 b = nI (ftP a g b i)) ∧ (∀ b, b < 4 → ftP a g b i ≠ 0 → I 43 b = nI (kdP kd g b i)) ∧ (∀ j, j < i → I 45 j = nI (g j)) ∧ (x.1 ≠ -1 → ∀ j, j < n → I 46 j = nI (x.2 j))
def FpS (I I' : XI) : Prop := ∀ q, (q < 41 ∨ q = 42 ∨ 46 < q) → I' q = I q
theorem FpS.tr {I I1 I2 : XI} (h : FpS I I1) (g : FpS I1 I2) : FpS I I2 := fun q hq => (g q hq).trans (h q hq)
theorem ftP_le {a g : Nat → Nat} {b n : Nat} (ha : ∀ j, j < n → a j ≤ 999) : ∀ k, k ≤ n → ftP a g b k ≤ 999 * k
  | 0, _ => Nat.le_refl _
  | k + 1, h => by
    have ih := ftP_le (g := g) (b := b) ha k (by omega)
    have := ha k (by omega)
    unfold ftP
    split <;> omega
theorem usP_le {a g : Nat → Nat} : ∀ k, usP a g k ≤ k
  | 0 => Nat.le_refl _
  | k + 1 => by
    have ih := usP_le (a := a) (g := g) k
    unfold usP
    split <;> omega
theorem stP_up {a kd rm g : Nat → Nat} {i k : Nat} : stP a kd rm (upP g i k) i = ((decide (ftP a g k i = 0) || decide (kdP kd g k i = kd i)) && decide (ftP a g k i + a i ≤ rm k)) := by
  have e : upP g i k i = k := if_pos rfl
  unfold stP
  rw [e, ftP_cg (g := upP g i k) (g' := g) i (fun j hj => if_neg (by omega)), kdP_cg (g := upP g i k) (g' := g) i (fun j hj => if_neg (by omega))]
/-- a load goes into a barn -/
theorem PwS.put {p a kd : Nat → Nat} {n i : Nat} {g : Nat → Nat} {x : Pac} {I : XI} (h : PwS p a kd n i g x I) (b : Nat) (hb : b < 4) : PwS p a kd n (i + 1) (upP g i b) x (uI (uI (uI I 43 b (nI (kd i))) 45 i (nI b)) 44 b (nI (ftP a g b i + a i))) := by
  obtain ⟨h1, h2, h3, h4, h5, h6, h7⟩ := h
  have q41 : (uI (uI (uI I 43 b (nI (kd i))) 45 i (nI b)) 44 b (nI (ftP a g b i + a i))) 41 = I 41 := by rw [uI_ne (by decide), uI_ne (by decide), uI_ne (by decide)]
  have q42 : (uI (uI (uI I 43 b (nI (kd i))) 45 i (nI b)) 44 b (nI (ftP a g b i + a i))) 42 = I 42 := by rw [uI_ne (by decide), uI_ne (by decide), uI_ne (by decide)]
  have q43 : (uI (uI (uI I 43 b (nI (kd i))) 45 i (nI b)) 44 b (nI (ftP a g b i + a i))) 43 = upd (I 43) b (nI (kd i)) := by rw [uI_ne (by decide), uI_ne (by decide), uI_eq]
  have q44 : (uI (uI (uI I 43 b (nI (kd i))) 45 i (nI b)) 44 b (nI (ftP a g b i + a i))) 44 = upd (I 44) b (nI (ftP a g b i + a i)) := by rw [uI_eq, uI_ne (by decide), uI_ne (by decide)]
  have q45 : (uI (uI (uI I 43 b (nI (kd i))) 45 i (nI b)) 44 b (nI (ftP a g b i + a i))) 45 = upd (I 45) i (nI b) := by rw [uI_ne (by decide), uI_eq, uI_ne (by decide)]
  have q46 : (uI (uI (uI I 43 b (nI (kd i))) 45 i (nI b)) 44 b (nI (ftP a g b i + a i))) 46 = I 46 := by rw [uI_ne (by decide), uI_ne (by decide), uI_ne (by decide)]
  have eg : ∀ j, j < i → upP g i b j = g j := fun j hj => if_neg (by omega)
  have ei : upP g i b i = b := if_pos rfl
  have ef : ∀ c, ftP a (upP g i b) c (i + 1) = ftP a g c i + (if b = c then a i else 0) := fun c => by
    show ftP a (upP g i b) c i + (if upP g i b i = c then a i else 0) = _
    rw [ei, ftP_cg (g' := g) i eg]
  have ek : ∀ c, kdP kd (upP g i b) c (i + 1) = if b = c then kd i else kdP kd g c i := fun c => by
    show (if upP g i b i = c then kd i else kdP kd (upP g i b) c i) = _
    rw [ei, kdP_cg (g' := g) i eg]
  unfold PwS
  rw [q41, q42, q43, q44, q45, q46]
  refine ⟨h1, h2, h3, fun c hc => ?_, fun c hc hf => ?_, fun j hj => ?_, h7⟩
  · rw [ef]
    by_cases e : c = b
    · rw [e, upd_s, if_pos rfl]
    · rw [upd_n e, if_neg (fun q => e q.symm), Nat.add_zero]
      exact h4 c hc
  · rw [ek]
    by_cases e : c = b
    · rw [e, upd_s, if_pos rfl]
    · rw [upd_n e, if_neg (fun q => e q.symm)]
      rw [ef, if_neg (fun q => e q.symm), Nat.add_zero] at hf
      exact h5 c hc hf
  · by_cases e : j = i
    · rw [e, upd_s, ei]
    · rw [upd_n e, eg j (by omega)]
      exact h6 j (by omega)
/-- it is taken out again -/
theorem PwS.take {p a kd rm : Nat → Nat} {n i : Nat} {g : Nat → Nat} {x : Pac} {I : XI} {b : Nat} (h : PwS p a kd n (i + 1) (upP g i b) x I) (hb : b < 4) (ok : stP a kd rm (upP g i b) i = true) (pa : 0 < a i) : PwS p a kd n i g x (uI I 44 b (nI (ftP a g b i))) := by
  obtain ⟨h1, h2, h3, h4, h5, h6, h7⟩ := h
  have q41 : (uI I 44 b (nI (ftP a g b i))) 41 = I 41 := uI_ne (by decide)
  have q42 : (uI I 44 b (nI (ftP a g b i))) 42 = I 42 := uI_ne (by decide)
  have q43 : (uI I 44 b (nI (ftP a g b i))) 43 = I 43 := uI_ne (by decide)
  have q44 : (uI I 44 b (nI (ftP a g b i))) 44 = upd (I 44) b (nI (ftP a g b i)) := uI_eq
  have q45 : (uI I 44 b (nI (ftP a g b i))) 45 = I 45 := uI_ne (by decide)
  have q46 : (uI I 44 b (nI (ftP a g b i))) 46 = I 46 := uI_ne (by decide)
  have eg : ∀ j, j < i → upP g i b j = g j := fun j hj => if_neg (by omega)
  have ei : upP g i b i = b := if_pos rfl
  have ef : ∀ c, ftP a (upP g i b) c (i + 1) = ftP a g c i + (if b = c then a i else 0) := fun c => by
    show ftP a (upP g i b) c i + (if upP g i b i = c then a i else 0) = _
    rw [ei, ftP_cg (g' := g) i eg]
  have ek : ∀ c, kdP kd (upP g i b) c (i + 1) = if b = c then kd i else kdP kd g c i := fun c => by
    show (if upP g i b i = c then kd i else kdP kd (upP g i b) c i) = _
    rw [ei, kdP_cg (g' := g) i eg]
  rw [stP_up, Bool.and_eq_true, Bool.or_eq_true, decide_eq_true_iff, decide_eq_true_iff, decide_eq_true_iff] at ok
  unfold PwS
  rw [q41, q42, q43, q44, q45, q46]
  refine ⟨h1, h2, h3, fun c hc => ?_, fun c hc hf => ?_, fun j hj => ?_, h7⟩
  · by_cases e : c = b
    · rw [e, upd_s]
    · have y := h4 c hc
      rw [ef, if_neg (fun q => e q.symm), Nat.add_zero] at y
      rw [upd_n e]
      exact y
  · have y := h5 c hc (by
      rw [ef]
      omega)
    rw [ek] at y
    by_cases e : b = c
    · rw [if_pos e] at y
      rw [← e] at hf ⊢
      rw [← e] at y
      rcases ok.1 with z | z
      · exact absurd z hf
      · rw [z]
        exact y
    · rw [if_neg e] at y
      exact y
  · rw [← eg j hj]
    exact h6 j (by omega)
abbrev psz (l : Launch) (d : Nat) (ru ta : Nat) (rs : List XO) (J : XJ) (Rp : XR) (nn i u pi ki ai b : Nat) (o : Option Value) (I : XI) : Prop := xrun xxX4 none false false (shH ru ta rs).length 0 0 none l d tX4_search [106, 161] Rp nn 106 [some (.ref 41), some (.int (nI i)), some (.int (nI u)), some (.int (nI pi)), some (.int (nI ki)), some (.int (nI ai)), some (.int (nI b)), o] [] (shH ru ta rs) I J 0 0
/-- the search at loads left is what it should be -/
def PSok (l : Launch) (ru ta : Nat) (rs : List XO) (Q : Tld) (w : Rw) (p a kd : Nat → Nat) (n m : Nat) : Prop := ∀ (d i : Nat) (g : Nat → Nat) (x : Pac) (I : XI) (J : XJ) (Rp : XR), i + m = n → TDc I Q → RC (qT Q) w (I 27) → PwS p a kd n i g x I → (∀ I' : XI, FpS I I' → (∀ k, k ≠ 7 → I' 41 k = I 41 k) → PwS p a kd n i g (pRn a kd (qM Q) (qB Q) m i g x) I' → Rp none (shH ru ta rs) I' J) → xm l (d + 2 + m) 0 0 mX4_search [.ref 41, .int (nI i), .int (nI (usP a g i))] (shH ru ta rs) I J Rp
theorem TDc.kp {I I' : XI} {Q : Tld} (h : TDc I Q) (f : FpS I I') : TDc I' Q := h.keep (f 12 (by decide)) (f 13 (by decide)) (f 14 (by decide)) (f 15 (by decide)) (f 16 (by decide)) (f 17 (by decide))
abbrev pFk (a kd rm : Nat → Nat) (B m i : Nat) (g : Nat → Nat) : Nat → Pac → Pac := fun k x => if stP a kd rm (upP g i k) i = true then pRn a kd rm B m (i + 1) (upP g i k) x else x
abbrev psy (l : Launch) (d : Nat) (ru ta : Nat) (rs : List XO) (J : XJ) (Rp : XR) (nn i u pi ki ai b : Nat) (e : Int32) (I : XI) : Prop := xrun xxX4 none false false (shH ru ta rs).length 0 0 none l d tX4_search [106, 161] Rp nn 161 [some (.ref 41), some (.int (nI i)), some (.int (nI u)), some (.int (nI pi)), some (.int (nI ki)), some (.int (nI ai)), some (.int (nI b)), some (.int e)] [] (shH ru ta rs) I J 0 0
set_option maxRecDepth 100000 in
set_option maxHeartbeats 4000000 in
theorem ps_161 (l : Launch) (D : Nat) (ru ta : Nat) (rs : List XO) (Q : Tld) (hQ : TOK Q) (p a kd : Nat → Nat) (n i b : Nat) (g : Nat → Nat) (I1 : XI) (J : XJ) (Rp : XR) (nn : Nat) (hi : i < 6) (hb : b < qB Q) (a9 : a i ≤ 999) (fl : ftP a g b i ≤ 6000) (e44 : I1 44 b = nI (ftP a g b i)) (e17 : I1 17 b = nI (qM Q b)) (e : Int32) (ee : e = if ftP a g b i = 0 then nI 1 else nI 0) (okk : ftP a g b i = 0 ∨ kdP kd g b i = kd i) (skip : stP a kd (qM Q) (upP g i b) i = false → ∀ o : Option Value, psz l D ru ta rs J Rp nn i (usP a g i) (p i) (kd i) (a i) (b + 1) o I1) (go : stP a kd (qM Q) (upP g i b) i = true → ∀ (Rq : XR), (∀ I3 : XI, I3 44 b = nI (ftP a g b i + a i) → (∀ o : Option Value, psz l D ru ta rs J Rp nn i (usP a g i) (p i) (kd i) (a i) (b + 1) o (uI I3 44 b (nI (ftP a g b i)))) → Rq none (shH ru ta rs) I3 J) → xm l D 0 0 mX4_search [.ref 41, .int (nI (i + 1)), .int (nI (usP a (upP g i b) (i + 1)))] (shH ru ta rs) (uI (uI (uI I1 43 b (nI (kd i))) 45 i (nI b)) 44 b (nI (ftP a g b i + a i))) J Rq) : psy l D ru ta rs J Rp (nn + 1) i (usP a g i) (p i) (kd i) (a i) b e I1 := by
  have b4 := hQ.2.2.1
  have rm9 := (hQ.2.2.2.2.2 b hb).2
  have ib : (nI b).toNatClampNeg = b := nI_clamp (by omega)
  have ii : (nI i).toNatClampNeg = i := nI_clamp (by omega)
  have st := stP_up (a := a) (kd := kd) (rm := qM Q) (g := g) (i := i) (k := b)
  have vb : vp_in (nI b) 4 := vp_in_nI (by omega) (by omega)
  have vi : vp_in (nI i) 6 := vp_in_nI (by omega) (by omega)
  have ok1 : (decide (ftP a g b i = 0) || decide (kdP kd g b i = kd i)) = true := by
    rw [Bool.or_eq_true, decide_eq_true_iff, decide_eq_true_iff]
    exact okk
  rw [ok1, Bool.true_and] at st
  have e44' : I1 44 (nI b).toNatClampNeg = nI (ftP a g b i) := by rw [ib]; exact e44
  have e17' : I1 17 (nI b).toNatClampNeg = nI (qM Q b) := by rw [ib]; exact e17
  refine xrun_step fun K hK => ?_
  refine And.intro vb ?_
  refine And.intro vb ?_
  refine And.intro (fun (t : I1 17 (nI b).toNatClampNeg < I1 44 (nI b).toNatClampNeg + nI (a i)) => ?_) (fun (t : ¬ I1 17 (nI b).toNatClampNeg < I1 44 (nI b).toNatClampNeg + nI (a i)) => ?_)
  · rw [e17', e44', nI_add, nlt (by omega) (by omega)] at t
    have s : stP a kd (qM Q) (upP g i b) i = false := by
      rw [st]
      exact decide_eq_false (by omega)
    refine hK 106 [some (.ref 41), some (.int (nI i)), some (.int (nI (usP a g i))), some (.int (nI (p i))), some (.int (nI (kd i))), some (.int (nI (a i))), some (.int (nI b + 1)), some (.int e)] [] (shH ru ta rs) I1 J 0 0 ?_
    rw [nI_1]
    exact skip s _
  · rw [e17', e44', nI_add, nlt (by omega) (by omega)] at t
    have s : stP a kd (qM Q) (upP g i b) i = true := by
      rw [st]
      exact decide_eq_true (by omega)
    have gg := go s
    have back : ∀ I3 : XI, I3 44 b = nI (ftP a g b i + a i) → (∀ o : Option Value, psz l D ru ta rs J Rp nn i (usP a g i) (p i) (kd i) (a i) (b + 1) o (uI I3 44 b (nI (ftP a g b i)))) → vp_in (nI b) 4 ∧ vp_in (nI b) 4 ∧ K 106 [some (.ref 41), some (.int (nI i)), some (.int (nI (usP a g i))), some (.int (nI (p i))), some (.int (nI (kd i))), some (.int (nI (a i))), some (.int (nI b + 1)), some (.int e)] [] (shH ru ta rs) (uI I3 44 (nI b).toNatClampNeg (I3 44 (nI b).toNatClampNeg - nI (a i))) J 0 0 := fun I3 e3 h3 => by
      refine ⟨vb, vb, ?_⟩
      refine hK 106 _ [] (shH ru ta rs) _ J 0 0 ?_
      rw [ib, e3, nI_subI (by omega) (by omega), Nat.add_sub_cancel, nI_1]
      exact h3 _
    refine And.intro vb ?_
    refine And.intro vi ?_
    refine And.intro vb ?_
    refine And.intro vb ?_
    rcases Nat.eq_zero_or_pos (ftP a g b i) with z | z
    · have eu : usP a (upP g i b) (i + 1) = usP a g i + 1 := by rw [usP_up, if_pos z]
      have e1 : e = nI 1 := by rw [ee, if_pos z]
      subst e1
      rw [eu] at gg
      refine And.intro (fun y => absurd (show nI 1 = 0 from y) (by decide)) (fun _ => ?_)
      refine (show xm l D 0 0 mX4_search [.ref 41, .int (nI i + nI 1), .int (nI (usP a g i) + nI 1)] (shH ru ta rs) (uI (uI (uI I1 43 (nI b).toNatClampNeg (nI (kd i))) 45 (nI i).toNatClampNeg (nI b)) 44 (nI b).toNatClampNeg (I1 44 (nI b).toNatClampNeg + nI (a i))) J _ from ?_)
      rw [e44', ib, ii, nI_add, nI_add, nI_add]
      exact gg _ (fun I3 e3 h3 => back I3 e3 h3)
    · have eu : usP a (upP g i b) (i + 1) = usP a g i := by rw [usP_up, if_neg (by omega)]
      have e1 : e = nI 0 := by rw [ee, if_neg (by omega)]
      subst e1
      rw [eu] at gg
      refine And.intro (fun _ => ?_) (fun y => absurd (show nI 0 = 0 from rfl) y)
      refine (show xm l D 0 0 mX4_search [.ref 41, .int (nI i + nI 1), .int (nI (usP a g i))] (shH ru ta rs) (uI (uI (uI I1 43 (nI b).toNatClampNeg (nI (kd i))) 45 (nI i).toNatClampNeg (nI b)) 44 (nI b).toNatClampNeg (I1 44 (nI b).toNatClampNeg + nI (a i))) J _ from ?_)
      rw [e44', ib, ii, nI_add, nI_add]
      exact gg _ (fun I3 e3 h3 => back I3 e3 h3)
set_option maxRecDepth 100000 in
set_option maxHeartbeats 4000000 in
theorem ps_loop (l : Launch) (ru ta : Nat) (rs : List XO) (Q : Tld) (hQ : TOK Q) (w : Rw) (hw : WR w) (p a kd : Nat → Nat) (n m : Nat) (hn : n ≤ 6) (hl : LdW w p a kd n) (ih : PSok l ru ta rs Q w p a kd n m) (d i : Nat) (g : Nat → Nat) (x : Pac) (I : XI) (J : XJ) (Rp : XR) (hi : i + (m + 1) = n) (ht : TDc I Q) (hr : RC (qT Q) w (I 27)) (hR : ∀ I' : XI, FpS I I' → (∀ k, k ≠ 7 → I' 41 k = I 41 k) → PwS p a kd n i g (foW (pFk a kd (qM Q) (qB Q) m i g) (qB Q) x) I' → Rp none (shH ru ta rs) I' J) : ∀ (q b nn : Nat) (I1 : XI) (o : Option Value), b + q = qB Q → 2 * q < nn → FpS I I1 → (∀ k, k ≠ 7 → I1 41 k = I 41 k) → PwS p a kd n i g (foW (pFk a kd (qM Q) (qB Q) m i g) b x) I1 → psz l (d + 2 + m) ru ta rs J Rp nn i (usP a g i) (p i) (kd i) (a i) b o I1 := by
  have b4 := hQ.2.2.1
  obtain ⟨p12, pw, pa, pk, a0, a9, k5⟩ := hl i (by omega)
  have ul := usP_le (a := a) (g := g) i
  intro q
  induction q with
  | zero =>
    intro b nn I1 o hb hnn f f41 hp
    obtain ⟨nn, rfl⟩ : ∃ n', nn = n' + 1 := ⟨nn - 1, by omega⟩
    have hb : b = qB Q := by omega
    subst hb
    have e12 : I1 12 7 = nI (qB Q) := (ht.kp f).2.2.1
    refine xrun_step fun K hK => ?_
    refine And.intro (fun _ => ?_) (fun z => absurd (show I1 12 7 ≤ nI (qB Q) from by rw [e12]; exact Int32.le_refl _) z)
    exact hR I1 f f41 hp
  | succ q ihq =>
    intro b nn I1 o hb hnn f f41 hp
    obtain ⟨nn, rfl⟩ : ∃ n', nn = n' + 1 + 1 := ⟨nn - 2, by omega⟩
    have bB : b < qB Q := by omega
    have ht1 := ht.kp f
    have e12 : I1 12 7 = nI (qB Q) := ht1.2.2.1
    have hp0 := hp
    obtain ⟨h1, h2, h3, h4, h5, h6, h7⟩ := hp
    have ib : (nI b).toNatClampNeg = b := nI_clamp (by omega)
    have ii : (nI i).toNatClampNeg = i := nI_clamp (by omega)
    have fl := ftP_le (g := g) (b := b) (n := n) (fun j hj => (hl j hj).2.2.2.2.2.1) i (by omega)
    have e44 : I1 44 (nI b).toNatClampNeg = nI (ftP a g b i) := by rw [ib]; exact h4 b (by omega)
    have e17 : I1 17 (nI b).toNatClampNeg = nI (qM Q b) := by rw [ib]; exact ht1.2.2.2.2.2 b bB
    have rm9 := (hQ.2.2.2.2.2 b bB).2
    have st := stP_up (a := a) (kd := kd) (rm := qM Q) (g := g) (i := i) (k := b)
    have vb : vp_in (nI b) 4 := vp_in_nI (by omega) (by omega)
    have vi : vp_in (nI i) 6 := vp_in_nI (by omega) (by omega)
    -- it can't go there
    have skip : stP a kd (qM Q) (upP g i b) i = false → ∀ o : Option Value, psz l (d + 2 + m) ru ta rs J Rp nn i (usP a g i) (p i) (kd i) (a i) (b + 1) o I1 := fun s o => by
      have e : foW (pFk a kd (qM Q) (qB Q) m i g) (b + 1) x = foW (pFk a kd (qM Q) (qB Q) m i g) b x := if_neg (by rw [s]; decide)
      refine ihq (b + 1) nn I1 o (by omega) (by omega) f f41 ?_
      rw [e]
      exact hp0
    -- it can
    have go : stP a kd (qM Q) (upP g i b) i = true → ∀ (Rq : XR), (∀ I3 : XI, I3 44 b = nI (ftP a g b i + a i) → (∀ o : Option Value, psz l (d + 2 + m) ru ta rs J Rp nn i (usP a g i) (p i) (kd i) (a i) (b + 1) o (uI I3 44 b (nI (ftP a g b i)))) → Rq none (shH ru ta rs) I3 J) → xm l (d + 2 + m) 0 0 mX4_search [.ref 41, .int (nI (i + 1)), .int (nI (usP a (upP g i b) (i + 1)))] (shH ru ta rs) (uI (uI (uI I1 43 b (nI (kd i))) 45 i (nI b)) 44 b (nI (ftP a g b i + a i))) J Rq := fun s Rq hq => by
      have e : foW (pFk a kd (qM Q) (qB Q) m i g) (b + 1) x = pRn a kd (qM Q) (qB Q) m (i + 1) (upP g i b) (foW (pFk a kd (qM Q) (qB Q) m i g) b x) := if_pos s
      have f1 : FpS I1 (uI (uI (uI I1 43 b (nI (kd i))) 45 i (nI b)) 44 b (nI (ftP a g b i + a i))) := fun q hq => by rw [uI_ne (by omega), uI_ne (by omega), uI_ne (by omega)]
      refine ih d (i + 1) (upP g i b) _ _ J Rq (by omega) (ht1.kp f1) (by rw [f1 27 (by decide), f 27 (by decide)]; exact hr) (hp0.put b (by omega)) (fun I3 f3 g3 p3 => ?_)
      have e44' : I3 44 b = nI (ftP a g b i + a i) := by
        rw [p3.2.2.2.1 b (by omega)]
        have ei : upP g i b i = b := if_pos rfl
        show nI (ftP a (upP g i b) b i + (if upP g i b i = b then a i else 0)) = _
        rw [if_pos ei, ftP_cg (g := upP g i b) (g' := g) i (fun j hj => if_neg (by omega))]
      refine hq I3 e44' (fun o => ?_)
      have p4 := p3.take (by omega) s a0
      rw [← e] at p4
      refine ihq (b + 1) nn _ o (by omega) (by omega) (f.tr (f1.tr (f3.tr (fun q hq => uI_ne (by omega))))) (fun k hk => ?_) p4
      rw [uI_ne (by decide), g3 k hk, uI_ne (by decide), uI_ne (by decide), uI_ne (by decide)]
      exact f41 k hk
    have t161 := ps_161 l (d + 2 + m) ru ta rs Q hQ p a kd n i b g I1 J Rp nn (by omega) bB a9 (by omega) (h4 b (by omega)) (ht1.2.2.2.2.2 b bB)
    refine xrun_step fun K hK => ?_
    refine And.intro (fun z => absurd (show I1 12 7 ≤ nI b from z) (by rw [e12]; exact nI_ge (by omega) (by omega))) (fun _ => ?_)
    refine And.intro (fun z => absurd ((nle (by omega) (by omega)).mp (show nI 4 ≤ nI b from z)) (by omega)) (fun _ => ?_)
    refine And.intro vb ?_
    refine And.intro (fun (z : ¬ I1 44 (nI b).toNatClampNeg = 0) => ?_) (fun (z : I1 44 (nI b).toNatClampNeg = 0) => ?_)
    · rw [e44, neq0 (by omega)] at z
      have e43 : I1 43 (nI b).toNatClampNeg = nI (kdP kd g b i) := by rw [ib]; exact h5 b (by omega) z
      have k6 : kdP kd g b i ≤ 6 := by
        have kl : ∀ k, k ≤ i → kdP kd g b k ≤ 6 := by
          intro k
          induction k with
          | zero => exact fun _ => Nat.le_refl _
          | succ k ihk =>
            intro hk
            show (if g k = b then kd k else kdP kd g b k) ≤ 6
            split
            · have := (hl k (by omega)).2.2.2.2.2.2
              omega
            · exact ihk (by omega)
        exact kl i (Nat.le_refl _)
      refine And.intro (fun y => absurd (show nI 0 = 0 from rfl) y) (fun _ => ?_)
      refine And.intro vb ?_
      refine And.intro (fun (y : ¬ I1 43 (nI b).toNatClampNeg = nI (kd i)) => ?_) (fun (y : I1 43 (nI b).toNatClampNeg = nI (kd i)) => ?_)
      · rw [e43] at y
        have s : stP a kd (qM Q) (upP g i b) i = false := by
          rw [st, decide_eq_false z, decide_eq_false (fun q => y (by rw [q]))]
          rfl
        refine hK 106 [some (.ref 41), some (.int (nI i)), some (.int (nI (usP a g i))), some (.int (nI (p i))), some (.int (nI (kd i))), some (.int (nI (a i))), some (.int (nI b + 1)), some (.int (nI 0))] [] (shH ru ta rs) I1 J 0 0 ?_
        rw [nI_1]
        exact ihq (b + 1) (nn + 1) I1 _ (by omega) (by omega) f f41 (by
          have e : foW (pFk a kd (qM Q) (qB Q) m i g) (b + 1) x = foW (pFk a kd (qM Q) (qB Q) m i g) b x := if_neg (by rw [s]; decide)
          rw [e]
          exact hp0)
      · rw [e43] at y
        have ek : kdP kd g b i = kd i := nI_inj y (by omega) (by omega)
        exact hK 161 [some (.ref 41), some (.int (nI i)), some (.int (nI (usP a g i))), some (.int (nI (p i))), some (.int (nI (kd i))), some (.int (nI (a i))), some (.int (nI b)), some (.int (nI 0))] [] (shH ru ta rs) I1 J 0 0 (t161 (nI 0) (by rw [if_neg z]) (Or.inr ek) skip go)
    · rw [e44, neq0 (by omega)] at z
      refine And.intro (fun _ => ?_) (fun y => absurd (show nI 1 = 0 from y) (by decide))
      exact hK 161 [some (.ref 41), some (.int (nI i)), some (.int (nI (usP a g i))), some (.int (nI (p i))), some (.int (nI (kd i))), some (.int (nI (a i))), some (.int (nI b)), some (.int (nI 1))] [] (shH ru ta rs) I1 J 0 0 (t161 (nI 1) (by rw [if_pos z]) (Or.inl z) skip go)
set_option maxRecDepth 100000 in
set_option maxHeartbeats 4000000 in
theorem ps_all (l : Launch) (ru ta : Nat) (rs : List XO) (Q : Tld) (hQ : TOK Q) (w : Rw) (hw : WR w) (p a kd : Nat → Nat) (n : Nat) (hn : n ≤ 6) (hl : LdW w p a kd n) : ∀ m, PSok l ru ta rs Q w p a kd n m := by
  have b4 := hQ.2.2.1
  intro m
  induction m with
  | zero =>
    intro d i g x I J Rp hi ht hr hp hR
    have hi : i = n := by omega
    subst hi
    have ul := usP_le (a := a) (g := g) i
    obtain ⟨h1, ⟨h2, x1, x2⟩, h3, h4, h5, h6, h7⟩ := id hp
    have lt := kI_lt (m := x.1) (v := usP a g i) x1 (by omega) (by omega)
    have k1 := kI_1 (m := x.1) x1 (by omega)
    have z0 : (nI 0).toNatClampNeg = 0 := by decide
    have z6 : (nI 6).toNatClampNeg = 6 := by decide
    have leaf : (x.1 = -1 ∨ ((usP a g i : Nat) : Int) < x.1) → (¬ nI 0 < 0 ∧ ¬ nI 0 < 0 ∧ ¬ nI 6 < 0 ∧ (nI 0).toNatClampNeg + (nI 6).toNatClampNeg ≤ 6 ∧ (nI 0).toNatClampNeg + (nI 6).toNatClampNeg ≤ 6) ∧ Rp none (shH ru ta rs) (cI (uI I 41 7 (nI (usP a g i))) 45 46 (nI 0).toNatClampNeg (nI 0).toNatClampNeg (nI 6).toNatClampNeg) J := fun c => by
      have e : pRn a kd (qM Q) (qB Q) 0 i g x = (((usP a g i : Nat) : Int), g) := if_pos c
      refine ⟨⟨by decide, by decide, by decide, by decide, by decide⟩, ?_⟩
      rw [z0, z6]
      have q41 : ∀ k, (cI (uI I 41 7 (nI (usP a g i))) 45 46 0 0 6) 41 k = upd (I 41) 7 (nI (usP a g i)) k := fun k => by rw [cI_ne (by decide), uI_eq]
      have qo : ∀ q, q ≠ 41 → q ≠ 46 → (cI (uI I 41 7 (nI (usP a g i))) 45 46 0 0 6) q = I q := fun q a b => by rw [cI_ne b, uI_ne a]
      refine hR _ (fun q hq => qo q (by omega) (by omega)) (fun k hk => by rw [q41, upd_n hk]) ?_
      rw [e]
      refine ⟨?_, ⟨?_, ?_, ?_⟩, ?_, ?_, ?_, ?_, fun _ j hj => ?_⟩
      · rw [q41, upd_n (by decide)]
        exact h1
      · rw [q41, upd_s, kI_nat]
      · show (-1 : Int) ≤ ((usP a g i : Nat) : Int)
        omega
      · show ((usP a g i : Nat) : Int) ≤ 10
        omega
      · rw [qo 42 (by decide) (by decide)]
        exact h3
      · rw [qo 44 (by decide) (by decide)]
        exact h4
      · rw [qo 43 (by decide) (by decide)]
        exact h5
      · rw [qo 45 (by decide) (by decide)]
        exact h6
      · rw [cI_eq, cp_lo (by omega), uI_ne (by decide)]
        exact h6 j hj
    refine xm_ofK 20 (X := xxX4) (t := tX4_search) (stop := [106, 161]) (ini := false) xx4 pl4 rfl kX4_search (fun h => by cases h) (Nat.le_of_ble_eq_true rfl) (fun K hK => ?_)
    refine And.intro (fun y => absurd (show nI i < 0 from y) (nI_nn (by omega))) (fun _ => ?_)
    refine And.intro (fun (z : I 41 7 = -1) => ?_) (fun (z : ¬ I 41 7 = -1) => ?_)
    · rw [h2, k1] at z
      refine And.intro (fun _ => ?_) (fun y => absurd (show I 41 2 ≤ nI i from by rw [h1]; exact Int32.le_refl _) y)
      exact leaf (Or.inl z)
    · refine And.intro (fun (t : nI (usP a g i) < I 41 7) => ?_) (fun (t : ¬ nI (usP a g i) < I 41 7) => ?_)
      · rw [h2, lt.1] at t
        refine And.intro (fun _ => ?_) (fun y => absurd (show I 41 2 ≤ nI i from by rw [h1]; exact Int32.le_refl _) y)
        exact leaf (Or.inr t)
      · rw [h2, k1] at z
        rw [h2, lt.1] at t
        have e : pRn a kd (qM Q) (qB Q) 0 i g x = x := pRn_id 0 i g x z (by omega)
        rw [e] at hR
        exact hR I (fun _ _ => rfl) (fun _ _ => rfl) hp
  | succ m ih =>
    intro d i g x I J Rp hi ht hr hp hR
    have ul := usP_le (a := a) (g := g) i
    obtain ⟨p12, pw, pa, pk, a0, a9, k5⟩ := hl i (by omega)
    obtain ⟨h1, ⟨h2, x1, x2⟩, h3, h4, h5, h6, h7⟩ := id hp
    have lt := kI_lt (m := x.1) (v := usP a g i) x1 (by omega) (by omega)
    have k1 := kI_1 (m := x.1) x1 (by omega)
    have ii : (nI i).toNatClampNeg = i := nI_clamp (by omega)
    have e42 : I 42 (nI i).toNatClampNeg = nI (p i) := by rw [ii]; exact h3 i (by omega)
    have i16 : (nI 16 + nI (p i)).toNatClampNeg = 16 + p i := ix_c (by omega)
    have i28 : (nI 28 + nI (p i)).toNatClampNeg = 28 + p i := ix_c (by omega)
    have l16 : I 27 (nI 16 + nI (p i)).toNatClampNeg = nI (kd i) := by rw [i16, ((hr.2.2.1 (p i) p12).2 pw).1]; exact pk
    have l28 : I 27 (nI 28 + nI (p i)).toNatClampNeg = nI (a i) := by rw [i28, hr.len p12]; exact pa
    have lp := ps_loop l ru ta rs Q hQ w hw p a kd n m hn hl ih d i g x I J Rp hi ht hr hR (qB Q) 0 20 I none (by omega) (by omega) (fun _ _ => rfl) (fun _ _ => rfl) hp
    rw [show d + 2 + (m + 1) = d + 2 + m + 1 by omega]
    refine xm_ofK 20 (X := xxX4) (t := tX4_search) (stop := [106, 161]) (ini := false) xx4 pl4 rfl kX4_search (fun h => by cases h) (Nat.le_of_ble_eq_true rfl) (fun K hK => ?_)
    -- from 21 on
    have body : ∀ (Rq : XR), (vp_in (nI 16 + nI (p i)) 69 ∧ vp_in (nI 28 + nI (p i)) 69 → Rq (some (.int 1)) (shH ru ta rs) I J) → xm l (d + 2 + m) 0 0 mX10_hasBale [.ref 26, .int (I 42 (nI i).toNatClampNeg)] (shH ru ta rs) I J Rq := fun Rq hq => by
      rw [e42, show d + 2 + m = (d + 1 + m) + 1 by omega]
      exact cw_hasBale l (d + 1 + m) ru ta rs I J Rq (qT Q) w hr hw (nI (p i)) (fun _ _ _ _ => hq ⟨vx_2 (by omega) (by omega), vx_2 (by omega) (by omega)⟩) (fun hn0 => absurd pw (hn0 (p i) p12 rfl))
    have k106 := hK 106 [some (.ref 41), some (.int (nI i)), some (.int (nI (usP a g i))), some (.int (nI (p i))), some (.int (nI (kd i))), some (.int (nI (a i))), some (.int (nI 0)), none] [] (shH ru ta rs) I J 0 0 lp
    refine And.intro (fun y => absurd (show nI i < 0 from y) (nI_nn (by omega))) (fun _ => ?_)
    refine And.intro (fun (z : I 41 7 = -1) => ?_) (fun (z : ¬ I 41 7 = -1) => ?_)
    · refine And.intro (fun y => absurd (show I 41 2 ≤ nI i from y) (by rw [h1]; exact nI_ge (by omega) (by omega))) (fun _ => ?_)
      refine And.intro (fun _ => ?_) (fun y => absurd (show nI i < nI 6 from (nlt (by omega) (by omega)).mpr (by omega)) y)
      refine And.intro (show vp_in (nI i) 6 from vp_in_nI (by omega) (by omega)) ?_
      refine body _ (fun v => ?_)
      refine And.intro (fun _ => ?_) (fun z => absurd (show (1 : Int32) = 0 from z) (by decide))
      refine (show vp_in (nI 16 + I 42 (nI i).toNatClampNeg) 69 ∧ vp_in (nI 28 + I 42 (nI i).toNatClampNeg) 69 ∧ K 106 [some (.ref 41), some (.int (nI i)), some (.int (nI (usP a g i))), some (.int (I 42 (nI i).toNatClampNeg)), some (.int (I 27 (nI 16 + I 42 (nI i).toNatClampNeg).toNatClampNeg)), some (.int (I 27 (nI 28 + I 42 (nI i).toNatClampNeg).toNatClampNeg)), some (.int (nI 0)), none] [] (shH ru ta rs) I J 0 0 from ?_)
      rw [e42, l16, l28]
      exact ⟨v.1, v.2, k106⟩
    · refine And.intro (fun (t : nI (usP a g i) < I 41 7) => ?_) (fun (t : ¬ nI (usP a g i) < I 41 7) => ?_)
      · refine And.intro (fun y => absurd (show I 41 2 ≤ nI i from y) (by rw [h1]; exact nI_ge (by omega) (by omega))) (fun _ => ?_)
        refine And.intro (fun _ => ?_) (fun y => absurd (show nI i < nI 6 from (nlt (by omega) (by omega)).mpr (by omega)) y)
        refine And.intro (show vp_in (nI i) 6 from vp_in_nI (by omega) (by omega)) ?_
        refine body _ (fun v => ?_)
        refine And.intro (fun _ => ?_) (fun z => absurd (show (1 : Int32) = 0 from z) (by decide))
        refine (show vp_in (nI 16 + I 42 (nI i).toNatClampNeg) 69 ∧ vp_in (nI 28 + I 42 (nI i).toNatClampNeg) 69 ∧ K 106 [some (.ref 41), some (.int (nI i)), some (.int (nI (usP a g i))), some (.int (I 42 (nI i).toNatClampNeg)), some (.int (I 27 (nI 16 + I 42 (nI i).toNatClampNeg).toNatClampNeg)), some (.int (I 27 (nI 28 + I 42 (nI i).toNatClampNeg).toNatClampNeg)), some (.int (nI 0)), none] [] (shH ru ta rs) I J 0 0 from ?_)
        rw [e42, l16, l28]
        exact ⟨v.1, v.2, k106⟩
      · rw [h2, k1] at z
        rw [h2, lt.1] at t
        have e : pRn a kd (qM Q) (qB Q) (m + 1) i g x = x := pRn_id (m + 1) i g x z (by omega)
        rw [e] at hR
        exact hR I (fun _ _ => rfl) (fun _ _ => rfl) hp

