-- ===== feed, on both sides =====
theorem and255 (x : Int32) : (x &&& 255).toInt = x.toInt % 256 := by
  have e : (x &&& 255).toBitVec = x.toBitVec &&& 255#32 := rfl
  have h1 : (x &&& 255).toInt = (x &&& 255).toBitVec.toInt := rfl
  have h2 : x.toInt = x.toBitVec.toInt := rfl
  have h3 : (x.toBitVec &&& 255#32).toNat = x.toBitVec.toNat % 256 := by
    rw [BitVec.toNat_and]
    exact Nat.and_two_pow_sub_one_eq_mod x.toBitVec.toNat 8
  rw [h1, e, h2, BitVec.toInt_eq_toNat_cond, BitVec.toInt_eq_toNat_cond, h3]
  have := x.toBitVec.isLt
  split <;> split <;> omega
theorem i8_of (x : Int32) : (vp_nar .byte x.toInt8.toInt32).toInt = x.toInt.bmod 256 := by
  show (x.toInt8.toInt32.toInt8.toInt32).toInt = _
  rw [Int8.toInt_toInt32, Int32.toInt_toInt8, Int8.toInt_toInt32, Int32.toInt_toInt8]
  show (x.toInt.bmod 256).bmod 256 = _
  rw [Int.bmod_bmod]
theorem br_byte (x : Int32) : BR (x &&& 255) (vp_nar .byte x.toInt8.toInt32) := by
  have a := and255 x
  have b := i8_of x
  have c : x.toInt.bmod 256 = if x.toInt % 256 < 128 then x.toInt % 256 else x.toInt % 256 - 256 := rfl
  rw [c] at b
  have z := Int.emod_nonneg x.toInt (show (256 : Int) ≠ 0 by decide)
  have y := Int.emod_lt_of_pos x.toInt (show (0 : Int) < 256 by decide)
  have t0 : (0 : Int32).toInt = 0 := rfl
  have t1 : (127 : Int32).toInt = 127 := rfl
  have t2 : (128 : Int32).toInt = 128 := rfl
  have t3 : (255 : Int32).toInt = 255 := rfl
  by_cases h : x.toInt % 256 < 128
  · rw [if_pos h] at b
    exact Or.inl ⟨Int32.le_iff_toInt_le.mpr (by omega), Int32.toInt_inj.mp (by omega), Int32.le_iff_toInt_le.mpr (by omega)⟩
  · rw [if_neg h] at b
    exact Or.inr ⟨Int32.lt_iff_toInt_lt.mpr (by omega), Int32.le_iff_toInt_le.mpr (by omega), Int32.le_iff_toInt_le.mpr (by omega)⟩
theorem cell_frC {p k : Nat} (hp : (CFc.all fun q => !(Nat.beq q.1 p)) = true) (h2 : xlk CFr p = none) : cellI CF p k = fr := by
  unfold cellI
  split
  · rename_i q e
    exfalso
    have hm := List.mem_of_find?_eq_some e
    have hq := List.find?_some e
    simp only [Bool.and_eq_true] at hq
    have e1 := Nat.eq_of_beq_eq_true hq.1
    have y := List.all_eq_true.mp hp q hm
    rw [e1] at y
    have z : Nat.beq p p = true := by simp
    rw [z] at y
    cases y
  · split
    · rename_i r e
      have y := h2.symm.trans e
      cases y
    · rfl
theorem cell_31 (k : Nat) : cellI CF 31 k = fr := cell_frC (by decide +kernel) (by decide +kernel)
theorem cell_70 (k : Nat) : cellI CF 70 k = fr := cell_frC (by decide +kernel) (by decide +kernel)
theorem cell_301 : cellI CF 30 1 = (0, 300) := by decide +kernel
/-- the shifts, one after another -/
def shN : Nat → Int32
  | 0 => 24
  | 1 => 16
  | 2 => 8
  | _ => 0
def shB (x : Int32) (k : Nat) : Int32 := x >>> (shN k &&& 31)
/-- the class's tape while a word of four bytes is added -/
def ADk (x : Int32) (T k : Nat) (I I' : XI) : Prop := ((∀ p, p ≠ 30 → p ≠ 31 → I' p = I p) ∧ (∀ j, j ≠ 1 → I' 30 j = I 30 j) ∧ I' 30 1 = nI (T + k)) ∧ ((∀ j, j < T → I' 31 j = I 31 j) ∧ ∀ j, j < k → I' 31 (T + j) = shB x j &&& 255) ∧ ((ivO CF [] I → ivO CF [] I') ∧ (QQ I → QQ I'))
theorem ADk.z {x : Int32} {T : Nat} {I : XI} (e : I 30 1 = nI T) : ADk x T 0 I I := ⟨⟨fun _ _ _ => rfl, fun _ _ => rfl, e⟩, ⟨fun _ _ => rfl, fun j hj => absurd hj (Nat.not_lt_zero j)⟩, id, id⟩
theorem ADk.s {x : Int32} {T k : Nat} {I I' : XI} (hT : T + k < 300) (h : ADk x T k I I') : ADk x T (k + 1) I (uI (uI I' 31 (T + k) (shB x k &&& 255)) 30 1 (nI (T + k + 1))) := by
  obtain ⟨⟨h1, h2, h3⟩, ⟨h4, h5⟩, h6, h7⟩ := h
  refine ⟨⟨fun p p1 p2 => ?_, fun j hj => ?_, ?_⟩, ⟨fun j hj => ?_, fun j hj => ?_⟩, fun hi => ?_, fun hq => qq_u (by decide) (qq_u (by decide) (h7 hq))⟩
  · rw [uI_ne p1, uI_ne p2]
    exact h1 p p1 p2
  · rw [uI_atC, if_neg hj, uI_ne (by decide)]
    exact h2 j hj
  · rw [uI_atC, if_pos rfl]
    rfl
  · rw [uI_ne (by decide), uI_atC, if_neg (by omega)]
    exact h4 j hj
  · rw [uI_ne (by decide), uI_atC]
    by_cases z : j = k
    · rw [if_pos (by omega), z]
    · rw [if_neg (by omega)]
      exact h5 j (by omega)
  · refine iv_put (iv_put (h6 hi) (by rw [cell_31]; exact inI_fr _)) ?_
    rw [cell_301, nI_toInt (by omega)]
    exact ⟨by dsimp only; omega, by dsimp only; omega⟩
set_option maxRecDepth 100000 in
set_option maxHeartbeats 1000000 in
theorem ad_step (l : Launch) (d : Nat) (ru ta : Nat) (rs : List XO) (x s s' : Int32) (T k : Nat) (hT : T + k < 300) (hs : ¬ s < 0) (hs' : s + -8 = s') (I : XI) (J : XJ) (Rp : XR) (n : Nat) (e : I 30 1 = nI (T + k)) (h : xrun xxX7 none false false (shH ru ta rs).length 0 0 none l d tX7_add [3] Rp n 3 [some (.ref 30), some (.int x), some (.int s')] [] (shH ru ta rs) (uI (uI I 31 (T + k) ((x >>> (s &&& 31)) &&& 255)) 30 1 (nI (T + k + 1))) J 0 0) : xrun xxX7 none false false (shH ru ta rs).length 0 0 none l d tX7_add [3] Rp (n + 1) 3 [some (.ref 30), some (.int x), some (.int s)] [] (shH ru ta rs) I J 0 0 := by
  have v : vp_in (I 30 1) 300 := by rw [e]; exact vp_in_nI hT (by omega)
  refine xrun_step fun K hK => ?_
  refine And.intro (fun z => absurd z hs) (fun _ => ?_)
  refine And.intro (fun z => ?_) (fun _ => ?_)
  · exfalso
    have z : I 30 1 < nI 0 := z
    rw [e] at z
    exact absurd z (nI_nlt (by omega) (by omega))
  refine And.intro (fun z => ?_) (fun _ => And.intro v ?_)
  · exfalso
    have z : nI 300 ≤ I 30 1 := z
    rw [e, nI_leI (by omega) (by omega)] at z
    omega
  · refine hK 3 [some (.ref 30), some (.int x), some (.int (s + -8))] [] (shH ru ta rs) (uI (uI I 31 (I 30 1).toNatClampNeg ((x >>> (s &&& 31)) &&& 255)) 30 1 (I 30 1 + 1)) J 0 0 ?_
    rw [e, nI_clamp (by omega), nI_1, hs']
    exact h
set_option maxRecDepth 100000 in
set_option maxHeartbeats 1000000 in
theorem c_add (l : Launch) (d : Nat) (ru ta : Nat) (rs : List XO) (x : Int32) (T : Nat) (hT : T + 4 ≤ 300) (I : XI) (J : XJ) (Rp : XR) (e : I 30 1 = nI T) (hR : ∀ I', ADk x T 4 I I' → Rp none (shH ru ta rs) I' J) : xm l (d + 1) 0 0 mX7_add [.ref 30, .int x] (shH ru ta rs) I J Rp := by
  refine xm_ofK 6 (X := xxX7) (t := tX7_add) (stop := [3]) (ini := false) xx7 pl7 rfl kX7_add (fun h => by cases h) (Nat.le_of_ble_eq_true rfl) (fun K hK => ?_)
  refine hK 3 [some (.ref 30), some (.int x), some (.int 24)] [] (shH ru ta rs) I J 0 0 ?_
  have a0 := ADk.z (x := x) e
  have a1 := a0.s (by omega)
  have a2 := a1.s (by omega)
  have a3 := a2.s (by omega)
  have a4 := a3.s (by omega)
  refine ad_step l d ru ta rs x 24 16 T 0 (by omega) (by decide) (by decide) I J Rp 5 a0.1.2.2 ?_
  refine ad_step l d ru ta rs x 16 8 T 1 (by omega) (by decide) (by decide) _ J Rp 4 a1.1.2.2 ?_
  refine ad_step l d ru ta rs x 8 0 T 2 (by omega) (by decide) (by decide) _ J Rp 3 a2.1.2.2 ?_
  refine ad_step l d ru ta rs x 0 (-8) T 3 (by omega) (by decide) (by decide) _ J Rp 2 a3.1.2.2 ?_
  refine xrun_step fun K hK => ?_
  refine And.intro (fun _ => ?_) (fun z => absurd (show (-8 : Int32) < 0 by decide) z)
  exact hR _ a4
/-- the words of a line -/
def wdN (a b c d e : Int32) : Nat → Int32
  | 0 => a
  | 1 => b
  | 2 => c
  | 3 => d
  | _ => e
/-- the class's tape while words are added -/
def FDm (w : Nat → Int32) (T m : Nat) (I I' : XI) : Prop := ((∀ p, p ≠ 30 → p ≠ 31 → I' p = I p) ∧ (∀ j, j ≠ 1 → I' 30 j = I 30 j) ∧ I' 30 1 = nI (T + 4 * m)) ∧ ((∀ j, j < T → I' 31 j = I 31 j) ∧ ∀ j, j < 4 * m → I' 31 (T + j) = shB (w (j / 4)) (j % 4) &&& 255) ∧ ((ivO CF [] I → ivO CF [] I') ∧ (QQ I → QQ I'))
theorem FDm.z {w : Nat → Int32} {T : Nat} {I : XI} (e : I 30 1 = nI T) : FDm w T 0 I I := ⟨⟨fun _ _ _ => rfl, fun _ _ => rfl, e⟩, ⟨fun _ _ => rfl, fun j hj => absurd hj (Nat.not_lt_zero j)⟩, id, id⟩
theorem FDm.s {w : Nat → Int32} {T m : Nat} {I I1 I2 : XI} (h : FDm w T m I I1) (g : ADk (w m) (T + 4 * m) 4 I1 I2) : FDm w T (m + 1) I I2 := by
  obtain ⟨⟨h1, h2, h3⟩, ⟨h4, h5⟩, h6, h7⟩ := h
  obtain ⟨⟨g1, g2, g3⟩, ⟨g4, g5⟩, g6, g7⟩ := g
  refine ⟨⟨fun p p1 p2 => (g1 p p1 p2).trans (h1 p p1 p2), fun j hj => (g2 j hj).trans (h2 j hj), g3⟩, ⟨fun j hj => (g4 j (by omega)).trans (h4 j hj), fun j hj => ?_⟩, fun hi => g6 (h6 hi), fun hq => g7 (h7 hq)⟩
  by_cases z : j < 4 * m
  · exact (g4 (T + j) (by omega)).trans (h5 j z)
  · have y := g5 (j - 4 * m) (by omega)
    rw [show T + 4 * m + (j - 4 * m) = T + j by omega] at y
    rw [y, show j / 4 = m by omega, show j % 4 = j - 4 * m by omega]
set_option maxRecDepth 100000 in
theorem c_room (l : Launch) (d : Nat) (ru ta : Nat) (rs : List XO) (T : Nat) (hT : T ≤ 300) (I : XI) (J : XJ) (Rp : XR) (e : I 30 1 = nI T) (h1 : T + 20 ≤ 300 → Rp (some (.int 1)) (shH ru ta rs) I J) (h0 : ¬ T + 20 ≤ 300 → Rp (some (.int 0)) (shH ru ta rs) I J) : xm l (d + 1) 0 0 mX7_hasRoom [.ref 30, .int 20] (shH ru ta rs) I J Rp := by
  refine xm_ofK 0 (X := xxX7) (t := tX7_hasRoom) (stop := []) (ini := false) xx7 pl7 rfl kX7_hasRoom (fun h => by cases h) (Nat.le_of_ble_eq_true rfl) (fun K hK => ?_)
  have es : I 30 1 + nI 20 = nI (T + 20) := by rw [e, nI_add]
  have key : nI 300 < I 30 1 + nI 20 ↔ ¬ T + 20 ≤ 300 := by
    rw [es, nI_ltI (by omega) (by omega)]
    omega
  refine And.intro (fun z => ?_) (fun z => ?_)
  · exact And.intro (Or.inl rfl) (h0 (key.mp z))
  · exact And.intro (Or.inr rfl) (h1 (Decidable.byContradiction (fun y => z (key.mpr y))))
set_option maxRecDepth 100000 in
set_option maxHeartbeats 1000000 in
theorem c_feed (l : Launch) (d' : Nat) (ru ta : Nat) (rs : List XO) (a b c d e : Int32) (T : Nat) (hT : T ≤ 300) (I : XI) (J : XJ) (Rp : XR) (eT : I 30 1 = nI T) (h1 : T + 20 ≤ 300 → ∀ I', FDm (wdN a b c d e) T 5 I I' → Rp (some (.int (nI (T + 20)))) (shH ru ta rs) I' J) (h0 : ¬ T + 20 ≤ 300 → Rp (some (.int (-1))) (shH ru ta rs) I J) : xm l (d' + 2) 0 0 mX11_feed [.ref 0, .int a, .int b, .int c, .int d, .int e] (shH ru ta rs) I J Rp := by
  refine xm_ofK 0 (X := xxX11) (t := tX11_feed) (stop := []) (ini := false) xx11 pl11 rfl kX11_feed (fun h => by cases h) (Nat.le_of_ble_eq_true rfl) (fun K hK => ?_)
  refine c_room l d' ru ta rs T hT I J _ eT (fun hr => ?_) (fun hr => ?_)
  · refine And.intro (fun _ => ?_) (fun h => absurd h (show ¬ ((1 : Int32) = (0 : Int32)) by decide))
    have f0 := FDm.z (w := wdN a b c d e) eT
    refine c_add l d' ru ta rs a T (by omega) I J _ eT (fun I1 g1 => ?_)
    have f1 := f0.s g1
    refine c_add l d' ru ta rs b (T + 4 * 1) (by omega) I1 J _ f1.1.2.2 (fun I2 g2 => ?_)
    have f2 := f1.s g2
    refine c_add l d' ru ta rs c (T + 4 * 2) (by omega) I2 J _ f2.1.2.2 (fun I3 g3 => ?_)
    have f3 := f2.s g3
    refine c_add l d' ru ta rs d (T + 4 * 3) (by omega) I3 J _ f3.1.2.2 (fun I4 g4 => ?_)
    have f4 := f3.s g4
    refine c_add l d' ru ta rs e (T + 4 * 4) (by omega) I4 J _ f4.1.2.2 (fun I5 g5 => ?_)
    have f5 := f4.s g5
    show Rp (some (.int (I5 30 1))) (shH ru ta rs) I5 J
    rw [f5.1.2.2]
    exact h1 hr I5 f5
  · refine And.intro (fun h => absurd rfl h) (fun _ => ?_)
    exact h0 hr
-- the reference
def PUk (x : Int32) (T k : Nat) (I I' : XI) : Prop := ((∀ p, p ≠ 67 → p ≠ 70 → I' p = I p) ∧ (∀ j, j ≠ 3 → I' 67 j = I 67 j) ∧ I' 67 3 = nI (T + k)) ∧ ((∀ j, j < T → I' 70 j = I 70 j) ∧ ∀ j, j < k → I' 70 (T + j) = vp_nar .byte (shB x j).toInt8.toInt32) ∧ ((ivO CF [] I → ivO CF [] I') ∧ (QQ I → QQ I'))
theorem PUk.z {x : Int32} {T : Nat} {I : XI} (e : I 67 3 = nI T) : PUk x T 0 I I := ⟨⟨fun _ _ _ => rfl, fun _ _ => rfl, e⟩, ⟨fun _ _ => rfl, fun j hj => absurd hj (Nat.not_lt_zero j)⟩, id, id⟩
theorem PUk.s {x : Int32} {T k : Nat} {I I' : XI} (hT : T + k < 300) (h : PUk x T k I I') : PUk x T (k + 1) I (uI (uI I' 70 (T + k) (vp_nar .byte (shB x k).toInt8.toInt32)) 67 3 (nI (T + k + 1))) := by
  obtain ⟨⟨h1, h2, h3⟩, ⟨h4, h5⟩, h6, h7⟩ := h
  refine ⟨⟨fun p p1 p2 => ?_, fun j hj => ?_, ?_⟩, ⟨fun j hj => ?_, fun j hj => ?_⟩, fun hi => ?_, fun hq => qq_u (by decide) (qq_u (by decide) (h7 hq))⟩
  · rw [uI_ne p1, uI_ne p2]
    exact h1 p p1 p2
  · rw [uI_atC, if_neg hj, uI_ne (by decide)]
    exact h2 j hj
  · rw [uI_atC, if_pos rfl]
    rfl
  · rw [uI_ne (by decide), uI_atC, if_neg (by omega)]
    exact h4 j hj
  · rw [uI_ne (by decide), uI_atC]
    by_cases z : j = k
    · rw [if_pos (by omega), z]
    · rw [if_neg (by omega)]
      exact h5 j (by omega)
  · refine iv_put (iv_put (h6 hi) (by rw [cell_70]; exact inI_fr _)) ?_
    rw [cell_674.2.2.2.1, nI_toInt (by omega)]
    exact ⟨by dsimp only; omega, by dsimp only; omega⟩
set_option maxRecDepth 100000 in
set_option maxHeartbeats 1000000 in
theorem pu_step (l : Launch) (d : Nat) (ru ta : Nat) (rs : List XO) (x s s' : Int32) (T k : Nat) (hT : T + k < 300) (hs : ¬ s < 0) (hs' : s - 8 = s') (I : XI) (J : XJ) (Rp : XR) (n : Nat) (e : I 67 3 = nI (T + k)) (h : xrun xxX12 none false false (shH ru ta rs).length 0 0 none l d tX12_put [3] Rp n 3 [some (.ref 67), some (.int x), some (.int s')] [] (shH ru ta rs) (uI (uI I 70 (T + k) (vp_nar .byte (x >>> (s &&& 31)).toInt8.toInt32)) 67 3 (nI (T + k + 1))) J 0 0) : xrun xxX12 none false false (shH ru ta rs).length 0 0 none l d tX12_put [3] Rp (n + 1) 3 [some (.ref 67), some (.int x), some (.int s)] [] (shH ru ta rs) I J 0 0 := by
  have v : vp_in (I 67 3) 300 := by rw [e]; exact vp_in_nI hT (by omega)
  refine xrun_step fun K hK => ?_
  refine And.intro (fun z => absurd z hs) (fun _ => And.intro v ?_)
  refine hK 3 [some (.ref 67), some (.int x), some (.int (s - 8))] [] (shH ru ta rs) (uI (uI I 70 (I 67 3).toNatClampNeg (vp_nar .byte (x >>> (s &&& 31)).toInt8.toInt32)) 67 3 (I 67 3 + 1)) J 0 0 ?_
  rw [e, nI_clamp (by omega), nI_1, hs']
  exact h
set_option maxRecDepth 100000 in
set_option maxHeartbeats 1000000 in
theorem m_put (l : Launch) (d : Nat) (ru ta : Nat) (rs : List XO) (x : Int32) (T : Nat) (hT : T + 4 ≤ 300) (I : XI) (J : XJ) (Rp : XR) (e : I 67 3 = nI T) (hR : ∀ I', PUk x T 4 I I' → Rp none (shH ru ta rs) I' J) : xm l (d + 1) 0 0 mX12_put [.ref 67, .int x] (shH ru ta rs) I J Rp := by
  refine xm_ofK 6 (X := xxX12) (t := tX12_put) (stop := [3]) (ini := false) xx12 pl12 rfl kX12_put (fun h => by cases h) (Nat.le_of_ble_eq_true rfl) (fun K hK => ?_)
  refine hK 3 [some (.ref 67), some (.int x), some (.int 24)] [] (shH ru ta rs) I J 0 0 ?_
  have a0 := PUk.z (x := x) e
  have a1 := a0.s (by omega)
  have a2 := a1.s (by omega)
  have a3 := a2.s (by omega)
  have a4 := a3.s (by omega)
  refine pu_step l d ru ta rs x 24 16 T 0 (by omega) (by decide) (by decide) I J Rp 5 a0.1.2.2 ?_
  refine pu_step l d ru ta rs x 16 8 T 1 (by omega) (by decide) (by decide) _ J Rp 4 a1.1.2.2 ?_
  refine pu_step l d ru ta rs x 8 0 T 2 (by omega) (by decide) (by decide) _ J Rp 3 a2.1.2.2 ?_
  refine pu_step l d ru ta rs x 0 (-8) T 3 (by omega) (by decide) (by decide) _ J Rp 2 a3.1.2.2 ?_
  refine xrun_step fun K hK => ?_
  refine And.intro (fun _ => ?_) (fun z => absurd (show (-8 : Int32) < 0 by decide) z)
  exact hR _ a4
def PDm (w : Nat → Int32) (T m : Nat) (I I' : XI) : Prop := ((∀ p, p ≠ 67 → p ≠ 70 → I' p = I p) ∧ (∀ j, j ≠ 3 → I' 67 j = I 67 j) ∧ I' 67 3 = nI (T + 4 * m)) ∧ ((∀ j, j < T → I' 70 j = I 70 j) ∧ ∀ j, j < 4 * m → I' 70 (T + j) = vp_nar .byte (shB (w (j / 4)) (j % 4)).toInt8.toInt32) ∧ ((ivO CF [] I → ivO CF [] I') ∧ (QQ I → QQ I'))
theorem PDm.z {w : Nat → Int32} {T : Nat} {I : XI} (e : I 67 3 = nI T) : PDm w T 0 I I := ⟨⟨fun _ _ _ => rfl, fun _ _ => rfl, e⟩, ⟨fun _ _ => rfl, fun j hj => absurd hj (Nat.not_lt_zero j)⟩, id, id⟩
theorem PDm.s {w : Nat → Int32} {T m : Nat} {I I1 I2 : XI} (h : PDm w T m I I1) (g : PUk (w m) (T + 4 * m) 4 I1 I2) : PDm w T (m + 1) I I2 := by
  obtain ⟨⟨h1, h2, h3⟩, ⟨h4, h5⟩, h6, h7⟩ := h
  obtain ⟨⟨g1, g2, g3⟩, ⟨g4, g5⟩, g6, g7⟩ := g
  refine ⟨⟨fun p p1 p2 => (g1 p p1 p2).trans (h1 p p1 p2), fun j hj => (g2 j hj).trans (h2 j hj), g3⟩, ⟨fun j hj => (g4 j (by omega)).trans (h4 j hj), fun j hj => ?_⟩, fun hi => g6 (h6 hi), fun hq => g7 (h7 hq)⟩
  by_cases z : j < 4 * m
  · exact (g4 (T + j) (by omega)).trans (h5 j z)
  · have y := g5 (j - 4 * m) (by omega)
    rw [show T + 4 * m + (j - 4 * m) = T + j by omega] at y
    rw [y, show j / 4 = m by omega, show j % 4 = j - 4 * m by omega]
set_option maxRecDepth 100000 in
set_option maxHeartbeats 1000000 in
theorem m_feed (l : Launch) (d' : Nat) (ru ta : Nat) (rs : List XO) (a b c d e : Int32) (T : Nat) (hT : T ≤ 300) (I : XI) (J : XJ) (Rp : XR) (eT : I 67 3 = nI T) (h1 : T + 20 ≤ 300 → ∀ I', PDm (wdN a b c d e) T 5 I I' → Rp (some (.int (nI (T + 20)))) (shH ru ta rs) I' J) (h0 : ¬ T + 20 ≤ 300 → Rp (some (.int (-1))) (shH ru ta rs) I J) : xm l (d' + 2) 0 0 mX12_feed [.ref 67, .int a, .int b, .int c, .int d, .int e] (shH ru ta rs) I J Rp := by
  refine xm_ofK 0 (X := xxX12) (t := tX12_feed) (stop := []) (ini := false) xx12 pl12 rfl kX12_feed (fun h => by cases h) (Nat.le_of_ble_eq_true rfl) (fun K hK => ?_)
  have es : I 67 3 + nI 20 = nI (T + 20) := by rw [eT, nI_add]
  have key : I 67 3 + nI 20 ≤ nI 300 ↔ T + 20 ≤ 300 := by rw [es]; exact nI_leI (by omega) (by omega)
  refine And.intro (fun hr => ?_) (fun hr => h0 (fun y => hr (key.mpr y)))
  have hr := key.mp hr
  have f0 := PDm.z (w := wdN a b c d e) eT
  refine m_put l d' ru ta rs a T (by omega) I J _ eT (fun I1 g1 => ?_)
  have f1 := f0.s g1
  refine m_put l d' ru ta rs b (T + 4 * 1) (by omega) I1 J _ f1.1.2.2 (fun I2 g2 => ?_)
  have f2 := f1.s g2
  refine m_put l d' ru ta rs c (T + 4 * 2) (by omega) I2 J _ f2.1.2.2 (fun I3 g3 => ?_)
  have f3 := f2.s g3
  refine m_put l d' ru ta rs d (T + 4 * 3) (by omega) I3 J _ f3.1.2.2 (fun I4 g4 => ?_)
  have f4 := f3.s g4
  refine m_put l d' ru ta rs e (T + 4 * 4) (by omega) I4 J _ f4.1.2.2 (fun I5 g5 => ?_)
  have f5 := f4.s g5
  show Rp (some (.int (I5 67 3))) (shH ru ta rs) I5 J
  rw [f5.1.2.2]
  exact h1 hr I5 f5
