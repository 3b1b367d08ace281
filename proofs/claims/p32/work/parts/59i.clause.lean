-- ===== the reader: clauses =====
theorem vp_96 {x : Int32} (h0 : ¬ x < 0) (h1 : ¬ nI 96 ≤ x) : vp_in x 96 := by
  obtain ⟨j, hj, rfl⟩ := nI_of h0
  refine vp_in_nI ?_ (by omega)
  rcases Nat.lt_or_ge j 96 with z | z
  · exact z
  · exact absurd (nI_le z (by omega)) h1
def opI (I : XI) (ta v : Nat) : XI := uI I (ta + 2) v (I ta 1)
def clsI (I : XI) (ta v : Nat) : XI := uI I (ta + 3) v (I ta 1)
def cl0 (I : XI) (ta i : Nat) : XI := uI (uI I (ta + 2) i 0) (ta + 3) i 0
def clrI (I : XI) (ta : Nat) : XI := cl0 (cl0 (cl0 (cl0 (cl0 (uI (uI I ta 1 0) ta 5 0) ta 0) ta 1) ta 2) ta 3) ta 4
theorem cl0_ne {I : XI} {ta i p : Nat} (h2 : p ≠ ta + 2) (h3 : p ≠ ta + 3) : cl0 I ta i p = I p := by
  unfold cl0
  rw [uI_ne h3, uI_ne h2]
theorem cl0_2 {I : XI} {ta i w : Nat} : cl0 I ta i (ta + 2) w = if w = i then 0 else I (ta + 2) w := by
  unfold cl0
  rw [uI_ne (by omega), uI_atC]
theorem cl0_3 {I : XI} {ta i w : Nat} : cl0 I ta i (ta + 3) w = if w = i then 0 else I (ta + 3) w := by
  unfold cl0
  rw [uI_atC, uI_ne (by omega)]
theorem clrI_ne {I : XI} {ta p : Nat} (h0 : p ≠ ta) (h2 : p ≠ ta + 2) (h3 : p ≠ ta + 3) : clrI I ta p = I p := by
  unfold clrI
  rw [cl0_ne h2 h3, cl0_ne h2 h3, cl0_ne h2 h3, cl0_ne h2 h3, cl0_ne h2 h3, uI_ne h0, uI_ne h0]
theorem clrI_ta {I : XI} {ta : Nat} : clrI I ta ta 1 = 0 ∧ clrI I ta ta 5 = 0 := by
  unfold clrI
  rw [cl0_ne (by omega) (by omega), cl0_ne (by omega) (by omega), cl0_ne (by omega) (by omega), cl0_ne (by omega) (by omega), cl0_ne (by omega) (by omega)]
  refine ⟨?_, ?_⟩
  · rw [uI_atC, if_neg (by decide), uI_atC, if_pos rfl]
  · rw [uI_atC, if_pos rfl]
theorem clrI_law {I : XI} {ta w : Nat} (hw : w < 5) : clrI I ta (ta + 2) w = 0 ∧ clrI I ta (ta + 3) w = 0 := by
  unfold clrI
  rw [cl0_2, cl0_2, cl0_2, cl0_2, cl0_2, cl0_3, cl0_3, cl0_3, cl0_3, cl0_3]
  have y : w = 0 ∨ w = 1 ∨ w = 2 ∨ w = 3 ∨ w = 4 := by omega
  rcases y with rfl | rfl | rfl | rfl | rfl <;> exact ⟨rfl, rfl⟩
/-- a clause more: its word; those ahead of it stay -/
def AC4 (ta : Nat) (I I' : XI) (i : Nat) (v : Int32) : Prop := I' (ta + 4) (4 * i) = v ∧ ∀ x, x < 4 * i → I' (ta + 4) x = I (ta + 4) x
section TXT
variable (l : Launch) (ru_ ta : Nat) (rs : List XO) (I : XI) (J : XJ) (Rp : XR)
set_option maxRecDepth 100000 in
set_option maxHeartbeats 1000000 in
theorem rd_clear (ht : TSP ta) (n : Nat) (hn : 1 ≤ n) (hR : Rp none (shH ru_ ta rs) (clrI I ta) J) : xm l n 0 0 mX8_clear [.ref ta] (shH ru_ ta rs) I J Rp := by
  obtain ⟨n, rfl⟩ : ∃ n', n = n' + 1 := ⟨n - 1, by omega⟩
  obtain rfl | rfl | rfl | rfl | rfl := id ht
  all_goals
    refine xm_ofK 0 (X := xxX8) (t := tX8_clear) (stop := []) (ini := false) xx8 pl8 rfl kX8_clear (fun h => by cases h) (Nat.le_of_ble_eq_true rfl) (fun K hK => ?_)
    refine And.intro (fun h => absurd h (by decide)) (fun _ => And.intro (vp_b (by decide)) (And.intro (vp_b (by decide)) ?_))
    refine And.intro (fun h => absurd h (by decide)) (fun _ => And.intro (vp_b (by decide)) (And.intro (vp_b (by decide)) ?_))
    refine And.intro (fun h => absurd h (by decide)) (fun _ => And.intro (vp_b (by decide)) (And.intro (vp_b (by decide)) ?_))
    refine And.intro (fun h => absurd h (by decide)) (fun _ => And.intro (vp_b (by decide)) (And.intro (vp_b (by decide)) ?_))
    refine And.intro (fun h => absurd h (by decide)) (fun _ => And.intro (vp_b (by decide)) (And.intro (vp_b (by decide)) ?_))
    exact And.intro (fun _ => hR) (fun h => absurd (by decide) h)
set_option maxRecDepth 100000 in
theorem rd_hasLaw (ht : TSP ta) (n : Nat) (hn : 1 ≤ n) (v : Nat) (hv : v < 100) (h1 : v < 5 → I (ta + 2) v < I (ta + 3) v → Rp (some (.int 1)) (shH ru_ ta rs) I J) (h0 : ¬ (v < 5 ∧ I (ta + 2) v < I (ta + 3) v) → Rp (some (.int 0)) (shH ru_ ta rs) I J) : xm l n 0 0 mX8_hasLaw [.ref ta, .int (nI v)] (shH ru_ ta rs) I J Rp := by
  obtain ⟨n, rfl⟩ : ∃ n', n = n' + 1 := ⟨n - 1, by omega⟩
  have e : (nI v).toNatClampNeg = v := nI_clamp (by omega)
  rcases Nat.lt_or_ge v 5 with c | c
  · have hp : vp_in (nI v) 5 := vp_in_nI c (by omega)
    have kA : I (ta + 3) (nI v).toNatClampNeg ≤ I (ta + 2) (nI v).toNatClampNeg → ((0 : Int32) = 0 ∨ (0 : Int32) = 1) ∧ Rp (some (.int 0)) (shH ru_ ta rs) I J := fun h => ⟨Or.inl rfl, h0 (fun z => by
      rw [e] at h
      exact absurd z.2 (Int32.not_lt.mpr h))⟩
    have kB : ¬ I (ta + 3) (nI v).toNatClampNeg ≤ I (ta + 2) (nI v).toNatClampNeg → ((1 : Int32) = 0 ∨ (1 : Int32) = 1) ∧ Rp (some (.int 1)) (shH ru_ ta rs) I J := fun h => ⟨Or.inr rfl, h1 c (by
      rw [e] at h
      exact Int32.not_le.mp h)⟩
    obtain rfl | rfl | rfl | rfl | rfl := id ht
    all_goals
      refine xm_ofK 0 (X := xxX8) (t := tX8_hasLaw) (stop := []) (ini := false) xx8 pl8 rfl kX8_hasLaw (fun h => by cases h) (Nat.le_of_ble_eq_true rfl) (fun K hK => ?_)
      refine And.intro (fun h => absurd h (nI_pos (by omega))) (fun _ => ?_)
      refine And.intro (fun h => absurd (show nI 5 ≤ nI v from h) (nI_ge c (by omega))) (fun _ => And.intro hp (And.intro hp ?_))
      exact And.intro (fun h => kA h) (fun h => kB h)
  · have kA : ((0 : Int32) = 0 ∨ (0 : Int32) = 1) ∧ Rp (some (.int 0)) (shH ru_ ta rs) I J := ⟨Or.inl rfl, h0 (fun z => by omega)⟩
    obtain rfl | rfl | rfl | rfl | rfl := id ht
    all_goals
      refine xm_ofK 0 (X := xxX8) (t := tX8_hasLaw) (stop := []) (ini := false) xx8 pl8 rfl kX8_hasLaw (fun h => by cases h) (Nat.le_of_ble_eq_true rfl) (fun K hK => ?_)
      refine And.intro (fun h => absurd h (nI_pos (by omega))) (fun _ => ?_)
      exact And.intro (fun _ => kA) (fun h => absurd (show nI 5 ≤ nI v from nI_le c (by omega)) h)
set_option maxRecDepth 100000 in
theorem rd_openLaw (ht : TSP ta) (n : Nat) (hn : 1 ≤ n) (v : Nat) (c : v < 5) (hR : Rp none (shH ru_ ta rs) (opI I ta v) J) : xm l n 0 0 mX8_openLaw [.ref ta, .int (nI v)] (shH ru_ ta rs) I J Rp := by
  obtain ⟨n, rfl⟩ : ∃ n', n = n' + 1 := ⟨n - 1, by omega⟩
  have hp : vp_in (nI v) 5 := vp_in_nI c (by omega)
  have key : Rp none (shH ru_ ta rs) (uI I (ta + 2) (nI v).toNatClampNeg (I ta 1)) J := by
    rw [nI_clamp (by omega)]
    exact hR
  obtain rfl | rfl | rfl | rfl | rfl := id ht
  all_goals
    refine xm_ofK 0 (X := xxX8) (t := tX8_openLaw) (stop := []) (ini := false) xx8 pl8 rfl kX8_openLaw (fun h => by cases h) (Nat.le_of_ble_eq_true rfl) (fun K hK => ?_)
    refine And.intro (fun h => absurd h (nI_pos (by omega))) (fun _ => ?_)
    exact And.intro (fun h => absurd (show nI 5 ≤ nI v from h) (nI_ge c (by omega))) (fun _ => And.intro hp key)
set_option maxRecDepth 100000 in
theorem rd_closeLaw (ht : TSP ta) (n : Nat) (hn : 1 ≤ n) (v : Nat) (c : v < 5) (hR : Rp none (shH ru_ ta rs) (clsI I ta v) J) : xm l n 0 0 mX8_closeLaw [.ref ta, .int (nI v)] (shH ru_ ta rs) I J Rp := by
  obtain ⟨n, rfl⟩ : ∃ n', n = n' + 1 := ⟨n - 1, by omega⟩
  have hp : vp_in (nI v) 5 := vp_in_nI c (by omega)
  have key : Rp none (shH ru_ ta rs) (uI I (ta + 3) (nI v).toNatClampNeg (I ta 1)) J := by
    rw [nI_clamp (by omega)]
    exact hR
  obtain rfl | rfl | rfl | rfl | rfl := id ht
  all_goals
    refine xm_ofK 0 (X := xxX8) (t := tX8_closeLaw) (stop := []) (ini := false) xx8 pl8 rfl kX8_closeLaw (fun h => by cases h) (Nat.le_of_ble_eq_true rfl) (fun K hK => ?_)
    refine And.intro (fun h => absurd h (nI_pos (by omega))) (fun _ => ?_)
    exact And.intro (fun h => absurd (show nI 5 ≤ nI v from h) (nI_ge c (by omega))) (fun _ => And.intro hp key)
set_option maxRecDepth 100000 in
set_option maxHeartbeats 1000000 in
theorem rd_addC_loop (ht : TSP ta) (n : Nat) (v : Int32) (i : Nat) (hi : i < 24) (hR : ∀ I', (∀ p, p ≠ ta → p ≠ ta + 4 → I' p = I p) → (∀ k, k ≠ 5 → I' ta k = I ta k) → I' ta 5 = I ta 5 + 1 → AC4 ta I I' i v → Rp none (shH ru_ ta rs) I' J) : ∀ (m k S : Nat) (I' : XI), k + m = 4 → 1 ≤ k → m < S → (∀ p, p ≠ ta + 4 → I' p = I p) → AC4 ta I I' i v → xrun xxX8 none false false (shH ru_ ta rs).length 0 0 none l n tX8_addClause [31] Rp S 31 [some (.ref ta), some (.int v), some (.int (nI (4 * i))), some (.int (nI k))] [] (shH ru_ ta rs) I' J 0 0 := by
  intro m
  induction m with
  | zero =>
    intro k S I' hk hk1 hS f ac
    obtain ⟨S, rfl⟩ : ∃ n', S = n' + 1 := ⟨S - 1, by omega⟩
    have ek : k = 4 := by omega
    subst ek
    have fin : Rp none (shH ru_ ta rs) (uI I' ta 5 (I' ta 5 + 1)) J := by
      refine hR _ (fun p h0 h4 => by rw [uI_ne h0]; exact f p h4) (fun k hk => by rw [uI_atC, if_neg hk, f ta (by omega)]) (by rw [uI_atC, if_pos rfl, f ta (by omega)]) (by unfold AC4; rw [uI_ne (by omega)]; exact ac)
    obtain rfl | rfl | rfl | rfl | rfl := id ht
    all_goals
      refine xrun_step fun K hK => ?_
      exact And.intro (fun _ => fin) (fun h => absurd (by decide) h)
  | succ m ih =>
    intro k S I' hk hk1 hS f ac
    obtain ⟨S, rfl⟩ : ∃ n', S = n' + 1 := ⟨S - 1, by omega⟩
    have vp : vp_in (nI (4 * i) + nI k) 96 := by rw [nI_add]; exact vp_in_nI (by omega) (by omega)
    have nx : xrun xxX8 none false false (shH ru_ ta rs).length 0 0 none l n tX8_addClause [31] Rp S 31 [some (.ref ta), some (.int v), some (.int (nI (4 * i))), some (.int (nI k + 1))] [] (shH ru_ ta rs) (uI I' (ta + 4) (nI (4 * i) + nI k).toNatClampNeg 0) J 0 0 := by
      rw [nI_1, nI_add, nI_clamp (by omega)]
      refine ih (k + 1) S _ (by omega) (by omega) (by omega) (fun p hp => by rw [uI_ne hp]; exact f p hp) ⟨?_, fun x hx => ?_⟩
      · rw [uI_atC, if_neg (by omega)]
        exact ac.1
      · rw [uI_atC, if_neg (by omega)]
        exact ac.2 x hx
    have lt4 : ¬ nI 4 ≤ nI k := nI_ge (by omega) (by omega)
    obtain rfl | rfl | rfl | rfl | rfl := id ht
    all_goals
      refine xrun_step fun K hK => ?_
      refine And.intro (fun h => absurd h lt4) (fun _ => And.intro vp ?_)
      exact hK 31 [some (.ref _), some (.int v), some (.int (nI (4 * i))), some (.int (nI k + 1))] [] (shH ru_ _ rs) (uI I' _ (nI (4 * i) + nI k).toNatClampNeg 0) J 0 0 nx
set_option maxRecDepth 100000 in
set_option maxHeartbeats 1000000 in
theorem rd_addClause (ht : TSP ta) (n : Nat) (hn : 1 ≤ n) (v : Int32) (i : Nat) (hi : i < 24) (e5 : I ta 5 = nI i) (hR : ∀ I', (∀ p, p ≠ ta → p ≠ ta + 4 → I' p = I p) → (∀ k, k ≠ 5 → I' ta k = I ta k) → I' ta 5 = I ta 5 + 1 → AC4 ta I I' i v → Rp none (shH ru_ ta rs) I' J) : xm l n 0 0 mX8_addClause [.ref ta, .int v] (shH ru_ ta rs) I J Rp := by
  obtain ⟨n, rfl⟩ : ∃ n', n = n' + 1 := ⟨n - 1, by omega⟩
  have e4 : I ta 5 * nI 4 = nI (4 * i) := by rw [e5, nI_mul, Nat.mul_comm]
  have q0 : ¬ I ta 5 * nI 4 < 0 := by rw [e4]; exact nI_pos (by omega)
  have q1 : ¬ nI 96 < I ta 5 * nI 4 + nI 4 := by rw [e4, nI_add]; exact nI_nlt (by omega) (by omega)
  have v0 : vp_in (I ta 5 * nI 4) 96 := by rw [e4]; exact vp_in_nI (by omega) (by omega)
  have nx : xrun xxX8 none false false (shH ru_ ta rs).length 0 0 none l n tX8_addClause [31] Rp 9 31 [some (.ref ta), some (.int v), some (.int (I ta 5 * nI 4)), some (.int (nI 1))] [] (shH ru_ ta rs) (uI I (ta + 4) (I ta 5 * nI 4).toNatClampNeg v) J 0 0 := by
    rw [e4, nI_clamp (by omega)]
    refine rd_addC_loop l ru_ ta rs I J Rp ht n v i hi hR 3 1 9 _ (by omega) (by omega) (by omega) (fun p hp => uI_ne hp) ⟨?_, fun x hx => ?_⟩
    · rw [uI_atC, if_pos rfl]
    · rw [uI_atC, if_neg (by omega)]
  obtain rfl | rfl | rfl | rfl | rfl := id ht
  all_goals
    refine xm_ofK 9 (X := xxX8) (t := tX8_addClause) (stop := [31]) (ini := false) xx8 pl8 rfl kX8_addClause (fun h => by cases h) (Nat.le_of_ble_eq_true rfl) (fun K hK => ?_)
    refine And.intro (fun h => absurd h q0) (fun _ => And.intro (fun h => absurd h q1) (fun _ => And.intro v0 ?_))
    exact hK 31 _ _ _ _ _ _ _ nx
set_option maxRecDepth 100000 in
set_option maxHeartbeats 1000000 in
theorem rd_setNumber (ht : TSP ta) (n : Nat) (hn : 1 ≤ n) (q i : Nat) (hq : q < 24) (hi : i < 3) (e5 : I ta 5 = nI (q + 1)) (x : Int32) (hR : ∀ I', I' = uI I (ta + 4) (4 * q + 1 + i) x → Rp none (shH ru_ ta rs) I' J) : xm l n 0 0 mX8_setNumber [.ref ta, .int (nI i), .int x] (shH ru_ ta rs) I J Rp := by
  obtain ⟨n, rfl⟩ : ∃ n', n = n' + 1 := ⟨n - 1, by omega⟩
  have e : (I ta 5 - nI 1) * nI 4 + nI 1 + nI i = nI (4 * q + 1 + i) := by
    rw [e5, show nI (q + 1) - nI 1 = nI q from nI_pred q, nI_mul, nI_add, nI_add]
    congr 1
    omega
  have k1 : Rp none (shH ru_ ta rs) (uI I (ta + 4) ((I ta 5 - nI 1) * nI 4 + nI 1 + nI i).toNatClampNeg x) J := by
    rw [e, nI_clamp (by omega)]
    exact hR _ rfl
  have q0 : ¬ (I ta 5 - nI 1) * nI 4 + nI 1 + nI i < 0 := by rw [e]; exact nI_pos (by omega)
  have q1 : ¬ nI 96 ≤ (I ta 5 - nI 1) * nI 4 + nI 1 + nI i := by rw [e]; exact nI_ge (by omega) (by omega)
  have v0 : vp_in ((I ta 5 - nI 1) * nI 4 + nI 1 + nI i) 96 := by rw [e]; exact vp_in_nI (by omega) (by omega)
  have i0 : ¬ nI i < 0 := nI_pos (by omega)
  have i1 : ¬ nI 3 ≤ nI i := nI_ge hi (by omega)
  obtain rfl | rfl | rfl | rfl | rfl := id ht
  all_goals
    refine xm_ofK 0 (X := xxX8) (t := tX8_setNumber) (stop := []) (ini := false) xx8 pl8 rfl kX8_setNumber (fun h => by cases h) (Nat.le_of_ble_eq_true rfl) (fun K hK => ?_)
    refine And.intro (fun h => absurd h i0) (fun _ => And.intro (fun h => absurd h i1) (fun _ => And.intro (fun h => absurd h q0) (fun h => And.intro (fun h => absurd h q1) (fun g => ?_))))
    exact And.intro v0 k1
end TXT
-- deeds
def FL : List Int32 := ((xlk xkA 900005).getD (0, 0, [])).2.2
def deT (v i : Nat) : Bool := match (fmS v)[i]? with
  | some q => decide (FL.getD (9 * (v - 5) + 3 * i) 0 = nI q.1) && decide (FL.getD (9 * (v - 5) + 3 * i + 1) 0 = nI q.2.1) && (match Nat.beq q.2.2 99 with
    | true => decide (FL.getD (9 * (v - 5) + 3 * i + 2) 0 = 0)
    | false => decide (FL.getD (9 * (v - 5) + 3 * i + 2) 0 = nI (cw q.2.2)) && Nat.blt 0 (cw q.2.2) && Nat.blt q.2.2 32 && Nat.blt (i + 1) (fmS v).length) && decide ((fmS v).drop i = q :: (fmS v).drop (i + 1)) && Nat.ble q.1 1000 && Nat.ble q.2.1 1000
  | none => true
theorem deT_all : ((List.range 9).all fun v => (List.range 3).all fun i => deT (v + 5) i) = true := by decide +kernel
theorem deT_len : ((List.range 9).all fun v => Nat.blt 0 (fmS (v + 5)).length && Nat.ble (fmS (v + 5)).length 3) = true := by decide +kernel
def FD (ta : Nat) (I I' : XI) : Prop := (∀ p, p ≠ 35 → p ≠ ta + 4 → I' p = I p) ∧ I' 35 6 = I 35 6
theorem FD.tr {ta : Nat} {I I' I'' : XI} (h : FD ta I I') (g : FD ta I' I'') : FD ta I I'' := ⟨fun p a b => (g.1 p a b).trans (h.1 p a b), g.2.trans h.2⟩
theorem FD.ev {ta : Nat} {I I' : XI} {tk : Nat → TK} {N : Nat} (ht : TSP ta) (f : FD ta I I') (h : EV I tk N) : EV I' tk N := by
  unfold TSP at ht
  unfold EV
  rw [f.1 30 (by decide) (by omega), f.1 32 (by decide) (by omega), f.1 33 (by decide) (by omega), f.1 34 (by decide) (by omega)]
  exact h
theorem FD.av {ta : Nat} {I : XI} {i : Nat} : FD ta I (avI I i) := by
  refine ⟨fun p a _ => ?_, ?_⟩
  · unfold avI
    rw [uI_ne a, uI_ne a, uI_ne a]
  · rfl
theorem FD.fi {ta : Nat} {I : XI} {f j : Nat} : FD ta I (FI I f j) := by
  refine ⟨fun p a _ => ?_, ?_⟩
  · unfold FI
    rw [uI_ne a, uI_ne a]
  · rfl
theorem avI_r4 {ta i : Nat} {I : XI} (ht : TSP ta) : avI I i (ta + 4) = I (ta + 4) := by
  unfold TSP at ht
  unfold avI
  rw [uI_ne (by omega), uI_ne (by omega), uI_ne (by omega)]
theorem avI_78 {I : XI} {i : Nat} : avI I i 35 7 = I 35 7 ∧ avI I i 35 8 = I 35 8 := ⟨rfl, rfl⟩
/-- the numbers of a deed so far; what is ahead stays -/
def NB (ta q : Nat) (tk : Nat → TK) (v j0 : Nat) (I I' : XI) (i j : Nat) : Prop := (∀ z, z < 4 * q + 1 → I' (ta + 4) z = I (ta + 4) z) ∧ ∃ pre : List Nat, pre.length = i ∧ deN tk (fmS v) j0 = pre ++ deN tk ((fmS v).drop i) j ∧ ∀ x, x < i → I' (ta + 4) (4 * q + 1 + x) = nI (pre.getD x 0)
def ND (ta q : Nat) (dn : List Nat) (I I' : XI) : Prop := (∀ z, z < 4 * q + 1 → I' (ta + 4) z = I (ta + 4) z) ∧ ∀ x, x < dn.length → I' (ta + 4) (4 * q + 1 + x) = nI (dn.getD x 0)
theorem NB.set {ta q : Nat} {tk : Nat → TK} {v j0 : Nat} {I I' I1 : XI} {i j : Nat} {x : Int32} (h : NB ta q tk v j0 I I' i j) (e : I1 = uI I' (ta + 4) (4 * q + 1 + i) x) : NB ta q tk v j0 I I1 i j ∧ I1 (ta + 4) (4 * q + 1 + i) = x := by
  obtain ⟨h1, pre, h2, h3, h4⟩ := h
  refine ⟨⟨fun z hz => ?_, pre, h2, h3, fun y hy => ?_⟩, ?_⟩
  · rw [e, uI_atC, if_neg (by omega)]
    exact h1 z hz
  · rw [e, uI_atC, if_neg (by omega)]
    exact h4 y hy
  · rw [e, uI_atC, if_pos rfl]
theorem getD_app {a b : List Nat} {x : Nat} (h : x < a.length) : (a ++ b).getD x 0 = a.getD x 0 := by
  rw [List.getD_eq_getElem?_getD, List.getD_eq_getElem?_getD, List.getElem?_append_left h]
theorem getD_last {a : List Nat} {v : Nat} : (a ++ [v]).getD a.length 0 = v := by
  rw [List.getD_eq_getElem?_getD, List.getElem?_append_right (Nat.le_refl _)]
  simp
theorem NB.next {ta q : Nat} {tk : Nat → TK} {v j0 : Nat} {I I' I1 I3 : XI} {i j lo hi w : Nat} (h : NB ta q tk v j0 I I1 i j) (hd : (fmS v).drop i = (lo, hi, w) :: (fmS v).drop (i + 1)) (hw : w ≠ 99) (hx : I1 (ta + 4) (4 * q + 1 + i) = nI (tk j).2.1) (e : I3 (ta + 4) = I1 (ta + 4)) : NB ta q tk v j0 I I3 (i + 1) (j + 2) := by
  obtain ⟨h1, pre, h2, h3, h4⟩ := h
  refine ⟨fun z hz => by rw [e]; exact h1 z hz, pre ++ [(tk j).2.1], by simp [h2], ?_, fun x hx' => ?_⟩
  · rw [h3, hd, deN, beqf hw, List.append_assoc]
    rfl
  · rw [e]
    rcases Nat.lt_or_ge x i with c | c
    · rw [getD_app (by omega)]
      exact h4 x c
    · have ex : x = i := by omega
      rw [ex, hx]
      congr 1
      rw [← h2]
      exact getD_last.symm
theorem NB.last {ta q : Nat} {tk : Nat → TK} {v j0 : Nat} {I I1 I3 : XI} {i j lo hi : Nat} (h : NB ta q tk v j0 I I1 i j) (hd : (fmS v).drop i = (lo, hi, 99) :: (fmS v).drop (i + 1)) (hx : I1 (ta + 4) (4 * q + 1 + i) = nI (tk j).2.1) (e : I3 (ta + 4) = I1 (ta + 4)) : ND ta q (deN tk (fmS v) j0) I I3 := by
  obtain ⟨h1, pre, h2, h3, h4⟩ := h
  have hp : deN tk (fmS v) j0 = pre ++ [(tk j).2.1] := by
    rw [h3, hd, deN]
  rw [hp]
  refine ⟨fun z hz => by rw [e]; exact h1 z hz, fun x hx' => ?_⟩
  rw [e]
  rcases Nat.lt_or_ge x i with c | c
  · rw [getD_app (by omega)]
    exact h4 x c
  · have ex : x = i := by
      simp at hx'
      omega
    rw [ex, hx]
    congr 1
    rw [← h2]
    exact getD_last.symm
section DEED
variable {l : Launch} {ru_ ta : Nat} {rs : List XO} {tk : Nat → TK} {N : Nat}
abbrev der (l : Launch) (ru_ ta : Nat) (rs : List XO) (J : XJ) (Rp : XR) (n S pc : Nat) (lc : List (Option Value)) (I : XI) : Prop := xrun xxX5 (some .boolean) false false (shH ru_ ta rs).length 0 0 none l n tX5_deed [2] Rp S pc lc [] (shH ru_ ta rs) I J 0 0
set_option maxRecDepth 100000 in
set_option maxHeartbeats 2000000 in
theorem rd_deed_loop (ht : TSP ta) (hk : TKN tk N) {n : Nat} (hn : 2 ≤ n) (v j0 c : Nat) (hv : 5 ≤ v ∧ v ≤ 13) (I : XI) (J : XJ) (Rp : XR) (hev : EV I tk N) (q : Nat) (hq24 : q < 24) (e5 : I ta 5 = nI (q + 1)) (hS : ∀ (I' : XI) (j' : Nat), FD ta I I' → (I' 35 7 = I 35 7 ∧ I' 35 8 = I 35 8) → ATt ta I' j' c → j' < N → j0 ≤ j' → deS tk (fmS v) j0 = .inl j' → ND ta q (deN tk (fmS v) j0) I I' → Rp (some (.int 1)) (shH ru_ ta rs) I' J) (hF : ∀ (I' : XI) (f p : Nat), FD ta I I' → I' 35 7 = nI f → I' 35 8 = nI p → 1 ≤ f → deS tk (fmS v) j0 = .inr (f, p) → Rp (some (.int 0)) (shH ru_ ta rs) I' J) : ∀ (m i j S : Nat) (I' : XI) (o3 : Option Value), i + m = 3 → i < (fmS v).length → m < S → FD ta I I' → (I' 35 7 = I 35 7 ∧ I' 35 8 = I 35 8) → ATt ta I' j c → j < N → j0 ≤ j → deS tk (fmS v) j0 = deS tk ((fmS v).drop i) j → NB ta q tk v j0 I I' i j → der l ru_ ta rs J Rp n S 2 [some (.ref 35), some (.int (nI v)), some (.int (nI i)), o3] I' := by
  have hN := hk.2.1
  intro m
  induction m with
  | zero =>
    intro i j S I' o3 hi hl
    have y := List.all_eq_true.mp deT_len (v - 5) (List.mem_range.mpr (by omega))
    rw [show v - 5 + 5 = v by omega, Bool.and_eq_true] at y
    have := Nat.le_of_ble_eq_true y.2
    omega
  | succ m ih =>
    intro i j S I' o3 hi hl hS' f e78 at1 hj hjj hq nb
    obtain ⟨S, rfl⟩ : ∃ n', S = n' + 1 := ⟨S - 1, by omega⟩
    obtain ⟨qq, hqi⟩ : ∃ qq, (fmS v)[i]? = some qq := ⟨(fmS v)[i], by simp [hl]⟩
    obtain ⟨lo, hi_, w⟩ := qq
    have y := List.all_eq_true.mp (List.all_eq_true.mp deT_all (v - 5) (List.mem_range.mpr (by omega))) i (List.mem_range.mpr (by omega))
    rw [show v - 5 + 5 = v by omega] at y
    unfold deT at y
    rw [hqi] at y
    dsimp only at y
    rw [Bool.and_eq_true, Bool.and_eq_true, Bool.and_eq_true, Bool.and_eq_true, Bool.and_eq_true] at y
    obtain ⟨⟨⟨⟨⟨y1, y2⟩, y3⟩, y4⟩, y5⟩, y6⟩ := y
    have y1 := of_decide_eq_true y1
    have y2 := of_decide_eq_true y2
    have y4 := of_decide_eq_true y4
    have y5 := Nat.le_of_ble_eq_true y5
    have y6 := Nat.le_of_ble_eq_true y6
    rw [y4] at hq
    have ef : (nI v - nI 5) * nI 9 + nI i * nI 3 = nI (9 * (v - 5) + 3 * i) := by
      rw [nI_subI hv.1 (by omega), nI_mul, nI_mul, nI_add]
      congr 1
      omega
    have q0 : ¬ (nI v - nI 5) * nI 9 + nI i * nI 3 < 0 := by rw [ef]; exact nI_pos (by omega)
    have q1 : (nI v - nI 5) * nI 9 + nI i * nI 3 + nI 2 < nI 81 := by rw [ef, nI_add]; exact nI_lt (by omega) (by omega)
    have p0 : vp_in ((nI v - nI 5) * nI 9 + nI i * nI 3) 81 := by rw [ef]; exact vp_in_nI (by omega) (by omega)
    have p1 : vp_in ((nI v - nI 5) * nI 9 + nI i * nI 3 + nI 1) 81 := by rw [ef, nI_add]; exact vp_in_nI (by omega) (by omega)
    have p2 : vp_in ((nI v - nI 5) * nI 9 + nI i * nI 3 + nI 2) 81 := by rw [ef, nI_add]; exact vp_in_nI (by omega) (by omega)
    have z0 : FL.getD ((nI v - nI 5) * nI 9 + nI i * nI 3).toNatClampNeg 0 = nI lo := by rw [ef, nI_clamp (by omega)]; exact y1
    have z1 : FL.getD ((nI v - nI 5) * nI 9 + nI i * nI 3 + nI 1).toNatClampNeg 0 = nI hi_ := by rw [ef, nI_add, nI_clamp (by omega)]; exact y2
    have z2 : FL.getD ((nI v - nI 5) * nI 9 + nI i * nI 3 + nI 2).toNatClampNeg 0 = FL.getD (9 * (v - 5) + 3 * i + 2) 0 := by rw [ef, nI_add, nI_clamp (by omega)]
    -- behind setNumber
    have main : ∀ (I1 : XI), I1 = uI I' (ta + 4) (4 * q + 1 + i) (I' 35 5) → FD ta I I1 ∧ (I1 35 7 = I 35 7 ∧ I1 35 8 = I 35 8) ∧ ATt ta I1 j c ∧ EV I1 tk N ∧ (NB ta q tk v j0 I I1 i j ∧ ((tk j).1 = 2 → I1 (ta + 4) (4 * q + 1 + i) = nI (tk j).2.1)) := fun I1 hI1 => by
      have ht2 := ht
      unfold TSP at ht2
      have h1 : ∀ p, p ≠ ta + 4 → I1 p = I' p := fun p hp => by rw [hI1, uI_ne hp]
      have e35 : I1 35 = I' 35 := h1 35 (by omega)
      have f1 : FD ta I I1 := f.tr ⟨fun p _ b => h1 p b, by rw [e35]⟩
      have nb1 := nb.set hI1
      refine ⟨f1, by rw [e35]; exact e78, ?_, f1.ev ht hev, nb1.1, fun g => by rw [nb1.2]; exact tkC_val (at1.tk (f.ev ht hev) hj) (hk.2.2.2.2 j) g⟩
      unfold ATt
      rw [e35, h1 32 (by omega), h1 33 (by omega), h1 ta (by omega)]
      exact at1
    have e5' : I' ta 5 = nI (q + 1) := by
      have ht2 := ht
      unfold TSP at ht2
      rw [f.1 ta (by omega) (by omega)]
      exact e5
    refine xrun_step fun Kk hKk => ?_
    refine And.intro (fun h => absurd (show nI 3 ≤ nI i from h) (nI_ge (by omega) (by omega))) (fun _ => ?_)
    refine And.intro (fun h => absurd h q0) (fun _ => ?_)
    refine And.intro (fun _ => ?_) (fun h => absurd q1 h)
    have num : ∀ (I1 : XI) (Rq : XR), FD ta I I1 → (I1 35 7 = I 35 7 ∧ I1 35 8 = I 35 8) → ATt ta I1 j c → EV I1 tk N → ((tk j).1 = 2 → lo ≤ (tk j).2.1 ∧ (tk j).2.1 ≤ hi_ → j + 1 < N → FD ta I (avI I1 (j + 1)) → ATt ta (avI I1 (j + 1)) (j + 1) c → Rq (some (.int 1)) (shH ru_ ta rs) (avI I1 (j + 1)) J) → (∀ f', 1 ≤ f' → deS tk (fmS v) j0 = .inr (ft tk f' j) → Rq (some (.int 0)) (shH ru_ ta rs) (FI I1 f' j) J) → xm l n 0 0 mX5_number [.ref 35, .int (nI lo), .int (nI hi_)] (shH ru_ ta rs) I1 J Rq := fun I1 Rq f1 _ at2 ev1 hA hB => by
      have tkj := at2.tk ev1 hj
      have okj := hk.2.2.2.2 j
      have hnum := tkC_num tkj okj
      have nx : I1 35 4 = 2 → j + 1 < N := fun g => hk.nx hj (by rw [hnum.mp g]; decide)
      refine rd_number l ru_ ta rs I1 J _ n hn (nI lo) (nI hi_) j N hN hj at2.1 ev1.1 nx (fun g1 g2 g3 => ?_) (fun g1 g2 => ?_) (fun g => ?_)
      · have qv := tkC_val tkj okj (hnum.mp g1)
        have hv' := okj.2.2.1 (hnum.mp g1)
        rw [qv] at g2 g3
        rw [nI_ltI (by omega) (by omega)] at g2
        rw [nI_leI (by omega) (by omega)] at g3
        exact hA (hnum.mp g1) ⟨by omega, g3⟩ (nx g1) (f1.tr FD.av) (avI_at ht at2.2.2.2)
      · have qv := tkC_val tkj okj (hnum.mp g1)
        have hv' := okj.2.2.1 (hnum.mp g1)
        refine hB 2 (by decide) (hq.trans (de_out (hnum.mp g1) (fun z => ?_)))
        rw [qv] at g2
        rw [nI_ltI (by omega) (by omega), nI_leI (by omega) (by omega)] at g2
        omega
      · exact hB 1 (by decide) (hq.trans (de_no (fun z => g (hnum.mpr z))))
    have k0 : ∀ (I1 : XI), ATt ta I1 j c → EV I1 tk N → FD ta I I1 → ∀ f', 1 ≤ f' → deS tk (fmS v) j0 = .inr (ft tk f' j) → ((0 : Int32) = 0 ∨ (0 : Int32) = 1) ∧ Rp (some (.int 0)) (shH ru_ ta rs) (FI I1 f' j) J := fun I1 _ ev1 f1 f' h1 h2 => ⟨Or.inl rfl, hF _ f' _ (f1.tr FD.fi) rfl (ev1.2 j hj).2 h1 h2⟩
    cases hw99 : Nat.beq w 99 with
    | true =>
      have ew : w = 99 := Nat.eq_of_beq_eq_true hw99
      subst ew
      rw [hw99] at y3
      have y3 : FL.getD (9 * (v - 5) + 3 * i + 2) 0 = 0 := of_decide_eq_true y3
      rw [y3] at z2
      have fin : ∀ (I1 : XI), NB ta q tk v j0 I I1 i j → ((tk j).1 = 2 → I1 (ta + 4) (4 * q + 1 + i) = nI (tk j).2.1) → FD ta I I1 → (I1 35 7 = I 35 7 ∧ I1 35 8 = I 35 8) → (tk j).1 = 2 → lo ≤ (tk j).2.1 ∧ (tk j).2.1 ≤ hi_ → j + 1 < N → FD ta I (avI I1 (j + 1)) → ATt ta (avI I1 (j + 1)) (j + 1) c → ((1 : Int32) = 0 ∨ (1 : Int32) = 1) ∧ Rp (some (.int 1)) (shH ru_ ta rs) (avI I1 (j + 1)) J := fun I1 nb1 hx1 _ e1 g1 g2 g3 g4 g5 => ⟨Or.inr rfl, hS _ (j + 1) g4 e1 g5 g3 (by omega) (hq.trans (de_last g1 g2)) (nb1.last y4 (hx1 g1) (avI_r4 ht))⟩
      obtain rfl | rfl | rfl | rfl | rfl := id ht
      all_goals
        refine rd_setNumber l ru_ _ rs I' J _ ht n (by omega) q i hq24 (by omega) e5' _ (fun I1 h1 => ?_)
        obtain ⟨f1, e1, at2, ev1, nb1, hx1⟩ := main I1 h1
        refine And.intro p0 (And.intro p1 ?_)
        refine (show xm l n 0 0 mX5_number [.ref 35, .int (FL.getD ((nI v - nI 5) * nI 9 + nI i * nI 3).toNatClampNeg 0), .int (FL.getD ((nI v - nI 5) * nI 9 + nI i * nI 3 + nI 1).toNatClampNeg 0)] _ I1 J _ from ?_)
        rw [z0, z1]
        refine num I1 _ f1 e1 at2 ev1 (fun g1 g2 g3 g4 g5 => ?_) (fun f' g1 g2 => ?_)
        · refine And.intro (fun _ => And.intro p2 ?_) (fun h => absurd h (by decide))
          exact And.intro (fun h => absurd z2 h) (fun _ => fin I1 nb1 hx1 f1 e1 g1 g2 g3 g4 g5)
        · exact And.intro (fun h => absurd rfl h) (fun _ => k0 I1 at2 ev1 f1 f' g1 g2)
    | false =>
      have ew : w ≠ 99 := fun z => by
        rw [z] at hw99
        cases hw99
      rw [hw99] at y3
      dsimp only at y3
      rw [Bool.and_eq_true, Bool.and_eq_true, Bool.and_eq_true] at y3
      obtain ⟨⟨⟨u1, u2⟩, u3⟩, u4⟩ := y3
      have u1 := of_decide_eq_true u1
      have u2 : 0 < cw w := Nat.blt_eq.mp u2
      have u3 : w < 32 := Nat.blt_eq.mp u3
      have u4 : i + 1 < (fmS v).length := Nat.blt_eq.mp u4
      have hcw := cw_lt (k := w)
      rw [u1] at z2
      have wrd : ∀ (I1 : XI) (Rq : XR), FD ta I (avI I1 (j + 1)) → ATt ta (avI I1 (j + 1)) (j + 1) c → j + 1 < N → (tk j).1 = 2 → lo ≤ (tk j).2.1 ∧ (tk j).2.1 ≤ hi_ → (I1 35 7 = I 35 7 ∧ I1 35 8 = I 35 8) → (∀ I3, FD ta I I3 → (I3 35 7 = I 35 7 ∧ I3 35 8 = I 35 8) → ATt ta I3 (j + 2) c → j + 2 < N → deS tk (fmS v) j0 = deS tk ((fmS v).drop (i + 1)) (j + 2) → I3 (ta + 4) = I1 (ta + 4) → Rq (some (.int 1)) (shH ru_ ta rs) I3 J) → (∀ I3, FD ta I I3 → I3 35 7 = nI 1 → I3 35 8 = nI (tk (j + 1)).2.2.1 → deS tk (fmS v) j0 = .inr (ft tk 1 (j + 1)) → Rq (some (.int 0)) (shH ru_ ta rs) I3 J) → xm l n 0 0 mX5_word [.ref 35, .int (nI (cw w))] (shH ru_ ta rs) (avI I1 (j + 1)) J Rq := fun I1 Rq f2 at3 hlt g1 g2 e1 hA hB => by
        have ev3 := f2.ev ht hev
        have tk3 := at3.tk ev3 hlt
        have hwd := tkC_wd tk3 (hk.2.2.2.2 (j + 1)) u3
        have nx : isWd (tk (j + 1)) w = true → j + 2 < N := fun z => hk.nx hlt (by rw [(wd_1 z).1]; decide)
        refine rd_word l ru_ ta rs (avI I1 (j + 1)) J _ n hn (nI (cw w)) (j + 1) N hN hlt at3.1 ev3.1 (fun g => nx (hwd.mp g)) (fun g => ?_) (fun g => ?_)
        · exact hA _ (f2.tr FD.av) e1 (avI_at ht at3.2.2.2) (nx (hwd.mp g)) (hq.trans (de_word g1 g2 ew (hwd.mp g))) ((avI_r4 ht).trans (avI_r4 ht))
        · exact hB _ (f2.tr FD.fi) rfl (ev3.2 (j + 1) hlt).2 (hq.trans (de_odd g1 g2 ew (bF Iff.rfl (fun z => g (hwd.mpr z)))))
      have nx : ∀ (I3 : XI), FD ta I I3 → (I3 35 7 = I 35 7 ∧ I3 35 8 = I 35 8) → ATt ta I3 (j + 2) c → j + 2 < N → deS tk (fmS v) j0 = deS tk ((fmS v).drop (i + 1)) (j + 2) → NB ta q tk v j0 I I3 (i + 1) (j + 2) → Kk 2 [some (.ref 35), some (.int (nI v)), some (.int (nI i + 1)), some (.int ((nI v - nI 5) * nI 9 + nI i * nI 3))] [] (shH ru_ ta rs) I3 J 0 0 := fun I3 q1 q2 q3 q4 q5 q6 => by
        refine hKk 2 [some (.ref 35), some (.int (nI v)), some (.int (nI i + 1)), some (.int ((nI v - nI 5) * nI 9 + nI i * nI 3))] [] (shH ru_ ta rs) I3 J 0 0 ?_
        rw [nI_1]
        exact ih (i + 1) (j + 2) S I3 _ (by omega) u4 (by omega) q1 q2 q3 q4 (by omega) q5 q6
      have no : ∀ (I3 : XI), FD ta I I3 → I3 35 7 = nI 1 → I3 35 8 = nI (tk (j + 1)).2.2.1 → deS tk (fmS v) j0 = .inr (ft tk 1 (j + 1)) → ((0 : Int32) = 0 ∨ (0 : Int32) = 1) ∧ Rp (some (.int 0)) (shH ru_ ta rs) I3 J := fun I3 q1 q2 q3 q4 => ⟨Or.inl rfl, hF I3 1 _ q1 q2 q3 (by decide) q4⟩
      have nz : ¬ FL.getD ((nI v - nI 5) * nI 9 + nI i * nI 3 + nI 2).toNatClampNeg 0 = 0 := by
        rw [z2]
        exact nI_ne0 u2 (by omega)
      obtain rfl | rfl | rfl | rfl | rfl := id ht
      all_goals
        refine rd_setNumber l ru_ _ rs I' J _ ht n (by omega) q i hq24 (by omega) e5' _ (fun I1 h1 => ?_)
        obtain ⟨f1, e1, at2, ev1, nb1, hx1⟩ := main I1 h1
        refine And.intro p0 (And.intro p1 ?_)
        refine (show xm l n 0 0 mX5_number [.ref 35, .int (FL.getD ((nI v - nI 5) * nI 9 + nI i * nI 3).toNatClampNeg 0), .int (FL.getD ((nI v - nI 5) * nI 9 + nI i * nI 3 + nI 1).toNatClampNeg 0)] _ I1 J _ from ?_)
        rw [z0, z1]
        refine num I1 _ f1 e1 at2 ev1 (fun g1 g2 g3 g4 g5 => ?_) (fun f' g1 g2 => ?_)
        · refine And.intro (fun _ => And.intro p2 ?_) (fun h => absurd h (by decide))
          refine And.intro (fun _ => And.intro p2 ?_) (fun h => absurd h nz)
          refine (show xm l n 0 0 mX5_word [.ref 35, .int (FL.getD ((nI v - nI 5) * nI 9 + nI i * nI 3 + nI 2).toNatClampNeg 0)] _ (avI I1 (j + 1)) J _ from ?_)
          rw [z2]
          refine wrd I1 _ g4 g5 g3 g1 g2 e1 (fun I3 q1 q2 q3 q4 q5 q6 => ?_) (fun I3 q1 q2 q3 q4 => ?_)
          · exact And.intro (fun _ => nx I3 q1 q2 q3 q4 q5 (nb1.next (I' := I') y4 ew (hx1 g1) q6)) (fun h => absurd h (by decide))
          · exact And.intro (fun h => absurd rfl h) (fun _ => no I3 q1 q2 q3 q4)
        · exact And.intro (fun h => absurd rfl h) (fun _ => k0 I1 at2 ev1 f1 f' g1 g2)
set_option maxRecDepth 100000 in
theorem rd_deed (ht : TSP ta) (hk : TKN tk N) {n : Nat} (hn : 2 ≤ n) (v j0 c : Nat) (hv : 5 ≤ v ∧ v ≤ 13) (I : XI) (J : XJ) (Rp : XR) (hev : EV I tk N) (hat : ATt ta I j0 c) (hj : j0 < N) (q : Nat) (hq24 : q < 24) (e5 : I ta 5 = nI (q + 1)) (hS : ∀ (I' : XI) (j' : Nat), FD ta I I' → (I' 35 7 = I 35 7 ∧ I' 35 8 = I 35 8) → ATt ta I' j' c → j' < N → j0 ≤ j' → deS tk (fmS v) j0 = .inl j' → ND ta q (deN tk (fmS v) j0) I I' → Rp (some (.int 1)) (shH ru_ ta rs) I' J) (hF : ∀ (I' : XI) (f p : Nat), FD ta I I' → I' 35 7 = nI f → I' 35 8 = nI p → 1 ≤ f → deS tk (fmS v) j0 = .inr (f, p) → Rp (some (.int 0)) (shH ru_ ta rs) I' J) : xm l (n + 1) 0 0 mX5_deed [.ref 35, .int (nI v)] (shH ru_ ta rs) I J Rp := by
  have y := List.all_eq_true.mp deT_len (v - 5) (List.mem_range.mpr (by omega))
  rw [show v - 5 + 5 = v by omega, Bool.and_eq_true] at y
  refine xm_ofK 5 (X := xxX5) (t := tX5_deed) (stop := [2]) (ini := false) xx5 pl5 rfl kX5_deed (fun h => by cases h) (Nat.le_of_ble_eq_true rfl) (fun Kk hKk => ?_)
  exact hKk 2 [some (.ref 35), some (.int (nI v)), some (.int (nI 0)), none] [] (shH ru_ ta rs) I J 0 0 (rd_deed_loop ht hk hn v j0 c hv I J Rp hev q hq24 e5 hS hF 3 0 j0 5 I none (by omega) (Nat.blt_eq.mp y.1) (by omega) ⟨fun _ _ _ => rfl, rfl⟩ ⟨rfl, rfl⟩ hat hj (Nat.le_refl _) rfl ⟨fun _ _ => rfl, [], rfl, rfl, fun x hx => absurd hx (Nat.not_lt_zero x)⟩)
end DEED
