-- ===== the reference reads a text: a clause =====
set_option maxRecDepth 100000 in
theorem tx_told_loop (l : Launch) (d c : Nat) (hc : c ≤ 24) (x : Int32) (ru ta : Nat) (rs : List XO) (I : XI) (J : XJ) (Rp : XR) (e30 : I 67 30 = nI c) (hR : ∀ r : Int32, Rp (some (.int r)) (shH ru ta rs) I J) : ∀ (m k n : Nat) (r : Int32), k + m = c → m < n → (r = 0 ∨ r = 1) → xrun xxX12 (some .boolean) false false (shH ru ta rs).length 0 0 none l d tX12_wasTold [4] Rp n 4 [some (.ref 67), some (.int x), some (.int r), some (.int (nI k))] [] (shH ru ta rs) I J 0 0 := by
  intro m
  induction m with
  | zero =>
    intro k n r hk hn hr
    obtain ⟨n, rfl⟩ : ∃ n', n = n' + 1 := ⟨n - 1, by omega⟩
    refine xrun_step fun K hK => ?_
    refine And.intro (fun _ => And.intro hr (hR r)) (fun h => absurd ?_ h)
    show I 67 30 ≤ nI k
    rw [e30, show k = c by omega]
    exact Int32.le_refl _
  | succ m ih =>
    intro k n r hk hn hr
    obtain ⟨n, rfl⟩ : ∃ n', n = n' + 1 := ⟨n - 1, by omega⟩
    have go : ∀ r' : Int32, (r' = 0 ∨ r' = 1) → xrun xxX12 (some .boolean) false false (shH ru ta rs).length 0 0 none l d tX12_wasTold [4] Rp n 4 [some (.ref 67), some (.int x), some (.int r'), some (.int (nI k + 1))] [] (shH ru ta rs) I J 0 0 := by
      intro r' hr'
      rw [nI_1]
      exact ih (k + 1) n r' (by omega) (by omega) hr'
    have vk : vp_in (nI k) 24 := vp_in_nI (by omega) (by omega)
    refine xrun_step fun K hK => ?_
    refine And.intro (fun h => absurd h ?_) (fun _ => ?_)
    · show ¬ I 67 30 ≤ nI k
      rw [e30]
      exact nI_ge (by omega) (by omega)
    · refine And.intro (fun _ => ?_) (fun _ => And.intro vk ?_)
      · exact hK 4 [some (.ref 67), some (.int x), some (.int 1), some (.int (nI k + 1))] [] (shH ru ta rs) I J 0 0 (go 1 (Or.inr rfl))
      · refine And.intro (fun _ => ?_) (fun _ => ?_)
        · exact hK 4 [some (.ref 67), some (.int x), some (.int 0), some (.int (nI k + 1))] [] (shH ru ta rs) I J 0 0 (go 0 (Or.inl rfl))
        · exact hK 4 [some (.ref 67), some (.int x), some (.int 1), some (.int (nI k + 1))] [] (shH ru ta rs) I J 0 0 (go 1 (Or.inr rfl))
set_option maxRecDepth 100000 in
theorem tx_wasTold (l : Launch) (d c : Nat) (hc : c ≤ 24) (x : Int32) (ru ta : Nat) (rs : List XO) (I : XI) (J : XJ) (Rp : XR) (e30 : I 67 30 = nI c) (hR : ∀ r : Int32, Rp (some (.int r)) (shH ru ta rs) I J) : xm l (d + 1) 0 0 mX12_wasTold [.ref 67, .int x] (shH ru ta rs) I J Rp := by
  refine xm_ofK 30 (X := xxX12) (t := tX12_wasTold) (stop := [4]) (ini := false) xx12 pl12 rfl kX12_wasTold (fun h => by cases h) (Nat.le_of_ble_eq_true rfl) (fun K hK => ?_)
  exact hK 4 [some (.ref 67), some (.int x), some (.int 0), some (.int (nI 0))] [] (shH ru ta rs) I J 0 0 (tx_told_loop l d c hc x ru ta rs I J Rp e30 hR c 0 30 0 (by omega) (by omega) (Or.inl rfl))
set_option maxRecDepth 100000 in
/-- nothing waits: nothing is worked -/
theorem tx_works0 (l : Launch) (d : Nat) (r : Int32) (ru ta : Nat) (rs : List XO) (I : XI) (J : XJ) (Rp : XR) (e : I 67 25 = nI 0) (hR : Rp none (shH ru ta rs) I J) : xm l (d + 1) 0 0 mX12_works [.ref 67, .int r] (shH ru ta rs) I J Rp := by
  refine xm_of (X := xxX12) (t := tX12_works) (stop := [0]) (ini := false) (n := 1) xx12 pl12 rfl kX12_works (fun h => by cases h) (Nat.le_of_ble_eq_true rfl) ?_
  show xrun xxX12 none false false (shH ru ta rs).length 0 0 none l d tX12_works [0] Rp (0 + 1) 0 [some (.ref 67), some (.int r)] [] (shH ru ta rs) I J 0 0
  refine xrun_step fun K hK => ?_
  refine And.intro (fun _ => hR) (fun h => absurd ?_ h)
  show I 67 25 ≤ 0
  rw [e]
  exact Int32.le_refl _
/-- while a deed is read -/
def DG (I : XI) (T c r0 : Nat) : Prop := ∃ at_ o : Nat, I 67 15 = nI at_ ∧ I 67 25 = nI 0 ∧ I 67 37 = nI o ∧ I 67 21 = nI 0 ∧ (at_ ≤ T ∧ (I 67 17 = 1 → (I 67 18).toInt ≤ 31)) ∧ o + (if I 67 17 = 0 then 0 else 1) + (T - at_) ≤ 310 ∧ DNc (I 89) (I 90) (I 84) (I 85) c o ∧ rm I T < r0 ∧ ¬ (I 84 c).toInt ≤ 4
def DO (I0 I : XI) (T c r0 : Nat) : Prop := TF I0 I ∧ I 67 14 = nI T ∧ (∃ a, I 67 15 = nI a ∧ a ≤ T) ∧ I 67 30 = nI c ∧ (0 < I 67 19 ∨ (I 67 19 = 0 ∧ DG I T c r0))
theorem DO.er {I0 I I' : XI} {T c r0 : Nat} (h : DO I0 I T c r0) (e : ER I I') : DO I0 I' T c r0 := ⟨e.tf h.1, by rw [e.2.2.1 14 (by omega) (by omega)]; exact h.2.1, by rw [e.2.2.1 15 (by omega) (by omega)]; exact h.2.2.1, by rw [e.2.2.1 30 (by omega) (by omega)]; exact h.2.2.2.1, Or.inl (e.2.2.2 (h.2.2.2.2.elim Or.inr (fun z => Or.inl z.1)))⟩
theorem DO.nx {I0 I I' : XI} {T c r0 : Nat} (hT : T ≤ 300) (h : DO I0 I T c r0) (h0 : I 67 17 ≠ 0) (q : NX I I' T) : DO I0 I' T c r0 := by
  have hr := rm_nx hT h0 q
  obtain ⟨tf, e1, ⟨a0, e2, ha⟩, e3, h⟩ := h
  obtain ⟨q1, a, a', h1, h2, h3, h4, h5, h6⟩ := q
  refine ⟨EQT.tf tf q1, by rw [q1.2 14 (by omega)]; exact e1, ⟨a', h2, h4⟩, by rw [q1.2 30 (by omega)]; exact e3, ?_⟩
  rcases h with z | ⟨z, at_, o, d1, d2, d3, d4, d5, d6, d7, d8, d9⟩
  · left
    rw [q1.2 19 (by omega)]
    exact z
  · have ea : at_ = a := nI_small (d1.symm.trans h1) (by omega) (by omega)
    subst ea
    refine Or.inr ⟨by rw [q1.2 19 (by omega)]; exact z, a', o, h2, by rw [q1.2 25 (by omega)]; exact d2, by rw [q1.2 37 (by omega)]; exact d3, by rw [q1.2 21 (by omega)]; exact d4, ⟨h4, h6⟩, ?_, ?_, by omega, by rw [q1.1 84 (by decide)]; exact d9⟩
    · rw [if_neg h0] at d6
      rcases h5 with z | z
      · rw [if_pos z]
        omega
      · split <;> omega
    · rw [q1.1 84 (by decide), q1.1 85 (by decide), q1.1 89 (by decide), q1.1 90 (by decide)]
      exact d7
theorem DO_86 {I0 I : XI} {T c r0 p k : Nat} {v : Int32} (hp : p = 86 ∨ p = 87 ∨ p = 88) (h : DO I0 I T c r0) : DO I0 (uI I p k v) T c r0 := by
  obtain ⟨tf, e1, e2, e3, h⟩ := h
  rcases hp with rfl | rfl | rfl
  · exact ⟨tf.u rfl (fun z => by cases z), e1, e2, e3, h⟩
  · exact ⟨tf.u rfl (fun z => by cases z), e1, e2, e3, h⟩
  · exact ⟨tf.u rfl (fun z => by cases z), e1, e2, e3, h⟩
theorem do_number (l : Launch) (T : Nat) (hT : T ≤ 300) (ru ta : Nat) (rs : List XO) (I0 : XI) (hs : shO CF (shH ru ta rs)) (hi : ivO CF [] I0) (hq : QQ I0) (d c r0 : Nat) (lo hi_ : Int32) (I : XI) (J : XJ) (Rp : XR) (h : DO I0 I T c r0) (hR : ∀ (r : Int32) (I' : XI) (J' : XJ), DO I0 I' T c r0 → Rp (some (.int r)) (shH ru ta rs) I' J') : xm l (d + 5) 0 0 mX12_number [.ref 67, .int lo, .int hi_] (shH ru ta rs) I J Rp := by
  obtain ⟨a, e2, ha⟩ := h.2.2.1
  refine tx_number l T hT ru ta rs hs d lo hi_ I J Rp (iv_TF hi h.1) (qq_TF hq h.1) a h.2.1 e2 ha (fun r I' J' q => hR r I' J' ?_)
  rcases q with q | ⟨q, q2⟩
  · exact h.er q
  · exact h.nx hT (by rw [q2]; decide) q
set_option maxRecDepth 100000 in
theorem do_behind (l : Launch) (T : Nat) (hT : T ≤ 300) (ru ta : Nat) (rs : List XO) (I0 : XI) (hs : shO CF (shH ru ta rs)) (hi : ivO CF [] I0) (hq : QQ I0) (d c r0 : Nat) (s lo hi_ : Int32) (I : XI) (J : XJ) (Rp : XR) (h : DO I0 I T c r0) (hR : ∀ (r : Int32) (I' : XI) (J' : XJ), DO I0 I' T c r0 → Rp (some (.int r)) (shH ru ta rs) I' J') : xm l (d + 6) 0 0 mX12_numberBehind [.ref 67, .int s, .int lo, .int hi_] (shH ru ta rs) I J Rp := by
  have num : ∀ (I2 : XI) (J2 : XJ) (Rq : XR), DO I0 I2 T c r0 → (∀ (r : Int32) (I' : XI) (J' : XJ), DO I0 I' T c r0 → Rq (some (.int r)) (shH ru ta rs) I' J') → xm l (d + 5) 0 0 mX12_number [.ref 67, .int lo, .int hi_] (shH ru ta rs) I2 J2 Rq := fun I2 J2 Rq h2 hq2 => do_number l T hT ru ta rs I0 hs hi hq d c r0 lo hi_ I2 J2 Rq h2 hq2
  refine xm_ofK 0 (X := xxX12) (t := tX12_numberBehind) (stop := []) (ini := false) xx12 pl12 rfl kX12_numberBehind (fun h => by cases h) (Nat.le_of_ble_eq_true rfl) (fun K hK => ?_)
  refine And.intro (fun w => ?_) (fun w => ?_)
  · refine And.intro (fun _ => ?_) (fun z => absurd z w)
    exact num I J _ h (fun r I' J' h' => hR r I' J' h')
  · refine tx_isWord l (d + 4) s ru ta rs I J _ (fun g1 g2 => ?_) (fun _ => ?_)
    · refine And.intro (fun _ => ?_) (fun h => absurd h (by decide))
      refine And.intro (fun z => absurd w z) (fun _ => ?_)
      obtain ⟨a, e2, ha⟩ := h.2.2.1
      refine tx_next l (d + 1) T hT ru ta rs I J _ hs (iv_TF hi h.1) (qq_TF hq h.1) a h.2.1 e2 ha (fun I2 J2 q => ?_)
      exact num I2 J2 _ (h.nx hT (by rw [g1]; decide) q) (fun r I' J' h' => hR r I' J' h')
    · refine And.intro (fun h => absurd rfl h) (fun _ => ?_)
      refine tx_errs l (d + 4) 1 (by decide) ru ta rs I J _ (fun I2 e => ?_)
      refine And.intro (fun _ => ?_) (fun z => absurd z e.1)
      exact num I2 J _ (h.er e) (fun r I' J' h' => hR r I' J' h')
set_option maxRecDepth 100000 in
theorem do_end (l : Launch) (d T c r0 n : Nat) (hc : c < 24) (ru ta : Nat) (rs : List XO) (I0 : XI) (v1 v2 v3 : Int32) (I : XI) (J : XJ) (Rp : XR) (h : DO I0 I T c r0) (hR : ∀ (I' : XI) (J' : XJ), DO I0 I' T c r0 → Rp none (shH ru ta rs) I' J') : xrun xxX12 none false false (shH ru ta rs).length 0 0 none l d tX12_doing [216] Rp (n + 1) 216 [some (.ref 67), some (.int v1), some (.int v2), some (.int v3)] [] (shH ru ta rs) I J 0 0 := by
  have v : vp_in (I 67 30) 24 := by rw [h.2.2.2.1]; exact vp_in_nI hc (by omega)
  refine xrun_step fun K hK => ?_
  refine And.intro v (And.intro v (And.intro v ?_))
  exact hR (uI (uI (uI I 86 (I 67 30).toNatClampNeg v1) 87 (I 67 30).toNatClampNeg v2) 88 (I 67 30).toNatClampNeg v3) J (DO_86 (by omega) (DO_86 (by omega) (DO_86 (by omega) h)))
set_option maxRecDepth 100000 in
set_option maxHeartbeats 2000000 in
theorem st_doing (l : Launch) (T : Nat) (hT : T ≤ 300) (ru ta : Nat) (rs : List XO) (I0 : XI) (hs : shO CF (shH ru ta rs)) (hi : ivO CF [] I0) (hq : QQ I0) (d c r0 : Nat) (hc : c < 24) (I : XI) (J : XJ) (Rp : XR) (h : DO I0 I T c r0) (hR : ∀ (I' : XI) (J' : XJ), DO I0 I' T c r0 → Rp none (shH ru ta rs) I' J') : xm l (d + 7) 0 0 mX12_doing [.ref 67] (shH ru ta rs) I J Rp := by
  have N : ∀ (lo hi_ : Int32) (I2 : XI) (J2 : XJ) (Rq : XR), DO I0 I2 T c r0 → (∀ (r : Int32) (I' : XI) (J' : XJ), DO I0 I' T c r0 → Rq (some (.int r)) (shH ru ta rs) I' J') → xm l (d + 6) 0 0 mX12_number [.ref 67, .int lo, .int hi_] (shH ru ta rs) I2 J2 Rq := fun lo hi_ I2 J2 Rq h2 hq2 => do_number l T hT ru ta rs I0 hs hi hq (d + 1) c r0 lo hi_ I2 J2 Rq h2 hq2
  have B : ∀ (s lo hi_ : Int32) (I2 : XI) (J2 : XJ) (Rq : XR), DO I0 I2 T c r0 → (∀ (r : Int32) (I' : XI) (J' : XJ), DO I0 I' T c r0 → Rq (some (.int r)) (shH ru ta rs) I' J') → xm l (d + 6) 0 0 mX12_numberBehind [.ref 67, .int s, .int lo, .int hi_] (shH ru ta rs) I2 J2 Rq := fun s lo hi_ I2 J2 Rq h2 hq2 => do_behind l T hT ru ta rs I0 hs hi hq d c r0 s lo hi_ I2 J2 Rq h2 hq2
  refine xm_ofK 1 (X := xxX12) (t := tX12_doing) (stop := [216]) (ini := false) xx12 pl12 rfl kX12_doing (fun h => by cases h) (Nat.le_of_ble_eq_true rfl) (fun K hK => ?_)
  have fin : ∀ (v1 v2 v3 : Int32) (I2 : XI) (J2 : XJ), DO I0 I2 T c r0 → K 216 [some (.ref 67), some (.int v1), some (.int v2), some (.int v3)] [] (shH ru ta rs) I2 J2 0 0 := fun v1 v2 v3 I2 J2 h2 => hK 216 [some (.ref 67), some (.int v1), some (.int v2), some (.int v3)] [] (shH ru ta rs) I2 J2 0 0 (do_end l (d + 6) T c r0 0 hc ru ta rs I0 v1 v2 v3 I2 J2 Rp h2 hR)
  refine And.intro (fun _ => ?_) (fun _ => ?_)
  · refine N 1 99 I J _ h (fun r1 I1 J1 h1 => ?_)
    refine B 14 0 5 I1 J1 _ h1 (fun r2 I2 J2 h2 => ?_)
    refine B 15 0 4 I2 J2 _ h2 (fun r3 I3 J3 h3 => ?_)
    exact fin r1 r2 r3 I3 J3 h3
  refine And.intro (fun _ => ?_) (fun _ => ?_)
  · refine N 1 99 I J _ h (fun r1 I1 J1 h1 => ?_)
    exact fin r1 (-1) (-1) I1 J1 h1
  refine And.intro (fun _ => ?_) (fun _ => ?_)
  · refine N 1 999 I J _ h (fun r1 I1 J1 h1 => ?_)
    exact fin r1 (-1) (-1) I1 J1 h1
  refine And.intro (fun _ => ?_) (fun _ => ?_)
  · refine N 0 7 I J _ h (fun r1 I1 J1 h1 => ?_)
    refine B 16 0 3 I1 J1 _ h1 (fun r2 I2 J2 h2 => ?_)
    refine B 17 0 3 I2 J2 _ h2 (fun r3 I3 J3 h3 => ?_)
    exact fin r1 r2 r3 I3 J3 h3
  refine And.intro (fun _ => ?_) (fun _ => ?_)
  · refine N 0 3 I J _ h (fun r1 I1 J1 h1 => ?_)
    refine B 17 0 3 I1 J1 _ h1 (fun r2 I2 J2 h2 => ?_)
    exact fin r1 r2 (-1) I2 J2 h2
  refine And.intro (fun _ => ?_) (fun _ => ?_)
  · refine N 1 999 I J _ h (fun r1 I1 J1 h1 => ?_)
    refine B 18 0 3 I1 J1 _ h1 (fun r2 I2 J2 h2 => ?_)
    exact fin r1 r2 (-1) I2 J2 h2
  refine And.intro (fun _ => ?_) (fun _ => ?_)
  · refine N 0 11 I J _ h (fun r1 I1 J1 h1 => ?_)
    refine B 17 0 3 I1 J1 _ h1 (fun r2 I2 J2 h2 => ?_)
    exact fin r1 r2 (-1) I2 J2 h2
  refine And.intro (fun _ => ?_) (fun _ => ?_)
  · refine N 0 11 I J _ h (fun r1 I1 J1 h1 => ?_)
    exact fin r1 (-1) (-1) I1 J1 h1
  · refine N 1 60 I J _ h (fun r1 I1 J1 h1 => ?_)
    exact fin r1 (-1) (-1) I1 J1 h1
