set_option maxRecDepth 100000 in
set_option maxHeartbeats 1000000 in
theorem pkB_loop (l : Launch) (d N : Nat) (i : Int32) (h1 : 1 ≤ N) (h2 : N ≤ 4095) (hpc : pcN 12 N ≤ 6) (hi5 : inI (-1, 5) i.toInt) (ru ta : Nat) (rs : List XO) (I0 : XI) (Rp : XR) (hq0 : QQ I0) (hs : shO CF (shH ru ta rs)) (hO : outO QQ CF [96, 97, 98] false (shH ru ta rs) I0 ck_X12_packed_0.2.2.2.2.1 [.ref 67, .int (nI N), .int i] Rp) (ha : agO ck_X12_packed_0.2.1 [.ref 67, .int (nI N), .int i]) : ∀ (m b n : Nat) (w : Int32) (I : XI) (J : XJ), b + m = 12 → 32212254721 + m < n → ivO CF [] I → frO [96, 97, 98] I0 I → (I 68 2 = 0 → 1 ≤ pcN b N → w = 0) → xrun xxX12 (some .int) false false (shH ru ta rs).length 0 0 none l (d + 19) tX12_packed pk_st Rp n 44 (pkL N i w b) [] (shH ru ta rs) I J 0 0 := by
  have hQ : ∀ I', frO [96, 97, 98] I0 I' → QQ I' := fun I' hf => qq_ok I0 I' (fun p hp => hf p (qp3 p hp)) hq0
  intro m
  induction m with
  | zero =>
    intro b n w I J hb hn hiv hfr hw
    obtain ⟨n, rfl⟩ : ∃ n', n = n' + 1 := ⟨n - 1, by omega⟩
    have e : b = 12 := by omega
    subst e
    refine xrun_step fun K hK => ?_
    exact And.intro (fun _ => hK 99 (pkL N i w 12) [] (shH ru ta rs) I J 0 0 (pk99 l d N i w h1 h2 hpc hi5 ru ta rs I0 I J Rp hq0 hs hO ha hiv hfr (fun z => hw z (pcN_pos h1 h2)) n (by omega))) (fun h => absurd (show (12 : Int32) ≤ nI 12 by decide) h)
  | succ m ih =>
    intro b n w I J hb hn hiv hfr hw
    obtain ⟨n, rfl⟩ : ∃ n', n = n' + 1 := ⟨n - 1, by omega⟩
    have hmono := pcN_mono N m (b + 1)
    rw [show b + 1 + m = 12 by omega] at hmono
    have hstep := pcN_step b N
    refine xrun_step fun K hK => ?_
    refine And.intro (fun h => absurd h (nI_ge (a := b) (b := 12) (by omega) (by omega))) (fun _ => ?_)
    refine m_has_x l (d + 18) _ _ _ _ _ _ (fun h => ?_) (fun h => ?_)
    · rw [bit_nat N b (by omega) (by omega)] at h
      have hb1 : N / 2 ^ b % 2 = 1 := by
        rcases bit_two N b with z | z
        · rw [z] at h
          exact absurd h (by decide)
        · exact z
      rw [hb1] at hstep
      have e3 : nI (pcN b N) + 1 = nI (pcN (b + 1) N) := by rw [nI_1, hstep]
      refine And.intro (fun h => absurd h (by decide)) (fun _ => ?_)
      refine ct_X12_isBale_0 l (d + 17) (shH ru ta rs) I J [.ref 67, .int (nI b)] _ ⟨by decide, ⟨inI_fr _, trivial⟩⟩ (fun e he => by cases he) hs hiv (hQ I hfr) ?_
      intro v sh' I' J' g1 g2 g3 gQ g4 g5
      have e1 := g2 rfl
      subst e1
      have e2 : I' = I := funext fun p => g4 p rfl
      subst e2
      obtain ⟨P, hP, hp⟩ := g5
      have hr : v = some (.int 1) ∨ v = some (.int 0) := by
        rcases List.mem_cons.mp hP with rfl | hP
        · obtain ⟨x, rfl, hx⟩ : ∃ x, v = some (.int x) ∧ inI (1, 1) x.toInt := hp.2.1
          have hx1 := hx.1
          have hx2 := hx.2
          exact Or.inl (by rw [show x = 1 from Int32.toInt_inj.mp (by rw [show (1 : Int32).toInt = 1 by decide]; exact Int.le_antisymm hx2 hx1)])
        · rcases List.mem_cons.mp hP with rfl | hP
          · obtain ⟨x, rfl, hx⟩ : ∃ x, v = some (.int x) ∧ inI (0, 0) x.toInt := hp.2.1
            have hx1 := hx.1
            have hx2 := hx.2
            exact Or.inr (by rw [show x = 0 from Int32.toInt_inj.mp (by rw [show (0 : Int32).toInt = 0 by decide]; exact Int.le_antisymm hx2 hx1)])
          · cases hP
      rcases hr with rfl | rfl
      · refine And.intro (fun _ => ?_) (fun h => absurd h (by decide))
        refine And.intro (vp_in_nI (N := 6) (by omega) (by omega)) ?_
        refine And.intro (vp_in_nI (N := 2200) (n := 2) (by omega) (by omega)) ?_
        refine hK 44 [some (.ref 67), some (.int (nI N)), some (.int i), some (.int (nI (pcN b N) + 1)), some (.int (w * uI I' 96 (nI (pcN b N)).toNatClampNeg (nI b) 68 2)), some (.int (nI b + 1)), none, none, none, none] [] (shH ru ta rs) (uI I' 96 (nI (pcN b N)).toNatClampNeg (nI b)) J' 0 0 ?_
        rw [e3, nI_1]
        have hbI : inI (0, 11) (nI b).toInt := by
          rw [nI_toInt (by omega)]
          exact ⟨by show (0 : Int) ≤ (b : Int); omega, by show (b : Int) ≤ 11; omega⟩
        refine ih (b + 1) n _ _ J' (by omega) (by omega) (iv_96 hiv hbI) (fun p hp => ?_) (fun hz _ => ?_)
        · rw [uI_ne (fun e => by subst e; cases hp)]
          exact hfr p hp
        · rw [hz]
          exact Int32.mul_zero
      · refine And.intro (fun h => absurd rfl h) (fun _ => ?_)
        exact hO _ _ I' J' hs (fun _ => rfl) hiv (hQ I' hfr) hfr ⟨_, List.mem_cons_self, one_post ha ⟨-1, rfl, inI_fr _⟩⟩
    · rw [bit_nat N b (by omega) (by omega)] at h
      have hb0 : N / 2 ^ b % 2 = 0 := by
        rcases bit_two N b with z | z
        · exact z
        · rw [z] at h
          exact absurd rfl h
      rw [hb0] at hstep
      refine And.intro (fun _ => ?_) (fun h => absurd rfl h)
      refine hK 44 [some (.ref 67), some (.int (nI N)), some (.int i), some (.int (nI (pcN b N))), some (.int w), some (.int (nI b + 1)), none, none, none, none] [] (shH ru ta rs) I J 0 0 ?_
      rw [nI_1, show pcN b N = pcN (b + 1) N by omega]
      exact ih (b + 1) n w I J (by omega) (by omega) hiv hfr (fun z y => hw z (by omega))
