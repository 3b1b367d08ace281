theorem mul_bit {u a : Nat} (hu : u ≤ 1) (ha : a ≤ 9999) : u * a ≤ 9999 := by
  rcases (show u = 0 ∨ u = 1 by omega) with z | z <;> subst z <;> omega
theorem sh_eq (S A B C D : Nat) (hS : S < 16) (hA : A ≤ 9999) (hB : B ≤ 9999) (hC : C ≤ 9999) (hD : D ≤ 9999) : (0 : Int32) ≤ (((nI S &&& (1 : Int32)) * nI A + ((nI S >>> ((1 : Int32) &&& 31)) &&& (1 : Int32)) * nI B) + ((nI S >>> ((2 : Int32) &&& 31)) &&& (1 : Int32)) * nI C) + ((nI S >>> ((3 : Int32) &&& 31)) &&& (1 : Int32)) * nI D := by
  have e1 := bit_nat S 1 (by omega) (by omega)
  have e2 := bit_nat S 2 (by omega) (by omega)
  have e3 := bit_nat S 3 (by omega) (by omega)
  rw [show nI 1 = 1 from rfl] at e1
  rw [show nI 2 = 2 from rfl] at e2
  rw [show nI 3 = 3 from rfl] at e3
  rw [e1, e2, e3, low_nat S (by omega), nI_mulN, nI_mulN, nI_mulN, nI_mulN, nI_add, nI_add, nI_add]
  have a1 := mul_bit (u := S % 2) (by omega) hA
  have a2 := mul_bit (u := S / 2 ^ 1 % 2) (by omega) hB
  have a3 := mul_bit (u := S / 2 ^ 2 % 2) (by omega) hC
  have a4 := mul_bit (u := S / 2 ^ 3 % 2) (by omega) hD
  exact nI_pos' (by omega)
set_option maxRecDepth 100000 in
set_option maxHeartbeats 4000000 in
theorem c_shadowsOf_0 (l : Launch) (d : Nat) (w : Int32) (ru ta : Nat) (I : XI) (J : XJ) (Rp : XR) (h5 : I 12 5 = 0) (hR : Rp (some (.int 0)) (shG ru ta) I J) : xm l (d + 1) 0 0 mX10_shadowsOf [.ref 26, .int w] (shG ru ta) I J Rp := by
  refine xm_ofK 0 (X := xxX10) (t := tX10_shadowsOf) (stop := []) (ini := false) xx10 pl10 rfl kX10_shadowsOf (fun h => by cases h) (Nat.le_of_ble_eq_true rfl) (fun K hK => ?_)
  refine And.intro (fun _ => hR) (fun h => absurd ?_ h)
  show I 12 5 ≤ 0
  rw [h5]
  decide
set_option maxRecDepth 100000 in
set_option maxHeartbeats 4000000 in
theorem c_lv50 (l : Launch) (d A B C D : Nat) (hA : A ≤ 9999) (hB : B ≤ 9999) (hC : C ≤ 9999) (hD : D ≤ 9999) (ru ta : Nat) (I : XI) (J : XJ) (Rp : XR) (h5 : I 12 5 = 0) (hR : Rp (some (.int (-1))) (shG ru ta) I J) : ∀ (m s : Nat) (o6 : Option Value), s + m = 16 → xrun xxX11 (some .int) false false (shG ru ta).length 0 0 none l (d + 1) tX11_leave [50, 116] Rp (2 * m + 1) 50 [some (.ref 0), some (.int (nI A)), some (.int (nI B)), some (.int (nI C)), some (.int (nI D)), some (.int (nI s)), o6] [] (shG ru ta) I J 0 0 := by
  intro m
  induction m with
  | zero =>
    intro s o6 hs
    have : s = 16 := by omega
    subst this
    refine xrun_step fun K hK => ?_
    exact And.intro (fun _ => hR) (fun h => absurd (show (16 : Int32) ≤ nI 16 by decide) h)
  | succ m ih =>
    intro s o6 hs
    rw [show 2 * (m + 1) + 1 = (2 * m + 1) + 1 + 1 by omega]
    have he := sh_eq s A B C D (by omega) hA hB hC hD
    have h116 : ∀ w : Int32, xrun xxX11 (some .int) false false (shG ru ta).length 0 0 none l (d + 1) tX11_leave [50, 116] Rp (2 * m + 1 + 1) 116 [some (.ref 0), some (.int (nI A)), some (.int (nI B)), some (.int (nI C)), some (.int (nI D)), some (.int (nI s)), some (.int ((((nI s &&& (1 : Int32)) * nI A + ((nI s >>> ((1 : Int32) &&& 31)) &&& (1 : Int32)) * nI B) + ((nI s >>> ((2 : Int32) &&& 31)) &&& (1 : Int32)) * nI C) + ((nI s >>> ((3 : Int32) &&& 31)) &&& (1 : Int32)) * nI D))] [.int w, .ref 26] (shG ru ta) I J 0 0 := by
      intro w
      refine xrun_step fun K hK => ?_
      refine c_shadowsOf_0 l _ _ _ _ _ _ _ h5 ?_
      refine And.intro (fun _ => ?_) (fun h => absurd he h)
      refine hK 50 [some (.ref 0), some (.int (nI A)), some (.int (nI B)), some (.int (nI C)), some (.int (nI D)), some (.int (nI s + 1)), some (.int _)] [] (shG ru ta) I J 0 0 ?_
      rw [nI_1]
      exact ih (s + 1) _ (by omega)
    refine xrun_step fun K hK => ?_
    refine And.intro (fun h => absurd h (nI_ge (a := s) (b := 16) (by omega) (by omega))) (fun _ => ?_)
    refine c_bits l _ _ _ _ _ _ (fun r => ?_)
    exact And.intro (fun _ => hK _ _ _ _ _ _ _ _ (h116 _)) (fun _ => hK _ _ _ _ _ _ _ _ (h116 _))
set_option maxRecDepth 100000 in
set_option maxHeartbeats 4000000 in
theorem c_leave_0 (l : Launch) (d : Nat) (a b c e : Int32) (ru ta : Nat) (I : XI) (J : XJ) (Rp : XR) (h5 : I 12 5 = 0) (hR : Rp (some (.int (-1))) (shG ru ta) I J) : xm l (d + 2) 0 0 mX11_leave [.ref 0, .int a, .int b, .int c, .int e] (shG ru ta) I J Rp := by
  refine xm_ofK 31 (X := xxX11) (t := tX11_leave) (stop := [50, 116]) (ini := false) xx11 pl11 rfl kX11_leave (fun h => by cases h) (Nat.le_of_ble_eq_true rfl) (fun K hK => ?_)
  by_cases ha : (0 : Int32) ≤ a ∧ a ≤ 9999
  · refine c_within_t l _ _ _ _ _ _ _ _ ha.1 ha.2 ?_
    refine And.intro (fun h => absurd h (show ¬ ((1 : Int32) = 0) by decide)) (fun _ => ?_)
    by_cases hb : (0 : Int32) ≤ b ∧ b ≤ 9999
    · refine c_within_t l _ _ _ _ _ _ _ _ hb.1 hb.2 ?_
      refine And.intro (fun h => absurd h (show ¬ ((1 : Int32) = 0) by decide)) (fun _ => ?_)
      by_cases hc : (0 : Int32) ≤ c ∧ c ≤ 9999
      · refine c_within_t l _ _ _ _ _ _ _ _ hc.1 hc.2 ?_
        refine And.intro (fun h => absurd h (show ¬ ((1 : Int32) = 0) by decide)) (fun _ => ?_)
        by_cases he : (0 : Int32) ≤ e ∧ e ≤ 9999
        · refine c_within_t l _ _ _ _ _ _ _ _ he.1 he.2 ?_
          refine And.intro (fun _ => ?_) (fun h => absurd h (show ¬ ((1 : Int32) = 0) by decide))
          obtain ⟨A, _, hA, rfl⟩ := rng_of (m := 0) (n := 9999) (by decide) (by decide) ha.1 ha.2
          obtain ⟨B, _, hB, rfl⟩ := rng_of (m := 0) (n := 9999) (by decide) (by decide) hb.1 hb.2
          obtain ⟨C, _, hC, rfl⟩ := rng_of (m := 0) (n := 9999) (by decide) (by decide) hc.1 hc.2
          obtain ⟨D, _, hD, rfl⟩ := rng_of (m := 0) (n := 9999) (by decide) (by decide) he.1 he.2
          exact hK 50 [some (.ref 0), some (.int (nI A)), some (.int (nI B)), some (.int (nI C)), some (.int (nI D)), some (.int (nI 1)), none] [] _ _ _ _ _ (c_lv50 l d A B C D hA hB hC hD ru ta I J Rp h5 hR 15 1 none (by omega))
        · refine c_within_f l _ _ _ _ _ _ _ _ he ?_
          exact And.intro (fun h => absurd (show (0 : Int32) = 0 from rfl) h) (fun _ => hR)
      · refine c_within_f l _ _ _ _ _ _ _ _ hc ?_
        exact And.intro (fun _ => hR) (fun h => absurd (show (0 : Int32) = 0 from rfl) h)
    · refine c_within_f l _ _ _ _ _ _ _ _ hb ?_
      exact And.intro (fun _ => hR) (fun h => absurd (show (0 : Int32) = 0 from rfl) h)
  · refine c_within_f l _ _ _ _ _ _ _ _ ha ?_
    exact And.intro (fun _ => hR) (fun h => absurd (show (0 : Int32) = 0 from rfl) h)
set_option maxRecDepth 100000 in
set_option maxHeartbeats 4000000 in
theorem m_lv54 (l : Launch) (d A B C D : Nat) (hA : A ≤ 9999) (hB : B ≤ 9999) (hC : C ≤ 9999) (hD : D ≤ 9999) (ru ta : Nat) (I : XI) (J : XJ) (Rp : XR) (h0 : I 68 0 = 0) (hR : Rp (some (.int (-1))) (shG ru ta) I J) : ∀ (m s : Nat) (o6 o7 o8 : Option Value), s + m = 16 → xrun xxX12 (some .int) false false (shG ru ta).length 0 0 none l (d + 1) tX12_leave [54, 153, 167, 182, 198] Rp (5 * m + 1) 54 [some (.ref 67), some (.int (nI A)), some (.int (nI B)), some (.int (nI C)), some (.int (nI D)), some (.int (nI s)), o6, o7, o8] [] (shG ru ta) I J 0 0 := by
  intro m
  induction m with
  | zero =>
    intro s o6 o7 o8 hs
    have : s = 16 := by omega
    subst this
    refine xrun_step fun K hK => ?_
    exact And.intro (fun _ => hR) (fun h => absurd (show (16 : Int32) ≤ nI 16 by decide) h)
  | succ m ih =>
    intro s o6 o7 o8 hs
    rw [show 5 * (m + 1) + 1 = (5 * m + 1) + 1 + 1 + 1 + 1 + 1 by omega]
    have h198 : ∀ x y : Nat, x ≤ 29997 → y ≤ 9999 → xrun xxX12 (some .int) false false (shG ru ta).length 0 0 none l (d + 1) tX12_leave [54, 153, 167, 182, 198] Rp (5 * m + 1 + 1) 198 [some (.ref 67), some (.int (nI A)), some (.int (nI B)), some (.int (nI C)), some (.int (nI D)), some (.int (nI s)), some (.int 0), some (.int 0), o8] [.int (nI y), .int (nI x)] (shG ru ta) I J 0 0 := by
      intro x y hx hy
      refine xrun_step fun K hK => ?_
      refine And.intro (fun _ => ?_) (fun h => absurd ?_ h)
      · refine hK 54 [some (.ref 67), some (.int (nI A)), some (.int (nI B)), some (.int (nI C)), some (.int (nI D)), some (.int (nI s + 1)), some (.int 0), some (.int _), o8] [] (shG ru ta) I J 0 0 ?_
        rw [nI_1]
        exact ih (s + 1) _ _ _ (by omega)
      · show 0 ≤ nI x + nI y
        rw [nI_add]
        exact nI_pos' (by omega)
    have h182 : ∀ x y : Nat, x ≤ 19998 → y ≤ 9999 → xrun xxX12 (some .int) false false (shG ru ta).length 0 0 none l (d + 1) tX12_leave [54, 153, 167, 182, 198] Rp (5 * m + 1 + 1 + 1) 182 [some (.ref 67), some (.int (nI A)), some (.int (nI B)), some (.int (nI C)), some (.int (nI D)), some (.int (nI s)), some (.int 0), some (.int 0), o8] [.int (nI y), .int (nI x)] (shG ru ta) I J 0 0 := by
      intro x y hx hy
      refine xrun_step fun K hK => ?_
      have e : nI x + nI y = nI (x + y) := nI_add x y
      refine m_has_x l _ _ _ _ _ _ _ (fun _ => ?_) (fun _ => ?_)
      · refine And.intro (fun h => absurd h (show ¬ ((1 : Int32) = 0) by decide)) (fun _ => ?_)
        refine hK 198 [some (.ref 67), some (.int (nI A)), some (.int (nI B)), some (.int (nI C)), some (.int (nI D)), some (.int (nI s)), some (.int 0), some (.int 0), o8] [.int (nI D), .int (nI x + nI y)] (shG ru ta) I J 0 0 ?_
        rw [e]
        exact h198 _ _ (by omega) hD
      · refine And.intro (fun _ => ?_) (fun h => absurd (show (0 : Int32) = 0 from rfl) h)
        refine hK 198 [some (.ref 67), some (.int (nI A)), some (.int (nI B)), some (.int (nI C)), some (.int (nI D)), some (.int (nI s)), some (.int 0), some (.int 0), o8] [.int (nI 0), .int (nI x + nI y)] (shG ru ta) I J 0 0 ?_
        rw [e]
        exact h198 _ _ (by omega) (by omega)
    have h167 : ∀ x y : Nat, x ≤ 9999 → y ≤ 9999 → xrun xxX12 (some .int) false false (shG ru ta).length 0 0 none l (d + 1) tX12_leave [54, 153, 167, 182, 198] Rp (5 * m + 1 + 1 + 1 + 1) 167 [some (.ref 67), some (.int (nI A)), some (.int (nI B)), some (.int (nI C)), some (.int (nI D)), some (.int (nI s)), some (.int 0), some (.int 0), o8] [.int (nI y), .int (nI x)] (shG ru ta) I J 0 0 := by
      intro x y hx hy
      refine xrun_step fun K hK => ?_
      have e : nI x + nI y = nI (x + y) := nI_add x y
      refine m_has_x l _ _ _ _ _ _ _ (fun _ => ?_) (fun _ => ?_)
      · refine And.intro (fun h => absurd h (show ¬ ((1 : Int32) = 0) by decide)) (fun _ => ?_)
        refine hK 182 [some (.ref 67), some (.int (nI A)), some (.int (nI B)), some (.int (nI C)), some (.int (nI D)), some (.int (nI s)), some (.int 0), some (.int 0), o8] [.int (nI C), .int (nI x + nI y)] (shG ru ta) I J 0 0 ?_
        rw [e]
        exact h182 _ _ (by omega) hC
      · refine And.intro (fun _ => ?_) (fun h => absurd (show (0 : Int32) = 0 from rfl) h)
        refine hK 182 [some (.ref 67), some (.int (nI A)), some (.int (nI B)), some (.int (nI C)), some (.int (nI D)), some (.int (nI s)), some (.int 0), some (.int 0), o8] [.int (nI 0), .int (nI x + nI y)] (shG ru ta) I J 0 0 ?_
        rw [e]
        exact h182 _ _ (by omega) (by omega)
    have h153 : ∀ x : Nat, x ≤ 9999 → xrun xxX12 (some .int) false false (shG ru ta).length 0 0 none l (d + 1) tX12_leave [54, 153, 167, 182, 198] Rp (5 * m + 1 + 1 + 1 + 1 + 1) 153 [some (.ref 67), some (.int (nI A)), some (.int (nI B)), some (.int (nI C)), some (.int (nI D)), some (.int (nI s)), some (.int 0), some (.int 0), o8] [.int (nI x)] (shG ru ta) I J 0 0 := by
      intro x hx
      refine xrun_step fun K hK => ?_
      refine m_has_x l _ _ _ _ _ _ _ (fun _ => ?_) (fun _ => ?_)
      · refine And.intro (fun h => absurd h (show ¬ ((1 : Int32) = 0) by decide)) (fun _ => ?_)
        exact hK 167 [some (.ref 67), some (.int (nI A)), some (.int (nI B)), some (.int (nI C)), some (.int (nI D)), some (.int (nI s)), some (.int 0), some (.int 0), o8] [.int (nI B), .int (nI x)] (shG ru ta) I J 0 0 (h167 _ _ hx hB)
      · refine And.intro (fun _ => ?_) (fun h => absurd (show (0 : Int32) = 0 from rfl) h)
        exact hK 167 [some (.ref 67), some (.int (nI A)), some (.int (nI B)), some (.int (nI C)), some (.int (nI D)), some (.int (nI s)), some (.int 0), some (.int 0), o8] [.int (nI 0), .int (nI x)] (shG ru ta) I J 0 0 (h167 _ _ hx (by omega))
    refine xrun_step fun K hK => ?_
    refine And.intro (fun h => absurd h (nI_ge (a := s) (b := 16) (by omega) (by omega))) (fun _ => ?_)
    refine And.intro (vp_b (by decide)) ?_
    refine And.intro (fun _ => ?_) (fun h => absurd ?_ h)
    · refine m_has_x l _ _ _ _ _ _ _ (fun _ => ?_) (fun _ => ?_)
      · refine And.intro (fun h => absurd h (show ¬ ((1 : Int32) = 0) by decide)) (fun _ => ?_)
        exact hK 153 [some (.ref 67), some (.int (nI A)), some (.int (nI B)), some (.int (nI C)), some (.int (nI D)), some (.int (nI s)), some (.int 0), some (.int 0), o8] [.int (nI A)] (shG ru ta) I J 0 0 (h153 _ hA)
      · refine And.intro (fun _ => ?_) (fun h => absurd (show (0 : Int32) = 0 from rfl) h)
        exact hK 153 [some (.ref 67), some (.int (nI A)), some (.int (nI B)), some (.int (nI C)), some (.int (nI D)), some (.int (nI s)), some (.int 0), some (.int 0), o8] [.int (nI 0)] (shG ru ta) I J 0 0 (h153 _ (by omega))
    · show I 68 0 ≤ 0
      rw [h0]
      decide
set_option maxRecDepth 100000 in
set_option maxHeartbeats 4000000 in
theorem m_leave_0 (l : Launch) (d : Nat) (a b c e : Int32) (ru ta : Nat) (I : XI) (J : XJ) (Rp : XR) (h0 : I 68 0 = 0) (hR : ∀ I', Rp (some (.int (-1))) (shG ru ta) I' J) : xm l (d + 2) 0 0 mX12_leave [.ref 67, .int a, .int b, .int c, .int e] (shG ru ta) I J Rp := by
  refine xm_ofK 76 (X := xxX12) (t := tX12_leave) (stop := [54, 153, 167, 182, 198]) (ini := false) xx12 pl12 rfl kX12_leave (fun h => by cases h) (Nat.le_of_ble_eq_true rfl) (fun K hK => ?_)
  by_cases ha : (0 : Int32) ≤ a ∧ a ≤ 9999
  · refine m_in_t l _ _ _ _ _ _ _ _ ha.1 ha.2 ?_
    refine And.intro (fun h => absurd h (show ¬ ((1 : Int32) = 0) by decide)) (fun _ => ?_)
    by_cases hb : (0 : Int32) ≤ b ∧ b ≤ 9999
    · refine m_in_t l _ _ _ _ _ _ _ _ hb.1 hb.2 ?_
      refine And.intro (fun h => absurd h (show ¬ ((1 : Int32) = 0) by decide)) (fun _ => ?_)
      by_cases hc : (0 : Int32) ≤ c ∧ c ≤ 9999
      · refine m_in_t l _ _ _ _ _ _ _ _ hc.1 hc.2 ?_
        refine And.intro (fun h => absurd h (show ¬ ((1 : Int32) = 0) by decide)) (fun _ => ?_)
        by_cases he : (0 : Int32) ≤ e ∧ e ≤ 9999
        · refine m_in_t l _ _ _ _ _ _ _ _ he.1 he.2 ?_
          refine And.intro (fun _ => ?_) (fun h => absurd h (show ¬ ((1 : Int32) = 0) by decide))
          obtain ⟨A, _, hA, rfl⟩ := rng_of (m := 0) (n := 9999) (by decide) (by decide) ha.1 ha.2
          obtain ⟨B, _, hB, rfl⟩ := rng_of (m := 0) (n := 9999) (by decide) (by decide) hb.1 hb.2
          obtain ⟨C, _, hC, rfl⟩ := rng_of (m := 0) (n := 9999) (by decide) (by decide) hc.1 hc.2
          obtain ⟨D, _, hD, rfl⟩ := rng_of (m := 0) (n := 9999) (by decide) (by decide) he.1 he.2
          refine m_laysNow_0 l _ _ _ _ _ _ ?_
          have h0c : cI I 68 93 60 0 69 68 0 = 0 := by rw [cI_ne (by decide)]; exact h0
          exact hK 54 [some (.ref 67), some (.int (nI A)), some (.int (nI B)), some (.int (nI C)), some (.int (nI D)), some (.int (nI 1)), none, none, none] [] _ _ _ _ _ (m_lv54 l d A B C D hA hB hC hD ru ta _ J Rp h0c (hR _) 15 1 none none none (by omega))
        · refine m_in_f l _ _ _ _ _ _ _ _ he ?_
          exact And.intro (fun h => absurd (show (0 : Int32) = 0 from rfl) h) (fun _ => hR I)
      · refine m_in_f l _ _ _ _ _ _ _ _ hc ?_
        exact And.intro (fun _ => hR I) (fun h => absurd (show (0 : Int32) = 0 from rfl) h)
    · refine m_in_f l _ _ _ _ _ _ _ _ hb ?_
      exact And.intro (fun _ => hR I) (fun h => absurd (show (0 : Int32) = 0 from rfl) h)
  · refine m_in_f l _ _ _ _ _ _ _ _ ha ?_
    exact And.intro (fun _ => hR I) (fun h => absurd (show (0 : Int32) = 0 from rfl) h)
set_option maxRecDepth 100000 in
set_option maxHeartbeats 4000000 in
theorem law_c30 (l : Launch) (xs : Nat → Int32) (n : Nat) : lrun l 6 xs (n + 2) 1166 lloc [] shXM lI jM 99 18232 := by
  refine xrun_step fun K hK => ?_
  refine And.intro (show vp_in ((0 : Int32) + (1 : Int32)) 6 from vp_b (by decide)) ?_
  refine And.intro (show vp_in ((0 : Int32) + (2 : Int32)) 6 from vp_b (by decide)) ?_
  refine And.intro (show vp_in ((0 : Int32) + (3 : Int32)) 6 from vp_b (by decide)) ?_
  refine And.intro (show vp_in ((0 : Int32) + (4 : Int32)) 6 from vp_b (by decide)) ?_
  refine c_leave_0 l _ _ _ _ _ _ _ _ _ _ lI_5 ?_
  refine And.intro (show vp_in ((0 : Int32) + (1 : Int32)) 6 from vp_b (by decide)) ?_
  refine And.intro (show vp_in ((0 : Int32) + (2 : Int32)) 6 from vp_b (by decide)) ?_
  refine And.intro (show vp_in ((0 : Int32) + (3 : Int32)) 6 from vp_b (by decide)) ?_
  refine And.intro (show vp_in ((0 : Int32) + (4 : Int32)) 6 from vp_b (by decide)) ?_
  refine m_leave_0 l _ _ _ _ _ _ _ _ _ _ lI_m0 (fun I2 => ?_)
  refine And.intro (fun _ => ?_) (fun h => absurd (show (-1 : Int32) = (-1 : Int32) from rfl) h)
  exact hK _ _ _ _ _ _ _ _ (law_next l xs n _ _ _ 99 18232 (Nat.le_of_ble_eq_true rfl) (Nat.le_of_ble_eq_true rfl))
set_option maxRecDepth 100000 in
set_option maxHeartbeats 4000000 in
theorem c_ad3 (l : Launch) (d s : Nat) (hs : s < 300) (v x : Int32) (hx : ¬ x < 0) (ru ta : Nat) (I : XI) (J : XJ) (Rp : XR) (h1 : I 30 1 = nI s) (n : Nat) (hc : ∀ I', (∀ q, q ≠ 30 → q ≠ 31 → I' q = I q) → I' 30 1 = nI (s + 1) → xrun xxX7 none false false (shG ru ta).length 0 0 none l d tX7_add [3] Rp n 3 [some (.ref 30), some (.int v), some (.int (x + (-8)))] [] (shG ru ta) I' J 0 0) : xrun xxX7 none false false (shG ru ta).length 0 0 none l d tX7_add [3] Rp (n + 1) 3 [some (.ref 30), some (.int v), some (.int x)] [] (shG ru ta) I J 0 0 := by
  refine xrun_step fun K hK => ?_
  refine And.intro (fun h => absurd h hx) (fun _ => ?_)
  refine And.intro (fun h => absurd h ?_) (fun _ => ?_)
  · show ¬ I 30 1 < 0
    rw [h1]
    exact nI_pos (by omega)
  refine And.intro (fun h => absurd h ?_) (fun _ => ?_)
  · show ¬ 300 ≤ I 30 1
    rw [h1]
    exact nI_ge (a := s) (b := 300) (by omega) (by omega)
  refine And.intro (show vp_in (I 30 1) 300 from vp_k (N := 300) h1 hs (by omega)) ?_
  refine hK 3 [some (.ref 30), some (.int v), some (.int (x + (-8)))] [] (shG ru ta) (uI (uI I 31 (I 30 1).toNatClampNeg _) 30 1 (uI I 31 (I 30 1).toNatClampNeg _ 30 1 + 1)) J 0 0 ?_
  refine hc _ (fun q h30 h31 => ?_) ?_
  · rw [uI_ne h30, uI_ne h31]
  · rw [uI_same, uI_other (by omega), h1, nI_1]
set_option maxRecDepth 100000 in
set_option maxHeartbeats 4000000 in
theorem c_add_0 (l : Launch) (d s : Nat) (hs : s ≤ 296) (v : Int32) (ru ta : Nat) (I : XI) (J : XJ) (Rp : XR) (h1 : I 30 1 = nI s) (hR : ∀ I', (∀ q, q ≠ 30 → q ≠ 31 → I' q = I q) → I' 30 1 = nI (s + 4) → Rp none (shG ru ta) I' J) : xm l (d + 1) 0 0 mX7_add [.ref 30, .int v] (shG ru ta) I J Rp := by
  refine xm_ofK 5 (X := xxX7) (t := tX7_add) (stop := [3]) (ini := false) xx7 pl7 rfl kX7_add (fun h => by cases h) (Nat.le_of_ble_eq_true rfl) (fun K hK => ?_)
  refine hK 3 [some (.ref 30), some (.int v), some (.int 24)] [] (shG ru ta) I J 0 0 ?_
  refine c_ad3 l d s (by omega) v 24 (by decide) ru ta I J Rp h1 4 (fun I1 e1 s1 => ?_)
  refine c_ad3 l d (s + 1) (by omega) v (24 + -8) (by decide) ru ta I1 J Rp s1 3 (fun I2 e2 s2 => ?_)
  refine c_ad3 l d (s + 1 + 1) (by omega) v (24 + -8 + -8) (by decide) ru ta I2 J Rp s2 2 (fun I3 e3 s3 => ?_)
  refine c_ad3 l d (s + 1 + 1 + 1) (by omega) v (24 + -8 + -8 + -8) (by decide) ru ta I3 J Rp s3 1 (fun I4 e4 s4 => ?_)
  refine xrun_step fun K hK => ?_
  refine And.intro (fun _ => ?_) (fun h => absurd (show (24 : Int32) + -8 + -8 + -8 + -8 < 0 by decide) h)
  exact hR I4 (fun q a b => by rw [e4 q a b, e3 q a b, e2 q a b, e1 q a b]) s4
set_option maxRecDepth 100000 in
set_option maxHeartbeats 4000000 in
theorem m_pu3 (l : Launch) (d s : Nat) (hs : s < 300) (v x : Int32) (hx : ¬ x < 0) (ru ta : Nat) (I : XI) (J : XJ) (Rp : XR) (h1 : I 67 3 = nI s) (n : Nat) (hc : ∀ I', (∀ q, q ≠ 67 → q ≠ 70 → I' q = I q) → I' 67 3 = nI (s + 1) → xrun xxX12 none false false (shG ru ta).length 0 0 none l d tX12_put [3] Rp n 3 [some (.ref 67), some (.int v), some (.int (x - 8))] [] (shG ru ta) I' J 0 0) : xrun xxX12 none false false (shG ru ta).length 0 0 none l d tX12_put [3] Rp (n + 1) 3 [some (.ref 67), some (.int v), some (.int x)] [] (shG ru ta) I J 0 0 := by
  refine xrun_step fun K hK => ?_
  refine And.intro (fun h => absurd h hx) (fun _ => ?_)
  refine And.intro (show vp_in (I 67 3) 300 from vp_k (N := 300) h1 hs (by omega)) ?_
  refine hK 3 [some (.ref 67), some (.int v), some (.int (x - 8))] [] (shG ru ta) (uI (uI I 70 (I 67 3).toNatClampNeg _) 67 3 (uI I 70 (I 67 3).toNatClampNeg _ 67 3 + 1)) J 0 0 ?_
  refine hc _ (fun q h67 h70 => ?_) ?_
  · rw [uI_ne h67, uI_ne h70]
  · rw [uI_same, uI_other (by omega), h1, nI_1]
set_option maxRecDepth 100000 in
set_option maxHeartbeats 4000000 in
theorem m_put_0 (l : Launch) (d s : Nat) (hs : s ≤ 296) (v : Int32) (ru ta : Nat) (I : XI) (J : XJ) (Rp : XR) (h1 : I 67 3 = nI s) (hR : ∀ I', I' 67 3 = nI (s + 4) → Rp none (shG ru ta) I' J) : xm l (d + 1) 0 0 mX12_put [.ref 67, .int v] (shG ru ta) I J Rp := by
  refine xm_ofK 5 (X := xxX12) (t := tX12_put) (stop := [3]) (ini := false) xx12 pl12 rfl kX12_put (fun h => by cases h) (Nat.le_of_ble_eq_true rfl) (fun K hK => ?_)
  refine hK 3 [some (.ref 67), some (.int v), some (.int 24)] [] (shG ru ta) I J 0 0 ?_
  refine m_pu3 l d s (by omega) v 24 (by decide) ru ta I J Rp h1 4 (fun I1 e1 s1 => ?_)
  refine m_pu3 l d (s + 1) (by omega) v (24 - 8) (by decide) ru ta I1 J Rp s1 3 (fun I2 e2 s2 => ?_)
  refine m_pu3 l d (s + 1 + 1) (by omega) v (24 - 8 - 8) (by decide) ru ta I2 J Rp s2 2 (fun I3 e3 s3 => ?_)
  refine m_pu3 l d (s + 1 + 1 + 1) (by omega) v (24 - 8 - 8 - 8) (by decide) ru ta I3 J Rp s3 1 (fun I4 e4 s4 => ?_)
  refine xrun_step fun K hK => ?_
  refine And.intro (fun _ => ?_) (fun h => absurd (show (24 : Int32) - 8 - 8 - 8 - 8 < 0 by decide) h)
  exact hR I4 s4
set_option maxRecDepth 100000 in
set_option maxHeartbeats 4000000 in
theorem c_feed_0 (l : Launch) (d : Nat) (a b c e f : Int32) (ru ta : Nat) (I : XI) (J : XJ) (Rp : XR) (h1 : I 30 1 = nI 0) (hR : ∀ I', (∀ q, q ≠ 30 → q ≠ 31 → I' q = I q) → Rp (some (.int (nI 20))) (shG ru ta) I' J) : xm l (d + 2) 0 0 mX11_feed [.ref 0, .int a, .int b, .int c, .int e, .int f] (shG ru ta) I J Rp := by
  refine xm_ofK 0 (X := xxX11) (t := tX11_feed) (stop := []) (ini := false) xx11 pl11 rfl kX11_feed (fun h => by cases h) (Nat.le_of_ble_eq_true rfl) (fun K hK => ?_)
  refine xm_ofK 0 (X := xxX7) (t := tX7_hasRoom) (stop := []) (ini := false) xx7 pl7 rfl kX7_hasRoom (fun h => by cases h) (Nat.le_of_ble_eq_true rfl) (fun K2 hK2 => ?_)
  refine And.intro (fun h => absurd h ?_) (fun _ => ?_)
  · show ¬ 300 < I 30 1 + 20
    rw [h1]
    decide
  refine And.intro (Or.inr rfl) ?_
  refine And.intro (fun _ => ?_) (fun h => absurd h (show ¬ ((1 : Int32) = 0) by decide))
  refine c_add_0 l _ 0 (by omega) _ ru ta I J _ h1 (fun I1 e1 s1 => ?_)
  refine c_add_0 l _ 4 (by omega) _ ru ta I1 J _ s1 (fun I2 e2 s2 => ?_)
  refine c_add_0 l _ 8 (by omega) _ ru ta I2 J _ s2 (fun I3 e3 s3 => ?_)
  refine c_add_0 l _ 12 (by omega) _ ru ta I3 J _ s3 (fun I4 e4 s4 => ?_)
  refine c_add_0 l _ 16 (by omega) _ ru ta I4 J _ s4 (fun I5 e5 s5 => ?_)
  have hRR := hR I5 (fun q a b => by rw [e5 q a b, e4 q a b, e3 q a b, e2 q a b, e1 q a b])
  rw [show nI 20 = I5 30 1 from s5.symm] at hRR
  exact hRR
set_option maxRecDepth 100000 in
set_option maxHeartbeats 4000000 in
theorem m_feed_0 (l : Launch) (d : Nat) (a b c e f : Int32) (ru ta : Nat) (I : XI) (J : XJ) (Rp : XR) (h1 : I 67 3 = nI 0) (hR : ∀ I', Rp (some (.int (nI 20))) (shG ru ta) I' J) : xm l (d + 2) 0 0 mX12_feed [.ref 67, .int a, .int b, .int c, .int e, .int f] (shG ru ta) I J Rp := by
  refine xm_ofK 0 (X := xxX12) (t := tX12_feed) (stop := []) (ini := false) xx12 pl12 rfl kX12_feed (fun h => by cases h) (Nat.le_of_ble_eq_true rfl) (fun K hK => ?_)
  refine And.intro (fun _ => ?_) (fun h => absurd ?_ h)
  rotate_left
  · show I 67 3 + 20 ≤ 300
    rw [h1]
    decide
  refine m_put_0 l _ 0 (by omega) _ ru ta I J _ h1 (fun I1 s1 => ?_)
  refine m_put_0 l _ 4 (by omega) _ ru ta I1 J _ s1 (fun I2 s2 => ?_)
  refine m_put_0 l _ 8 (by omega) _ ru ta I2 J _ s2 (fun I3 s3 => ?_)
  refine m_put_0 l _ 12 (by omega) _ ru ta I3 J _ s3 (fun I4 s4 => ?_)
  refine m_put_0 l _ 16 (by omega) _ ru ta I4 J _ s4 (fun I5 s5 => ?_)
  have hRR := hR I5
  rw [show nI 20 = I5 67 3 from s5.symm] at hRR
  exact hRR
theorem lI_t1 : lI 30 1 = nI 0 := by decide +kernel
theorem lI_t3 : lI 67 3 = nI 0 := by decide +kernel
set_option maxRecDepth 100000 in
set_option maxHeartbeats 4000000 in
theorem law_c10 (l : Launch) (xs : Nat → Int32) (n : Nat) : lrun l 6 xs (n + 2) 506 lloc [] shXM lI jM 99 18232 := by
  refine xrun_step fun K hK => ?_
  refine And.intro (show vp_in ((0 : Int32) + (1 : Int32)) 6 from vp_b (by decide)) ?_
  refine And.intro (show vp_in ((0 : Int32) + (2 : Int32)) 6 from vp_b (by decide)) ?_
  refine And.intro (show vp_in ((0 : Int32) + (3 : Int32)) 6 from vp_b (by decide)) ?_
  refine And.intro (show vp_in ((0 : Int32) + (4 : Int32)) 6 from vp_b (by decide)) ?_
  refine And.intro (show vp_in ((0 : Int32) + (5 : Int32)) 6 from vp_b (by decide)) ?_
  refine c_feed_0 l _ _ _ _ _ _ _ _ _ _ _ lI_t1 (fun I1 e1 => ?_)
  refine And.intro (show vp_in ((0 : Int32) + (1 : Int32)) 6 from vp_b (by decide)) ?_
  refine And.intro (show vp_in ((0 : Int32) + (2 : Int32)) 6 from vp_b (by decide)) ?_
  refine And.intro (show vp_in ((0 : Int32) + (3 : Int32)) 6 from vp_b (by decide)) ?_
  refine And.intro (show vp_in ((0 : Int32) + (4 : Int32)) 6 from vp_b (by decide)) ?_
  refine And.intro (show vp_in ((0 : Int32) + (5 : Int32)) 6 from vp_b (by decide)) ?_
  refine m_feed_0 l _ _ _ _ _ _ _ _ _ _ _ (by rw [e1 67 (by decide) (by decide)]; exact lI_t3) (fun I2 => ?_)
  refine And.intro (fun _ => ?_) (fun h => absurd (show nI 20 = nI 20 from rfl) h)
  exact hK _ _ _ _ _ _ _ _ (law_next l xs n _ _ _ 99 18232 (Nat.le_of_ble_eq_true rfl) (Nat.le_of_ble_eq_true rfl))
