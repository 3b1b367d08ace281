theorem nI_mulN (a b : Nat) : nI a * nI b = nI (a * b) := (Int32.ofNat_mul a b).symm
theorem nI_subN {a b : Nat} (h : b ≤ a) : nI a - nI b = nI (a - b) := by
  have e : nI a = nI (a - b) + nI b := by rw [nI_add]; congr 1; omega
  rw [e, Int32.add_sub_cancel]
theorem hl_eq {T : Nat} (h : T ≤ 9999) : (((999 : Int32) - nI (T / 10)) * 10 + 10) - 1 - nI (T % 10) = nI (9999 - T) := by
  rw [show (999 : Int32) = nI 999 from rfl, nI_subN (by omega), show (10 : Int32) = nI 10 from rfl, nI_mulN, nI_add, show (1 : Int32) = nI 1 from rfl, nI_subN (by omega), nI_subN (by omega)]
  congr 1
  omega
theorem mod31 : ∀ a, a < 62 → nI a - nI a / 31 * 31 = nI (a % 31) := by decide +kernel
theorem uI_at (I : XI) (p k : Nat) (v : Int32) (q j : Nat) : uI I p k v q j = if q = p ∧ j = k then v else I q j := by
  by_cases hq : q = p
  · subst hq
    rw [uI_eq]
    simp [upd]
  · rw [uI_ne hq]
    simp [hq]
theorem uI_other {I : XI} {p k : Nat} {v : Int32} {q j : Nat} (h : q ≠ p ∨ j ≠ k) : uI I p k v q j = I q j := by
  rw [uI_at, if_neg]
  omega
theorem uI_same {I : XI} {p k : Nat} {v : Int32} : uI I p k v p k = v := by
  rw [uI_at, if_pos ⟨rfl, rfl⟩]
/-- a row of cells at T hours behind the start; the rest is I0's -/
def FW (C : Nat) (I0 : XI) (T : Nat) (I : XI) : Prop := (∀ q, q ≠ C → I q = I0 q) ∧ (∀ k, k < 12 → I C (28 + k) = 0) ∧ I C 64 = nI (T % 10) ∧ I C 65 = nI (T / 10)
theorem FW.set {C : Nat} {I0 I : XI} {T k : Nat} {v : Int32} (h : FW C I0 T I) (hk : k < 28 ∨ 40 ≤ k) (h64 : k ≠ 64) (h65 : k ≠ 65) : FW C I0 T (uI I C k v) := by
  obtain ⟨a, b, c, d⟩ := h
  refine ⟨fun q hq => ?_, fun j hj => ?_, ?_, ?_⟩
  · rw [uI_ne hq, a q hq]
  · rw [uI_other (by omega), b j hj]
  · rw [uI_other (by omega), c]
  · rw [uI_other (by omega), d]
theorem FW.hour {C : Nat} {I0 I : XI} {T : Nat} {v : Int32} (h : FW C I0 T I) (h9 : ¬ T % 10 = 9) (hv : v = nI (T % 10 + 1)) : FW C I0 (T + 1) (uI I C 64 v) := by
  obtain ⟨a, b, c, d⟩ := h
  refine ⟨fun q hq => ?_, fun j hj => ?_, ?_, ?_⟩
  · rw [uI_ne hq, a q hq]
  · rw [uI_other (by omega), b j hj]
  · rw [uI_same, hv, show (T + 1) % 10 = T % 10 + 1 by omega]
  · rw [uI_other (by omega), d, show (T + 1) / 10 = T / 10 by omega]
theorem FW.day {C : Nat} {I0 I : XI} {T : Nat} {u v : Int32} (h : FW C I0 T I) (h9 : T % 10 = 9) (hv : v = nI (T / 10 + 1)) : FW C I0 (T + 1) (uI (uI (uI I C 64 u) C 64 0) C 65 v) := by
  obtain ⟨a, b, c, d⟩ := h
  refine ⟨fun q hq => ?_, fun j hj => ?_, ?_, ?_⟩
  · rw [uI_ne hq, uI_ne hq, uI_ne hq, a q hq]
  · rw [uI_other (by omega), uI_other (by omega), uI_other (by omega), b j hj]
  · rw [uI_other (by omega), uI_same, show (T + 1) % 10 = 0 by omega]
    rfl
  · rw [uI_same, hv, show (T + 1) / 10 = T / 10 + 1 by omega]
theorem FW.trans {C : Nat} {I0 I1 I : XI} {T S : Nat} (h : FW C I1 S I) (h1 : FW C I0 T I1) : FW C I0 S I := ⟨fun q hq => (h.1 q hq).trans (h1.1 q hq), h.2⟩
theorem FW.at {C : Nat} {I0 I : XI} {T q k : Nat} {v : Int32} (h : FW C I0 T I) (hq : q ≠ C) (e : I0 q k = v) : I q k = v := by
  rw [h.1 q hq, e]
set_option maxRecDepth 100000 in
set_option maxHeartbeats 4000000 in
theorem c_hoursLeft_26 (l : Launch) (d : Nat) (ru ta : Nat) (I : XI) (J : XJ) (Rp : XR) (hR : Rp (some (.int ((((999 : Int32) - I 27 65) * 10 + 10) - 1 - I 27 64))) (shG ru ta) I J) : xm l (d + 1) 0 0 mX10_hoursLeft [.ref 26] (shG ru ta) I J Rp := by
  refine xm_ofK 0 (X := xxX10) (t := tX10_hoursLeft) (stop := []) (ini := false) xx10 pl10 rfl kX10_hoursLeft (fun h => by cases h) (Nat.le_of_ble_eq_true rfl) (fun K hK => ?_)
  exact And.intro (vp_b (by decide)) (And.intro (vp_b (by decide)) hR)
set_option maxRecDepth 100000 in
set_option maxHeartbeats 4000000 in
theorem c_draw_26 (l : Launch) (d : Nat) (ru ta : Nat) (I : XI) (J : XJ) (Rp : XR) (hR : ∀ v w : Int32, Rp (some (.int v)) (shG ru ta) (uI I 27 68 w) J) : xm l (d + 1) 0 0 mX10_draw [.ref 26, .int 10] (shG ru ta) I J Rp := by
  refine xm_ofK 0 (X := xxX10) (t := tX10_draw) (stop := []) (ini := false) xx10 pl10 rfl kX10_draw (fun h => by cases h) (Nat.le_of_ble_eq_true rfl) (fun K hK => ?_)
  refine And.intro (fun h => absurd h (show ¬ ((10 : Int32) ≤ 0) by decide)) (fun _ => ?_)
  refine And.intro (vp_b (by decide)) ?_
  refine And.intro (show ¬ ((10 : Int32) = 0) by decide) ?_
  refine And.intro (vp_b (by decide)) ?_
  refine And.intro (show ¬ ((30313 : Int32) = 0) by decide) ?_
  exact And.intro (vp_b (by decide)) (hR _ _)
set_option maxRecDepth 100000 in
set_option maxHeartbeats 4000000 in
theorem c_spoilsOf_26 (l : Launch) (d : Nat) (t : Int32) (ru ta : Nat) (I : XI) (J : XJ) (Rp : XR) (hI : ∀ k, k < 12 → I 27 (28 + k) = 0) (hR : Rp (some (.int 0)) (shG ru ta) I J) : xm l (d + 2) 0 0 mX10_spoilsOf [.ref 26, .int t] (shG ru ta) I J Rp := by
  refine xm_ofK 0 (X := xxX10) (t := tX10_spoilsOf) (stop := []) (ini := false) xx10 pl10 rfl kX10_spoilsOf (fun h => by cases h) (Nat.le_of_ble_eq_true rfl) (fun K hK => ?_)
  refine c_hasBale_0_26 l _ _ _ _ _ _ _ hI ?_
  exact And.intro (fun h => absurd (show (0 : Int32) = 0 from rfl) h) (fun _ => hR)
set_option maxRecDepth 100000 in
set_option maxHeartbeats 4000000 in
theorem c_shorten_26 (l : Launch) (d : Nat) (t u : Int32) (ru ta : Nat) (I : XI) (J : XJ) (Rp : XR) (hI : ∀ k, k < 12 → I 27 (28 + k) = 0) (hR : Rp none (shG ru ta) I J) : xm l (d + 2) 0 0 mX10_shorten [.ref 26, .int t, .int u] (shG ru ta) I J Rp := by
  refine xm_ofK 0 (X := xxX10) (t := tX10_shorten) (stop := []) (ini := false) xx10 pl10 rfl kX10_shorten (fun h => by cases h) (Nat.le_of_ble_eq_true rfl) (fun K hK => ?_)
  refine c_hasBale_0_26 l _ _ _ _ _ _ _ hI ?_
  exact And.intro (fun _ => hR) (fun h => absurd (show (0 : Int32) = 0 from rfl) h)
set_option maxRecDepth 100000 in
set_option maxHeartbeats 4000000 in
theorem c_ph155_26 (l : Launch) (d T : Nat) (ru ta : Nat) (I0 : XI) (J : XJ) (Rp : XR) (hR : ∀ I', FW 27 I0 T I' → Rp (some (.int 1)) (shG ru ta) I' J) : ∀ (m b n : Nat) (I : XI), b + m = 12 → m < n → FW 27 I0 T I → xrun xxX10 (some .boolean) false false (shG ru ta).length 0 0 none l (d + 2) tX10_passHour [32, 91, 155] Rp n 155 [some (.ref 26), some (.int (nI b))] [] (shG ru ta) I J 0 0 := by
  intro m
  induction m with
  | zero =>
    intro b n I hb hn hF
    obtain ⟨n, rfl⟩ : ∃ n', n = n' + 1 := ⟨n - 1, by omega⟩
    have : b = 12 := by omega
    subst this
    refine xrun_step fun K hK => ?_
    exact And.intro (fun _ => And.intro (Or.inr rfl) (hR _ hF)) (fun h => absurd (show (12 : Int32) ≤ nI 12 by decide) h)
  | succ m ih =>
    intro b n I hb hn hF
    obtain ⟨n, rfl⟩ : ∃ n', n = n' + 1 := ⟨n - 1, by omega⟩
    have e : nI 40 + nI b = nI (40 + b) := nI_add 40 b
    have hv : vp_in (nI 40 + nI b) 69 := by
      rw [e]
      exact vp_in_nI (by omega) (by omega)
    refine xrun_step fun K hK => ?_
    refine And.intro (fun h => absurd h (nI_ge (a := b) (b := 12) (by omega) (by omega))) (fun _ => ?_)
    refine c_spoilsOf_26 l _ _ _ _ _ _ _ hF.2.1 ?_
    refine c_shorten_26 l _ _ _ _ _ _ _ _ hF.2.1 ?_
    refine And.intro hv (And.intro hv ?_)
    refine hK 155 [some (.ref 26), some (.int (nI b + 1))] [] (shG ru ta) (uI I 27 (nI 40 + nI b).toNatClampNeg _) J 0 0 ?_
    rw [nI_1, e, nI_clamp (by omega)]
    exact ih (b + 1) n _ (by omega) (by omega) (hF.set (by omega) (by omega) (by omega))
set_option maxRecDepth 100000 in
set_option maxHeartbeats 4000000 in
theorem c_ph91_26 (l : Launch) (d T : Nat) (ru ta : Nat) (I0 : XI) (J : XJ) (Rp : XR) (h5 : I0 12 5 = 0) (hR : ∀ I', FW 27 I0 T I' → Rp (some (.int 1)) (shG ru ta) I' J) (n : Nat) (hn : 14 ≤ n) (I : XI) (hF : FW 27 I0 T I) : xrun xxX10 (some .boolean) false false (shG ru ta).length 0 0 none l (d + 2) tX10_passHour [32, 91, 155] Rp n 91 [some (.ref 26), some (.int 0)] [] (shG ru ta) I J 0 0 := by
  obtain ⟨n, rfl⟩ : ∃ n', n = n' + 1 := ⟨n - 1, by omega⟩
  have h5' : I 12 5 = 0 := hF.at (by decide) h5
  refine xrun_step fun K hK => ?_
  refine And.intro (fun _ => ?_) (fun h => absurd ?_ h)
  · exact hK _ _ _ _ _ _ _ _ (c_ph155_26 l d T ru ta I0 J Rp hR 12 0 n I (by omega) (by omega) hF)
  · show I 12 5 ≤ 0
    rw [h5']
    decide
set_option maxRecDepth 100000 in
set_option maxHeartbeats 4000000 in
theorem c_ph32_26 (l : Launch) (d T : Nat) (ru ta : Nat) (I0 : XI) (J : XJ) (Rp : XR) (hT : T < 9999) (h5 : I0 12 5 = 0) (hR : ∀ I', FW 27 I0 (T + 1) I' → Rp (some (.int 1)) (shG ru ta) I' J) (n : Nat) (hn : 16 ≤ n) (I : XI) (hF : FW 27 I0 T I) : xrun xxX10 (some .boolean) false false (shG ru ta).length 0 0 none l (d + 2) tX10_passHour [32, 91, 155] Rp n 32 [some (.ref 26), some (.int 4)] [] (shG ru ta) I J 0 0 := by
  obtain ⟨n, rfl⟩ : ∃ n', n = n' + 1 := ⟨n - 1, by omega⟩
  have e : uI I 27 64 (I 27 64 + 1) 27 64 = nI (T % 10 + 1) := by
    rw [uI_same, hF.2.2.1, nI_1]
  refine xrun_step fun K hK => ?_
  refine And.intro (vp_b (by decide)) (And.intro (vp_b (by decide)) (And.intro (vp_b (by decide)) ?_))
  by_cases h9 : T % 10 = 9
  · have hge : (10 : Int32) ≤ uI I 27 64 (I 27 64 + 1) 27 64 := by
      rw [e, h9]
      decide
    refine And.intro (fun _ => ?_) (fun h => absurd hge h)
    refine And.intro (vp_b (by decide)) ?_
    refine And.intro (vp_b (by decide)) (And.intro (vp_b (by decide)) ?_)
    refine c_draw_26 l _ _ _ _ _ _ (fun v w => ?_)
    refine And.intro (vp_b (by decide)) ?_
    refine hK 91 [some (.ref 26), some (.int 0)] [] (shG ru ta) (uI (uI (uI (uI (uI I 27 64 (I 27 64 + 1)) 27 64 0) 27 65 (uI (uI I 27 64 (I 27 64 + 1)) 27 64 0 27 65 + 1)) 27 68 w) 27 66 v) J 0 0 ?_
    refine c_ph91_26 l d (T + 1) ru ta I0 J Rp h5 hR n (by omega) _ (FW.set (FW.set (hF.day h9 ?_) (by omega) (by omega) (by omega)) (by omega) (by omega) (by omega))
    rw [uI_other (by omega), uI_other (by omega), hF.2.2.2, nI_1]
  · have hge : ¬ (10 : Int32) ≤ uI I 27 64 (I 27 64 + 1) 27 64 := by
      rw [e]
      exact nI_ge (a := T % 10 + 1) (b := 10) (by omega) (by omega)
    refine And.intro (fun h => absurd h hge) (fun _ => And.intro (Or.inr rfl) (hR _ (hF.hour h9 ?_)))
    show I 27 64 + 1 = nI (T % 10 + 1)
    rw [hF.2.2.1, nI_1]
set_option maxRecDepth 100000 in
set_option maxHeartbeats 4000000 in
theorem c_passHour_26 (l : Launch) (d T : Nat) (ru ta : Nat) (I0 : XI) (J : XJ) (Rp : XR) (hT : T < 9999) (h5 : I0 12 5 = 0) (I : XI) (hF : FW 27 I0 T I) (hR : ∀ I', FW 27 I0 (T + 1) I' → Rp (some (.int 1)) (shG ru ta) I' J) : xm l (d + 3) 0 0 mX10_passHour [.ref 26] (shG ru ta) I J Rp := by
  refine xm_ofK 20 (X := xxX10) (t := tX10_passHour) (stop := [32, 91, 155]) (ini := false) xx10 pl10 rfl kX10_passHour (fun h => by cases h) (Nat.le_of_ble_eq_true rfl) (fun K hK => ?_)
  refine c_hoursLeft_26 l _ _ _ _ _ _ ?_
  refine And.intro (fun _ => ?_) (fun h => absurd ?_ h)
  · refine And.intro (fun h => absurd h (by decide)) (fun _ => And.intro (vp_b (by decide)) ?_)
    refine And.intro (fun h => absurd h (by decide)) (fun _ => And.intro (vp_b (by decide)) ?_)
    refine And.intro (fun h => absurd h (by decide)) (fun _ => And.intro (vp_b (by decide)) ?_)
    refine And.intro (fun h => absurd h (by decide)) (fun _ => And.intro (vp_b (by decide)) ?_)
    refine And.intro (fun _ => ?_) (fun h => absurd (by decide) h)
    refine hK 32 [some (.ref 26), some (.int 4)] [] (shG ru ta) (uI (uI (uI (uI I 27 12 0) 27 13 0) 27 14 0) 27 15 0) J 0 0 ?_
    exact c_ph32_26 l d T ru ta I0 J Rp hT h5 hR 20 (by omega) _ ((((hF.set (by omega) (by omega) (by omega)).set (by omega) (by omega) (by omega)).set (by omega) (by omega) (by omega)).set (by omega) (by omega) (by omega))
  · show 0 < (((999 : Int32) - I 27 65) * 10 + 10) - 1 - I 27 64
    rw [hF.2.2.1, hF.2.2.2, hl_eq (by omega)]
    exact nI_lt (a := 0) (b := 9999 - T) (by omega) (by omega)
set_option maxRecDepth 100000 in
set_option maxHeartbeats 4000000 in
theorem c_hoursLeft_28 (l : Launch) (d : Nat) (ru ta : Nat) (I : XI) (J : XJ) (Rp : XR) (hR : Rp (some (.int ((((999 : Int32) - I 29 65) * 10 + 10) - 1 - I 29 64))) (shG ru ta) I J) : xm l (d + 1) 0 0 mX10_hoursLeft [.ref 28] (shG ru ta) I J Rp := by
  refine xm_ofK 0 (X := xxX10) (t := tX10_hoursLeft) (stop := []) (ini := false) xx10 pl10 rfl kX10_hoursLeft (fun h => by cases h) (Nat.le_of_ble_eq_true rfl) (fun K hK => ?_)
  exact And.intro (vp_b (by decide)) (And.intro (vp_b (by decide)) hR)
set_option maxRecDepth 100000 in
set_option maxHeartbeats 4000000 in
theorem c_draw_28 (l : Launch) (d : Nat) (ru ta : Nat) (I : XI) (J : XJ) (Rp : XR) (hR : ∀ v w : Int32, Rp (some (.int v)) (shG ru ta) (uI I 29 68 w) J) : xm l (d + 1) 0 0 mX10_draw [.ref 28, .int 10] (shG ru ta) I J Rp := by
  refine xm_ofK 0 (X := xxX10) (t := tX10_draw) (stop := []) (ini := false) xx10 pl10 rfl kX10_draw (fun h => by cases h) (Nat.le_of_ble_eq_true rfl) (fun K hK => ?_)
  refine And.intro (fun h => absurd h (show ¬ ((10 : Int32) ≤ 0) by decide)) (fun _ => ?_)
  refine And.intro (vp_b (by decide)) ?_
  refine And.intro (show ¬ ((10 : Int32) = 0) by decide) ?_
  refine And.intro (vp_b (by decide)) ?_
  refine And.intro (show ¬ ((30313 : Int32) = 0) by decide) ?_
  exact And.intro (vp_b (by decide)) (hR _ _)
set_option maxRecDepth 100000 in
set_option maxHeartbeats 4000000 in
theorem c_spoilsOf_28 (l : Launch) (d : Nat) (t : Int32) (ru ta : Nat) (I : XI) (J : XJ) (Rp : XR) (hI : ∀ k, k < 12 → I 29 (28 + k) = 0) (hR : Rp (some (.int 0)) (shG ru ta) I J) : xm l (d + 2) 0 0 mX10_spoilsOf [.ref 28, .int t] (shG ru ta) I J Rp := by
  refine xm_ofK 0 (X := xxX10) (t := tX10_spoilsOf) (stop := []) (ini := false) xx10 pl10 rfl kX10_spoilsOf (fun h => by cases h) (Nat.le_of_ble_eq_true rfl) (fun K hK => ?_)
  refine c_hasBale_0_28 l _ _ _ _ _ _ _ hI ?_
  exact And.intro (fun h => absurd (show (0 : Int32) = 0 from rfl) h) (fun _ => hR)
set_option maxRecDepth 100000 in
set_option maxHeartbeats 4000000 in
theorem c_shorten_28 (l : Launch) (d : Nat) (t u : Int32) (ru ta : Nat) (I : XI) (J : XJ) (Rp : XR) (hI : ∀ k, k < 12 → I 29 (28 + k) = 0) (hR : Rp none (shG ru ta) I J) : xm l (d + 2) 0 0 mX10_shorten [.ref 28, .int t, .int u] (shG ru ta) I J Rp := by
  refine xm_ofK 0 (X := xxX10) (t := tX10_shorten) (stop := []) (ini := false) xx10 pl10 rfl kX10_shorten (fun h => by cases h) (Nat.le_of_ble_eq_true rfl) (fun K hK => ?_)
  refine c_hasBale_0_28 l _ _ _ _ _ _ _ hI ?_
  exact And.intro (fun _ => hR) (fun h => absurd (show (0 : Int32) = 0 from rfl) h)
set_option maxRecDepth 100000 in
set_option maxHeartbeats 4000000 in
theorem c_ph155_28 (l : Launch) (d T : Nat) (ru ta : Nat) (I0 : XI) (J : XJ) (Rp : XR) (hR : ∀ I', FW 29 I0 T I' → Rp (some (.int 1)) (shG ru ta) I' J) : ∀ (m b n : Nat) (I : XI), b + m = 12 → m < n → FW 29 I0 T I → xrun xxX10 (some .boolean) false false (shG ru ta).length 0 0 none l (d + 2) tX10_passHour [32, 91, 155] Rp n 155 [some (.ref 28), some (.int (nI b))] [] (shG ru ta) I J 0 0 := by
  intro m
  induction m with
  | zero =>
    intro b n I hb hn hF
    obtain ⟨n, rfl⟩ : ∃ n', n = n' + 1 := ⟨n - 1, by omega⟩
    have : b = 12 := by omega
    subst this
    refine xrun_step fun K hK => ?_
    exact And.intro (fun _ => And.intro (Or.inr rfl) (hR _ hF)) (fun h => absurd (show (12 : Int32) ≤ nI 12 by decide) h)
  | succ m ih =>
    intro b n I hb hn hF
    obtain ⟨n, rfl⟩ : ∃ n', n = n' + 1 := ⟨n - 1, by omega⟩
    have e : nI 40 + nI b = nI (40 + b) := nI_add 40 b
    have hv : vp_in (nI 40 + nI b) 69 := by
      rw [e]
      exact vp_in_nI (by omega) (by omega)
    refine xrun_step fun K hK => ?_
    refine And.intro (fun h => absurd h (nI_ge (a := b) (b := 12) (by omega) (by omega))) (fun _ => ?_)
    refine c_spoilsOf_28 l _ _ _ _ _ _ _ hF.2.1 ?_
    refine c_shorten_28 l _ _ _ _ _ _ _ _ hF.2.1 ?_
    refine And.intro hv (And.intro hv ?_)
    refine hK 155 [some (.ref 28), some (.int (nI b + 1))] [] (shG ru ta) (uI I 29 (nI 40 + nI b).toNatClampNeg _) J 0 0 ?_
    rw [nI_1, e, nI_clamp (by omega)]
    exact ih (b + 1) n _ (by omega) (by omega) (hF.set (by omega) (by omega) (by omega))
set_option maxRecDepth 100000 in
set_option maxHeartbeats 4000000 in
theorem c_ph91_28 (l : Launch) (d T : Nat) (ru ta : Nat) (I0 : XI) (J : XJ) (Rp : XR) (h5 : I0 12 5 = 0) (hR : ∀ I', FW 29 I0 T I' → Rp (some (.int 1)) (shG ru ta) I' J) (n : Nat) (hn : 14 ≤ n) (I : XI) (hF : FW 29 I0 T I) : xrun xxX10 (some .boolean) false false (shG ru ta).length 0 0 none l (d + 2) tX10_passHour [32, 91, 155] Rp n 91 [some (.ref 28), some (.int 0)] [] (shG ru ta) I J 0 0 := by
  obtain ⟨n, rfl⟩ : ∃ n', n = n' + 1 := ⟨n - 1, by omega⟩
  have h5' : I 12 5 = 0 := hF.at (by decide) h5
  refine xrun_step fun K hK => ?_
  refine And.intro (fun _ => ?_) (fun h => absurd ?_ h)
  · exact hK _ _ _ _ _ _ _ _ (c_ph155_28 l d T ru ta I0 J Rp hR 12 0 n I (by omega) (by omega) hF)
  · show I 12 5 ≤ 0
    rw [h5']
    decide
set_option maxRecDepth 100000 in
set_option maxHeartbeats 4000000 in
theorem c_ph32_28 (l : Launch) (d T : Nat) (ru ta : Nat) (I0 : XI) (J : XJ) (Rp : XR) (hT : T < 9999) (h5 : I0 12 5 = 0) (hR : ∀ I', FW 29 I0 (T + 1) I' → Rp (some (.int 1)) (shG ru ta) I' J) (n : Nat) (hn : 16 ≤ n) (I : XI) (hF : FW 29 I0 T I) : xrun xxX10 (some .boolean) false false (shG ru ta).length 0 0 none l (d + 2) tX10_passHour [32, 91, 155] Rp n 32 [some (.ref 28), some (.int 4)] [] (shG ru ta) I J 0 0 := by
  obtain ⟨n, rfl⟩ : ∃ n', n = n' + 1 := ⟨n - 1, by omega⟩
  have e : uI I 29 64 (I 29 64 + 1) 29 64 = nI (T % 10 + 1) := by
    rw [uI_same, hF.2.2.1, nI_1]
  refine xrun_step fun K hK => ?_
  refine And.intro (vp_b (by decide)) (And.intro (vp_b (by decide)) (And.intro (vp_b (by decide)) ?_))
  by_cases h9 : T % 10 = 9
  · have hge : (10 : Int32) ≤ uI I 29 64 (I 29 64 + 1) 29 64 := by
      rw [e, h9]
      decide
    refine And.intro (fun _ => ?_) (fun h => absurd hge h)
    refine And.intro (vp_b (by decide)) ?_
    refine And.intro (vp_b (by decide)) (And.intro (vp_b (by decide)) ?_)
    refine c_draw_28 l _ _ _ _ _ _ (fun v w => ?_)
    refine And.intro (vp_b (by decide)) ?_
    refine hK 91 [some (.ref 28), some (.int 0)] [] (shG ru ta) (uI (uI (uI (uI (uI I 29 64 (I 29 64 + 1)) 29 64 0) 29 65 (uI (uI I 29 64 (I 29 64 + 1)) 29 64 0 29 65 + 1)) 29 68 w) 29 66 v) J 0 0 ?_
    refine c_ph91_28 l d (T + 1) ru ta I0 J Rp h5 hR n (by omega) _ (FW.set (FW.set (hF.day h9 ?_) (by omega) (by omega) (by omega)) (by omega) (by omega) (by omega))
    rw [uI_other (by omega), uI_other (by omega), hF.2.2.2, nI_1]
  · have hge : ¬ (10 : Int32) ≤ uI I 29 64 (I 29 64 + 1) 29 64 := by
      rw [e]
      exact nI_ge (a := T % 10 + 1) (b := 10) (by omega) (by omega)
    refine And.intro (fun h => absurd h hge) (fun _ => And.intro (Or.inr rfl) (hR _ (hF.hour h9 ?_)))
    show I 29 64 + 1 = nI (T % 10 + 1)
    rw [hF.2.2.1, nI_1]
set_option maxRecDepth 100000 in
set_option maxHeartbeats 4000000 in
theorem c_passHour_28 (l : Launch) (d T : Nat) (ru ta : Nat) (I0 : XI) (J : XJ) (Rp : XR) (hT : T < 9999) (h5 : I0 12 5 = 0) (I : XI) (hF : FW 29 I0 T I) (hR : ∀ I', FW 29 I0 (T + 1) I' → Rp (some (.int 1)) (shG ru ta) I' J) : xm l (d + 3) 0 0 mX10_passHour [.ref 28] (shG ru ta) I J Rp := by
  refine xm_ofK 20 (X := xxX10) (t := tX10_passHour) (stop := [32, 91, 155]) (ini := false) xx10 pl10 rfl kX10_passHour (fun h => by cases h) (Nat.le_of_ble_eq_true rfl) (fun K hK => ?_)
  refine c_hoursLeft_28 l _ _ _ _ _ _ ?_
  refine And.intro (fun _ => ?_) (fun h => absurd ?_ h)
  · refine And.intro (fun h => absurd h (by decide)) (fun _ => And.intro (vp_b (by decide)) ?_)
    refine And.intro (fun h => absurd h (by decide)) (fun _ => And.intro (vp_b (by decide)) ?_)
    refine And.intro (fun h => absurd h (by decide)) (fun _ => And.intro (vp_b (by decide)) ?_)
    refine And.intro (fun h => absurd h (by decide)) (fun _ => And.intro (vp_b (by decide)) ?_)
    refine And.intro (fun _ => ?_) (fun h => absurd (by decide) h)
    refine hK 32 [some (.ref 28), some (.int 4)] [] (shG ru ta) (uI (uI (uI (uI I 29 12 0) 29 13 0) 29 14 0) 29 15 0) J 0 0 ?_
    exact c_ph32_28 l d T ru ta I0 J Rp hT h5 hR 20 (by omega) _ ((((hF.set (by omega) (by omega) (by omega)).set (by omega) (by omega) (by omega)).set (by omega) (by omega) (by omega)).set (by omega) (by omega) (by omega))
  · show 0 < (((999 : Int32) - I 29 65) * 10 + 10) - 1 - I 29 64
    rw [hF.2.2.1, hF.2.2.2, hl_eq (by omega)]
    exact nI_lt (a := 0) (b := 9999 - T) (by omega) (by omega)
set_option maxRecDepth 100000 in
set_option maxHeartbeats 4000000 in
theorem m_draw_0 (l : Launch) (d : Nat) (ru ta : Nat) (I : XI) (J : XJ) (Rp : XR) (hR : ∀ v w : Int32, Rp (some (.int v)) (shG ru ta) (uI I 93 68 w) J) : xm l (d + 1) 0 0 mX12_draw [.ref 67, .int 10] (shG ru ta) I J Rp := by
  refine xm_ofK 0 (X := xxX12) (t := tX12_draw) (stop := []) (ini := false) xx12 pl12 rfl kX12_draw (fun h => by cases h) (Nat.le_of_ble_eq_true rfl) (fun K hK => ?_)
  refine And.intro (vp_b (by decide)) ?_
  refine And.intro (show ¬ ((10 : Int32) = 0) by decide) ?_
  refine And.intro (vp_b (by decide)) ?_
  refine And.intro (show ¬ ((30313 : Int32) = 0) by decide) ?_
  exact And.intro (vp_b (by decide)) (hR _ _)
set_option maxRecDepth 100000 in
set_option maxHeartbeats 4000000 in
theorem m_db91 (l : Launch) (d T : Nat) (ru ta : Nat) (I0 : XI) (J : XJ) (Rp : XR) (hR : ∀ I', FW 93 I0 T I' → Rp none (shG ru ta) I' J) : ∀ (m b n : Nat) (I : XI), b + m = 12 → m < n → FW 93 I0 T I → xrun xxX12 none false false (shG ru ta).length 0 0 none l (d + 1) tX12_dayBegins [34, 91] Rp n 91 [some (.ref 67), some (.int (nI b)), none] [] (shG ru ta) I J 0 0 := by
  intro m
  induction m with
  | zero =>
    intro b n I hb hn hF
    obtain ⟨n, rfl⟩ : ∃ n', n = n' + 1 := ⟨n - 1, by omega⟩
    have : b = 12 := by omega
    subst this
    refine xrun_step fun K hK => ?_
    exact And.intro (fun _ => hR _ hF) (fun h => absurd (show (12 : Int32) ≤ nI 12 by decide) h)
  | succ m ih =>
    intro b n I hb hn hF
    obtain ⟨n, rfl⟩ : ∃ n', n = n' + 1 := ⟨n - 1, by omega⟩
    have e : nI 28 + nI b = nI (28 + b) := nI_add 28 b
    have hv : vp_in (nI 28 + nI b) 69 := by
      rw [e]
      exact vp_in_nI (by omega) (by omega)
    refine xrun_step fun K hK => ?_
    refine And.intro (fun h => absurd h (nI_ge (a := b) (b := 12) (by omega) (by omega))) (fun _ => ?_)
    refine And.intro hv ?_
    refine And.intro (fun _ => ?_) (fun h => absurd ?_ h)
    · refine hK 91 [some (.ref 67), some (.int (nI b + 1)), none] [] (shG ru ta) I J 0 0 ?_
      rw [nI_1]
      exact ih (b + 1) n _ (by omega) (by omega) hF
    · show I 93 (nI 28 + nI b).toNatClampNeg ≤ 0
      rw [e, nI_clamp (by omega), hF.2.1 b (by omega)]
      decide
set_option maxRecDepth 100000 in
set_option maxHeartbeats 4000000 in
theorem m_db34 (l : Launch) (d T : Nat) (ru ta : Nat) (I0 : XI) (J : XJ) (Rp : XR) (h0 : I0 68 0 = 0) (hR : ∀ I', FW 93 I0 T I' → Rp none (shG ru ta) I' J) (n : Nat) (hn : 14 ≤ n) (I : XI) (hF : FW 93 I0 T I) : xrun xxX12 none false false (shG ru ta).length 0 0 none l (d + 1) tX12_dayBegins [34, 91] Rp n 34 [some (.ref 67), some (.int 0), none] [] (shG ru ta) I J 0 0 := by
  obtain ⟨n, rfl⟩ : ∃ n', n = n' + 1 := ⟨n - 1, by omega⟩
  have h0' : I 68 0 = 0 := hF.at (by decide) h0
  refine xrun_step fun K hK => ?_
  refine And.intro (vp_b (by decide)) ?_
  refine And.intro (fun _ => ?_) (fun h => absurd ?_ h)
  · exact hK _ _ _ _ _ _ _ _ (m_db91 l d T ru ta I0 J Rp hR 12 0 n I (by omega) (by omega) hF)
  · show I 68 0 ≤ 0
    rw [h0']
    decide
set_option maxRecDepth 100000 in
set_option maxHeartbeats 4000000 in
theorem m_dayBegins_0 (l : Launch) (d T : Nat) (ru ta : Nat) (I0 : XI) (J : XJ) (Rp : XR) (h0 : I0 68 0 = 0) (I : XI) (u : Int32) (h9 : T % 10 = 9) (hF : FW 93 I0 T I) (hR : ∀ I', FW 93 I0 (T + 1) I' → Rp none (shG ru ta) I' J) (I1 : XI) (r0 r1 r2 r3 : Int32) (hI1 : I1 = uI (uI (uI (uI (uI I 93 64 u) 93 12 r0) 93 13 r1) 93 14 r2) 93 15 r3) : xm l (d + 2) 0 0 mX12_dayBegins [.ref 67] (shG ru ta) I1 J Rp := by
  refine xm_ofK 20 (X := xxX12) (t := tX12_dayBegins) (stop := [34, 91]) (ini := false) xx12 pl12 rfl kX12_dayBegins (fun h => by cases h) (Nat.le_of_ble_eq_true rfl) (fun K hK => ?_)
  refine And.intro (vp_b (by decide)) ?_
  refine And.intro (vp_b (by decide)) (And.intro (vp_b (by decide)) ?_)
  refine m_draw_0 l _ _ _ _ _ _ (fun v w => ?_)
  refine And.intro (vp_b (by decide)) ?_
  refine hK 34 [some (.ref 67), some (.int 0), none] [] (shG ru ta) (uI (uI (uI (uI I1 93 64 0) 93 65 (uI I1 93 64 0 93 65 + 1)) 93 68 w) 93 66 v) J 0 0 ?_
  refine m_db34 l d (T + 1) ru ta I0 J Rp h0 hR 20 (by omega) _ (FW.set (FW.set ?_ (by omega) (by omega) (by omega)) (by omega) (by omega) (by omega))
  subst hI1
  obtain ⟨ha, hb, hc, hd⟩ := hF
  refine ⟨fun q hq => ?_, fun j hj => ?_, ?_, ?_⟩
  · rw [uI_ne hq, uI_ne hq, uI_ne hq, uI_ne hq, uI_ne hq, uI_ne hq, uI_ne hq, ha q hq]
  · rw [uI_other (by omega), uI_other (by omega), uI_other (by omega), uI_other (by omega), uI_other (by omega), uI_other (by omega), uI_other (by omega), hb j hj]
  · rw [uI_other (by omega), uI_same, show (T + 1) % 10 = 0 by omega]
    rfl
  · rw [uI_same, uI_other (by omega), uI_other (by omega), uI_other (by omega), uI_other (by omega), uI_other (by omega), uI_other (by omega), hd, nI_1, show (T + 1) / 10 = T / 10 + 1 by omega]
set_option maxRecDepth 100000 in
set_option maxHeartbeats 4000000 in
theorem m_hourPasses_0 (l : Launch) (d T : Nat) (ru ta : Nat) (I0 : XI) (J : XJ) (Rp : XR) (h0 : I0 68 0 = 0) (I : XI) (hF : FW 93 I0 T I) (hR : ∀ I', FW 93 I0 (T + 1) I' → Rp none (shG ru ta) I' J) : xm l (d + 3) 0 0 mX12_hourPasses [.ref 67] (shG ru ta) I J Rp := by
  refine xm_ofK 2 (X := xxX12) (t := tX12_hourPasses) (stop := [34]) (ini := false) xx12 pl12 rfl kX12_hourPasses (fun h => by cases h) (Nat.le_of_ble_eq_true rfl) (fun K hK => ?_)
  refine And.intro (vp_b (by decide)) (And.intro (vp_b (by decide)) ?_)
  refine And.intro (fun h => absurd h (by decide)) (fun _ => And.intro (vp_b (by decide)) ?_)
  refine And.intro (fun h => absurd h (by decide)) (fun _ => And.intro (vp_b (by decide)) ?_)
  refine And.intro (fun h => absurd h (by decide)) (fun _ => And.intro (vp_b (by decide)) ?_)
  refine And.intro (fun h => absurd h (by decide)) (fun _ => And.intro (vp_b (by decide)) ?_)
  refine And.intro (fun _ => ?_) (fun h => absurd (by decide) h)
  have e : I 93 64 + 1 = nI (T % 10 + 1) := by rw [hF.2.2.1, nI_1]
  refine hK 34 [some (.ref 67), some (.int 4)] [] (shG ru ta) (uI (uI (uI (uI (uI I 93 64 (I 93 64 + 1)) 93 12 0) 93 13 0) 93 14 0) 93 15 0) J 0 0 ?_
  refine xrun_step fun K hK => ?_
  refine And.intro (vp_b (by decide)) ?_
  have ec : uI (uI (uI (uI (uI I 93 64 (I 93 64 + 1)) 93 12 0) 93 13 0) 93 14 0) 93 15 0 93 64 = nI (T % 10 + 1) := by
    rw [uI_other (by omega), uI_other (by omega), uI_other (by omega), uI_other (by omega), uI_same, e]
  by_cases h9 : T % 10 = 9
  · refine And.intro (fun h => absurd ?_ h) (fun _ => ?_)
    · show uI (uI (uI (uI (uI I 93 64 (I 93 64 + 1)) 93 12 0) 93 13 0) 93 14 0) 93 15 0 93 64 = 10
      rw [ec, h9]
      decide
    refine m_dayBegins_0 l _ T ru ta I0 J _ h0 I (I 93 64 + 1) h9 hF (fun I' hI' => ?_) _ 0 0 0 0 rfl
    exact hR I' hI'
  · refine And.intro (fun _ => hR _ ?_) (fun h => absurd h ?_)
    · exact ((((hF.hour h9 e).set (by omega) (by omega) (by omega)).set (by omega) (by omega) (by omega)).set (by omega) (by omega) (by omega)).set (by omega) (by omega) (by omega)
    · show ¬ uI (uI (uI (uI (uI I 93 64 (I 93 64 + 1)) 93 12 0) 93 13 0) 93 14 0) 93 15 0 93 64 = 10
      rw [ec]
      intro z
      have := (nI_eq (a := T % 10 + 1) (b := 10) (by omega) (by omega)).mp z
      omega
