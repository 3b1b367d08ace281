-- ===== the whole text; feed, end, fault, by =====
/-- what reading may change, and what it leaves -/
def RDF (ta : Nat) (I I' : XI) : Prop := (∀ p, p ≠ 35 → p ≠ 30 → p ≠ 32 → p ≠ 33 → p ≠ 34 → p ≠ ta → p ≠ ta + 1 → p ≠ ta + 2 → p ≠ ta + 3 → p ≠ ta + 4 → I' p = I p) ∧ (∀ k, k ≠ 5 → I' 30 k = I 30 k) ∧ (∃ N, N ≤ 301 ∧ I' 30 5 = nI N) ∧ (∃ c, c ≤ 300 ∧ I' ta 1 = nI c) ∧ (∃ q, q ≤ 24 ∧ I' ta 5 = nI q) ∧ I' 35 6 = 1
/-- what a text is that was read: its clauses as the machine tells them -/
def TXk (ta : Nat) (tk : Nat → TK) (I' : XI) : Prop := ∃ ws c E A K k j, GT ta I' ws c E A ∧ ws.length ≤ 24 ∧ c ≤ 300 ∧ I' ta 5 = nI ws.length ∧ (∀ w, w < 5 → (w ∈ ws ↔ I' (ta + 2) w < I' (ta + 3) w)) ∧ Ex tk ((4, [], 0, [], 0), [], [], []) (0, 0) ((4, K, k, ws, j), [], E, A)
def ROK (ta : Nat) (tk : Nat → TK) (I I' : XI) : Prop := RDF ta I I' ∧ I' 35 7 = 0 ∧ I' 35 8 = -1 ∧ Ends tk (4, [], 0, [], 0) (0, 0) ∧ TXk ta tk I'
def RNO (ta : Nat) (tk : Nat → TK) (I I' : XI) : Prop := RDF ta I I' ∧ ∃ f p, I' 35 7 = nI f ∧ I' 35 8 = nI p ∧ 1 ≤ f ∧ Ends tk (4, [], 0, [], 0) (f, p)
section RD
variable {l : Launch} {ru_ ta : Nat} {rs : List XO}
abbrev rdr (l : Launch) (ru_ ta : Nat) (rs : List XO) (J : XJ) (Rp : XR) (n S pc : Nat) (lc : List (Option Value)) (I : XI) : Prop := xrun xxX5 (some .boolean) false false (shH ru_ ta rs).length 0 0 none l n tX5_read [12, 47] Rp S pc lc [] (shH ru_ ta rs) I J 0 0
set_option maxRecDepth 100000 in
set_option maxHeartbeats 1000000 in
theorem rd_47 (ht : TSP ta) {tk : Nat → TK} {N : Nat} (hk : TKN tk N) {n : Nat} (hn : 32 ≤ n) (I0 I1 : XI) (J : XJ) (Rp : XR) (hev : EV I1 tk N) (hrd : ∀ I', FC ta I1 I' → (∃ c, c ≤ 300 ∧ I' ta 1 = nI c) → (∃ q, q ≤ 24 ∧ I' ta 5 = nI q) → RDF ta I0 I') (h78 : I1 35 7 = 0 ∧ I1 35 8 = -1) (hS : ∀ I', ROK ta tk I0 I' → Rp (some (.int 1)) (shH ru_ ta rs) I' J) (hF : ∀ I', RNO ta tk I0 I' → Rp (some (.int 0)) (shH ru_ ta rs) I' J) : ∀ (M j c S : Nat) (ws : List Nat) (I' : XI), N - j ≤ M → M + 2 < S → FC ta I1 I' → (I' 35 7 = 0 ∧ I' 35 8 = -1) → CLs ta I' j c ws → c ≤ j → j < N → ws.length ≤ 24 → (∃ K k E A, GT ta I' ws c E A ∧ Rx tk ((4, [], 0, [], 0), [], [], []) ((4, K, k, ws, j), [], E, A)) → rdr l ru_ ta rs J Rp n S 47 [some (.ref 35), some (.ref ta), some (.int 1), some (.int (nI ws.length))] I' := by
  intro M
  induction M with
  | zero =>
    intro j c S ws I' hM _ _ _ _ _ hj
    omega
  | succ M ih =>
    intro j c S ws I' hM hS' f e78 h hc hj hlen ⟨K, k, E, A, gt, rx⟩
    have r : Rch tk (4, [], 0, [], 0) (4, K, k, ws, j) := rx.rch
    obtain ⟨S, rfl⟩ : ∃ n', S = n' + 2 := ⟨S - 2, by omega⟩
    have hN := hk.2.1
    have ev' := f.ev ht hev
    have tkj := h.1.tk ev' hj
    have he := tkC_end tkj (hk.2.2.2.2 j)
    refine xrun_step fun Kk hKk => ?_
    refine And.intro (fun z => absurd (show nI 24 < nI ws.length from z) (nI_nlt (by omega) (by omega))) (fun _ => ?_)
    refine And.intro (fun z => absurd z (by decide)) (fun _ => ?_)
    refine And.intro (fun z => ?_) (fun z => ?_)
    · refine And.intro (Or.inr rfl) (hS I' ⟨hrd I' f ⟨c, by omega, h.1.2.2.2⟩ ⟨ws.length, hlen, h.2.1⟩, e78.1, e78.2, r.ends (Ends.now (s4_fine (he.mp z))), ws, c, E, A, K, k, j, gt, hlen, by omega, h.2.1, h.2.2, rx, s4_fine (he.mp z)⟩)
    · obtain ⟨n, rfl⟩ : ∃ n', n = n' + 1 := ⟨n - 1, by omega⟩
      refine rd_clause ht hk (by omega) j c ws K k I' J _ ev' h hj hc (fun y => z (he.mpr y)) hlen (fun I2 ok => ?_) (fun I2 no => ?_)
      · obtain ⟨j2, c2, v, g1, g2, g3, g4, g5, g6, g7, g8⟩ := ok
        obtain ⟨E2, A2, gt2, rx2⟩ := g8 E A gt
        refine hKk 47 [some (.ref 35), some (.ref ta), some (.int 1), some (.int (nI ws.length + 1))] [] (shH ru_ ta rs) I2 J 0 0 ?_
        rw [nI_1, show ws.length + 1 = (ws ++ [v]).length by simp]
        by_cases h24 : ws.length < 24
        · exact ih j2 c2 (S + 1) (ws ++ [v]) I2 (by omega) (by omega) (f.tr g1) ⟨g2.1.trans e78.1, g2.2.trans e78.2⟩ g3 g5 g4 (by simp; omega) ⟨_, _, E2, A2, gt2, rx.tr rx2⟩
        · -- the machine would have ended there
          exfalso
          have e24 : 24 ≤ ws.length := by omega
          have nz : (tk j).1 ≠ 0 := fun y => z (he.mpr y)
          have y : ∃ q, mstep tk (4, K, k, ws, j) = .inr q := by
            by_cases a : (tk j).1 = 1 ∧ (tk j).2.1 ≤ 13
            · by_cases b : (tk j).2.1 ≤ 4 ∧ (tk j).2.1 ∈ ws
              · exact ⟨_, s4_twice a.1 b.1 b.2⟩
              · exact ⟨_, s4_many a.1 a.2 b e24⟩
            · exact ⟨_, s4_odd nz a⟩
          obtain ⟨q, hq⟩ := y
          obtain ⟨m, hm⟩ := g7
          cases m with
          | zero =>
            have e := Sum.inl.inj hm
            have e2 := congrArg (fun s : MS => s.2.2.2.2) e
            have e2 : j = j2 := e2
            omega
          | succ m =>
            rw [mit_e hq] at hm
            cases hm
      · obtain ⟨f', p, c', q, g1, g2, g3, g4, g5⟩ := no
        have ro : RNO ta tk I0 I2 := ⟨hrd I2 (f.tr g1) ⟨c', g3.1, g3.2⟩ ⟨q, g4.1, g4.2⟩, f', p, g2.1, g2.2.1, g2.2.2, r.ends g5⟩
        refine hKk 47 [some (.ref 35), some (.ref ta), some (.int 0), some (.int (nI ws.length + 1))] [] (shH ru_ ta rs) I2 J 0 0 ?_
        refine xrun_step fun Kk hKk => ?_
        exact And.intro (fun _ => And.intro (Or.inl rfl) (hF I2 ro)) (fun _ => And.intro (fun _ => And.intro (Or.inl rfl) (hF I2 ro)) (fun z => absurd rfl z))
set_option maxRecDepth 100000 in
set_option maxHeartbeats 1000000 in
theorem rd_12 (ht : TSP ta) (d : Nat) (B : Nat → Int32) (T : Nat) (hT : T ≤ 300) (I : XI) (J : XJ) (Rp : XR) (eT : I 30 1 = nI T) (hB : ∀ i, i < T → BR (I 31 i) (B i)) (hS : ∀ I', ROK ta (tkS B T) I I' → Rp (some (.int 1)) (shH ru_ ta rs) I' J) (hF : ∀ I', RNO ta (tkS B T) I I' → Rp (some (.int 0)) (shH ru_ ta rs) I' J) : rdr l ru_ ta rs J Rp (d + 32) 400 12 [some (.ref 35), some (.ref ta), none, none] (clrI I ta) := by
  have ht2 := ht
  unfold TSP at ht2
  have c30 : clrI I ta 30 = I 30 := clrI_ne (by omega) (by omega) (by omega)
  have c31 : clrI I ta 31 = I 31 := clrI_ne (by omega) (by omega) (by omega)
  refine xrun_step fun Kk hKk => ?_
  refine And.intro (Or.inr rfl) ?_
  refine tc_split l ru_ ta rs (uI (uI (uI (clrI I ta) 35 6 1) 35 7 0) 35 8 (-1)) J _ B T (d + 25) hT (by rw [uI_ne (by decide), uI_ne (by decide), uI_ne (by decide), c30]; exact eT) (fun i hi => by rw [uI_ne (by decide), uI_ne (by decide), uI_ne (by decide), c31]; exact hB i hi) (fun I2 N n1 n2 ta2 ne e0 sf => ?_)
  have hk : TKN (tkS B T) N := ⟨n1, n2, e0, ne, fun j => tkS_ok hT j⟩
  have r2 : ∀ p, p ≠ 30 → p ≠ 32 → p ≠ 33 → p ≠ 34 → p ≠ 35 → I2 p = clrI I ta p := fun p a b c d e => by rw [sf.1 p a b c d, uI_ne e, uI_ne e, uI_ne e]
  have r35 : ∀ k, I2 35 k = if k = 8 then -1 else if k = 7 then 0 else if k = 6 then 1 else clrI I ta 35 k := fun k => by rw [sf.1 35 (by decide) (by decide) (by decide) (by decide), uI_atC, uI_atC, uI_atC]
  have ev2 : EV I2 (tkS B T) N := ⟨ta2.1, ta2.2⟩
  have cta := clrI_ta (I := I) (ta := ta)
  have ev3 : EV (uI I2 35 3 (-1)) (tkS B T) N := by
    unfold EV
    rw [uI_ne (by decide), uI_ne (by decide), uI_ne (by decide), uI_ne (by decide)]
    exact ev2
  refine rd_advance l ru_ ta rs (uI I2 35 3 (-1)) J _ (d + 32) (by omega) 0 N n2 (by omega) (by rw [uI_atC, if_pos rfl]; rfl) ev3.1 ?_
  have ga := avI_fs (ta := ta) (I := uI I2 35 3 (-1)) (i := 0) ht
  refine hKk 47 [some (.ref 35), some (.ref ta), some (.int 1), some (.int (nI 0))] [] (shH ru_ ta rs) (avI (uI I2 35 3 (-1)) 0) J 0 0 ?_
  have a35 : ∀ k, k ≠ 3 → k ≠ 4 → k ≠ 5 → avI (uI I2 35 3 (-1)) 0 35 k = I2 35 k := fun k a b c => by
    unfold avI
    rw [uI_atC, if_neg c, uI_atC, if_neg b, uI_atC, if_neg a, uI_atC, if_neg a]
  have ane : ∀ p, p ≠ 35 → avI (uI I2 35 3 (-1)) 0 p = I2 p := fun p a => by
    unfold avI
    rw [uI_ne a, uI_ne a, uI_ne a, uI_ne a]
  have z78 : avI (uI I2 35 3 (-1)) 0 35 7 = 0 ∧ avI (uI I2 35 3 (-1)) 0 35 8 = -1 := by
    rw [a35 7 (by decide) (by decide) (by decide), a35 8 (by decide) (by decide) (by decide), r35, r35]
    exact ⟨rfl, rfl⟩
  refine rd_47 ht hk (by omega) I (avI (uI I2 35 3 (-1)) 0) J Rp (ev3.fe ht ga.1) (fun I' f h1 h2 => ?_) z78 hS hF 301 0 0 399 [] (avI (uI I2 35 3 (-1)) 0) (by omega) (by omega) FC.rf z78 ⟨avI_at ht ?_, ?_, fun w hw => ?_⟩ (Nat.le_refl _) (by omega) (by simp) ⟨_, _, [], [], ⟨rfl, fun i hi => absurd hi (Nat.not_lt_zero i)⟩, Rx.rf _⟩
  · refine ⟨fun p a b c d e q q1 q2 q3 q4 => ?_, fun k hk5 => ?_, ⟨N, n2, ?_⟩, h1, h2, ?_⟩
    · rw [f.1 p a q q1 q2 q3 q4, ane p a, r2 p b c d e a, clrI_ne q q2 q3]
    · rw [f.1 30 (by decide) (by omega) (by omega) (by omega) (by omega) (by omega), ane 30 (by decide), sf.2 k hk5, uI_ne (by decide), uI_ne (by decide), uI_ne (by decide), c30]
    · rw [f.1 30 (by decide) (by omega) (by omega) (by omega) (by omega) (by omega), ane 30 (by decide)]
      exact ta2.1
    · rw [f.2, a35 6 (by decide) (by decide) (by decide), r35]
      rfl
  · rw [uI_ne (by omega), r2 ta (by omega) (by omega) (by omega) (by omega) (by omega), cta.1]
    rfl
  · rw [ane ta (by omega), r2 ta (by omega) (by omega) (by omega) (by omega) (by omega), cta.2]
    rfl
  · rw [ane (ta + 2) (by omega), ane (ta + 3) (by omega), r2 (ta + 2) (by omega) (by omega) (by omega) (by omega) (by omega), r2 (ta + 3) (by omega) (by omega) (by omega) (by omega) (by omega), (clrI_law (I := I) (ta := ta) hw).1, (clrI_law (I := I) (ta := ta) hw).2]
    exact ⟨(fun z => nomatch z), fun z => absurd z (by decide)⟩
set_option maxRecDepth 100000 in
set_option maxHeartbeats 1000000 in
theorem rd_read (ht : TSP ta) (ta0 d : Nat) (B : Nat → Int32) (T : Nat) (hT : T ≤ 300) (I : XI) (J : XJ) (Rp : XR) (eT : I 30 1 = nI T) (hB : ∀ i, i < T → BR (I 31 i) (B i)) (hS : ∀ I', ROK ta (tkS B T) I I' → Rp (some (.int 1)) (shH ru_ ta rs) I' J) (hF : ∀ I', RNO ta (tkS B T) I I' → Rp (some (.int 0)) (shH ru_ ta rs) I' J) : xm l (d + 33) 0 0 mX5_read [.ref 35, .ref ta] (shH ru_ ta0 rs) I J Rp := by
  have x := rd_12 (l := l) (ru_ := ru_) (rs := rs) ht d B T hT I J Rp eT hB hS hF
  obtain rfl | rfl | rfl | rfl | rfl := id ht
  all_goals
    refine xm_ofK 400 (X := xxX5) (t := tX5_read) (stop := [12, 47]) (ini := false) xx5 pl5 rfl kX5_read (fun h => by cases h) (Nat.le_of_ble_eq_true rfl) (fun Kk hKk => ?_)
    refine rd_clear l ru_ _ rs I J _ ht (d + 32) (by omega) ?_
    exact hKk 12 _ _ _ _ _ _ _ x
end RD
set_option maxRecDepth 100000 in
theorem c_textAt (l : Launch) (d t : Nat) (ht : t < 4) (ru_ ta : Nat) (rs : List XO) (I : XI) (J : XJ) (Rp : XR) (hR : Rp (some (.ref (47 + 5 * t))) (shH ru_ ta rs) I J) : xm l (d + 1) 0 0 mX11_textAt [.ref 0, .int (nI t)] (shH ru_ ta rs) I J Rp := by
  have y : t = 0 ∨ t = 1 ∨ t = 2 ∨ t = 3 := by omega
  rcases y with rfl | rfl | rfl | rfl
  all_goals
    refine xm_ofK 0 (X := xxX11) (t := tX11_textAt) (stop := []) (ini := false) xx11 pl11 rfl kX11_textAt (fun h => by cases h) (Nat.le_of_ble_eq_true rfl) (fun K hK => ?_)
    refine And.intro (fun h => absurd h (by decide)) (fun _ => And.intro (fun h => absurd h (by decide)) (fun _ => And.intro (vp_b (by decide)) ?_))
    exact hR
theorem TSP_t {t : Nat} (h : t < 4) : TSP (47 + 5 * t) := by
  unfold TSP
  omega
/-- behind text(): what told it -/
def TXC (ta : Nat) (I I' : XI) : Prop := ∃ I1, RDF ta I I1 ∧ ((I' = uI I1 30 1 0) ∨ I' = uI (uI I1 30 1 0) 0 12 (I 0 12 + 1))
set_option maxRecDepth 100000 in
set_option maxHeartbeats 1000000 in
theorem c_text (l : Launch) (d : Nat) (ru_ ta : Nat) (rs : List XO) (B : Nat → Int32) (T t : Nat) (hT : T ≤ 300) (ht : t ≤ 4) (I : XI) (J : XJ) (Rp : XR) (et : I 0 12 = nI t) (eT : I 30 1 = nI T) (hB : ∀ i, i < T → BR (I 31 i) (B i)) (h4 : t = 4 → Rp (some (.int (-1))) (shH ru_ ta rs) I J) (hS : t < 4 → ∀ I1, ROK (47 + 5 * t) (tkS B T) I I1 → Rp (some (.int (nI t))) (shH ru_ (47 + 5 * t) rs) (uI (uI I1 30 1 0) 0 12 (nI (t + 1))) J) (hF : t < 4 → ∀ I1, RNO (47 + 5 * t) (tkS B T) I I1 → Rp (some (.int (-1))) (shH ru_ (47 + 5 * t) rs) (uI I1 30 1 0) J) : xm l (d + 34) 0 0 mX11_text [.ref 0] (shH ru_ ta rs) I J Rp := by
  rcases Nat.lt_or_ge t 4 with c | c
  · have hS := hS c
    have hF := hF c
    refine xm_ofK 0 (X := xxX11) (t := tX11_text) (stop := []) (ini := false) xx11 pl11 rfl kX11_text (fun h => by cases h) (Nat.le_of_ble_eq_true rfl) (fun K hK => ?_)
    refine And.intro (fun _ => ?_) (fun h => absurd (show I 0 12 < nI 4 by rw [et]; exact nI_lt c (by omega)) h)
    refine (show xm l (d + 33) 0 0 mX11_textAt [.ref 0, .int (I 0 12)] (shH ru_ ta rs) I J _ from ?_)
    rw [et]
    refine c_textAt l (d + 32) t c ru_ ta rs I J _ ?_
    have sOK : ∀ I1, ROK (47 + 5 * t) (tkS B T) I I1 → I1 0 12 = nI t := fun I1 h => by rw [h.1.1 0 (by decide) (by decide) (by decide) (by decide) (by decide) (by omega) (by omega) (by omega) (by omega) (by omega)]; exact et
    have x : ∀ (Rq : XR), (∀ I', ROK (47 + 5 * t) (tkS B T) I I' → Rq (some (.int 1)) (shH ru_ (47 + 5 * t) rs) I' J) → (∀ I', RNO (47 + 5 * t) (tkS B T) I I' → Rq (some (.int 0)) (shH ru_ (47 + 5 * t) rs) I' J) → xm l (d + 33) 0 0 mX5_read [.ref 35, .ref (47 + 5 * t)] (shH ru_ ta rs) I J Rq := fun Rq h1 h2 => rd_read (TSP_t c) ta d B T hT I J Rq eT hB h1 h2
    refine x _ (fun I1 ok => ?_) (fun I1 no => ?_)
    · refine And.intro (fun _ => ?_) (fun h => absurd h (by decide))
      have e := sOK I1 ok
      show Rp (some (.int (I1 0 12 + 1 - nI 1))) (shH ru_ (47 + 5 * t) rs) (uI (uI I1 30 1 0) 0 12 (I1 0 12 + 1)) J
      rw [e, nI_1, show nI (t + 1) - nI 1 = nI t from nI_pred t]
      exact hS I1 ok
    · exact And.intro (fun h => absurd rfl h) (fun _ => hF I1 no)
  · have e4 : t = 4 := by omega
    refine xm_ofK 0 (X := xxX11) (t := tX11_text) (stop := []) (ini := false) xx11 pl11 rfl kX11_text (fun h => by cases h) (Nat.le_of_ble_eq_true rfl) (fun K hK => ?_)
    exact And.intro (fun h => absurd (show I 0 12 < nI 4 from h) (by rw [et, e4]; decide)) (fun _ => h4 e4)
