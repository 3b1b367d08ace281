-- ===== the reader: one =====
theorem i32_nlt {a b : Int32} (h : a ≤ b) : ¬ b < a := fun z => by
  have h := Int32.le_iff_toInt_le.mp h
  have z := Int32.lt_iff_toInt_lt.mp z
  omega
theorem rnm_tab : ((List.range 32).all fun v => match nmO v with
  | some n => decide (ccd (401, n) = 1 * 10000 + nI (cw v - 13))
  | none => true) = true := by decide +kernel
theorem rnm_ok {v n : Nat} (hv : v < 32) (h : nmO v = some n) : ccd (401, n) = 1 * 10000 + nI (cw v - 13) := by
  have y := List.all_eq_true.mp rnm_tab v (List.mem_range.mpr hv)
  rw [h] at y
  exact of_decide_eq_true y
theorem cc403 {v : Nat} : ccd (403, v) = 3 * 10000 + nI v := by
  show nI (30000 + v) = nI 30000 + nI v
  rw [nI_add]
theorem ty403 {k v : Nat} {t : List Bool} (h : v ≤ 100) : tyo k (403, v) (false :: t) = some (false :: t) := by
  unfold tyo
  have b : Nat.ble v 100 = true := Nat.ble_eq.mpr h
  show (match Nat.beq 403 402 || (Nat.beq 403 403 && Nat.ble v 100) with
    | true => _
    | false => _) = _
  rw [b]
  rfl
section ONE
variable {l : Launch} {ru_ ta : Nat} {rs : List XO} {tk : Nat → TK} {N : Nat} {k : Nat} {ws : List Nat}
theorem yP_ok {K : List Nat} {j i : Nat} (h8 : opK K < 8) (h : deS tk [(0, 100, 15)] (j + 1) = .inl i) : yPm tk K k ws j = .inl (1, 8 :: K, k, ws, i) := by
  unfold yPm
  rw [ble8f h8, h]
theorem yP_er {K : List Nat} {j : Nat} {r : Nat × Nat} (h8 : opK K < 8) (h : deS tk [(0, 100, 15)] (j + 1) = .inr r) : yPm tk K k ws j = .inr r := by
  unfold yPm
  rw [ble8f h8, h]
theorem yP_dp {K : List Nat} {j : Nat} (h8 : 8 ≤ opK K) : yPm tk K k ws j = .inr (ft tk 3 j) := by
  unfold yPm
  rw [Nat.ble_eq.mpr h8]
set_option maxRecDepth 100000 in
set_option maxHeartbeats 1000000 in
theorem rd_name (ht : TSP ta) (hk : TKN tk N) (h5 : k < 5) {m n : Nat} (hn : 1 ≤ n) (j c v x : Nat) (K : List Nat) (I : XI) (J : XJ) (Rp : XR) (hev : EV I tk N) (hat : ATt ta I j c) (hj : j < N) (hc : c ≤ j) (ha : I 35 2 = nI (naL k)) (h1 : (tk j).1 = 1) (hv : (tk j).2.1 = v) (hx : nmO v = some x) (hS : ∀ I', OKR ta N tk I j c (1, K, k, ws, j) (fun j' => (2, cl78 K, k, ws, j')) (Qo tk k m) (fun _ => True) I' → Rp (some (.int 1)) (shH ru_ ta rs) I' J) (hF : ∀ I', NOR ta tk I (1, K, k, ws, j) I' → Rp (some (.int 0)) (shH ru_ ta rs) I' J) : xm l (n + 1) 0 0 mX5_name [.ref 35, .int (nI (cw v - 13))] (shH ru_ ta rs) I J Rp := by
  have hN := hk.2.1
  have okj := hk.2.2.2.2 j
  have hv32 : v < 32 := by rw [← hv]; exact okj.2.1 h1
  have hnm := nm_some h5 hv32 hx
  have hlt := hk.nx hj (by omega)
  have ex : (I 35 2 >>> (nI (cw v - 13) &&& 31)) &&& 1 = nmB k v := by rw [ha]; rfl
  refine xm_ofK 0 (X := xxX5) (t := tX5_name) (stop := []) (ini := false) xx5 pl5 rfl kX5_name (fun h => by cases h) (Nat.le_of_ble_eq_true rfl) (fun Kk hKk => ?_)
  refine And.intro (fun h => ?_) (fun h => ?_)
  · have h : ¬ (I 35 2 >>> (nI (cw v - 13) &&& 31)) &&& 1 = 0 := h
    rw [ex] at h
    have hm : myN x k = true := by
      cases e : myN x k with
      | true => rfl
      | false => exact absurd (hnm.2.mpr e) h
    have fin : ∀ (I1 : XI), EM ta I I1 c 1 (nI (cw v - 13)) → ((1 : Int32) = 0 ∨ (1 : Int32) = 1) ∧ Rp (some (.int 1)) (shH ru_ ta rs) (avI I1 (j + 1)) J := by
      intro I1 em
      have a1 := em.at ht hat
      rw [if_pos (show c < 300 by omega)] at a1
      exact ⟨Or.inr rfl, hS _ ⟨j + 1, c + 1, (em.fs ht).tr (avI_fs ht), avI_at ht a1.2.2.2, hlt, by omega, by omega, ⟨Rch.step (s1_name h1 (by rw [hv]; exact hx) hm) (Rch.rf _), [(401, x)], (Cem.em em (by omega) (rnm_ok hv32 hx)).tip (avI_row ht), Q1.name h1 (by rw [hv]; exact hx) hm, Typ.name (nmO_le hv32 hx) hm (by omega)⟩, trivial⟩⟩
    have e3 : ∀ (I1 : XI) (o w : Int32), EM ta I I1 c o w → I1 35 3 + 1 = nI (j + 1) ∧ I1 30 5 = nI N := fun I1 o w em => by
      have a1 := em.at ht hat
      exact ⟨by rw [a1.1, nI_1], (hev.fe ht (em.fs ht).1).1⟩
    obtain rfl | rfl | rfl | rfl | rfl := id ht
    all_goals
      refine rd_emit l ru_ _ rs I J _ ht n (by omega) c (by omega) 1 _ hat.2.2.2 (fun I1 em => ?_)
      refine rd_advance l ru_ _ rs I1 J _ n (by omega) (j + 1) N hN hlt (e3 I1 _ _ em).1 (e3 I1 _ _ em).2 ?_
      exact fin I1 em
  · have h : (I 35 2 >>> (nI (cw v - 13) &&& 31)) &&& 1 = 0 := h
    rw [ex] at h
    refine rd_fail l ru_ ta rs I J _ n (by omega) 5 j (by omega) hat.1 ?_
    exact And.intro (Or.inl rfl) (hF _ (NOR.fi ht hev hj (by omega) hat.2.2.2 (Ends.now (s1_wrong h1 (by rw [hv]; exact hx) (hnm.2.mp h)))))
set_option maxRecDepth 100000 in
set_option maxHeartbeats 1000000 in
theorem rd_part (ht : TSP ta) (hk : TKN tk N) {m n : Nat} (hn : 2 ≤ n) (hC : C1 l ru_ ta rs tk N k ws m n) : CP l ru_ ta rs tk N k ws m (n + 1) := by
  intro δ j c K I J Rp hδ hop _ hev hat hj hc ha hp hS hF
  obtain ⟨p1, p22⟩ := hp rfl
  have hN := hk.2.1
  have h8 : opK K < 8 := by omega
  have ok1 := hk.2.2.2.2 (j + 1)
  have tk1 := hat.tk hev hj
  have hnum := tkC_num tk1 ok1
  have er : ∀ {r : Nat × Nat}, deS tk [(0, 100, 15)] (j + 1) = .inr r → Ends tk (1, K, k, ws, j) r := fun h => Ends.now ((s1_part p1 p22).trans (yP_er h8 h))
  have fail1 : ∀ (f : Nat), 1 ≤ f → deS tk [(0, 100, 15)] (j + 1) = .inr (ft tk f (j + 1)) → NOR ta tk I (1, K, k, ws, j) (FI I f (j + 1)) := fun f hf h => NOR.fi ht hev hj (by omega) hat.2.2.2 (er h) hf
  refine xm_ofK 0 (X := xxX5) (t := tX5_part) (stop := []) (ini := false) xx5 pl5 rfl kX5_part (fun h => by cases h) (Nat.le_of_ble_eq_true rfl) (fun Kk hKk => ?_)
  refine rd_number l ru_ ta rs I J _ n hn 0 100 (j + 1) N hN hj hat.1 hev.1 (fun g => hk.nx hj (by rw [hnum.mp g]; decide)) (fun g1 g2 g3 => ?_) (fun g1 g2 => ?_) (fun g => ?_)
  · have q2 := hnum.mp g1
    have ev := tkC_val tk1 ok1 q2
    have hv := ok1.2.2.1 q2
    have hlt := hk.nx hj (by rw [q2]; decide)
    have le100 : (tk (j + 1)).2.1 ≤ 100 := by
      rw [ev] at g3
      exact (nI_leI (by omega) (by omega)).mp (show nI _ ≤ nI 100 from g3)
    have f1 : FS ta I (avI I (j + 2)) := avI_fs ht
    have ev1 := hev.fe ht f1.1
    have at1 : ATt ta (avI I (j + 2)) (j + 2) c := avI_at ht hat.2.2.2
    have tk2 := at1.tk ev1 hlt
    have hwd := tkC_wd tk2 (hk.2.2.2.2 (j + 2)) (w := 15) (by omega)
    have ew : (24 : Int32) = nI (cw 15) := by decide
    refine And.intro (fun h => absurd h (by decide)) (fun _ => ?_)
    refine rd_word l ru_ ta rs (avI I (j + 2)) J _ n hn 24 (j + 2) N hN hlt at1.1 ev1.1 (fun g => hk.nx hlt (by
      rw [ew] at g
      rw [(wd_1 (hwd.mp g)).1]
      decide)) (fun g => ?_) (fun g => ?_)
    · rw [ew] at g
      have w15 := hwd.mp g
      have hlt2 := hk.nx hlt (by rw [(wd_1 w15).1]; decide)
      have f2 : FS ta I (avI (avI I (j + 2)) (j + 3)) := f1.tr (avI_fs ht)
      have sm : mstep tk (1, K, k, ws, j) = .inl (1, 8 :: K, k, ws, j + 3) := (s1_part p1 p22).trans (yP_ok h8 (de_word q2 ⟨Nat.zero_le _, le100⟩ (by decide) w15))
      have r1 : Rch tk (1, K, k, ws, j) (1, 8 :: K, k, ws, j + 3) := Rch.step sm (Rch.rf _)
      have row2 : avI (avI I (j + 2)) (j + 3) (ta + 1) = I (ta + 1) := (avI_row ht).trans (avI_row ht)
      have ew5 : I 35 5 = nI (tk (j + 1)).2.1 := ev
      have hop8 : opK (8 :: K) = δ := by
        rw [opK, if_pos (by decide)]
        omega
      refine And.intro (fun _ => ?_) (fun h => absurd h (by decide))
      refine hC δ (j + 3) c (8 :: K) (avI (avI I (j + 2)) (j + 3)) J _ hδ hop8 trivial (hev.fe ht f2.1) (avI_at ht at1.2.2.2) hlt2 (by omega) (by rw [f2.1.2.1 2 (by decide) (by decide) (by decide) (by decide) (by decide)]; exact ha) (fun z => absurd z (by decide)) (fun I2 ok => ?_) (fun I2 no => ?_)
      · obtain ⟨j2, c2, g1, g2, g3, g4, g5, ⟨g6, e1, ce1, rr1, ty1⟩, g7⟩ := ok
        have ce2 := ce1.base row2
        have rr2 := Q1.part p1 p22 sm rr1
        have ty2 : Typ k (2 * m + 1) false (e1 ++ [(403, (tk (j + 1)).2.1)]) := ty1.un (fun t => ty403 le100)
        obtain rfl | rfl | rfl | rfl | rfl := id ht
        all_goals
          refine rd_emit l ru_ _ rs I2 J _ ht n (by omega) c2 (by omega) 3 (I 35 5) g2.2.2.2 (fun I3 em => ?_)
          have e3 := em.at ht g2
          rw [if_pos (show c2 < 300 by omega)] at e3
          exact And.intro (Or.inr rfl) (hS _ ⟨j2, c2 + 1, (f2.tr g1).tr (em.fs ht), e3, g3, by omega, by omega, ⟨r1.tr g6, _, ce2.tr (Cem.em em (by omega) (by rw [ew5]; exact cc403)), rr2, ty2⟩, trivial⟩)
      · have no' := NOR.pre f2.1 r1 no
        obtain ⟨c0, hc0, e0, hem⟩ := no'.em ht
        obtain rfl | rfl | rfl | rfl | rfl := id ht
        all_goals
          refine rd_emit l ru_ _ rs I2 J _ ht n (by omega) c0 hc0 3 _ e0 (fun I3 em => ?_)
          exact And.intro (Or.inl rfl) (hF _ (hem _ _ I3 em))
    · rw [ew] at g
      refine And.intro (fun h => absurd rfl h) (fun _ => ?_)
      refine And.intro (Or.inl rfl) (hF _ (NOR.pre f1.1 (Rch.rf _) (NOR.fi ht ev1 hlt (by omega) at1.2.2.2 (er (de_odd q2 ⟨Nat.zero_le _, le100⟩ (by decide) (bF Iff.rfl (fun z => g (hwd.mpr z))))))))
  · have q2 := hnum.mp g1
    have ev := tkC_val tk1 ok1 q2
    have hv := ok1.2.2.1 q2
    refine And.intro (fun _ => ?_) (fun h => absurd rfl h)
    refine And.intro (Or.inl rfl) (hF _ (fail1 2 (by decide) (de_out q2 (fun z => ?_))))
    rcases g2 with g2 | g2
    · rw [ev] at g2
      exact nI_pos (by omega) g2
    · rw [ev] at g2
      exact g2 (show nI _ ≤ nI 100 from nI_le z.2 (by omega))
  · refine And.intro (fun _ => ?_) (fun h => absurd rfl h)
    exact And.intro (Or.inl rfl) (hF _ (fail1 1 (by decide) (de_no (fun z => g (hnum.mpr z)))))
set_option maxRecDepth 100000 in
set_option maxHeartbeats 1000000 in
theorem rd_one_118 (ht : TSP ta) (hk : TKN tk N) {m n : Nat} (hn : 2 ≤ n) (hsub : ∀ m', m = m' + 1 → CP l ru_ ta rs tk N k ws m' n ∧ C3 l ru_ ta rs tk N k ws m' n ∧ C1 l ru_ ta rs tk N k ws m' n) (δ j c : Nat) (K : List Nat) (I : XI) (J : XJ) (Rp : XR) (hδ : δ + m = 8) (hop : opK K = δ) (hev : EV I tk N) (hat : ATt ta I j c) (hj : j < N) (hc : c ≤ j) (ha : I 35 2 = nI (naL k)) (hS : ∀ I', OKR ta N tk I j c (1, K, k, ws, j) (fun j' => (2, cl78 K, k, ws, j')) (Qo tk k m) (fun _ => True) I' → Rp (some (.int 1)) (shH ru_ ta rs) I' J) (hF : ∀ I', NOR ta tk I (1, K, k, ws, j) I' → Rp (some (.int 0)) (shH ru_ ta rs) I' J) (S : Nat) (pq mq : Int32) (hcase : (pq = 1 ∧ isWd (tk j) 22 = true) ∨ (pq = 0 ∧ mq = 1 ∧ isSg (tk j) 45 = true) ∨ (pq = 0 ∧ mq = 0 ∧ isSg (tk j) 40 = true)) (o : Option Value) : xrun xxX5 (some .boolean) false false (shH ru_ ta rs).length 0 0 none l n tX5_one [73, 118] Rp (S + 1) 118 [some (.ref 35), some (.int (nI δ)), some (.int pq), some (.int mq), o] [] (shH ru_ ta rs) I J 0 0 := by
  have hN := hk.2.1
  have hn0 : (tk j).1 ≠ 0 := by
    rcases hcase with ⟨_, z⟩ | ⟨_, _, z⟩ | ⟨_, _, z⟩
    · rw [(wd_1 z).1]; decide
    · rw [(sg_1 z).1]; decide
    · rw [(sg_1 z).1]; decide
  have hlt := hk.nx hj hn0
  have f1 : FS ta I (avI I (j + 1)) := avI_fs ht
  have ev1 := hev.fe ht f1.1
  have at1 : ATt ta (avI I (j + 1)) (j + 1) c := avI_at ht hat.2.2.2
  have ha1 : avI I (j + 1) 35 2 = nI (naL k) := by rw [f1.1.2.1 2 (by decide) (by decide) (by decide) (by decide) (by decide)]; exact ha
  refine xrun_step fun Kk hKk => ?_
  refine And.intro (fun h8 => ?_) (fun h8 => ?_)
  · have h8 : nI δ < nI 8 := h8
    rw [nI_ltI (by omega) (by omega)] at h8
    obtain ⟨m', rfl⟩ : ∃ m', m = m' + 1 := ⟨m - 1, by omega⟩
    obtain ⟨sP, sS, s1⟩ := hsub m' rfl
    refine rd_advance l ru_ ta rs I J _ n (by omega) (j + 1) N hN hlt (by rw [hat.1, nI_1]) hev.1 ?_
    have hd1 : (δ + 1) + m' = 8 := by omega
    rcases hcase with ⟨rfl, z⟩ | ⟨rfl, rfl, z⟩ | ⟨rfl, rfl, z⟩
    · refine And.intro (fun h => absurd h (by decide)) (fun _ => ?_)
      show xm l n 0 0 mX5_part [.ref 35, .int (nI δ + 1)] (shH ru_ ta rs) (avI I (j + 1)) J _
      rw [nI_1]
      refine sP (δ + 1) j c K (avI I (j + 1)) J _ hd1 (by omega) trivial ev1 at1 hlt hc ha1 (fun _ => wd_1 z) (fun I2 ok => ?_) (fun I2 no => ?_)
      · exact And.intro (Or.inr rfl) (hS _ (OKR.pre f1 (avI_row ht) (fun _ _ _ q => ⟨q.1, q.2.mono (by omega)⟩) ok))
      · exact And.intro (Or.inl rfl) (hF _ (NOR.pre f1.1 (Rch.rf _) no))
    · have r1 : Rch tk (1, K, k, ws, j) (1, 7 :: K, k, ws, j + 1) := Rch.step (s1_mi z (by omega)) (Rch.rf _)
      refine And.intro (fun _ => ?_) (fun h => absurd rfl h)
      refine And.intro (fun _ => ?_) (fun h => absurd h (by decide))
      show xm l n 0 0 mX5_one [.ref 35, .int (nI δ + 1)] (shH ru_ ta rs) (avI I (j + 1)) J _
      rw [nI_1]
      refine s1 (δ + 1) (j + 1) c (7 :: K) (avI I (j + 1)) J _ hd1 (by rw [opK, if_pos (by decide)]; omega) trivial ev1 at1 hlt (by omega) ha1 (fun w => absurd w (by decide)) (fun I2 ok => ?_) (fun I2 no => ?_)
      · obtain ⟨j2, c2, g1, g2, g3, g4, g5, ⟨g6, e1, ce1, rr1, ty1⟩, g7⟩ := ok
        have ce2 := ce1.base (avI_row ht)
        have rr2 := Q1.minus z (by omega) rr1
        have ty2 : Typ k (2 * (m' + 1) + 1) false (e1 ++ [(402, 0)]) := (ty1.mono (by omega)).un (fun t => rfl)
        obtain rfl | rfl | rfl | rfl | rfl := id ht
        all_goals
          refine rd_emit l ru_ _ rs I2 J _ ht n (by omega) c2 (by omega) 2 0 g2.2.2.2 (fun I3 em => ?_)
          have e3 := em.at ht g2
          rw [if_pos (show c2 < 300 by omega)] at e3
          exact And.intro (Or.inr rfl) (hS _ ⟨j2, c2 + 1, (f1.tr g1).tr (em.fs ht), e3, g3, by omega, by omega, ⟨r1.tr g6, _, ce2.tr (Cem.em em (by omega) (by decide)), rr2, ty2⟩, trivial⟩)
      · have no' := NOR.pre f1.1 r1 no
        obtain ⟨c0, hc0, e0, hem⟩ := no'.em ht
        obtain rfl | rfl | rfl | rfl | rfl := id ht
        all_goals
          refine rd_emit l ru_ _ rs I2 J _ ht n (by omega) c0 hc0 2 0 e0 (fun I3 em => ?_)
          exact And.intro (Or.inl rfl) (hF _ (hem _ _ I3 em))
    · have r1 : Rch tk (1, K, k, ws, j) (1, 6 :: K, k, ws, j + 1) := Rch.step (s1_br z (by omega)) (Rch.rf _)
      refine And.intro (fun _ => ?_) (fun h => absurd rfl h)
      refine And.intro (fun h => absurd rfl h) (fun _ => ?_)
      show xm l n 0 0 mX5_sum [.ref 35, .int (nI δ + 1)] (shH ru_ ta rs) (avI I (j + 1)) J _
      rw [nI_1]
      refine sS (δ + 1) (j + 1) c (6 :: K) (avI I (j + 1)) J _ hd1 (by rw [opK, if_pos (by decide)]; omega) rfl ev1 at1 hlt (by omega) ha1 (fun w => absurd w (by decide)) (fun I2 ok => ?_) (fun I2 no => ?_)
      · obtain ⟨j2, c2, g1, g2, g3, g4, g5, ⟨g6, e1, ce1, rr1, ty1⟩, g7⟩ := ok
        have f2 : FS ta I I2 := f1.tr g1
        have ev2 := hev.fe ht f2.1
        have tk2 := g2.tk ev2 g3
        have hsg := tkC_sg tk2 (hk.2.2.2.2 j2) (w := 41) (by decide)
        have nx : isSg (tk j2) 41 = true → j2 + 1 < N := fun w => hk.nx g3 (by rw [(sg_1 w).1]; decide)
        refine And.intro (fun h => absurd h (by decide)) (fun _ => ?_)
        refine rd_sign l ru_ ta rs I2 J _ n hn 41 j2 N hN g3 g2.1 ev2.1 (fun w => nx (hsg.mp w)) (fun w => ?_) (fun w => ?_)
        · refine And.intro (fun h => absurd h (by decide)) (fun _ => ?_)
          exact And.intro (Or.inr rfl) (hS _ ⟨j2 + 1, c2, f2.tr (avI_fs ht), avI_at ht g2.2.2.2, nx (hsg.mp w), g4, by omega, ⟨(r1.tr g6).tr (Rch.step (s2_br g7 (hsg.mp w)) (Rch.rf _)), e1, (ce1.base (avI_row ht)).tip (avI_row ht), Q1.paren z (by omega) rr1 g7 (hsg.mp w), ty1.mono (by omega)⟩, trivial⟩)
        · refine And.intro (fun _ => ?_) (fun h => absurd rfl h)
          exact And.intro (Or.inl rfl) (hF _ (NOR.pre f2.1 (r1.tr g6) (NOR.fi ht ev2 g3 (by omega) g2.2.2.2 (Ends.now (s2_brE g7 (bF Iff.rfl (fun y => w (hsg.mpr y))))))))
      · refine And.intro (fun _ => ?_) (fun h => absurd rfl h)
        exact And.intro (Or.inl rfl) (hF _ (NOR.pre f1.1 r1 no))
  · have h8 : ¬ nI δ < nI 8 := h8
    rw [nI_ltI (by omega) (by omega)] at h8
    refine rd_fail l ru_ ta rs I J _ n (by omega) 3 j (by omega) hat.1 ?_
    refine And.intro (Or.inl rfl) (hF _ (NOR.fi ht hev hj (by omega) hat.2.2.2 (Ends.now ?_)))
    rcases hcase with ⟨rfl, z⟩ | ⟨rfl, rfl, z⟩ | ⟨rfl, rfl, z⟩
    · exact (s1_part (wd_1 z).1 (wd_1 z).2).trans (yP_dp (by omega))
    · exact s1_miD z (by omega)
    · exact s1_brD z (by omega)
theorem nm_22 : nmO 22 = none := by decide
theorem cw_31 : ((List.range 32).all fun v => match decide (cw v = 31) with
  | true => Nat.beq v 22
  | false => true) = true := by decide +kernel
set_option maxRecDepth 100000 in
set_option maxHeartbeats 1000000 in
theorem rd_one_73 (ht : TSP ta) (hk : TKN tk N) {m n : Nat} (hn : 2 ≤ n) (hsub : ∀ m', m = m' + 1 → CP l ru_ ta rs tk N k ws m' n ∧ C3 l ru_ ta rs tk N k ws m' n ∧ C1 l ru_ ta rs tk N k ws m' n) (δ j c : Nat) (K : List Nat) (I : XI) (J : XJ) (Rp : XR) (hδ : δ + m = 8) (hop : opK K = δ) (hev : EV I tk N) (hat : ATt ta I j c) (hj : j < N) (hc : c ≤ j) (ha : I 35 2 = nI (naL k)) (hS : ∀ I', OKR ta N tk I j c (1, K, k, ws, j) (fun j' => (2, cl78 K, k, ws, j')) (Qo tk k m) (fun _ => True) I' → Rp (some (.int 1)) (shH ru_ ta rs) I' J) (hF : ∀ I', NOR ta tk I (1, K, k, ws, j) I' → Rp (some (.int 0)) (shH ru_ ta rs) I' J) (S : Nat) (n2 : (tk j).1 ≠ 2) (nn : (tk j).1 = 1 → nmO (tk j).2.1 = none) : xrun xxX5 (some .boolean) false false (shH ru_ ta rs).length 0 0 none l n tX5_one [73, 118] Rp (S + 2) 73 [some (.ref 35), some (.int (nI δ)), none, none, none] [] (shH ru_ ta rs) I J 0 0 := by
  have hN := hk.2.1
  have okj := hk.2.2.2.2 j
  have tkj := hat.tk hev hj
  have hwd := tkC_wd tkj okj (w := 22) (by omega)
  have h45 := tkC_sg tkj okj (w := 45) (by decide)
  have h40 := tkC_sg tkj okj (w := 40) (by decide)
  have go : ∀ (pq mq : Int32), _ := fun pq mq hcase => rd_one_118 ht hk hn hsub δ j c K I J Rp hδ hop hev hat hj hc ha hS hF S pq mq hcase none
  have ew : (31 : Int32) = nI (cw 22) := by decide
  refine xrun_step fun Kk hKk => ?_
  refine rd_isWord l ru_ ta rs I J _ n (by omega) 31 (fun g => ?_) (fun g => ?_)
  · rw [ew] at g
    have z := hwd.mp g
    have n45 : ¬ I 35 4 = 45 := fun w => by
      have := (sg_1 (h45.mp w)).1
      have := (wd_1 z).1
      omega
    refine And.intro (fun _ => ?_) (fun w => absurd w n45)
    refine And.intro (fun _ => ?_) (fun h => absurd h (by decide))
    exact hKk 118 [some (.ref 35), some (.int (nI δ)), some (.int 1), some (.int 0), none] [] (shH ru_ ta rs) I J 0 0 (go 1 0 (Or.inl ⟨rfl, z⟩))
  · rw [ew] at g
    have n22 : isWd (tk j) 22 = false := bF Iff.rfl (fun z => g (hwd.mpr z))
    refine And.intro (fun g45 => ?_) (fun g45 => ?_)
    · refine And.intro (fun h => absurd rfl h) (fun _ => ?_)
      refine And.intro (fun h => absurd rfl h) (fun _ => ?_)
      refine And.intro (fun g40 => ?_) (fun g40 => ?_)
      · exact hKk 118 [some (.ref 35), some (.int (nI δ)), some (.int 0), some (.int 0), none] [] (shH ru_ ta rs) I J 0 0 (go 0 0 (Or.inr (Or.inr ⟨rfl, rfl, h40.mp g40⟩)))
      · refine rd_fail l ru_ ta rs I J _ n (by omega) 1 j (by omega) hat.1 ?_
        refine And.intro (Or.inl rfl) (hF _ (NOR.fi ht hev hj (by omega) hat.2.2.2 (Ends.now ?_)))
        by_cases e1 : (tk j).1 = 1
        · refine s1_word e1 (nn e1) (fun z => ?_)
          rw [wd_of e1 z] at n22
          cases n22
        · exact s1_no n2 e1 (bF Iff.rfl (fun z => g40 (h40.mpr z))) (bF Iff.rfl (fun z => g45 (h45.mpr z)))
    · refine And.intro (fun h => absurd rfl h) (fun _ => ?_)
      refine And.intro (fun _ => ?_) (fun h => absurd h (by decide))
      exact hKk 118 [some (.ref 35), some (.int (nI δ)), some (.int 0), some (.int 1), none] [] (shH ru_ ta rs) I J 0 0 (go 0 1 (Or.inr (Or.inl ⟨rfl, rfl, h45.mp g45⟩)))
set_option maxRecDepth 100000 in
set_option maxHeartbeats 1000000 in
theorem rd_one (ht : TSP ta) (hk : TKN tk N) (h5 : k < 5) {m n : Nat} (hn : 2 ≤ n) (hsub : ∀ m', m = m' + 1 → CP l ru_ ta rs tk N k ws m' n ∧ C3 l ru_ ta rs tk N k ws m' n ∧ C1 l ru_ ta rs tk N k ws m' n) : C1 l ru_ ta rs tk N k ws m (n + 1) := by
  intro δ j c K I J Rp hδ hop _ hev hat hj hc ha _ hS hF
  have hat : ATt ta I j c := hat
  have hj : j < N := hj
  have hop : opK K = δ := hop
  have hN := hk.2.1
  have okj := hk.2.2.2.2 j
  have tkj := hat.tk hev hj
  have hnum := tkC_num tkj okj
  have go : ∀ (n2 : (tk j).1 ≠ 2) (nn : (tk j).1 = 1 → nmO (tk j).2.1 = none), _ := fun n2 nn => rd_one_73 ht hk hn hsub δ j c K I J Rp hδ hop hev hat hj hc ha hS hF 0 n2 nn
  refine xm_ofK 2 (X := xxX5) (t := tX5_one) (stop := [73, 118]) (ini := false) xx5 pl5 rfl kX5_one (fun h => by cases h) (Nat.le_of_ble_eq_true rfl) (fun Kk hKk => ?_)
  have k73 : (tk j).1 ≠ 2 → ((tk j).1 = 1 → nmO (tk j).2.1 = none) → Kk 73 [some (.ref 35), some (.int (nI δ)), none, none, none] [] (shH ru_ ta rs) I J 0 0 := fun n2 nn => hKk 73 [some (.ref 35), some (.int (nI δ)), none, none, none] [] (shH ru_ ta rs) I J 0 0 (go n2 nn)
  refine And.intro (fun h2 => ?_) (fun h2 => ?_)
  · have n2 : (tk j).1 ≠ 2 := fun z => h2 (hnum.mpr z)
    -- is it a word?
    rcases tkC_el tkj okj with ⟨e, z⟩ | ⟨e, z, y⟩ | ⟨e, z, _⟩ | ⟨e, z⟩ | ⟨e, z⟩
    · refine And.intro (fun _ => k73 n2 (fun w => by omega)) (fun w => absurd (z.symm.trans w) (by decide))
    · have hv := okj.2.1 e
      have hcw := cw_lt (k := (tk j).2.1)
      refine And.intro (fun w => absurd z w) (fun _ => ?_)
      have no : ¬ (13 ≤ cw (tk j).2.1 ∧ cw (tk j).2.1 ≤ 23) → nmO (tk j).2.1 = none := fun w => by
        cases hq : nmO (tk j).2.1 with
        | none => rfl
        | some x => exact absurd (nm_some h5 hv hq).1 w
      refine And.intro (fun w => ?_) (fun w => And.intro (fun w2 => ?_) (fun w2 => ?_))
      · have w : I 35 5 < nI 13 := w
        rw [y, nI_ltI (by omega) (by omega)] at w
        exact k73 n2 (fun _ => no (fun u => by omega))
      · have w2 : nI 23 < I 35 5 := w2
        rw [y, nI_ltI (by omega) (by omega)] at w2
        exact k73 n2 (fun _ => no (fun u => by omega))
      · have w : ¬ I 35 5 < nI 13 := w
        have w2 : ¬ nI 23 < I 35 5 := w2
        rw [y, nI_ltI (by omega) (by omega)] at w w2
        cases hq : nmO (tk j).2.1 with
        | none => exact absurd ⟨by omega, by omega⟩ (nm_none hv hq)
        | some x =>
          obtain ⟨n, rfl⟩ : ∃ n', n = n' + 1 := ⟨n - 1, by omega⟩
          show xm l (n + 1) 0 0 mX5_name [.ref 35, .int (I 35 5 - nI 13)] (shH ru_ ta rs) I J _
          rw [y, nI_subI (by omega) (by omega)]
          refine rd_name (m := m) (ws := ws) ht hk h5 (by omega) j c (tk j).2.1 x K I J _ hev hat hj hc ha e rfl hq (fun I2 ok => ?_) (fun I2 no => ?_)
          · exact And.intro (Or.inr rfl) (hS _ ok)
          · exact And.intro (Or.inl rfl) (hF _ no)
    · exact absurd e n2
    · have gs := sgC_ge (okj.2.2.2.1 e)
      refine And.intro (fun _ => k73 n2 (fun w => by omega)) (fun w => ?_)
      have w : I 35 4 = nI 3 := w
      rw [z] at w
      have := (nI_eq (by omega) (by omega)).mp w
      omega
    · refine And.intro (fun _ => k73 n2 (fun w => by omega)) (fun w3 => ?_)
      rcases z with z | ⟨z, y⟩
      · exact absurd (z.symm.trans w3) (by decide)
      · refine And.intro (fun _ => k73 n2 (fun w => by omega)) (fun w => ?_)
        exfalso
        have w : ¬ I 35 5 < 13 := w
        rw [y] at w
        exact w (by decide)
  · have q2 := hnum.mp h2
    have ev := tkC_val tkj okj q2
    have hv := okj.2.2.1 q2
    have hlt := hk.nx hj (by rw [q2]; decide)
    have big : ∀ (I1 : XI), (∃ o w, EM ta I I1 c o w) → (I1 35 5 < 0 ∨ ¬ I1 35 5 ≤ nI 9999) → NOR ta tk I (1, K, k, ws, j) (FI I1 2 j) := by
      rintro I1 ⟨o, w, em⟩ h
      have a1 := em.at ht hat
      have f1 := em.fs ht
      have e5 : I1 35 5 = nI (tk j).2.1 := by rw [em.1 35 (by have := ht.ne; omega) (by have := ht.ne; omega)]; exact ev
      rw [e5] at h
      refine NOR.pre f1.1 (Rch.rf _) (NOR.fi ht (hev.fe ht f1.1) hj ?_ a1.2.2.2 (Ends.now (s1_big q2 ?_)))
      · split <;> omega
      · rcases h with h | h
        · exact absurd h (nI_pos (by omega))
        · rw [nI_leI (by omega) (by omega)] at h
          omega
    have good : ∀ (I1 : XI) (w : Int32), EM ta I I1 c 0 w → (I 35 5 ≤ nI 9999 → w = I 35 5) → I1 35 5 ≤ nI 9999 → OKR ta N tk I j c (1, K, k, ws, j) (fun j' => (2, cl78 K, k, ws, j')) (Qo tk k m) (fun _ => True) (avI I1 (j + 1)) := by
      intro I1 w em hw h
      have a1 := em.at ht hat
      rw [if_pos (show c < 300 by omega)] at a1
      have e5 : I1 35 5 = nI (tk j).2.1 := by rw [em.1 35 (by have := ht.ne; omega) (by have := ht.ne; omega)]; exact ev
      have h0 := h
      rw [e5, nI_leI (by omega) (by omega)] at h
      have ew : ccd (400, (tk j).2.1) = 0 * 10000 + w := by
        rw [hw (by rw [ev, ← e5]; exact h0), ev, Int32.zero_mul, Int32.zero_add]
        rfl
      exact ⟨j + 1, c + 1, (em.fs ht).tr (avI_fs ht), avI_at ht a1.2.2.2, hlt, by omega, by omega, ⟨Rch.step (s1_num q2 (by omega)) (Rch.rf _), [(400, (tk j).2.1)], (Cem.em em (by omega) ew).tip (avI_row ht), Q1.num q2 (by omega), Typ.num (by omega) (by omega)⟩, trivial⟩
    have e35 : ∀ (I1 : XI), (∃ o w, EM ta I I1 c o w) → I1 35 3 = nI j ∧ I1 30 5 = nI N ∧ I1 35 4 = 2 := by
      rintro I1 ⟨o, w, em⟩
      have f1 := em.fs ht
      have e := em.1 35 (by have := ht.ne; omega) (by have := ht.ne; omega)
      exact ⟨by rw [e]; exact hat.1, (hev.fe ht f1.1).1, by rw [e]; exact h2⟩
    obtain rfl | rfl | rfl | rfl | rfl := id ht
    all_goals
      refine rd_emit l ru_ _ rs I J _ ht n (by omega) c (by omega) 0 _ hat.2.2.2 (fun I1 em => ?_)
      have e1 := e35 I1 ⟨_, _, em⟩
      refine rd_number l ru_ _ rs I1 J _ n hn 0 9999 j N hN hj e1.1 e1.2.1 (fun _ => hlt) (fun _ _ g3 => ?_) (fun _ g2 => ?_) (fun g => absurd e1.2.2 g)
      · exact And.intro (Or.inr rfl) (hS _ (good I1 _ em (fun h => if_neg (i32_nlt h)) g3))
      · exact And.intro (Or.inl rfl) (hF _ (big I1 ⟨_, _, em⟩ g2))
/-- all of them, as deep as is asked -/
theorem rd_all (ht : TSP ta) (hk : TKN tk N) (h5 : k < 5) : ∀ (m n : Nat), 3 * m + 3 ≤ n → C1 l ru_ ta rs tk N k ws m n := by
  intro m
  induction m with
  | zero =>
    intro n hn
    obtain ⟨n, rfl⟩ : ∃ n', n = n' + 1 := ⟨n - 1, by omega⟩
    exact rd_one ht hk h5 (by omega) (fun m' h => by omega)
  | succ m ih =>
    intro n hn
    obtain ⟨n, rfl⟩ : ∃ n', n = n' + 3 := ⟨n - 3, by omega⟩
    refine rd_one ht hk h5 (by omega) (fun m' h => ?_)
    have e : m = m' := by omega
    subst e
    exact ⟨rd_part ht hk (by omega) (ih (n + 1) (by omega)), rd_sum ht hk (by omega) (rd_product ht hk (by omega) (ih n (by omega))), ih (n + 2) (by omega)⟩
theorem rd_sums (ht : TSP ta) (hk : TKN tk N) (h5 : k < 5) (m n : Nat) (hn : 3 * m + 5 ≤ n) : C3 l ru_ ta rs tk N k ws m n := by
  obtain ⟨n, rfl⟩ : ∃ n', n = n' + 2 := ⟨n - 2, by omega⟩
  exact rd_sum ht hk (by omega) (rd_product ht hk (by omega) (rd_all ht hk h5 m n (by omega)))
end ONE
