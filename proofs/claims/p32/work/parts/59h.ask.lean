-- ===== the reader: asks =====
def cmpS (x : Int32) : Prop := x = nI 60 ∨ x = nI 62 ∨ x = nI 61 ∨ x = nI 35 ∨ x = nI 256 ∨ x = nI 257
theorem tkC_as {s v : Int32} {q : TK} (h : tkC s v q) (ok : tkOK q) : cmpS s ↔ isAs q = true := by
  have a := tkC_sg h ok (w := 60) (by decide)
  have b := tkC_sg h ok (w := 62) (by decide)
  have c := tkC_sg h ok (w := 61) (by decide)
  have d := tkC_sg h ok (w := 35) (by decide)
  have e := tkC_sg h ok (w := 300) (by decide)
  have f := tkC_sg h ok (w := 301) (by decide)
  have a : s = nI 60 ↔ _ := a
  have b : s = nI 62 ↔ _ := b
  have c : s = nI 61 ↔ _ := c
  have d : s = nI 35 ↔ _ := d
  have e : s = nI 256 ↔ _ := e
  have f : s = nI 257 ↔ _ := f
  unfold cmpS isAs
  rw [a, b, c, d, e, f]
  simp only [Bool.or_eq_true]
  constructor
  · rintro (z | z | z | z | z | z)
    · exact Or.inl (Or.inl (Or.inl z))
    · exact Or.inl (Or.inl (Or.inr z))
    · exact Or.inl (Or.inr (Or.inl z))
    · exact Or.inl (Or.inr (Or.inr z))
    · exact Or.inr (Or.inl z)
    · exact Or.inr (Or.inr z)
  · rintro (((z | z) | (z | z)) | (z | z))
    · exact Or.inl z
    · exact Or.inr (Or.inl z)
    · exact Or.inr (Or.inr (Or.inl z))
    · exact Or.inr (Or.inr (Or.inr (Or.inl z)))
    · exact Or.inr (Or.inr (Or.inr (Or.inr (Or.inl z))))
    · exact Or.inr (Or.inr (Or.inr (Or.inr (Or.inr z))))
theorem end_wd {tk : Nat → TK} {N j s : Nat} (h : TKN tk N) (hj : j < N) (h3 : 300 ≤ j) : isWd (tk j) s = false := by
  have e : j = N - 1 := by have := h.2.1; omega
  cases z : isWd (tk j) s with
  | false => rfl
  | true =>
    have := (wd_1 z).1
    rw [e, h.2.2.1] at this
    cases this
def Kn (r : Nat) : List Nat := List.replicate r 3 ++ [2]
theorem Kn_s (r : Nat) : 3 :: Kn r = Kn (r + 1) := by unfold Kn; rw [List.replicate_succ]; rfl
theorem opK_n : ∀ r, opK (Kn r) = r
  | 0 => rfl
  | r + 1 => by
    rw [← Kn_s, opK, opK_n r, if_pos (by decide)]
    omega
theorem cl3_n : ∀ r, cl3 (Kn r) = [2]
  | 0 => rfl
  | r + 1 => by
    rw [← Kn_s]
    exact cl3_n r
section PIECE
variable {tk : Nat → TK} {k : Nat} {ws : List Nat} {j : Nat}
/-- the pieces of an ask -/
theorem Rx.ask {r j1 j2 : Nat} {a : List Nat} {E el er : List Odr} {A : Adr} (hl : Qs tk 3 (1, 4 :: Kn r, k, ws, j) (2, 4 :: Kn r, k, ws, j1) el) (o1 : isOp (tk j1) = false) (as : isAs (tk j1) = true) (hr : Qs tk 3 (1, 5 :: Kn r, k, ws, j1 + 1) (2, 5 :: Kn r, k, ws, j2) er) (o2 : isOp (tk j2) = false) : Rx tk ((1, 4 :: Kn r, k, ws, j), (0, []) :: (List.replicate r (0, []) ++ [(0, a)]), E, A) ((3, [2], k, ws, j2), [(0, a)], E ++ (el ++ er ++ [((tk j1).2.1, 0)] ++ List.replicate r (405, 0)), A) := by
  have hlen : (List.replicate r ((0, []) : Nat × List Nat) ++ [(0, a)]).length + 1 = (4 :: Kn r).length := by
    unfold Kn
    simp
  have hlen2 : (List.replicate r ((0, []) : Nat × List Nat) ++ [(0, a)]).length + 1 = (5 :: Kn r).length := hlen
  obtain ⟨p, e1, g1, g2, g3⟩ := hl 0 [] _ E A hlen (fun y hy => by cases hy)
  have w := wk_p (r := 3) (a := []) g2 (fun y hy => by cases hy)
  have s2 : Rx tk ((2, 4 :: Kn r, k, ws, j1), (0, p ++ []) :: (List.replicate r (0, []) ++ [(0, a)]), E ++ e1, A) ((1, 5 :: Kn r, k, ws, j1 + 1), ((tk j1).2.1, []) :: (List.replicate r (0, []) ++ [(0, a)]), E ++ el, A) := by
    refine Rx.one (s2_as o1 as) ?_
    rw [xeff_2]
    unfold y2x
    dsimp only
    rw [o1]
    show (((tk j1).2.1, (wk 3 (p ++ [])).1) :: (List.replicate r (0, []) ++ [(0, a)]), E ++ e1 ++ (wk 3 (p ++ [])).2, A) = _
    rw [w, g1, List.append_assoc]
  obtain ⟨p', e1', g1', g2', g3'⟩ := hr (tk j1).2.1 [] _ (E ++ el) A hlen2 (fun y hy => by cases hy)
  have w' := wk_p (r := 3) (a := []) g2' (fun y hy => by cases hy)
  have x3r : ∀ (r : Nat) (E' : List Odr), x3 (Kn r) (List.replicate r (0, []) ++ [(0, a)]) E' = ([(0, a)], E' ++ List.replicate r (405, 0)) := by
    intro r
    induction r with
    | zero =>
      intro E'
      simp [Kn, x3]
    | succ r ih =>
      intro E'
      rw [← Kn_s, List.replicate_succ, List.cons_append, x3]
      show x3 (Kn r) _ (E' ++ [(405, 0)]) = _
      rw [ih, List.append_assoc]
      rfl
  have s3 : Rx tk ((2, 5 :: Kn r, k, ws, j2), ((tk j1).2.1, p' ++ []) :: (List.replicate r (0, []) ++ [(0, a)]), E ++ el ++ e1', A) ((3, [2], k, ws, j2), [(0, a)], E ++ (el ++ er ++ [((tk j1).2.1, 0)] ++ List.replicate r (405, 0)), A) := by
    refine Rx.one (by rw [s2_cmp o2, cl3_n]) ?_
    rw [xeff_2]
    unfold y2x
    dsimp only
    rw [o2]
    show ((x3 (Kn r) (List.replicate r (0, []) ++ [(0, a)]) (E ++ el ++ e1' ++ (wk 3 (p' ++ [])).2 ++ [((tk j1).2.1, 0)])).1, (x3 (Kn r) (List.replicate r (0, []) ++ [(0, a)]) (E ++ el ++ e1' ++ (wk 3 (p' ++ [])).2 ++ [((tk j1).2.1, 0)])).2, A) = _
    rw [x3r, w', g1']
    simp [List.append_assoc]
  exact ((g3.tr s2).tr g3').tr s3
end PIECE
-- the class's word for a comparison
def cmO (x cm : Int32) : Prop := (x = nI 60 ∧ cm = 9) ∨ (x = nI 62 ∧ cm = 11) ∨ (x = nI 61 ∧ cm = 13) ∨ (x = nI 35 ∧ cm = 14) ∨ (x = nI 256 ∧ cm = 10) ∨ (x = nI 257 ∧ cm = 12)
theorem cmO_ok {s v : Int32} {q : TK} (h : tkC s v q) (ok : tkOK q) {cm : Int32} (hc : cmO s cm) : ccd (q.2.1, 0) = cm * 10000 + 0 ∧ ∀ k t, tyo k (q.2.1, 0) (false :: false :: t) = some (true :: t) := by
  have a := tkC_sg h ok (w := 60) (by decide)
  have b := tkC_sg h ok (w := 62) (by decide)
  have c := tkC_sg h ok (w := 61) (by decide)
  have d := tkC_sg h ok (w := 35) (by decide)
  have e := tkC_sg h ok (w := 300) (by decide)
  have f := tkC_sg h ok (w := 301) (by decide)
  rcases hc with ⟨z, y⟩ | ⟨z, y⟩ | ⟨z, y⟩ | ⟨z, y⟩ | ⟨z, y⟩ | ⟨z, y⟩
  · rw [(sg_1 (a.mp z)).2, y]
    exact ⟨by decide, fun k t => rfl⟩
  · rw [(sg_1 (b.mp z)).2, y]
    exact ⟨by decide, fun k t => rfl⟩
  · rw [(sg_1 (c.mp z)).2, y]
    exact ⟨by decide, fun k t => rfl⟩
  · rw [(sg_1 (d.mp z)).2, y]
    exact ⟨by decide, fun k t => rfl⟩
  · rw [(sg_1 (e.mp z)).2, y]
    exact ⟨by decide, fun k t => rfl⟩
  · rw [(sg_1 (f.mp z)).2, y]
    exact ⟨by decide, fun k t => rfl⟩
theorem cmO_ne {x cm : Int32} (h : cmO x cm) : ¬ cm = -1 := by
  rcases h with ⟨_, y⟩ | ⟨_, y⟩ | ⟨_, y⟩ | ⟨_, y⟩ | ⟨_, y⟩ | ⟨_, y⟩ <;> rw [y] <;> decide
theorem tyNots {k : Nat} {t : List Bool} : ∀ r, tyE k (List.replicate r (405, 0)) (true :: t) = some (true :: t)
  | 0 => rfl
  | r + 1 => by
    rw [List.replicate_succ]
    unfold tyE
    exact tyNots r
/-- an ask: one yes or no more -/
def Qa (tk : Nat → TK) (k : Nat) (s t : MS) (e : List Odr) : Prop := (∀ (a : List Nat) (E : List Odr) (A : Adr), Rx tk (s, [(0, a)], E, A) (t, [(0, a)], E ++ e, A)) ∧ Typ k 20 true e
theorem Typ.ask {k m r : Nat} {el er : List Odr} {o : Odr} (h : Typ k m false el) (g : Typ k m false er) (hm : m + 1 ≤ 20) (ho : ∀ t, tyo k o (false :: false :: t) = some (true :: t)) : Typ k 20 true (el ++ er ++ [o] ++ List.replicate r (405, 0)) := fun t ht =>
  tyE_app (tyE_app (tyE_app (h t (by omega)) (g (false :: t) (by rw [List.length_cons]; omega))) (tyE_1 (ho t))) (tyNots r)
section ASK
variable {l : Launch} {ru_ ta : Nat} {rs : List XO} {tk : Nat → TK} {N : Nat} {k : Nat} {ws : List Nat}
set_option maxRecDepth 100000 in
theorem rd_cmp (l : Launch) (n : Nat) (hn : 1 ≤ n) (x : Int32) (sh : List XO) (I : XI) (J : XJ) (Rp : XR) (h1 : ∀ r : Int32, cmO x r → Rp (some (.int r)) sh I J) (h0 : ¬ cmpS x → Rp (some (.int (-1))) sh I J) : xm l n 0 0 mX5_comparisonOf [.int x] sh I J Rp := by
  obtain ⟨n, rfl⟩ : ∃ n', n = n' + 1 := ⟨n - 1, by omega⟩
  refine xm_ofK 0 (X := xxX5) (t := tX5_comparisonOf) (stop := []) (ini := false) xx5 pl5 rfl kX5_comparisonOf (fun h => by cases h) (Nat.le_of_ble_eq_true rfl) (fun K hK => ?_)
  refine And.intro (fun h => h1 14 (Or.inr (Or.inr (Or.inr (Or.inl ⟨h, rfl⟩))))) (fun n1 => ?_)
  refine And.intro (fun h => h1 9 (Or.inl ⟨h, rfl⟩)) (fun n2 => ?_)
  refine And.intro (fun h => h1 13 (Or.inr (Or.inr (Or.inl ⟨h, rfl⟩)))) (fun n3 => ?_)
  refine And.intro (fun h => h1 11 (Or.inr (Or.inl ⟨h, rfl⟩))) (fun n4 => ?_)
  refine And.intro (fun h => h1 10 (Or.inr (Or.inr (Or.inr (Or.inr (Or.inl ⟨h, rfl⟩)))))) (fun n5 => ?_)
  refine And.intro (fun h => h1 12 (Or.inr (Or.inr (Or.inr (Or.inr (Or.inr ⟨h, rfl⟩)))))) (fun n6 => ?_)
  refine h0 (fun z => ?_)
  rcases z with z | z | z | z | z | z
  · exact n2 z
  · exact n4 z
  · exact n3 z
  · exact n1 z
  · exact n5 z
  · exact n6 z
abbrev akr (l : Launch) (ru_ ta : Nat) (rs : List XO) (J : XJ) (Rp : XR) (n S pc : Nat) (lc : List (Option Value)) (I : XI) : Prop := xrun xxX5 (some .boolean) false false (shH ru_ ta rs).length 0 0 none l n tX5_ask [2, 27, 93] Rp S pc lc [] (shH ru_ ta rs) I J 0 0
set_option maxRecDepth 100000 in
set_option maxHeartbeats 1000000 in
theorem ak_93 (ht : TSP ta) {n : Nat} (hn : 1 ≤ n) (I : XI) (J : XJ) (Rp : XR) (r j2 c0 : Nat) (hr : r ≤ 8) (cm : Int32) (hc : c0 + r ≤ 300) (hR : ∀ I', FS ta I I' → ATt ta I' j2 (c0 + r) → Cem ta I I' c0 (c0 + r) (List.replicate r (405, 0)) → Rp (some (.int 1)) (shH ru_ ta rs) I' J) : ∀ (m i S : Nat) (I' : XI), i + m = r → m < S → FS ta I I' → ATt ta I' j2 (c0 + i) → Cem ta I I' c0 (c0 + i) (List.replicate i (405, 0)) → akr l ru_ ta rs J Rp n S 93 [some (.ref 35), some (.int (nI r)), some (.int cm), some (.int 1), some (.int (nI i))] I' := by
  intro m
  induction m with
  | zero =>
    intro i S I' hi hS f at1 ce
    obtain ⟨S, rfl⟩ : ∃ n', S = n' + 1 := ⟨S - 1, by omega⟩
    have e : i = r := by omega
    subst e
    refine xrun_step fun Kk hKk => ?_
    exact And.intro (fun _ => And.intro (Or.inr rfl) (hR I' f at1 ce)) (fun h => absurd (Int32.le_refl _) h)
  | succ m ih =>
    intro i S I' hi hS f at1 ce
    obtain ⟨S, rfl⟩ : ∃ n', S = n' + 1 := ⟨S - 1, by omega⟩
    refine xrun_step fun Kk hKk => ?_
    refine And.intro (fun h => absurd (show nI r ≤ nI i from h) (nI_ge (by omega) (by omega))) (fun _ => ?_)
    have go : ∀ I3, EM ta I' I3 (c0 + i) 4 0 → Kk 93 [some (.ref 35), some (.int (nI r)), some (.int cm), some (.int 1), some (.int (nI i + 1))] [] (shH ru_ ta rs) I3 J 0 0 := fun I3 em => by
      have e3 := em.at ht at1
      rw [if_pos (show c0 + i < 300 by omega)] at e3
      refine hKk 93 [some (.ref 35), some (.int (nI r)), some (.int cm), some (.int 1), some (.int (nI i + 1))] [] (shH ru_ ta rs) I3 J 0 0 ?_
      rw [nI_1]
      refine ih (i + 1) S I3 (by omega) (by omega) (f.tr (em.fs ht)) e3 ?_
      have z := ce.tr (Cem.em (q := (405, 0)) em (by omega) (by decide))
      rw [List.replicate_succ']
      exact z
    obtain rfl | rfl | rfl | rfl | rfl := id ht
    all_goals exact rd_emit l ru_ _ rs I' J _ ht n hn (c0 + i) (by omega) 4 0 at1.2.2.2 (fun I3 em => go I3 em)
set_option maxRecDepth 100000 in
set_option maxHeartbeats 1000000 in
theorem ak_93F (ht : TSP ta) {n : Nat} (hn : 1 ≤ n) (I : XI) (J : XJ) (Rp : XR) (s : MS) (r : Nat) (hr : r ≤ 8) (cm : Int32) (hF : ∀ I', NOR ta tk I s I' → Rp (some (.int 0)) (shH ru_ ta rs) I' J) : ∀ (m i S : Nat) (I' : XI), i + m = r → m < S → NOR ta tk I s I' → akr l ru_ ta rs J Rp n S 93 [some (.ref 35), some (.int (nI r)), some (.int cm), some (.int 0), some (.int (nI i))] I' := by
  intro m
  induction m with
  | zero =>
    intro i S I' hi hS f
    obtain ⟨S, rfl⟩ : ∃ n', S = n' + 1 := ⟨S - 1, by omega⟩
    have e : i = r := by omega
    subst e
    refine xrun_step fun Kk hKk => ?_
    exact And.intro (fun _ => And.intro (Or.inl rfl) (hF I' f)) (fun h => absurd (Int32.le_refl _) h)
  | succ m ih =>
    intro i S I' hi hS f
    obtain ⟨S, rfl⟩ : ∃ n', S = n' + 1 := ⟨S - 1, by omega⟩
    obtain ⟨c0, hc0, e0, hem⟩ := f.em ht
    refine xrun_step fun Kk hKk => ?_
    refine And.intro (fun h => absurd (show nI r ≤ nI i from h) (nI_ge (by omega) (by omega))) (fun _ => ?_)
    have go : ∀ I3, EM ta I' I3 c0 4 0 → Kk 93 [some (.ref 35), some (.int (nI r)), some (.int cm), some (.int 0), some (.int (nI i + 1))] [] (shH ru_ ta rs) I3 J 0 0 := fun I3 em => by
      refine hKk 93 [some (.ref 35), some (.int (nI r)), some (.int cm), some (.int 0), some (.int (nI i + 1))] [] (shH ru_ ta rs) I3 J 0 0 ?_
      rw [nI_1]
      exact ih (i + 1) S I3 (by omega) (by omega) (hem 4 0 I3 em)
    obtain rfl | rfl | rfl | rfl | rfl := id ht
    all_goals exact rd_emit l ru_ _ rs I' J _ ht n hn c0 hc0 4 0 e0 (fun I3 em => go I3 em)
set_option maxRecDepth 100000 in
set_option maxHeartbeats 2000000 in
theorem ak_27 (ht : TSP ta) (hk : TKN tk N) {n : Nat} (hn : 2 ≤ n) (hC : ∀ m, C3 l ru_ ta rs tk N k ws m n) (j c : Nat) (I : XI) (J : XJ) (Rp : XR) (hev : EV I tk N) (hc : c ≤ j) (ha : I 35 2 = nI (naL k)) (hS : ∀ I', OKR ta N tk I j c (0, [2], k, ws, j) (fun j' => (3, [2], k, ws, j')) (Qa tk k) (fun _ => True) I' → Rp (some (.int 1)) (shH ru_ ta rs) I' J) (hF : ∀ I', NOR ta tk I (0, [2], k, ws, j) I' → Rp (some (.int 0)) (shH ru_ ta rs) I' J) (r : Nat) (hr : r ≤ 8) (I1 : XI) (f1 : FS ta I I1) (at1 : ATt ta I1 (j + r) c) (hj : j + r < N) (r1 : Rch tk (0, [2], k, ws, j) (0, Kn r, k, ws, j + r)) (row1 : I1 (ta + 1) = I (ta + 1)) (x1 : ∀ (a : List Nat) (E : List Odr) (A : Adr), Rx tk ((0, [2], k, ws, j), [(0, a)], E, A) ((0, Kn r, k, ws, j + r), List.replicate r (0, []) ++ [(0, a)], E, A)) (hw : r < 8 → isWd (tk (j + r)) 21 = false) (S : Nat) (hSS : 10 < S) : akr l ru_ ta rs J Rp n (S + 1) 27 [some (.ref 35), some (.int (nI r)), none, none, none] I1 := by
  have hN := hk.2.1
  have ev1 := hev.fe ht f1.1
  have tk1 := at1.tk ev1 hj
  have hwd := tkC_wd tk1 (hk.2.2.2.2 (j + r)) (w := 21) (by omega)
  have ew : (30 : Int32) = nI (cw 21) := by decide
  refine xrun_step fun Kk hKk => ?_
  refine rd_isWord l ru_ ta rs I1 J _ n (by omega) 30 (fun g => ?_) (fun g => ?_)
  · rw [ew] at g
    have z := hwd.mp g
    have e8 : r = 8 := by
      rcases Nat.lt_or_ge r 8 with y | y
      · rw [hw y] at z
        cases z
      · omega
    refine And.intro (fun h => absurd h (by decide)) (fun _ => ?_)
    refine rd_fail l ru_ ta rs I1 J _ n (by omega) 3 (j + r) (by omega) at1.1 ?_
    exact And.intro (Or.inl rfl) (hF _ (NOR.pre f1.1 r1 (NOR.fi ht ev1 hj (by omega) at1.2.2.2 (Ends.now (s0_deep z (by rw [opK_n]; omega))))))
  · rw [ew] at g
    have nz : isWd (tk (j + r)) 21 = false := bF Iff.rfl (fun y => g (hwd.mpr y))
    have r2 : Rch tk (0, [2], k, ws, j) (1, 4 :: Kn r, k, ws, j + r) := r1.tr (Rch.step (s0_go nz) (Rch.rf _))
    have ha1 : I1 35 2 = nI (naL k) := by rw [f1.1.2.1 2 (by decide) (by decide) (by decide) (by decide) (by decide)]; exact ha
    refine And.intro (fun _ => ?_) (fun h => absurd rfl h)
    refine hC (8 - r) r (j + r) c (4 :: Kn r) I1 J _ (by omega) (by rw [opK, opK_n, if_neg (by decide)]; omega) rfl ev1 at1 hj (by omega) ha1 (fun w => absurd w (by decide)) (fun I2 ok => ?_) (fun I2 no => ?_)
    · obtain ⟨j2, c2, g1, g2, g3, g4, g5, ⟨g6, el, cel, rrl, tyl⟩, g7⟩ := ok
      have f2 : FS ta I I2 := f1.tr g1
      have ev2 := hev.fe ht f2.1
      have tk2 := g2.tk ev2 g3
      have has := tkC_as tk2 (hk.2.2.2.2 j2)
      have r3 := r2.tr g6
      refine And.intro (fun _ => ?_) (fun h => absurd h (by decide))
      refine rd_cmp l n (by omega) (I2 35 4) _ _ _ _ (fun cm hco => ?_) (fun hcm => ?_)
      · have hcm1 := cmO_ne hco
        have hcm : cmpS (I2 35 4) := by
          rcases hco with ⟨z, _⟩ | ⟨z, _⟩ | ⟨z, _⟩ | ⟨z, _⟩ | ⟨z, _⟩ | ⟨z, _⟩
          · exact Or.inl z
          · exact Or.inr (Or.inl z)
          · exact Or.inr (Or.inr (Or.inl z))
          · exact Or.inr (Or.inr (Or.inr (Or.inl z)))
          · exact Or.inr (Or.inr (Or.inr (Or.inr (Or.inl z))))
          · exact Or.inr (Or.inr (Or.inr (Or.inr (Or.inr z))))
        have hco2 := cmO_ok tk2 (hk.2.2.2.2 j2) hco
        have as := has.mp hcm
        have hlt2 : j2 + 1 < N := hk.nx g3 (by
          intro z
          unfold isAs isSg at as
          rw [z] at as
          simp at as)
        have f3 : FS ta I (avI I2 (j2 + 1)) := f2.tr (avI_fs ht)
        have r4 : Rch tk (0, [2], k, ws, j) (1, 5 :: Kn r, k, ws, j2 + 1) := r3.tr (Rch.step (s2_as g7 as) (Rch.rf _))
        refine And.intro (fun _ => ?_) (fun h => absurd h hcm1)
        refine rd_advance l ru_ ta rs I2 J _ n (by omega) (j2 + 1) N hN hlt2 (by rw [g2.1, nI_1]) ev2.1 ?_
        refine hC (8 - r) r (j2 + 1) c2 (5 :: Kn r) (avI I2 (j2 + 1)) J _ (by omega) (by rw [opK, opK_n, if_neg (by decide)]; omega) rfl (hev.fe ht f3.1) (avI_at ht g2.2.2.2) hlt2 (by omega) (by rw [f3.1.2.1 2 (by decide) (by decide) (by decide) (by decide) (by decide)]; exact ha) (fun w => absurd w (by decide)) (fun I4 ok => ?_) (fun I4 no => ?_)
        · obtain ⟨j4, c4, k1, k2, k3, k4, k5, ⟨k6, er, cer, rrr, tyr⟩, k7⟩ := ok
          have fin : ∀ I5, EM ta I4 I5 c4 cm 0 → Kk 93 [some (.ref 35), some (.int (nI r)), some (.int cm), some (.int 1), some (.int (nI 0))] [] (shH ru_ ta rs) I5 J 0 0 := fun I5 em => by
            have e5 := em.at ht k2
            rw [if_pos (show c4 < 300 by omega)] at e5
            refine hKk 93 [some (.ref 35), some (.int (nI r)), some (.int cm), some (.int 1), some (.int (nI 0))] [] (shH ru_ ta rs) I5 J 0 0 ?_
            refine ak_93 ht (by omega) I5 J Rp r j4 (c4 + 1) hr cm (by omega) (fun I' f' at' ce' => ?_) r 0 S I5 (by omega) (by omega) FS.rf e5 (Cem.rf rfl)
            refine hS I' ⟨j4, c4 + 1 + r, ((f3.tr k1).tr (em.fs ht)).tr f', at', k3, by omega, by omega, ⟨(r4.tr k6).tr (Rch.step (s2_cmp k7) ?_), el ++ er ++ [((tk j2).2.1, 0)] ++ List.replicate r (405, 0), (((cel.base row1).tr (cer.base (avI_row ht))).tr (Cem.em em (by omega) hco2.1)).tr ce', fun a E A => ?_, Typ.ask tyl tyr (by omega) (hco2.2 k)⟩, trivial⟩
            · rw [cl3_n]
              exact Rch.rf _
            · have s0 : Rx tk ((0, Kn r, k, ws, j + r), List.replicate r (0, []) ++ [(0, a)], E, A) ((1, 4 :: Kn r, k, ws, j + r), (0, []) :: (List.replicate r (0, []) ++ [(0, a)]), E, A) := Rx.one (s0_go nz) rfl
              exact ((x1 a E A).tr s0).tr (Rx.ask rrl g7 as rrr k7)
          obtain rfl | rfl | rfl | rfl | rfl := id ht
          all_goals exact rd_emit l ru_ _ rs I4 J _ ht n (by omega) c4 (by omega) cm 0 k2.2.2.2 (fun I5 em => fin I5 em)
        · have no' := NOR.pre f3.1 r4 no
          obtain ⟨c0, hc0, e0, hem⟩ := no'.em ht
          have fin : ∀ I5, EM ta I4 I5 c0 cm 0 → Kk 93 [some (.ref 35), some (.int (nI r)), some (.int cm), some (.int 0), some (.int (nI 0))] [] (shH ru_ ta rs) I5 J 0 0 := fun I5 em => by
            refine hKk 93 [some (.ref 35), some (.int (nI r)), some (.int cm), some (.int 0), some (.int (nI 0))] [] (shH ru_ ta rs) I5 J 0 0 ?_
            exact ak_93F ht (by omega) I J Rp (0, [2], k, ws, j) r hr cm hF r 0 S I5 (by omega) (by omega) (hem cm 0 I5 em)
          obtain rfl | rfl | rfl | rfl | rfl := id ht
          all_goals exact rd_emit l ru_ _ rs I4 J _ ht n (by omega) c0 hc0 cm 0 e0 (fun I5 em => fin I5 em)
      · refine And.intro (fun h => absurd rfl h) (fun _ => ?_)
        refine rd_fail l ru_ ta rs I2 J _ n (by omega) 1 j2 (by omega) g2.1 ?_
        exact And.intro (Or.inl rfl) (hF _ (NOR.pre f2.1 r3 (NOR.fi ht ev2 g3 (by omega) g2.2.2.2 (Ends.now (s2_asE g7 (bF Iff.rfl (fun y => hcm (has.mpr y))))))))
    · refine And.intro (fun h => absurd rfl h) (fun _ => ?_)
      exact And.intro (Or.inl rfl) (hF _ (NOR.pre f1.1 r2 no))
set_option maxRecDepth 100000 in
set_option maxHeartbeats 1000000 in
theorem rd_ask (ht : TSP ta) (hk : TKN tk N) {n : Nat} (hn : 2 ≤ n) (hC : ∀ m, C3 l ru_ ta rs tk N k ws m n) (j c : Nat) (I : XI) (J : XJ) (Rp : XR) (hev : EV I tk N) (hat : ATt ta I j c) (hj : j < N) (hc : c ≤ j) (ha : I 35 2 = nI (naL k)) (hS : ∀ I', OKR ta N tk I j c (0, [2], k, ws, j) (fun j' => (3, [2], k, ws, j')) (Qa tk k) (fun _ => True) I' → Rp (some (.int 1)) (shH ru_ ta rs) I' J) (hF : ∀ I', NOR ta tk I (0, [2], k, ws, j) I' → Rp (some (.int 0)) (shH ru_ ta rs) I' J) : xm l (n + 1) 0 0 mX5_ask [.ref 35] (shH ru_ ta rs) I J Rp := by
  have hN := hk.2.1
  have loop : ∀ (m r S : Nat) (I1 : XI), r + m = 8 → 20 + m < S → FS ta I I1 → ATt ta I1 (j + r) c → j + r < N → Rch tk (0, [2], k, ws, j) (0, Kn r, k, ws, j + r) → I1 (ta + 1) = I (ta + 1) → (∀ (a : List Nat) (E : List Odr) (A : Adr), Rx tk ((0, [2], k, ws, j), [(0, a)], E, A) ((0, Kn r, k, ws, j + r), List.replicate r (0, []) ++ [(0, a)], E, A)) → akr l ru_ ta rs J Rp n S 2 [some (.ref 35), some (.int (nI r)), none, none, none] I1 := by
    intro m
    induction m with
    | zero =>
      intro r S I1 hr hS' f1 at1 hj1 r1 row1 x1
      obtain ⟨S, rfl⟩ : ∃ n', S = n' + 2 := ⟨S - 2, by omega⟩
      refine xrun_step fun Kk hKk => ?_
      refine And.intro (fun _ => ?_) (fun h => absurd (show nI 8 ≤ nI r from nI_le (by omega) (by omega)) h)
      exact hKk 27 [some (.ref 35), some (.int (nI r)), none, none, none] [] (shH ru_ ta rs) I1 J 0 0 (ak_27 ht hk hn hC j c I J Rp hev hc ha hS hF r (by omega) I1 f1 at1 hj1 r1 row1 x1 (fun y => by omega) S (by omega))
    | succ m ih =>
      intro r S I1 hr hS' f1 at1 hj1 r1 row1 x1
      obtain ⟨S, rfl⟩ : ∃ n', S = n' + 2 := ⟨S - 2, by omega⟩
      have ev1 := hev.fe ht f1.1
      have tk1 := at1.tk ev1 hj1
      have hwd := tkC_wd tk1 (hk.2.2.2.2 (j + r)) (w := 21) (by omega)
      have ew : (30 : Int32) = nI (cw 21) := by decide
      refine xrun_step fun Kk hKk => ?_
      refine And.intro (fun h => absurd (show nI 8 ≤ nI r from h) (nI_ge (by omega) (by omega))) (fun _ => ?_)
      refine rd_isWord l ru_ ta rs I1 J _ n (by omega) 30 (fun g => ?_) (fun g => ?_)
      · rw [ew] at g
        have z := hwd.mp g
        have hlt := hk.nx hj1 (by rw [(wd_1 z).1]; decide)
        refine And.intro (fun h => absurd h (by decide)) (fun _ => ?_)
        refine rd_advance l ru_ ta rs I1 J _ n (by omega) (j + r + 1) N hN hlt (by rw [at1.1, nI_1]) ev1.1 ?_
        refine hKk 2 [some (.ref 35), some (.int (nI r + 1)), none, none, none] [] (shH ru_ ta rs) (avI I1 (j + r + 1)) J 0 0 ?_
        rw [nI_1]
        refine ih (r + 1) (S + 1) (avI I1 (j + r + 1)) (by omega) (by omega) (f1.tr (avI_fs ht)) (avI_at ht at1.2.2.2) hlt (r1.tr (Rch.step (s0_not z (by rw [opK_n]; omega)) ?_)) ((avI_row ht).trans row1) (fun a E A => ?_)
        · rw [Kn_s]
          exact Rch.rf _
        · have q : Rx tk ((0, Kn r, k, ws, j + r), List.replicate r (0, []) ++ [(0, a)], E, A) ((0, 3 :: Kn r, k, ws, j + r + 1), (0, []) :: (List.replicate r (0, []) ++ [(0, a)]), E, A) := Rx.one (s0_not z (by rw [opK_n]; omega)) rfl
          rw [Kn_s] at q
          exact (x1 a E A).tr q
      · rw [ew] at g
        refine And.intro (fun _ => ?_) (fun h => absurd rfl h)
        exact hKk 27 [some (.ref 35), some (.int (nI r)), none, none, none] [] (shH ru_ ta rs) I1 J 0 0 (ak_27 ht hk hn hC j c I J Rp hev hc ha hS hF r (by omega) I1 f1 at1 hj1 r1 row1 x1 (fun _ => bF Iff.rfl (fun y => g (hwd.mpr y))) S (by omega))
  refine xm_ofK 40 (X := xxX5) (t := tX5_ask) (stop := [2, 27, 93]) (ini := false) xx5 pl5 rfl kX5_ask (fun h => by cases h) (Nat.le_of_ble_eq_true rfl) (fun Kk hKk => ?_)
  exact hKk 2 [some (.ref 35), some (.int (nI 0)), none, none, none] [] (shH ru_ ta rs) I J 0 0 (loop 8 0 40 I (by omega) (by omega) FS.rf hat hj (Rch.rf _) rfl (fun a E A => Rx.rf _))
-- either
def nT (n : Nat) (t : List Bool) : List Bool := List.replicate n true ++ t
theorem nT_s (n : Nat) (t : List Bool) : nT (n + 1) t = true :: nT n t := by unfold nT; rw [List.replicate_succ]; rfl
theorem nT_1 (t : List Bool) : nT 1 t = true :: t := rfl
theorem nT_l (n : Nat) (t : List Bool) : (nT n t).length = n + t.length := by unfold nT; simp
def tl7 (w : Nat) : List Nat := if w = 1 then [407] else []
def EiR (tk : Nat → TK) (k w : Nat) (s t : MS) (e : List Odr) : Prop := (∀ (E : List Odr) (A : Adr), ∃ q e1, (q = [] ∨ q = [406]) ∧ e = e1 ++ q.map (fun y => ((y, 0) : Odr)) ∧ Rx tk (s, [(0, [])], E, A) (t, [(0, q ++ tl7 w)], E ++ e1, A)) ∧ ∀ u : List Bool, u.length + 22 ≤ 64 → tyE k e u = some (nT (w + 1) u)
def EiB (tk : Nat → TK) (k a w : Nat) (s t : MS) (e : List Odr) : Prop := (∀ (E : List Odr) (A : Adr), Rx tk (s, [(0, [])], E, A) (t, [(0, (if a = 1 then [406] else []) ++ tl7 w)], E ++ e, A)) ∧ ∀ u : List Bool, u.length + 22 ≤ 64 → tyE k e u = some (nT (a + w) u)
/-- a law: what waits at its end comes behind -/
def Ql (tk : Nat → TK) (k : Nat) (b : Bool) (s t : MS) (e : List Odr) : Prop := (∀ (E : List Odr) (A : Adr), ∃ p e1, e = e1 ++ p.map (fun y => ((y, 0) : Odr)) ∧ Rx tk (s, [(0, [])], E, A) (t, [(0, p)], E ++ e1, A)) ∧ Typ k 22 b e
theorem tyE_or {k : Nat} {u : List Bool} : tyE k [(407, 0)] (true :: true :: u) = some (true :: u) := rfl
theorem tyE_and {k : Nat} {u : List Bool} : tyE k [(406, 0)] (true :: true :: u) = some (true :: u) := rfl
section EIT
variable {tk : Nat → TK} {k : Nat} {ws : List Nat} {s : MS} {j' j2 : Nat} {e e2 : List Odr}
theorem EiR.of {t : MS} (h : Qa tk k s t e) : EiR tk k 0 s t e := ⟨fun E A => ⟨[], e, Or.inl rfl, by simp, h.1 [] E A⟩, fun u hu => h.2 u (by omega)⟩
theorem q_rk {q : List Nat} (h : q = [] ∨ q = [406]) : ∀ y, y ∈ q → 2 ≤ rkn y := by
  rcases h with rfl | rfl
  · intro y hy
    cases hy
  · intro y hy
    rw [List.mem_singleton.mp hy]
    decide
theorem tl_rk {w : Nat} : ∀ y, (tl7 w).head? = some y → rkn y < 2 := by
  intro y hy
  unfold tl7 at hy
  split at hy
  · have e : 407 = y := Option.some.inj hy
    rw [← e]
    decide
  · cases hy
theorem rk1 (y : Nat) : 1 ≤ rkn y := by
  unfold rkn
  split
  · omega
  · split
    · omega
    · split <;> omega
theorem wk_1 (p : List Nat) : wk 1 p = ([], p.map fun y => (y, 0)) := by
  have := wk_p (r := 1) (p := p) (a := []) (fun y _ => rk1 y) (fun y hy => by cases hy)
  rw [List.append_nil] at this
  exact this
theorem EiB.and {w : Nat} (h : EiR tk k w s (3, [2], k, ws, j') e) (z : isWd (tk j') 20 = true) (z19 : isWd (tk j') 19 = false) : EiB tk k 1 w s (0, [2], k, ws, j' + 1) e := by
  refine ⟨fun E A => ?_, fun u hu => by rw [h.2 u hu, Nat.add_comm]⟩
  obtain ⟨q, e1, hq, he, hr⟩ := h.1 E A
  have w2 := wk_p (r := 2) (q_rk hq) (tl_rk (w := w))
  have st : Rx tk ((3, [2], k, ws, j'), [(0, q ++ tl7 w)], E ++ e1, A) ((0, [2], k, ws, j' + 1), [(0, [406] ++ tl7 w)], E ++ e, A) := by
    refine Rx.one (s3_go (by rw [z, Bool.or_true])) ?_
    rw [xeff_3]
    unfold y3x
    dsimp only
    rw [z19, z]
    show ((0, 406 :: (wk 2 (q ++ tl7 w)).1) :: [], E ++ e1 ++ (wk 2 (q ++ tl7 w)).2, A) = _
    rw [w2, he, List.append_assoc]
    rfl
  exact hr.tr st
theorem EiB.or {w : Nat} (h : EiR tk k w s (3, [2], k, ws, j') e) (z : isWd (tk j') 19 = true) : ∀ (E : List Odr) (A : Adr), Rx tk (s, [(0, [])], E, A) ((0, [2], k, ws, j' + 1), [(0, [] ++ tl7 1)], E ++ (e ++ (tl7 w).map (fun y => ((y, 0) : Odr))), A) := by
  intro E A
  obtain ⟨q, e1, hq, he, hr⟩ := h.1 E A
  have st : Rx tk ((3, [2], k, ws, j'), [(0, q ++ tl7 w)], E ++ e1, A) ((0, [2], k, ws, j' + 1), [(0, [] ++ tl7 1)], E ++ (e ++ (tl7 w).map (fun y => ((y, 0) : Odr))), A) := by
    refine Rx.one (s3_go (by rw [z, Bool.true_or])) ?_
    rw [xeff_3]
    unfold y3x
    dsimp only
    rw [z]
    show ((0, 407 :: (wk 1 (q ++ tl7 w)).1) :: [], E ++ e1 ++ (wk 1 (q ++ tl7 w)).2, A) = _
    rw [wk_1, he, List.map_append]
    simp [List.append_assoc, tl7]
  exact hr.tr st
theorem EiB.or0 (h : EiR tk k 0 s (3, [2], k, ws, j') e) (z : isWd (tk j') 19 = true) : EiB tk k 0 1 s (0, [2], k, ws, j' + 1) e := by
  refine ⟨fun E A => ?_, fun u hu => h.2 u hu⟩
  have y := EiB.or h z E A
  have x : e ++ (tl7 0).map (fun y => ((y, 0) : Odr)) = e := by simp [tl7]
  rw [x] at y
  exact y
theorem EiB.or1 (h : EiR tk k 1 s (3, [2], k, ws, j') e) (z : isWd (tk j') 19 = true) : EiB tk k 0 1 s (0, [2], k, ws, j' + 1) (e ++ [(407, 0)]) := ⟨fun E A => EiB.or h z E A, fun u hu => tyE_app (h.2 u hu) tyE_or⟩
theorem EiR.ask1 {w : Nat} (hw : w ≤ 1) (h : EiB tk k 1 w s (0, [2], k, ws, j') e) (g : Qa tk k (0, [2], k, ws, j') (3, [2], k, ws, j2) e2) : EiR tk k w s (3, [2], k, ws, j2) (e ++ e2 ++ [(406, 0)]) := by
  refine ⟨fun E A => ⟨[406], e ++ e2, Or.inr rfl, rfl, ?_⟩, fun u hu => ?_⟩
  · have y := (h.1 E A).tr (g.1 _ _ _)
    rw [List.append_assoc] at y
    exact y
  · have a := h.2 u hu
    have b := g.2 (nT (1 + w) u) (by rw [nT_l]; omega)
    refine tyE_app (tyE_app a b) ?_
    rw [Nat.add_comm 1 w, nT_s]
    exact tyE_and
theorem EiR.ask0 (h : EiB tk k 0 1 s (0, [2], k, ws, j') e) (g : Qa tk k (0, [2], k, ws, j') (3, [2], k, ws, j2) e2) : EiR tk k 1 s (3, [2], k, ws, j2) (e ++ e2) := by
  refine ⟨fun E A => ⟨[], e ++ e2, Or.inl rfl, by simp, ?_⟩, fun u hu => ?_⟩
  · have y := (h.1 E A).tr (g.1 _ _ _)
    rw [List.append_assoc] at y
    exact y
  · exact tyE_app (h.2 u hu) (g.2 (nT (0 + 1) u) (by rw [nT_l]; omega))
theorem Ql.e0 {t : MS} (h : EiR tk k 0 s t e) : Ql tk k true s t e := by
  refine ⟨fun E A => ?_, fun u hu => h.2 u hu⟩
  obtain ⟨q, e1, _, he, hr⟩ := h.1 E A
  refine ⟨q, e1, he, ?_⟩
  have x : q ++ tl7 0 = q := by simp [tl7]
  rw [x] at hr
  exact hr
theorem Ql.e1 {t : MS} (h : EiR tk k 1 s t e) : Ql tk k true s t (e ++ [(407, 0)]) := by
  refine ⟨fun E A => ?_, fun u hu => tyE_app (h.2 u hu) tyE_or⟩
  obtain ⟨q, e1, _, he, hr⟩ := h.1 E A
  refine ⟨q ++ tl7 1, e1, ?_, hr⟩
  rw [he, List.map_append, List.append_assoc]
  rfl
theorem Ql.sum {K : List Nat} (hK : s.2.1 = [K.headD 0]) {t : MS} {m : Nat} (hm : m ≤ 22) (h : Qs tk 3 s t e) (g : Typ k m false e) : Ql tk k false s t e := by
  refine ⟨fun E A => ?_, g.mono hm⟩
  obtain ⟨p, e1, h1, _, h3⟩ := h 0 [] [] E A (by rw [hK]; rfl) (fun y hy => by cases hy)
  rw [List.append_nil] at h3
  exact ⟨p, e1, h1, h3⟩
/-- the end of a law: `;` -/
theorem Ql.end2 {b : Bool} {j4 w : Nat} {ws' : List Nat} (h : Ql tk k b s (2, [1], w, ws', j4) e) (o : isOp (tk j4) = false) (z : isSg (tk j4) 59 = true) (E : List Odr) (A : Adr) : Rx tk (s, [(0, [])], E, A) ((4, [], w, ws', j4 + 1), [], E ++ e ++ [(408, 0)], A) := by
  obtain ⟨p, e1, he, hr⟩ := h.1 E A
  refine hr.tr (Rx.one (s2_end o z) ?_)
  rw [xeff_2]
  unfold y2x
  dsimp only
  rw [o]
  show ([], E ++ e1 ++ (wk 1 p).2 ++ [(408, 0)], A) = _
  rw [wk_1, he]
  simp [List.append_assoc]
theorem Ql.end3 {b : Bool} {j4 w : Nat} {ws' : List Nat} (h : Ql tk k b s (3, [2], w, ws', j4) e) (o : (isWd (tk j4) 19 || isWd (tk j4) 20) = false) (z : isSg (tk j4) 59 = true) (E : List Odr) (A : Adr) : Rx tk (s, [(0, [])], E, A) ((4, [], w, ws', j4 + 1), [], E ++ e ++ [(408, 0)], A) := by
  obtain ⟨p, e1, he, hr⟩ := h.1 E A
  have o' := Bool.or_eq_false_iff.mp o
  refine hr.tr (Rx.one (s3_end o z) ?_)
  rw [xeff_3]
  unfold y3x
  dsimp only
  rw [o'.1, o'.2]
  show ([], E ++ e1 ++ (wk 1 p).2 ++ [(408, 0)], A) = _
  rw [wk_1, he]
  simp [List.append_assoc]
end EIT
abbrev eir (l : Launch) (ru_ ta : Nat) (rs : List XO) (J : XJ) (Rp : XR) (n S pc : Nat) (lc : List (Option Value)) (I : XI) : Prop := xrun xxX5 (some .boolean) false false (shH ru_ ta rs).length 0 0 none l n tX5_either [9, 80, 110] Rp S pc lc [] (shH ru_ ta rs) I J 0 0
abbrev EOK (ta N : Nat) (tk : Nat → TK) (I : XI) (j c k : Nat) (ws : List Nat) (I' : XI) : Prop := OKR ta N tk I j c (0, [2], k, ws, j) (fun j' => (3, [2], k, ws, j')) (Ql tk k true) (fun j' => (isWd (tk j') 19 || isWd (tk j') 20) = false) I'
set_option maxRecDepth 100000 in
set_option maxHeartbeats 1000000 in
theorem ei_110F (ht : TSP ta) {n : Nat} (hn : 1 ≤ n) (I : XI) (J : XJ) (Rp : XR) (s : MS) (hF : ∀ I', NOR ta tk I s I' → Rp (some (.int 0)) (shH ru_ ta rs) I' J) (I' : XI) (S : Nat) (w : Int32) (i4 : Option Value) (i : Nat) (h : NOR ta tk I s I') : eir l ru_ ta rs J Rp n (S + 1) 110 [some (.ref 35), some (.int 0), some (.int w), some (.int (nI i)), i4] I' := by
  obtain ⟨c0, hc0, e0, hem⟩ := h.em ht
  refine xrun_step fun Kk hKk => ?_
  refine And.intro (fun _ => And.intro (Or.inl rfl) (hF I' h)) (fun _ => ?_)
  obtain rfl | rfl | rfl | rfl | rfl := id ht
  all_goals exact rd_emit l ru_ _ rs I' J _ ht n hn c0 hc0 16 0 e0 (fun I5 em => And.intro (Or.inl rfl) (hF _ (hem 16 0 I5 em)))
set_option maxRecDepth 100000 in
set_option maxHeartbeats 1000000 in
theorem ei_110 (ht : TSP ta) {n : Nat} (hn : 1 ≤ n) (hN : N ≤ 301) (j c : Nat) (hc : c ≤ j) (I : XI) (J : XJ) (Rp : XR) (hS : ∀ I', EOK ta N tk I j c k ws I' → Rp (some (.int 1)) (shH ru_ ta rs) I' J) (I' : XI) (S j' c' w i : Nat) (i4 : Option Value) (hw : w ≤ 1) (f : FS ta I I') (at1 : ATt ta I' j' c') (hj : j' < N) (h1 : c + 1 ≤ c') (h2 : j + c' + w ≤ j' + c) (r : Rch tk (0, [2], k, ws, j) (3, [2], k, ws, j')) (ce : ∃ e, Cem ta I I' c c' e ∧ EiR tk k w (0, [2], k, ws, j) (3, [2], k, ws, j') e) (hP : (isWd (tk j') 19 || isWd (tk j') 20) = false) : eir l ru_ ta rs J Rp n (S + 1) 110 [some (.ref 35), some (.int 1), some (.int (nI w)), some (.int (nI i)), i4] I' := by
  refine xrun_step fun Kk hKk => ?_
  obtain ⟨e, ce1, ce2⟩ := ce
  refine And.intro (fun hz0 => ?_) (fun hn0 => ?_)
  · have e0 : w = 0 := by
      rcases Nat.eq_zero_or_pos w with z | z
      · exact z
      · exact absurd hz0 (nI_ne0 z (by omega))
    subst e0
    exact And.intro (Or.inr rfl) (hS I' ⟨j', c', f, at1, hj, h1, by omega, ⟨r, e, ce1, Ql.e0 ce2⟩, hP⟩)
  have e1 : w = 1 := by
    rcases Nat.eq_zero_or_pos w with z | z
    · rw [z] at hn0
      exact absurd rfl hn0
    · omega
  have fin : ∀ I5, EM ta I' I5 c' 16 0 → (((1 : Int32) = 0 ∨ (1 : Int32) = 1) ∧ Rp (some (.int 1)) (shH ru_ ta rs) I5 J) := fun I5 em => by
    have e5 := em.at ht at1
    rw [if_pos (show c' < 300 by omega)] at e5
    exact ⟨Or.inr rfl, hS I5 ⟨j', c' + 1, f.tr (em.fs ht), e5, hj, by omega, by omega, ⟨r, e ++ [(407, 0)], ce1.tr (Cem.em em (by omega) (by decide)), Ql.e1 (by rw [e1] at ce2; exact ce2)⟩, hP⟩⟩
  obtain rfl | rfl | rfl | rfl | rfl := id ht
  all_goals exact rd_emit l ru_ _ rs I' J _ ht n hn c' (by omega) 16 0 at1.2.2.2 (fun I5 em => fin I5 em)
set_option maxRecDepth 100000 in
set_option maxHeartbeats 1000000 in
theorem ei_9F (ht : TSP ta) {n : Nat} (hn : 1 ≤ n) (I : XI) (J : XJ) (Rp : XR) (s : MS) (hF : ∀ I', NOR ta tk I s I' → Rp (some (.int 0)) (shH ru_ ta rs) I' J) (I' : XI) (S : Nat) (w : Int32) (i4 : Option Value) (i : Nat) (h : NOR ta tk I s I') : eir l ru_ ta rs J Rp n (S + 2) 9 [some (.ref 35), some (.int 0), some (.int w), some (.int (nI i)), i4] I' := by
  refine xrun_step fun Kk hKk => ?_
  have x := hKk 110 [some (.ref 35), some (.int 0), some (.int w), some (.int (nI i)), i4] [] (shH ru_ ta rs) I' J 0 0 (ei_110F ht hn I J Rp s hF I' S w i4 i h)
  exact And.intro (fun _ => x) (fun _ => And.intro (fun _ => x) (fun z => absurd rfl z))
set_option maxRecDepth 100000 in
set_option maxHeartbeats 1000000 in
theorem ei_80 (ht : TSP ta) (hk : TKN tk N) {n : Nat} (hn : 2 ≤ n) (hC : ∀ m, C3 l ru_ ta rs tk N k ws m n) (j c : Nat) (I : XI) (J : XJ) (Rp : XR) (hev : EV I tk N) (hc : c ≤ j) (ha : I 35 2 = nI (naL k)) (hF : ∀ I', NOR ta tk I (0, [2], k, ws, j) I' → Rp (some (.int 0)) (shH ru_ ta rs) I' J) (I' : XI) (S j' c' w a i : Nat) (ha1 : a ≤ 1) (f : FS ta I I') (at1 : ATt ta I' j' c') (hj : j' < N) (h1 : c + 1 ≤ c') (h2 : j + c' + w + a ≤ j' + 1 + c) (hw : w ≤ 1) (ha0 : a = 0 → w = 1) (r : Rch tk (0, [2], k, ws, j) (3, [2], k, ws, j')) (ce : ∃ e, Cem ta I I' c c' e ∧ EiB tk k a w (0, [2], k, ws, j) (0, [2], k, ws, j' + 1) e) (hP : (isWd (tk j') 19 || isWd (tk j') 20) = true) (go : ∀ (I2 : XI) (j2 c2 : Nat), FS ta I I2 → ATt ta I2 j2 c2 → j2 < N → c + 1 ≤ c2 → j + c2 + w ≤ j2 + c → j' + 1 ≤ j2 → Rch tk (0, [2], k, ws, j) (3, [2], k, ws, j2) → (∃ e, Cem ta I I2 c c2 e ∧ EiR tk k w (0, [2], k, ws, j) (3, [2], k, ws, j2) e) → eir l ru_ ta rs J Rp (n + 1) (S + 2) 9 [some (.ref 35), some (.int 1), some (.int (nI w)), some (.int (nI (i + 1))), some (.int (nI a))] I2) : eir l ru_ ta rs J Rp (n + 1) (S + 3) 80 [some (.ref 35), some (.int 1), some (.int (nI w)), some (.int (nI i)), some (.int (nI a))] I' := by
  have hN := hk.2.1
  have ev' := hev.fe ht f.1
  have hlt := hk.nx hj (by
    rw [Bool.or_eq_true] at hP
    rcases hP with z | z <;> rw [(wd_1 z).1] <;> decide)
  have f1 : FS ta I (avI I' (j' + 1)) := f.tr (avI_fs ht)
  have r1 : Rch tk (0, [2], k, ws, j) (0, [2], k, ws, j' + 1) := r.tr (Rch.step (s3_go hP) (Rch.rf _))
  refine xrun_step fun Kk hKk => ?_
  refine rd_advance l ru_ ta rs I' J _ (n + 1) (by omega) (j' + 1) N hN hlt (by rw [at1.1, nI_1]) ev'.1 ?_
  refine rd_ask ht hk hn hC (j' + 1) c' (avI I' (j' + 1)) J _ (hev.fe ht f1.1) (avI_at ht at1.2.2.2) hlt (by omega) (by rw [f1.1.2.1 2 (by decide) (by decide) (by decide) (by decide) (by decide)]; exact ha) (fun I2 ok => ?_) (fun I2 no => ?_)
  · obtain ⟨j2, c2, g1, g2, g3, g4, g5, ⟨g6, e2, ce2, qa2⟩, g7⟩ := ok
    obtain ⟨e, ce1, eb⟩ := ce
    have ce3 := ce1.tr (ce2.base (avI_row (i := j' + 1) (I := I') ht))
    have k9 : ∀ (I3 : XI) (c3 : Nat), FS ta I I3 → ATt ta I3 j2 c3 → c + 1 ≤ c3 → j + c3 + w ≤ j2 + c → (∃ e, Cem ta I I3 c c3 e ∧ EiR tk k w (0, [2], k, ws, j) (3, [2], k, ws, j2) e) → Kk 9 [some (.ref 35), some (.int 1), some (.int (nI w)), some (.int (nI i + 1)), some (.int (nI a))] [] (shH ru_ ta rs) I3 J 0 0 := fun I3 c3 q1 q2 q3 q4 q5 => by
      refine hKk 9 [some (.ref 35), some (.int 1), some (.int (nI w)), some (.int (nI i + 1)), some (.int (nI a))] [] (shH ru_ ta rs) I3 J 0 0 ?_
      rw [nI_1]
      exact go I3 j2 c3 q1 q2 g3 q3 q4 (by omega) (r1.tr g6) q5
    refine And.intro (fun h0 => ?_) (fun h0 => ?_)
    · have e0 : a = 0 := by
        rcases Nat.eq_zero_or_pos a with z | z
        · exact z
        · exact absurd h0 (nI_ne0 z (by omega))
      have ew := ha0 e0
      subst e0
      subst ew
      exact k9 I2 c2 (f1.tr g1) g2 (by omega) (by omega) ⟨_, ce3, EiR.ask0 eb qa2⟩
    · have e1 : a = 1 := by
        rcases Nat.eq_zero_or_pos a with z | z
        · rw [z] at h0
          exact absurd rfl h0
        · omega
      have fin : ∀ I5, EM ta I2 I5 c2 15 0 → Kk 9 [some (.ref 35), some (.int 1), some (.int (nI w)), some (.int (nI i + 1)), some (.int (nI a))] [] (shH ru_ ta rs) I5 J 0 0 := fun I5 em => by
        have e5 := em.at ht g2
        rw [if_pos (show c2 < 300 by omega)] at e5
        exact k9 I5 (c2 + 1) ((f1.tr g1).tr (em.fs ht)) e5 (by omega) (by omega) ⟨_, ce3.tr (Cem.em em (by omega) (by decide)), EiR.ask1 hw (by rw [e1] at eb; exact eb) qa2⟩
      obtain rfl | rfl | rfl | rfl | rfl := id ht
      all_goals exact rd_emit l ru_ _ rs I2 J _ ht (n + 1) (by omega) c2 (by omega) 15 0 g2.2.2.2 (fun I5 em => fin I5 em)
  · have no' := NOR.pre f1.1 r1 no
    obtain ⟨c0, hc0, e0, hem⟩ := no'.em ht
    have k9 : ∀ (I3 : XI), NOR ta tk I (0, [2], k, ws, j) I3 → Kk 9 [some (.ref 35), some (.int 0), some (.int (nI w)), some (.int (nI i + 1)), some (.int (nI a))] [] (shH ru_ ta rs) I3 J 0 0 := fun I3 q => by
      refine hKk 9 [some (.ref 35), some (.int 0), some (.int (nI w)), some (.int (nI i + 1)), some (.int (nI a))] [] (shH ru_ ta rs) I3 J 0 0 ?_
      rw [nI_1]
      exact ei_9F ht (by omega) I J Rp _ hF I3 S (nI w) _ (i + 1) q
    refine And.intro (fun _ => k9 I2 no') (fun _ => ?_)
    obtain rfl | rfl | rfl | rfl | rfl := id ht
    all_goals exact rd_emit l ru_ _ rs I2 J _ ht (n + 1) (by omega) c0 hc0 15 0 e0 (fun I5 em => k9 I5 (hem 15 0 I5 em))
set_option maxRecDepth 100000 in
set_option maxHeartbeats 1000000 in
theorem ei_9 (ht : TSP ta) (hk : TKN tk N) {n : Nat} (hn : 2 ≤ n) (hC : ∀ m, C3 l ru_ ta rs tk N k ws m n) (j c : Nat) (I : XI) (J : XJ) (Rp : XR) (hev : EV I tk N) (hc : c ≤ j) (ha : I 35 2 = nI (naL k)) (hS : ∀ I', EOK ta N tk I j c k ws I' → Rp (some (.int 1)) (shH ru_ ta rs) I' J) (hF : ∀ I', NOR ta tk I (0, [2], k, ws, j) I' → Rp (some (.int 0)) (shH ru_ ta rs) I' J) : ∀ (M i S j' c' w : Nat) (I' : XI) (i4 : Option Value), N - j' ≤ M → 2 * M + 4 < S → i ≤ j' → w ≤ 1 → FS ta I I' → ATt ta I' j' c' → j' < N → c + 1 ≤ c' → j + c' + w ≤ j' + c → Rch tk (0, [2], k, ws, j) (3, [2], k, ws, j') → (∃ e, Cem ta I I' c c' e ∧ EiR tk k w (0, [2], k, ws, j) (3, [2], k, ws, j') e) → eir l ru_ ta rs J Rp (n + 1) S 9 [some (.ref 35), some (.int 1), some (.int (nI w)), some (.int (nI i)), i4] I' := by
  intro M
  induction M with
  | zero =>
    intro i S j' c' w I' i4 hM _ _ _ _ _ hj
    omega
  | succ M ih =>
    intro i S j' c' w I' i4 hM hS' hi hw f at1 hj h1 h2 r ce
    obtain ⟨S, rfl⟩ : ∃ n', S = n' + 4 := ⟨S - 4, by omega⟩
    have hN := hk.2.1
    have ev' := hev.fe ht f.1
    have tkj := at1.tk ev' hj
    have okj := hk.2.2.2.2 j'
    have w19 := tkC_wd tkj okj (w := 19) (by omega)
    have w20 := tkC_wd tkj okj (w := 20) (by omega)
    have e19 : (28 : Int32) = nI (cw 19) := by decide
    have e20 : (29 : Int32) = nI (cw 20) := by decide
    refine xrun_step fun Kk hKk => ?_
    have out : (isWd (tk j') 19 || isWd (tk j') 20) = false → Kk 110 [some (.ref 35), some (.int 1), some (.int (nI w)), some (.int (nI i)), i4] [] (shH ru_ ta rs) I' J 0 0 := fun hP => hKk 110 [some (.ref 35), some (.int 1), some (.int (nI w)), some (.int (nI i)), i4] [] (shH ru_ ta rs) I' J 0 0 (ei_110 ht (by omega) hN j c hc I J Rp hS I' (S + 2) j' c' w i i4 hw f at1 hj h1 h2 r ce hP)
    have go : ∀ (I3 : XI) (c3 w3 a : Nat), a ≤ 1 → w3 ≤ 1 → (a = 0 → w3 = 1) → (∃ e, Cem ta I I3 c c3 e ∧ EiB tk k a w3 (0, [2], k, ws, j) (0, [2], k, ws, j' + 1) e) → FS ta I I3 → ATt ta I3 j' c3 → c + 1 ≤ c3 → j + c3 + w3 + a ≤ j' + 1 + c → (isWd (tk j') 19 || isWd (tk j') 20) = true → Kk 80 [some (.ref 35), some (.int 1), some (.int (nI w3)), some (.int (nI i)), some (.int (nI a))] [] (shH ru_ ta rs) I3 J 0 0 := fun I3 c3 w3 a q1 q2 qa qe q3 q4 q5 q6 q7 => by
      refine hKk 80 [some (.ref 35), some (.int 1), some (.int (nI w3)), some (.int (nI i)), some (.int (nI a))] [] (shH ru_ ta rs) I3 J 0 0 ?_
      refine ei_80 ht hk hn hC j c I J Rp hev hc ha hF I3 S j' c3 w3 a i q1 q3 q4 hj q5 q6 q2 qa r qe q7 (fun I2 j2 c2 z1 z2 z3 z4 z5 z6 z7 z8 => ?_)
      exact ih (i + 1) (S + 2) j2 c2 w3 I2 _ (by omega) (by omega) (by omega) q2 z1 z2 z3 z4 z5 z7 z8
    refine And.intro (fun h3 => ?_) (fun h3 => ?_)
    · have h3 : nI 300 ≤ nI i := h3
      rw [nI_leI (by omega) (by omega)] at h3
      exact out (by rw [end_wd hk hj (by omega), end_wd hk hj (by omega)]; rfl)
    · refine And.intro (fun z => absurd z (by decide)) (fun _ => ?_)
      refine rd_isWord l ru_ ta rs I' J _ (n + 1) (by omega) 28 (fun g => ?_) (fun g => ?_)
      · rw [e19] at g
        have z := w19.mp g
        have hP : (isWd (tk j') 19 || isWd (tk j') 20) = true := by rw [z]; rfl
        have n20 : ¬ (I' 35 4 = 3 ∧ I' 35 5 = 29) := fun y => by
          rw [e20] at y
          have := (wd_1 (w20.mp y)).2
          have := (wd_1 z).2
          omega
        refine And.intro (fun _ => ?_) (fun h => absurd h (by decide))
        refine rd_isWord l ru_ ta rs I' J _ (n + 1) (by omega) 29 (fun y => absurd y n20) (fun _ => ?_)
        refine And.intro (fun h => absurd rfl h) (fun _ => ?_)
        refine And.intro (fun hw0 => ?_) (fun hw0 => ?_)
        · have e0 : w = 0 := by
            rcases Nat.eq_zero_or_pos w with y | y
            · exact y
            · exact absurd hw0 (nI_ne0 y (by omega))
          refine And.intro (fun y => absurd hw0 y) (fun _ => ?_)
          refine And.intro (fun y => absurd rfl y) (fun _ => ?_)
          subst e0
          obtain ⟨e, ce1, ce2⟩ := ce
          exact go I' c' 1 0 (by omega) (by omega) (fun _ => rfl) ⟨e, ce1, EiB.or0 ce2 z⟩ f at1 h1 (by omega) hP
        · have e1 : w = 1 := by
            rcases Nat.eq_zero_or_pos w with y | y
            · rw [y] at hw0
              exact absurd rfl hw0
            · omega
          have fin : ∀ I5, EM ta I' I5 c' 16 0 → Kk 80 [some (.ref 35), some (.int 1), some (.int (nI 1)), some (.int (nI i)), some (.int (nI 0))] [] (shH ru_ ta rs) I5 J 0 0 := fun I5 em => by
            have e5 := em.at ht at1
            rw [if_pos (show c' < 300 by omega)] at e5
            obtain ⟨e, ce1, ce2⟩ := ce
            exact go I5 (c' + 1) 1 0 (by omega) (by omega) (fun _ => rfl) ⟨e ++ [(407, 0)], ce1.tr (Cem.em em (by omega) (by decide)), EiB.or1 (by rw [e1] at ce2; exact ce2) z⟩ (f.tr (em.fs ht)) e5 (by omega) (by omega) hP
          obtain rfl | rfl | rfl | rfl | rfl := id ht
          all_goals exact rd_emit l ru_ _ rs I' J _ ht (n + 1) (by omega) c' (by omega) 16 0 at1.2.2.2 (fun I5 em => And.intro (fun _ => fin I5 em) (fun y => absurd y hw0))
      · rw [e19] at g
        have n19 : isWd (tk j') 19 = false := bF Iff.rfl (fun y => g (w19.mpr y))
        refine And.intro (fun h => absurd rfl h) (fun _ => ?_)
        refine rd_isWord l ru_ ta rs I' J _ (n + 1) (by omega) 29 (fun g2 => ?_) (fun g2 => ?_)
        · have hg2 := g2
          rw [e20] at g2
          have z := w20.mp g2
          have hP : (isWd (tk j') 19 || isWd (tk j') 20) = true := by rw [z, Bool.or_true]
          refine And.intro (fun h => absurd h (by decide)) (fun _ => ?_)
          refine rd_isWord l ru_ ta rs I' J _ (n + 1) (by omega) 29 (fun _ => ?_) (fun y => absurd hg2 y)
          refine And.intro (fun _ => ?_) (fun h => absurd h (by decide))
          refine And.intro (fun hw0 => ?_) (fun hw0 => ?_)
          · have e1 : w = 1 := by
              rcases Nat.eq_zero_or_pos w with y | y
              · rw [y] at hw0
                exact absurd rfl hw0
              · omega
            subst e1
            obtain ⟨e, ce1, ce2⟩ := ce
            exact go I' c' 1 1 (by omega) (by omega) (fun y => absurd y (by decide)) ⟨e, ce1, EiB.and ce2 z n19⟩ f at1 h1 (by omega) hP
          · have e0 : w = 0 := by
              rcases Nat.eq_zero_or_pos w with y | y
              · exact y
              · exact absurd hw0 (nI_ne0 y (by omega))
            refine And.intro (fun _ => ?_) (fun h => absurd h (by decide))
            subst e0
            obtain ⟨e, ce1, ce2⟩ := ce
            exact go I' c' 0 1 (by omega) (by omega) (fun y => absurd y (by decide)) ⟨e, ce1, EiB.and ce2 z n19⟩ f at1 h1 (by omega) hP
        · rw [e20] at g2
          refine And.intro (fun _ => ?_) (fun h => absurd rfl h)
          exact out (by rw [n19, bF Iff.rfl (fun y => g2 (w20.mpr y))]; rfl)
set_option maxRecDepth 100000 in
set_option maxHeartbeats 1000000 in
theorem rd_either (ht : TSP ta) (hk : TKN tk N) {n : Nat} (hn : 2 ≤ n) (hC : ∀ m, C3 l ru_ ta rs tk N k ws m n) (j c : Nat) (I : XI) (J : XJ) (Rp : XR) (hev : EV I tk N) (hat : ATt ta I j c) (hj : j < N) (hc : c ≤ j) (ha : I 35 2 = nI (naL k)) (hS : ∀ I', EOK ta N tk I j c k ws I' → Rp (some (.int 1)) (shH ru_ ta rs) I' J) (hF : ∀ I', NOR ta tk I (0, [2], k, ws, j) I' → Rp (some (.int 0)) (shH ru_ ta rs) I' J) : xm l (n + 2) 0 0 mX5_either [.ref 35] (shH ru_ ta rs) I J Rp := by
  have hN := hk.2.1
  refine xm_ofK 700 (X := xxX5) (t := tX5_either) (stop := [9, 80, 110]) (ini := false) xx5 pl5 rfl kX5_either (fun h => by cases h) (Nat.le_of_ble_eq_true rfl) (fun Kk hKk => ?_)
  refine rd_ask ht hk hn hC j c I J _ hev hat hj hc ha (fun I2 ok => ?_) (fun I2 no => ?_)
  · obtain ⟨j2, c2, g1, g2, g3, g4, g5, ⟨g6, e, ce1, qa⟩, g7⟩ := ok
    exact hKk 9 [some (.ref 35), some (.int 1), some (.int (nI 0)), some (.int (nI 0)), none] [] (shH ru_ ta rs) I2 J 0 0 (ei_9 ht hk hn hC j c I J Rp hev hc ha hS hF 301 0 700 j2 c2 0 I2 none (by omega) (by omega) (by omega) (by omega) g1 g2 g3 g4 (by omega) g6 ⟨e, ce1, EiR.of qa⟩)
  · exact hKk 9 [some (.ref 35), some (.int 0), some (.int (nI 0)), some (.int (nI 0)), none] [] (shH ru_ ta rs) I2 J 0 0 (ei_9F ht (by omega) I J Rp _ hF I2 698 (nI 0) none 0 no)
end ASK
