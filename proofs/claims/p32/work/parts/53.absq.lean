-- ===== a method's check is right =====
def stA (A : AA) : AS := (A.1, A.2.1, A.2.2.1, A.2.2.2.1)
def muOk (N : Nat) (A : AA) : Bool := Nat.ble A.2.2.2.2.2.2.length A.1.length && ile (ubL (A.2.2.2.2.2.2.map fun x => -x) A.1) A.2.2.2.2.2.1 && ile (A.2.2.2.2.2.1 + ubL A.2.2.2.2.2.2 A.1 + 1) N
def aArgs : Nat → List AG → List AV
  | _, [] => []
  | j, .inl _ :: gs => .inl (j, 0) :: aArgs (j + 1) gs
  | j, .inr (.inl ps) :: gs => .inr (.inl ps) :: aArgs j gs
  | j, .inr (.inr _) :: gs => .inr (.inr 1) :: .inr (.inr 0) :: aArgs j gs
def aInts : List AG → AE
  | [] => []
  | .inl r :: gs => r :: aInts gs
  | .inr _ :: gs => aInts gs
def aPad : Nat → List AV → List AV
  | 0, l => l
  | n + 1, [] => .inr (.inr 0) :: aPad n []
  | n + 1, a :: l => a :: aPad n l
def preT : Nat → List (Nat × Nat × Int × Int) → AT
  | _, [] => []
  | j, e :: l => (e.1, e.2.1, j, 0) :: preT (j + 1) l
def aChk (QP : List Nat) (C : AC) (c : AK) (G : List (Nat × AK)) (X : XX) (M : XM) (t : XT) (anns : List (Nat × AA)) (skip : List Nat) (N : Nat) : Bool := (QP.all fun p => !(nmem p c.2.2.1)) && Nat.ble 1 c.1 && Nat.ble (aArgs 1 c.2.1).length M.2.2.1 && aN C c.2.2.1 c.2.2.2.1 G (c.1 - 1) c.2.2.2.2.1 X M.2.2.2 t (anns.map fun q => q.1) (kkA C ((aInts c.2.1).length + 1) anns none) 0 ((0, 0) :: (aInts c.2.1 ++ c.2.2.2.2.2.map fun e => e.2.2), aPad M.2.2.1 (aArgs 1 c.2.1), [], preT ((aInts c.2.1).length + 1) c.2.2.2.2.2) && anns.all fun q => muOk N q.2 && (nmem q.1 skip || aN C c.2.2.1 c.2.2.2.1 G (c.1 - 1) c.2.2.2.2.1 X M.2.2.2 t (anns.map fun q => q.1) (kkA C ((aInts c.2.1).length + 1) anns (some q.2.2.2.2.2.2)) q.1 (stA q.2))
theorem iv_okZ {R : List Int} {E : AE} {q : Nat × Int} {z : Int} {r : Int × Int} (hE : envO R E) (hz : xn R q.1 = some z) (h : iv E q = some r) : inI r (z + q.2) := by
  unfold iv at h
  split at h
  · rename_i r' e
    cases h
    have y := hE.2 _ _ _ hz e
    exact ⟨Int.add_le_add_right y.1 _, Int.add_le_add_right y.2 _⟩
  · cases h
theorem iv_has {R : List Int} {E : AE} {q : Nat × Int} {r : Int × Int} (hE : envO R E) (h : iv E q = some r) : ∃ z, xn R q.1 = some z := by
  unfold iv at h
  split at h
  · rename_i r' e
    exact xn_some (by rw [hE.1]; exact xn_lt e)
  · cases h
theorem sgE_ok {R : List Int} {E : AE} (hE : envO R E) : ∀ {sig : List (Nat × Int)} {F : AE}, sgE E sig F = true → envO (valS R sig) F ∧ ∀ s, s ∈ sig → ∃ z, xn R s.1 = some z
  | [], [], _ => ⟨⟨rfl, fun v z r h => by cases h⟩, fun s hs => by cases hs⟩
  | q :: sig, r :: F, h => by
    unfold sgE at h
    simp only [Bool.and_eq_true] at h
    obtain ⟨ih1, ih2⟩ := sgE_ok hE h.2
    have h1 := h.1
    split at h1
    · rename_i a ea
      obtain ⟨z, hz⟩ := iv_has hE ea
      have hi := rsub_el h1 (iv_okZ hE hz ea)
      refine ⟨⟨?_, fun v y w hv hw => ?_⟩, fun s hs => ?_⟩
      · show (valS R sig).length + 1 = F.length + 1
        rw [ih1.1]
      · cases v with
        | zero =>
          cases hw
          have e : xn (valS R (q :: sig)) 0 = some ((xn R q.1).getD 0 + q.2) := rfl
          rw [e, hz] at hv
          cases hv
          exact hi
        | succ v => exact ih1.2 v y w hv hw
      · rcases List.mem_cons.mp hs with e | e
        · rw [e]
          exact ⟨z, hz⟩
        · exact ih2 s e
    · cases h1
  | [], _ :: _, h => by cases h
  | _ :: _, [], h => by cases h
theorem valS_get {R : List Int} : ∀ {sig : List (Nat × Int)} {v : Nat} {s : Nat × Int} {z : Int}, xn sig v = some s → xn R s.1 = some z → xn (valS R sig) v = some (z + s.2)
  | q :: sig, 0, s, z, h, hz => by
    cases h
    show some ((xn R q.1).getD 0 + q.2) = some (z + q.2)
    rw [hz]
    rfl
  | q :: sig, v + 1, s, z, h, hz => valS_get (sig := sig) (v := v) h hz
theorem nuM_ok {R : List Int} {sig : List (Nat × Int)} {q' q : Nat × Int} {x : Int32} (h : nuM sig q' q = true) (hx : numO R q x) : numO (valS R sig) q' x := by
  unfold nuM at h
  split at h
  · rename_i s es
    simp only [Bool.and_eq_true] at h
    obtain ⟨z, h1, h2⟩ := hx
    have e1 := Nat.eq_of_beq_eq_true h.1
    have e2 := of_decide_eq_true h.2
    rw [← e1] at h1
    refine ⟨_, valS_get es h1, ?_⟩
    rw [h2, ← e2]
    omega
  · cases h
theorem avM_ok {R : List Int} {sig : List (Nat × Int)} {a' a : AV} {o : Option Value} (h : avM sig a' a = true) (ha : avO R a o) : avO (valS R sig) a' o := by
  unfold avM at h
  split at h
  · trivial
  · obtain ⟨x, e, hx⟩ := ha
    exact ⟨x, e, nuM_ok h hx⟩
  · obtain ⟨p, hp, e⟩ := ha
    exact ⟨p, nsub_el h hp, e⟩
  · rename_i n
    unfold lgT lgA at h
    dsimp only at h
    simp only [Bool.or_eq_true] at h
    rcases h with z | z <;> have z := Nat.eq_of_beq_eq_true z <;> subst z
    · exact ha
    · obtain ⟨x, e, _⟩ := ha
      exact ⟨x, e⟩
  · exact ha
  · cases h
theorem lsM_ok {sig : List (Nat × Int)} : ∀ {L' L : List AV}, lsM sig L' L = true → ∀ {i : Nat} {a' : AV}, xn L' i = some a' → ∃ a, xn L i = some a ∧ avM sig a' a = true
  | a' :: L', a :: L, h, 0, b, hb => by
    unfold lsM at h
    simp only [Bool.and_eq_true] at h
    cases hb
    exact ⟨a, rfl, h.1⟩
  | a' :: L', a :: L, h, i + 1, b, hb => by
    unfold lsM at h
    simp only [Bool.and_eq_true] at h
    exact lsM_ok (L' := L') (L := L) h.2 (i := i) hb
  | _ :: _, [], h, _, _, _ => by cases h
theorem tsM_ok {R : List Int} {sig : List (Nat × Int)} : ∀ {L' L : List AV} {st : List Value}, tsM sig L' L = true → stO R L st → stO (valS R sig) L' st
  | [], [], st, _, h => by
    cases st with
    | nil => trivial
    | cons _ _ => exact h.elim
  | a' :: L', a :: L, v :: st, h, hs => by
    unfold tsM at h
    simp only [Bool.and_eq_true] at h
    exact ⟨avM_ok h.1 hs.1, tsM_ok h.2 hs.2⟩
  | a' :: L', a :: L, [], _, hs => hs.elim
  | [], _ :: _, _, h, _ => by cases h
  | _ :: _, [], _, h, _ => by cases h
theorem idS_get : ∀ {n j i : Nat} {s : List (Nat × Int)}, i < n → xn (idS j n ++ s) i = some (j + i, 0)
  | n + 1, j, 0, s, _ => rfl
  | n + 1, j, i + 1, s, h => by
    have y := idS_get (n := n) (j := j + 1) (i := i) (s := s) (by omega)
    rw [show j + (i + 1) = j + 1 + i by omega]
    exact y
section ABSQ
variable {C : AC} {Wm : List Nat} {Wf : Bool} {sh0 : List XO} {I0 : XI} {R0 R : List Int} {S S' : AS} {lc : List (Option Value)} {st : List Value} {sh : List XO} {I : XI} {J : XJ} {X : XX} {al : Bool} {n0 mc ms : Nat} {l : Launch} {d : Nat} {t : XT} {stop : List Nat} {Rp : XR} {K : Nat → XP} {kk : Nat → AS → Bool} {G : List (Nat × AK)} {dep : Nat} {posts : List AP} {rt : Option FieldType} {args : List Value} {Q : XI → Prop}
theorem aMat_ok {m : Nat} {A : AA} {f : List (Nat × Int) → Bool} (h : aMat C (m + 1) A S f = true) (hg : ga C Wm Wf sh0 I0 R0 R S lc st sh I) : ∃ sig, f sig = true ∧ ga C Wm Wf sh0 I0 (valS R sig) (valS R sig) (stA A) lc st sh I ∧ (∀ s, s ∈ sig → ∃ z, xn R s.1 = some z) ∧ (∀ i z, i < m + 1 → xn R i = some z → xn (valS R sig) i = some z) := by
  unfold aMat at h
  split at h
  · rename_i s es
    simp only [Bool.and_eq_true] at h
    obtain ⟨⟨⟨⟨⟨h1, h2⟩, h3⟩, h4⟩, h5⟩, h6⟩ := h
    obtain ⟨k1, k2⟩ := sgE_ok hg.1.1 h1
    have kid : ∀ i z, i < m + 1 → xn R i = some z → xn (valS R (idS 0 (m + 1) ++ s)) i = some z := by
      intro i z hi hz
      have y := valS_get (R := R) (idS_get (n := m + 1) (j := 0) (s := s) hi) (by rw [Nat.zero_add]; exact hz)
      rw [y]
      simp
    refine ⟨_, h6, ⟨⟨k1, kid 0 0 (by omega) hg.1.2.1, fun i z hz => hz⟩, ⟨fun i a' ha' => ?_, tsM_ok h3 hg.2.1.2⟩, ⟨fun p kk q' hq' => ?_, fun p kk hn => ?_, hg.2.2.1.2.2⟩, hg.2.2.2⟩, k2, kid⟩
    · obtain ⟨a, ha, hm⟩ := lsM_ok h2 ha'
      obtain ⟨o, ho, hao⟩ := hg.2.1.1 i a ha
      exact ⟨o, ho, avM_ok hm hao⟩
    · have y := List.all_eq_true.mp h4 _ (tF_mem hq')
      dsimp only at y
      split at y
      · rename_i q eq
        exact nuM_ok y (hg.2.2.1.1 p kk q eq)
      · cases y
    · replace hn : tF A.2.2.2.1 p kk = none := hn
      cases e : tF S.2.2.2 p kk with
      | none => exact hg.2.2.1.2.1 p kk e
      | some q =>
        have y := List.all_eq_true.mp h5 _ (tF_mem e)
        dsimp only at y
        rw [hn] at y
        dsimp only at y
        split at y
        · rename_i r er
          exact rsub_el y (iv_ok hg.1.1 (hg.2.2.1.1 p kk q e) er)
        · cases y
  · cases h
theorem aW_ok (hQ : ∀ I', frO Wm I0 I' → Q I') (hG : ctsO Q C X G) (hO : outO Q C Wm Wf sh0 I0 posts args Rp) (hA : preO (0 :: numsV args) R0) (hK : ∀ g, gks C Wm Wf sh0 I0 R0 (kk g) (K g)) : ∀ (n : Nat) (es : XT), gks C Wm Wf sh0 I0 R0 (aW C Wm Wf G dep posts X rt t stop kk n es) (xwp X rt false al n0 mc ms none l (d + dep) t stop K Rp n es) := by
  intro n
  induction n with
  | zero =>
    intro es S h
    cases h
  | succ n ih =>
    intro es S h R lc st sh I J hg
    replace h : aS0 C Wm Wf G dep posts X rt t stop kk (aW C Wm Wf G dep posts X rt t stop kk n) es S = true := h
    show xst0 X rt false al n0 mc ms none l (d + dep) t stop K Rp (xwp X rt false al n0 mc ms none l (d + dep) t stop K Rp n) es lc st sh I J 0 0
    unfold aS0 at h
    unfold xst0
    split at h
    · cases h
    · rename_i e r
      exact aS_ok hQ hG hO hA hK ih h hg
theorem aN_ok (hQ : ∀ I', frO Wm I0 I' → Q I') (hG : ctsO Q C X G) (hO : outO Q C Wm Wf sh0 I0 posts args Rp) (hA : preO (0 :: numsV args) R0) (hK : ∀ g, gks C Wm Wf sh0 I0 R0 (kk g) (K g)) {pc : Nat} : gks C Wm Wf sh0 I0 R0 (aN C Wm Wf G dep posts X rt t stop kk pc) (xrn X rt false al n0 mc ms none l (d + dep) t stop Rp K pc) := by
  intro S h R lc st sh I J hg
  unfold aN at h
  unfold xrn
  split at h
  · cases h
  · rename_i e r he
    rw [he]
    dsimp only
    split at h
    · rename_i e2
      exact xb_mk e2 (aW_ok hQ hG hO hA hK 1200 (e :: r) S h R lc st sh I J hg)
    · cases h
/-- from a stop on all goes well to the next ones -/
def segO (C : AC) (Wm : List Nat) (Wf : Bool) (sh0 : List XO) (I0 : XI) (X : XX) (rt : Option FieldType) (al : Bool) (n0 mc ms : Nat) (l : Launch) (D : Nat) (t : XT) (stop : List Nat) (Rp : XR) (args : List Value) (anns : List (Nat × AA)) (m : Nat) (q : Nat × AA) : Prop := ∀ (K : Nat → XP) (R : List Int) (lc : List (Option Value)) (st : List Value) (sh : List XO) (I : XI) (J : XJ), (∀ g, gks C Wm Wf sh0 I0 R (kkA C (m + 1) anns (some q.2.2.2.2.2.2) g) (K g)) → ga C Wm Wf sh0 I0 R R (stA q.2) lc st sh I → preO (0 :: numsV args) R → xrn X rt false al n0 mc ms none l D t stop Rp K q.1 lc st sh I J 0 0
theorem run_ok {anns : List (Nat × AA)} {m N : Nat} (hm : (numsV args).length = m) (hall : ∀ q, q ∈ anns → muOk N q.2 = true ∧ segO C Wm Wf sh0 I0 X rt al n0 mc ms l (d + dep) t stop Rp args anns m q) : ∀ (n g : Nat) (A : AA) (R : List Int) (lc : List (Option Value)) (st : List Value) (sh : List XO) (I : XI) (J : XJ), xlk anns g = some A → ga C Wm Wf sh0 I0 R R (stA A) lc st sh I → preO (0 :: numsV args) R → muV A.2.2.2.2.2 R < n → xrun X rt false al n0 mc ms none l (d + dep) t stop Rp n g lc st sh I J 0 0 := by
  intro n
  induction n with
  | zero =>
    intro g A R lc st sh I J hA hg hp hmu
    exfalso
    have h1 := (hall _ (xlk_mem hA)).1
    unfold muOk at h1
    simp only [Bool.and_eq_true] at h1
    have h2 := ile_el h1.1.2
    have h3 := ubL_ok (D := A.2.2.2.2.2.2.map fun x => -x) (E := A.1) (R := R) hg.1.1.1 (fun i z r a b => hg.1.1.2 i z r a b)
    have h4 : ∀ (D R : List Int), dot (D.map fun x => -x) R = - dot D R := by
      intro D
      induction D with
      | nil =>
        intro R
        show (0 : Int) = -0
        rfl
      | cons a D ih =>
        intro R
        cases R with
        | nil =>
          show (0 : Int) = -0
          rfl
        | cons b R =>
          show -a * b + dot (D.map fun x => -x) R = -(a * b + dot D R)
          rw [ih R, Int.neg_mul]
          omega
    rw [h4] at h3
    unfold muV at hmu
    omega
  | succ n ih =>
    intro g A R lc st sh I J hA hg hp hmu
    have hq := hall _ (xlk_mem hA)
    refine hq.2 _ R lc st sh I J (fun g' S' hS' R' lc' st' sh' I' J' hg' => ?_) hg hp
    unfold kkA at hS'
    split at hS'
    · rename_i A' hA'
      obtain ⟨sig, f1, f2, f3, f4⟩ := aMat_ok hS' hg'
      have h1 := hq.1
      unfold muOk at h1
      simp only [Bool.and_eq_true] at h1
      have hlt := muL_ok (R0 := R) hg'.1.1 f1 f3 (by rw [hg.1.1.1]; exact Nat.ble_eq.mp h1.1.1) hg'.1.2.2
      refine ih g' A' (valS R' sig) lc' st' sh' I' J' hA' f2 (fun i z hz => ?_) (by dsimp only at hlt; omega)
      have hi := xn_lt hz
      simp only [List.length_cons, hm] at hi
      exact f4 i z hi (hg'.1.2.2 i z (hp i z hz))
    · cases hS'
-- the entry
theorem agO_len : ∀ {gs : List AG} {as : List Value}, agO gs as → (numsV as).length = (aInts gs).length
  | [], [], _ => rfl
  | .inl r :: gs, .int x :: as, h => by
    have := agO_len h.2
    show (numsV as).length + 1 = (aInts gs).length + 1
    omega
  | .inr (.inl ps) :: gs, .ref p :: as, h => agO_len (gs := gs) (as := as) h.2
  | .inr (.inr n) :: gs, .long x :: as, h => agO_len (gs := gs) (as := as) h
  | [], _ :: _, h => by cases h
  | .inl _ :: _, [], h => by cases h
  | .inr (.inl _) :: _, [], h => by cases h
  | .inr (.inr _) :: _, [], h => by cases h
theorem agO_in : ∀ {gs : List AG} {as : List Value}, agO gs as → ∀ {i : Nat} {z : Int} {r : Int × Int}, xn (numsV as) i = some z → xn (aInts gs) i = some r → inI r z
  | .inl r :: gs, .int x :: as, h, 0, z, w, h1, h2 => by
    cases h1
    cases h2
    exact h.1
  | .inl r :: gs, .int x :: as, h, i + 1, z, w, h1, h2 => agO_in (gs := gs) (as := as) h.2 (i := i) h1 h2
  | .inr (.inl ps) :: gs, .ref p :: as, h, i, z, w, h1, h2 => agO_in (gs := gs) (as := as) h.2 (i := i) h1 h2
  | .inr (.inr n) :: gs, .long x :: as, h, i, z, w, h1, h2 => agO_in (gs := gs) (as := as) h (i := i) h1 h2
  | [], [], _, _, _, _, h1, _ => by cases h1
  | [], _ :: _, h, _, _, _, _, _ => by cases h
  | .inl _ :: _, [], h, _, _, _, _, _ => by cases h
  | .inr (.inl _) :: _, [], h, _, _, _, _, _ => by cases h
  | .inr (.inr _) :: _, [], h, _, _, _, _, _ => by cases h
theorem args_ok {R : List Int} : ∀ {gs : List AG} {as : List Value} {j : Nat}, agO gs as → (∀ i z, xn (numsV as) i = some z → xn R (j + i) = some z) → (xargs as).length = (aArgs j gs).length ∧ loO R (aArgs j gs) (xargs as)
  | [], [], j, _, _ => ⟨rfl, fun i a h => by cases h⟩
  | .inl r :: gs, .int x :: as, j, h, hr => by
    obtain ⟨k1, k2⟩ := args_ok (j := j + 1) h.2 (fun i z hz => by rw [show j + 1 + i = j + (i + 1) by omega]; exact hr (i + 1) z hz)
    refine ⟨by show (xargs as).length + 1 = (aArgs (j + 1) gs).length + 1; rw [k1], fun i a ha => ?_⟩
    cases i with
    | zero =>
      cases ha
      exact ⟨_, rfl, x, rfl, x.toInt, hr 0 _ rfl, by simp⟩
    | succ i => exact k2 i a ha
  | .inr (.inl ps) :: gs, .ref p :: as, j, h, hr => by
    obtain ⟨k1, k2⟩ := args_ok (j := j) h.2 hr
    refine ⟨by show (xargs as).length + 1 = (aArgs j gs).length + 1; rw [k1], fun i a ha => ?_⟩
    cases i with
    | zero =>
      cases ha
      exact ⟨_, rfl, p, h.1, rfl⟩
    | succ i => exact k2 i a ha
  | .inr (.inr n) :: gs, .long x :: as, j, h, hr => by
    obtain ⟨k1, k2⟩ := args_ok (gs := gs) (as := as) (j := j) h hr
    refine ⟨by show (xargs as).length + 1 + 1 = (aArgs j gs).length + 1 + 1; rw [k1], fun i a ha => ?_⟩
    match i, ha with
    | 0, ha =>
      cases ha
      exact ⟨_, rfl, x, rfl⟩
    | 1, ha =>
      cases ha
      exact ⟨_, rfl, trivial⟩
    | i + 2, ha => exact k2 i a ha
  | [], _ :: _, _, h, _ => by cases h
  | .inl _ :: _, [], _, h, _ => by cases h
  | .inr (.inl _) :: _, [], _, h, _ => by cases h
  | .inr (.inr _) :: _, [], _, h, _ => by cases h
theorem pad_ok {R : List Int} : ∀ {n : Nat} {L : List AV} {lc : List (Option Value)}, lc.length = L.length → loO R L lc → loO R (aPad n L) (xpad n lc)
  | 0, L, lc, _, h => h
  | n + 1, [], [], _, h => by
    have ih := pad_ok (n := n) (L := []) (lc := []) rfl h
    intro i a ha
    cases i with
    | zero =>
      cases ha
      exact ⟨none, rfl, trivial⟩
    | succ i => exact ih i a ha
  | n + 1, b :: L, o :: lc, hl, h => by
    have ih := pad_ok (n := n) (L := L) (lc := lc) (by simpa using hl) (fun i a ha => h (i + 1) a ha)
    intro i a ha
    cases i with
    | zero => exact h 0 a ha
    | succ i => exact ih i a ha
  | n + 1, [], _ :: _, hl, _ => by cases hl
  | n + 1, _ :: _, [], hl, _ => by cases hl
end ABSQ
def qpO (Q : XI → Prop) (QP : List Nat) : Prop := ∀ I I' : XI, (∀ p, p ∈ QP → I' p = I p) → Q I → Q I'
theorem preT_ok {I : XI} : ∀ {L : List (Nat × Nat × Int × Int)} {j : Nat} {R : List Int}, (∀ i e, xn L i = some e → xn R (j + i) = some (I e.1 e.2.1).toInt) → trO R (preT j L) I
  | [], j, R, _ => fun p k q hq => by cases hq
  | e :: L, j, R, h => by
    intro p k q hq
    unfold preT at hq
    by_cases hh : p = e.1 ∧ k = e.2.1
    · obtain ⟨rfl, rfl⟩ := hh
      rw [tF_hd] at hq
      cases hq
      exact ⟨_, h 0 e rfl, by simp⟩
    · rw [tF_ne hh] at hq
      exact preT_ok (L := L) (j := j + 1) (fun i e' he' => by rw [show j + 1 + i = j + (i + 1) by omega]; exact h (i + 1) e' he') p k q hq
theorem xn_appR {α : Type} : ∀ {l m : List α} {i : Nat}, xn (l ++ m) (l.length + i) = xn m i
  | [], m, i => by simp
  | _ :: l, m, i => by
    rw [List.length_cons, show l.length + 1 + i = (l.length + i) + 1 by omega]
    exact xn_appR (l := l)
theorem xn_appL {α : Type} {l m : List α} {i : Nat} (h : i < l.length) : xn (l ++ m) i = xn l i := by
  obtain ⟨a, ha⟩ := xn_some h
  rw [ha]
  exact xn_app ha
theorem xn_map {α β : Type} {f : α → β} : ∀ {l : List α} {i : Nat}, xn (l.map f) i = (xn l i).map f
  | [], _ => rfl
  | _ :: _, 0 => rfl
  | _ :: l, i + 1 => xn_map (l := l)
/-- a contract that the check has passed holds -/
theorem chk_okS {Q : XI → Prop} {QP : List Nat} {C : AC} {c : AK} {G : List (Nat × AK)} {X : XX} {M : XM} {t : XT} {anns : List (Nat × AA)} (skip : List Nat) (N : Nat) (hX : xxP X) (hpl : plainName X.1 = true) (hcls : M.1.cls = X.1) (ht : xtOK M.2.1 t = true) (hq : qpO Q QP) (hG : ctsO Q C X G) (hsk : ∀ q, q ∈ anns → nmem q.1 skip = true → ∀ (l : Launch) (d : Nat) (sh : List XO) (I : XI) (as : List Value) (Rp : XR), agO c.2.1 as → (∀ I', frO c.2.2.1 I I' → Q I') → outO Q C c.2.2.1 c.2.2.2.1 sh I c.2.2.2.2.1 as Rp → segO C c.2.2.1 c.2.2.2.1 sh I X M.2.2.2 (!(Nat.beq 0 0)) sh.length 0 0 l (d + (c.1 - 1)) t (anns.map fun q => q.1) Rp as anns (aInts c.2.1).length q) (h : aChk QP C c G X M t anns skip N = true) : ctrO Q C c M := by
  intro l d sh I J as Rp ha hce hs hi hQ0 hR
  unfold aChk at h
  simp only [Bool.and_eq_true] at h
  obtain ⟨⟨⟨⟨h0, h1⟩, h2⟩, h3⟩, h4⟩ := h
  have hQ : ∀ I', frO c.2.2.1 I I' → Q I' := by
    intro I' hf
    refine hq I I' (fun p hp => hf p ?_) hQ0
    have y := List.all_eq_true.mp h0 p hp
    simp only [Bool.not_eq_true'] at y
    exact y
  have h1 := Nat.ble_eq.mp h1
  have hO : outO Q C c.2.2.1 c.2.2.2.1 sh I c.2.2.2.2.1 as Rp := hR
  have hlen := agO_len ha
  have hall : ∀ q, q ∈ anns → muOk N q.2 = true ∧ segO C c.2.2.1 c.2.2.2.1 sh I X M.2.2.2 (!(Nat.beq 0 0)) sh.length 0 0 l (d + (c.1 - 1)) t (anns.map fun q => q.1) Rp as anns (aInts c.2.1).length q := by
    intro q hq
    have y := List.all_eq_true.mp h4 q hq
    simp only [Bool.and_eq_true, Bool.or_eq_true] at y
    refine ⟨y.1, ?_⟩
    rcases y.2 with z | z
    · exact hsk q hq z l d sh I as Rp ha hQ hO
    · intro K R lc st sh' I' J' hK hg hp
      exact aN_ok (d := d) (Rp := Rp) hQ hG hO hp hK (stA q.2) z R lc st sh' I' J' hg
  have hRv : ∀ i z, xn (numsV as) i = some z → xn (0 :: (numsV as ++ c.2.2.2.2.2.map fun e => (I e.1 e.2.1).toInt)) (1 + i) = some z := fun i z hz => by
    rw [Nat.add_comm]
    exact xn_app (l := numsV as) hz
  obtain ⟨k1, k2⟩ := args_ok (R := 0 :: (numsV as ++ c.2.2.2.2.2.map fun e => (I e.1 e.2.1).toInt)) (j := 1) ha hRv
  have hpr : preO (0 :: numsV as) (0 :: (numsV as ++ c.2.2.2.2.2.map fun e => (I e.1 e.2.1).toInt)) := fun i z hz => xn_app (l := 0 :: numsV as) hz
  have htr : trO (0 :: (numsV as ++ c.2.2.2.2.2.map fun e => (I e.1 e.2.1).toInt)) (preT ((aInts c.2.1).length + 1) c.2.2.2.2.2) I := by
    refine preT_ok (fun i e he => ?_)
    rw [← hlen, show (numsV as).length + 1 + i = ((numsV as).length + i) + 1 by omega]
    show xn (numsV as ++ c.2.2.2.2.2.map fun e => (I e.1 e.2.1).toInt) ((numsV as).length + i) = _
    rw [xn_appR, xn_map, he]
    rfl
  have hg : ga C c.2.2.1 c.2.2.2.1 sh I (0 :: (numsV as ++ c.2.2.2.2.2.map fun e => (I e.1 e.2.1).toInt)) (0 :: (numsV as ++ c.2.2.2.2.2.map fun e => (I e.1 e.2.1).toInt)) ((0, 0) :: (aInts c.2.1 ++ c.2.2.2.2.2.map fun e => e.2.2), aPad M.2.2.1 (aArgs 1 c.2.1), [], preT ((aInts c.2.1).length + 1) c.2.2.2.2.2) (xpad M.2.2.1 (xargs as)) [] sh I := by
    refine ⟨⟨⟨by simp [hlen], fun v z r hv hr => ?_⟩, rfl, fun i z hz => hz⟩, ⟨pad_ok k1 k2, trivial⟩, ⟨htr, fun p kk _ => hi p kk rfl, fun p _ => rfl⟩, hs, fun _ => rfl⟩
    cases v with
    | zero =>
      cases hv
      cases hr
      exact ⟨Int.le_refl _, Int.le_refl _⟩
    | succ v =>
      replace hv : xn (numsV as ++ c.2.2.2.2.2.map fun e => (I e.1 e.2.1).toInt) v = some z := hv
      replace hr : xn (aInts c.2.1 ++ c.2.2.2.2.2.map fun e => e.2.2) v = some r := hr
      by_cases hlt : v < (numsV as).length
      · rw [xn_appL hlt] at hv
        rw [xn_appL (by rw [← hlen]; exact hlt)] at hr
        exact agO_in ha hv hr
      · obtain ⟨i, rfl⟩ : ∃ i, v = (numsV as).length + i := ⟨v - (numsV as).length, by omega⟩
        rw [xn_appR, xn_map] at hv
        rw [hlen, xn_appR, xn_map] at hr
        cases e : xn c.2.2.2.2.2 i with
        | none =>
          rw [e] at hv
          cases hv
        | some w =>
          rw [e] at hv hr
          cases hv
          cases hr
          refine hce w ?_
          rw [xn_eq] at e
          exact List.mem_of_getElem? e
  rw [show d + c.1 = (d + (c.1 - 1)) + 1 by omega]
  refine xm_ofK N (X := X) (t := t) (stop := anns.map fun q => q.1) (ini := false) hX hpl hcls ht (fun z => by cases z) (by rw [k1]; exact Nat.ble_eq.mp h2) (fun K hK => ?_)
  refine aN_ok (d := d) (Rp := Rp) (R0 := 0 :: (numsV as ++ c.2.2.2.2.2.map fun e => (I e.1 e.2.1).toInt)) hQ hG hO hpr (fun g' S' hS' R' lc' st' sh' I' J' hg' => ?_) _ h3 _ _ _ _ _ _ hg
  unfold kkA at hS'
  split at hS'
  · rename_i A' hA'
    obtain ⟨sig, f1, f2, f3, f4⟩ := aMat_ok hS' hg'
    refine hK _ _ _ _ _ _ _ _ (run_ok (d := d) (Rp := Rp) (N := N) hlen hall N g' A' (valS R' sig) lc' st' sh' I' J' hA' f2 (fun i z hz => ?_) ?_)
    · have hi := xn_lt hz
      simp only [List.length_cons, hlen] at hi
      exact f4 i z hi (hg'.1.2.2 i z (hpr i z hz))
    · have y := (hall _ (xlk_mem hA')).1
      unfold muOk at y
      simp only [Bool.and_eq_true] at y
      have y2 := ile_el y.2
      have y3 := ubL_ok (D := A'.2.2.2.2.2.2) (E := A'.1) (R := valS R' sig) f2.1.1.1 (fun i z r a b => f2.1.1.2 i z r a b)
      unfold muV
      omega
  · cases hS'
theorem chk_ok {Q : XI → Prop} {QP : List Nat} {C : AC} {c : AK} {G : List (Nat × AK)} {X : XX} {M : XM} {t : XT} {anns : List (Nat × AA)} (N : Nat) (hX : xxP X) (hpl : plainName X.1 = true) (hcls : M.1.cls = X.1) (ht : xtOK M.2.1 t = true) (hq : qpO Q QP) (hG : ctsO Q C X G) (h : aChk QP C c G X M t anns [] N = true) : ctrO Q C c M := chk_okS [] N hX hpl hcls ht hq hG (fun q hq hz => by cases hz) h
