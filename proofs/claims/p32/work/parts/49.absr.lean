-- ===== calls, ways out, control =====
def atk : Nat → List AV → List AV → Option (List AV × List AV)
  | 0, r, acc => some (acc, r)
  | n + 1, v :: r, acc => atk n r (v :: acc)
  | _ + 1, [], _ => none
theorem atk_ok {R : List Int} : ∀ {n : Nat} {T acc : List AV} {st acc' : List Value} {w : List AV × List AV}, stO R T st → stO R acc acc' → atk n T acc = some w → ∃ br, xtk n st acc' = some br ∧ stO R w.1 br.1 ∧ stO R w.2 br.2
  | 0, T, acc, st, acc', w, h1, h2, h => by
    cases h
    exact ⟨(acc', st), rfl, h2, h1⟩
  | n + 1, a :: T, acc, v :: st, acc', w, h1, h2, h => atk_ok (n := n) (T := T) (acc := a :: acc) (st := st) (acc' := v :: acc') h1.2 ⟨h1.1, h2⟩ h
  | n + 1, [], acc, st, acc', w, h1, h2, h => by cases h
  | n + 1, a :: T, acc, [], acc', w, h1, h2, h => h1.elim
def fit (E : AE) : List AV → List AG → Bool
  | [], [] => true
  | .inl q :: as, .inl r :: gs => (match iv E q with
    | some a => rsub a r
    | none => false) && fit E as gs
  | .inr (.inl ps) :: as, .inr (.inl qs) :: gs => nsub ps qs && fit E as gs
  | .inr (.inr n) :: as, .inr (.inr _) :: gs => lgT (.inr (.inr n)) && fit E as gs
  | _, _ => false
def numsV : List Value → List Int
  | [] => []
  | .int x :: r => x.toInt :: numsV r
  | _ :: r => numsV r
def agO : List AG → List Value → Prop
  | [], [] => True
  | .inl r :: gs, .int x :: vs => inI r x.toInt ∧ agO gs vs
  | .inr (.inl ps) :: gs, .ref p :: vs => p ∈ ps ∧ agO gs vs
  | .inr (.inr _) :: gs, .long _ :: vs => agO gs vs
  | _, _ => False
theorem fit_ok {R : List Int} {E : AE} (hE : envO R E) : ∀ {as : List AV} {gs : List AG} {vs : List Value}, stO R as vs → fit E as gs = true → agO gs vs
  | [], [], [], _, _ => trivial
  | .inl q :: as, .inl r :: gs, v :: vs, h, hf => by
    obtain ⟨⟨x, e, hx⟩, h2⟩ := h
    cases e
    unfold fit at hf
    simp only [Bool.and_eq_true] at hf
    refine ⟨?_, fit_ok hE h2 hf.2⟩
    have h3 := hf.1
    split at h3
    · rename_i a ea
      exact rsub_el h3 (iv_ok hE hx ea)
    · cases h3
  | .inr (.inl ps) :: as, .inr (.inl qs) :: gs, v :: vs, h, hf => by
    obtain ⟨⟨x, hx, e⟩, h2⟩ := h
    cases e
    unfold fit at hf
    simp only [Bool.and_eq_true] at hf
    exact ⟨nsub_el hf.1 hx, fit_ok hE h2 hf.2⟩
  | .inr (.inr n) :: as, .inr (.inr _) :: gs, v :: vs, h, hf => by
    unfold fit at hf
    simp only [Bool.and_eq_true] at hf
    obtain ⟨x, rfl⟩ := avO_lg h.1 hf.1
    show agO gs vs
    exact fit_ok hE h.2 hf.2
  | [], _ :: _, _, _, hf => by cases hf
  | .inl _ :: _, [], _, _, hf => by cases hf
  | .inr (.inl _) :: _, [], _, _, hf => by cases hf
  | .inr (.inr _) :: _, [], _, _, hf => by cases hf
  | .inl _ :: _, .inr (.inl _) :: _, _, _, hf => by cases hf
  | .inl _ :: _, .inr (.inr _) :: _, _, _, hf => by cases hf
  | .inr (.inl _) :: _, .inl _ :: _, _, _, hf => by cases hf
  | .inr (.inl _) :: _, .inr (.inr _) :: _, _, _, hf => by cases hf
  | .inr (.inr _) :: _, .inl _ :: _, _, _, hf => by cases hf
  | .inr (.inr _) :: _, .inr (.inl _) :: _, _, _, hf => by cases hf
  | [], [], _ :: _, h, _ => h.elim
  | _ :: _, _, [], h, _ => h.elim
def rvO (g : AG) (v : Option Value) : Prop := match g with
  | .inl r => ∃ x, v = some (.int x) ∧ inI r x.toInt
  | .inr (.inl ps) => ∃ p, p ∈ ps ∧ v = some (.ref p)
  | .inr (.inr 1) => ∃ x, v = some (.long x)
  | .inr (.inr _) => v = none
def celO (L : List (Nat × Nat × Int × Int)) (I : XI) : Prop := ∀ e, e ∈ L → inI e.2.2 (I e.1 e.2.1).toInt
def pstO (as : List Value) (P : AP) (v : Option Value) (I : XI) : Prop := (∀ i r z, xn P.1 i = some r → xn (numsV as) i = some z → inI r z) ∧ rvO P.2.1 v ∧ celO P.2.2 I
def rfA : AE → List AV → AE → AE
  | E, .inl q :: as, r :: rs => rfA (meet E q r) as rs
  | E, .inl _ :: _, [] => E
  | E, .inr _ :: as, rs => rfA E as rs
  | E, [], _ => E
theorem numsV_ref {p : Nat} {r : List Value} : numsV (.ref p :: r) = numsV r := rfl
theorem numsV_in {R : List Int} {a : List Nat ⊕ Nat} {v : Value} {r : List Value} (h : avO R (.inr a) (some v)) (hl : lgT (.inr a) = true ∨ ∃ ps, a = .inl ps) : numsV (v :: r) = numsV r := by
  rcases hl with hl | ⟨ps, rfl⟩
  · obtain ⟨x, rfl⟩ := avO_lg h hl
    rfl
  · obtain ⟨p, _, e⟩ := h
    cases e
    rfl
theorem rfA_ok {R : List Int} : ∀ {as : List AV} {gs : List AG} {vs : List Value} {E E0 rs : AE}, envO R E → stO R as vs → fit E0 as gs = true → (∀ i r z, xn rs i = some r → xn (numsV vs) i = some z → inI r z) → envO R (rfA E as rs)
  | [], gs, vs, E, E0, rs, hE, h, hf, hp => by
    unfold rfA
    exact hE
  | .inl q :: as, .inl g :: gs, v :: vs, E, E0, rs, hE, h, hf, hp => by
    obtain ⟨⟨x, e, hx⟩, h2⟩ := h
    cases e
    cases rs with
    | nil => exact hE
    | cons r rs =>
      unfold fit at hf
      simp only [Bool.and_eq_true] at hf
      unfold rfA
      exact rfA_ok (meet_ok hE hx (hp 0 r _ rfl rfl)) h2 hf.2 (fun i r' z h1 h3 => hp (i + 1) r' z h1 h3)
  | .inr (.inl ps) :: as, .inr (.inl qs) :: gs, v :: vs, E, E0, rs, hE, h, hf, hp => by
    unfold fit at hf
    simp only [Bool.and_eq_true] at hf
    rw [numsV_in h.1 (Or.inr ⟨_, rfl⟩)] at hp
    unfold rfA
    exact rfA_ok hE h.2 hf.2 hp
  | .inr (.inr n) :: as, .inr (.inr m) :: gs, v :: vs, E, E0, rs, hE, h, hf, hp => by
    unfold fit at hf
    simp only [Bool.and_eq_true] at hf
    rw [numsV_in h.1 (Or.inl hf.1)] at hp
    unfold rfA
    exact rfA_ok hE h.2 hf.2 hp
  | .inl _ :: _, [], _, _, _, _, _, _, hf, _ => by cases hf
  | .inr (.inl _) :: _, [], _, _, _, _, _, _, hf, _ => by cases hf
  | .inr (.inr _) :: _, [], _, _, _, _, _, _, hf, _ => by cases hf
  | .inl _ :: _, .inr (.inl _) :: _, _, _, _, _, _, _, hf, _ => by cases hf
  | .inl _ :: _, .inr (.inr _) :: _, _, _, _, _, _, _, hf, _ => by cases hf
  | .inr (.inl _) :: _, .inl _ :: _, _, _, _, _, _, _, hf, _ => by cases hf
  | .inr (.inl _) :: _, .inr (.inr _) :: _, _, _, _, _, _, _, hf, _ => by cases hf
  | .inr (.inr _) :: _, .inl _ :: _, _, _, _, _, _, _, hf, _ => by cases hf
  | .inr (.inr _) :: _, .inr (.inl _) :: _, _, _, _, _, _, _, hf, _ => by cases hf
  | _ :: _, _, [], _, _, _, _, h, _, _ => h.elim
def tCut : AT → List Nat → AT
  | [], _ => []
  | e :: l, ps => match nmem e.1 ps with
    | true => tCut l ps
    | false => e :: tCut l ps
theorem tCut_el {p kk : Nat} {q : Nat × Int} {ps : List Nat} : ∀ {T : AT}, tF (tCut T ps) p kk = some q → tF T p kk = some q ∧ nmem p ps = false
  | e :: T, h => by
    obtain ⟨e1, e2, e3⟩ := e
    unfold tCut at h
    split at h
    · rename_i z
      have y := tCut_el h
      dsimp only at z
      refine ⟨?_, y.2⟩
      rw [tF_ne]
      · exact y.1
      · intro w
        rw [w.1, z] at y
        cases y.2
    · rename_i z
      dsimp only at z
      by_cases hh : p = e1 ∧ kk = e2
      · obtain ⟨rfl, rfl⟩ := hh
        rw [tF_hd] at h ⊢
        exact ⟨h, z⟩
      · rw [tF_ne hh] at h ⊢
        exact tCut_el h
def tOk (C : AC) (E : AE) (T : AT) : Bool := T.all fun e => match iv E e.2.2 with
  | some r => rsub r (cellI C e.1 e.2.1)
  | none => false
theorem tOk_el {C : AC} {R : List Int} {E : AE} {T : AT} {I : XI} (h : tOk C E T = true) (hE : envO R E) (h1 : trO R T I) (h2 : ivO C T I) : ivO C [] I := by
  intro p kk _
  cases e : tF T p kk with
  | none => exact h2 p kk e
  | some q =>
    have y := List.all_eq_true.mp h _ (tF_mem e)
    dsimp only at y
    split at y
    · rename_i r er
      exact rsub_el y (iv_ok hE (h1 p kk q e) er)
    · cases y
def ctrO (Q : XI → Prop) (C : AC) (c : AK) (M : XM) : Prop := ∀ (l : Launch) (d : Nat) (sh : List XO) (I : XI) (J : XJ) (as : List Value) (Rp : XR), agO c.2.1 as → celO c.2.2.2.2.2 I → shO C sh → ivO C [] I → Q I → (∀ (v : Option Value) (sh' : List XO) (I' : XI) (J' : XJ), shO C sh' → (c.2.2.2.1 = false → sh' = sh) → ivO C [] I' → Q I' → frO c.2.2.1 I I' → (∃ P, P ∈ c.2.2.2.2.1 ∧ pstO as P v I') → Rp v sh' I' J') → xm l (d + c.1) 0 0 M as sh I J Rp
def ctsO (Q : XI → Prop) (C : AC) (X : XX) (G : List (Nat × AK)) : Prop := ∀ q, q ∈ G → ∃ e, xlk X.2.2.2.1 q.1 = some e ∧ ctrO Q C q.2 e.2.1
def aRv (S : AS) (g : AG) : AS := match g with
  | .inl r => (S.1 ++ [r], S.2.1, .inl (S.1.length, 0) :: S.2.2.1, S.2.2.2)
  | .inr (.inl ps) => (S.1, S.2.1, .inr (.inl ps) :: S.2.2.1, S.2.2.2)
  | .inr (.inr 1) => (S.1, S.2.1, .inr (.inr 1) :: S.2.2.1, S.2.2.2)
  | .inr (.inr _) => S
/-- cells that a call told of -/
def aCe (S : AS) : List (Nat × Nat × Int × Int) → AS
  | [] => S
  | e :: l => aCe (S.1 ++ [e.2.2], S.2.1, S.2.2.1, (e.1, e.2.1, S.1.length, 0) :: S.2.2.2) l
/-- behind a call that ended so -/
def aPo (S : AS) (as T : List AV) (c : AK) (P : AP) : Option AS := match deadE (rfA S.1 as P.1) with
  | true => none
  | false => some (aCe (aRv (rfA S.1 as P.1, S.2.1, T, tCut S.2.2.2 c.2.2.1) P.2.1) P.2.2)
def cOk (C : AC) (S : AS) (L : List (Nat × Nat × Int × Int)) : Bool := L.all fun e => match tF S.2.2.2 e.1 e.2.1 with
  | some q => (match iv S.1 q with
    | some r => rsub r e.2.2
    | none => false)
  | none => rsub (cellI C e.1 e.2.1) e.2.2
def aCa (C : AC) (Wm : List Nat) (Wf : Bool) (G : List (Nat × AK)) (dep : Nat) (S : AS) (idx : Nat) (as T : List AV) (nx : AS → Bool) : Bool := match G.find? (fun q => Nat.beq q.1 idx && (fit S.1 as q.2.2.1 && cOk C S q.2.2.2.2.2.2)) with
  | some q => Nat.ble q.2.1 dep && nsub q.2.2.2.1 Wm && (!q.2.2.2.2.1 || Wf) && tOk C S.1 S.2.2.2 && Nat.ble (aCs T) 8 && q.2.2.2.2.2.1.all fun P => match aPo S as T q.2 P with
    | some S' => nx S'
    | none => true
  | none => false
section ABSR
variable {C : AC} {Wm : List Nat} {Wf : Bool} {sh0 : List XO} {I0 : XI} {R0 R : List Int} {S S' : AS} {lc : List (Option Value)} {st : List Value} {sh : List XO} {I : XI} {J : XJ} {k : XP} {X : XX} {al : Bool} {n0 mc ms : Nat} {l : Launch} {G : List (Nat × AK)} {Q : XI → Prop}
theorem aRv_ok {g : AG} {v : Option Value} (hg : ga C Wm Wf sh0 I0 R0 R S lc st sh I) (h : rvO g v) : ∃ R', ga C Wm Wf sh0 I0 R0 R' (aRv S g) lc (v.toList ++ st) sh I := by
  unfold rvO at h
  unfold aRv
  split at h
  · obtain ⟨x, rfl, hx⟩ := h
    exact ⟨_, ga_fr hg hg.2.1.2 hx⟩
  · obtain ⟨p, hp, rfl⟩ := h
    exact ⟨R, ga_pu hg hg.2.1.2 ⟨p, hp, rfl⟩⟩
  · obtain ⟨x, rfl⟩ := h
    exact ⟨R, ga_pu hg hg.2.1.2 ⟨x, rfl⟩⟩
  · rename_i n hn
    subst h
    exact ⟨R, hg⟩
theorem aCe_ok : ∀ {L : List (Nat × Nat × Int × Int)} {S : AS} {R : List Int}, ga C Wm Wf sh0 I0 R0 R S lc st sh I → celO L I → ∃ R', ga C Wm Wf sh0 I0 R0 R' (aCe S L) lc st sh I
  | [], S, R, hg, _ => ⟨R, hg⟩
  | e :: L, S, R, hg, h => by
    have hz := h e List.mem_cons_self
    have hg2 := ga_ext hg hz
    have el : S.1.length = R.length := hg.1.1.1.symm
    refine aCe_ok (L := L) (R := R ++ [(I e.1 e.2.1).toInt]) (S := (S.1 ++ [e.2.2], S.2.1, S.2.2.1, (e.1, e.2.1, S.1.length, 0) :: S.2.2.2)) ⟨hg2.1, hg2.2.1, ⟨fun p kk q hq => ?_, fun p kk hn => ?_, hg2.2.2.1.2.2⟩, hg2.2.2.2⟩ (fun e' he' => h e' (List.mem_cons_of_mem _ he'))
    · by_cases hh : p = e.1 ∧ kk = e.2.1
      · obtain ⟨rfl, rfl⟩ := hh
        replace hq : tF ((e.1, e.2.1, S.1.length, 0) :: S.2.2.2) e.1 e.2.1 = some q := hq
        rw [tF_hd] at hq
        cases hq
        exact ⟨_, by rw [el]; exact xn_app_len _ _, by simp⟩
      · replace hq : tF ((e.1, e.2.1, S.1.length, 0) :: S.2.2.2) p kk = some q := hq
        rw [tF_ne hh] at hq
        exact hg2.2.2.1.1 p kk q hq
    · by_cases hh : p = e.1 ∧ kk = e.2.1
      · obtain ⟨rfl, rfl⟩ := hh
        replace hn : tF ((e.1, e.2.1, S.1.length, 0) :: S.2.2.2) e.1 e.2.1 = none := hn
        rw [tF_hd] at hn
        cases hn
      · replace hn : tF ((e.1, e.2.1, S.1.length, 0) :: S.2.2.2) p kk = none := hn
        rw [tF_ne hh] at hn
        exact hg2.2.2.1.2.1 p kk hn
theorem cOk_ok {L : List (Nat × Nat × Int × Int)} (h : cOk C S L = true) (hg : ga C Wm Wf sh0 I0 R0 R S lc st sh I) : celO L I := by
  intro e he
  have y := List.all_eq_true.mp h e he
  split at y
  · rename_i q eq
    split at y
    · rename_i r er
      exact rsub_el y (iv_ok hg.1.1 (hg.2.2.1.1 _ _ _ eq) er)
    · cases y
  · rename_i eq
    exact rsub_el y (hg.2.2.1.2.1 _ _ eq)
theorem aCa_ok {dep d idx : Nat} {as T : List AV} {vs r : List Value} {nx : AS → Bool} {e : Nat × XM × Nat × (Nat × Nat) × List Nat} (hQ : ∀ I', frO Wm I0 I' → Q I') (hG : ctsO Q C X G) (he : xlk X.2.2.2.1 idx = some e) (h : aCa C Wm Wf G dep S idx as T nx = true) (hg : ga C Wm Wf sh0 I0 R0 R S lc st sh I) (hv : stO R as vs) (hT : stO R T r) (hk : ∀ S', nx S' = true → gk C Wm Wf sh0 I0 R0 S' k) : xm l (d + dep) 0 0 e.2.1 vs sh I J (fun v sh' I' J' => k lc (v.toList ++ r) sh' I' J' 0 0) := by
  unfold aCa at h
  split at h
  · rename_i q eq
    have hm := List.mem_of_find?_eq_some eq
    have hq := List.find?_some eq
    simp only [Bool.and_eq_true] at hq
    have hi := Nat.eq_of_beq_eq_true hq.1
    simp only [Bool.and_eq_true] at h
    obtain ⟨⟨⟨⟨⟨h1, h2⟩, h3⟩, h4⟩, h5⟩, h6⟩ := h
    obtain ⟨e', he', hc⟩ := hG q hm
    rw [hi, he] at he'
    cases he'
    have h1 := Nat.ble_eq.mp h1
    have hiv := tOk_el h4 hg.1.1 hg.2.2.1.1 hg.2.2.1.2.1
    have y := hc l (d + (dep - q.2.1)) sh I J vs (fun v sh' I' J' => k lc (v.toList ++ r) sh' I' J' 0 0) (fit_ok hg.1.1 hv hq.2.1) (cOk_ok hq.2.2 hg) hg.2.2.2.1 hiv (hQ _ hg.2.2.1.2.2)
    rw [show d + (dep - q.2.1) + q.2.1 = d + dep by omega] at y
    refine y (fun v sh' I' J' a1 a2 a3 _ a4 ⟨P, hP, hps⟩ => ?_)
    have hE := rfA_ok hg.1.1 hv hq.2.1 hps.1
    have hall := List.all_eq_true.mp h6 P hP
    have htr : trO R (tCut S.2.2.2 q.2.2.2.1) I' := by
      intro p kk u hu
      obtain ⟨u1, u2⟩ := tCut_el hu
      rw [a4 p u2]
      exact hg.2.2.1.1 p kk u u1
    have hiv' : ivO C (tCut S.2.2.2 q.2.2.2.1) I' := fun p kk _ => a3 p kk rfl
    have hfr : frO Wm I0 I' := by
      intro p hp
      have hp2 : nmem p q.2.2.2.1 = false := by
        cases z : nmem p q.2.2.2.1 with
        | false => rfl
        | true =>
          rw [nmem_of (nsub_el h2 (nmem_el z))] at hp
          cases hp
      rw [a4 p hp2]
      exact hg.2.2.1.2.2 p hp
    have hsh : Wf = false → sh' = sh0 := by
      intro z
      rw [z] at h3
      simp only [Bool.or_false, Bool.not_eq_true'] at h3
      rw [a2 h3]
      exact hg.2.2.2.2 z
    unfold aPo at hall
    rw [dead_el hE] at hall
    dsimp only at hall
    obtain ⟨R', hga⟩ := aRv_ok (S := (rfA S.1 as P.1, S.2.1, T, tCut S.2.2.2 q.2.2.2.1)) (st := r) ⟨⟨hE, hg.1.2⟩, ⟨hg.2.1.1, hT⟩, ⟨htr, hiv', hfr⟩, a1, hsh⟩ hps.2.1
    obtain ⟨R2, hga2⟩ := aCe_ok hga hps.2.2
    exact hk _ hall _ _ _ _ _ _ hga2
  · cases h
end ABSR
