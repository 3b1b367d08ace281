-- ===== cells of abstract states =====
theorem allO_el {C : AC} {ps : List Nat} {f : AO → Bool} (h : allO C ps f = true) {p : Nat} (hp : p ∈ ps) : ∃ o, xlk C.1 p = some o ∧ f o = true := by
  unfold allO at h
  split at h
  · cases h
  · have y := List.all_eq_true.mp h p hp
    split at y
    · rename_i o e
      exact ⟨o, e, y⟩
    · cases y
theorem isO_el {C : AC} {ps : List Nat} {ci kk : Nat} {sh : List XO} (hs : shO C sh) (h : allO C ps (isO ci kk) = true) {p : Nat} (hp : p ∈ ps) : ∃ cs rs, xlk C.1 p = some (.inl (ci, cs)) ∧ xn sh p = some (.inl (ci, rs)) ∧ refO cs rs ∧ kk < rs.length := by
  obtain ⟨o, h1, h2⟩ := allO_el h hp
  unfold isO at h2
  split at h2
  · rename_i q
    simp only [Bool.and_eq_true, Nat.blt_eq] at h2
    obtain ⟨e, h3⟩ := h2
    have e := Nat.eq_of_beq_eq_true e
    obtain ⟨x, hx, ha⟩ := hs p _ h1
    unfold aoO at ha
    split at ha
    · rename_i a b e2
      cases e2
      obtain ⟨a1, a2⟩ := ha
      subst e
      refine ⟨_, b.2, h1, ?_, a2, by rw [← a2.1]; exact h3⟩
      rw [hx, a1]
    · rename_i e2
      cases e2
    · exact ha.elim
  · cases h2
theorem isL_el {C : AC} {ps : List Nat} {kd n : Nat} {sh : List XO} (hs : shO C sh) (h : allO C ps (isL kd n) = true) {p : Nat} (hp : p ∈ ps) : ∃ cs rs, xlk C.1 p = some (.inr (kd, n, cs)) ∧ xn sh p = some (.inr (kd, n, rs)) ∧ refO cs rs := by
  obtain ⟨o, h1, h2⟩ := allO_el h hp
  unfold isL at h2
  split at h2
  · rename_i q
    simp only [Bool.and_eq_true] at h2
    obtain ⟨e, h3⟩ := h2
    have e := Nat.eq_of_beq_eq_true e
    have h3 := Nat.eq_of_beq_eq_true h3
    obtain ⟨x, hx, ha⟩ := hs p _ h1
    unfold aoO at ha
    split at ha
    · rename_i e2
      cases e2
    · rename_i a b e2
      cases e2
      obtain ⟨a1, a2, a3⟩ := ha
      obtain ⟨q1, q2, q3⟩ := q
      obtain ⟨b1, b2, b3⟩ := b
      dsimp only at e h3 a1 a2 a3
      subst e h3 a1 a2
      exact ⟨q3, b3, h1, hx, a3⟩
    · exact ha.elim
  · cases h2
theorem isN_el {C : AC} {ps : List Nat} {n : Nat} {sh : List XO} (hs : shO C sh) (h : allO C ps (isN n) = true) {p : Nat} (hp : p ∈ ps) : ∃ kd rs, xn sh p = some (.inr (kd, n, rs)) ∧ Nat.blt kd 4 = true := by
  obtain ⟨o, h1, h2⟩ := allO_el h hp
  unfold isN at h2
  split at h2
  · rename_i q
    simp only [Bool.and_eq_true] at h2
    obtain ⟨e, h3⟩ := h2
    have h3 := Nat.eq_of_beq_eq_true h3
    obtain ⟨x, hx, ha⟩ := hs p _ h1
    unfold aoO at ha
    split at ha
    · rename_i e2
      cases e2
    · rename_i a b e2
      cases e2
      obtain ⟨a1, a2, a3⟩ := ha
      obtain ⟨q1, q2, q3⟩ := q
      obtain ⟨b1, b2, b3⟩ := b
      dsimp only at e h3 a1 a2 a3
      subst h3 a1 a2
      exact ⟨q1, b3, hx, e⟩
    · exact ha.elim
  · cases h2
theorem uni_mem {p : Nat} : ∀ {a b : List Nat}, (p ∈ a ∨ p ∈ b) → p ∈ uni a b
  | [], b, h => by
    rcases h with h | h
    · cases h
    · exact h
  | q :: a, b, h => by
    unfold uni
    split
    · rename_i e
      refine uni_mem (a := a) ?_
      rcases h with h | h
      · rcases List.mem_cons.mp h with z | z
        · rw [z]
          exact Or.inr (nmem_el e)
        · exact Or.inl z
      · exact Or.inr h
    · refine uni_mem (a := a) ?_
      rcases h with h | h
      · rcases List.mem_cons.mp h with z | z
        · rw [z]
          exact Or.inr List.mem_cons_self
        · exact Or.inl z
      · exact Or.inr (List.mem_cons_of_mem _ h)
theorem refU_mem {C : AC} {kk p p' : Nat} {o : AO} : ∀ {ps : List Nat}, p ∈ ps → xlk C.1 p = some o → p' ∈ refA kk o → p' ∈ refU C ps kk
  | q :: ps, hp, ho, h => by
    unfold refU
    rcases List.mem_cons.mp hp with z | z
    · subst z
      rw [ho]
      exact uni_mem (Or.inl h)
    · split
      · exact uni_mem (Or.inr (refU_mem z ho h))
      · exact refU_mem z ho h
theorem hull_ok {C : AC} {kk p : Nat} {z : Int} : ∀ {ps : List Nat} {r : Int × Int}, hull C kk ps = some r → p ∈ ps → inI (cellI C p kk) z → inI r z
  | [q], r, h, hp, hz => by
    cases h
    rw [← List.mem_singleton.mp hp]
    exact hz
  | q :: q2 :: ps, r, h, hp, hz => by
    unfold hull at h
    split at h
    · rename_i w e
      cases h
      have m1 := imin_le (a := (cellI C q kk).1) (b := w.1)
      have m2 := imax_ge (a := (cellI C q kk).2) (b := w.2)
      rcases List.mem_cons.mp hp with y | y
      · subst y
        exact ⟨Int.le_trans m1.1 hz.1, Int.le_trans hz.2 m2.1⟩
      · have := hull_ok e y hz
        exact ⟨Int.le_trans m1.2 this.1, Int.le_trans this.2 m2.2⟩
    · cases h
theorem tF_mem {p kk : Nat} {q : Nat × Int} : ∀ {T : AT}, tF T p kk = some q → (p, kk, q) ∈ T
  | e :: T, h => by
    unfold tF at h
    split at h
    · rename_i z
      simp only [Bool.and_eq_true] at z
      cases h
      rw [← Nat.eq_of_beq_eq_true z.1, ← Nat.eq_of_beq_eq_true z.2]
      exact List.mem_cons_self
    · exact List.mem_cons_of_mem _ (tF_mem h)
theorem nmem_of {p : Nat} : ∀ {l : List Nat}, p ∈ l → nmem p l = true
  | q :: l, h => by
    unfold nmem
    split
    · rfl
    · rename_i e
      rcases List.mem_cons.mp h with z | z
      · rw [z, Nat.beq_refl] at e
        cases e
      · exact nmem_of z
theorem trk_none {T : AT} {ps : List Nat} {p kk : Nat} (h : trk T ps = false) (hp : p ∈ ps) : tF T p kk = none := by
  cases e : tF T p kk with
  | none => rfl
  | some q =>
    have hm := tF_mem e
    have y : trk T ps = true := List.any_eq_true.mpr ⟨_, hm, nmem_of hp⟩
    rw [h] at y
    cases y
theorem tF_hd {p kk : Nat} {q : Nat × Int} {T : AT} : tF ((p, kk, q) :: T) p kk = some q := by
  unfold tF
  simp
theorem tF_ne {p kk p' k' : Nat} {q : Nat × Int} {T : AT} (h : ¬ (p' = p ∧ k' = kk)) : tF ((p, kk, q) :: T) p' k' = tF T p' k' := by
  rw [tF]
  have e : (Nat.beq p p' && Nat.beq kk k') = false := by
    cases z : (Nat.beq p p' && Nat.beq kk k') with
    | false => rfl
    | true =>
      simp only [Bool.and_eq_true] at z
      exact absurd ⟨(Nat.eq_of_beq_eq_true z.1).symm, (Nat.eq_of_beq_eq_true z.2).symm⟩ h
  simp only [e]
theorem tD_ne {p kk p' k' : Nat} (h : ¬ (p' = p ∧ k' = kk)) : ∀ {T : AT}, tF (tD T p kk) p' k' = tF T p' k'
  | [] => rfl
  | e :: T => by
    obtain ⟨e1, e2, e3⟩ := e
    unfold tD
    split
    · rename_i z
      simp only [Bool.and_eq_true] at z
      rw [tD_ne h, tF_ne]
      rw [Nat.eq_of_beq_eq_true z.1, Nat.eq_of_beq_eq_true z.2]
      exact h
    · rw [tF, tF, tD_ne h]
theorem uI_atA (I : XI) (p k : Nat) (v : Int32) (q j : Nat) : uI I p k v q j = if q = p ∧ j = k then v else I q j := by
  by_cases hq : q = p
  · subst hq
    rw [uI_eq]
    simp [upd]
  · rw [uI_ne hq]
    simp [hq]
theorem cellI_row {C : AC} {p kk : Nat} {z : Int} (h : cellsIn C p = true) (hz : inI (cellI C p kk) z) : inI (rowI C p) z := by
  unfold cellI at hz
  split at hz
  · rename_i q e
    have hm := List.mem_of_find?_eq_some e
    have hq := List.find?_some e
    simp only [Bool.and_eq_true] at hq
    have y := List.all_eq_true.mp h q hm
    rw [hq.1] at y
    exact rsub_el (by simpa using y) hz
  · exact hz
theorem hullR_ok {C : AC} {kk p : Nat} {z : Int} : ∀ {ps : List Nat} {r : Int × Int}, hullR C ps = some r → p ∈ ps → inI (cellI C p kk) z → inI r z
  | [q], r, h, hp, hz => by
    unfold hullR at h
    split at h
    · rename_i e
      cases h
      rw [List.mem_singleton.mp hp] at hz
      exact cellI_row e hz
    · cases h
  | q :: q2 :: ps, r, h, hp, hz => by
    unfold hullR at h
    split at h
    · rename_i w e1 e2
      cases h
      have m1 := imin_le (a := (rowI C q).1) (b := w.1)
      have m2 := imax_ge (a := (rowI C q).2) (b := w.2)
      rcases List.mem_cons.mp hp with y | y
      · subst y
        have hz := cellI_row e2 hz
        exact ⟨Int.le_trans m1.1 hz.1, Int.le_trans hz.2 m2.1⟩
      · have := hullR_ok e1 y hz
        exact ⟨Int.le_trans m1.2 this.1, Int.le_trans this.2 m2.2⟩
    · cases h
theorem cellsOk_el {C : AC} {p kk : Nat} {r w : Int × Int} {z : Int} (h : cellsOk C p r w = true) (hk : inI r (kk : Nat)) (hz : inI w z) : inI (cellI C p kk) z := by
  unfold cellsOk at h
  simp only [Bool.and_eq_true] at h
  unfold cellI
  split
  · rename_i q e
    have hm := List.mem_of_find?_eq_some e
    have hq := List.find?_some e
    simp only [Bool.and_eq_true] at hq
    have y := List.all_eq_true.mp h.2 q hm
    have e1 := Nat.eq_of_beq_eq_true hq.2
    unfold nrm at e1
    split at e1
    · rename_i ew
      simp only [Bool.and_eq_true] at ew
      have b3 : ile 130 r.2 = true := decide_eq_true (by have := Nat.le_of_ble_eq_true ew.2; have := hk.2; omega)
      have b4 : Nat.ble 60 q.2.1 = true := Nat.ble_eq_true_of_le (by omega)
      rw [hq.1, ew.1, b3, b4] at y
      simp only [Bool.and_true, Bool.or_true, Bool.not_true, Bool.false_or] at y
      exact rsub_el y hz
    · have b1 : ile r.1 (q.2.1 : Nat) = true := decide_eq_true (by rw [e1]; exact hk.1)
      have b2 : ile (q.2.1 : Nat) r.2 = true := decide_eq_true (by rw [e1]; exact hk.2)
      rw [hq.1, b1, b2] at y
      simp only [Bool.and_true, Bool.true_or, Bool.not_true, Bool.false_or] at y
      exact rsub_el y hz
  · exact rsub_el h.1 hz
theorem inL_el {r : Int × Int} {n : Nat} {z : Int} (h : inL r n = true) (hz : inI r z) : 0 ≤ z ∧ z < n := by
  unfold inL at h
  simp only [Bool.and_eq_true] at h
  have h1 := ile_el h.1
  have h2 := ile_el h.2
  have := hz.1
  have := hz.2
  omega
section ABSH
variable {C : AC} {Wm : List Nat} {Wf : Bool} {sh0 : List XO} {I0 : XI} {R0 R : List Int} {S S' : AS} {lc : List (Option Value)} {st : List Value} {sh : List XO} {I : XI} {J : XJ} {k : XP} {X : XX} {al : Bool} {n0 mc ms : Nat}
theorem aCell_ok {T : List AV} {ps : List Nat} {kk p : Nat} {r : List Value} (h : aCell C S T ps kk = some S') (hg : ga C Wm Wf sh0 I0 R0 R S lc st sh I) (hT : stO R T r) (hp : p ∈ ps) (hk : gk C Wm Wf sh0 I0 R0 S' k) : k lc (.int (I p kk) :: r) sh I J 0 0 := by
  unfold aCell at h
  split at h
  · rename_i q
    have e := List.mem_singleton.mp hp
    subst e
    split at h
    · rename_i q e
      cases h
      exact hk _ _ _ _ _ _ (ga_pu hg hT ⟨_, rfl, hg.2.2.1.1 _ _ _ e⟩)
    · rename_i e
      cases h
      have hz : inI (cellI C p kk) (I p kk).toInt := hg.2.2.1.2.1 _ _ e
      have y := ga_fr hg hT hz
      have el : S.1.length = R.length := hg.1.1.1.symm
      refine hk _ _ _ _ _ _ ⟨y.1, y.2.1, ⟨fun p' k' q hq => ?_, fun p' k' hq => ?_, y.2.2.1.2.2⟩, y.2.2.2⟩
      · by_cases hh : p' = p ∧ k' = kk
        · obtain ⟨rfl, rfl⟩ := hh
          rw [tF_hd] at hq
          cases hq
          exact ⟨_, by rw [el]; exact xn_app_len _ _, by simp⟩
        · rw [tF_ne hh] at hq
          exact y.2.2.1.1 _ _ _ hq
      · by_cases hh : p' = p ∧ k' = kk
        · obtain ⟨rfl, rfl⟩ := hh
          rw [tF_hd] at hq
          cases hq
        · rw [tF_ne hh] at hq
          exact y.2.2.1.2.1 _ _ hq
  · split at h
    · rename_i w e1 e2
      cases h
      exact hk _ _ _ _ _ _ (ga_fr hg hT (hull_ok e2 hp (hg.2.2.1.2.1 _ _ (trk_none e1 hp))))
    · cases h
theorem aLoad_ok {kd : Nat} (h : aLoad C S kd = some S') (hg : ga C Wm Wf sh0 I0 R0 R S lc st sh I) (hk : gk C Wm Wf sh0 I0 R0 S' k) : xir st fun j p r => xga sh p kd fun n _ => vp_in j n ∧ k lc (.int (I p j.toNatClampNeg) :: r) sh I J 0 0 := by
  unfold aLoad at h
  split at h
  · rename_i q ps T e
    have hs := hg.2.1.2
    rw [e] at hs
    obtain ⟨j, r1, rfl, hj, hT1⟩ := stO_int hs
    obtain ⟨p, r2, rfl, hp, hT2⟩ := stO_ref hT1
    split at h
    · rename_i r n er en
      have hi := iv_ok hg.1.1 hj er
      split at h
      · rename_i e1 e2
        simp only [Bool.and_eq_true] at e1
        obtain ⟨cs, rs, _, hx, _⟩ := isL_el hg.2.2.2.1 e1.2 hp
        have hb := inL_el e1.1 hi
        unfold xir
        dsimp only
        unfold xga
        rw [hx]
        dsimp only
        refine xb_mk (Nat.beq_refl kd) ⟨vp_in_iff.mpr hb, ?_⟩
        have ej : j.toNatClampNeg = r.1.toNat := by
          have e2 := of_decide_eq_true e2
          have := hi.1
          have := hi.2
          show j.toInt.toNat = r.1.toNat
          omega
        rw [ej]
        exact aCell_ok h hg hT2 hp hk
      · rename_i e1 e2
        simp only [Bool.and_eq_true] at e1
        obtain ⟨cs, rs, _, hx, _⟩ := isL_el hg.2.2.2.1 e1.2 hp
        have hb := inL_el e1.1 hi
        unfold xir
        dsimp only
        unfold xga
        rw [hx]
        dsimp only
        refine xb_mk (Nat.beq_refl kd) ⟨vp_in_iff.mpr hb, ?_⟩
        split at h
        · rename_i w e3 e4
          cases h
          exact hk _ _ _ _ _ _ (ga_fr hg hT2 (hullR_ok e4 hp (hg.2.2.1.2.1 _ _ (trk_none e3 hp))))
        · cases h
          exact hk _ _ _ _ _ _ (ga_fr hg hT2 (inI_fr _))
      · cases h
    · cases h
  · cases h
theorem aIdx_ok {kd : Nat} {f : List AV → Option AS} {g : Int32 → Nat → Nat → List (Option Nat) → List Value → Prop} (h : aIdx C S kd f = some S') (hg : ga C Wm Wf sh0 I0 R0 R S lc st sh I) (hf : ∀ T j p n rs r, f T = some S' → stO R T r → vp_in j n → g j p n rs r) : xir st fun j p r => xga sh p kd fun n rs => g j p n rs r := by
  unfold aIdx at h
  split at h
  · rename_i q ps T e
    have hs := hg.2.1.2
    rw [e] at hs
    obtain ⟨j, r1, rfl, hj, hT1⟩ := stO_int hs
    obtain ⟨p, r2, rfl, hp, hT2⟩ := stO_ref hT1
    split at h
    · rename_i r n er en
      have hi := iv_ok hg.1.1 hj er
      split at h
      · rename_i e1
        simp only [Bool.and_eq_true] at e1
        obtain ⟨cs, rs, _, hx, _⟩ := isL_el hg.2.2.2.1 e1.2 hp
        have hb := inL_el e1.1 hi
        unfold xir
        dsimp only
        unfold xga
        rw [hx]
        dsimp only
        exact xb_mk (Nat.beq_refl kd) (hf _ _ _ _ _ _ h hT2 (vp_in_iff.mpr hb))
      · cases h
    · cases h
  · cases h
/-- a cell is written and told from then on -/
theorem ga_trk {T : List AV} {p kk : Nat} {q : Nat × Int} {x : Int32} {r : List Value} (hg : ga C Wm Wf sh0 I0 R0 R S lc st sh I) (hT : stO R T r) (hW : nmem p Wm = true) (hq : numO R q x) : ga C Wm Wf sh0 I0 R0 R (S.1, S.2.1, T, (p, kk, q.1, q.2) :: tD S.2.2.2 p kk) lc r sh (uI I p kk x) := by
  refine ⟨hg.1, ⟨hg.2.1.1, hT⟩, ⟨fun p' k' q' hq' => ?_, fun p' k' hq' => ?_, fun p' hp' => ?_⟩, hg.2.2.2⟩
  · by_cases hh : p' = p ∧ k' = kk
    · obtain ⟨rfl, rfl⟩ := hh
      rw [tF_hd] at hq'
      cases hq'
      rw [uI_atA, if_pos ⟨rfl, rfl⟩]
      exact hq
    · rw [tF_ne hh, tD_ne hh] at hq'
      rw [uI_atA, if_neg hh]
      exact hg.2.2.1.1 _ _ _ hq'
  · by_cases hh : p' = p ∧ k' = kk
    · obtain ⟨rfl, rfl⟩ := hh
      rw [tF_hd] at hq'
      cases hq'
    · rw [tF_ne hh, tD_ne hh] at hq'
      rw [uI_atA, if_neg hh]
      exact hg.2.2.1.2.1 _ _ hq'
  · have hne : p' ≠ p := fun z => by rw [z, hW] at hp'; cases hp'
    rw [uI_ne hne]
    exact hg.2.2.1.2.2 _ hp'
theorem ga_row {T : List AV} {p kk : Nat} {x : Int32} {r : List Value} (hg : ga C Wm Wf sh0 I0 R0 R S lc st sh I) (hT : stO R T r) (hW : nmem p Wm = true) (ht : tF S.2.2.2 p kk = none) (hx : inI (cellI C p kk) x.toInt) : ga C Wm Wf sh0 I0 R0 R (aSt S T) lc r sh (uI I p kk x) := by
  refine ⟨hg.1, ⟨hg.2.1.1, hT⟩, ⟨fun p' k' q' hq' => ?_, fun p' k' hq' => ?_, fun p' hp' => ?_⟩, hg.2.2.2⟩
  · have hh : ¬ (p' = p ∧ k' = kk) := fun z => by
      rw [z.1, z.2] at hq'
      rw [show (aSt S T).2.2.2 = S.2.2.2 from rfl, ht] at hq'
      cases hq'
    rw [uI_atA, if_neg hh]
    exact hg.2.2.1.1 _ _ _ hq'
  · by_cases hh : p' = p ∧ k' = kk
    · obtain ⟨rfl, rfl⟩ := hh
      rw [uI_atA, if_pos ⟨rfl, rfl⟩]
      exact hx
    · rw [uI_atA, if_neg hh]
      exact hg.2.2.1.2.1 _ _ hq'
  · have hne : p' ≠ p := fun z => by rw [z, hW] at hp'; cases hp'
    rw [uI_ne hne]
    exact hg.2.2.1.2.2 _ hp'
theorem tR_none {T : AT} {p kk : Nat} {r : Int × Int} (h : tR T p r = false) (hk : inI r (kk : Nat)) : tF T p kk = none := by
  cases e : tF T p kk with
  | none => rfl
  | some q =>
    have hm := tF_mem e
    have b1 : ile r.1 (kk : Nat) = true := decide_eq_true hk.1
    have b2 : ile (kk : Nat) r.2 = true := decide_eq_true hk.2
    have y : tR T p r = true := List.any_eq_true.mpr ⟨_, hm, by dsimp only; rw [Nat.beq_refl, b1, b2]; rfl⟩
    rw [h] at y
    cases y
theorem aStore_ok {kd : Nat} {q : Nat × Int} {v : (Nat × Int) ⊕ (Int × Int)} {ps : List Nat} {T : List AV} {j x : Int32} {p : Nat} {r : List Value} (h : aStore C Wm S kd q v ps T = some S') (hg : ga C Wm Wf sh0 I0 R0 R S lc st sh I) (hT : stO R T r) (hp : p ∈ ps) (hj : numO R q j) (hv : numP R v x) (hk : gk C Wm Wf sh0 I0 R0 S' k) : xga sh p kd fun n _ => vp_in j n ∧ k lc r sh (uI I p j.toNatClampNeg x) J 0 0 := by
  unfold aStore at h
  split at h
  · rename_i p0 r0 er
    have e := List.mem_singleton.mp hp
    subst e
    have hi := iv_ok hg.1.1 hj er
    split at h
    · rename_i n en
      have main : ∀ (hb : (inL r0 n && allO C [p] (isL kd n) && nmem p Wm) = true), (k lc r sh (uI I p j.toNatClampNeg x) J 0 0) → xga sh p kd fun n _ => vp_in j n ∧ k lc r sh (uI I p j.toNatClampNeg x) J 0 0 := by
        intro hb hh
        simp only [Bool.and_eq_true] at hb
        obtain ⟨cs, rs, _, hx, _⟩ := isL_el hg.2.2.2.1 hb.1.2 hp
        unfold xga
        rw [hx]
        dsimp only
        exact xb_mk (Nat.beq_refl kd) ⟨vp_in_iff.mpr (inL_el hb.1.1 hi), hh⟩
      have ej : ∀ (hd : decide (r0.1 = r0.2) = true), j.toNatClampNeg = r0.1.toNat := by
        intro hd
        have hd := of_decide_eq_true hd
        have := hi.1
        have := hi.2
        show j.toInt.toNat = r0.1.toNat
        omega
      have hkk : ∀ (hb : (inL r0 n && allO C [p] (isL kd n) && nmem p Wm) = true), inI r0 (j.toNatClampNeg : Nat) := by
        intro hb
        simp only [Bool.and_eq_true] at hb
        have := inL_el hb.1.1 hi
        show inI r0 ((j.toInt.toNat : Nat) : Int)
        rw [Int.toNat_of_nonneg this.1]
        exact hi
      have hW : ∀ (hb : (inL r0 n && allO C [p] (isL kd n) && nmem p Wm) = true), nmem p Wm = true := by
        intro hb
        simp only [Bool.and_eq_true] at hb
        exact hb.2
      split at h
      · rename_i u hb hd
        cases h
        refine main hb ?_
        rw [ej hd]
        exact hk _ _ _ _ _ _ (ga_trk (q := u) hg hT (hW hb) hv)
      · rename_i w hb hd
        cases h
        refine main hb ?_
        rw [ej hd]
        have hg2 := ga_ext hg hv
        have el : S.1.length = R.length := hg.1.1.1.symm
        exact hk _ _ _ _ _ _ (ga_trk (q := (S.1.length, 0)) hg2 (stO_app hT) (hW hb) ⟨_, by rw [el]; exact xn_app_len _ _, by simp⟩)
      · rename_i u hb hd
        split at h
        · rename_i w ew
          split at h
          · rename_i e3
            simp only [Bool.and_eq_true, Bool.not_eq_true'] at e3
            cases h
            exact main hb (hk _ _ _ _ _ _ (ga_row hg hT (hW hb) (tR_none e3.2 (hkk hb)) (cellsOk_el e3.1 (hkk hb) (iv_ok hg.1.1 hv ew))))
          · cases h
        · cases h
      · rename_i w hb hd
        split at h
        · rename_i e3
          simp only [Bool.and_eq_true, Bool.not_eq_true'] at e3
          cases h
          exact main hb (hk _ _ _ _ _ _ (ga_row hg hT (hW hb) (tR_none e3.2 (hkk hb)) (cellsOk_el e3.1 (hkk hb) hv)))
        · cases h
      · cases h
    · cases h
  · cases h
end ABSH
