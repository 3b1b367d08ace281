def xargs : List Value → List (Option Value)
  | [] => []
  | v :: r => match Nat.beq v.category 2 with
    | true => some v :: none :: xargs r
    | false => some v :: xargs r
theorem xargs_len (ρ : Nat → Nat) : ∀ as : List Value, (lg_sl (as.map (xv ρ))).length = (xargs as).length
  | [] => rfl
  | v :: r => by
    have ih := xargs_len ρ r
    unfold lg_sl at ih
    unfold lg_sl xargs
    rw [List.map_cons, List.flatMap_cons, List.length_append, ih, xv_cat]
    by_cases hc : v.category = 2
    · have hb : Nat.beq v.category 2 = true := by rw [hc]; rfl
      rw [hb, if_pos hc]
      simp only [List.length_cons, List.length_nil]
      omega
    · have hb : Nat.beq v.category 2 = false := by
        cases h : Nat.beq v.category 2 with
        | true => exact absurd (Nat.eq_of_beq_eq_true h) hc
        | false => rfl
      rw [hb, if_neg hc]
      simp only [List.length_cons, List.length_nil]
      omega
theorem xargs_get (ρ : Nat → Nat) : ∀ (as : List Value) (i k : Nat) (v : Value), (xargs as)[i]? = some (some v) → (k + i, xv ρ v) ∈ lv_args k (as.map (xv ρ))
  | [], i, k, v, h => by simp [xargs] at h
  | w :: r, i, k, v, h => by
    unfold xargs at h
    rw [List.map_cons, lv_args, xv_cat]
    split at h
    · rename_i hc
      have h2 := Nat.eq_of_beq_eq_true hc
      rw [if_pos h2]
      match i, h with
      | 0, h =>
        simp only [List.getElem?_cons_zero, Option.some.injEq] at h
        subst h
        exact List.mem_cons_self
      | 1, h => simp at h
      | i + 2, h =>
        simp only [List.getElem?_cons_succ] at h
        have y := xargs_get ρ r i (k + 2) v h
        rw [show k + 2 + i = k + (i + 2) by omega] at y
        exact List.mem_cons_of_mem _ y
    · rename_i hc
      have h2 : ¬ w.category = 2 := fun z => by rw [z] at hc; simp at hc
      rw [if_neg h2]
      match i, h with
      | 0, h =>
        simp only [List.getElem?_cons_zero, Option.some.injEq] at h
        subst h
        exact List.mem_cons_self
      | i + 1, h =>
        simp only [List.getElem?_cons_succ] at h
        have y := xargs_get ρ r i (k + 1) v h
        rw [show k + 1 + i = k + (i + 1) by omega] at y
        exact List.mem_cons_of_mem _ y
def xpad : Nat → List (Option Value) → List (Option Value)
  | 0, l => l
  | n + 1, [] => none :: xpad n []
  | n + 1, a :: l => a :: xpad n l
theorem xpad_get : ∀ (n : Nat) (l : List (Option Value)) (i : Nat) (v : Value), (xpad n l)[i]? = some (some v) → l[i]? = some (some v)
  | 0, l, i, v, h => h
  | n + 1, [], i, v, h => by
    unfold xpad at h
    cases i with
    | zero => simp at h
    | succ i =>
      simp only [List.getElem?_cons_succ] at h
      have y := xpad_get n [] i v h
      simp at y
  | n + 1, a :: l, i, v, h => by
    unfold xpad at h
    cases i with
    | zero => exact h
    | succ i =>
      simp only [List.getElem?_cons_succ] at h ⊢
      exact xpad_get n l i v h
theorem xpad_len : ∀ (n : Nat) (l : List (Option Value)), l.length ≤ n → (xpad n l).length = n
  | 0, l, h => by
    have : l = [] := List.length_eq_zero_iff.mp (by omega)
    subst this
    rfl
  | n + 1, [], h => by simp [xpad, xpad_len n [] (by simp)]
  | n + 1, a :: l, h => by
    simp only [List.length_cons] at h
    simp [xpad, xpad_len n l (by omega)]
/-- a method's contract out of its run on abstract states -/
theorem xm_of {X : XX} {M : XM} {t : XT} {stop : List Nat} {ini : Bool} {l : Launch} {d mc ms n : Nat} {as : List Value} {sh : List XO} {I : XI} {J : XJ} {Rp : XR} (hX : xxP X) (hpl : plainName X.1 = true) (hcls : M.1.cls = X.1) (ht : xtOK M.2.1 t = true) (hini : ini = true → M.1.name = "<init>") (hlen : (xargs as).length ≤ M.2.2.1) (h : xrun X M.2.2.2 ini (!(Nat.beq mc 0)) sh.length mc ms none l d t stop Rp n 0 (xpad M.2.2.1 (xargs as)) [] sh I J 0 0) : xm l (d + 1) mc ms M as sh I J Rp := by
  intro D ρ sz
  refine Met.ofW (cc := M.2.1) (maxL := M.2.2.1) (ret := M.2.2.2) (by rw [hcls]; exact hpl) rfl ?_
  intro p e s m args below meth c s₁ B hml hv
  obtain ⟨rfl, hsz, hP, hK, hD0, hE⟩ := hv
  have hts := atoms_spec (ws := xwsM M) B.pre
  have hown : s.vm.findClass M.1.cls = some m.cls := findClass_of_methodNamed B.named
  have hin : meth.name = M.1.name := (name_of_methodNamed B.named B.method).1
  subst hsz
  have G : XG p (xrm (d + 1) mc ms) s m (as.map (xv ρ)).toArray meth D (va_A (wl D ρ sh I J) s.heap.size) ρ none d mc ms ini X.1 := ⟨B.exec, by rw [← hcls]; exact hown, fun w hw => hts w (List.mem_cons_of_mem _ hw), fun q h => Or.inr h, hK, trivial, hE, ⟨Nat.le_refl _, Nat.le_refl _, rfl, rfl⟩, fun z => by rw [hin]; exact hini z⟩
  have hEnd : XEnd p l e (xrm (d + 1) mc ms) s m (as.map (xv ρ)).toArray below meth c D (va_A (wl D ρ sh I J) s.heap.size) (!(Nat.beq mc 0)) sh.length ρ (MQ below (xQc (!(Nat.beq mc 0)) D ρ sh I J s.heap.size Rp) (as.map (xv ρ)).toArray s mc ms (va_A (wl D ρ sh I J) s.heap.size)) M.2.2.2 mc ms Rp := by
    intro v sh' I' J' a b pc i ρ' H locs ls hR ha hb hd hv h1 h2 h3 h4
    have hq : ∀ t : State, t.heap = H → s.WarmedH t.vm → xQc (!(Nat.beq mc 0)) D ρ sh I J s.heap.size Rp (as.map (xv ρ)).toArray s (.returned (v.map (xv ρ'))) t := fun t ht _ => ⟨⟨v, ρ', sh', I', J', hR, h1, rfl, by rw [ht]; exact h2, h3⟩, h4.F ht⟩
    have hf : ∀ q ∈ locs, va_A (wl D ρ sh I J) s.heap.size q.base := fun q hq => h4.2.2 q hq
    have hbr := B.returns
    rcases hv with ⟨rfl, rfl, hr⟩ | ⟨x, rfl, rfl, hr⟩ | ⟨x, rfl, rfl, hr⟩ | ⟨x, rfl, rfl, hr⟩
    · exact W.widen ha hb (W.vret B.exec rfl (hbr.trans hr) hq hf hd B.notSynchronized)
    · rcases hr with hr | ⟨hr, hx⟩ | ⟨hr, hx⟩
      · exact W.widen ha hb (W.zret B.exec rfl (hbr.trans hr) rfl hq hf hd B.notSynchronized)
      · exact W.widen ha hb (W.zret B.exec rfl (hbr.trans hr) (by rcases hx with hx | hx <;> subst hx <;> rfl) hq hf hd B.notSynchronized)
      · rcases hr with hr | hr
        · exact W.widen ha hb (W.zret B.exec rfl (hbr.trans hr) (hx _ hr) hq hf hd B.notSynchronized)
        · exact W.widen ha hb (W.zret B.exec rfl (hbr.trans hr) (hx _ hr) hq hf hd B.notSynchronized)
    · exact W.widen ha hb (W.lret B.exec rfl (hbr.trans hr) hq hf hd B.notSynchronized)
    · rcases hr with ⟨y, hr⟩ | ⟨y, hr⟩
      · exact W.widen ha hb (W.aret B.exec rfl (hbr.trans hr) (Or.inl ⟨_, rfl⟩) (Or.inr ⟨_, rfl⟩) hq hf hd B.notSynchronized)
      · exact W.widen ha hb (W.aret B.exec rfl (hbr.trans hr) (Or.inr ⟨_, rfl⟩) (Or.inr ⟨_, rfl⟩) hq hf hd B.notSynchronized)
  have hdec : ∀ q ∈ t, decode c.code q.1 = .ok (q.2.1, q.2.2) := by
    intro q hq
    rw [B.bytes]
    have y := List.all_eq_true.mp ht q hq
    exact of_decide_eq_true y
  have hl := lv_entry (as.map (xv ρ)) (n := M.2.2.1) (by rw [xargs_len]; exact hlen)
  rw [lg_entry_eq]
  generalize (lg_sl (as.map (xv ρ)) ++ List.replicate (M.2.2.1 - (lg_sl (as.map (xv ρ))).length) Slot.unset).toArray = ls at hl ⊢
  have hxl : xl ρ (xpad M.2.2.1 (xargs as)) ls := by
    refine ⟨by rw [xpad_len _ _ hlen]; exact hl.1, hl.2.1, fun i v hv => ?_⟩
    have y := xargs_get ρ as i 0 v (xpad_get _ _ i v hv)
    rw [Nat.zero_add] at y
    exact hl.2.2 _ y
  exact xrun_ok G hX hdec hEnd n 0 _ _ _ _ _ _ _ h ρ s.heap [] ls xrel.rf hP hD0.self va_S.rf hxl (hl.1.trans hml.symm)
