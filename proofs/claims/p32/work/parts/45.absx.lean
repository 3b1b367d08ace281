-- ===== the other instructions on cells; all straight instructions =====
section ABSX
variable {C : AC} {Wm : List Nat} {Wf : Bool} {sh0 : List XO} {I0 : XI} {R0 R : List Int} {S S' : AS} {lc : List (Option Value)} {st : List Value} {sh : List XO} {I : XI} {J : XJ} {k : XP} {X : XX} {al : Bool} {n0 mc ms : Nat}
theorem getf_ok {idx : Nat} (h : aI C Wm Wf X (.getfield idx) S = some S') (hg : ga C Wm Wf sh0 I0 R0 R S lc st sh I) (hk : gk C Wm Wf sh0 I0 R0 S' k) : xs X false al n0 mc ms none (.getfield idx) lc st sh I J 0 0 k := by
  unfold aI at h
  dsimp only at h
  unfold xs
  dsimp only
  split at h
  · cases h
  rename_i eo
  rw [eo]
  dsimp only
  split at h
  · rename_i ps T e es el
    have hs := hg.2.1.2
    rw [es] at hs
    obtain ⟨p, r, rfl, hp, hT⟩ := stO_ref hs
    unfold xr1
    dsimp only
    unfold xgo
    rw [el]
    dsimp only
    split at h
    · rename_i e1 e2
      obtain ⟨cs, rs, hc, hx, hrf, hlt⟩ := isO_el hg.2.2.2.1 e1 hp
      rw [hx]
      dsimp only
      refine xb_mk (Nat.beq_refl _) ?_
      split at h
      · rename_i e3
        cases h
        obtain ⟨o, ho, hr⟩ := allO_el e3 hp
        rw [hc] at ho
        cases ho
        unfold hasR at hr
        dsimp only at hr
        split at hr
        · rename_i ps' e4
          obtain ⟨p', hp', hx'⟩ := hrf.2.1 _ _ e4
          have ev : xgf I p e.1 e.2.1 rs = .ref p' := by
            unfold xgf
            rw [e2]
            dsimp only
            unfold xref
            rw [hx']
          rw [ev]
          refine hk _ _ _ _ _ _ (ga_pu hg hT ⟨p', refU_mem hp hc ?_, rfl⟩)
          unfold refA
          dsimp only
          rw [e4]
          exact hp'
        · cases hr
      · cases h
    · rename_i e1 e2
      obtain ⟨cs, rs, hc, hx, hrf, hlt⟩ := isO_el hg.2.2.2.1 e1 hp
      rw [hx]
      dsimp only
      refine xb_mk (Nat.beq_refl _) ?_
      have ev : xgf I p e.1 e.2.1 rs = .int (I p e.2.1) := by
        unfold xgf
        rw [e2]
      rw [ev]
      exact aCell_ok h hg hT hp hk
    · cases h
  · cases h
theorem xin_mk {α : Type} {l : List α} {i : Nat} {P : Prop} (h : i < l.length) (hp : P) : xin (xn l i) P := by
  obtain ⟨a, ha⟩ := xn_some h
  rw [ha]
  exact hp
theorem tyI_el {t : FieldType} (h : tyI t = true) : t = .int := by
  unfold tyI at h
  split at h
  · rfl
  · cases h
theorem tyB_el {t : FieldType} (h : tyB t = true) : t = .boolean := by
  unfold tyB at h
  split at h
  · rfl
  · cases h
theorem refO_set {cs : List (Option (List Nat))} {rs : List (Option Nat)} {kk q : Nat} {ps : List Nat} (h : refO cs rs) (hc : xn cs kk = some (some ps)) (hq : q ∈ ps) : refO cs (xsetR rs kk (some q)) := by
  rw [xsetR_eq]
  refine ⟨by rw [List.length_set]; exact h.1, fun j ps' hj => ?_, fun j hj => ?_⟩
  · by_cases hh : kk = j
    · subst hh
      rw [hc] at hj
      cases hj
      exact ⟨q, hq, xn_set_eq (by rw [← h.1]; exact xn_lt hc)⟩
    · rw [xn_set_ne hh]
      exact h.2.1 j ps' hj
  · by_cases hh : kk = j
    · subst hh
      rw [hc] at hj
      cases hj
    · rw [xn_set_ne hh]
      exact h.2.2 j hj
theorem putf_ok {idx : Nat} (h : aI C Wm Wf X (.putfield idx) S = some S') (hg : ga C Wm Wf sh0 I0 R0 R S lc st sh I) (hk : gk C Wm Wf sh0 I0 R0 S' k) : xvr st fun v p r => xgo X sh p idx fun ci kk rs => xin (xn rs kk) (xpf X false ci kk (xpv (xty ci kk) v (fun x => k lc r sh (uI I p kk x) J 0 0) (fun q => k lc r (xset sh p (.inl (ci, xsetR rs kk (some q)))) I J 0 0))) := by
  unfold aI at h
  dsimp only at h
  split at h
  · rename_i u p T e es el
    have hs := hg.2.1.2
    rw [es] at hs
    obtain ⟨x, r1, rfl, hx, hT1⟩ := stO_int hs
    obtain ⟨p0, r, rfl, hp, hT⟩ := stO_ref hT1
    have e0 := List.mem_singleton.mp hp
    subst e0
    split at h
    · rename_i w e1 ew
      simp only [Bool.and_eq_true, Bool.not_eq_true'] at e1
      obtain ⟨cs, rs, hc, hxx, hrf, hlt⟩ := isO_el hg.2.2.2.1 e1.1.1 hp
      unfold xvr
      dsimp only
      unfold xgo
      rw [el]
      dsimp only
      rw [hxx]
      dsimp only
      refine xb_mk (Nat.beq_refl _) (xin_mk hlt ?_)
      unfold xpf
      rw [e1.2]
      dsimp only
      split at h
      · rename_i e2
        cases h
        simp only [Bool.or_eq_true, Bool.and_eq_true] at e2
        have go : k lc r sh (uI I p0 e.2.1 x) J 0 0 := hk _ _ _ _ _ _ (ga_trk (q := u) hg hT e1.1.2 hx)
        rcases e2 with e2 | ⟨e2, e3⟩
        · rw [tyI_el e2]
          exact go
        · rw [tyB_el e2]
          refine ⟨?_, go⟩
          have hi := rsub_el e3 (iv_ok hg.1.1 hx ew)
          have h1 := hi.1
          have h2 := hi.2
          dsimp only at h1 h2
          rcases (show x.toInt = 0 ∨ x.toInt = 1 by omega) with z | z
          · exact Or.inl (Int32.toInt_inj.mp z)
          · exact Or.inr (Int32.toInt_inj.mp z)
      · cases h
    · cases h
  · rename_i vs p T e es el
    have hs := hg.2.1.2
    rw [es] at hs
    obtain ⟨q, r1, rfl, hq, hT1⟩ := stO_ref hs
    obtain ⟨p0, r, rfl, hp, hT⟩ := stO_ref hT1
    have e0 := List.mem_singleton.mp hp
    subst e0
    split at h
    · rename_i o e1 eo
      simp only [Bool.and_eq_true, Bool.not_eq_true'] at e1
      obtain ⟨cs, rs, hc, hxx, hrf, hlt⟩ := isO_el hg.2.2.2.1 e1.1.1.1 hp
      rw [eo] at hc
      cases hc
      unfold xvr
      dsimp only
      unfold xgo
      rw [el]
      dsimp only
      rw [hxx]
      dsimp only
      refine xb_mk (Nat.beq_refl _) (xin_mk hlt ?_)
      unfold xpf
      rw [e1.1.2]
      dsimp only
      split at h
      · rename_i ps ep
        split at h
        · rename_i e2
          cases h
          have go : k lc r (xset sh p0 (.inl (e.1, xsetR rs e.2.1 (some q)))) I J 0 0 := by
            refine hk _ _ _ _ _ _ ⟨hg.1, ⟨hg.2.1.1, hT⟩, hg.2.2.1, fun p' o' ho' => ?_, fun z => ?_⟩
            · by_cases hh : p' = p0
              · subst hh
                rw [eo] at ho'
                cases ho'
                exact ⟨_, xset_same hxx, rfl, refO_set hrf ep (nsub_el e2 hq)⟩
              · rw [xset_ne hh]
                exact hg.2.2.2.1 p' o' ho'
            · rw [e1.1.1.2] at z
              cases z
          have ht := e1.2
          generalize xty e.1 e.2.1 = t at ht ⊢
          cases t <;> first
            | exact go
            | cases ht
        · cases h
      · cases h
    · cases h
  · cases h
theorem alen_ok (h : aI C Wm Wf X .arraylength S = some S') (hg : ga C Wm Wf sh0 I0 R0 R S lc st sh I) (hk : gk C Wm Wf sh0 I0 R0 S' k) : xs X false al n0 mc ms none .arraylength lc st sh I J 0 0 k := by
  unfold aI at h
  dsimp only at h
  split at h
  · rename_i ps T es
    have hs := hg.2.1.2
    rw [es] at hs
    obtain ⟨p, r, rfl, hp, hT⟩ := stO_ref hs
    split at h
    · rename_i e ec
      cases h
      obtain ⟨p', hps, hb, hn, he⟩ := cstA_el ec
      rw [hps] at hp
      have e0 := List.mem_singleton.mp hp
      subst e0
      unfold xs
      dsimp only
      unfold xr1
      dsimp only
      rw [hn]
      dsimp only
      rw [hb]
      dsimp only
      rw [he]
      exact hk _ _ _ _ _ _ (ga_pu hg hT ⟨_, rfl, numO_const hg.1.2.1⟩)
    split at h
    · rename_i n en
      split at h
      · rename_i e1
        cases h
        simp only [Bool.and_eq_true] at e1
        obtain ⟨kd, rs, hx, hb⟩ := isN_el hg.2.2.2.1 e1.1 hp
        obtain ⟨hn, hn2⟩ := cstN_el e1.2 hp
        unfold xs
        dsimp only
        unfold xr1
        dsimp only
        rw [hn]
        dsimp only
        rw [hn2]
        dsimp only
        rw [hx]
        dsimp only
        exact xb_mk hb (hk _ _ _ _ _ _ (ga_pu hg hT ⟨_, rfl, numO_const hg.1.2.1⟩))
      · cases h
    · cases h
  · cases h
theorem iald_ok (h : aI C Wm Wf X .iaload S = some S') (hg : ga C Wm Wf sh0 I0 R0 R S lc st sh I) (hk : gk C Wm Wf sh0 I0 R0 S' k) : xs X false al n0 mc ms none .iaload lc st sh I J 0 0 k := by
  unfold aI at h
  dsimp only at h
  split at h
  · rename_i q ps T es
    split at h
    · rename_i e ec
      have hs := hg.2.1.2
      rw [es] at hs
      obtain ⟨j, r1, rfl, hj, hT1⟩ := stO_int hs
      obtain ⟨p, r, rfl, hp, hT⟩ := stO_ref hT1
      obtain ⟨p', hps, hb, hn, he⟩ := cstA_el ec
      rw [hps] at hp
      have e0 := List.mem_singleton.mp hp
      subst e0
      split at h
      · rename_i w ew
        split at h
        · rename_i e2
          cases h
          simp only [Bool.and_eq_true] at e2
          have hi := inL_el e2.2 (iv_ok hg.1.1 hj ew)
          unfold xs
          dsimp only
          unfold xir
          dsimp only
          rw [hn]
          dsimp only
          rw [hb]
          dsimp only
          rw [he]
          exact xb_mk e2.1 ⟨vp_in_iff.mpr hi, hk _ _ _ _ _ _ (ga_fr hg hT (inI_fr _))⟩
        · cases h
      · cases h
    split at h
    · rename_i e1
      have y := aLoad_ok (J := J) h hg hk
      have hs := hg.2.1.2
      rw [es] at hs
      obtain ⟨j, r1, rfl, hj, hT1⟩ := stO_int hs
      obtain ⟨p, r, rfl, hp, hT⟩ := stO_ref hT1
      obtain ⟨hn, hn2⟩ := cstN_el e1 hp
      unfold xs
      dsimp only
      unfold xir at y ⊢
      dsimp only at y ⊢
      rw [hn]
      dsimp only
      rw [hn2]
      exact y
    · cases h
  · cases h
theorem refW_mem {p n kk p' : Nat} {o : AO} : ∀ {m : Nat}, kk < m → xlk C.1 p = some o → p' ∈ refA kk o → p' ∈ refW C p n m
  | m + 1, hm, ho, h => by
    unfold refW
    by_cases hh : kk = m
    · subst hh
      exact uni_mem (Or.inl (refU_mem List.mem_cons_self ho h))
    · exact uni_mem (Or.inr (refW_mem (by omega) ho h))
theorem aald_ok (h : aI C Wm Wf X .aaload S = some S') (hg : ga C Wm Wf sh0 I0 R0 R S lc st sh I) (hk : gk C Wm Wf sh0 I0 R0 S' k) : xs X false al n0 mc ms none .aaload lc st sh I J 0 0 k := by
  unfold aI at h
  dsimp only at h
  split at h
  · rename_i q p T es
    have hs := hg.2.1.2
    rw [es] at hs
    obtain ⟨j, r1, rfl, hj, hT1⟩ := stO_int hs
    obtain ⟨p0, r, rfl, hp, hT⟩ := stO_ref hT1
    have e0 := List.mem_singleton.mp hp
    subst e0
    split at h
    · rename_i r0 n er en
      have hi := iv_ok hg.1.1 hj er
      split at h
      · rename_i e1
        cases h
        simp only [Bool.and_eq_true] at e1
        obtain ⟨cs, rs, hc, hx, hrf⟩ := isL_el hg.2.2.2.1 e1.1.2 hp
        have hb := inL_el e1.1.1 hi
        have hj2 : j.toNatClampNeg < n := by
          show j.toInt.toNat < n
          omega
        unfold xs
        dsimp only
        unfold xir
        dsimp only
        unfold xga
        rw [hx]
        dsimp only
        refine xb_mk rfl ⟨vp_in_iff.mpr hb, ?_⟩
        have hh := List.all_eq_true.mp e1.2 _ (List.mem_range.mpr hj2)
        obtain ⟨o, ho, hr⟩ := allO_el hh hp
        rw [hc] at ho
        cases ho
        unfold hasR at hr
        dsimp only at hr
        split at hr
        · rename_i ps' e4
          obtain ⟨p', hp', hx'⟩ := hrf.2.1 _ _ e4
          have ev : xref rs j.toNatClampNeg = .ref p' := by
            unfold xref
            rw [hx']
          rw [ev]
          refine hk _ _ _ _ _ _ (ga_pu hg hT ⟨p', refW_mem hj2 hc ?_, rfl⟩)
          unfold refA
          dsimp only
          rw [e4]
          exact hp'
        · cases hr
      · cases h
    · cases h
  · cases h
theorem iast_ok (h : aI C Wm Wf X .iastore S = some S') (hg : ga C Wm Wf sh0 I0 R0 R S lc st sh I) (hk : gk C Wm Wf sh0 I0 R0 S' k) : xs X false al n0 mc ms none .iastore lc st sh I J 0 0 k := by
  unfold aI at h
  dsimp only at h
  split at h
  · rename_i u q ps T es
    have hs := hg.2.1.2
    rw [es] at hs
    obtain ⟨x, r0, rfl, hx, hT0⟩ := stO_int hs
    obtain ⟨j, r1, rfl, hj, hT1⟩ := stO_int hT0
    obtain ⟨p, r, rfl, hp, hT⟩ := stO_ref hT1
    unfold xs
    dsimp only
    unfold xvir
    dsimp only
    exact aStore_ok (v := .inl u) h hg hT hp hj hx hk
  · cases h
theorem bast_ok (h : aI C Wm Wf X .bastore S = some S') (hg : ga C Wm Wf sh0 I0 R0 R S lc st sh I) (hk : gk C Wm Wf sh0 I0 R0 S' k) : xs X false al n0 mc ms none .bastore lc st sh I J 0 0 k := by
  unfold aI at h
  dsimp only at h
  split at h
  · rename_i u q ps T es
    have hs := hg.2.1.2
    rw [es] at hs
    obtain ⟨x, r0, rfl, hx, hT0⟩ := stO_int hs
    obtain ⟨j, r1, rfl, hj, hT1⟩ := stO_int hT0
    obtain ⟨p, r, rfl, hp, hT⟩ := stO_ref hT1
    unfold xs
    dsimp only
    unfold xvir
    dsimp only
    refine aStore_ok (v := .inr (-128, 127)) (x := vp_nar .byte x) h hg hT hp hj ?_ hk
    rw [vp_nar_byte]
    have a1 := Int8.le_toInt x.toInt8
    have a2 := Int8.toInt_lt x.toInt8
    show inI (-128, 127) x.toInt8.toInt32.toInt
    rw [Int8.toInt_toInt32]
    exact ⟨a1, by dsimp only; omega⟩
  · cases h
theorem last_ok (h : aI C Wm Wf X .lastore S = some S') (hg : ga C Wm Wf sh0 I0 R0 R S lc st sh I) (hk : gk C Wm Wf sh0 I0 R0 S' k) : xs X false al n0 mc ms none .lastore lc st sh I J 0 0 k := by
  unfold aI at h
  dsimp only at h
  split at h
  · rename_i b q p T es
    have hs := hg.2.1.2
    rw [es] at hs
    obtain ⟨v, r0, rfl, hv, hT0⟩ := stO_cons hs
    obtain ⟨j, r1, rfl, hj, hT1⟩ := stO_int hT0
    obtain ⟨p0, r, rfl, hp, hT⟩ := stO_ref hT1
    split at h
    · rename_i r0 n er en
      have hi := iv_ok hg.1.1 hj er
      split at h
      · rename_i e1
        cases h
        simp only [Bool.and_eq_true] at e1
        obtain ⟨x, rfl⟩ := avO_lg hv e1.1.1
        obtain ⟨cs, rs, hc, hx, hrf⟩ := isL_el hg.2.2.2.1 e1.2 hp
        unfold xs
        dsimp only
        unfold xvir
        dsimp only
        unfold xga
        rw [hx]
        dsimp only
        exact xb_mk rfl ⟨vp_in_iff.mpr (inL_el e1.1.2 hi), hk _ _ _ _ _ _ (ga_st hg hT)⟩
      · cases h
    · cases h
  · cases h
end ABSX
