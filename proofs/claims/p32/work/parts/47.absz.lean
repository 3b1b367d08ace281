-- ===== all of them; conditions =====
section ABSZ
variable {C : AC} {Wm : List Nat} {Wf : Bool} {sh0 : List XO} {I0 : XI} {R0 R : List Int} {S S' : AS} {lc : List (Option Value)} {st : List Value} {sh : List XO} {I : XI} {J : XJ} {k : XP} {X : XX} {al : Bool} {n0 mc ms : Nat}
theorem pull {α : Type} {o : Option α} {P : α → Prop} {w : α} (h : o = some w) (hP : P w) : ∀ w', o = some w' → P w' := fun w' hw => by
  rw [h] at hw
  cases hw
  exact hP
set_option maxHeartbeats 4000000 in
theorem aI_ok {i : Jvm.ClassFile.Instr} (h : aI C Wm Wf X i S = some S') (hg : ga C Wm Wf sh0 I0 R0 R S lc st sh I) (hk : gk C Wm Wf sh0 I0 R0 S' k) : xs X false al n0 mc ms none i lc st sh I J 0 0 k := by
  have hE := hg.1.1
  have h0 := hg.1.2.1
  cases i with
  | iconst n =>
    cases h
    exact hk _ _ _ _ _ _ (ga_pu hg hg.2.1.2 ⟨_, rfl, numO_const h0⟩)
  | bipush n =>
    cases h
    exact hk _ _ _ _ _ _ (ga_pu hg hg.2.1.2 ⟨_, rfl, numO_const h0⟩)
  | sipush n =>
    cases h
    exact hk _ _ _ _ _ _ (ga_pu hg hg.2.1.2 ⟨_, rfl, numO_const h0⟩)
  | lconst n =>
    cases h
    refine hk _ _ _ _ _ _ (ga_pu hg hg.2.1.2 ?_)
    split
    · exact ⟨_, rfl⟩
    · rename_i e
      exact ⟨_, rfl, of_decide_eq_false e⟩
  | aconst_null =>
    cases h
    exact hk _ _ _ _ _ _ (ga_pu hg hg.2.1.2 rfl)
  | iload_n n => exact ldI_ok h hg hk
  | iload n => exact ldI_ok h hg hk
  | lload_n n => exact ldL_ok h hg hk
  | lload n => exact ldL_ok h hg hk
  | aload_n n => exact ldA_ok h hg hk
  | aload n => exact ldA_ok h hg hk
  | istore_n n => exact stI_ok h hg hk
  | istore n => exact stI_ok h hg hk
  | lstore_n n => exact stL_ok h hg hk
  | lstore n => exact stL_ok h hg hk
  | astore_n n => exact stA_ok h hg hk
  | astore n => exact stA_ok h hg hk
  | iinc j n =>
    dsimp only [aI] at h
    split at h
    · rename_i q e
      obtain ⟨o, h1, x, h2, h3⟩ := hg.2.1.1 j _ e
      show xli (xn lc j) _
      rw [h1, h2]
      exact setN_ok h hg hk (fun w hw => aAdd_ok hE h0 h3 (numO_const h0) hw)
    · cases h
  | iadd => exact a2_ok h hg (fun q r T x y rest hf hx hy hT => aNum_ok hf hg hT hk (fun w hw => aAdd_ok hE h0 hx hy hw))
  | isub => exact a2_ok h hg (fun q r T x y rest hf hx hy hT => aNum_ok hf hg hT hk (fun w hw => aSub_ok hE h0 hx hy hw))
  | imul => exact a2_ok h hg (fun q r T x y rest hf hx hy hT => aNum_ok hf hg hT hk (fun w hw => muls_ok hE hx hy hw))
  | iand => exact a2_ok h hg (fun q r T x y rest hf hx hy hT => aNum_ok hf hg hT hk (fun w hw => ands_ok hE hx hy hw))
  | ior => exact a2_ok h hg (fun q r T x y rest hf hx hy hT => by cases hf; exact hk _ _ _ _ _ _ (ga_fr hg hT (inI_fr _)))
  | ixor => exact a2_ok h hg (fun q r T x y rest hf hx hy hT => by cases hf; exact hk _ _ _ _ _ _ (ga_fr hg hT (inI_fr _)))
  | idiv =>
    refine a2_ok h hg (fun q r T x y rest hf hx hy hT => ?_)
    have hw : ∃ w, aDiv S.1 q r = some w := by
      cases e : aDiv S.1 q r with
      | none =>
        rw [e] at hf
        cases hf
      | some w => exact ⟨w, rfl⟩
    obtain ⟨w, hw⟩ := hw
    exact ⟨(divs_ok hE hx hy hw).1, aNum_ok hf hg hT hk (fun w hw => (divs_ok hE hx hy hw).2)⟩
  | irem =>
    refine a2_ok h hg (fun q r T x y rest hf hx hy hT => ?_)
    have hw : ∃ w, aRem S.1 q r = some w := by
      cases e : aRem S.1 q r with
      | none =>
        rw [e] at hf
        cases hf
      | some w => exact ⟨w, rfl⟩
    obtain ⟨w, hw⟩ := hw
    exact ⟨(rems_ok hE hx hy hw).1, aNum_ok hf hg hT hk (fun w hw => (rems_ok hE hx hy hw).2)⟩
  | ineg => exact a1_ok h hg (fun q T x rest hf hx hT => by cases hf; exact hk _ _ _ _ _ _ (ga_fr hg hT (inI_fr _)))
  | ishl => exact a2_ok h hg (fun q r T x y rest hf hx hy hT => by cases hf; exact hk _ _ _ _ _ _ (ga_fr hg hT (inI_fr _)))
  | ishr => exact a2_ok h hg (fun q r T x y rest hf hx hy hT => aNum_ok hf hg hT hk (fun w hw => shrs_ok hE hx hw))
  | iushr => exact a2_ok h hg (fun q r T x y rest hf hx hy hT => by cases hf; exact hk _ _ _ _ _ _ (ga_fr hg hT (inI_fr _)))
  | ladd => exact l2_ok h hg (fun b T x y rest hf hb hT => by cases hf; exact hk _ _ _ _ _ _ (ga_pu hg hT ⟨_, rfl⟩))
  | lsub => exact l2_ok h hg (fun b T x y rest hf hb hT => by cases hf; exact hk _ _ _ _ _ _ (ga_pu hg hT ⟨_, rfl⟩))
  | lmul => exact l2_ok h hg (fun b T x y rest hf hb hT => by cases hf; exact hk _ _ _ _ _ _ (ga_pu hg hT ⟨_, rfl⟩))
  | land => exact l2_ok h hg (fun b T x y rest hf hb hT => by cases hf; exact hk _ _ _ _ _ _ (ga_pu hg hT ⟨_, rfl⟩))
  | lor => exact l2_ok h hg (fun b T x y rest hf hb hT => by cases hf; exact hk _ _ _ _ _ _ (ga_pu hg hT ⟨_, rfl⟩))
  | ldiv =>
    refine l2_ok h hg (fun b T x y rest hf hb hT => ?_)
    split at hf
    · cases hf
      obtain ⟨z, e, hz⟩ := hb
      cases e
      exact ⟨hz, hk _ _ _ _ _ _ (ga_pu hg hT ⟨_, rfl⟩)⟩
    · cases hf
  | lneg => exact l1_ok h hg (fun T x rest hf hT => by cases hf; exact hk _ _ _ _ _ _ (ga_pu hg hT ⟨_, rfl⟩))
  | lcmp => exact l2_ok h hg (fun b T x y rest hf hb hT => by cases hf; exact hk _ _ _ _ _ _ (ga_fr hg hT (lgx_ok _ _)))
  | i2l => exact a1_ok h hg (fun q T x rest hf hx hT => by cases hf; exact hk _ _ _ _ _ _ (ga_pu hg hT ⟨_, rfl⟩))
  | l2i => exact l1_ok h hg (fun T x rest hf hT => by cases hf; exact hk _ _ _ _ _ _ (ga_fr hg hT (inI_fr _)))
  | i2b =>
    refine a1_ok h hg (fun q T x rest hf hx hT => ?_)
    cases hf
    refine hk _ _ _ _ _ _ (ga_fr hg hT ?_)
    have a1 := Int8.le_toInt x.toInt8
    have a2 := Int8.toInt_lt x.toInt8
    rw [Int8.toInt_toInt32]
    exact ⟨a1, by dsimp only; omega⟩
  | i2c => exact a1_ok h hg (fun q T x rest hf hx hT => by cases hf; exact hk _ _ _ _ _ _ (ga_fr hg hT (inI_fr _)))
  | dup =>
    dsimp only [aI] at h
    split at h
    · rename_i q T e
      cases h
      have hs := hg.2.1.2
      rw [e] at hs
      obtain ⟨x, r, rfl, hx, hT⟩ := stO_int hs
      exact xb_mk rfl (hk _ _ _ _ _ _ (ga_pu hg ⟨⟨_, rfl, hx⟩, hT⟩ ⟨_, rfl, hx⟩))
    · rename_i q T e
      cases h
      have hs := hg.2.1.2
      rw [e] at hs
      obtain ⟨x, r, rfl, hx, hT⟩ := stO_ref hs
      exact xb_mk rfl (hk _ _ _ _ _ _ (ga_pu hg ⟨⟨_, hx, rfl⟩, hT⟩ ⟨_, hx, rfl⟩))
    · cases h
  | pop =>
    dsimp only [aI] at h
    split at h
    · rename_i q T e
      cases h
      have hs := hg.2.1.2
      rw [e] at hs
      obtain ⟨x, r, rfl, hx, hT⟩ := stO_int hs
      exact xb_mk rfl (hk _ _ _ _ _ _ (ga_st hg hT))
    · rename_i q T e
      cases h
      have hs := hg.2.1.2
      rw [e] at hs
      obtain ⟨x, r, rfl, hx, hT⟩ := stO_ref hs
      exact xb_mk rfl (hk _ _ _ _ _ _ (ga_st hg hT))
    · cases h
  | dup2 =>
    dsimp only [aI] at h
    split at h
    · rename_i q ps T e
      cases h
      have hs := hg.2.1.2
      rw [e] at hs
      obtain ⟨x, r1, rfl, hx, hT1⟩ := stO_int hs
      obtain ⟨p, r, rfl, hp, hT⟩ := stO_ref hT1
      exact xb_mk rfl (hk _ _ _ _ _ _ (ga_st hg ⟨⟨_, rfl, hx⟩, ⟨_, hp, rfl⟩, ⟨_, rfl, hx⟩, ⟨_, hp, rfl⟩, hT⟩))
    · cases h
  | getfield idx => exact getf_ok h hg hk
  | putfield idx => exact putf_ok h hg hk
  | arraylength => exact alen_ok h hg hk
  | iaload => exact iald_ok h hg hk
  | baload =>
    dsimp only [aI] at h
    split at h
    · cases h
    rename_i eb
    have y := aLoad_ok (J := J) h hg hk
    unfold xs
    dsimp only
    rw [eb]
    exact y
  | getstatic idx =>
    dsimp only [aI] at h
    split at h
    · rename_i w ew
      split at h
      · rename_i e2
        cases h
        have z := Nat.le_of_ble_eq_true e2
        unfold xs
        dsimp only
        rw [ew]
        match w, z with
        | w + 2, _ => exact hk _ _ _ _ _ _ (ga_pu hg hg.2.1.2 ⟨w + 2, List.mem_singleton.mpr rfl, rfl⟩)
      · cases h
    · cases h
  | laload =>
    refine aIdx_ok (g := fun j p n rs r => vp_in j n ∧ k lc (.long (J p j.toNatClampNeg) :: r) sh I J 0 0) h hg (fun T j p n rs r hf hT hv => ⟨hv, ?_⟩)
    cases hf
    exact hk _ _ _ _ _ _ (ga_pu hg hT ⟨_, rfl⟩)
  | aaload => exact aald_ok h hg hk
  | iastore => exact iast_ok h hg hk
  | bastore => exact bast_ok h hg hk
  | lastore => exact last_ok h hg hk
  | ldc2_w idx =>
    dsimp only [aI] at h
    show xso (xlk X.2.2.2.2.1 idx) _
    split at h
    · rename_i e he
      cases h
      rw [he]
      refine hk _ _ _ _ _ _ (ga_pu hg hg.2.1.2 ?_)
      split
      · exact ⟨_, rfl⟩
      · rename_i z
        exact ⟨_, rfl, of_decide_eq_false z⟩
    · cases h
  | ldc idx =>
    dsimp only [aI] at h
    unfold xs
    dsimp only
    split at h
    · rename_i w ew
      cases h
      rw [ew]
      exact hk _ _ _ _ _ _ (ga_pu hg hg.2.1.2 ⟨w, List.mem_singleton.mpr rfl, rfl⟩)
    rename_i ew
    rw [ew]
    dsimp only
    split at h
    · rename_i e he
      cases h
      rw [he]
      exact hk _ _ _ _ _ _ (ga_pu hg hg.2.1.2 ⟨_, rfl, numO_const h0⟩)
    · cases h
  | ldc_w idx =>
    dsimp only [aI] at h
    show xso (xlk X.2.2.2.2.2.1 idx) _
    split at h
    · rename_i e he
      cases h
      rw [he]
      exact hk _ _ _ _ _ _ (ga_pu hg hg.2.1.2 ⟨_, rfl, numO_const h0⟩)
    · cases h
  | _ => cases h
end ABSZ
