-- ===== one step; stretches between stops =====
section ABSM
variable {C : AC} {Wm : List Nat} {Wf : Bool} {sh0 : List XO} {I0 : XI} {R0 R : List Int} {S S' : AS} {lc : List (Option Value)} {st : List Value} {sh : List XO} {I : XI} {J : XJ} {X : XX} {al : Bool} {n0 mc ms : Nat} {l : Launch} {d : Nat} {t : XT} {stop : List Nat} {Rp : XR} {K : Nat → XP} {kk : Nat → AS → Bool} {rn : XT → AS → Bool} {rn' : XT → XP} {G : List (Nat × AK)} {dep : Nat} {posts : List AP} {rt : Option FieldType} {args : List Value} {Q : XI → Prop}
theorem xso_mk {β : Type} {o : Option β} {f : β → Prop} {e : β} (h : o = some e) (hf : f e) : xso o f := by
  rw [h]
  exact hf
theorem need_ok {o : Option AS} {f : AS → Bool} (h : need o f = true) : ∃ S', o = some S' ∧ f S' = true := by
  unfold need at h
  split at h
  · cases h
  · rename_i S' 
    exact ⟨S', rfl, h⟩
set_option maxHeartbeats 4000000 in
theorem aS_ok (hQ : ∀ I', frO Wm I0 I' → Q I') (hG : ctsO Q C X G) (hO : outO Q C Wm Wf sh0 I0 posts args Rp) (hA : preO (0 :: numsV args) R0) (hK : ∀ g, gks C Wm Wf sh0 I0 R0 (kk g) (K g)) (hr : ∀ es, gks C Wm Wf sh0 I0 R0 (rn es) (rn' es)) {pc ln : Nat} {es : XT} {i : Jvm.ClassFile.Instr} (h : aS C Wm Wf G dep posts X rt t stop kk rn pc ln es i S = true) (hg : ga C Wm Wf sh0 I0 R0 R S lc st sh I) : xst X rt false al n0 mc ms none l (d + dep) t stop K Rp rn' pc ln es i lc st sh I J 0 0 := by
  have h0 := hg.1.2.1
  have hx0 : numO R (0, 0) 0 := cst_num h0 (by decide)
  have ez : (0 : Int32).toInt = 0 := by decide
  have hb : ∀ {c : Bool}, c = true → (c && Nat.ble 0 mc && Nat.ble 0 ms) = true := fun z => by rw [z, show Nat.ble 0 mc = true from Nat.ble_eq.mpr (Nat.zero_le _), show Nat.ble 0 ms = true from Nat.ble_eq.mpr (Nat.zero_le _)]; rfl
  have hs := hg.2.1.2
  cases i with
  | goto off =>
    dsimp only [aS] at h
    simp only [Bool.and_eq_true] at h
    exact xb_mk h.1 (ajmp_ok hK hr _ h.2 _ _ _ _ _ _ hg)
  | ifCond q off =>
    dsimp only [aS] at h
    simp only [Bool.and_eq_true] at h
    obtain ⟨⟨h1, h2⟩, h3⟩ := h
    refine xb_mk (by rw [h1, h2]; rfl) ?_
    split at h3
    · rename_i x T e
      rw [e] at hs
      obtain ⟨u, r, rfl, hx, hT⟩ := stO_int hs
      simp only [Bool.and_eq_true] at h3
      refine xc1_of (fun z => ?_) (fun z => ?_)
      · exact cont_ok (ajmp_ok hK hr) h3.1 (aBr_ok hg hT hx hx0 (by rw [ez]; exact z))
      · exact cont_ok (anxt_ok hK hr) h3.2 (aBr_ok hg hT hx hx0 (by rw [ez]; exact z))
    · cases h3
  | if_icmp q off =>
    dsimp only [aS] at h
    simp only [Bool.and_eq_true] at h
    obtain ⟨⟨h1, h2⟩, h3⟩ := h
    refine xb_mk (by rw [h1, h2]; rfl) ?_
    split at h3
    · rename_i y x T e
      rw [e] at hs
      obtain ⟨w, r1, rfl, hy, hT1⟩ := stO_int hs
      obtain ⟨u, r, rfl, hx, hT⟩ := stO_int hT1
      simp only [Bool.and_eq_true] at h3
      refine xc2_of (fun z => ?_) (fun z => ?_)
      · exact cont_ok (ajmp_ok hK hr) h3.1 (aBr_ok hg hT hx hy z)
      · exact cont_ok (anxt_ok hK hr) h3.2 (aBr_ok hg hT hx hy z)
    · cases h3
  | ifnonnull off =>
    dsimp only [aS] at h
    simp only [Bool.and_eq_true] at h
    refine xb_mk h.1 ?_
    have h3 := h.2
    split at h3
    · rename_i ps T e
      rw [e] at hs
      obtain ⟨p, r, rfl, hp, hT⟩ := stO_ref hs
      exact ajmp_ok hK hr _ h3 _ _ _ _ _ _ (ga_st hg hT)
    · rename_i T e
      rw [e] at hs
      obtain ⟨v, r, rfl, hv, hT⟩ := stO_cons hs
      cases hv
      exact anxt_ok hK hr _ h3 _ _ _ _ _ _ (ga_st hg hT)
    · cases h3
  | tableswitch df lo hi offs =>
    dsimp only [aS] at h
    split at h
    · rename_i x T e
      rw [e] at hs
      obtain ⟨u, r, rfl, hx, hT⟩ := stO_int hs
      simp only [Bool.and_eq_true] at h
      exact xb_mk (by rw [h.1.1, h.1.2]; rfl) (aSw_ok (jp := fun o => xjmp t stop K rn' (pc + o)) (fun o => ajmp_ok hK hr) hg hT hx h.1.2 h.2)
    · cases h
  | lookupswitch df ps =>
    dsimp only [aS] at h
    split at h
    · rename_i x T e
      rw [e] at hs
      obtain ⟨u, r, rfl, hx, hT⟩ := stO_int hs
      rw [Bool.and_eq_true, Bool.and_eq_true] at h
      exact xb_mk (by rw [h.1.1, h.1.2]; rfl) (aSw_ok (jp := fun o => xjmp t stop K rn' (pc + o)) (fun o => ajmp_ok hK hr) hg hT hx h.1.2 h.2)
    · cases h
  | ireturn =>
    dsimp only [aS] at h
    simp only [Bool.and_eq_true] at h
    refine xb_mk (hb h.1) ?_
    have h3 := h.2
    split at h3
    · rename_i q e
      rw [e] at hs
      obtain ⟨u, r, rfl, hx, hT⟩ := stO_int hs
      cases r with
      | cons _ _ => exact hT.elim
      | nil =>
        simp only [Bool.and_eq_true] at h3
        have hR : Rp (some (.int u)) sh I J := aEx_ok hQ hO hA h3.2 hg (fun g hgg => rvX_ok (a := .inl q) hg.1.1 ⟨u, rfl, hx⟩ hgg)
        have h4 := h3.1
        show xrt rt u _
        unfold rtI at h4
        unfold xrt
        split at h4
        · exact hR
        · split at h4
          · rename_i w ew
            have hi := rsub_el h4 (iv_ok hg.1.1 hx ew)
            have i1 := hi.1
            have i2 := hi.2
            dsimp only at i1 i2
            refine ⟨?_, hR⟩
            rcases (show u.toInt = 0 ∨ u.toInt = 1 by omega) with z | z
            · exact Or.inl (Int32.toInt_inj.mp z)
            · exact Or.inr (Int32.toInt_inj.mp z)
          · cases h4
        · cases h4
    · cases h3
  | lreturn =>
    dsimp only [aS] at h
    simp only [Bool.and_eq_true] at h
    obtain ⟨⟨h1, h2⟩, h3⟩ := h
    refine xb_mk (by rw [hb h1, h2]; rfl) ?_
    split at h3
    · rename_i n e
      rw [e] at hs
      obtain ⟨v, r, rfl, hv, hT⟩ := stO_cons hs
      cases r with
      | cons _ _ => exact hT.elim
      | nil =>
        simp only [Bool.and_eq_true] at h3
        have hR : Rp (some v) sh I J := aEx_ok hQ hO hA h3.2 hg (fun g hgg => rvX_ok hg.1.1 hv hgg)
        obtain ⟨x, rfl⟩ := avO_lg hv h3.1
        exact hR
    · cases h3
  | areturn =>
    dsimp only [aS] at h
    simp only [Bool.and_eq_true] at h
    obtain ⟨⟨h1, h2⟩, h3⟩ := h
    refine xb_mk (hb h1) ?_
    split at h3
    · rename_i ps e
      rw [e] at hs
      obtain ⟨p, r, rfl, hp, hT⟩ := stO_ref hs
      cases r with
      | cons _ _ => exact hT.elim
      | nil =>
        have hR : Rp (some (.ref p)) sh I J := aEx_ok hQ hO hA h3 hg (fun g hgg => rvX_ok (a := .inr (.inl ps)) hg.1.1 ⟨p, hp, rfl⟩ hgg)
        show xra rt _
        unfold rtA at h2
        unfold xra
        split at h2
        · exact hR
        · exact hR
        · cases h2
    · cases h3
  | return_ =>
    dsimp only [aS] at h
    simp only [Bool.and_eq_true] at h
    obtain ⟨⟨h1, h2⟩, h3⟩ := h
    refine xb_mk (by rw [hb h1, h2]; rfl) ?_
    split at h3
    · rename_i e
      rw [e] at hs
      cases st with
      | cons _ _ => exact hs.elim
      | nil =>
        refine aEx_ok hQ hO hA h3 hg (fun g hgg => ?_)
        unfold isVd at hgg
        split at hgg
        · rfl
        · cases hgg
    · cases h3
  | invokevirtual idx =>
    dsimp only [aS] at h
    simp only [Bool.and_eq_true] at h
    refine xb_mk h.1 ?_
    have h3 := h.2
    unfold xcv
    split at h3
    · rename_i e he
      refine xso_mk he ?_
      split at h3
      · rename_i q hq
        refine xso_mk hq ?_
        split at h3
        · rename_i as ps T ht
          obtain ⟨br, hbr, hv1, hv2⟩ := atk_ok hs (show stO R [] [] from trivial) ht
          refine xso_mk hbr ?_
          obtain ⟨vs, rest⟩ := br
          dsimp only at hv1 hv2
          obtain ⟨p, r, rfl, hp, hT⟩ := stO_ref hv2
          simp only [Bool.and_eq_true] at h3
          obtain ⟨⟨⟨⟨c1, c2⟩, c3⟩, c4⟩, c5⟩ := h3
          have y := aCa_ok (d := d) (l := l) (J := J) (vs := .ref p :: vs) hQ hG he c5 hg ⟨⟨p, hp, rfl⟩, hv1⟩ hT (anxt_ok hK hr)
          obtain ⟨e1, e2, e3, ⟨m1, m2⟩, e5⟩ := e
          have z1 := Nat.eq_of_beq_eq_true c2
          have z2 := Nat.eq_of_beq_eq_true c3
          dsimp only at z1 z2
          subst z1 z2
          unfold xr1
          dsimp only
          simp only [Bool.or_eq_true, Bool.and_eq_true] at c1
          rcases c1 with ⟨c0, c1⟩ | c1
          · obtain ⟨o, ho, ho1, ho2⟩ := isK_el hg.2.2.2.1 c1 hp
            rw [(cstN_el c0 hp).2]
            dsimp only
            rw [ho]
            dsimp only
            exact xb_mk (by rw [ho1, ho2, xbud_ok hT c4]; rfl) y
          · obtain ⟨g1, ⟨e', g2⟩, g3⟩ := cstS_el c1 hp
            rw [g1]
            dsimp only
            rw [g2]
            exact xb_mk (by rw [g3, xbud_ok hT c4]; rfl) y
        · cases h3
      · cases h3
    · cases h3
  | invokestatic idx =>
    dsimp only [aS] at h
    simp only [Bool.and_eq_true] at h
    refine xb_mk h.1 ?_
    have h3 := h.2
    split at h3
    · rename_i e he
      refine xso_mk he ?_
      split at h3
      · rename_i eb
        rw [eb]
        dsimp only
        unfold xcst
        split at h3
        · rename_i q hq
          refine xso_mk hq ?_
          split at h3
          · rename_i as T ht
            obtain ⟨br, hbr, hv1, hv2⟩ := atk_ok hs (show stO R [] [] from trivial) ht
            refine xso_mk hbr ?_
            obtain ⟨vs, rest⟩ := br
            dsimp only at hv1 hv2
            simp only [Bool.and_eq_true] at h3
            obtain ⟨⟨⟨c2, c3⟩, c4⟩, c5⟩ := h3
            have y := aCa_ok (d := d) (l := l) (J := J) hQ hG he c5 hg hv1 hv2 (anxt_ok hK hr)
            obtain ⟨e1, e2, e3, ⟨m1, m2⟩, e5⟩ := e
            have z1 := Nat.eq_of_beq_eq_true c2
            have z2 := Nat.eq_of_beq_eq_true c3
            dsimp only at z1 z2
            subst z1 z2
            exact xb_mk (xbud_ok hv2 c4) y
          · cases h3
        · cases h3
      · rename_i eb
        rw [eb]
        dsimp only
        obtain ⟨S', e1, e2⟩ := need_ok h3
        exact aIn_ok he e1 hg (anxt_ok hK hr S' e2)
    · cases h3
  | invokespecial idx => cases h
  | _ =>
    dsimp only [aS] at h
    rw [Bool.and_eq_true] at h
    obtain ⟨S', e1, e2⟩ := need_ok h.2
    exact xb_mk h.1 (aI_ok e1 hg (anxt_ok hK hr S' e2))
end ABSM
