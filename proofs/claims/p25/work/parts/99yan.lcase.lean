set_option maxRecDepth 100000 in
set_option maxHeartbeats 1000000 in
theorem law_c12 (l : Launch) (L : Nat) (xs : Nat → Int32) (n c : Nat) (hc : 6 * c + 6 ≤ L) (hL : L ≤ 3072) (sh : List XO) (I : XI) (J : XJ) (hv : lin2 sh I) (hn : ∀ (sh' : List XO) (I' : XI) (J' : XJ), lin2 sh' I' → lrun l L xs n 1403 (lloc c) [] sh' I' J' 99 18232) : lrun l L xs (n + 1) 592 (lloc c) [] sh I J 99 18232 := by
  obtain ⟨TX, H, Hi, ta, rs, ⟨rfl, hta⟩, ⟨hi, hq⟩, hg, tp, fl⟩ := id hv
  have hs := hg.1.1.sh hta rs
  have v : ∀ j, j < 6 → vp_in (nI (6 * c) + nI j) L := fun j hj => by rw [nI_add]; exact vp_in_nI (by omega) (by omega)
  refine xrun_step fun K hK => ?_
  obtain ⟨T, hT, eT, eT2, hB⟩ := id tp
  have em : I 0 12 = nI (hvM H) := hg.2.2.1.2.2.1
  have e68 : I 68 3 = nI (hvM H) := hg.2.2.2.2.1.1.2.2.1
  have m4 := hg.1.1.2.1
  refine c_text l 1365 (ruO (hvR H)) ta rs (I 70) T (hvM H) hT m4 I J _ em eT hB (fun h4 => ?_) (fun h4 I1 ok => ?_) (fun h4 I1 no => ?_)
  · refine ue_text l 1389 (ruO (hvR H)) ta rs hs I J _ hi hq T (hvM H) eT2 hT e68 m4 (fun _ => ?_) (fun g => absurd h4 (by omega))
    exact hK 1403 (lloc c) [] _ I J 99 18232 (hn _ I J (hv))
  · have tt := TSP_t h4
    have gs : shO CF (shH (ruO (hvR H)) (47 + 5 * hvM H) rs) := sh_ok (ruO_mem hg.1.1.ru) (txP_in h4) rs
    have ib : ivO CF [] (uI (uI I1 30 1 0) 0 12 (nI (hvM H + 1))) := iv_put (iv_put (iv_rdf tt ok.1 hi) (by rw [cell_012.2]; exact ⟨by decide, by decide⟩)) (by rw [cell_012.1]; exact inI_nI (by omega) (by omega))
    have qb : QQ (uI (uI I1 30 1 0) 0 12 (nI (hvM H + 1))) := qq_u (by decide) (qq_u (by decide) (qq_rdf tt ok.1 hq))
    have hh : ∀ p, 67 ≤ p → I1 p = I p := fun p hp => rdf_hi tt ok.1 (Or.inr (Or.inr (Or.inr hp)))
    have e70 : (uI (uI I1 30 1 0) 0 12 (nI (hvM H + 1))) 70 = I 70 := hh 70 (by omega)
    have e67 : (uI (uI I1 30 1 0) 0 12 (nI (hvM H + 1))) 67 3 = nI T := (congrFun (hh 67 (by omega)) 3).trans eT2
    have e683 : (uI (uI I1 30 1 0) 0 12 (nI (hvM H + 1))) 68 3 = nI (hvM H) := (congrFun (hh 68 (by omega)) 3).trans e68
    refine ue_text l 1389 (ruO (hvR H)) (47 + 5 * hvM H) rs gs (uI (uI I1 30 1 0) 0 12 (nI (hvM H + 1))) J _ ib qb T (hvM H) e67 hT e683 m4 (fun g => absurd g (by omega)) (fun _ r I2 J2 a1 a2 a3 a4 a5 a6 => ?_)
    obtain ⟨z1, z2, z3⟩ := a6
    rw [e70] at z3
    rcases z3 with ⟨_, ⟨f, p, en, f1, _⟩, _⟩ | ⟨rr, en, y4, y5, y3, ro, ex⟩
    · have dd := congrArg Prod.fst (Ends.det ok.2.2.2.1 en)
      dsimp only at dd
      omega
    · subst rr
      have G7 : I2 35 7 = I2 67 4 := by
        rw [y4, a4 35 rfl]
        exact ok.2.1
      have G8 : I2 35 8 = I2 67 5 := by
        rw [y5, a4 35 rfl]
        exact ok.2.2.1
      exact hK 1403 (lloc c) [] _ I2 J2 99 18232 (hn _ I2 J2 (lin2.text_ok hT hg h4 ok a2 a3 a4 a5.1 a5.2 z1 G7 G8 y3 ro ex))
  · have tt := TSP_t h4
    have gs : shO CF (shH (ruO (hvR H)) (47 + 5 * hvM H) rs) := sh_ok (ruO_mem hg.1.1.ru) (txP_in h4) rs
    have ib : ivO CF [] (uI I1 30 1 0) := iv_put (iv_rdf tt no.1 hi) (by rw [cell_012.2]; exact ⟨by decide, by decide⟩)
    have qb : QQ (uI I1 30 1 0) := qq_u (by decide) (qq_rdf tt no.1 hq)
    have hh : ∀ p, 67 ≤ p → I1 p = I p := fun p hp => rdf_hi tt no.1 (Or.inr (Or.inr (Or.inr hp)))
    have e70 : (uI I1 30 1 0) 70 = I 70 := hh 70 (by omega)
    have e67 : (uI I1 30 1 0) 67 3 = nI T := (congrFun (hh 67 (by omega)) 3).trans eT2
    have e683 : (uI I1 30 1 0) 68 3 = nI (hvM H) := (congrFun (hh 68 (by omega)) 3).trans e68
    refine ue_text l 1389 (ruO (hvR H)) (47 + 5 * hvM H) rs gs (uI I1 30 1 0) J _ ib qb T (hvM H) e67 hT e683 m4 (fun g => absurd g (by omega)) (fun _ r I2 J2 a1 a2 a3 a4 a5 a6 => ?_)
    obtain ⟨z1, z2, z3⟩ := a6
    rw [e70] at z3
    obtain ⟨rd, f0, p0, w7, w8, w1, we⟩ := no
    rcases z3 with ⟨rr, ⟨f, p, en, f1, y4, y5⟩, y3, hx⟩ | ⟨_, en, _⟩
    · subst rr
      have dd := Ends.det we en
      have d1 : f0 = f := congrArg Prod.fst dd
      have d2 : p0 = p := congrArg Prod.snd dd
      have G7 : I2 35 7 = I2 67 4 := by
        rw [y4, a4 35 rfl, ← d1]
        exact w7
      have G8 : I2 35 8 = I2 67 5 := by
        rw [y5, a4 35 rfl, ← d2]
        exact w8
      exact hK 1403 (lloc c) [] _ I2 J2 99 18232 (hn _ I2 J2 (lin2.text_no hg h4 rd a2 a3 a4 a5.1 a5.2 z1 G7 G8 y3 hx))
    · have dd := congrArg Prod.fst (Ends.det we en)
      dsimp only at dd
      omega
