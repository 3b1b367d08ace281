set_option maxRecDepth 100000 in
set_option maxHeartbeats 1000000 in
theorem ct_X12_packed_0 : ctrO QQ CF ck_X12_packed_0 mX12_packed := by
  intro l d sh I J as Rp ha hce hs hi hq hR
  obtain ⟨x, i, rfl, hx, hi'⟩ := ag1ii ha
  obtain ⟨ru, ta, rs, _, _, rfl⟩ := shX hs
  have fin : ∀ r : Int32, Rp (some (.int r)) (shH ru ta rs) I J := fun r => hR _ _ I J hs (fun _ => rfl) hi hq (fun _ _ => rfl) ⟨_, List.mem_cons_self, one_post ha ⟨r, rfl, inI_fr _⟩⟩
  show xm l (d + 19 + 1) 0 0 mX12_packed [.ref 67, .int x, .int i] (shH ru ta rs) I J Rp
  refine xm_ofK 32212254735 (X := xxX12) (t := tX12_packed) (stop := pk_st) (ini := false) xx12 pl12 rfl kX12_packed (fun h => by cases h) (Nat.le_of_ble_eq_true rfl) (fun K hK => ?_)
  by_cases c1 : 1 ≤ x ∧ x ≤ 4095
  · obtain ⟨N, hN2, rfl⟩ := nI_of2 (x := x) (M := 4095) (n := 4095) (by decide) (fun z => by
      have z1 := Int32.lt_iff_toInt_lt.mp z
      have z2 := Int32.le_iff_toInt_le.mp c1.1
      have e1 : (1 : Int32).toInt = 1 := by decide
      have e0 : (0 : Int32).toInt = 0 := by decide
      omega) c1.2
    have hN1 : 1 ≤ N := by
      have z2 := Int32.le_iff_toInt_le.mp c1.1
      have e1 : (1 : Int32).toInt = 1 := by decide
      rw [nI_toInt (by omega)] at z2
      omega
    refine m_in_t l (d + 18) (nI N) 1 4095 _ _ _ _ c1.1 c1.2 ?_
    refine And.intro (fun h => absurd h (by decide)) (fun _ => ?_)
    refine hm_manyF l (d + 18) N (by omega) _ _ _ _ ?_
    refine And.intro (fun _ => fin _) (fun h6 => ?_)
    have h12 : ∀ b, pcN b N ≤ b := by
      intro b
      induction b with
      | zero => exact Nat.le_refl _
      | succ b ihb =>
        rw [pcN_step]
        omega
    have hp12 := h12 12
    have hpc : pcN 12 N ≤ 6 := by
      rcases Nat.lt_or_ge 6 (pcN 12 N) with z | z
      · exact absurd (nI_lt (a := 6) z (by omega)) h6
      · exact z
    refine hm_manyF l (d + 18) N (by omega) _ _ _ _ ?_
    by_cases c2 : -1 ≤ i ∧ i ≤ nI (pcN 12 N) - 1
    · refine m_in_t l (d + 18) i (-1) (nI (pcN 12 N) - 1) _ _ _ _ c2.1 c2.2 ?_
      refine And.intro (fun _ => ?_) (fun h => absurd h (by decide))
      have hpos := pcN_pos hN1 hN2
      have hi5 : inI (-1, 5) i.toInt := by
        have z1 := Int32.le_iff_toInt_le.mp c2.1
        have z2 := Int32.le_iff_toInt_le.mp c2.2
        obtain ⟨j, hj⟩ : ∃ j, pcN 12 N = j + 1 := ⟨pcN 12 N - 1, by omega⟩
        rw [hj, nI_pred, nI_toInt (by omega)] at z2
        have e1 : (-1 : Int32).toInt = -1 := by decide
        rw [e1] at z1
        exact ⟨z1, by show i.toInt ≤ 5; omega⟩
      exact hK 44 (pkL N i 1 0) [] (shH ru ta rs) I J 0 0 (pkB_loop l d N i hN1 hN2 hpc hi5 ru ta rs I Rp hq hs hR ha 12 0 _ 1 I J (by omega) (by omega) hi (fun _ _ => rfl) (fun _ h => absurd h (by show ¬ 1 ≤ 0; omega)))
    · refine m_in_f l (d + 18) i (-1) (nI (pcN 12 N) - 1) _ _ _ _ c2 ?_
      exact And.intro (fun h => absurd rfl h) (fun _ => fin _)
  · refine m_in_f l (d + 18) x 1 4095 _ _ _ _ c1 ?_
    exact And.intro (fun _ => fin _) (fun h => absurd rfl h)
