section TXT
variable (l : Launch) (ru_ ta : Nat) (rs : List XO) (I : XI) (J : XJ) (Rp : XR)
set_option maxRecDepth 100000 in
theorem rd_hasLaw (ht : TSP ta) (n : Nat) (hn : 1 ≤ n) (v : Nat) (hv : v < 100) (h1 : v < 5 → I (ta + 2) v < I (ta + 3) v → Rp (some (.int 1)) (shH ru_ ta rs) I J) (h0 : ¬ (v < 5 ∧ I (ta + 2) v < I (ta + 3) v) → Rp (some (.int 0)) (shH ru_ ta rs) I J) : xm l n 0 0 mX8_hasLaw [.ref ta, .int (nI v)] (shH ru_ ta rs) I J Rp := by
  obtain ⟨n, rfl⟩ : ∃ n', n = n' + 1 := ⟨n - 1, by omega⟩
  have e : (nI v).toNatClampNeg = v := nI_clamp (by omega)
  rcases Nat.lt_or_ge v 5 with c | c
  · have hp : vp_in (nI v) 5 := vp_in_nI c (by omega)
    have kA : I (ta + 3) (nI v).toNatClampNeg ≤ I (ta + 2) (nI v).toNatClampNeg → ((0 : Int32) = 0 ∨ (0 : Int32) = 1) ∧ Rp (some (.int 0)) (shH ru_ ta rs) I J := fun h => ⟨Or.inl rfl, h0 (fun z => by
      rw [e] at h
      exact absurd z.2 (Int32.not_lt.mpr h))⟩
    have kB : ¬ I (ta + 3) (nI v).toNatClampNeg ≤ I (ta + 2) (nI v).toNatClampNeg → ((1 : Int32) = 0 ∨ (1 : Int32) = 1) ∧ Rp (some (.int 1)) (shH ru_ ta rs) I J := fun h => ⟨Or.inr rfl, h1 c (by
      rw [e] at h
      exact Int32.not_le.mp h)⟩
    obtain rfl | rfl | rfl | rfl | rfl := id ht
    all_goals
      refine xm_ofK 0 (X := xxX8) (t := tX8_hasLaw) (stop := []) (ini := false) xx8 pl8 rfl kX8_hasLaw (fun h => by cases h) (Nat.le_of_ble_eq_true rfl) (fun K hK => ?_)
      refine And.intro (fun h => absurd h (nI_pos (by omega))) (fun _ => ?_)
      refine And.intro (fun h => absurd (show nI 5 ≤ nI v from h) (nI_ge c (by omega))) (fun _ => And.intro hp (And.intro hp ?_))
      exact And.intro (fun h => kA h) (fun h => kB h)
  · have kA : ((0 : Int32) = 0 ∨ (0 : Int32) = 1) ∧ Rp (some (.int 0)) (shH ru_ ta rs) I J := ⟨Or.inl rfl, h0 (fun z => by omega)⟩
    obtain rfl | rfl | rfl | rfl | rfl := id ht
    all_goals
      refine xm_ofK 0 (X := xxX8) (t := tX8_hasLaw) (stop := []) (ini := false) xx8 pl8 rfl kX8_hasLaw (fun h => by cases h) (Nat.le_of_ble_eq_true rfl) (fun K hK => ?_)
      refine And.intro (fun h => absurd h (nI_pos (by omega))) (fun _ => ?_)
      exact And.intro (fun _ => kA) (fun h => absurd (show nI 5 ≤ nI v from nI_le c (by omega)) h)
set_option maxRecDepth 100000 in
theorem rd_openLaw (ht : TSP ta) (n : Nat) (hn : 1 ≤ n) (v : Nat) (c : v < 5) (hR : Rp none (shH ru_ ta rs) (opI I ta v) J) : xm l n 0 0 mX8_openLaw [.ref ta, .int (nI v)] (shH ru_ ta rs) I J Rp := by
  obtain ⟨n, rfl⟩ : ∃ n', n = n' + 1 := ⟨n - 1, by omega⟩
  have hp : vp_in (nI v) 5 := vp_in_nI c (by omega)
  have key : Rp none (shH ru_ ta rs) (uI I (ta + 2) (nI v).toNatClampNeg (I ta 1)) J := by
    rw [nI_clamp (by omega)]
    exact hR
  obtain rfl | rfl | rfl | rfl | rfl := id ht
  all_goals
    refine xm_ofK 0 (X := xxX8) (t := tX8_openLaw) (stop := []) (ini := false) xx8 pl8 rfl kX8_openLaw (fun h => by cases h) (Nat.le_of_ble_eq_true rfl) (fun K hK => ?_)
    refine And.intro (fun h => absurd h (nI_pos (by omega))) (fun _ => ?_)
    exact And.intro (fun h => absurd (show nI 5 ≤ nI v from h) (nI_ge c (by omega))) (fun _ => And.intro hp key)
set_option maxRecDepth 100000 in
theorem rd_closeLaw (ht : TSP ta) (n : Nat) (hn : 1 ≤ n) (v : Nat) (c : v < 5) (hR : Rp none (shH ru_ ta rs) (clsI I ta v) J) : xm l n 0 0 mX8_closeLaw [.ref ta, .int (nI v)] (shH ru_ ta rs) I J Rp := by
  obtain ⟨n, rfl⟩ : ∃ n', n = n' + 1 := ⟨n - 1, by omega⟩
  have hp : vp_in (nI v) 5 := vp_in_nI c (by omega)
  have key : Rp none (shH ru_ ta rs) (uI I (ta + 3) (nI v).toNatClampNeg (I ta 1)) J := by
    rw [nI_clamp (by omega)]
    exact hR
  obtain rfl | rfl | rfl | rfl | rfl := id ht
  all_goals
    refine xm_ofK 0 (X := xxX8) (t := tX8_closeLaw) (stop := []) (ini := false) xx8 pl8 rfl kX8_closeLaw (fun h => by cases h) (Nat.le_of_ble_eq_true rfl) (fun K hK => ?_)
    refine And.intro (fun h => absurd h (nI_pos (by omega))) (fun _ => ?_)
    exact And.intro (fun h => absurd (show nI 5 ≤ nI v from h) (nI_ge c (by omega))) (fun _ => And.intro hp key)
end TXT
