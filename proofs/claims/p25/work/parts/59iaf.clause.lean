section TXT
variable (l : Launch) (ru_ ta : Nat) (rs : List XO) (I : XI) (J : XJ) (Rp : XR)
set_option maxRecDepth 100000 in
set_option maxHeartbeats 1000000 in
theorem rd_setNumber (ht : TSP ta) (n : Nat) (hn : 1 ≤ n) (q i : Nat) (hq : q < 24) (hi : i < 3) (e5 : I ta 5 = nI (q + 1)) (x : Int32) (hR : ∀ I', I' = uI I (ta + 4) (4 * q + 1 + i) x → Rp none (shH ru_ ta rs) I' J) : xm l n 0 0 mX8_setNumber [.ref ta, .int (nI i), .int x] (shH ru_ ta rs) I J Rp := by
  obtain ⟨n, rfl⟩ : ∃ n', n = n' + 1 := ⟨n - 1, by omega⟩
  have e : (I ta 5 - nI 1) * nI 4 + nI 1 + nI i = nI (4 * q + 1 + i) := by
    rw [e5, show nI (q + 1) - nI 1 = nI q from nI_pred q, nI_mul, nI_add, nI_add]
    congr 1
    omega
  have k1 : Rp none (shH ru_ ta rs) (uI I (ta + 4) ((I ta 5 - nI 1) * nI 4 + nI 1 + nI i).toNatClampNeg x) J := by
    rw [e, nI_clamp (by omega)]
    exact hR _ rfl
  have q0 : ¬ (I ta 5 - nI 1) * nI 4 + nI 1 + nI i < 0 := by rw [e]; exact nI_pos (by omega)
  have q1 : ¬ nI 96 ≤ (I ta 5 - nI 1) * nI 4 + nI 1 + nI i := by rw [e]; exact nI_ge (by omega) (by omega)
  have v0 : vp_in ((I ta 5 - nI 1) * nI 4 + nI 1 + nI i) 96 := by rw [e]; exact vp_in_nI (by omega) (by omega)
  have i0 : ¬ nI i < 0 := nI_pos (by omega)
  have i1 : ¬ nI 3 ≤ nI i := nI_ge hi (by omega)
  obtain rfl | rfl | rfl | rfl | rfl := id ht
  all_goals
    refine xm_ofK 0 (X := xxX8) (t := tX8_setNumber) (stop := []) (ini := false) xx8 pl8 rfl kX8_setNumber (fun h => by cases h) (Nat.le_of_ble_eq_true rfl) (fun K hK => ?_)
    refine And.intro (fun h => absurd h i0) (fun _ => And.intro (fun h => absurd h i1) (fun _ => And.intro (fun h => absurd h q0) (fun h => And.intro (fun h => absurd h q1) (fun g => ?_))))
    exact And.intro v0 k1
end TXT
