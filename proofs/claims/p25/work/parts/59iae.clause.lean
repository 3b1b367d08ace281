section TXT
variable (l : Launch) (ru_ ta : Nat) (rs : List XO) (I : XI) (J : XJ) (Rp : XR)
set_option maxRecDepth 100000 in
set_option maxHeartbeats 1000000 in
theorem rd_addClause (ht : TSP ta) (n : Nat) (hn : 1 ≤ n) (v : Int32) (i : Nat) (hi : i < 24) (e5 : I ta 5 = nI i) (hR : ∀ I', (∀ p, p ≠ ta → p ≠ ta + 4 → I' p = I p) → (∀ k, k ≠ 5 → I' ta k = I ta k) → I' ta 5 = I ta 5 + 1 → AC4 ta I I' i v → Rp none (shH ru_ ta rs) I' J) : xm l n 0 0 mX8_addClause [.ref ta, .int v] (shH ru_ ta rs) I J Rp := by
  obtain ⟨n, rfl⟩ : ∃ n', n = n' + 1 := ⟨n - 1, by omega⟩
  have e4 : I ta 5 * nI 4 = nI (4 * i) := by rw [e5, nI_mul, Nat.mul_comm]
  have q0 : ¬ I ta 5 * nI 4 < 0 := by rw [e4]; exact nI_pos (by omega)
  have q1 : ¬ nI 96 < I ta 5 * nI 4 + nI 4 := by rw [e4, nI_add]; exact nI_nlt (by omega) (by omega)
  have v0 : vp_in (I ta 5 * nI 4) 96 := by rw [e4]; exact vp_in_nI (by omega) (by omega)
  have nx : xrun xxX8 none false false (shH ru_ ta rs).length 0 0 none l n tX8_addClause [31] Rp 9 31 [some (.ref ta), some (.int v), some (.int (I ta 5 * nI 4)), some (.int (nI 1))] [] (shH ru_ ta rs) (uI I (ta + 4) (I ta 5 * nI 4).toNatClampNeg v) J 0 0 := by
    rw [e4, nI_clamp (by omega)]
    refine rd_addC_loop l ru_ ta rs I J Rp ht n v i hi hR 3 1 9 _ (by omega) (by omega) (by omega) (fun p hp => uI_ne hp) ⟨?_, fun x hx => ?_⟩
    · rw [uI_atC, if_pos rfl]
    · rw [uI_atC, if_neg (by omega)]
  obtain rfl | rfl | rfl | rfl | rfl := id ht
  all_goals
    refine xm_ofK 9 (X := xxX8) (t := tX8_addClause) (stop := [31]) (ini := false) xx8 pl8 rfl kX8_addClause (fun h => by cases h) (Nat.le_of_ble_eq_true rfl) (fun K hK => ?_)
    refine And.intro (fun h => absurd h q0) (fun _ => And.intro (fun h => absurd h q1) (fun _ => And.intro v0 ?_))
    exact hK 31 _ _ _ _ _ _ _ nx
end TXT
