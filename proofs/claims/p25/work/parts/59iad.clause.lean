section TXT
variable (l : Launch) (ru_ ta : Nat) (rs : List XO) (I : XI) (J : XJ) (Rp : XR)
set_option maxRecDepth 100000 in
set_option maxHeartbeats 1000000 in
theorem rd_addC_loop (ht : TSP ta) (n : Nat) (v : Int32) (i : Nat) (hi : i < 24) (hR : ∀ I', (∀ p, p ≠ ta → p ≠ ta + 4 → I' p = I p) → (∀ k, k ≠ 5 → I' ta k = I ta k) → I' ta 5 = I ta 5 + 1 → AC4 ta I I' i v → Rp none (shH ru_ ta rs) I' J) : ∀ (m k S : Nat) (I' : XI), k + m = 4 → 1 ≤ k → m < S → (∀ p, p ≠ ta + 4 → I' p = I p) → AC4 ta I I' i v → xrun xxX8 none false false (shH ru_ ta rs).length 0 0 none l n tX8_addClause [31] Rp S 31 [some (.ref ta), some (.int v), some (.int (nI (4 * i))), some (.int (nI k))] [] (shH ru_ ta rs) I' J 0 0 := by
  intro m
  induction m with
  | zero =>
    intro k S I' hk hk1 hS f ac
    obtain ⟨S, rfl⟩ : ∃ n', S = n' + 1 := ⟨S - 1, by omega⟩
    have ek : k = 4 := by omega
    subst ek
    have fin : Rp none (shH ru_ ta rs) (uI I' ta 5 (I' ta 5 + 1)) J := by
      refine hR _ (fun p h0 h4 => by rw [uI_ne h0]; exact f p h4) (fun k hk => by rw [uI_atC, if_neg hk, f ta (by omega)]) (by rw [uI_atC, if_pos rfl, f ta (by omega)]) (by unfold AC4; rw [uI_ne (by omega)]; exact ac)
    obtain rfl | rfl | rfl | rfl | rfl := id ht
    all_goals
      refine xrun_step fun K hK => ?_
      exact And.intro (fun _ => fin) (fun h => absurd (by decide) h)
  | succ m ih =>
    intro k S I' hk hk1 hS f ac
    obtain ⟨S, rfl⟩ : ∃ n', S = n' + 1 := ⟨S - 1, by omega⟩
    have vp : vp_in (nI (4 * i) + nI k) 96 := by rw [nI_add]; exact vp_in_nI (by omega) (by omega)
    have nx : xrun xxX8 none false false (shH ru_ ta rs).length 0 0 none l n tX8_addClause [31] Rp S 31 [some (.ref ta), some (.int v), some (.int (nI (4 * i))), some (.int (nI k + 1))] [] (shH ru_ ta rs) (uI I' (ta + 4) (nI (4 * i) + nI k).toNatClampNeg 0) J 0 0 := by
      rw [nI_1, nI_add, nI_clamp (by omega)]
      refine ih (k + 1) S _ (by omega) (by omega) (by omega) (fun p hp => by rw [uI_ne hp]; exact f p hp) ⟨?_, fun x hx => ?_⟩
      · rw [uI_atC, if_neg (by omega)]
        exact ac.1
      · rw [uI_atC, if_neg (by omega)]
        exact ac.2 x hx
    have lt4 : ¬ nI 4 ≤ nI k := nI_ge (by omega) (by omega)
    obtain rfl | rfl | rfl | rfl | rfl := id ht
    all_goals
      refine xrun_step fun K hK => ?_
      refine And.intro (fun h => absurd h lt4) (fun _ => And.intro vp ?_)
      exact hK 31 [some (.ref _), some (.int v), some (.int (nI (4 * i))), some (.int (nI k + 1))] [] (shH ru_ _ rs) (uI I' _ (nI (4 * i) + nI k).toNatClampNeg 0) J 0 0 nx
end TXT
