section TXT
variable (l : Launch) (ru_ ta : Nat) (rs : List XO) (I : XI) (J : XJ) (Rp : XR)
set_option maxRecDepth 100000 in
set_option maxHeartbeats 1000000 in
theorem rd_clear (ht : TSP ta) (n : Nat) (hn : 1 ≤ n) (hR : Rp none (shH ru_ ta rs) (clrI I ta) J) : xm l n 0 0 mX8_clear [.ref ta] (shH ru_ ta rs) I J Rp := by
  obtain ⟨n, rfl⟩ : ∃ n', n = n' + 1 := ⟨n - 1, by omega⟩
  obtain rfl | rfl | rfl | rfl | rfl := id ht
  all_goals
    refine xm_ofK 0 (X := xxX8) (t := tX8_clear) (stop := []) (ini := false) xx8 pl8 rfl kX8_clear (fun h => by cases h) (Nat.le_of_ble_eq_true rfl) (fun K hK => ?_)
    refine And.intro (fun h => absurd h (by decide)) (fun _ => And.intro (vp_b (by decide)) (And.intro (vp_b (by decide)) ?_))
    refine And.intro (fun h => absurd h (by decide)) (fun _ => And.intro (vp_b (by decide)) (And.intro (vp_b (by decide)) ?_))
    refine And.intro (fun h => absurd h (by decide)) (fun _ => And.intro (vp_b (by decide)) (And.intro (vp_b (by decide)) ?_))
    refine And.intro (fun h => absurd h (by decide)) (fun _ => And.intro (vp_b (by decide)) (And.intro (vp_b (by decide)) ?_))
    refine And.intro (fun h => absurd h (by decide)) (fun _ => And.intro (vp_b (by decide)) (And.intro (vp_b (by decide)) ?_))
    exact And.intro (fun _ => hR) (fun h => absurd (by decide) h)
end TXT
