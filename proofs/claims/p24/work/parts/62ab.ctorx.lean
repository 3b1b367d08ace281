set_option maxRecDepth 100000 in
set_option maxHeartbeats 4000000 in
theorem ctor_x (l : Launch) (d : Nat) (Rp : XR) (h : Rp none shCX iX jX) : xm l (d + 4) 66 8275 mX11_init [.ref 0] [.inl (11, List.replicate 18 none)] (zI (fun _ _ => 0) 0) (fun _ _ => 0) Rp := by
  refine xm_of (X := xxX11) (t := tX11_init) (stop := []) (n := 1) (ini := true) xx11 pl11 rfl kX11_init (fun _ => rfl) (Nat.le_of_ble_eq_true rfl) ?_
  refine xm_of (X := xxX6) (t := tX6_init) (stop := []) (n := 1) (ini := true) xx6 pl6 rfl kX6_init (fun _ => rfl) (Nat.le_of_ble_eq_true rfl) ?_
  refine xm_of (X := xxX1) (t := tX1_init) (stop := []) (n := 1) (ini := true) xx1 pl1 rfl kX1_init (fun _ => rfl) (Nat.le_of_ble_eq_true rfl) ?_
  refine xm_of (X := xxX10) (t := tX10_firstRow) (stop := []) (n := 1) (ini := false) xx10 pl10 rfl kX10_firstRow (fun h => by cases h) (Nat.le_of_ble_eq_true rfl) ?_
  refine And.intro (fun h => absurd h (by decide +kernel)) (fun _ => ?_)
  refine And.intro (vp_b (by decide +kernel)) ?_
  refine And.intro (fun h => absurd h (by decide +kernel)) (fun _ => ?_)
  refine And.intro (vp_b (by decide +kernel)) ?_
  refine And.intro (fun h => absurd h (by decide +kernel)) (fun _ => ?_)
  refine And.intro (vp_b (by decide +kernel)) ?_
  refine And.intro (fun h => absurd h (by decide +kernel)) (fun _ => ?_)
  refine And.intro (vp_b (by decide +kernel)) ?_
  refine And.intro (fun h => absurd h (by decide +kernel)) (fun _ => ?_)
  refine And.intro (vp_b (by decide +kernel)) ?_
  refine And.intro (fun h => absurd h (by decide +kernel)) (fun _ => ?_)
  refine And.intro (vp_b (by decide +kernel)) ?_
  refine And.intro (fun h => absurd h (by decide +kernel)) (fun _ => ?_)
  refine And.intro (vp_b (by decide +kernel)) ?_
  refine And.intro (fun h => absurd h (by decide +kernel)) (fun _ => ?_)
  refine And.intro (vp_b (by decide +kernel)) ?_
  refine And.intro (fun _ => ?_) (fun h => absurd h (by decide +kernel))
  refine And.intro (fun h => absurd h (by decide +kernel)) (fun _ => ?_)
  refine And.intro (vp_b (by decide +kernel)) ?_
  refine And.intro (fun h => absurd h (by decide +kernel)) (fun _ => ?_)
  refine And.intro (vp_b (by decide +kernel)) ?_
  refine And.intro (fun h => absurd h (by decide +kernel)) (fun _ => ?_)
  refine And.intro (vp_b (by decide +kernel)) ?_
  refine And.intro (fun h => absurd h (by decide +kernel)) (fun _ => ?_)
  refine And.intro (vp_b (by decide +kernel)) ?_
  refine And.intro (fun _ => ?_) (fun h => absurd h (by decide +kernel))
  refine And.intro (vp_b (by decide +kernel)) ?_
  refine xm_of (X := xxX6) (t := tX6_init) (stop := []) (n := 1) (ini := true) xx6 pl6 rfl kX6_init (fun _ => rfl) (Nat.le_of_ble_eq_true rfl) ?_
  refine xm_of (X := xxX9) (t := tX9_init) (stop := []) (n := 1) (ini := true) xx9 pl9 rfl kX9_init (fun _ => rfl) (Nat.le_of_ble_eq_true rfl) ?_
  refine xm_of (X := xxX8) (t := tX8_init) (stop := []) (n := 1) (ini := true) xx8 pl8 rfl kX8_init (fun _ => rfl) (Nat.le_of_ble_eq_true rfl) ?_
  refine xm_of (X := xxX2) (t := tX2_init) (stop := []) (n := 1) (ini := true) xx2 pl2 rfl kX2_init (fun _ => rfl) (Nat.le_of_ble_eq_true rfl) ?_
  refine xm_of (X := xxX10) (t := tX10_init) (stop := []) (n := 1) (ini := true) xx10 pl10 rfl kX10_init (fun _ => rfl) (Nat.le_of_ble_eq_true rfl) ?_
  refine xm_of (X := xxX10) (t := tX10_firstRow) (stop := []) (n := 1) (ini := false) xx10 pl10 rfl kX10_firstRow (fun h => by cases h) (Nat.le_of_ble_eq_true rfl) ?_
  refine And.intro (fun h => absurd h (by decide +kernel)) (fun _ => ?_)
  refine And.intro (vp_b (by decide +kernel)) ?_
  refine And.intro (fun h => absurd h (by decide +kernel)) (fun _ => ?_)
  refine And.intro (vp_b (by decide +kernel)) ?_
  refine And.intro (fun h => absurd h (by decide +kernel)) (fun _ => ?_)
  refine And.intro (vp_b (by decide +kernel)) ?_
  refine And.intro (fun h => absurd h (by decide +kernel)) (fun _ => ?_)
  refine And.intro (vp_b (by decide +kernel)) ?_
  refine And.intro (fun h => absurd h (by decide +kernel)) (fun _ => ?_)
  refine And.intro (vp_b (by decide +kernel)) ?_
  refine And.intro (fun h => absurd h (by decide +kernel)) (fun _ => ?_)
  refine And.intro (vp_b (by decide +kernel)) ?_
  refine And.intro (fun h => absurd h (by decide +kernel)) (fun _ => ?_)
  refine And.intro (vp_b (by decide +kernel)) ?_
  refine And.intro (fun h => absurd h (by decide +kernel)) (fun _ => ?_)
  refine And.intro (vp_b (by decide +kernel)) ?_
  refine And.intro (fun _ => ?_) (fun h => absurd h (by decide +kernel))
  refine And.intro (fun h => absurd h (by decide +kernel)) (fun _ => ?_)
  refine And.intro (vp_b (by decide +kernel)) ?_
  refine And.intro (fun h => absurd h (by decide +kernel)) (fun _ => ?_)
  refine And.intro (vp_b (by decide +kernel)) ?_
  refine And.intro (fun h => absurd h (by decide +kernel)) (fun _ => ?_)
  refine And.intro (vp_b (by decide +kernel)) ?_
  refine And.intro (fun h => absurd h (by decide +kernel)) (fun _ => ?_)
  refine And.intro (vp_b (by decide +kernel)) ?_
  refine And.intro (fun _ => ?_) (fun h => absurd h (by decide +kernel))
  refine And.intro (vp_b (by decide +kernel)) ?_
  refine xm_of (X := xxX10) (t := tX10_init) (stop := []) (n := 1) (ini := true) xx10 pl10 rfl kX10_init (fun _ => rfl) (Nat.le_of_ble_eq_true rfl) ?_
  refine xm_of (X := xxX10) (t := tX10_firstRow) (stop := []) (n := 1) (ini := false) xx10 pl10 rfl kX10_firstRow (fun h => by cases h) (Nat.le_of_ble_eq_true rfl) ?_
  refine And.intro (fun h => absurd h (by decide +kernel)) (fun _ => ?_)
  refine And.intro (vp_b (by decide +kernel)) ?_
  refine And.intro (fun h => absurd h (by decide +kernel)) (fun _ => ?_)
  refine And.intro (vp_b (by decide +kernel)) ?_
  refine And.intro (fun h => absurd h (by decide +kernel)) (fun _ => ?_)
  refine And.intro (vp_b (by decide +kernel)) ?_
  refine And.intro (fun h => absurd h (by decide +kernel)) (fun _ => ?_)
  refine And.intro (vp_b (by decide +kernel)) ?_
  refine And.intro (fun h => absurd h (by decide +kernel)) (fun _ => ?_)
  refine And.intro (vp_b (by decide +kernel)) ?_
  refine And.intro (fun h => absurd h (by decide +kernel)) (fun _ => ?_)
  refine And.intro (vp_b (by decide +kernel)) ?_
  refine And.intro (fun h => absurd h (by decide +kernel)) (fun _ => ?_)
  refine And.intro (vp_b (by decide +kernel)) ?_
  refine And.intro (fun h => absurd h (by decide +kernel)) (fun _ => ?_)
  refine And.intro (vp_b (by decide +kernel)) ?_
  refine And.intro (fun _ => ?_) (fun h => absurd h (by decide +kernel))
  refine And.intro (fun h => absurd h (by decide +kernel)) (fun _ => ?_)
  refine And.intro (vp_b (by decide +kernel)) ?_
  refine And.intro (fun h => absurd h (by decide +kernel)) (fun _ => ?_)
  refine And.intro (vp_b (by decide +kernel)) ?_
  refine And.intro (fun h => absurd h (by decide +kernel)) (fun _ => ?_)
  refine And.intro (vp_b (by decide +kernel)) ?_
  refine And.intro (fun h => absurd h (by decide +kernel)) (fun _ => ?_)
  refine And.intro (vp_b (by decide +kernel)) ?_
  refine And.intro (fun _ => ?_) (fun h => absurd h (by decide +kernel))
  refine And.intro (vp_b (by decide +kernel)) ?_
  refine xm_of (X := xxX7) (t := tX7_init) (stop := []) (n := 1) (ini := true) xx7 pl7 rfl kX7_init (fun _ => rfl) (Nat.le_of_ble_eq_true rfl) ?_
  refine xm_of (X := xxX5) (t := tX5_init) (stop := []) (n := 1) (ini := true) xx5 pl5 rfl kX5_init (fun _ => rfl) (Nat.le_of_ble_eq_true rfl) ?_
  refine And.intro (Or.inl rfl) ?_
  refine xm_of (X := xxX3) (t := tX3_init) (stop := []) (n := 1) (ini := true) xx3 pl3 rfl kX3_init (fun _ => rfl) (Nat.le_of_ble_eq_true rfl) ?_
  refine xm_of (X := xxX0) (t := tX0_init) (stop := []) (n := 1) (ini := true) xx0 pl0 rfl kX0_init (fun _ => rfl) (Nat.le_of_ble_eq_true rfl) ?_
  refine xm_of (X := xxX4) (t := tX4_init) (stop := []) (n := 1) (ini := true) xx4 pl4 rfl kX4_init (fun _ => rfl) (Nat.le_of_ble_eq_true rfl) ?_
  refine And.intro (fun h => absurd h (by decide +kernel)) (fun _ => ?_)
  refine xm_of (X := xxX8) (t := tX8_init) (stop := []) (n := 1) (ini := true) xx8 pl8 rfl kX8_init (fun _ => rfl) (Nat.le_of_ble_eq_true rfl) ?_
  refine And.intro (vp_b (by decide +kernel)) ?_
  refine And.intro (fun h => absurd h (by decide +kernel)) (fun _ => ?_)
  refine xm_of (X := xxX8) (t := tX8_init) (stop := []) (n := 1) (ini := true) xx8 pl8 rfl kX8_init (fun _ => rfl) (Nat.le_of_ble_eq_true rfl) ?_
  refine And.intro (vp_b (by decide +kernel)) ?_
  refine And.intro (fun h => absurd h (by decide +kernel)) (fun _ => ?_)
  refine xm_of (X := xxX8) (t := tX8_init) (stop := []) (n := 1) (ini := true) xx8 pl8 rfl kX8_init (fun _ => rfl) (Nat.le_of_ble_eq_true rfl) ?_
  refine And.intro (vp_b (by decide +kernel)) ?_
  refine And.intro (fun h => absurd h (by decide +kernel)) (fun _ => ?_)
  refine xm_of (X := xxX8) (t := tX8_init) (stop := []) (n := 1) (ini := true) xx8 pl8 rfl kX8_init (fun _ => rfl) (Nat.le_of_ble_eq_true rfl) ?_
  refine And.intro (vp_b (by decide +kernel)) ?_
  refine And.intro (fun _ => ?_) (fun h => absurd h (by decide +kernel))
  exact h
