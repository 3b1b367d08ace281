def shCX : List XO := [.inl (11, [some 12, some 23, some 26, some 28, some 1, some 3, some 4, none, some 30, some 35, some 18, some 5, none, none, some 6, some 36, some 40, some 41]), .inl (6, [some 2, none, none]), .inr (0, 2139, []), .inr (0, 8, []), .inr (0, 8, []), .inr (3, 4, [some 47, some 52, some 57, some 62]), .inl (1, [some 7, some 8, some 10, some 11, none, none, none, none, none, none]), .inr (0, 69, []), .inl (6, [some 9, none, none]), .inr (0, 2139, []), .inr (0, 8, []), .inr (0, 8, []), .inl (9, [some 13, some 14, some 15, some 16, some 17, none, none, none]), .inr (0, 8, []), .inr (0, 8, []), .inr (0, 8, []), .inr (0, 4, []), .inr (0, 4, []), .inl (8, [some 19, none, some 20, some 21, some 22, none]), .inr (0, 300, []), .inr (0, 5, []), .inr (0, 5, []), .inr (0, 96, []), .inl (2, [some 12, some 18, some 24, some 25]), .inr (0, 11, []), .inr (2, 64, []), .inl (10, [some 27, some 12, some 23]), .inr (0, 69, []), .inl (10, [some 29, some 12, some 23]), .inr (0, 69, []), .inl (7, [some 31, none, some 32, some 33, some 34, none]), .inr (0, 300, []), .inr (0, 301, []), .inr (0, 301, []), .inr (0, 301, []), .inl (5, [some 30, some 18, none, none, none, none, none, none, none]), .inl (3, [some 28, some 37, some 38, some 39, none, none, none, none, none]), .inr (0, 276, []), .inr (0, 4, []), .inr (0, 4, []), .inl (0, [some 23, none, none, none, none, none, none, none]), .inl (4, [some 26, some 42, none, some 43, some 44, some 45, some 46, none]), .inr (0, 6, []), .inr (0, 4, []), .inr (0, 4, []), .inr (0, 6, []), .inr (0, 6, []), .inl (8, [some 48, none, some 49, some 50, some 51, none]), .inr (0, 300, []), .inr (0, 5, []), .inr (0, 5, []), .inr (0, 96, []), .inl (8, [some 53, none, some 54, some 55, some 56, none]), .inr (0, 300, []), .inr (0, 5, []), .inr (0, 5, []), .inr (0, 96, []), .inl (8, [some 58, none, some 59, some 60, some 61, none]), .inr (0, 300, []), .inr (0, 5, []), .inr (0, 5, []), .inr (0, 96, []), .inl (8, [some 63, none, some 64, some 65, some 66, none]), .inr (0, 300, []), .inr (0, 5, []), .inr (0, 5, []), .inr (0, 96, [])]
def iX0 : XI := uI (uI (uI (uI (uI (uI (uI (uI (uI (uI (uI (uI (uI (zI (zI (uI (uI (uI (zI (zI (uI (uI (zI (zI (zI ((fun _ _ => 0)) 0) 1) 2) 1 1 0) 1 2 0) 3) 4) 0 7 0) 0 12 0) 0 13 (-1)) 6) 7) 7 0 100) 7 1 100) 7 2 100) 7 3 100) 7 4 100) 7 5 100) 7 6 100) 7 7 100) 7 8 1) 7 9 1) 7 10 1) 7 11 1) 7 68 83
def iX1 : XI := zI (uI (zI (zI (uI (uI (uI (zI (zI (zI (zI (zI (zI (uI (uI (uI (uI (uI (uI (zI (zI (uI (uI (zI (zI (iX0) 8) 9) 8 1 0) 8 2 0) 10) 11) 6 4 0) 6 5 0) 6 6 0) 6 7 0) 6 8 0) 6 9 (-1)) 12) 13) 14) 15) 16) 17) 12 5 0) 12 6 0) 12 7 0) 18) 19) 18 1 0) 20
def iX2 : XI := uI (uI (zI (zI (uI (uI (uI (uI (uI (uI (uI (uI (uI (uI (uI (uI (uI (zI (zI (zI (zI (zI (uI (zI (zI (iX1) 21) 22) 18 5 0) 23) 24) 25) 26) 27) 27 0 100) 27 1 100) 27 2 100) 27 3 100) 27 4 100) 27 5 100) 27 6 100) 27 7 100) 27 8 1) 27 9 1) 27 10 1) 27 11 1) 27 68 83) 28) 29) 29 0 100) 29 1 100
def iX3 : XI := uI (uI (uI (uI (uI (uI (zI (uI (zI (zI (zI (uI (zI (zI (uI (uI (uI (uI (uI (uI (uI (uI (uI (uI (uI (iX2) 29 2 100) 29 3 100) 29 4 100) 29 5 100) 29 6 100) 29 7 100) 29 8 1) 29 9 1) 29 10 1) 29 11 1) 29 68 83) 30) 31) 30 1 0) 32) 33) 34) 30 5 0) 35) 35 2 0) 35 3 0) 35 4 0) 35 5 0) 35 6 0) 35 7 0
def iX4 : XI := zI (zI (zI (zI (uI (zI (zI (uI (uI (uI (uI (uI (uI (uI (zI (uI (uI (uI (uI (uI (zI (zI (zI (zI (uI (iX3) 35 8 (-1)) 36) 37) 38) 39) 36 4 (-1)) 36 5 0) 36 6 0) 36 7 0) 36 8 0) 40) 40 1 (-1)) 40 2 0) 40 3 0) 40 4 0) 40 5 0) 40 6 0) 40 7 0) 41) 42) 41 2 0) 43) 44) 45) 46
def iX5 : XI := uI (zI (zI (uI (zI (zI (zI (uI (zI (zI (uI (zI (zI (zI (uI (zI (zI (uI (zI (zI (zI (uI (zI (zI (uI (iX4) 41 7 (-1)) 47) 48) 47 1 0) 49) 50) 51) 47 5 0) 52) 53) 52 1 0) 54) 55) 56) 52 5 0) 57) 58) 57 1 0) 59) 60) 61) 57 5 0) 62) 63) 62 1 0
def iX6 : XI := uI (zI (zI (zI (iX5) 64) 65) 66) 62 5 0
def iX : XI := iX6
def jX0 : XJ := zJ (zJ (zJ (zJ (zJ (zJ (zJ (zJ (zJ (zJ (zJ (zJ (zJ (zJ (zJ (zJ (zJ (zJ (zJ (zJ (zJ (zJ (zJ (zJ (zJ ((fun _ _ => 0)) 2) 3) 4) 7) 9) 10) 11) 13) 14) 15) 16) 17) 19) 20) 21) 22) 24) 25) 27) 29) 31) 32) 33) 34) 37
def jX1 : XJ := zJ (zJ (zJ (zJ (zJ (zJ (zJ (zJ (zJ (zJ (zJ (zJ (zJ (zJ (zJ (zJ (zJ (zJ (zJ (zJ (zJ (zJ (zJ (jX0) 38) 39) 42) 43) 44) 45) 46) 48) 49) 50) 51) 53) 54) 55) 56) 58) 59) 60) 61) 63) 64) 65) 66
def jX : XJ := jX1
set_option maxRecDepth 100000 in
set_option maxHeartbeats 4000000 in
theorem ctor_x (l : Launch) (d : Nat) (Rp : XR) (h : Rp none shCX iX jX) : xm l (d + 4) 66 8275 mX11_init [.ref 0] [.inl (11, List.replicate 18 none)] (zI (fun _ _ => 0) 0) (fun _ _ => 0) Rp := by
  refine xm_of (X := xxX11) (t := tX11_init) (stop := []) (n := 1) (ini := true) xx11 pl11 rfl kX11_init (fun _ => rfl) (Nat.le_of_ble_eq_true rfl) ?_
  refine xm_of (X := xxX6) (t := tX6_init) (stop := []) (n := 1) (ini := true) xx6 pl6 rfl kX6_init (fun _ => rfl) (Nat.le_of_ble_eq_true rfl) ?_
  refine xm_of (X := xxX1) (t := tX1_init) (stop := []) (n := 1) (ini := true) xx1 pl1 rfl kX1_init (fun _ => rfl) (Nat.le_of_ble_eq_true rfl) ?_
  refine xm_of (X := xxX10) (t := tX10_firstRow) (stop := []) (n := 1) (ini := false) xx10 pl10 rfl kX10_firstRow (fun h => by cases h) (Nat.le_of_ble_eq_true rfl) ?_
  refine And.intro (fun h => absurd h (by decide +kernel)) (fun _ => ?_)
  refine And.intro (vp_b (by decide +kernel)) ?_
  refine And.intro (fun h => absurd h (by decide +kernel)) (fun _ => ?_)
  refine And.intro (vp_b (by decide +kernel)) ?_
  refine And.intro (fun h => absurd h (by decide +kernel)) (fun _ => ?_)
  refine And.intro (vp_b (by decide +kernel)) ?_
  refine And.intro (fun h => absurd h (by decide +kernel)) (fun _ => ?_)
  refine And.intro (vp_b (by decide +kernel)) ?_
  refine And.intro (fun h => absurd h (by decide +kernel)) (fun _ => ?_)
  refine And.intro (vp_b (by decide +kernel)) ?_
  refine And.intro (fun h => absurd h (by decide +kernel)) (fun _ => ?_)
  refine And.intro (vp_b (by decide +kernel)) ?_
  refine And.intro (fun h => absurd h (by decide +kernel)) (fun _ => ?_)
  refine And.intro (vp_b (by decide +kernel)) ?_
  refine And.intro (fun h => absurd h (by decide +kernel)) (fun _ => ?_)
  refine And.intro (vp_b (by decide +kernel)) ?_
  refine And.intro (fun _ => ?_) (fun h => absurd h (by decide +kernel))
  refine And.intro (fun h => absurd h (by decide +kernel)) (fun _ => ?_)
  refine And.intro (vp_b (by decide +kernel)) ?_
  refine And.intro (fun h => absurd h (by decide +kernel)) (fun _ => ?_)
  refine And.intro (vp_b (by decide +kernel)) ?_
  refine And.intro (fun h => absurd h (by decide +kernel)) (fun _ => ?_)
  refine And.intro (vp_b (by decide +kernel)) ?_
  refine And.intro (fun h => absurd h (by decide +kernel)) (fun _ => ?_)
  refine And.intro (vp_b (by decide +kernel)) ?_
  refine And.intro (fun _ => ?_) (fun h => absurd h (by decide +kernel))
  refine And.intro (vp_b (by decide +kernel)) ?_
  refine xm_of (X := xxX6) (t := tX6_init) (stop := []) (n := 1) (ini := true) xx6 pl6 rfl kX6_init (fun _ => rfl) (Nat.le_of_ble_eq_true rfl) ?_
  refine xm_of (X := xxX9) (t := tX9_init) (stop := []) (n := 1) (ini := true) xx9 pl9 rfl kX9_init (fun _ => rfl) (Nat.le_of_ble_eq_true rfl) ?_
  refine xm_of (X := xxX8) (t := tX8_init) (stop := []) (n := 1) (ini := true) xx8 pl8 rfl kX8_init (fun _ => rfl) (Nat.le_of_ble_eq_true rfl) ?_
  refine xm_of (X := xxX2) (t := tX2_init) (stop := []) (n := 1) (ini := true) xx2 pl2 rfl kX2_init (fun _ => rfl) (Nat.le_of_ble_eq_true rfl) ?_
  refine xm_of (X := xxX10) (t := tX10_init) (stop := []) (n := 1) (ini := true) xx10 pl10 rfl kX10_init (fun _ => rfl) (Nat.le_of_ble_eq_true rfl) ?_
  refine xm_of (X := xxX10) (t := tX10_firstRow) (stop := []) (n := 1) (ini := false) xx10 pl10 rfl kX10_firstRow (fun h => by cases h) (Nat.le_of_ble_eq_true rfl) ?_
  refine And.intro (fun h => absurd h (by decide +kernel)) (fun _ => ?_)
  refine And.intro (vp_b (by decide +kernel)) ?_
  refine And.intro (fun h => absurd h (by decide +kernel)) (fun _ => ?_)
  refine And.intro (vp_b (by decide +kernel)) ?_
  refine And.intro (fun h => absurd h (by decide +kernel)) (fun _ => ?_)
  refine And.intro (vp_b (by decide +kernel)) ?_
  refine And.intro (fun h => absurd h (by decide +kernel)) (fun _ => ?_)
  refine And.intro (vp_b (by decide +kernel)) ?_
  refine And.intro (fun h => absurd h (by decide +kernel)) (fun _ => ?_)
  refine And.intro (vp_b (by decide +kernel)) ?_
  refine And.intro (fun h => absurd h (by decide +kernel)) (fun _ => ?_)
  refine And.intro (vp_b (by decide +kernel)) ?_
  refine And.intro (fun h => absurd h (by decide +kernel)) (fun _ => ?_)
  refine And.intro (vp_b (by decide +kernel)) ?_
  refine And.intro (fun h => absurd h (by decide +kernel)) (fun _ => ?_)
  refine And.intro (vp_b (by decide +kernel)) ?_
  refine And.intro (fun _ => ?_) (fun h => absurd h (by decide +kernel))
  refine And.intro (fun h => absurd h (by decide +kernel)) (fun _ => ?_)
  refine And.intro (vp_b (by decide +kernel)) ?_
  refine And.intro (fun h => absurd h (by decide +kernel)) (fun _ => ?_)
  refine And.intro (vp_b (by decide +kernel)) ?_
  refine And.intro (fun h => absurd h (by decide +kernel)) (fun _ => ?_)
  refine And.intro (vp_b (by decide +kernel)) ?_
  refine And.intro (fun h => absurd h (by decide +kernel)) (fun _ => ?_)
  refine And.intro (vp_b (by decide +kernel)) ?_
  refine And.intro (fun _ => ?_) (fun h => absurd h (by decide +kernel))
  refine And.intro (vp_b (by decide +kernel)) ?_
  refine xm_of (X := xxX10) (t := tX10_init) (stop := []) (n := 1) (ini := true) xx10 pl10 rfl kX10_init (fun _ => rfl) (Nat.le_of_ble_eq_true rfl) ?_
  refine xm_of (X := xxX10) (t := tX10_firstRow) (stop := []) (n := 1) (ini := false) xx10 pl10 rfl kX10_firstRow (fun h => by cases h) (Nat.le_of_ble_eq_true rfl) ?_
  refine And.intro (fun h => absurd h (by decide +kernel)) (fun _ => ?_)
  refine And.intro (vp_b (by decide +kernel)) ?_
  refine And.intro (fun h => absurd h (by decide +kernel)) (fun _ => ?_)
  refine And.intro (vp_b (by decide +kernel)) ?_
  refine And.intro (fun h => absurd h (by decide +kernel)) (fun _ => ?_)
  refine And.intro (vp_b (by decide +kernel)) ?_
  refine And.intro (fun h => absurd h (by decide +kernel)) (fun _ => ?_)
  refine And.intro (vp_b (by decide +kernel)) ?_
  refine And.intro (fun h => absurd h (by decide +kernel)) (fun _ => ?_)
  refine And.intro (vp_b (by decide +kernel)) ?_
  refine And.intro (fun h => absurd h (by decide +kernel)) (fun _ => ?_)
  refine And.intro (vp_b (by decide +kernel)) ?_
  refine And.intro (fun h => absurd h (by decide +kernel)) (fun _ => ?_)
  refine And.intro (vp_b (by decide +kernel)) ?_
  refine And.intro (fun h => absurd h (by decide +kernel)) (fun _ => ?_)
  refine And.intro (vp_b (by decide +kernel)) ?_
  refine And.intro (fun _ => ?_) (fun h => absurd h (by decide +kernel))
  refine And.intro (fun h => absurd h (by decide +kernel)) (fun _ => ?_)
  refine And.intro (vp_b (by decide +kernel)) ?_
  refine And.intro (fun h => absurd h (by decide +kernel)) (fun _ => ?_)
  refine And.intro (vp_b (by decide +kernel)) ?_
  refine And.intro (fun h => absurd h (by decide +kernel)) (fun _ => ?_)
  refine And.intro (vp_b (by decide +kernel)) ?_
  refine And.intro (fun h => absurd h (by decide +kernel)) (fun _ => ?_)
  refine And.intro (vp_b (by decide +kernel)) ?_
  refine And.intro (fun _ => ?_) (fun h => absurd h (by decide +kernel))
  refine And.intro (vp_b (by decide +kernel)) ?_
  refine xm_of (X := xxX7) (t := tX7_init) (stop := []) (n := 1) (ini := true) xx7 pl7 rfl kX7_init (fun _ => rfl) (Nat.le_of_ble_eq_true rfl) ?_
  refine xm_of (X := xxX5) (t := tX5_init) (stop := []) (n := 1) (ini := true) xx5 pl5 rfl kX5_init (fun _ => rfl) (Nat.le_of_ble_eq_true rfl) ?_
  refine And.intro (Or.inl rfl) ?_
  refine xm_of (X := xxX3) (t := tX3_init) (stop := []) (n := 1) (ini := true) xx3 pl3 rfl kX3_init (fun _ => rfl) (Nat.le_of_ble_eq_true rfl) ?_
  refine xm_of (X := xxX0) (t := tX0_init) (stop := []) (n := 1) (ini := true) xx0 pl0 rfl kX0_init (fun _ => rfl) (Nat.le_of_ble_eq_true rfl) ?_
  refine xm_of (X := xxX4) (t := tX4_init) (stop := []) (n := 1) (ini := true) xx4 pl4 rfl kX4_init (fun _ => rfl) (Nat.le_of_ble_eq_true rfl) ?_
  refine And.intro (fun h => absurd h (by decide +kernel)) (fun _ => ?_)
  refine xm_of (X := xxX8) (t := tX8_init) (stop := []) (n := 1) (ini := true) xx8 pl8 rfl kX8_init (fun _ => rfl) (Nat.le_of_ble_eq_true rfl) ?_
  refine And.intro (vp_b (by decide +kernel)) ?_
  refine And.intro (fun h => absurd h (by decide +kernel)) (fun _ => ?_)
  refine xm_of (X := xxX8) (t := tX8_init) (stop := []) (n := 1) (ini := true) xx8 pl8 rfl kX8_init (fun _ => rfl) (Nat.le_of_ble_eq_true rfl) ?_
  refine And.intro (vp_b (by decide +kernel)) ?_
  refine And.intro (fun h => absurd h (by decide +kernel)) (fun _ => ?_)
  refine xm_of (X := xxX8) (t := tX8_init) (stop := []) (n := 1) (ini := true) xx8 pl8 rfl kX8_init (fun _ => rfl) (Nat.le_of_ble_eq_true rfl) ?_
  refine And.intro (vp_b (by decide +kernel)) ?_
  refine And.intro (fun h => absurd h (by decide +kernel)) (fun _ => ?_)
  refine xm_of (X := xxX8) (t := tX8_init) (stop := []) (n := 1) (ini := true) xx8 pl8 rfl kX8_init (fun _ => rfl) (Nat.le_of_ble_eq_true rfl) ?_
  refine And.intro (vp_b (by decide +kernel)) ?_
  refine And.intro (fun _ => ?_) (fun h => absurd h (by decide +kernel))
  exact h
