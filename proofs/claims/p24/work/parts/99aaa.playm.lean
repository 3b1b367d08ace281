-- ===== played: the reference =====
abbrev mpz (l : Launch) (d : Nat) (ru ta : Nat) (rs : List XO) (J : XJ) (Rp : XR) (n pc : Nat) (lc : List (Option Value)) (I : XI) : Prop := xrun xxX12 (some .int) false false (shH ru ta rs).length 0 0 none l (d + 14) tX12_played [21, 65, 296] Rp n pc lc [] (shH ru ta rs) I J 0 0
