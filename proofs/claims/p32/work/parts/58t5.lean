-- ===== what goes on, what is asked on =====
abbrev gor (l : Launch) (d : Nat) (ru ta : Nat) (rs : List XO) (J : XJ) (Rp : XR) (n pc k : Nat) (I : XI) : Prop := xrun xxX12 none false false (shH ru ta rs).length 0 0 none l (d + 8) tX12_goesOn [49, 65, 116, 181, 224, 245] Rp n pc [some (.ref 67), some (.int (nI k)), none] [] (shH ru ta rs) I J 0 0
