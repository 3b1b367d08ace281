def lstop : List Nat := [196, 239, 262, 285, 328, 361, 394, 427, 450, 473, 506, 569, 592, 605, 628, 651, 674, 687, 720, 753, 786, 819, 852, 885, 938, 971, 994, 1027, 1080, 1123, 1166, 1219, 1252, 1295, 1354, 1367, 1380, 1403]
def lI : XI := cI iM 68 69 0 0 2200
abbrev lrun (l : Launch) (L : Nat) (xs : Nat → Int32) (n : Nat) (pc : Nat) : XP := xrun xxL (some .boolean) false true 0 600000 7302249 (some (L, xs)) l 1399 tL_law lstop (fun v _ _ _ => v = some (.int 1)) n pc
def lloc : List (Option Value) := [some (.ref 900000), some (.ref 0), some (.ref 67), some (.int 0)]
set_option maxRecDepth 100000 in
set_option maxHeartbeats 4000000 in
theorem law_next (l : Launch) (xs : Nat → Int32) (n : Nat) (sh : List XO) (I : XI) (J : XJ) (a b : Nat) (ha : a ≤ 600000) (hb : b ≤ 7302249) : lrun l 6 xs (n + 1) 1403 lloc [] sh I J a b := by
  refine xrun_step fun K hK => ?_
  refine And.intro (fun _ => ?_) (fun h => absurd (show Int32.ofNat 6 - 6 < 0 + 6 by decide) h)
  have e : (Nat.beq 1 1 && Nat.ble a 600000 && Nat.ble b 7302249) = true := by simp [Nat.ble_eq, ha, hb]
  show xb (Nat.beq 1 1 && Nat.ble a 600000 && Nat.ble b 7302249) _
  rw [e]
  exact And.intro (Or.inr rfl) rfl
set_option maxRecDepth 100000 in
set_option maxHeartbeats 4000000 in
theorem law_short (l : Launch) (xs : Nat → Int32) (n L : Nat) (hL : L < 6) : lrun l L xs (n + 1) 0 [some (.ref 900000), none, none, none] [] [] (fun _ _ => 0) (fun _ _ => 0) 0 0 := by
  refine xrun_step fun K hK => ?_
  refine ctor_x l 1395 _ ?_
  refine ctor_m l 1397 _ ?_
  refine And.intro (fun _ => ?_) (fun h => absurd ?_ h)
  · exact And.intro (Or.inr rfl) rfl
  · rcases (show L = 0 ∨ L = 1 ∨ L = 2 ∨ L = 3 ∨ L = 4 ∨ L = 5 by omega) with q | q | q | q | q | q <;> subst q
    · exact (show Int32.ofNat 0 - 6 < 0 by decide)
    · exact (show Int32.ofNat 1 - 6 < 0 by decide)
    · exact (show Int32.ofNat 2 - 6 < 0 by decide)
    · exact (show Int32.ofNat 3 - 6 < 0 by decide)
    · exact (show Int32.ofNat 4 - 6 < 0 by decide)
    · exact (show Int32.ofNat 5 - 6 < 0 by decide)
set_option maxRecDepth 100000 in
set_option maxHeartbeats 4000000 in
theorem law_six (l : Launch) (xs : Nat → Int32) (n : Nat)
    (h0 : lrun l 6 xs (n + 2) 196 lloc [] shXM lI jM 99 18232)
    (h1 : lrun l 6 xs (n + 2) 239 lloc [] shXM lI jM 99 18232)
    (h2 : lrun l 6 xs (n + 2) 262 lloc [] shXM lI jM 99 18232)
    (h3 : lrun l 6 xs (n + 2) 285 lloc [] shXM lI jM 99 18232)
    (h4 : lrun l 6 xs (n + 2) 328 lloc [] shXM lI jM 99 18232)
    (h5 : lrun l 6 xs (n + 2) 361 lloc [] shXM lI jM 99 18232)
    (h6 : lrun l 6 xs (n + 2) 394 lloc [] shXM lI jM 99 18232)
    (h7 : lrun l 6 xs (n + 2) 427 lloc [] shXM lI jM 99 18232)
    (h8 : lrun l 6 xs (n + 2) 450 lloc [] shXM lI jM 99 18232)
    (h9 : lrun l 6 xs (n + 2) 473 lloc [] shXM lI jM 99 18232)
    (h10 : lrun l 6 xs (n + 2) 506 lloc [] shXM lI jM 99 18232)
    (h11 : lrun l 6 xs (n + 2) 569 lloc [] shXM lI jM 99 18232)
    (h12 : lrun l 6 xs (n + 2) 592 lloc [] shXM lI jM 99 18232)
    (h13 : lrun l 6 xs (n + 2) 605 lloc [] shXM lI jM 99 18232)
    (h14 : lrun l 6 xs (n + 2) 628 lloc [] shXM lI jM 99 18232)
    (h15 : lrun l 6 xs (n + 2) 651 lloc [] shXM lI jM 99 18232)
    (h16 : lrun l 6 xs (n + 2) 674 lloc [] shXM lI jM 99 18232)
    (h17 : lrun l 6 xs (n + 2) 687 lloc [] shXM lI jM 99 18232)
    (h18 : lrun l 6 xs (n + 2) 720 lloc [] shXM lI jM 99 18232)
    (h19 : lrun l 6 xs (n + 2) 753 lloc [] shXM lI jM 99 18232)
    (h20 : lrun l 6 xs (n + 2) 786 lloc [] shXM lI jM 99 18232)
    (h21 : lrun l 6 xs (n + 2) 819 lloc [] shXM lI jM 99 18232)
    (h22 : lrun l 6 xs (n + 2) 852 lloc [] shXM lI jM 99 18232)
    (h23 : lrun l 6 xs (n + 2) 885 lloc [] shXM lI jM 99 18232)
    (h24 : lrun l 6 xs (n + 2) 938 lloc [] shXM lI jM 99 18232)
    (h25 : lrun l 6 xs (n + 2) 971 lloc [] shXM lI jM 99 18232)
    (h26 : lrun l 6 xs (n + 2) 994 lloc [] shXM lI jM 99 18232)
    (h27 : lrun l 6 xs (n + 2) 1027 lloc [] shXM lI jM 99 18232)
    (h28 : lrun l 6 xs (n + 2) 1080 lloc [] shXM lI jM 99 18232)
    (h29 : lrun l 6 xs (n + 2) 1123 lloc [] shXM lI jM 99 18232)
    (h30 : lrun l 6 xs (n + 2) 1166 lloc [] shXM lI jM 99 18232)
    (h31 : lrun l 6 xs (n + 2) 1219 lloc [] shXM lI jM 99 18232)
    (h32 : lrun l 6 xs (n + 2) 1252 lloc [] shXM lI jM 99 18232)
    (h33 : lrun l 6 xs (n + 2) 1295 lloc [] shXM lI jM 99 18232)
    (h34 : lrun l 6 xs (n + 2) 1354 lloc [] shXM lI jM 99 18232)
    (h35 : lrun l 6 xs (n + 2) 1367 lloc [] shXM lI jM 99 18232)
    (h36 : lrun l 6 xs (n + 2) 1380 lloc [] shXM lI jM 99 18232) : lrun l 6 xs (n + 3) 0 [some (.ref 900000), none, none, none] [] [] (fun _ _ => 0) (fun _ _ => 0) 0 0 := by
  refine xrun_step fun K hK => ?_
  refine ctor_x l 1395 _ ?_
  refine ctor_m l 1397 _ ?_
  refine And.intro (fun h => absurd h (show ¬ (Int32.ofNat 6 - 6 < 0) by decide)) (fun _ => ?_)
  refine And.intro (vp_b (i := 0) (n := 6) (by decide)) ?_
  refine And.intro (fun _ => hK _ _ _ _ _ _ _ _ h0) (fun _ => ?_)
  refine And.intro (fun _ => hK _ _ _ _ _ _ _ _ h1) (fun _ => ?_)
  refine And.intro (fun _ => hK _ _ _ _ _ _ _ _ h2) (fun _ => ?_)
  refine And.intro (fun _ => hK _ _ _ _ _ _ _ _ h3) (fun _ => ?_)
  refine And.intro (fun _ => hK _ _ _ _ _ _ _ _ h4) (fun _ => ?_)
  refine And.intro (fun _ => hK _ _ _ _ _ _ _ _ h5) (fun _ => ?_)
  refine And.intro (fun _ => hK _ _ _ _ _ _ _ _ h6) (fun _ => ?_)
  refine And.intro (fun _ => hK _ _ _ _ _ _ _ _ h7) (fun _ => ?_)
  refine And.intro (fun _ => hK _ _ _ _ _ _ _ _ h8) (fun _ => ?_)
  refine And.intro (fun _ => hK _ _ _ _ _ _ _ _ h9) (fun _ => ?_)
  refine And.intro (fun _ => hK _ _ _ _ _ _ _ _ h10) (fun _ => ?_)
  refine And.intro (fun _ => hK _ _ _ _ _ _ _ _ h11) (fun _ => ?_)
  refine And.intro (fun _ => hK _ _ _ _ _ _ _ _ h12) (fun _ => ?_)
  refine And.intro (fun _ => hK _ _ _ _ _ _ _ _ h13) (fun _ => ?_)
  refine And.intro (fun _ => hK _ _ _ _ _ _ _ _ h14) (fun _ => ?_)
  refine And.intro (fun _ => hK _ _ _ _ _ _ _ _ h15) (fun _ => ?_)
  refine And.intro (fun _ => hK _ _ _ _ _ _ _ _ h16) (fun _ => ?_)
  refine And.intro (fun _ => hK _ _ _ _ _ _ _ _ h17) (fun _ => ?_)
  refine And.intro (fun _ => hK _ _ _ _ _ _ _ _ h18) (fun _ => ?_)
  refine And.intro (fun _ => hK _ _ _ _ _ _ _ _ h19) (fun _ => ?_)
  refine And.intro (fun _ => hK _ _ _ _ _ _ _ _ h20) (fun _ => ?_)
  refine And.intro (fun _ => hK _ _ _ _ _ _ _ _ h21) (fun _ => ?_)
  refine And.intro (fun _ => hK _ _ _ _ _ _ _ _ h22) (fun _ => ?_)
  refine And.intro (fun _ => hK _ _ _ _ _ _ _ _ h23) (fun _ => ?_)
  refine And.intro (fun _ => hK _ _ _ _ _ _ _ _ h24) (fun _ => ?_)
  refine And.intro (fun _ => hK _ _ _ _ _ _ _ _ h25) (fun _ => ?_)
  refine And.intro (fun _ => hK _ _ _ _ _ _ _ _ h26) (fun _ => ?_)
  refine And.intro (fun _ => hK _ _ _ _ _ _ _ _ h27) (fun _ => ?_)
  refine And.intro (fun _ => hK _ _ _ _ _ _ _ _ h28) (fun _ => ?_)
  refine And.intro (fun _ => hK _ _ _ _ _ _ _ _ h29) (fun _ => ?_)
  refine And.intro (fun _ => hK _ _ _ _ _ _ _ _ h30) (fun _ => ?_)
  refine And.intro (fun _ => hK _ _ _ _ _ _ _ _ h31) (fun _ => ?_)
  refine And.intro (fun _ => hK _ _ _ _ _ _ _ _ h32) (fun _ => ?_)
  refine And.intro (fun _ => hK _ _ _ _ _ _ _ _ h33) (fun _ => ?_)
  refine And.intro (fun _ => hK _ _ _ _ _ _ _ _ h34) (fun _ => ?_)
  refine And.intro (fun _ => hK _ _ _ _ _ _ _ _ h35) (fun _ => ?_)
  refine And.intro (fun _ => hK _ _ _ _ _ _ _ _ h36) (fun _ => ?_)
  exact hK _ _ _ _ _ _ _ _ (law_next l xs (n + 1) shXM lI jM 99 18232 (Nat.le_of_ble_eq_true rfl) (Nat.le_of_ble_eq_true rfl))
