section RUN
variable (l : Launch) (ta : Nat) (rs : List XO) (I : XI) (Rp : XR) (d : Nat)
set_option maxRecDepth 100000 in
set_option maxHeartbeats 4000000 in
theorem rn_op16 (ru : Nat) (w gr : Int32) (top i b : Nat) (R L : Int64) (o11 : Option Value) (n : Nat) (J : XJ) (hR : R.toInt = 0 ∨ R.toInt = 1) (hL : L.toInt = 0 ∨ L.toInt = 1) (nxt : ∀ v : Int64, v.toInt = wrk 407 L.toInt R.toInt → rnr l ru ta rs I Rp d n 449 [some (.ref 23), some (.int w), some (.int gr), some (.int (nI top)), some (.int (nI i)), some (.int (nI 16)), some (.int (nI b)), some (.long R), none, some (.long L), none, some (.long v), none] J) : rnr l ru ta rs I Rp d (n + 1) 125 [some (.ref 23), some (.int w), some (.int gr), some (.int (nI top)), some (.int (nI i)), some (.int (nI 16)), some (.int (nI b)), some (.long R), none, some (.long L), none, o11, none] J := by
  refine xrun_step fun K hK => ?_
  refine And.intro (fun z => absurd (show nI 16 = nI 0 from z) (by decide)) (fun _ => ?_)
  refine And.intro (fun z => absurd (show nI 16 = nI 1 from z) (by decide)) (fun _ => ?_)
  refine And.intro (fun z => absurd (show nI 16 = nI 2 from z) (by decide)) (fun _ => ?_)
  refine And.intro (fun z => absurd (show nI 16 = nI 3 from z) (by decide)) (fun _ => ?_)
  refine And.intro (fun z => absurd (show nI 16 = nI 4 from z) (by decide)) (fun _ => ?_)
  refine And.intro (fun z => absurd (show nI 16 = nI 5 from z) (by decide)) (fun _ => ?_)
  refine And.intro (fun z => absurd (show nI 16 = nI 6 from z) (by decide)) (fun _ => ?_)
  refine And.intro (fun z => absurd (show nI 16 = nI 7 from z) (by decide)) (fun _ => ?_)
  refine And.intro (fun z => absurd (show nI 16 = nI 8 from z) (by decide)) (fun _ => ?_)
  refine And.intro (fun z => absurd (show nI 16 = nI 9 from z) (by decide)) (fun _ => ?_)
  refine And.intro (fun z => absurd (show nI 16 = nI 10 from z) (by decide)) (fun _ => ?_)
  refine And.intro (fun z => absurd (show nI 16 = nI 11 from z) (by decide)) (fun _ => ?_)
  refine And.intro (fun z => absurd (show nI 16 = nI 12 from z) (by decide)) (fun _ => ?_)
  refine And.intro (fun z => absurd (show nI 16 = nI 13 from z) (by decide)) (fun _ => ?_)
  refine And.intro (fun z => absurd (show nI 16 = nI 14 from z) (by decide)) (fun _ => ?_)
  refine And.intro (fun z => absurd (show nI 16 = nI 15 from z) (by decide)) (fun _ => ?_)
  exact hK 449 [some (.ref 23), some (.int w), some (.int gr), some (.int (nI top)), some (.int (nI i)), some (.int (nI 16)), some (.int (nI b)), some (.long R), none, some (.long L), none, some (.long (L ||| R)), none] [] _ I J 0 0 (nxt _ (bit_407 hL hR))
end RUN
