section RUN
variable (l : Launch) (ta : Nat) (rs : List XO) (I : XI) (Rp : XR) (d : Nat)
set_option maxRecDepth 100000 in
set_option maxHeartbeats 4000000 in
theorem rn_op6 (ru : Nat) (w gr : Int32) (top i b : Nat) (R L : Int64) (o11 : Option Value) (n : Nat) (J : XJ) (hR : inM R.toInt) (hL : inM L.toInt) (nxt : ∀ v : Int64, v.toInt = L.toInt - R.toInt → rnr l ru ta rs I Rp d n 449 [some (.ref 23), some (.int w), some (.int gr), some (.int (nI top)), some (.int (nI i)), some (.int (nI 6)), some (.int (nI b)), some (.long R), none, some (.long L), none, some (.long v), none] J) : rnr l ru ta rs I Rp d (n + 1) 125 [some (.ref 23), some (.int w), some (.int gr), some (.int (nI top)), some (.int (nI i)), some (.int (nI 6)), some (.int (nI b)), some (.long R), none, some (.long L), none, o11, none] J := by
  refine xrun_step fun K hK => ?_
  refine And.intro (fun z => absurd (show nI 6 = nI 0 from z) (by decide)) (fun _ => ?_)
  refine And.intro (fun z => absurd (show nI 6 = nI 1 from z) (by decide)) (fun _ => ?_)
  refine And.intro (fun z => absurd (show nI 6 = nI 2 from z) (by decide)) (fun _ => ?_)
  refine And.intro (fun z => absurd (show nI 6 = nI 3 from z) (by decide)) (fun _ => ?_)
  refine And.intro (fun z => absurd (show nI 6 = nI 4 from z) (by decide)) (fun _ => ?_)
  refine And.intro (fun z => absurd (show nI 6 = nI 5 from z) (by decide)) (fun _ => ?_)
  refine And.intro (fun _ => ?_) (fun z => absurd (show nI 6 = nI 6 from rfl) z)
  have := hR.1
  have := hR.2
  have := hL.1
  have := hL.2
  exact hK 449 [some (.ref 23), some (.int w), some (.int gr), some (.int (nI top)), some (.int (nI i)), some (.int (nI 6)), some (.int (nI b)), some (.long R), none, some (.long L), none, some (.long (L - R)), none] [] _ I J 0 0 (nxt _ (l64_sub (by omega) (by omega)))
end RUN
