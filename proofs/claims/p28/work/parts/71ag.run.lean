section RUN
variable (l : Launch) (ta : Nat) (rs : List XO) (I : XI) (Rp : XR) (d : Nat)
set_option maxRecDepth 100000 in
set_option maxHeartbeats 4000000 in
theorem rn_op0 (ru : Nat) (w gr : Int32) (top i b : Nat) (R L : Int64) (o11 : Option Value) (n : Nat) (J : XJ) (hb : b < 10000) (nxt : ∀ v : Int64, v.toInt = (b : Int) → rnr l ru ta rs I Rp d n 449 [some (.ref 23), some (.int w), some (.int gr), some (.int (nI top)), some (.int (nI i)), some (.int (nI 0)), some (.int (nI b)), some (.long R), none, some (.long L), none, some (.long v), none] J) : rnr l ru ta rs I Rp d (n + 1) 125 [some (.ref 23), some (.int w), some (.int gr), some (.int (nI top)), some (.int (nI i)), some (.int (nI 0)), some (.int (nI b)), some (.long R), none, some (.long L), none, o11, none] J := by
  refine xrun_step fun K hK => ?_
  refine And.intro (fun _ => ?_) (fun z => absurd (show nI 0 = nI 0 from rfl) z)
  exact hK 449 [some (.ref 23), some (.int w), some (.int gr), some (.int (nI top)), some (.int (nI i)), some (.int (nI 0)), some (.int (nI b)), some (.long R), none, some (.long L), none, some (.long ((nI b).toInt64)), none] [] _ I J 0 0 (nxt _ (nI_i64 (by omega)))
end RUN
