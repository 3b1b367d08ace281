section RUN
variable (l : Launch) (ta : Nat) (rs : List XO) (I : XI) (Rp : XR) (d : Nat)
set_option maxRecDepth 100000 in
set_option maxHeartbeats 4000000 in
theorem rn_op1 (ru : Nat) (w gr : Int32) (top i b : Nat) (R L : Int64) (o11 : Option Value) (n : Nat) (J : XJ) (hb : b < 11) (nxt : ∀ v : Int64, v.toInt = (I 24 b).toInt → rnr l ru ta rs I Rp d n 449 [some (.ref 23), some (.int w), some (.int gr), some (.int (nI top)), some (.int (nI i)), some (.int (nI 1)), some (.int (nI b)), some (.long R), none, some (.long L), none, some (.long v), none] J) : rnr l ru ta rs I Rp d (n + 1) 125 [some (.ref 23), some (.int w), some (.int gr), some (.int (nI top)), some (.int (nI i)), some (.int (nI 1)), some (.int (nI b)), some (.long R), none, some (.long L), none, o11, none] J := by
  refine xrun_step fun K hK => ?_
  refine And.intro (fun z => absurd (show nI 1 = nI 0 from z) (by decide)) (fun _ => ?_)
  refine And.intro (fun _ => ?_) (fun z => absurd (show nI 1 = nI 1 from rfl) z)
  refine And.intro (fun z => absurd (show nI b < nI 0 from z) (nI_nlt (by omega) (by omega))) (fun _ => ?_)
  refine And.intro (fun z => absurd (show nI 11 ≤ nI b from z) (fun y => by
      rw [Int32.le_iff_toInt_le, nI_toInt (by omega), nI_toInt (by omega)] at y
      omega)) (fun _ => ?_)
  refine And.intro (show vp_in (nI b) 11 from vp_in_nI hb (by omega)) ?_
  exact hK 449 [some (.ref 23), some (.int w), some (.int gr), some (.int (nI top)), some (.int (nI i)), some (.int (nI 1)), some (.int (nI b)), some (.long R), none, some (.long L), none, some (.long ((I 24 (nI b).toNatClampNeg).toInt64)), none] [] _ I J 0 0 (nxt _ (by rw [nI_clamp (by omega)]; exact Int32.toInt_toInt64 _))
end RUN
