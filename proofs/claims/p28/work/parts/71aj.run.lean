section RUN
variable (l : Launch) (ta : Nat) (rs : List XO) (I : XI) (Rp : XR) (d : Nat)
set_option maxRecDepth 100000 in
set_option maxHeartbeats 4000000 in
theorem rn_op3 (ru : Nat) (w gr : Int32) (top i b : Nat) (R L : Int64) (o11 : Option Value) (n : Nat) (J : XJ) (hR : inM R.toInt) (hb : b ≤ 100) (nxt : ∀ v : Int64, v.toInt = (R.toInt * (b : Int)).tdiv 100 → rnr l ru ta rs I Rp d n 449 [some (.ref 23), some (.int w), some (.int gr), some (.int (nI top)), some (.int (nI i)), some (.int (nI 3)), some (.int (nI b)), some (.long R), none, some (.long L), none, some (.long v), none] J) : rnr l ru ta rs I Rp d (n + 1) 125 [some (.ref 23), some (.int w), some (.int gr), some (.int (nI top)), some (.int (nI i)), some (.int (nI 3)), some (.int (nI b)), some (.long R), none, some (.long L), none, o11, none] J := by
  refine xrun_step fun K hK => ?_
  refine And.intro (fun z => absurd (show nI 3 = nI 0 from z) (by decide)) (fun _ => ?_)
  refine And.intro (fun z => absurd (show nI 3 = nI 1 from z) (by decide)) (fun _ => ?_)
  refine And.intro (fun z => absurd (show nI 3 = nI 2 from z) (by decide)) (fun _ => ?_)
  refine And.intro (fun _ => ?_) (fun z => absurd (show nI 3 = nI 3 from rfl) z)
  refine And.intro (show ¬ ((100 : Int64) = 0) by decide) ?_
  have h2 : (nI b).toInt64.toInt = (b : Int) := nI_i64 (by omega)
  have hb2 := mul_b hR (show inM (b : Int) from ⟨by omega, by omega⟩)
  have h3 : (R * (nI b).toInt64).toInt = R.toInt * (b : Int) := by
    rw [l64_mul (by rw [h2]; omega) (by rw [h2]; omega), h2]
  exact hK 449 [some (.ref 23), some (.int w), some (.int gr), some (.int (nI top)), some (.int (nI i)), some (.int (nI 3)), some (.int (nI b)), some (.long R), none, some (.long L), none, some (.long (R * (nI b).toInt64 / 100)), none] [] _ I J 0 0 (nxt _ (by rw [Int64.toInt_div_of_ne_right _ _ (by decide), h3]; rfl))
end RUN
