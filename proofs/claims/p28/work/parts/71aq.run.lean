section RUN
variable (l : Launch) (ta : Nat) (rs : List XO) (I : XI) (Rp : XR) (d : Nat)
set_option maxRecDepth 100000 in
set_option maxHeartbeats 4000000 in
theorem rn_op10 (ru : Nat) (w gr : Int32) (top i b : Nat) (R L : Int64) (o11 : Option Value) (n : Nat) (J : XJ) (nxt : ∀ v : Int64, v.toInt = wrk 300 L.toInt R.toInt → rnr l ru ta rs I Rp d n 449 [some (.ref 23), some (.int w), some (.int gr), some (.int (nI top)), some (.int (nI i)), some (.int (nI 10)), some (.int (nI b)), some (.long R), none, some (.long L), none, some (.long v), none] J) : rnr l ru ta rs I Rp d (n + 1) 125 [some (.ref 23), some (.int w), some (.int gr), some (.int (nI top)), some (.int (nI i)), some (.int (nI 10)), some (.int (nI b)), some (.long R), none, some (.long L), none, o11, none] J := by
  refine xrun_step fun K hK => ?_
  refine And.intro (fun z => absurd (show nI 10 = nI 0 from z) (by decide)) (fun _ => ?_)
  refine And.intro (fun z => absurd (show nI 10 = nI 1 from z) (by decide)) (fun _ => ?_)
  refine And.intro (fun z => absurd (show nI 10 = nI 2 from z) (by decide)) (fun _ => ?_)
  refine And.intro (fun z => absurd (show nI 10 = nI 3 from z) (by decide)) (fun _ => ?_)
  refine And.intro (fun z => absurd (show nI 10 = nI 4 from z) (by decide)) (fun _ => ?_)
  refine And.intro (fun z => absurd (show nI 10 = nI 5 from z) (by decide)) (fun _ => ?_)
  refine And.intro (fun z => absurd (show nI 10 = nI 6 from z) (by decide)) (fun _ => ?_)
  refine And.intro (fun z => absurd (show nI 10 = nI 7 from z) (by decide)) (fun _ => ?_)
  refine And.intro (fun z => absurd (show nI 10 = nI 8 from z) (by decide)) (fun _ => ?_)
  refine And.intro (fun z => absurd (show nI 10 = nI 9 from z) (by decide)) (fun _ => ?_)
  refine And.intro (fun _ => ?_) (fun z => absurd (show nI 10 = nI 10 from rfl) z)
  have e1 : L.toInt ≤ R.toInt → wrk 300 L.toInt R.toInt = 1 := fun h => if_pos h
  have e2 : ¬ (L.toInt ≤ R.toInt) → wrk 300 L.toInt R.toInt = 0 := fun h => if_neg h
  refine And.intro (fun h => ?_) (fun h => ?_)
  · have h2 := lc_gt.mp (show 0 < lg_cmp L R from h)
    exact hK 449 [some (.ref 23), some (.int w), some (.int gr), some (.int (nI top)), some (.int (nI i)), some (.int (nI 10)), some (.int (nI b)), some (.long R), none, some (.long L), none, some (.long (0)), none] [] _ I J 0 0 (nxt _ (by rw [e2 (by omega)]; exact i64_0))
  · have h2 : ¬ (R.toInt < L.toInt) := fun z => h (lc_gt.mpr z)
    exact hK 449 [some (.ref 23), some (.int w), some (.int gr), some (.int (nI top)), some (.int (nI i)), some (.int (nI 10)), some (.int (nI b)), some (.long R), none, some (.long L), none, some (.long (1)), none] [] _ I J 0 0 (nxt _ (by rw [e1 (by omega)]; exact i64_1))
end RUN
