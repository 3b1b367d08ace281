section RUN
variable (l : Launch) (ta : Nat) (rs : List XO) (I : XI) (Rp : XR) (d : Nat)
set_option maxRecDepth 100000 in
set_option maxHeartbeats 4000000 in
theorem rn_op8 (ru : Nat) (w gr : Int32) (top i b : Nat) (R L : Int64) (o11 : Option Value) (n : Nat) (J : XJ) (hR : inM R.toInt) (hL : inM L.toInt) (nxt : ∀ v : Int64, v.toInt = wrk 47 L.toInt R.toInt → rnr l ru ta rs I Rp d n 449 [some (.ref 23), some (.int w), some (.int gr), some (.int (nI top)), some (.int (nI i)), some (.int (nI 8)), some (.int (nI b)), some (.long R), none, some (.long L), none, some (.long v), none] J) : rnr l ru ta rs I Rp d (n + 1) 125 [some (.ref 23), some (.int w), some (.int gr), some (.int (nI top)), some (.int (nI i)), some (.int (nI 8)), some (.int (nI b)), some (.long R), none, some (.long L), none, o11, none] J := by
  refine xrun_step fun K hK => ?_
  refine And.intro (fun z => absurd (show nI 8 = nI 0 from z) (by decide)) (fun _ => ?_)
  refine And.intro (fun z => absurd (show nI 8 = nI 1 from z) (by decide)) (fun _ => ?_)
  refine And.intro (fun z => absurd (show nI 8 = nI 2 from z) (by decide)) (fun _ => ?_)
  refine And.intro (fun z => absurd (show nI 8 = nI 3 from z) (by decide)) (fun _ => ?_)
  refine And.intro (fun z => absurd (show nI 8 = nI 4 from z) (by decide)) (fun _ => ?_)
  refine And.intro (fun z => absurd (show nI 8 = nI 5 from z) (by decide)) (fun _ => ?_)
  refine And.intro (fun z => absurd (show nI 8 = nI 6 from z) (by decide)) (fun _ => ?_)
  refine And.intro (fun z => absurd (show nI 8 = nI 7 from z) (by decide)) (fun _ => ?_)
  refine And.intro (fun _ => ?_) (fun z => absurd (show nI 8 = nI 8 from rfl) z)
  have e1 : ¬ R.toInt = 0 → wrk 47 L.toInt R.toInt = L.toInt.tdiv R.toInt := fun h => if_neg h
  have e2 : R.toInt = 0 → wrk 47 L.toInt R.toInt = 0 := fun h => if_pos h
  refine And.intro (fun h => ?_) (fun h => ?_)
  · have h : ¬ lg_cmp R 0 = 0 := h
    have h2 : ¬ R.toInt = 0 := fun z => h (lc_eq.mpr (z.trans i64_0.symm))
    refine And.intro (fun z => h2 (by rw [z]; exact i64_0)) ?_
    exact hK 449 [some (.ref 23), some (.int w), some (.int gr), some (.int (nI top)), some (.int (nI i)), some (.int (nI 8)), some (.int (nI b)), some (.long R), none, some (.long L), none, some (.long (L / R)), none] [] _ I J 0 0 (nxt _ (by
      rw [e1 h2, Int64.toInt_div_of_ne_left L R (fun e => by
        rw [e] at hL
        exact absurd hL.1 (by decide))]))
  · have h2 : R.toInt = 0 := (lc_eq.mp (show lg_cmp R 0 = 0 from h)).trans i64_0
    exact hK 449 [some (.ref 23), some (.int w), some (.int gr), some (.int (nI top)), some (.int (nI i)), some (.int (nI 8)), some (.int (nI b)), some (.long R), none, some (.long L), none, some (.long (0)), none] [] _ I J 0 0 (nxt _ (by rw [e2 h2]; exact i64_0))
end RUN
