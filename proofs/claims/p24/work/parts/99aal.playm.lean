set_option maxRecDepth 100000 in
set_option maxHeartbeats 2000000 in
theorem mp_fin (l : Launch) (d : Nat) (ru ta : Nat) (rs : List XO) (I : XI) (J : XJ) (Rp : XR) (n : Nat) (t i : Int32) (o3 o4 o5 o6 : Option Value) (b : Bool) (hT : b = true → mpz l d ru ta rs J Rp n 21 [some (.ref 67), some (.int t), some (.int (i + 1)), o3, o4, o5, o6, some (.int (b2 true))] I) (hF : b = false → Rp (some (.int i)) (shH ru ta rs) I J) : mpz l d ru ta rs J Rp (n + 1) 296 [some (.ref 67), some (.int t), some (.int i), o3, o4, o5, o6, some (.int (b2 b))] I := by
  refine xrun_step fun K hs => ?_
  cases b with
  | true =>
    refine And.intro (fun _ => ?_) (fun z => absurd (show b2 true = 0 from z) (by decide))
    exact hs 21 [some (.ref 67), some (.int t), some (.int (i + 1)), o3, o4, o5, o6, some (.int (b2 true))] [] (shH ru ta rs) I J 0 0 (hT rfl)
  | false =>
    refine And.intro (fun z => absurd (show b2 false = 0 from rfl) z) (fun _ => ?_)
    exact hF rfl
