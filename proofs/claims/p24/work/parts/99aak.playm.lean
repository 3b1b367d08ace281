set_option maxRecDepth 100000 in
set_option maxHeartbeats 2000000 in
theorem mp_0 (l : Launch) (d : Nat) (ru ta : Nat) (rs : List XO) (I : XI) (J : XJ) (Rp : XR) (L : Lws) (A : Ast) (hA : AOK A) (h : MA I L A) (n : Nat) (t i c : Int32) (o4 o5 o6 : Option Value) (vc : vp_in c 96) (w : Nat) (w4 : w ≤ 4) (hv : I 72 c.toNatClampNeg = nI w) (hK : mpz l d ru ta rs J Rp n 296 [some (.ref 67), some (.int t), some (.int i), some (.int c), o4, o5, o6, some (.int (nI 1))] I) : mpz l d ru ta rs J Rp (n + 1) 65 [some (.ref 67), some (.int t), some (.int i), some (.int c), o4, o5, o6, some (.int (nI 1))] I := by
  have ne : ∀ k : Nat, 4 < k → k < 14 → ¬ I 72 c.toNatClampNeg = nI k := fun k h4 h14 z => by
    have := nI_inj (hv.symm.trans z) (by omega) (by omega)
    omega
  refine xrun_step fun K hs => ?_
  refine And.intro vc ?_
  refine And.intro (fun (z : I 72 c.toNatClampNeg = nI 5) => absurd z (ne 5 (by decide) (by decide))) (fun _ => ?_)
  refine And.intro (fun (z : I 72 c.toNatClampNeg = nI 6) => absurd z (ne 6 (by decide) (by decide))) (fun _ => ?_)
  refine And.intro (fun (z : I 72 c.toNatClampNeg = nI 7) => absurd z (ne 7 (by decide) (by decide))) (fun _ => ?_)
  refine And.intro (fun (z : I 72 c.toNatClampNeg = nI 8) => absurd z (ne 8 (by decide) (by decide))) (fun _ => ?_)
  refine And.intro (fun (z : I 72 c.toNatClampNeg = nI 9) => absurd z (ne 9 (by decide) (by decide))) (fun _ => ?_)
  refine And.intro (fun (z : I 72 c.toNatClampNeg = nI 10) => absurd z (ne 10 (by decide) (by decide))) (fun _ => ?_)
  refine And.intro (fun (z : I 72 c.toNatClampNeg = nI 11) => absurd z (ne 11 (by decide) (by decide))) (fun _ => ?_)
  refine And.intro (fun (z : I 72 c.toNatClampNeg = nI 12) => absurd z (ne 12 (by decide) (by decide))) (fun _ => ?_)
  refine And.intro (fun (z : I 72 c.toNatClampNeg = nI 13) => absurd z (ne 13 (by decide) (by decide))) (fun _ => ?_)
  exact hs 296 [some (.ref 67), some (.int t), some (.int i), some (.int c), o4, o5, o6, some (.int (nI 1))] [] (shH ru ta rs) I J 0 0 hK
