set_option maxRecDepth 100000 in
set_option maxHeartbeats 2000000 in
theorem mp_10 (l : Launch) (d : Nat) (ru ta : Nat) (rs : List XO) (I : XI) (J : XJ) (Rp : XR) (L : Lws) (A : Ast) (hA : AOK A) (h : MA I L A) (n : Nat) (t i c : Int32) (a1 a2 : Int32) (o6 : Int32) (vc : vp_in c 96) (hv : I 72 c.toNatClampNeg = nI 10) (hK : ∀ (I2 : XI) (J2 : XJ), FMl I I2 → MA I2 L (useS A a1 a2).2 → mpz l d ru ta rs J2 Rp n 296 [some (.ref 67), some (.int t), some (.int i), some (.int c), some (.int a1), some (.int a2), some (.int o6), some (.int (b2 (!(decide ((useS A a1 a2).1 = -1)))))] I2) : mpz l d ru ta rs J Rp (n + 1) 65 [some (.ref 67), some (.int t), some (.int i), some (.int c), some (.int a1), some (.int a2), some (.int o6), some (.int (nI 1))] I := by
  refine xrun_step fun K hs => ?_
  refine And.intro vc ?_
  refine And.intro (fun (z : I 72 c.toNatClampNeg = nI 5) => absurd (hv.symm.trans z) (by decide)) (fun _ => ?_)
  refine And.intro (fun (z : I 72 c.toNatClampNeg = nI 6) => absurd (hv.symm.trans z) (by decide)) (fun _ => ?_)
  refine And.intro (fun (z : I 72 c.toNatClampNeg = nI 7) => absurd (hv.symm.trans z) (by decide)) (fun _ => ?_)
  refine And.intro (fun (z : I 72 c.toNatClampNeg = nI 8) => absurd (hv.symm.trans z) (by decide)) (fun _ => ?_)
  refine And.intro (fun (z : I 72 c.toNatClampNeg = nI 9) => absurd (hv.symm.trans z) (by decide)) (fun _ => ?_)
  refine And.intro (fun _ => ?_) (fun z => absurd hv z)
  refine md_use l (d + 10) ru ta rs I J _ L A hA h a1 a2 (fun I2 J2 f2 m2 => ?_)
  have y := hK I2 J2 f2 m2
  refine And.intro (fun (z : (useS A a1 a2).1 = -1) => ?_) (fun (z : ¬ (useS A a1 a2).1 = -1) => ?_)
  · rw [decide_eq_true z] at y
    exact hs 296 [some (.ref 67), some (.int t), some (.int i), some (.int c), some (.int a1), some (.int a2), some (.int o6), some (.int (b2 (!true)))] [] (shH ru ta rs) I2 J2 0 0 y
  · rw [decide_eq_false z] at y
    exact hs 296 [some (.ref 67), some (.int t), some (.int i), some (.int c), some (.int a1), some (.int a2), some (.int o6), some (.int (b2 (!false)))] [] (shH ru ta rs) I2 J2 0 0 y
