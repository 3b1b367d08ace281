set_option maxRecDepth 100000 in
set_option maxHeartbeats 2000000 in
theorem mp_13 (l : Launch) (d : Nat) (ru ta : Nat) (rs : List XO) (I : XI) (J : XJ) (Rp : XR) (L : Lws) (A : Ast) (hA : AOK A) (h : MA I L A) (n : Nat) (t i c : Int32) (k : Nat) (hk : k ≤ 10000) (o5 o6 : Int32) (vc : vp_in c 96) (hv : I 72 c.toNatClampNeg = nI 13) (hK : ∀ (I2 : XI) (J2 : XJ), FMl I I2 → MA I2 L (phS L k A) → mpz l d ru ta rs J2 Rp n 296 [some (.ref 67), some (.int t), some (.int i), some (.int c), some (.int (nI k)), some (.int o5), some (.int o6), some (.int ((if phC L k A = k then 1 else 0)))] I2) : mpz l d ru ta rs J Rp (n + 1) 65 [some (.ref 67), some (.int t), some (.int i), some (.int c), some (.int (nI k)), some (.int o5), some (.int o6), some (.int (nI 1))] I := by
  refine xrun_step fun K hs => ?_
  refine And.intro vc ?_
  refine And.intro (fun (z : I 72 c.toNatClampNeg = nI 5) => absurd (hv.symm.trans z) (by decide)) (fun _ => ?_)
  refine And.intro (fun (z : I 72 c.toNatClampNeg = nI 6) => absurd (hv.symm.trans z) (by decide)) (fun _ => ?_)
  refine And.intro (fun (z : I 72 c.toNatClampNeg = nI 7) => absurd (hv.symm.trans z) (by decide)) (fun _ => ?_)
  refine And.intro (fun (z : I 72 c.toNatClampNeg = nI 8) => absurd (hv.symm.trans z) (by decide)) (fun _ => ?_)
  refine And.intro (fun (z : I 72 c.toNatClampNeg = nI 9) => absurd (hv.symm.trans z) (by decide)) (fun _ => ?_)
  refine And.intro (fun (z : I 72 c.toNatClampNeg = nI 10) => absurd (hv.symm.trans z) (by decide)) (fun _ => ?_)
  refine And.intro (fun (z : I 72 c.toNatClampNeg = nI 11) => absurd (hv.symm.trans z) (by decide)) (fun _ => ?_)
  refine And.intro (fun (z : I 72 c.toNatClampNeg = nI 12) => absurd (hv.symm.trans z) (by decide)) (fun _ => ?_)
  refine And.intro (fun _ => ?_) (fun z => absurd hv z)
  refine md_hours l d ru ta rs I J _ L A hA h k hk (fun I2 J2 f2 m2 => ?_)
  exact hs 296 [some (.ref 67), some (.int t), some (.int i), some (.int c), some (.int (nI k)), some (.int o5), some (.int o6), some (.int ((if phC L k A = k then 1 else 0)))] [] (shH ru ta rs) I2 J2 0 0 (hK I2 J2 f2 m2)
