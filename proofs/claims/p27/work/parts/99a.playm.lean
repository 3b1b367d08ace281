-- ===== played: the reference =====
abbrev mpz (l : Launch) (d : Nat) (ru ta : Nat) (rs : List XO) (J : XJ) (Rp : XR) (n pc : Nat) (lc : List (Option Value)) (I : XI) : Prop := xrun xxX12 (some .int) false false (shH ru ta rs).length 0 0 none l (d + 14) tX12_played [21, 65, 296] Rp n pc lc [] (shH ru ta rs) I J 0 0
set_option maxRecDepth 100000 in
set_option maxHeartbeats 2000000 in
theorem mp_5 (l : Launch) (d : Nat) (ru ta : Nat) (rs : List XO) (I : XI) (J : XJ) (Rp : XR) (L : Lws) (A : Ast) (hA : AOK A) (h : MA I L A) (n : Nat) (t i c : Int32) (a1 a2 a3 : Int32) (vc : vp_in c 96) (hv : I 72 c.toNatClampNeg = nI 5) (hK : ∀ (I2 : XI) (J2 : XJ), FMl I I2 → MA I2 L (thS A a1 a2 a3).2 → mpz l d ru ta rs J2 Rp n 296 [some (.ref 67), some (.int t), some (.int i), some (.int c), some (.int a1), some (.int a2), some (.int a3), some (.int (b2 (!(decide ((thS A a1 a2 a3).1 = -1)))))] I2) : mpz l d ru ta rs J Rp (n + 1) 65 [some (.ref 67), some (.int t), some (.int i), some (.int c), some (.int a1), some (.int a2), some (.int a3), some (.int (nI 1))] I := by
  refine xrun_step fun K hs => ?_
  refine And.intro vc ?_
  refine And.intro (fun _ => ?_) (fun z => absurd hv z)
  refine md_thing l (d + 12) ru ta rs I J _ L A hA h a1 a2 a3 (fun I2 J2 f2 m2 => ?_)
  have y := hK I2 J2 f2 m2
  refine And.intro (fun (z : (thS A a1 a2 a3).1 = -1) => ?_) (fun (z : ¬ (thS A a1 a2 a3).1 = -1) => ?_)
  · rw [decide_eq_true z] at y
    exact hs 296 [some (.ref 67), some (.int t), some (.int i), some (.int c), some (.int a1), some (.int a2), some (.int a3), some (.int (b2 (!true)))] [] (shH ru ta rs) I2 J2 0 0 y
  · rw [decide_eq_false z] at y
    exact hs 296 [some (.ref 67), some (.int t), some (.int i), some (.int c), some (.int a1), some (.int a2), some (.int a3), some (.int (b2 (!false)))] [] (shH ru ta rs) I2 J2 0 0 y
set_option maxRecDepth 100000 in
set_option maxHeartbeats 2000000 in
theorem mp_6 (l : Launch) (d : Nat) (ru ta : Nat) (rs : List XO) (I : XI) (J : XJ) (Rp : XR) (L : Lws) (A : Ast) (hA : AOK A) (h : MA I L A) (n : Nat) (t i c : Int32) (a1 : Int32) (o5 o6 : Int32) (vc : vp_in c 96) (hv : I 72 c.toNatClampNeg = nI 6) (hK : ∀ (I2 : XI) (J2 : XJ), FMl I I2 → MA I2 L (reS A a1).2 → mpz l d ru ta rs J2 Rp n 296 [some (.ref 67), some (.int t), some (.int i), some (.int c), some (.int a1), some (.int o5), some (.int o6), some (.int (b2 (!(decide ((reS A a1).1 = -1)))))] I2) : mpz l d ru ta rs J Rp (n + 1) 65 [some (.ref 67), some (.int t), some (.int i), some (.int c), some (.int a1), some (.int o5), some (.int o6), some (.int (nI 1))] I := by
  refine xrun_step fun K hs => ?_
  refine And.intro vc ?_
  refine And.intro (fun (z : I 72 c.toNatClampNeg = nI 5) => absurd (hv.symm.trans z) (by decide)) (fun _ => ?_)
  refine And.intro (fun _ => ?_) (fun z => absurd hv z)
  refine md_reaper l (d + 12) ru ta rs I J _ L A hA h a1 (fun I2 J2 f2 m2 => ?_)
  have y := hK I2 J2 f2 m2
  refine And.intro (fun (z : (reS A a1).1 = -1) => ?_) (fun (z : ¬ (reS A a1).1 = -1) => ?_)
  · rw [decide_eq_true z] at y
    exact hs 296 [some (.ref 67), some (.int t), some (.int i), some (.int c), some (.int a1), some (.int o5), some (.int o6), some (.int (b2 (!true)))] [] (shH ru ta rs) I2 J2 0 0 y
  · rw [decide_eq_false z] at y
    exact hs 296 [some (.ref 67), some (.int t), some (.int i), some (.int c), some (.int a1), some (.int o5), some (.int o6), some (.int (b2 (!false)))] [] (shH ru ta rs) I2 J2 0 0 y
set_option maxRecDepth 100000 in
set_option maxHeartbeats 2000000 in
theorem mp_7 (l : Launch) (d : Nat) (ru ta : Nat) (rs : List XO) (I : XI) (J : XJ) (Rp : XR) (L : Lws) (A : Ast) (hA : AOK A) (h : MA I L A) (n : Nat) (t i c : Int32) (a1 : Int32) (o5 o6 : Int32) (vc : vp_in c 96) (hv : I 72 c.toNatClampNeg = nI 7) (hK : ∀ (I2 : XI) (J2 : XJ), FMl I I2 → MA I2 L (baS A a1).2 → mpz l d ru ta rs J2 Rp n 296 [some (.ref 67), some (.int t), some (.int i), some (.int c), some (.int a1), some (.int o5), some (.int o6), some (.int (b2 (!(decide ((baS A a1).1 = -1)))))] I2) : mpz l d ru ta rs J Rp (n + 1) 65 [some (.ref 67), some (.int t), some (.int i), some (.int c), some (.int a1), some (.int o5), some (.int o6), some (.int (nI 1))] I := by
  refine xrun_step fun K hs => ?_
  refine And.intro vc ?_
  refine And.intro (fun (z : I 72 c.toNatClampNeg = nI 5) => absurd (hv.symm.trans z) (by decide)) (fun _ => ?_)
  refine And.intro (fun (z : I 72 c.toNatClampNeg = nI 6) => absurd (hv.symm.trans z) (by decide)) (fun _ => ?_)
  refine And.intro (fun _ => ?_) (fun z => absurd hv z)
  refine md_barn l (d + 12) ru ta rs I J _ L A hA h a1 (fun I2 J2 f2 m2 => ?_)
  have y := hK I2 J2 f2 m2
  refine And.intro (fun (z : (baS A a1).1 = -1) => ?_) (fun (z : ¬ (baS A a1).1 = -1) => ?_)
  · rw [decide_eq_true z] at y
    exact hs 296 [some (.ref 67), some (.int t), some (.int i), some (.int c), some (.int a1), some (.int o5), some (.int o6), some (.int (b2 (!true)))] [] (shH ru ta rs) I2 J2 0 0 y
  · rw [decide_eq_false z] at y
    exact hs 296 [some (.ref 67), some (.int t), some (.int i), some (.int c), some (.int a1), some (.int o5), some (.int o6), some (.int (b2 (!false)))] [] (shH ru ta rs) I2 J2 0 0 y
set_option maxRecDepth 100000 in
set_option maxHeartbeats 2000000 in
theorem mp_8 (l : Launch) (d : Nat) (ru ta : Nat) (rs : List XO) (I : XI) (J : XJ) (Rp : XR) (L : Lws) (A : Ast) (hA : AOK A) (h : MA I L A) (n : Nat) (t i c : Int32) (a1 a2 a3 : Int32) (vc : vp_in c 96) (hv : I 72 c.toNatClampNeg = nI 8) (hK : ∀ (I2 : XI) (J2 : XJ), FMl I I2 → MA I2 L (cutS L A a1 a2 a3).2 → mpz l d ru ta rs J2 Rp n 296 [some (.ref 67), some (.int t), some (.int i), some (.int c), some (.int a1), some (.int a2), some (.int a3), some (.int (b2 (!(decide ((cutS L A a1 a2 a3).1 = -1)))))] I2) : mpz l d ru ta rs J Rp (n + 1) 65 [some (.ref 67), some (.int t), some (.int i), some (.int c), some (.int a1), some (.int a2), some (.int a3), some (.int (nI 1))] I := by
  refine xrun_step fun K hs => ?_
  refine And.intro vc ?_
  refine And.intro (fun (z : I 72 c.toNatClampNeg = nI 5) => absurd (hv.symm.trans z) (by decide)) (fun _ => ?_)
  refine And.intro (fun (z : I 72 c.toNatClampNeg = nI 6) => absurd (hv.symm.trans z) (by decide)) (fun _ => ?_)
  refine And.intro (fun (z : I 72 c.toNatClampNeg = nI 7) => absurd (hv.symm.trans z) (by decide)) (fun _ => ?_)
  refine And.intro (fun _ => ?_) (fun z => absurd hv z)
  refine md_cut l (d + 1) ru ta rs I J _ L A hA h a1 a2 a3 (fun I2 J2 f2 m2 => ?_)
  have y := hK I2 J2 f2 m2
  refine And.intro (fun (z : (cutS L A a1 a2 a3).1 = -1) => ?_) (fun (z : ¬ (cutS L A a1 a2 a3).1 = -1) => ?_)
  · rw [decide_eq_true z] at y
    exact hs 296 [some (.ref 67), some (.int t), some (.int i), some (.int c), some (.int a1), some (.int a2), some (.int a3), some (.int (b2 (!true)))] [] (shH ru ta rs) I2 J2 0 0 y
  · rw [decide_eq_false z] at y
    exact hs 296 [some (.ref 67), some (.int t), some (.int i), some (.int c), some (.int a1), some (.int a2), some (.int a3), some (.int (b2 (!false)))] [] (shH ru ta rs) I2 J2 0 0 y
set_option maxRecDepth 100000 in
set_option maxHeartbeats 2000000 in
theorem mp_9 (l : Launch) (d : Nat) (ru ta : Nat) (rs : List XO) (I : XI) (J : XJ) (Rp : XR) (L : Lws) (A : Ast) (hA : AOK A) (h : MA I L A) (n : Nat) (t i c : Int32) (a1 a2 : Int32) (o6 : Int32) (vc : vp_in c 96) (hv : I 72 c.toNatClampNeg = nI 9) (hK : ∀ (I2 : XI) (J2 : XJ), FMl I I2 → MA I2 L (lastS A a1 a2).2 → mpz l d ru ta rs J2 Rp n 296 [some (.ref 67), some (.int t), some (.int i), some (.int c), some (.int a1), some (.int a2), some (.int o6), some (.int (b2 (!(decide ((lastS A a1 a2).1 = -1)))))] I2) : mpz l d ru ta rs J Rp (n + 1) 65 [some (.ref 67), some (.int t), some (.int i), some (.int c), some (.int a1), some (.int a2), some (.int o6), some (.int (nI 1))] I := by
  refine xrun_step fun K hs => ?_
  refine And.intro vc ?_
  refine And.intro (fun (z : I 72 c.toNatClampNeg = nI 5) => absurd (hv.symm.trans z) (by decide)) (fun _ => ?_)
  refine And.intro (fun (z : I 72 c.toNatClampNeg = nI 6) => absurd (hv.symm.trans z) (by decide)) (fun _ => ?_)
  refine And.intro (fun (z : I 72 c.toNatClampNeg = nI 7) => absurd (hv.symm.trans z) (by decide)) (fun _ => ?_)
  refine And.intro (fun (z : I 72 c.toNatClampNeg = nI 8) => absurd (hv.symm.trans z) (by decide)) (fun _ => ?_)
  refine And.intro (fun _ => ?_) (fun z => absurd hv z)
  refine md_last l (d + 10) ru ta rs I J _ L A hA h a1 a2 (fun I2 J2 f2 m2 => ?_)
  have y := hK I2 J2 f2 m2
  refine And.intro (fun (z : (lastS A a1 a2).1 = -1) => ?_) (fun (z : ¬ (lastS A a1 a2).1 = -1) => ?_)
  · rw [decide_eq_true z] at y
    exact hs 296 [some (.ref 67), some (.int t), some (.int i), some (.int c), some (.int a1), some (.int a2), some (.int o6), some (.int (b2 (!true)))] [] (shH ru ta rs) I2 J2 0 0 y
  · rw [decide_eq_false z] at y
    exact hs 296 [some (.ref 67), some (.int t), some (.int i), some (.int c), some (.int a1), some (.int a2), some (.int o6), some (.int (b2 (!false)))] [] (shH ru ta rs) I2 J2 0 0 y
set_option maxRecDepth 100000 in
set_option maxHeartbeats 2000000 in
theorem mp_10 (l : Launch) (d : Nat) (ru ta : Nat) (rs : List XO) (I : XI) (J : XJ) (Rp : XR) (L : Lws) (A : Ast) (hA : AOK A) (h : MA I L A) (n : Nat) (t i c : Int32) (a1 a2 : Int32) (o6 : Int32) (vc : vp_in c 96) (hv : I 72 c.toNatClampNeg = nI 10) (hK : ∀ (I2 : XI) (J2 : XJ), FMl I I2 → MA I2 L (useS A a1 a2).2 → mpz l d ru ta rs J2 Rp n 296 [some (.ref 67), some (.int t), some (.int i), some (.int c), some (.int a1), some (.int a2), some (.int o6), some (.int (b2 (!(decide ((useS A a1 a2).1 = -1)))))] I2) : mpz l d ru ta rs J Rp (n + 1) 65 [some (.ref 67), some (.int t), some (.int i), some (.int c), some (.int a1), some (.int a2), some (.int o6), some (.int (nI 1))] I := by
  refine xrun_step fun K hs => ?_
  refine And.intro vc ?_
  refine And.intro (fun (z : I 72 c.toNatClampNeg = nI 5) => absurd (hv.symm.trans z) (by decide)) (fun _ => ?_)
  refine And.intro (fun (z : I 72 c.toNatClampNeg = nI 6) => absurd (hv.symm.trans z) (by decide)) (fun _ => ?_)
  refine And.intro (fun (z : I 72 c.toNatClampNeg = nI 7) => absurd (hv.symm.trans z) (by decide)) (fun _ => ?_)
  refine And.intro (fun (z : I 72 c.toNatClampNeg = nI 8) => absurd (hv.symm.trans z) (by decide)) (fun _ => ?_)
  refine And.intro (fun (z : I 72 c.toNatClampNeg = nI 9) => absurd (hv.symm.trans z) (by decide)) (fun _ => ?_)
  refine And.intro (fun _ => ?_) (fun z => absurd hv z)
  refine md_use l (d + 10) ru ta rs I J _ L A hA h a1 a2 (fun I2 J2 f2 m2 => ?_)
  have y := hK I2 J2 f2 m2
  refine And.intro (fun (z : (useS A a1 a2).1 = -1) => ?_) (fun (z : ¬ (useS A a1 a2).1 = -1) => ?_)
  · rw [decide_eq_true z] at y
    exact hs 296 [some (.ref 67), some (.int t), some (.int i), some (.int c), some (.int a1), some (.int a2), some (.int o6), some (.int (b2 (!true)))] [] (shH ru ta rs) I2 J2 0 0 y
  · rw [decide_eq_false z] at y
    exact hs 296 [some (.ref 67), some (.int t), some (.int i), some (.int c), some (.int a1), some (.int a2), some (.int o6), some (.int (b2 (!false)))] [] (shH ru ta rs) I2 J2 0 0 y
set_option maxRecDepth 100000 in
set_option maxHeartbeats 2000000 in
theorem mp_11 (l : Launch) (d : Nat) (ru ta : Nat) (rs : List XO) (I : XI) (J : XJ) (Rp : XR) (L : Lws) (A : Ast) (hA : AOK A) (h : MA I L A) (n : Nat) (t i c : Int32) (a1 a2 : Int32) (o6 : Int32) (vc : vp_in c 96) (hv : I 72 c.toNatClampNeg = nI 11) (hK : ∀ (I2 : XI) (J2 : XJ), FMl I I2 → MA I2 L (moveS A a1 a2).2 → mpz l d ru ta rs J2 Rp n 296 [some (.ref 67), some (.int t), some (.int i), some (.int c), some (.int a1), some (.int a2), some (.int o6), some (.int ((moveS A a1 a2).1))] I2) : mpz l d ru ta rs J Rp (n + 1) 65 [some (.ref 67), some (.int t), some (.int i), some (.int c), some (.int a1), some (.int a2), some (.int o6), some (.int (nI 1))] I := by
  refine xrun_step fun K hs => ?_
  refine And.intro vc ?_
  refine And.intro (fun (z : I 72 c.toNatClampNeg = nI 5) => absurd (hv.symm.trans z) (by decide)) (fun _ => ?_)
  refine And.intro (fun (z : I 72 c.toNatClampNeg = nI 6) => absurd (hv.symm.trans z) (by decide)) (fun _ => ?_)
  refine And.intro (fun (z : I 72 c.toNatClampNeg = nI 7) => absurd (hv.symm.trans z) (by decide)) (fun _ => ?_)
  refine And.intro (fun (z : I 72 c.toNatClampNeg = nI 8) => absurd (hv.symm.trans z) (by decide)) (fun _ => ?_)
  refine And.intro (fun (z : I 72 c.toNatClampNeg = nI 9) => absurd (hv.symm.trans z) (by decide)) (fun _ => ?_)
  refine And.intro (fun (z : I 72 c.toNatClampNeg = nI 10) => absurd (hv.symm.trans z) (by decide)) (fun _ => ?_)
  refine And.intro (fun _ => ?_) (fun z => absurd hv z)
  refine md_move l (d + 10) ru ta rs I J _ L A hA h a1 a2 (fun I2 J2 f2 m2 => ?_)
  exact hs 296 [some (.ref 67), some (.int t), some (.int i), some (.int c), some (.int a1), some (.int a2), some (.int o6), some (.int ((moveS A a1 a2).1))] [] (shH ru ta rs) I2 J2 0 0 (hK I2 J2 f2 m2)
set_option maxRecDepth 100000 in
set_option maxHeartbeats 2000000 in
theorem mp_12 (l : Launch) (d : Nat) (ru ta : Nat) (rs : List XO) (I : XI) (J : XJ) (Rp : XR) (L : Lws) (A : Ast) (hA : AOK A) (h : MA I L A) (n : Nat) (t i c : Int32) (a1 : Int32) (o5 o6 : Int32) (vc : vp_in c 96) (hv : I 72 c.toNatClampNeg = nI 12) (hK : ∀ (I2 : XI) (J2 : XJ), FMl I I2 → MA I2 L (sellS L A a1).2 → mpz l d ru ta rs J2 Rp n 296 [some (.ref 67), some (.int t), some (.int i), some (.int c), some (.int a1), some (.int o5), some (.int o6), some (.int (b2 (!(decide ((sellS L A a1).1 = -1)))))] I2) : mpz l d ru ta rs J Rp (n + 1) 65 [some (.ref 67), some (.int t), some (.int i), some (.int c), some (.int a1), some (.int o5), some (.int o6), some (.int (nI 1))] I := by
  refine xrun_step fun K hs => ?_
  refine And.intro vc ?_
  refine And.intro (fun (z : I 72 c.toNatClampNeg = nI 5) => absurd (hv.symm.trans z) (by decide)) (fun _ => ?_)
  refine And.intro (fun (z : I 72 c.toNatClampNeg = nI 6) => absurd (hv.symm.trans z) (by decide)) (fun _ => ?_)
  refine And.intro (fun (z : I 72 c.toNatClampNeg = nI 7) => absurd (hv.symm.trans z) (by decide)) (fun _ => ?_)
  refine And.intro (fun (z : I 72 c.toNatClampNeg = nI 8) => absurd (hv.symm.trans z) (by decide)) (fun _ => ?_)
  refine And.intro (fun (z : I 72 c.toNatClampNeg = nI 9) => absurd (hv.symm.trans z) (by decide)) (fun _ => ?_)
  refine And.intro (fun (z : I 72 c.toNatClampNeg = nI 10) => absurd (hv.symm.trans z) (by decide)) (fun _ => ?_)
  refine And.intro (fun (z : I 72 c.toNatClampNeg = nI 11) => absurd (hv.symm.trans z) (by decide)) (fun _ => ?_)
  refine And.intro (fun _ => ?_) (fun z => absurd hv z)
  refine md_sell l (d + 3) ru ta rs I J _ L A hA h a1 (fun I2 J2 f2 m2 => ?_)
  have y := hK I2 J2 f2 m2
  refine And.intro (fun (z : (sellS L A a1).1 = -1) => ?_) (fun (z : ¬ (sellS L A a1).1 = -1) => ?_)
  · rw [decide_eq_true z] at y
    exact hs 296 [some (.ref 67), some (.int t), some (.int i), some (.int c), some (.int a1), some (.int o5), some (.int o6), some (.int (b2 (!true)))] [] (shH ru ta rs) I2 J2 0 0 y
  · rw [decide_eq_false z] at y
    exact hs 296 [some (.ref 67), some (.int t), some (.int i), some (.int c), some (.int a1), some (.int o5), some (.int o6), some (.int (b2 (!false)))] [] (shH ru ta rs) I2 J2 0 0 y
set_option maxRecDepth 100000 in
set_option maxHeartbeats 2000000 in
theorem mp_13 (l : Launch) (d : Nat) (ru ta : Nat) (rs : List XO) (I : XI) (J : XJ) (Rp : XR) (L : Lws) (A : Ast) (hA : AOK A) (h : MA I L A) (n : Nat) (t i c : Int32) (k : Nat) (hk : k ≤ 10000) (o5 o6 : Int32) (vc : vp_in c 96) (hv : I 72 c.toNatClampNeg = nI 13) (hK : ∀ (I2 : XI) (J2 : XJ), FMl I I2 → MA I2 L (phS L k A) → mpz l d ru ta rs J2 Rp n 296 [some (.ref 67), some (.int t), some (.int i), some (.int c), some (.int (nI k)), some (.int o5), some (.int o6), some (.int ((if phC L k A = k then 1 else 0)))] I2) : mpz l d ru ta rs J Rp (n + 1) 65 [some (.ref 67), some (.int t), some (.int i), some (.int c), some (.int (nI k)), some (.int o5), some (.int o6), some (.int (nI 1))] I := by
  refine xrun_step fun K hs => ?_
  refine And.intro vc ?_
  refine And.intro (fun (z : I 72 c.toNatClampNeg = nI 5) => absurd (hv.symm.trans z) (by decide)) (fun _ => ?_)
  refine And.intro (fun (z : I 72 c.toNatClampNeg = nI 6) => absurd (hv.symm.trans z) (by decide)) (fun _ => ?_)
  refine And.intro (fun (z : I 72 c.toNatClampNeg = nI 7) => absurd (hv.symm.trans z) (by decide)) (fun _ => ?_)
  refine And.intro (fun (z : I 72 c.toNatClampNeg = nI 8) => absurd (hv.symm.trans z) (by decide)) (fun _ => ?_)
  refine And.intro (fun (z : I 72 c.toNatClampNeg = nI 9) => absurd (hv.symm.trans z) (by decide)) (fun _ => ?_)
  refine And.intro (fun (z : I 72 c.toNatClampNeg = nI 10) => absurd (hv.symm.trans z) (by decide)) (fun _ => ?_)
  refine And.intro (fun (z : I 72 c.toNatClampNeg = nI 11) => absurd (hv.symm.trans z) (by decide)) (fun _ => ?_)
  refine And.intro (fun (z : I 72 c.toNatClampNeg = nI 12) => absurd (hv.symm.trans z) (by decide)) (fun _ => ?_)
  refine And.intro (fun _ => ?_) (fun z => absurd hv z)
  refine md_hours l d ru ta rs I J _ L A hA h k hk (fun I2 J2 f2 m2 => ?_)
  exact hs 296 [some (.ref 67), some (.int t), some (.int i), some (.int c), some (.int (nI k)), some (.int o5), some (.int o6), some (.int ((if phC L k A = k then 1 else 0)))] [] (shH ru ta rs) I2 J2 0 0 (hK I2 J2 f2 m2)
set_option maxRecDepth 100000 in
set_option maxHeartbeats 2000000 in
theorem mp_0 (l : Launch) (d : Nat) (ru ta : Nat) (rs : List XO) (I : XI) (J : XJ) (Rp : XR) (L : Lws) (A : Ast) (hA : AOK A) (h : MA I L A) (n : Nat) (t i c : Int32) (o4 o5 o6 : Option Value) (vc : vp_in c 96) (w : Nat) (w4 : w ≤ 4) (hv : I 72 c.toNatClampNeg = nI w) (hK : mpz l d ru ta rs J Rp n 296 [some (.ref 67), some (.int t), some (.int i), some (.int c), o4, o5, o6, some (.int (nI 1))] I) : mpz l d ru ta rs J Rp (n + 1) 65 [some (.ref 67), some (.int t), some (.int i), some (.int c), o4, o5, o6, some (.int (nI 1))] I := by
  have ne : ∀ k : Nat, 4 < k → k < 14 → ¬ I 72 c.toNatClampNeg = nI k := fun k h4 h14 z => by
    have := nI_inj (hv.symm.trans z) (by omega) (by omega)
    omega
  refine xrun_step fun K hs => ?_
  refine And.intro vc ?_
  refine And.intro (fun (z : I 72 c.toNatClampNeg = nI 5) => absurd z (ne 5 (by decide) (by decide))) (fun _ => ?_)
  refine And.intro (fun (z : I 72 c.toNatClampNeg = nI 6) => absurd z (ne 6 (by decide) (by decide))) (fun _ => ?_)
  refine And.intro (fun (z : I 72 c.toNatClampNeg = nI 7) => absurd z (ne 7 (by decide) (by decide))) (fun _ => ?_)
  refine And.intro (fun (z : I 72 c.toNatClampNeg = nI 8) => absurd z (ne 8 (by decide) (by decide))) (fun _ => ?_)
  refine And.intro (fun (z : I 72 c.toNatClampNeg = nI 9) => absurd z (ne 9 (by decide) (by decide))) (fun _ => ?_)
  refine And.intro (fun (z : I 72 c.toNatClampNeg = nI 10) => absurd z (ne 10 (by decide) (by decide))) (fun _ => ?_)
  refine And.intro (fun (z : I 72 c.toNatClampNeg = nI 11) => absurd z (ne 11 (by decide) (by decide))) (fun _ => ?_)
  refine And.intro (fun (z : I 72 c.toNatClampNeg = nI 12) => absurd z (ne 12 (by decide) (by decide))) (fun _ => ?_)
  refine And.intro (fun (z : I 72 c.toNatClampNeg = nI 13) => absurd z (ne 13 (by decide) (by decide))) (fun _ => ?_)
  exact hs 296 [some (.ref 67), some (.int t), some (.int i), some (.int c), o4, o5, o6, some (.int (nI 1))] [] (shH ru ta rs) I J 0 0 hK
set_option maxRecDepth 100000 in
set_option maxHeartbeats 2000000 in
theorem mp_fin (l : Launch) (d : Nat) (ru ta : Nat) (rs : List XO) (I : XI) (J : XJ) (Rp : XR) (n : Nat) (t i : Int32) (o3 o4 o5 o6 : Option Value) (b : Bool) (hT : b = true → mpz l d ru ta rs J Rp n 21 [some (.ref 67), some (.int t), some (.int (i + 1)), o3, o4, o5, o6, some (.int (b2 true))] I) (hF : b = false → Rp (some (.int i)) (shH ru ta rs) I J) : mpz l d ru ta rs J Rp (n + 1) 296 [some (.ref 67), some (.int t), some (.int i), o3, o4, o5, o6, some (.int (b2 b))] I := by
  refine xrun_step fun K hs => ?_
  cases b with
  | true =>
    refine And.intro (fun _ => ?_) (fun z => absurd (show b2 true = 0 from z) (by decide))
    exact hs 21 [some (.ref 67), some (.int t), some (.int (i + 1)), o3, o4, o5, o6, some (.int (b2 true))] [] (shH ru ta rs) I J 0 0 (hT rfl)
  | false =>
    refine And.intro (fun z => absurd (show b2 false = 0 from rfl) z) (fun _ => ?_)
    exact hF rfl
theorem doS_0 (L : Lws) (A : Ast) (D : List Nat) (w : Nat) (hw : w ≤ 4) : doS L A w D = (true, A) := by
  match w, hw with
  | 0, _ => rfl
  | 1, _ => rfl
  | 2, _ => rfl
  | 3, _ => rfl
  | 4, _ => rfl
theorem b2_mv (A : Ast) (x y : Int32) : (moveS A x y).1 = b2 (decide ((moveS A x y).1 = 1)) := by
  rcases mv_01 (A := A) (x := x) (y := y) with e | e
  · rw [e]
    rfl
  · rw [e]
    rfl
theorem b2_ph (L : Lws) (k : Nat) (A : Ast) : (if phC L k A = k then (1 : Int32) else 0) = b2 (decide (phC L k A = k)) := by
  by_cases e : phC L k A = k
  · rw [if_pos e, decide_eq_true e]
    rfl
  · rw [if_neg e, decide_eq_false e]
    rfl
theorem dS1_5 (L : Lws) (A : Ast) (D : List Nat) : b2 (doS L A 5 D).1 = b2 (!(decide ((thS A (aD D 0) (aD D 1) (aD D 2)).1 = -1))) := congrArg (fun x : Bool × Ast => b2 x.1) (dSe_5 L A D)
theorem dS2_5 (L : Lws) (A : Ast) (D : List Nat) : (doS L A 5 D).2 = (thS A (aD D 0) (aD D 1) (aD D 2)).2 := congrArg Prod.snd (dSe_5 L A D)
theorem dS1_6 (L : Lws) (A : Ast) (D : List Nat) : b2 (doS L A 6 D).1 = b2 (!(decide ((reS A (aD D 0)).1 = -1))) := congrArg (fun x : Bool × Ast => b2 x.1) (dSe_6 L A D)
theorem dS2_6 (L : Lws) (A : Ast) (D : List Nat) : (doS L A 6 D).2 = (reS A (aD D 0)).2 := congrArg Prod.snd (dSe_6 L A D)
theorem dS1_7 (L : Lws) (A : Ast) (D : List Nat) : b2 (doS L A 7 D).1 = b2 (!(decide ((baS A (aD D 0)).1 = -1))) := congrArg (fun x : Bool × Ast => b2 x.1) (dSe_7 L A D)
theorem dS2_7 (L : Lws) (A : Ast) (D : List Nat) : (doS L A 7 D).2 = (baS A (aD D 0)).2 := congrArg Prod.snd (dSe_7 L A D)
theorem dS1_8 (L : Lws) (A : Ast) (D : List Nat) : b2 (doS L A 8 D).1 = b2 (!(decide ((cutS L A (aD D 0) (aD D 1) (aD D 2)).1 = -1))) := congrArg (fun x : Bool × Ast => b2 x.1) (dSe_8 L A D)
theorem dS2_8 (L : Lws) (A : Ast) (D : List Nat) : (doS L A 8 D).2 = (cutS L A (aD D 0) (aD D 1) (aD D 2)).2 := congrArg Prod.snd (dSe_8 L A D)
theorem dS1_9 (L : Lws) (A : Ast) (D : List Nat) : b2 (doS L A 9 D).1 = b2 (!(decide ((lastS A (aD D 0) (aD D 1)).1 = -1))) := congrArg (fun x : Bool × Ast => b2 x.1) (dSe_9 L A D)
theorem dS2_9 (L : Lws) (A : Ast) (D : List Nat) : (doS L A 9 D).2 = (lastS A (aD D 0) (aD D 1)).2 := congrArg Prod.snd (dSe_9 L A D)
theorem dS1_10 (L : Lws) (A : Ast) (D : List Nat) : b2 (doS L A 10 D).1 = b2 (!(decide ((useS A (aD D 0) (aD D 1)).1 = -1))) := congrArg (fun x : Bool × Ast => b2 x.1) (dSe_10 L A D)
theorem dS2_10 (L : Lws) (A : Ast) (D : List Nat) : (doS L A 10 D).2 = (useS A (aD D 0) (aD D 1)).2 := congrArg Prod.snd (dSe_10 L A D)
theorem dS1_11 (L : Lws) (A : Ast) (D : List Nat) : b2 (doS L A 11 D).1 = (moveS A (aD D 0) (aD D 1)).1 := (congrArg (fun x : Bool × Ast => b2 x.1) (dSe_11 L A D)).trans ((b2_mv A _ _).symm)
theorem dS2_11 (L : Lws) (A : Ast) (D : List Nat) : (doS L A 11 D).2 = (moveS A (aD D 0) (aD D 1)).2 := congrArg Prod.snd (dSe_11 L A D)
theorem dS1_12 (L : Lws) (A : Ast) (D : List Nat) : b2 (doS L A 12 D).1 = b2 (!(decide ((sellS L A (aD D 0)).1 = -1))) := congrArg (fun x : Bool × Ast => b2 x.1) (dSe_12 L A D)
theorem dS2_12 (L : Lws) (A : Ast) (D : List Nat) : (doS L A 12 D).2 = (sellS L A (aD D 0)).2 := congrArg Prod.snd (dSe_12 L A D)
theorem dS1_13 (L : Lws) (A : Ast) (D : List Nat) : b2 (doS L A 13 D).1 = (if phC L (D.getD 0 0) A = D.getD 0 0 then (1 : Int32) else 0) := (congrArg (fun x : Bool × Ast => b2 x.1) (dSe_13 L A D)).trans ((b2_ph L _ A).symm)
theorem dS2_13 (L : Lws) (A : Ast) (D : List Nat) : (doS L A 13 D).2 = phS L (D.getD 0 0) A := congrArg Prod.snd (dSe_13 L A D)
set_option maxRecDepth 100000 in
set_option maxHeartbeats 2000000 in
theorem mp_all (l : Launch) (d : Nat) (ru ta : Nat) (rs : List XO) (I : XI) (J : XJ) (Rp : XR) (L : Lws) (A : Ast) (hA : AOK A) (h : MA I L A) (n : Nat) (t i c : Int32) (x y z : Int32) (vc : vp_in c 96) (w : Nat) (w13 : w ≤ 13) (hv : I 72 c.toNatClampNeg = nI w) (D : List Nat) (hD : 4 < w → D.length = (fmS w).length) (dm : ∀ y, y ∈ D → y ≤ 10000) (ex : NU3 D x y z) (hK : ∀ (I2 : XI) (J2 : XJ), FMl I I2 → MA I2 L (doS L A w D).2 → mpz l d ru ta rs J2 Rp n 296 [some (.ref 67), some (.int t), some (.int i), some (.int c), some (.int x), some (.int y), some (.int z), some (.int (b2 (doS L A w D).1))] I2) : mpz l d ru ta rs J Rp (n + 1) 65 [some (.ref 67), some (.int t), some (.int i), some (.int c), some (.int x), some (.int y), some (.int z), some (.int (nI 1))] I := by
  by_cases w4 : w ≤ 4
  · rw [doS_0 L A D w w4] at hK
    exact mp_0 l d ru ta rs I J Rp L A hA h n t i c _ _ _ vc w w4 hv (hK I J FMl.rf h)
  have yw : w = 5 ∨ w = 6 ∨ w = 7 ∨ w = 8 ∨ w = 9 ∨ w = 10 ∨ w = 11 ∨ w = 12 ∨ w = 13 := by omega
  rcases yw with rfl | rfl | rfl | rfl | rfl | rfl | rfl | rfl | rfl
  · have hl : D.length = 3 := hD (by decide)
    have x1 : x = aD D 0 := ex.1 (by omega)
    have x2 : y = aD D 1 := ex.2.1 (by omega)
    have x3 : z = aD D 2 := ex.2.2 (by omega)
    clear ex
    subst x1
    subst x2
    subst x3
    rw [dS1_5, dS2_5] at hK
    exact mp_5 l d ru ta rs I J Rp L A hA h n t i c (aD D 0) (aD D 1) (aD D 2)  vc hv hK
  · have hl : D.length = 1 := hD (by decide)
    have x1 : x = aD D 0 := ex.1 (by omega)
    clear ex
    subst x1
    rw [dS1_6, dS2_6] at hK
    exact mp_6 l d ru ta rs I J Rp L A hA h n t i c (aD D 0) _ _ vc hv hK
  · have hl : D.length = 1 := hD (by decide)
    have x1 : x = aD D 0 := ex.1 (by omega)
    clear ex
    subst x1
    rw [dS1_7, dS2_7] at hK
    exact mp_7 l d ru ta rs I J Rp L A hA h n t i c (aD D 0) _ _ vc hv hK
  · have hl : D.length = 3 := hD (by decide)
    have x1 : x = aD D 0 := ex.1 (by omega)
    have x2 : y = aD D 1 := ex.2.1 (by omega)
    have x3 : z = aD D 2 := ex.2.2 (by omega)
    clear ex
    subst x1
    subst x2
    subst x3
    rw [dS1_8, dS2_8] at hK
    exact mp_8 l d ru ta rs I J Rp L A hA h n t i c (aD D 0) (aD D 1) (aD D 2)  vc hv hK
  · have hl : D.length = 2 := hD (by decide)
    have x1 : x = aD D 0 := ex.1 (by omega)
    have x2 : y = aD D 1 := ex.2.1 (by omega)
    clear ex
    subst x1
    subst x2
    rw [dS1_9, dS2_9] at hK
    exact mp_9 l d ru ta rs I J Rp L A hA h n t i c (aD D 0) (aD D 1) _ vc hv hK
  · have hl : D.length = 2 := hD (by decide)
    have x1 : x = aD D 0 := ex.1 (by omega)
    have x2 : y = aD D 1 := ex.2.1 (by omega)
    clear ex
    subst x1
    subst x2
    rw [dS1_10, dS2_10] at hK
    exact mp_10 l d ru ta rs I J Rp L A hA h n t i c (aD D 0) (aD D 1) _ vc hv hK
  · have hl : D.length = 2 := hD (by decide)
    have x1 : x = aD D 0 := ex.1 (by omega)
    have x2 : y = aD D 1 := ex.2.1 (by omega)
    clear ex
    subst x1
    subst x2
    rw [dS1_11, dS2_11] at hK
    exact mp_11 l d ru ta rs I J Rp L A hA h n t i c (aD D 0) (aD D 1) _ vc hv hK
  · have hl : D.length = 1 := hD (by decide)
    have x1 : x = aD D 0 := ex.1 (by omega)
    clear ex
    subst x1
    rw [dS1_12, dS2_12] at hK
    exact mp_12 l d ru ta rs I J Rp L A hA h n t i c (aD D 0) _ _ vc hv hK
  · have hl : D.length = 1 := hD (by decide)
    have x1 : x = aD D 0 := ex.1 (by omega)
    clear ex
    subst x1
    rw [dS1_13, dS2_13] at hK
    have hk : D.getD 0 0 ≤ 10000 := dm _ (getD_mem (by omega))
    exact mp_13 l d ru ta rs I J Rp L A hA h n t i c (D.getD 0 0) hk _ _ vc hv hK
set_option maxRecDepth 100000 in
set_option maxHeartbeats 4000000 in
theorem md_pl_loop (l : Launch) (d t : Nat) (ht : t < 4) (ru ta : Nat) (rs : List XO) (I : XI) (Rp : XR) (L : Lws) (x : Txt) (c : Nat) (g : GT (47 + 5 * t) I (tqW x) c (tqE x) (tqA x)) (db : DNb (tqA x)) (rt : RTx t I I (tqW x) (tqE x) (tqA x)) (V : Int32 × Ast) (hR : ∀ (I' : XI) (J' : XJ), FMl I I' → MA I' L V.2 → Rp (some (.int V.1)) (shH ru ta rs) I' J') : ∀ (m i n : Nat) (J : XJ) (I1 : XI) (A : Ast) (o3 o4 o5 o6 o7 : Option Value), i + m = (tqW x).length → 3 * m < n → FMl I I1 → AOK A → MA I1 L A → plS L x m i A = V → mpz l d ru ta rs J Rp n 21 [some (.ref 67), some (.int (nI t)), some (.int (nI i)), o3, o4, o5, o6, o7] I1 := by
  obtain ⟨⟨h24, _, _⟩, r71, rc, _⟩ := rt
  have vt : vp_in (nI t) 4 := vp_in_nI ht (by omega)
  have it : (nI t).toNatClampNeg = t := nI_clamp (by omega)
  intro m
  induction m with
  | zero =>
    intro i n J I1 A o3 o4 o5 o6 o7 hi hn f hA h eV
    obtain ⟨n, rfl⟩ : ∃ n', n = n' + 1 := ⟨n - 1, by omega⟩
    have hi : i = (tqW x).length := by omega
    have e71 : I1 71 (nI t).toNatClampNeg = nI (tqW x).length := by rw [it, f.1 71 (by decide) (by decide) (by decide)]; exact r71
    have e : V = (-1, A) := eV.symm
    rw [e] at hR
    refine xrun_step fun K hK => ?_
    refine And.intro vt ?_
    refine And.intro (fun _ => ?_) (fun z => absurd (show I1 71 (nI t).toNatClampNeg ≤ nI i from by rw [e71, hi]; exact Int32.le_refl _) z)
    exact hR I1 J f h
  | succ m ih =>
    intro i n J I1 A o3 o4 o5 o6 o7 hi hn f hA h eV
    obtain ⟨n, rfl⟩ : ∃ n', n = n' + 1 + 1 + 1 := ⟨n - 3, by omega⟩
    have cl := g.2 i (by omega)
    have e71 : I1 71 (nI t).toNatClampNeg = nI (tqW x).length := by rw [it, f.1 71 (by decide) (by decide) (by decide)]; exact r71
    have em : nI 24 * nI t + nI i = nI (24 * t + i) := by rw [nI_mul, nI_add]
    have ix : (nI 24 * nI t + nI i).toNatClampNeg = 24 * t + i := by rw [em]; exact nI_clamp (by omega)
    have vx : vp_in (nI 24 * nI t + nI i) 96 := by rw [em]; exact vp_in_nI (by omega) (by omega)
    obtain ⟨q72, _, q74⟩ := rc i (by omega)
    have e72 : I1 72 (nI 24 * nI t + nI i).toNatClampNeg = nI ((tqW x).getD i 0) := by rw [ix, f.1 72 (by decide) (by decide) (by decide)]; exact q72
    have e74 : NU3 ((tqA x).getD i (0, [])).2 (I1 74 (nI 24 * nI t + nI i).toNatClampNeg) (I1 75 (nI 24 * nI t + nI i).toNatClampNeg) (I1 76 (nI 24 * nI t + nI i).toNatClampNeg) := by
      rw [ix, f.1 74 (by decide) (by decide) (by decide), f.1 75 (by decide) (by decide) (by decide), f.1 76 (by decide) (by decide) (by decide)]
      exact q74
    have dm : ∀ y, y ∈ ((tqA x).getD i (0, [])).2 → y ≤ 10000 := fun y hy => by
      refine db _ ?_ y hy
      rw [List.getD_eq_getElem?_getD, List.getElem?_eq_getElem (by rw [g.1]; omega)]
      exact List.getElem_mem _
    have g1 : ¬ I1 71 (nI t).toNatClampNeg ≤ nI i := by rw [e71]; exact nI_ge (by omega) (by omega)
    have nx := hA.doS (L := L) ((tqW x).getD i 0) ((tqA x).getD i (0, [])).2
    have eV2 : (if (doS L A ((tqW x).getD i 0) ((tqA x).getD i (0, [])).2).1 = true then plS L x m (i + 1) (doS L A ((tqW x).getD i 0) ((tqA x).getD i (0, [])).2).2 else (nI i, (doS L A ((tqW x).getD i 0) ((tqA x).getD i (0, [])).2).2)) = V := eV
    have hl : 4 < (tqW x).getD i 0 → ((tqA x).getD i (0, [])).2.length = (fmS ((tqW x).getD i 0)).length := fun q => (cl.2.2.2 q).1
    have w13 := cl.1
    generalize (tqW x).getD i 0 = w at e72 nx eV2 hl w13
    generalize ((tqA x).getD i (0, [])).2 = D at e74 dm nx eV2 hl
    have nxt := mp_all l d ru ta rs I1 J Rp L A hA h (n + 1) (nI t) (nI i) (nI 24 * nI t + nI i) _ _ _ vx w w13 e72 D hl dm e74 (fun I2 J2 f2 m2 => by
      refine mp_fin l d ru ta rs I2 J2 Rp n (nI t) (nI i) _ _ _ _ (doS L A w D).1 (fun e => ?_) (fun e => ?_)
      · rw [e, if_pos rfl] at eV2
        rw [nI_1]
        exact ih (i + 1) n J2 I2 _ _ _ _ _ _ (by omega) (by omega) (f.tr f2) nx m2 eV2
      · rw [e, if_neg (by decide)] at eV2
        have z := hR I2 J2 (f.tr f2) (by rw [← eV2]; exact m2)
        rw [← eV2] at z
        exact z)
    refine xrun_step fun K hK => ?_
    refine And.intro vt ?_
    refine And.intro (fun z => absurd z g1) (fun _ => ?_)
    refine And.intro vx ?_
    refine And.intro vx ?_
    refine And.intro vx ?_
    exact hK 65 _ [] (shH ru ta rs) I1 J 0 0 nxt
set_option maxRecDepth 100000 in
set_option maxHeartbeats 4000000 in
theorem md_played (l : Launch) (d : Nat) (ru ta : Nat) (rs : List XO) (I1 : XI) (J : XJ) (Rp : XR) {I : XI} (TX : Nat → Txt) (H Hi : Hlf) (hg : GRx I TX H Hi) (fc : FCl I I1) (x : Int32) (hR : ∀ (I' : XI) (J' : XJ), FMl I1 I' → MA I' (lwO TX (hvR H)) (pdS TX H x).2 → Rp (some (.int (pdS TX H x).1)) (shH ru ta rs) I' J') : xm l (d + 15) 0 0 mX12_played [.ref 67, .int x] (shH ru ta rs) I1 J Rp := by
  have m4 := hg.1.1.2.1
  have em : I1 68 3 = nI (hvM H) := (congrFun (fc 68 (by decide) (by decide) (by decide) (by decide) (by decide)) 3).trans hg.2.2.2.2.1.1.2.2.1
  refine xm_ofK 100 (X := xxX12) (t := tX12_played) (stop := [21, 65, 296]) (ini := false) xx12 pl12 rfl kX12_played (fun h => by cases h) (Nat.le_of_ble_eq_true rfl) (fun K hK => ?_)
  refine And.intro (show vp_in (nI 3) 2200 from vp_b (by decide)) ?_
  refine md_in l (d + 13) x (nI 0) (I1 68 3 - nI 1) _ _ _ _ (fun z => ?_) (fun z => ?_)
  · rw [em] at z
    have hv := (in_v (by omega)).mp z
    refine And.intro (fun _ => ?_) (fun z => absurd (show (1 : Int32) = 0 from z) (by decide))
    obtain ⟨t, ht, ex, ex2⟩ := vIn_t (by omega) hv
    have eS : pdS TX H x = plS (lwO TX (hvR H)) (TX t) (tqW (TX t)).length 0 (hvA H) := by
      unfold pdS
      rw [hv, if_pos rfl, ex2]
    have tx := (hg.2.1.1 t ht).keep (I' := I1) (by omega) (fun q hq => fc q (by omega) (by omega) (by omega) (by omega) (by omega))
    obtain ⟨⟨c, c3, g, e5, db⟩, r, _⟩ := tx
    have lp := md_pl_loop l d t (by omega) ru ta rs I1 Rp (lwO TX (hvR H)) (TX t) c g db r _ hR (tqW (TX t)).length 0 100 J I1 (hvA H) none none none none none (by omega) (by have := r.1.1; omega) FMl.rf hg.1.1.1 (hg.ma.fc fc) eS.symm
    subst ex
    exact hK 21 [some (.ref 67), some (.int (nI t)), some (.int (nI 0)), none, none, none, none, none] [] (shH ru ta rs) I1 J 0 0 lp
  · rw [em] at z
    refine And.intro (fun z => absurd rfl z) (fun _ => ?_)
    have hv : vIn x (hvM H) = false := by
      cases e : vIn x (hvM H) with
      | false => rfl
      | true => exact absurd ((in_v (by omega)).mpr e) z
    have eS : pdS TX H x = (nI 0 - nI 2, hvA H) := by
      unfold pdS
      rw [hv]
      rfl
    rw [eS] at hR
    exact hR I1 J FMl.rf (hg.ma.fc fc)
