section RUN
variable (l : Launch) (ta : Nat) (rs : List XO) (I : XI) (Rp : XR) (d : Nat)
set_option maxRecDepth 100000 in
set_option maxHeartbeats 16000000 in
theorem rn_24 (ru : Nat) (hru : TSP ru) (gr : Int32) (w top i S a b : Nat) (o5 o6 o7 o9 o11 : Option Value) (n : Nat) (J : XJ) (hw : w < 5) (h64 : top ≤ 64) (hS : I (ru + 3) w = nI S) (hi : i < S) (h300 : S ≤ 300) (hc : I (ru + 1) i = nI (10000 * a + b)) (ha : a ≤ 16) (hb : b < 10000) (nxt : ∀ (x y : Int32) (R L : Int64), x = nI a → y = nI b → (1 ≤ top → R = J 25 (top - 1)) → (2 ≤ top → L = J 25 (top - 2)) → rnr l ru ta rs I Rp d n 125 [some (.ref 23), some (.int (nI w)), some (.int gr), some (.int (nI top)), some (.int (nI i)), some (.int x), some (.int y), some (.long R), none, some (.long L), none, o11, none] J) : rnr l ru ta rs I Rp d (n + 1 + 1) 24 (rnL (nI w) gr top i o5 o6 o7 o9 o11) J := by
  have vw : vp_in (nI w) 5 := vp_in_nI hw (by omega)
  have vi : vp_in (nI i) 300 := vp_in_nI (by omega) (by omega)
  have cw : (nI w).toNatClampNeg = w := nI_clamp (by omega)
  have ci : (nI i).toNatClampNeg = i := nI_clamp (by omega)
  have g0 : ¬ nI i < nI 0 := nI_nlt (by omega) (by omega)
  have gS : ¬ I (ru + 3) (nI w).toNatClampNeg ≤ nI i := by
    rw [cw, hS, Int32.le_iff_toInt_le, nI_toInt (by omega), nI_toInt (by omega)]
    omega
  have g3 : ¬ nI 300 ≤ nI i := by
    rw [Int32.le_iff_toInt_le, nI_toInt (by omega), nI_toInt (by omega)]
    omega
  have ex : I (ru + 1) (nI i).toNatClampNeg / nI 10000 = nI a := by
    rw [ci, hc]
    exact i32_dv ha hb
  have ey : I (ru + 1) (nI i).toNatClampNeg - I (ru + 1) (nI i).toNatClampNeg / nI 10000 * nI 10000 = nI b := by
    rw [ci, hc]
    exact i32_mod ha hb
  have nz : ¬ nI 10000 = 0 := by decide
  rcases hru with rfl | rfl | rfl | rfl | rfl
  all_goals
    refine xrun_step fun K hK => ?_
    refine And.intro (fun z => absurd z g0) (fun _ => ?_)
    refine And.intro vw ?_
    refine And.intro (fun z => absurd z gS) (fun _ => ?_)
    refine And.intro (fun z => absurd z g3) (fun _ => ?_)
    refine And.intro vi ?_
    refine And.intro nz ?_
    refine And.intro vi ?_
    refine And.intro nz ?_
    exact hK 88 [some (.ref 23), some (.int (nI w)), some (.int gr), some (.int (nI top)), some (.int (nI i)), some (.int _), some (.int _), o7, none, o9, none, o11, none] [] _ I J 0 0 (rn_88 l ta rs I Rp d _ gr (nI w) _ _ top i o7 o9 o11 n J h64 (fun R L hR hL => nxt _ _ R L ex ey hR hL))
end RUN
