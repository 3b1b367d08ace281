section RUN
variable (l : Launch) (ta : Nat) (rs : List XO) (I : XI) (Rp : XR) (d : Nat)
set_option maxRecDepth 100000 in
set_option maxHeartbeats 4000000 in
theorem ex_run (ru : Nat) (hru : TSP ru) (kk w G st : Nat) (e : List Odr) (b : Bool) (hw : w < 5) (hG : G < 10000) (h2 : I (ru + 2) w = nI st) (h3 : I (ru + 3) w = nI (st + e.length)) (h300 : st + e.length ≤ 300) (hC : Cds (I (ru + 1)) st e) (hT : tyE kk e [] = some [b]) (nm : Nat → Int) (hnm : NMc (I 24) kk nm) (x : Int) (hx : smE nm e [] = [x]) (J : XJ) (hR : ∀ J' : XJ, (∀ q, q ≠ 25 → J' q = J q) → Rp (some (.int (nI (hld x 0 G).toNat))) (shH ru ta rs) I J') : xm l (d + 1) 0 0 mX2_run [.ref 23, .int (nI w), .int (nI G)] (shH ru ta rs) I J Rp := by
  refine xm_ofK (4 * e.length + 1) (X := xxX2) (t := tX2_run) (stop := [24, 88, 125, 449]) (ini := false) xx2 pl2 rfl kX2_run (fun h => by cases h) (Nat.le_of_ble_eq_true rfl) (fun K hK => ?_)
  have vw : vp_in (nI w) 5 := vp_in_nI hw (by omega)
  have cw : (nI w).toNatClampNeg = w := nI_clamp (by omega)
  have g0 : ¬ nI w < nI 0 := nI_nlt (by omega) (by omega)
  have g5 : nI w < nI 5 := nI_lt hw (by omega)
  have lp := rn_loop l ta rs I Rp d ru hru kk w G (st + e.length) hw hG h3 h300 nm hnm J x hR e st [] b [] none none none none none J hC rfl hT trivial trivial (fun _ _ => rfl) (by simp) hx
  have e2 : I (ru + 2) (nI w).toNatClampNeg = nI st := by rw [cw]; exact h2
  dsimp only [rnr, rnL] at lp
  rw [← e2] at lp
  rcases hru with rfl | rfl | rfl | rfl | rfl
  all_goals
    refine And.intro (fun z => absurd z g0) (fun _ => ?_)
    refine And.intro (fun _ => ?_) (fun z => absurd g5 z)
    refine And.intro vw ?_
    exact hK 24 _ [] _ I J 0 0 lp
end RUN
