-- ===== the class: what a law says =====
def hld (v lo hi : Int) : Int := if v < lo then lo else if hi < v then hi else v
theorem i32_dv {a b : Nat} (ha : a ≤ 16) (hb : b < 10000) : nI (10000 * a + b) / nI 10000 = nI a := by
  apply Int32.toInt_inj.mp
  rw [Int32.toInt_div_of_ne_right _ _ (by decide), nI_toInt (by omega), nI_toInt (by omega), nI_toInt (by omega)]
  rw [Int.tdiv_eq_ediv_of_nonneg (by omega)]
  omega
theorem i32_mod {a b : Nat} (ha : a ≤ 16) (hb : b < 10000) : nI (10000 * a + b) - nI (10000 * a + b) / nI 10000 * nI 10000 = nI b := by
  rw [i32_dv ha hb, nI_mul, show a * 10000 = 10000 * a by omega, nI_subI (by omega) (by omega), show 10000 * a + b - 10000 * a = b by omega]
/-- the class's operation and its number -/
def opa (o : Odr) : Nat := if o.1 = 400 then 0 else if o.1 = 401 then 1 else if o.1 = 403 then 3 else opc o.1
def opb (o : Odr) : Nat := if o.1 = 400 then o.2 else if o.1 = 401 then rnm o.2 else if o.1 = 403 then o.2 else 0
theorem ccd_if (o : Odr) : ccd o = if o.1 = 400 then nI o.2 else if o.1 = 401 then nI (10000 + rnm o.2) else if o.1 = 403 then nI (30000 + o.2) else nI (10000 * opc o.1) := by
  unfold ccd
  split <;> simp_all
theorem ccd_ab (o : Odr) : ccd o = nI (10000 * opa o + opb o) := by
  rw [ccd_if]
  unfold opa opb
  by_cases h1 : o.1 = 400
  · rw [if_pos h1, if_pos h1, if_pos h1, Nat.mul_zero, Nat.zero_add]
  · rw [if_neg h1, if_neg h1, if_neg h1]
    by_cases h2 : o.1 = 401
    · rw [if_pos h2, if_pos h2, if_pos h2]
    · rw [if_neg h2, if_neg h2, if_neg h2]
      by_cases h3 : o.1 = 403
      · rw [if_pos h3, if_pos h3, if_pos h3]
      · rw [if_neg h3, if_neg h3, if_neg h3, Nat.add_zero]
theorem bnd_id {v : Int} (h : inM v) : bnd v = v := by
  unfold bnd
  have := h.1
  have := h.2
  rw [if_neg (by omega), if_neg (by omega)]
theorem cl_bnd (v : Int64) : (if (if v < 1000000 then v else 1000000) < -1000000 then (-1000000 : Int64) else (if v < 1000000 then v else 1000000)).toInt = bnd v.toInt := by
  unfold bnd
  by_cases a : v < 1000000
  · have a2 := Int64.lt_iff_toInt_lt.mp a
    rw [i64_M] at a2
    rw [if_pos a, if_neg (show ¬ 1000000 < v.toInt by omega)]
    by_cases b : v < -1000000
    · have b2 := Int64.lt_iff_toInt_lt.mp b
      rw [i64_mM] at b2
      rw [if_pos b, if_pos b2, i64_mM]
    · have b2 : ¬ v.toInt < (-1000000 : Int64).toInt := fun z => b (Int64.lt_iff_toInt_lt.mpr z)
      rw [i64_mM] at b2
      rw [if_neg b, if_neg b2]
  · have a2 : ¬ v.toInt < (1000000 : Int64).toInt := fun z => a (Int64.lt_iff_toInt_lt.mpr z)
    rw [i64_M] at a2
    rw [if_neg a, if_neg (show ¬ (1000000 : Int64) < -1000000 by decide), i64_M]
    by_cases c : 1000000 < v.toInt
    · rw [if_pos c]
    · rw [if_neg c, if_neg (by omega)]
      omega
theorem cl_hld (v : Int64) (G : Nat) (hG : G < 10000) : (if (if v < (nI G).toInt64 then v else (nI G).toInt64) < 0 then (0 : Int64) else (if v < (nI G).toInt64 then v else (nI G).toInt64)).toInt32 = nI (hld v.toInt 0 G).toNat := by
  have eg : (nI G).toInt64.toInt = (G : Int) := nI_i64 (by omega)
  have key : ∀ x : Int64, x.toInt = hld v.toInt 0 G → x.toInt32 = nI (hld v.toInt 0 G).toNat := fun x hx => by
    have b : 0 ≤ hld v.toInt 0 G ∧ hld v.toInt 0 G ≤ G := by
      unfold hld
      split
      · exact ⟨by omega, by omega⟩
      · split
        · exact ⟨by omega, by omega⟩
        · exact ⟨by omega, by omega⟩
    apply Int32.toInt_inj.mp
    rw [nI_toInt (by omega), Int64.toInt_toInt32, hx, Int.bmod_eq_of_le (by omega) (by omega)]
    omega
  refine key _ ?_
  unfold hld
  by_cases a : v < (nI G).toInt64
  · have a2 := Int64.lt_iff_toInt_lt.mp a
    rw [eg] at a2
    rw [if_pos a]
    by_cases b : v < 0
    · have b2 := Int64.lt_iff_toInt_lt.mp b
      rw [i64_0] at b2
      rw [if_pos b, if_pos b2, i64_0]
    · have b2 : ¬ v.toInt < (0 : Int64).toInt := fun z => b (Int64.lt_iff_toInt_lt.mpr z)
      rw [i64_0] at b2
      rw [if_neg b, if_neg b2, if_neg (by omega)]
  · have a2 : ¬ v.toInt < (nI G).toInt64.toInt := fun z => a (Int64.lt_iff_toInt_lt.mpr z)
    rw [eg] at a2
    have c : ¬ (nI G).toInt64 < 0 := fun z => by
      have z := Int64.lt_iff_toInt_lt.mp z
      rw [eg, i64_0] at z
      omega
    rw [if_neg a, if_neg c, eg, if_neg (by omega)]
    split
    · rfl
    · omega
theorem VT_b01 {x : Int} (h : x = 0 ∨ x = 1) : inM x := by
  rcases h with rfl | rfl
  · exact ⟨by omega, by omega⟩
  · exact ⟨by omega, by omega⟩
theorem i64_b {x : Int64} (h : x.toInt = 0 ∨ x.toInt = 1) : x = 0 ∨ x = 1 := by
  rcases h with h | h
  · exact Or.inl (Int64.toInt_inj.mp (h.trans i64_0.symm))
  · exact Or.inr (Int64.toInt_inj.mp (h.trans i64_1.symm))
theorem bit_406 {x y : Int64} (hx : x.toInt = 0 ∨ x.toInt = 1) (hy : y.toInt = 0 ∨ y.toInt = 1) : (x &&& y).toInt = wrk 406 x.toInt y.toInt := by
  rcases i64_b hx with rfl | rfl <;> rcases i64_b hy with rfl | rfl <;> decide
theorem bit_407 {x y : Int64} (hx : x.toInt = 0 ∨ x.toInt = 1) (hy : y.toInt = 0 ∨ y.toInt = 1) : (x ||| y).toInt = wrk 407 x.toInt y.toInt := by
  rcases i64_b hx with rfl | rfl <;> rcases i64_b hy with rfl | rfl <;> decide
abbrev rnL (w gr : Int32) (top i : Nat) (o5 o6 o7 o9 o11 : Option Value) : List (Option Value) := [some (.ref 23), some (.int w), some (.int gr), some (.int (nI top)), some (.int (nI i)), o5, o6, o7, none, o9, none, o11, none]
abbrev rnr (l : Launch) (ru ta : Nat) (rs : List XO) (I : XI) (Rp : XR) (d n pc : Nat) (lc : List (Option Value)) (J : XJ) : Prop := xrun xxX2 (some .int) false false (shH ru ta rs).length 0 0 none l d tX2_run [24, 88, 125, 449] Rp n pc lc [] (shH ru ta rs) I J 0 0
section RUN
variable (l : Launch) (ta : Nat) (rs : List XO) (I : XI) (Rp : XR) (d : Nat)
set_option maxRecDepth 100000 in
set_option maxHeartbeats 4000000 in
theorem rn_449 (ru : Nat) (w gr : Int32) (top top' i op : Nat) (v : Int64) (o6 o7 o9 : Option Value) (n : Nat) (J : XJ) (hop : op ≤ 16) (ht : (op ≤ 1 ∧ top' = top + 1) ∨ (2 ≤ op ∧ op < 5 ∧ top' = top) ∨ (5 ≤ op ∧ top = top' + 1)) (h1 : 1 ≤ top') (h64 : top' ≤ 64) (hi : i < 300) (nxt : ∀ c : Int64, c.toInt = bnd v.toInt → rnr l ru ta rs I Rp d n 24 (rnL w gr top' (i + 1) (some (.int (nI op))) o6 o7 o9 (some (.long v))) (uJ J 25 (top' - 1) c)) : rnr l ru ta rs I Rp d (n + 1) 449 (rnL w gr top i (some (.int (nI op))) o6 o7 o9 (some (.long v))) J := by
  have g1 : ¬ nI top' < nI 1 := nI_nlt h1 (by omega)
  have g2 : nI top' ≤ nI 64 := nI_le h64 (by omega)
  have e1 : nI top' - nI 1 = nI (top' - 1) := nI_subI h1 (by omega)
  have vp : vp_in (nI top' - nI 1) 64 := by
    rw [e1]
    exact vp_in_nI (by omega) (by omega)
  have ec : (nI top' - nI 1).toNatClampNeg = top' - 1 := by
    rw [e1]
    exact nI_clamp (by omega)
  refine xrun_step fun K hK => ?_
  rcases ht with ⟨h, ht⟩ | ⟨h, h', ht⟩ | ⟨h, ht⟩
  · have et : nI top + 1 = nI top' := by rw [ht]; exact nI_1 _
    refine And.intro (fun z => absurd (show nI 1 < nI op from z) (nI_nlt h (by omega))) (fun _ => ?_)
    refine And.intro (fun z => absurd (show nI top + 1 < nI 1 from z) (by rw [et]; exact g1)) (fun _ => ?_)
    refine And.intro (fun _ => ?_) (fun z => absurd (show nI top + 1 ≤ nI 64 by rw [et]; exact g2) z)
    refine And.intro (show vp_in (nI top + 1 - nI 1) 64 by rw [et]; exact vp) ?_
    refine hK 24 [some (.ref 23), some (.int w), some (.int gr), some (.int (nI top + 1)), some (.int (nI i + 1)), some (.int (nI op)), o6, o7, none, o9, none, some (.long v), none] [] (shH ru ta rs) I (uJ J 25 (nI top + 1 - nI 1).toNatClampNeg (if (if v < 1000000 then v else 1000000) < -1000000 then (-1000000 : Int64) else (if v < 1000000 then v else 1000000))) 0 0 ?_
    rw [et, nI_1, ec]
    exact nxt _ (cl_bnd v)
  · subst ht
    refine And.intro (fun _ => ?_) (fun z => absurd (show nI 1 < nI op from nI_lt (by omega) (by omega)) z)
    refine And.intro (fun _ => ?_) (fun z => absurd (show nI op < nI 5 from nI_lt h' (by omega)) z)
    refine And.intro (fun z => absurd (show nI top' < nI 1 from z) g1) (fun _ => ?_)
    refine And.intro (fun _ => ?_) (fun z => absurd (show nI top' ≤ nI 64 from g2) z)
    refine And.intro (show vp_in (nI top' - nI 1) 64 from vp) ?_
    refine hK 24 [some (.ref 23), some (.int w), some (.int gr), some (.int (nI top')), some (.int (nI i + 1)), some (.int (nI op)), o6, o7, none, o9, none, some (.long v), none] [] (shH ru ta rs) I (uJ J 25 (nI top' - nI 1).toNatClampNeg (if (if v < 1000000 then v else 1000000) < -1000000 then (-1000000 : Int64) else (if v < 1000000 then v else 1000000))) 0 0 ?_
    rw [nI_1, ec]
    exact nxt _ (cl_bnd v)
  · have et : nI top + (-1) = nI top' := by
      rw [nI_m1 (by omega), ht, Nat.add_sub_cancel]
    refine And.intro (fun _ => ?_) (fun z => absurd (show nI 1 < nI op from nI_lt (by omega) (by omega)) z)
    refine And.intro (fun z => absurd (show nI op < nI 5 from z) (nI_nlt h (by omega))) (fun _ => ?_)
    refine And.intro (fun z => absurd (show nI top + (-1) < nI 1 from z) (by rw [et]; exact g1)) (fun _ => ?_)
    refine And.intro (fun _ => ?_) (fun z => absurd (show nI top + (-1) ≤ nI 64 by rw [et]; exact g2) z)
    refine And.intro (show vp_in (nI top + (-1) - nI 1) 64 by rw [et]; exact vp) ?_
    refine hK 24 [some (.ref 23), some (.int w), some (.int gr), some (.int (nI top + (-1))), some (.int (nI i + 1)), some (.int (nI op)), o6, o7, none, o9, none, some (.long v), none] [] (shH ru ta rs) I (uJ J 25 (nI top + (-1) - nI 1).toNatClampNeg (if (if v < 1000000 then v else 1000000) < -1000000 then (-1000000 : Int64) else (if v < 1000000 then v else 1000000))) 0 0 ?_
    rw [et, nI_1, ec]
    exact nxt _ (cl_bnd v)
set_option maxRecDepth 100000 in
set_option maxHeartbeats 16000000 in
theorem rn_88 (ru : Nat) (gr : Int32) (w x y : Int32) (top i : Nat) (o7 o9 o11 : Option Value) (n : Nat) (J : XJ) (h64 : top ≤ 64) (nxt : ∀ (R L : Int64), (1 ≤ top → R = J 25 (top - 1)) → (2 ≤ top → L = J 25 (top - 2)) → rnr l ru ta rs I Rp d n 125 [some (.ref 23), some (.int w), some (.int gr), some (.int (nI top)), some (.int (nI i)), some (.int x), some (.int y), some (.long R), none, some (.long L), none, o11, none] J) : rnr l ru ta rs I Rp d (n + 1) 88 [some (.ref 23), some (.int w), some (.int gr), some (.int (nI top)), some (.int (nI i)), some (.int x), some (.int y), o7, none, o9, none, o11, none] J := by
  have v1 : 1 ≤ top → vp_in (nI top - nI 1) 64 := fun h => by
    rw [nI_subI h (by omega)]
    exact vp_in_nI (by omega) (by omega)
  have v2 : 2 ≤ top → vp_in (nI top - nI 2) 64 := fun h => by
    rw [nI_subI h (by omega)]
    exact vp_in_nI (by omega) (by omega)
  have c1 : 1 ≤ top → (nI top - nI 1).toNatClampNeg = top - 1 := fun h => by
    rw [nI_subI h (by omega)]
    exact nI_clamp (by omega)
  have c2 : 2 ≤ top → (nI top - nI 2).toNatClampNeg = top - 2 := fun h => by
    rw [nI_subI h (by omega)]
    exact nI_clamp (by omega)
  have hn : ∀ m : Nat, m < 65 → top ≤ m → nI top ≤ nI m := fun m hm h => nI_le h (by omega)
  have hp : ∀ m : Nat, m < 65 → m < top → ¬ nI top ≤ nI m := fun m hm h => by
    rw [Int32.le_iff_toInt_le, nI_toInt (by omega), nI_toInt (by omega)]
    omega
  refine xrun_step fun K hK => ?_
  have hcase : top = 0 ∨ top = 1 ∨ 2 ≤ top := by omega
  rcases hcase with h | h | h
  · refine And.intro (fun _ => ?_) (fun z => absurd (hn 0 (by decide) (by omega)) z)
    refine And.intro (fun _ => ?_) (fun z => absurd (hn 1 (by decide) (by omega)) z)
    exact hK 125 [some (.ref 23), some (.int w), some (.int gr), some (.int (nI top)), some (.int (nI i)), some (.int x), some (.int y), some (.long _), none, some (.long _), none, o11, none] [] _ I J 0 0 (nxt _ _ (fun z => absurd z (by omega)) (fun z => absurd z (by omega)))
  · refine And.intro (fun z => absurd z (hp 0 (by decide) (by omega))) (fun _ => ?_)
    refine And.intro (v1 (by omega)) ?_
    refine And.intro (fun _ => ?_) (fun z => absurd (hn 1 (by decide) (by omega)) z)
    exact hK 125 [some (.ref 23), some (.int w), some (.int gr), some (.int (nI top)), some (.int (nI i)), some (.int x), some (.int y), some (.long _), none, some (.long _), none, o11, none] [] _ I J 0 0 (nxt _ _ (fun z => congrArg (J 25) (c1 z)) (fun z => absurd z (by omega)))
  · refine And.intro (fun z => absurd z (hp 0 (by decide) (by omega))) (fun _ => ?_)
    refine And.intro (v1 (by omega)) ?_
    refine And.intro (fun z => absurd z (hp 1 (by decide) (by omega))) (fun _ => ?_)
    refine And.intro (v2 (by omega)) ?_
    exact hK 125 [some (.ref 23), some (.int w), some (.int gr), some (.int (nI top)), some (.int (nI i)), some (.int x), some (.int y), some (.long _), none, some (.long _), none, o11, none] [] _ I J 0 0 (nxt _ _ (fun z => congrArg (J 25) (c1 z)) (fun z => congrArg (J 25) (c2 z)))
set_option maxRecDepth 100000 in
set_option maxHeartbeats 16000000 in
theorem rn_24 (ru : Nat) (hru : TSP ru) (gr : Int32) (w top i S a b : Nat) (o5 o6 o7 o9 o11 : Option Value) (n : Nat) (J : XJ) (hw : w < 5) (h64 : top ≤ 64) (hS : I (ru + 3) w = nI S) (hi : i < S) (h300 : S ≤ 300) (hc : I (ru + 1) i = nI (10000 * a + b)) (ha : a ≤ 16) (hb : b < 10000) (nxt : ∀ (x y : Int32) (R L : Int64), x = nI a → y = nI b → (1 ≤ top → R = J 25 (top - 1)) → (2 ≤ top → L = J 25 (top - 2)) → rnr l ru ta rs I Rp d n 125 [some (.ref 23), some (.int (nI w)), some (.int gr), some (.int (nI top)), some (.int (nI i)), some (.int x), some (.int y), some (.long R), none, some (.long L), none, o11, none] J) : rnr l ru ta rs I Rp d (n + 1 + 1) 24 (rnL (nI w) gr top i o5 o6 o7 o9 o11) J := by
  have vw : vp_in (nI w) 5 := vp_in_nI hw (by omega)
  have vi : vp_in (nI i) 300 := vp_in_nI (by omega) (by omega)
  have cw : (nI w).toNatClampNeg = w := nI_clamp (by omega)
  have ci : (nI i).toNatClampNeg = i := nI_clamp (by omega)
  have g0 : ¬ nI i < nI 0 := nI_nlt (by omega) (by omega)
  have gS : ¬ I (ru + 3) (nI w).toNatClampNeg ≤ nI i := by
    rw [cw, hS, Int32.le_iff_toInt_le, nI_toInt (by omega), nI_toInt (by omega)]
    omega
  have g3 : ¬ nI 300 ≤ nI i := by
    rw [Int32.le_iff_toInt_le, nI_toInt (by omega), nI_toInt (by omega)]
    omega
  have ex : I (ru + 1) (nI i).toNatClampNeg / nI 10000 = nI a := by
    rw [ci, hc]
    exact i32_dv ha hb
  have ey : I (ru + 1) (nI i).toNatClampNeg - I (ru + 1) (nI i).toNatClampNeg / nI 10000 * nI 10000 = nI b := by
    rw [ci, hc]
    exact i32_mod ha hb
  have nz : ¬ nI 10000 = 0 := by decide
  rcases hru with rfl | rfl | rfl | rfl | rfl
  all_goals
    refine xrun_step fun K hK => ?_
    refine And.intro (fun z => absurd z g0) (fun _ => ?_)
    refine And.intro vw ?_
    refine And.intro (fun z => absurd z gS) (fun _ => ?_)
    refine And.intro (fun z => absurd z g3) (fun _ => ?_)
    refine And.intro vi ?_
    refine And.intro nz ?_
    refine And.intro vi ?_
    refine And.intro nz ?_
    exact hK 88 [some (.ref 23), some (.int (nI w)), some (.int gr), some (.int (nI top)), some (.int (nI i)), some (.int _), some (.int _), o7, none, o9, none, o11, none] [] _ I J 0 0 (rn_88 l ta rs I Rp d _ gr (nI w) _ _ top i o7 o9 o11 n J h64 (fun R L hR hL => nxt _ _ R L ex ey hR hL))
set_option maxRecDepth 100000 in
set_option maxHeartbeats 4000000 in
theorem rn_op0 (ru : Nat) (w gr : Int32) (top i b : Nat) (R L : Int64) (o11 : Option Value) (n : Nat) (J : XJ) (hb : b < 10000) (nxt : ∀ v : Int64, v.toInt = (b : Int) → rnr l ru ta rs I Rp d n 449 [some (.ref 23), some (.int w), some (.int gr), some (.int (nI top)), some (.int (nI i)), some (.int (nI 0)), some (.int (nI b)), some (.long R), none, some (.long L), none, some (.long v), none] J) : rnr l ru ta rs I Rp d (n + 1) 125 [some (.ref 23), some (.int w), some (.int gr), some (.int (nI top)), some (.int (nI i)), some (.int (nI 0)), some (.int (nI b)), some (.long R), none, some (.long L), none, o11, none] J := by
  refine xrun_step fun K hK => ?_
  refine And.intro (fun _ => ?_) (fun z => absurd (show nI 0 = nI 0 from rfl) z)
  exact hK 449 [some (.ref 23), some (.int w), some (.int gr), some (.int (nI top)), some (.int (nI i)), some (.int (nI 0)), some (.int (nI b)), some (.long R), none, some (.long L), none, some (.long ((nI b).toInt64)), none] [] _ I J 0 0 (nxt _ (nI_i64 (by omega)))
set_option maxRecDepth 100000 in
set_option maxHeartbeats 4000000 in
theorem rn_op1 (ru : Nat) (w gr : Int32) (top i b : Nat) (R L : Int64) (o11 : Option Value) (n : Nat) (J : XJ) (hb : b < 11) (nxt : ∀ v : Int64, v.toInt = (I 24 b).toInt → rnr l ru ta rs I Rp d n 449 [some (.ref 23), some (.int w), some (.int gr), some (.int (nI top)), some (.int (nI i)), some (.int (nI 1)), some (.int (nI b)), some (.long R), none, some (.long L), none, some (.long v), none] J) : rnr l ru ta rs I Rp d (n + 1) 125 [some (.ref 23), some (.int w), some (.int gr), some (.int (nI top)), some (.int (nI i)), some (.int (nI 1)), some (.int (nI b)), some (.long R), none, some (.long L), none, o11, none] J := by
  refine xrun_step fun K hK => ?_
  refine And.intro (fun z => absurd (show nI 1 = nI 0 from z) (by decide)) (fun _ => ?_)
  refine And.intro (fun _ => ?_) (fun z => absurd (show nI 1 = nI 1 from rfl) z)
  refine And.intro (fun z => absurd (show nI b < nI 0 from z) (nI_nlt (by omega) (by omega))) (fun _ => ?_)
  refine And.intro (fun z => absurd (show nI 11 ≤ nI b from z) (fun y => by
      rw [Int32.le_iff_toInt_le, nI_toInt (by omega), nI_toInt (by omega)] at y
      omega)) (fun _ => ?_)
  refine And.intro (show vp_in (nI b) 11 from vp_in_nI hb (by omega)) ?_
  exact hK 449 [some (.ref 23), some (.int w), some (.int gr), some (.int (nI top)), some (.int (nI i)), some (.int (nI 1)), some (.int (nI b)), some (.long R), none, some (.long L), none, some (.long ((I 24 (nI b).toNatClampNeg).toInt64)), none] [] _ I J 0 0 (nxt _ (by rw [nI_clamp (by omega)]; exact Int32.toInt_toInt64 _))
set_option maxRecDepth 100000 in
set_option maxHeartbeats 4000000 in
theorem rn_op2 (ru : Nat) (w gr : Int32) (top i b : Nat) (R L : Int64) (o11 : Option Value) (n : Nat) (J : XJ) (hR : inM R.toInt) (nxt : ∀ v : Int64, v.toInt = -R.toInt → rnr l ru ta rs I Rp d n 449 [some (.ref 23), some (.int w), some (.int gr), some (.int (nI top)), some (.int (nI i)), some (.int (nI 2)), some (.int (nI b)), some (.long R), none, some (.long L), none, some (.long v), none] J) : rnr l ru ta rs I Rp d (n + 1) 125 [some (.ref 23), some (.int w), some (.int gr), some (.int (nI top)), some (.int (nI i)), some (.int (nI 2)), some (.int (nI b)), some (.long R), none, some (.long L), none, o11, none] J := by
  refine xrun_step fun K hK => ?_
  refine And.intro (fun z => absurd (show nI 2 = nI 0 from z) (by decide)) (fun _ => ?_)
  refine And.intro (fun z => absurd (show nI 2 = nI 1 from z) (by decide)) (fun _ => ?_)
  refine And.intro (fun _ => ?_) (fun z => absurd (show nI 2 = nI 2 from rfl) z)
  exact hK 449 [some (.ref 23), some (.int w), some (.int gr), some (.int (nI top)), some (.int (nI i)), some (.int (nI 2)), some (.int (nI b)), some (.long R), none, some (.long L), none, some (.long (-R)), none] [] _ I J 0 0 (nxt _ (by rw [Int64.toInt_neg]; exact Int.bmod_eq_of_le (by have := hR.1; have := hR.2; omega) (by have := hR.1; have := hR.2; omega)))
set_option maxRecDepth 100000 in
set_option maxHeartbeats 4000000 in
theorem rn_op3 (ru : Nat) (w gr : Int32) (top i b : Nat) (R L : Int64) (o11 : Option Value) (n : Nat) (J : XJ) (hR : inM R.toInt) (hb : b ≤ 100) (nxt : ∀ v : Int64, v.toInt = (R.toInt * (b : Int)).tdiv 100 → rnr l ru ta rs I Rp d n 449 [some (.ref 23), some (.int w), some (.int gr), some (.int (nI top)), some (.int (nI i)), some (.int (nI 3)), some (.int (nI b)), some (.long R), none, some (.long L), none, some (.long v), none] J) : rnr l ru ta rs I Rp d (n + 1) 125 [some (.ref 23), some (.int w), some (.int gr), some (.int (nI top)), some (.int (nI i)), some (.int (nI 3)), some (.int (nI b)), some (.long R), none, some (.long L), none, o11, none] J := by
  refine xrun_step fun K hK => ?_
  refine And.intro (fun z => absurd (show nI 3 = nI 0 from z) (by decide)) (fun _ => ?_)
  refine And.intro (fun z => absurd (show nI 3 = nI 1 from z) (by decide)) (fun _ => ?_)
  refine And.intro (fun z => absurd (show nI 3 = nI 2 from z) (by decide)) (fun _ => ?_)
  refine And.intro (fun _ => ?_) (fun z => absurd (show nI 3 = nI 3 from rfl) z)
  refine And.intro (show ¬ ((100 : Int64) = 0) by decide) ?_
  have h2 : (nI b).toInt64.toInt = (b : Int) := nI_i64 (by omega)
  have hb2 := mul_b hR (show inM (b : Int) from ⟨by omega, by omega⟩)
  have h3 : (R * (nI b).toInt64).toInt = R.toInt * (b : Int) := by
    rw [l64_mul (by rw [h2]; omega) (by rw [h2]; omega), h2]
  exact hK 449 [some (.ref 23), some (.int w), some (.int gr), some (.int (nI top)), some (.int (nI i)), some (.int (nI 3)), some (.int (nI b)), some (.long R), none, some (.long L), none, some (.long (R * (nI b).toInt64 / 100)), none] [] _ I J 0 0 (nxt _ (by rw [Int64.toInt_div_of_ne_right _ _ (by decide), h3]; rfl))
set_option maxRecDepth 100000 in
set_option maxHeartbeats 4000000 in
theorem rn_op4 (ru : Nat) (w gr : Int32) (top i b : Nat) (R L : Int64) (o11 : Option Value) (n : Nat) (J : XJ) (hR : inM R.toInt) (nxt : ∀ v : Int64, v.toInt = 1 - R.toInt → rnr l ru ta rs I Rp d n 449 [some (.ref 23), some (.int w), some (.int gr), some (.int (nI top)), some (.int (nI i)), some (.int (nI 4)), some (.int (nI b)), some (.long R), none, some (.long L), none, some (.long v), none] J) : rnr l ru ta rs I Rp d (n + 1) 125 [some (.ref 23), some (.int w), some (.int gr), some (.int (nI top)), some (.int (nI i)), some (.int (nI 4)), some (.int (nI b)), some (.long R), none, some (.long L), none, o11, none] J := by
  refine xrun_step fun K hK => ?_
  refine And.intro (fun z => absurd (show nI 4 = nI 0 from z) (by decide)) (fun _ => ?_)
  refine And.intro (fun z => absurd (show nI 4 = nI 1 from z) (by decide)) (fun _ => ?_)
  refine And.intro (fun z => absurd (show nI 4 = nI 2 from z) (by decide)) (fun _ => ?_)
  refine And.intro (fun z => absurd (show nI 4 = nI 3 from z) (by decide)) (fun _ => ?_)
  refine And.intro (fun _ => ?_) (fun z => absurd (show nI 4 = nI 4 from rfl) z)
  exact hK 449 [some (.ref 23), some (.int w), some (.int gr), some (.int (nI top)), some (.int (nI i)), some (.int (nI 4)), some (.int (nI b)), some (.long R), none, some (.long L), none, some (.long (1 - R)), none] [] _ I J 0 0 (nxt _ (by rw [l64_sub (by have := hR.1; have := hR.2; rw [i64_1]; omega) (by have := hR.1; have := hR.2; rw [i64_1]; omega), i64_1]))
set_option maxRecDepth 100000 in
set_option maxHeartbeats 4000000 in
theorem rn_op5 (ru : Nat) (w gr : Int32) (top i b : Nat) (R L : Int64) (o11 : Option Value) (n : Nat) (J : XJ) (hR : inM R.toInt) (hL : inM L.toInt) (nxt : ∀ v : Int64, v.toInt = L.toInt + R.toInt → rnr l ru ta rs I Rp d n 449 [some (.ref 23), some (.int w), some (.int gr), some (.int (nI top)), some (.int (nI i)), some (.int (nI 5)), some (.int (nI b)), some (.long R), none, some (.long L), none, some (.long v), none] J) : rnr l ru ta rs I Rp d (n + 1) 125 [some (.ref 23), some (.int w), some (.int gr), some (.int (nI top)), some (.int (nI i)), some (.int (nI 5)), some (.int (nI b)), some (.long R), none, some (.long L), none, o11, none] J := by
  refine xrun_step fun K hK => ?_
  refine And.intro (fun z => absurd (show nI 5 = nI 0 from z) (by decide)) (fun _ => ?_)
  refine And.intro (fun z => absurd (show nI 5 = nI 1 from z) (by decide)) (fun _ => ?_)
  refine And.intro (fun z => absurd (show nI 5 = nI 2 from z) (by decide)) (fun _ => ?_)
  refine And.intro (fun z => absurd (show nI 5 = nI 3 from z) (by decide)) (fun _ => ?_)
  refine And.intro (fun z => absurd (show nI 5 = nI 4 from z) (by decide)) (fun _ => ?_)
  refine And.intro (fun _ => ?_) (fun z => absurd (show nI 5 = nI 5 from rfl) z)
  have := hR.1
  have := hR.2
  have := hL.1
  have := hL.2
  exact hK 449 [some (.ref 23), some (.int w), some (.int gr), some (.int (nI top)), some (.int (nI i)), some (.int (nI 5)), some (.int (nI b)), some (.long R), none, some (.long L), none, some (.long (L + R)), none] [] _ I J 0 0 (nxt _ (l64_add (by omega) (by omega)))
set_option maxRecDepth 100000 in
set_option maxHeartbeats 4000000 in
theorem rn_op6 (ru : Nat) (w gr : Int32) (top i b : Nat) (R L : Int64) (o11 : Option Value) (n : Nat) (J : XJ) (hR : inM R.toInt) (hL : inM L.toInt) (nxt : ∀ v : Int64, v.toInt = L.toInt - R.toInt → rnr l ru ta rs I Rp d n 449 [some (.ref 23), some (.int w), some (.int gr), some (.int (nI top)), some (.int (nI i)), some (.int (nI 6)), some (.int (nI b)), some (.long R), none, some (.long L), none, some (.long v), none] J) : rnr l ru ta rs I Rp d (n + 1) 125 [some (.ref 23), some (.int w), some (.int gr), some (.int (nI top)), some (.int (nI i)), some (.int (nI 6)), some (.int (nI b)), some (.long R), none, some (.long L), none, o11, none] J := by
  refine xrun_step fun K hK => ?_
  refine And.intro (fun z => absurd (show nI 6 = nI 0 from z) (by decide)) (fun _ => ?_)
  refine And.intro (fun z => absurd (show nI 6 = nI 1 from z) (by decide)) (fun _ => ?_)
  refine And.intro (fun z => absurd (show nI 6 = nI 2 from z) (by decide)) (fun _ => ?_)
  refine And.intro (fun z => absurd (show nI 6 = nI 3 from z) (by decide)) (fun _ => ?_)
  refine And.intro (fun z => absurd (show nI 6 = nI 4 from z) (by decide)) (fun _ => ?_)
  refine And.intro (fun z => absurd (show nI 6 = nI 5 from z) (by decide)) (fun _ => ?_)
  refine And.intro (fun _ => ?_) (fun z => absurd (show nI 6 = nI 6 from rfl) z)
  have := hR.1
  have := hR.2
  have := hL.1
  have := hL.2
  exact hK 449 [some (.ref 23), some (.int w), some (.int gr), some (.int (nI top)), some (.int (nI i)), some (.int (nI 6)), some (.int (nI b)), some (.long R), none, some (.long L), none, some (.long (L - R)), none] [] _ I J 0 0 (nxt _ (l64_sub (by omega) (by omega)))
set_option maxRecDepth 100000 in
set_option maxHeartbeats 4000000 in
theorem rn_op7 (ru : Nat) (w gr : Int32) (top i b : Nat) (R L : Int64) (o11 : Option Value) (n : Nat) (J : XJ) (hR : inM R.toInt) (hL : inM L.toInt) (nxt : ∀ v : Int64, v.toInt = L.toInt * R.toInt → rnr l ru ta rs I Rp d n 449 [some (.ref 23), some (.int w), some (.int gr), some (.int (nI top)), some (.int (nI i)), some (.int (nI 7)), some (.int (nI b)), some (.long R), none, some (.long L), none, some (.long v), none] J) : rnr l ru ta rs I Rp d (n + 1) 125 [some (.ref 23), some (.int w), some (.int gr), some (.int (nI top)), some (.int (nI i)), some (.int (nI 7)), some (.int (nI b)), some (.long R), none, some (.long L), none, o11, none] J := by
  refine xrun_step fun K hK => ?_
  refine And.intro (fun z => absurd (show nI 7 = nI 0 from z) (by decide)) (fun _ => ?_)
  refine And.intro (fun z => absurd (show nI 7 = nI 1 from z) (by decide)) (fun _ => ?_)
  refine And.intro (fun z => absurd (show nI 7 = nI 2 from z) (by decide)) (fun _ => ?_)
  refine And.intro (fun z => absurd (show nI 7 = nI 3 from z) (by decide)) (fun _ => ?_)
  refine And.intro (fun z => absurd (show nI 7 = nI 4 from z) (by decide)) (fun _ => ?_)
  refine And.intro (fun z => absurd (show nI 7 = nI 5 from z) (by decide)) (fun _ => ?_)
  refine And.intro (fun z => absurd (show nI 7 = nI 6 from z) (by decide)) (fun _ => ?_)
  refine And.intro (fun _ => ?_) (fun z => absurd (show nI 7 = nI 7 from rfl) z)
  have hm := mul_b hL hR
  exact hK 449 [some (.ref 23), some (.int w), some (.int gr), some (.int (nI top)), some (.int (nI i)), some (.int (nI 7)), some (.int (nI b)), some (.long R), none, some (.long L), none, some (.long (L * R)), none] [] _ I J 0 0 (nxt _ (l64_mul (by omega) (by omega)))
set_option maxRecDepth 100000 in
set_option maxHeartbeats 4000000 in
theorem rn_op8 (ru : Nat) (w gr : Int32) (top i b : Nat) (R L : Int64) (o11 : Option Value) (n : Nat) (J : XJ) (hR : inM R.toInt) (hL : inM L.toInt) (nxt : ∀ v : Int64, v.toInt = wrk 47 L.toInt R.toInt → rnr l ru ta rs I Rp d n 449 [some (.ref 23), some (.int w), some (.int gr), some (.int (nI top)), some (.int (nI i)), some (.int (nI 8)), some (.int (nI b)), some (.long R), none, some (.long L), none, some (.long v), none] J) : rnr l ru ta rs I Rp d (n + 1) 125 [some (.ref 23), some (.int w), some (.int gr), some (.int (nI top)), some (.int (nI i)), some (.int (nI 8)), some (.int (nI b)), some (.long R), none, some (.long L), none, o11, none] J := by
  refine xrun_step fun K hK => ?_
  refine And.intro (fun z => absurd (show nI 8 = nI 0 from z) (by decide)) (fun _ => ?_)
  refine And.intro (fun z => absurd (show nI 8 = nI 1 from z) (by decide)) (fun _ => ?_)
  refine And.intro (fun z => absurd (show nI 8 = nI 2 from z) (by decide)) (fun _ => ?_)
  refine And.intro (fun z => absurd (show nI 8 = nI 3 from z) (by decide)) (fun _ => ?_)
  refine And.intro (fun z => absurd (show nI 8 = nI 4 from z) (by decide)) (fun _ => ?_)
  refine And.intro (fun z => absurd (show nI 8 = nI 5 from z) (by decide)) (fun _ => ?_)
  refine And.intro (fun z => absurd (show nI 8 = nI 6 from z) (by decide)) (fun _ => ?_)
  refine And.intro (fun z => absurd (show nI 8 = nI 7 from z) (by decide)) (fun _ => ?_)
  refine And.intro (fun _ => ?_) (fun z => absurd (show nI 8 = nI 8 from rfl) z)
  have e1 : ¬ R.toInt = 0 → wrk 47 L.toInt R.toInt = L.toInt.tdiv R.toInt := fun h => if_neg h
  have e2 : R.toInt = 0 → wrk 47 L.toInt R.toInt = 0 := fun h => if_pos h
  refine And.intro (fun h => ?_) (fun h => ?_)
  · have h : ¬ lg_cmp R 0 = 0 := h
    have h2 : ¬ R.toInt = 0 := fun z => h (lc_eq.mpr (z.trans i64_0.symm))
    refine And.intro (fun z => h2 (by rw [z]; exact i64_0)) ?_
    exact hK 449 [some (.ref 23), some (.int w), some (.int gr), some (.int (nI top)), some (.int (nI i)), some (.int (nI 8)), some (.int (nI b)), some (.long R), none, some (.long L), none, some (.long (L / R)), none] [] _ I J 0 0 (nxt _ (by
      rw [e1 h2, Int64.toInt_div_of_ne_left L R (fun e => by
        rw [e] at hL
        exact absurd hL.1 (by decide))]))
  · have h2 : R.toInt = 0 := (lc_eq.mp (show lg_cmp R 0 = 0 from h)).trans i64_0
    exact hK 449 [some (.ref 23), some (.int w), some (.int gr), some (.int (nI top)), some (.int (nI i)), some (.int (nI 8)), some (.int (nI b)), some (.long R), none, some (.long L), none, some (.long (0)), none] [] _ I J 0 0 (nxt _ (by rw [e2 h2]; exact i64_0))
set_option maxRecDepth 100000 in
set_option maxHeartbeats 4000000 in
theorem rn_op9 (ru : Nat) (w gr : Int32) (top i b : Nat) (R L : Int64) (o11 : Option Value) (n : Nat) (J : XJ) (nxt : ∀ v : Int64, v.toInt = wrk 60 L.toInt R.toInt → rnr l ru ta rs I Rp d n 449 [some (.ref 23), some (.int w), some (.int gr), some (.int (nI top)), some (.int (nI i)), some (.int (nI 9)), some (.int (nI b)), some (.long R), none, some (.long L), none, some (.long v), none] J) : rnr l ru ta rs I Rp d (n + 1) 125 [some (.ref 23), some (.int w), some (.int gr), some (.int (nI top)), some (.int (nI i)), some (.int (nI 9)), some (.int (nI b)), some (.long R), none, some (.long L), none, o11, none] J := by
  refine xrun_step fun K hK => ?_
  refine And.intro (fun z => absurd (show nI 9 = nI 0 from z) (by decide)) (fun _ => ?_)
  refine And.intro (fun z => absurd (show nI 9 = nI 1 from z) (by decide)) (fun _ => ?_)
  refine And.intro (fun z => absurd (show nI 9 = nI 2 from z) (by decide)) (fun _ => ?_)
  refine And.intro (fun z => absurd (show nI 9 = nI 3 from z) (by decide)) (fun _ => ?_)
  refine And.intro (fun z => absurd (show nI 9 = nI 4 from z) (by decide)) (fun _ => ?_)
  refine And.intro (fun z => absurd (show nI 9 = nI 5 from z) (by decide)) (fun _ => ?_)
  refine And.intro (fun z => absurd (show nI 9 = nI 6 from z) (by decide)) (fun _ => ?_)
  refine And.intro (fun z => absurd (show nI 9 = nI 7 from z) (by decide)) (fun _ => ?_)
  refine And.intro (fun z => absurd (show nI 9 = nI 8 from z) (by decide)) (fun _ => ?_)
  refine And.intro (fun _ => ?_) (fun z => absurd (show nI 9 = nI 9 from rfl) z)
  have e1 : L.toInt < R.toInt → wrk 60 L.toInt R.toInt = 1 := fun h => if_pos h
  have e2 : ¬ (L.toInt < R.toInt) → wrk 60 L.toInt R.toInt = 0 := fun h => if_neg h
  refine And.intro (fun h => ?_) (fun h => ?_)
  · have h2 := lc_ge.mp (show 0 ≤ lg_cmp L R from h)
    exact hK 449 [some (.ref 23), some (.int w), some (.int gr), some (.int (nI top)), some (.int (nI i)), some (.int (nI 9)), some (.int (nI b)), some (.long R), none, some (.long L), none, some (.long (0)), none] [] _ I J 0 0 (nxt _ (by rw [e2 (by omega)]; exact i64_0))
  · have h2 : ¬ (R.toInt ≤ L.toInt) := fun z => h (lc_ge.mpr z)
    exact hK 449 [some (.ref 23), some (.int w), some (.int gr), some (.int (nI top)), some (.int (nI i)), some (.int (nI 9)), some (.int (nI b)), some (.long R), none, some (.long L), none, some (.long (1)), none] [] _ I J 0 0 (nxt _ (by rw [e1 (by omega)]; exact i64_1))
set_option maxRecDepth 100000 in
set_option maxHeartbeats 4000000 in
theorem rn_op10 (ru : Nat) (w gr : Int32) (top i b : Nat) (R L : Int64) (o11 : Option Value) (n : Nat) (J : XJ) (nxt : ∀ v : Int64, v.toInt = wrk 300 L.toInt R.toInt → rnr l ru ta rs I Rp d n 449 [some (.ref 23), some (.int w), some (.int gr), some (.int (nI top)), some (.int (nI i)), some (.int (nI 10)), some (.int (nI b)), some (.long R), none, some (.long L), none, some (.long v), none] J) : rnr l ru ta rs I Rp d (n + 1) 125 [some (.ref 23), some (.int w), some (.int gr), some (.int (nI top)), some (.int (nI i)), some (.int (nI 10)), some (.int (nI b)), some (.long R), none, some (.long L), none, o11, none] J := by
  refine xrun_step fun K hK => ?_
  refine And.intro (fun z => absurd (show nI 10 = nI 0 from z) (by decide)) (fun _ => ?_)
  refine And.intro (fun z => absurd (show nI 10 = nI 1 from z) (by decide)) (fun _ => ?_)
  refine And.intro (fun z => absurd (show nI 10 = nI 2 from z) (by decide)) (fun _ => ?_)
  refine And.intro (fun z => absurd (show nI 10 = nI 3 from z) (by decide)) (fun _ => ?_)
  refine And.intro (fun z => absurd (show nI 10 = nI 4 from z) (by decide)) (fun _ => ?_)
  refine And.intro (fun z => absurd (show nI 10 = nI 5 from z) (by decide)) (fun _ => ?_)
  refine And.intro (fun z => absurd (show nI 10 = nI 6 from z) (by decide)) (fun _ => ?_)
  refine And.intro (fun z => absurd (show nI 10 = nI 7 from z) (by decide)) (fun _ => ?_)
  refine And.intro (fun z => absurd (show nI 10 = nI 8 from z) (by decide)) (fun _ => ?_)
  refine And.intro (fun z => absurd (show nI 10 = nI 9 from z) (by decide)) (fun _ => ?_)
  refine And.intro (fun _ => ?_) (fun z => absurd (show nI 10 = nI 10 from rfl) z)
  have e1 : L.toInt ≤ R.toInt → wrk 300 L.toInt R.toInt = 1 := fun h => if_pos h
  have e2 : ¬ (L.toInt ≤ R.toInt) → wrk 300 L.toInt R.toInt = 0 := fun h => if_neg h
  refine And.intro (fun h => ?_) (fun h => ?_)
  · have h2 := lc_gt.mp (show 0 < lg_cmp L R from h)
    exact hK 449 [some (.ref 23), some (.int w), some (.int gr), some (.int (nI top)), some (.int (nI i)), some (.int (nI 10)), some (.int (nI b)), some (.long R), none, some (.long L), none, some (.long (0)), none] [] _ I J 0 0 (nxt _ (by rw [e2 (by omega)]; exact i64_0))
  · have h2 : ¬ (R.toInt < L.toInt) := fun z => h (lc_gt.mpr z)
    exact hK 449 [some (.ref 23), some (.int w), some (.int gr), some (.int (nI top)), some (.int (nI i)), some (.int (nI 10)), some (.int (nI b)), some (.long R), none, some (.long L), none, some (.long (1)), none] [] _ I J 0 0 (nxt _ (by rw [e1 (by omega)]; exact i64_1))
set_option maxRecDepth 100000 in
set_option maxHeartbeats 4000000 in
theorem rn_op11 (ru : Nat) (w gr : Int32) (top i b : Nat) (R L : Int64) (o11 : Option Value) (n : Nat) (J : XJ) (nxt : ∀ v : Int64, v.toInt = wrk 62 L.toInt R.toInt → rnr l ru ta rs I Rp d n 449 [some (.ref 23), some (.int w), some (.int gr), some (.int (nI top)), some (.int (nI i)), some (.int (nI 11)), some (.int (nI b)), some (.long R), none, some (.long L), none, some (.long v), none] J) : rnr l ru ta rs I Rp d (n + 1) 125 [some (.ref 23), some (.int w), some (.int gr), some (.int (nI top)), some (.int (nI i)), some (.int (nI 11)), some (.int (nI b)), some (.long R), none, some (.long L), none, o11, none] J := by
  refine xrun_step fun K hK => ?_
  refine And.intro (fun z => absurd (show nI 11 = nI 0 from z) (by decide)) (fun _ => ?_)
  refine And.intro (fun z => absurd (show nI 11 = nI 1 from z) (by decide)) (fun _ => ?_)
  refine And.intro (fun z => absurd (show nI 11 = nI 2 from z) (by decide)) (fun _ => ?_)
  refine And.intro (fun z => absurd (show nI 11 = nI 3 from z) (by decide)) (fun _ => ?_)
  refine And.intro (fun z => absurd (show nI 11 = nI 4 from z) (by decide)) (fun _ => ?_)
  refine And.intro (fun z => absurd (show nI 11 = nI 5 from z) (by decide)) (fun _ => ?_)
  refine And.intro (fun z => absurd (show nI 11 = nI 6 from z) (by decide)) (fun _ => ?_)
  refine And.intro (fun z => absurd (show nI 11 = nI 7 from z) (by decide)) (fun _ => ?_)
  refine And.intro (fun z => absurd (show nI 11 = nI 8 from z) (by decide)) (fun _ => ?_)
  refine And.intro (fun z => absurd (show nI 11 = nI 9 from z) (by decide)) (fun _ => ?_)
  refine And.intro (fun z => absurd (show nI 11 = nI 10 from z) (by decide)) (fun _ => ?_)
  refine And.intro (fun _ => ?_) (fun z => absurd (show nI 11 = nI 11 from rfl) z)
  have e1 : R.toInt < L.toInt → wrk 62 L.toInt R.toInt = 1 := fun h => if_pos h
  have e2 : ¬ (R.toInt < L.toInt) → wrk 62 L.toInt R.toInt = 0 := fun h => if_neg h
  refine And.intro (fun h => ?_) (fun h => ?_)
  · have h2 := lc_le.mp (show lg_cmp L R ≤ 0 from h)
    exact hK 449 [some (.ref 23), some (.int w), some (.int gr), some (.int (nI top)), some (.int (nI i)), some (.int (nI 11)), some (.int (nI b)), some (.long R), none, some (.long L), none, some (.long (0)), none] [] _ I J 0 0 (nxt _ (by rw [e2 (by omega)]; exact i64_0))
  · have h2 : ¬ (L.toInt ≤ R.toInt) := fun z => h (lc_le.mpr z)
    exact hK 449 [some (.ref 23), some (.int w), some (.int gr), some (.int (nI top)), some (.int (nI i)), some (.int (nI 11)), some (.int (nI b)), some (.long R), none, some (.long L), none, some (.long (1)), none] [] _ I J 0 0 (nxt _ (by rw [e1 (by omega)]; exact i64_1))
set_option maxRecDepth 100000 in
set_option maxHeartbeats 4000000 in
theorem rn_op12 (ru : Nat) (w gr : Int32) (top i b : Nat) (R L : Int64) (o11 : Option Value) (n : Nat) (J : XJ) (nxt : ∀ v : Int64, v.toInt = wrk 301 L.toInt R.toInt → rnr l ru ta rs I Rp d n 449 [some (.ref 23), some (.int w), some (.int gr), some (.int (nI top)), some (.int (nI i)), some (.int (nI 12)), some (.int (nI b)), some (.long R), none, some (.long L), none, some (.long v), none] J) : rnr l ru ta rs I Rp d (n + 1) 125 [some (.ref 23), some (.int w), some (.int gr), some (.int (nI top)), some (.int (nI i)), some (.int (nI 12)), some (.int (nI b)), some (.long R), none, some (.long L), none, o11, none] J := by
  refine xrun_step fun K hK => ?_
  refine And.intro (fun z => absurd (show nI 12 = nI 0 from z) (by decide)) (fun _ => ?_)
  refine And.intro (fun z => absurd (show nI 12 = nI 1 from z) (by decide)) (fun _ => ?_)
  refine And.intro (fun z => absurd (show nI 12 = nI 2 from z) (by decide)) (fun _ => ?_)
  refine And.intro (fun z => absurd (show nI 12 = nI 3 from z) (by decide)) (fun _ => ?_)
  refine And.intro (fun z => absurd (show nI 12 = nI 4 from z) (by decide)) (fun _ => ?_)
  refine And.intro (fun z => absurd (show nI 12 = nI 5 from z) (by decide)) (fun _ => ?_)
  refine And.intro (fun z => absurd (show nI 12 = nI 6 from z) (by decide)) (fun _ => ?_)
  refine And.intro (fun z => absurd (show nI 12 = nI 7 from z) (by decide)) (fun _ => ?_)
  refine And.intro (fun z => absurd (show nI 12 = nI 8 from z) (by decide)) (fun _ => ?_)
  refine And.intro (fun z => absurd (show nI 12 = nI 9 from z) (by decide)) (fun _ => ?_)
  refine And.intro (fun z => absurd (show nI 12 = nI 10 from z) (by decide)) (fun _ => ?_)
  refine And.intro (fun z => absurd (show nI 12 = nI 11 from z) (by decide)) (fun _ => ?_)
  refine And.intro (fun _ => ?_) (fun z => absurd (show nI 12 = nI 12 from rfl) z)
  have e1 : R.toInt ≤ L.toInt → wrk 301 L.toInt R.toInt = 1 := fun h => if_pos h
  have e2 : ¬ (R.toInt ≤ L.toInt) → wrk 301 L.toInt R.toInt = 0 := fun h => if_neg h
  refine And.intro (fun h => ?_) (fun h => ?_)
  · have h2 := lc_lt.mp (show lg_cmp L R < 0 from h)
    exact hK 449 [some (.ref 23), some (.int w), some (.int gr), some (.int (nI top)), some (.int (nI i)), some (.int (nI 12)), some (.int (nI b)), some (.long R), none, some (.long L), none, some (.long (0)), none] [] _ I J 0 0 (nxt _ (by rw [e2 (by omega)]; exact i64_0))
  · have h2 : ¬ (L.toInt < R.toInt) := fun z => h (lc_lt.mpr z)
    exact hK 449 [some (.ref 23), some (.int w), some (.int gr), some (.int (nI top)), some (.int (nI i)), some (.int (nI 12)), some (.int (nI b)), some (.long R), none, some (.long L), none, some (.long (1)), none] [] _ I J 0 0 (nxt _ (by rw [e1 (by omega)]; exact i64_1))
set_option maxRecDepth 100000 in
set_option maxHeartbeats 4000000 in
theorem rn_op13 (ru : Nat) (w gr : Int32) (top i b : Nat) (R L : Int64) (o11 : Option Value) (n : Nat) (J : XJ) (nxt : ∀ v : Int64, v.toInt = wrk 61 L.toInt R.toInt → rnr l ru ta rs I Rp d n 449 [some (.ref 23), some (.int w), some (.int gr), some (.int (nI top)), some (.int (nI i)), some (.int (nI 13)), some (.int (nI b)), some (.long R), none, some (.long L), none, some (.long v), none] J) : rnr l ru ta rs I Rp d (n + 1) 125 [some (.ref 23), some (.int w), some (.int gr), some (.int (nI top)), some (.int (nI i)), some (.int (nI 13)), some (.int (nI b)), some (.long R), none, some (.long L), none, o11, none] J := by
  refine xrun_step fun K hK => ?_
  refine And.intro (fun z => absurd (show nI 13 = nI 0 from z) (by decide)) (fun _ => ?_)
  refine And.intro (fun z => absurd (show nI 13 = nI 1 from z) (by decide)) (fun _ => ?_)
  refine And.intro (fun z => absurd (show nI 13 = nI 2 from z) (by decide)) (fun _ => ?_)
  refine And.intro (fun z => absurd (show nI 13 = nI 3 from z) (by decide)) (fun _ => ?_)
  refine And.intro (fun z => absurd (show nI 13 = nI 4 from z) (by decide)) (fun _ => ?_)
  refine And.intro (fun z => absurd (show nI 13 = nI 5 from z) (by decide)) (fun _ => ?_)
  refine And.intro (fun z => absurd (show nI 13 = nI 6 from z) (by decide)) (fun _ => ?_)
  refine And.intro (fun z => absurd (show nI 13 = nI 7 from z) (by decide)) (fun _ => ?_)
  refine And.intro (fun z => absurd (show nI 13 = nI 8 from z) (by decide)) (fun _ => ?_)
  refine And.intro (fun z => absurd (show nI 13 = nI 9 from z) (by decide)) (fun _ => ?_)
  refine And.intro (fun z => absurd (show nI 13 = nI 10 from z) (by decide)) (fun _ => ?_)
  refine And.intro (fun z => absurd (show nI 13 = nI 11 from z) (by decide)) (fun _ => ?_)
  refine And.intro (fun z => absurd (show nI 13 = nI 12 from z) (by decide)) (fun _ => ?_)
  refine And.intro (fun _ => ?_) (fun z => absurd (show nI 13 = nI 13 from rfl) z)
  have e1 : L.toInt = R.toInt → wrk 61 L.toInt R.toInt = 1 := fun h => if_pos h
  have e2 : ¬ (L.toInt = R.toInt) → wrk 61 L.toInt R.toInt = 0 := fun h => if_neg h
  refine And.intro (fun h => ?_) (fun h => ?_)
  · have h2 : ¬ L.toInt = R.toInt := fun z => h (lc_eq.mpr z)
    exact hK 449 [some (.ref 23), some (.int w), some (.int gr), some (.int (nI top)), some (.int (nI i)), some (.int (nI 13)), some (.int (nI b)), some (.long R), none, some (.long L), none, some (.long (0)), none] [] _ I J 0 0 (nxt _ (by rw [e2 h2]; exact i64_0))
  · have h2 := lc_eq.mp (show lg_cmp L R = 0 from h)
    exact hK 449 [some (.ref 23), some (.int w), some (.int gr), some (.int (nI top)), some (.int (nI i)), some (.int (nI 13)), some (.int (nI b)), some (.long R), none, some (.long L), none, some (.long (1)), none] [] _ I J 0 0 (nxt _ (by rw [e1 h2]; exact i64_1))
set_option maxRecDepth 100000 in
set_option maxHeartbeats 4000000 in
theorem rn_op14 (ru : Nat) (w gr : Int32) (top i b : Nat) (R L : Int64) (o11 : Option Value) (n : Nat) (J : XJ) (nxt : ∀ v : Int64, v.toInt = wrk 35 L.toInt R.toInt → rnr l ru ta rs I Rp d n 449 [some (.ref 23), some (.int w), some (.int gr), some (.int (nI top)), some (.int (nI i)), some (.int (nI 14)), some (.int (nI b)), some (.long R), none, some (.long L), none, some (.long v), none] J) : rnr l ru ta rs I Rp d (n + 1) 125 [some (.ref 23), some (.int w), some (.int gr), some (.int (nI top)), some (.int (nI i)), some (.int (nI 14)), some (.int (nI b)), some (.long R), none, some (.long L), none, o11, none] J := by
  refine xrun_step fun K hK => ?_
  refine And.intro (fun z => absurd (show nI 14 = nI 0 from z) (by decide)) (fun _ => ?_)
  refine And.intro (fun z => absurd (show nI 14 = nI 1 from z) (by decide)) (fun _ => ?_)
  refine And.intro (fun z => absurd (show nI 14 = nI 2 from z) (by decide)) (fun _ => ?_)
  refine And.intro (fun z => absurd (show nI 14 = nI 3 from z) (by decide)) (fun _ => ?_)
  refine And.intro (fun z => absurd (show nI 14 = nI 4 from z) (by decide)) (fun _ => ?_)
  refine And.intro (fun z => absurd (show nI 14 = nI 5 from z) (by decide)) (fun _ => ?_)
  refine And.intro (fun z => absurd (show nI 14 = nI 6 from z) (by decide)) (fun _ => ?_)
  refine And.intro (fun z => absurd (show nI 14 = nI 7 from z) (by decide)) (fun _ => ?_)
  refine And.intro (fun z => absurd (show nI 14 = nI 8 from z) (by decide)) (fun _ => ?_)
  refine And.intro (fun z => absurd (show nI 14 = nI 9 from z) (by decide)) (fun _ => ?_)
  refine And.intro (fun z => absurd (show nI 14 = nI 10 from z) (by decide)) (fun _ => ?_)
  refine And.intro (fun z => absurd (show nI 14 = nI 11 from z) (by decide)) (fun _ => ?_)
  refine And.intro (fun z => absurd (show nI 14 = nI 12 from z) (by decide)) (fun _ => ?_)
  refine And.intro (fun z => absurd (show nI 14 = nI 13 from z) (by decide)) (fun _ => ?_)
  refine And.intro (fun _ => ?_) (fun z => absurd (show nI 14 = nI 14 from rfl) z)
  have e1 : ¬ L.toInt = R.toInt → wrk 35 L.toInt R.toInt = 1 := fun h => if_neg h
  have e2 : L.toInt = R.toInt → wrk 35 L.toInt R.toInt = 0 := fun h => if_pos h
  refine And.intro (fun h => ?_) (fun h => ?_)
  · have h2 := lc_eq.mp (show lg_cmp L R = 0 from h)
    exact hK 449 [some (.ref 23), some (.int w), some (.int gr), some (.int (nI top)), some (.int (nI i)), some (.int (nI 14)), some (.int (nI b)), some (.long R), none, some (.long L), none, some (.long (0)), none] [] _ I J 0 0 (nxt _ (by rw [e2 h2]; exact i64_0))
  · have h2 : ¬ L.toInt = R.toInt := fun z => h (lc_eq.mpr z)
    exact hK 449 [some (.ref 23), some (.int w), some (.int gr), some (.int (nI top)), some (.int (nI i)), some (.int (nI 14)), some (.int (nI b)), some (.long R), none, some (.long L), none, some (.long (1)), none] [] _ I J 0 0 (nxt _ (by rw [e1 h2]; exact i64_1))
set_option maxRecDepth 100000 in
set_option maxHeartbeats 4000000 in
theorem rn_op15 (ru : Nat) (w gr : Int32) (top i b : Nat) (R L : Int64) (o11 : Option Value) (n : Nat) (J : XJ) (hR : R.toInt = 0 ∨ R.toInt = 1) (hL : L.toInt = 0 ∨ L.toInt = 1) (nxt : ∀ v : Int64, v.toInt = wrk 406 L.toInt R.toInt → rnr l ru ta rs I Rp d n 449 [some (.ref 23), some (.int w), some (.int gr), some (.int (nI top)), some (.int (nI i)), some (.int (nI 15)), some (.int (nI b)), some (.long R), none, some (.long L), none, some (.long v), none] J) : rnr l ru ta rs I Rp d (n + 1) 125 [some (.ref 23), some (.int w), some (.int gr), some (.int (nI top)), some (.int (nI i)), some (.int (nI 15)), some (.int (nI b)), some (.long R), none, some (.long L), none, o11, none] J := by
  refine xrun_step fun K hK => ?_
  refine And.intro (fun z => absurd (show nI 15 = nI 0 from z) (by decide)) (fun _ => ?_)
  refine And.intro (fun z => absurd (show nI 15 = nI 1 from z) (by decide)) (fun _ => ?_)
  refine And.intro (fun z => absurd (show nI 15 = nI 2 from z) (by decide)) (fun _ => ?_)
  refine And.intro (fun z => absurd (show nI 15 = nI 3 from z) (by decide)) (fun _ => ?_)
  refine And.intro (fun z => absurd (show nI 15 = nI 4 from z) (by decide)) (fun _ => ?_)
  refine And.intro (fun z => absurd (show nI 15 = nI 5 from z) (by decide)) (fun _ => ?_)
  refine And.intro (fun z => absurd (show nI 15 = nI 6 from z) (by decide)) (fun _ => ?_)
  refine And.intro (fun z => absurd (show nI 15 = nI 7 from z) (by decide)) (fun _ => ?_)
  refine And.intro (fun z => absurd (show nI 15 = nI 8 from z) (by decide)) (fun _ => ?_)
  refine And.intro (fun z => absurd (show nI 15 = nI 9 from z) (by decide)) (fun _ => ?_)
  refine And.intro (fun z => absurd (show nI 15 = nI 10 from z) (by decide)) (fun _ => ?_)
  refine And.intro (fun z => absurd (show nI 15 = nI 11 from z) (by decide)) (fun _ => ?_)
  refine And.intro (fun z => absurd (show nI 15 = nI 12 from z) (by decide)) (fun _ => ?_)
  refine And.intro (fun z => absurd (show nI 15 = nI 13 from z) (by decide)) (fun _ => ?_)
  refine And.intro (fun z => absurd (show nI 15 = nI 14 from z) (by decide)) (fun _ => ?_)
  refine And.intro (fun _ => ?_) (fun z => absurd (show nI 15 = nI 15 from rfl) z)
  exact hK 449 [some (.ref 23), some (.int w), some (.int gr), some (.int (nI top)), some (.int (nI i)), some (.int (nI 15)), some (.int (nI b)), some (.long R), none, some (.long L), none, some (.long (L &&& R)), none] [] _ I J 0 0 (nxt _ (bit_406 hL hR))
set_option maxRecDepth 100000 in
set_option maxHeartbeats 4000000 in
theorem rn_op16 (ru : Nat) (w gr : Int32) (top i b : Nat) (R L : Int64) (o11 : Option Value) (n : Nat) (J : XJ) (hR : R.toInt = 0 ∨ R.toInt = 1) (hL : L.toInt = 0 ∨ L.toInt = 1) (nxt : ∀ v : Int64, v.toInt = wrk 407 L.toInt R.toInt → rnr l ru ta rs I Rp d n 449 [some (.ref 23), some (.int w), some (.int gr), some (.int (nI top)), some (.int (nI i)), some (.int (nI 16)), some (.int (nI b)), some (.long R), none, some (.long L), none, some (.long v), none] J) : rnr l ru ta rs I Rp d (n + 1) 125 [some (.ref 23), some (.int w), some (.int gr), some (.int (nI top)), some (.int (nI i)), some (.int (nI 16)), some (.int (nI b)), some (.long R), none, some (.long L), none, o11, none] J := by
  refine xrun_step fun K hK => ?_
  refine And.intro (fun z => absurd (show nI 16 = nI 0 from z) (by decide)) (fun _ => ?_)
  refine And.intro (fun z => absurd (show nI 16 = nI 1 from z) (by decide)) (fun _ => ?_)
  refine And.intro (fun z => absurd (show nI 16 = nI 2 from z) (by decide)) (fun _ => ?_)
  refine And.intro (fun z => absurd (show nI 16 = nI 3 from z) (by decide)) (fun _ => ?_)
  refine And.intro (fun z => absurd (show nI 16 = nI 4 from z) (by decide)) (fun _ => ?_)
  refine And.intro (fun z => absurd (show nI 16 = nI 5 from z) (by decide)) (fun _ => ?_)
  refine And.intro (fun z => absurd (show nI 16 = nI 6 from z) (by decide)) (fun _ => ?_)
  refine And.intro (fun z => absurd (show nI 16 = nI 7 from z) (by decide)) (fun _ => ?_)
  refine And.intro (fun z => absurd (show nI 16 = nI 8 from z) (by decide)) (fun _ => ?_)
  refine And.intro (fun z => absurd (show nI 16 = nI 9 from z) (by decide)) (fun _ => ?_)
  refine And.intro (fun z => absurd (show nI 16 = nI 10 from z) (by decide)) (fun _ => ?_)
  refine And.intro (fun z => absurd (show nI 16 = nI 11 from z) (by decide)) (fun _ => ?_)
  refine And.intro (fun z => absurd (show nI 16 = nI 12 from z) (by decide)) (fun _ => ?_)
  refine And.intro (fun z => absurd (show nI 16 = nI 13 from z) (by decide)) (fun _ => ?_)
  refine And.intro (fun z => absurd (show nI 16 = nI 14 from z) (by decide)) (fun _ => ?_)
  refine And.intro (fun z => absurd (show nI 16 = nI 15 from z) (by decide)) (fun _ => ?_)
  exact hK 449 [some (.ref 23), some (.int w), some (.int gr), some (.int (nI top)), some (.int (nI i)), some (.int (nI 16)), some (.int (nI b)), some (.long R), none, some (.long L), none, some (.long (L ||| R)), none] [] _ I J 0 0 (nxt _ (bit_407 hL hR))
/-- the class's names: those that law kk may use -/
def NMc (r : Nat → Int32) (kk : Nat) (nm : Nat → Int) : Prop := ∀ n, n ≤ 10 → myN n kk = true → (r (rnm n)).toInt = nm n ∧ inM (nm n)
theorem rnm_le {n : Nat} (h : n ≤ 10) : rnm n < 11 := by
  have : ∀ n, n < 11 → rnm n < 11 := by decide
  exact this n (by omega)
theorem PLr.top {r : Nat → Int64} {x : Int} {p : List Int} (h : PLr r (x :: p)) : (r ((x :: p).length - 1)).toInt = x := h.1
theorem PLr.snd {r : Nat → Int64} {y x : Int} {p : List Int} (h : PLr r (y :: x :: p)) : (r ((y :: x :: p).length - 2)).toInt = x := h.2.1
set_option maxRecDepth 100000 in
set_option maxHeartbeats 16000000 in
theorem rn_loop (ru : Nat) (hru : TSP ru) (kk w G S : Nat) (hw : w < 5) (hG : G < 10000) (hS : I (ru + 3) w = nI S) (h300 : S ≤ 300) (nm : Nat → Int) (hnm : NMc (I 24) kk nm) (J0 : XJ) (x : Int) (hR : ∀ J' : XJ, (∀ q, q ≠ 25 → J' q = J0 q) → Rp (some (.int (nI (hld x 0 G).toNat))) (shH ru ta rs) I J') : ∀ (e : List Odr) (c : Nat) (t : List Bool) (b : Bool) (p : List Int) (o5 o6 o7 o9 o11 : Option Value) (J : XJ), Cds (I (ru + 1)) c e → c + e.length = S → tyE kk e t = some [b] → VT t p → PLr (J 25) p → (∀ q, q ≠ 25 → J q = J0 q) → t.length ≤ 64 → smE nm e p = [x] → rnr l ru ta rs I Rp d (4 * e.length + 1) 24 (rnL (nI w) (nI G) p.length c o5 o6 o7 o9 o11) J := by
  intro e
  induction e with
  | nil =>
    intro c t b p o5 o6 o7 o9 o11 J hC hc hT hV hP hJ h64 hx
    have hc : c = S := by simpa using hc
    subst hc
    have hx : p = [x] := hx
    subst hx
    have vw : vp_in (nI w) 5 := vp_in_nI hw (by omega)
    have cw : (nI w).toNatClampNeg = w := nI_clamp (by omega)
    have g0 : ¬ nI c < nI 0 := nI_nlt (by omega) (by omega)
    have gS : I (ru + 3) (nI w).toNatClampNeg ≤ nI c := by
      rw [cw, hS]
      exact nI_le (Nat.le_refl _) (by omega)
    have ev : (J 25 0).toInt = x := hP.1
    have hr := cl_hld (J 25 0) G hG
    rw [ev] at hr
    have fin := hR J hJ
    rw [← hr] at fin
    rcases hru with rfl | rfl | rfl | rfl | rfl
    all_goals
      refine xrun_step fun K hK => ?_
      refine And.intro (fun z => absurd z g0) (fun _ => ?_)
      refine And.intro vw ?_
      refine And.intro (fun _ => ?_) (fun z => absurd gS z)
      refine And.intro (fun z => absurd (show nI 1 ≤ nI 0 from z) (by decide)) (fun _ => ?_)
      refine And.intro (vp_b (by decide)) ?_
      exact fin
  | cons o1 e ih =>
    intro c t b p o5 o6 o7 o9 o11 J hC hc hT hV hP hJ h64 hx
    have hlen : t.length = p.length := hV.len
    simp only [List.length_cons] at hc
    have hc1 : I (ru + 1) c = nI (10000 * opa o1 + opb o1) := by rw [hC.1, ccd_ab]
    obtain ⟨u, hu, hT2⟩ : ∃ u, tyo kk o1 t = some u ∧ tyE kk e u = some [b] := by
      unfold tyE at hT
      split at hT
      · rename_i u hu
        exact ⟨u, hu, hT⟩
      · cases hT
    have hx2 : smE nm e (sm1 nm o1 p) = [x] := hx
    rw [show 4 * (o1 :: e).length + 1 = 4 * e.length + 1 + 1 + 1 + 1 + 1 by simp only [List.length_cons]; omega]
    -- behind one order
    have nxt : ∀ (p' : List Int) (top' : Nat) (v : Int64) (o5 o6 o7 o9 o11 : Option Value) (q : List Int) (y : Int), sm1 nm o1 p = p' → p' = y :: q → top' = p'.length → VT u p' → u.length ≤ 64 → PLr (J 25) q → v.toInt = y → rnr l ru ta rs I Rp d (4 * e.length + 1) 24 (rnL (nI w) (nI G) top' (c + 1) o5 o6 o7 o9 o11) (uJ J 25 (top' - 1) v) := by
      intro p' top' v o5 o6 o7 o9 o11 q y h1 h2 h3 h4 h5 h6 h7
      subst h3
      refine ih (c + 1) u b p' o5 o6 o7 o9 o11 _ hC.2 (by omega) hT2 h4 ?_ (fun q' hq' => (uJ_ne hq').trans (hJ q' hq')) h5 (by rw [← h1]; exact hx2)
      rw [uJ_eq, h2]
      exact h6.put (by simp) h7
    have big : inM 10000 := ⟨by omega, by omega⟩
    rcases tyo_el hu with ⟨ho, h1, h2, h3⟩ | ⟨ho, h1, h2, h3, h4⟩ | ⟨ho, v, h1, h2⟩ | ⟨ho, h0, v, h1, h2⟩ | ⟨ho, v, h1, h2⟩ | hbin
    · -- a number
      have ea : opa o1 = 0 := by unfold opa; rw [ho]; rfl
      have eb : opb o1 = o1.2 := by unfold opb; rw [ho]; rfl
      have hi : inM (o1.2 : Int) := ⟨by omega, by omega⟩
      refine rn_24 l ta rs I Rp d ru hru (nI G) w p.length c S 0 o1.2 o5 o6 o7 o9 o11 _ J hw (by omega) hS (by omega) h300 (by rw [hc1, ea, eb]) (by omega) h2 (fun x y R L hx hy hR hL => ?_)
      subst hx hy
      refine rn_op0 l ta rs I Rp d ru (nI w) (nI G) p.length c o1.2 R L o11 _ J h2 (fun v hv => ?_)
      refine rn_449 l ta rs I Rp d ru (nI w) (nI G) p.length (p.length + 1) c 0 v _ _ _ _ J (by omega) (Or.inl ⟨by omega, rfl⟩) (by omega) (by omega) (by omega) (fun z hz => ?_)
      refine nxt ((o1.2 : Int) :: p) (p.length + 1) z _ _ _ _ _ p _ ?_ rfl (by simp) (by rw [h3]; exact ⟨hi, hV⟩) (by rw [h3, List.length_cons]; omega) hP (by rw [hz, hv, bnd_id hi])
      unfold sm1
      rw [ho]
      rfl
    · -- a name
      have ea : opa o1 = 1 := by unfold opa; rw [ho]; rfl
      have eb : opb o1 = rnm o1.2 := by unfold opb; rw [ho]; rfl
      have hm := hnm o1.2 h3 h2
      have hb := rnm_le h3
      refine rn_24 l ta rs I Rp d ru hru (nI G) w p.length c S 1 (rnm o1.2) o5 o6 o7 o9 o11 _ J hw (by omega) hS (by omega) h300 (by rw [hc1, ea, eb]) (by omega) (by omega) (fun x y R L hx hy hR hL => ?_)
      subst hx hy
      refine rn_op1 l ta rs I Rp d ru (nI w) (nI G) p.length c (rnm o1.2) R L o11 _ J hb (fun v hv => ?_)
      refine rn_449 l ta rs I Rp d ru (nI w) (nI G) p.length (p.length + 1) c 1 v _ _ _ _ J (by omega) (Or.inl ⟨by omega, rfl⟩) (by omega) (by omega) (by omega) (fun z hz => ?_)
      refine nxt (nm o1.2 :: p) (p.length + 1) z _ _ _ _ _ p _ ?_ rfl (by simp) (by rw [h4]; exact ⟨hm.2, hV⟩) (by rw [h4, List.length_cons]; omega) hP (by rw [hz, hv, hm.1, bnd_id hm.2])
      unfold sm1
      rw [ho]
      rfl
    · -- minus
      subst h1
      obtain ⟨z0, q, rfl, hVq⟩ := VT_1 hV
      have ea : opa o1 = 2 := by unfold opa; rw [ho]; rfl
      have eb : opb o1 = 0 := by unfold opb; rw [ho]; rfl
      have hq := hP.top
      have hin : inM z0 := hVq.1
      have hl2 : 1 ≤ (z0 :: q).length := by simp
      simp only [List.length_cons] at h64
      have hl3 : (z0 :: q).length ≤ 64 := by
        rw [← hlen, List.length_cons]
        omega
      refine rn_24 l ta rs I Rp d ru hru (nI G) w (z0 :: q).length c S 2 0 o5 o6 o7 o9 o11 _ J hw hl3 hS (by omega) h300 (by rw [hc1, ea, eb]) (by omega) (by omega) (fun x y R L hx hy hR hL => ?_)
      subst hx hy
      have hR := hR hl2
      have hR2 : R.toInt = z0 := by rw [hR]; exact hq
      refine rn_op2 l ta rs I Rp d ru (nI w) (nI G) (z0 :: q).length c 0 R L o11 _ J (by rw [hR2]; exact hin) (fun v hv => ?_)
      refine rn_449 l ta rs I Rp d ru (nI w) (nI G) (z0 :: q).length (z0 :: q).length c 2 v _ _ _ _ J (by omega) (Or.inr (Or.inl ⟨by omega, by omega, rfl⟩)) hl2 hl3 (by omega) (fun z hz => ?_)
      have hval : inM (-z0) := ⟨by have := hin.1; have := hin.2; omega, by have := hin.1; have := hin.2; omega⟩
      refine nxt (-z0 :: q) (z0 :: q).length z _ _ _ _ _ q _ ?_ rfl (by simp) (by rw [h2]; exact ⟨hval, hVq.2⟩) (by rw [h2, List.length_cons]; omega) hP.2 (by rw [hz, hv, hR2, bnd_id hval])
      unfold sm1
      rw [ho]
      rfl
    · -- part
      subst h1
      obtain ⟨z0, q, rfl, hVq⟩ := VT_1 hV
      have ea : opa o1 = 3 := by unfold opa; rw [ho]; rfl
      have eb : opb o1 = o1.2 := by unfold opb; rw [ho]; rfl
      have hq := hP.top
      have hin : inM z0 := hVq.1
      have hl2 : 1 ≤ (z0 :: q).length := by simp
      simp only [List.length_cons] at h64
      have hl3 : (z0 :: q).length ≤ 64 := by
        rw [← hlen, List.length_cons]
        omega
      refine rn_24 l ta rs I Rp d ru hru (nI G) w (z0 :: q).length c S 3 o1.2 o5 o6 o7 o9 o11 _ J hw hl3 hS (by omega) h300 (by rw [hc1, ea, eb]) (by omega) (by omega) (fun x y R L hx hy hR hL => ?_)
      subst hx hy
      have hR := hR hl2
      have hR2 : R.toInt = z0 := by rw [hR]; exact hq
      refine rn_op3 l ta rs I Rp d ru (nI w) (nI G) (z0 :: q).length c o1.2 R L o11 _ J (by rw [hR2]; exact hin) h0 (fun v hv => ?_)
      refine rn_449 l ta rs I Rp d ru (nI w) (nI G) (z0 :: q).length (z0 :: q).length c 3 v _ _ _ _ J (by omega) (Or.inr (Or.inl ⟨by omega, by omega, rfl⟩)) hl2 hl3 (by omega) (fun z hz => ?_)
      have hval : inM ((z0 * (o1.2 : Int)).tdiv 100) := part_in hin h0
      refine nxt ((z0 * (o1.2 : Int)).tdiv 100 :: q) (z0 :: q).length z _ _ _ _ _ q _ ?_ rfl (by simp) (by rw [h2]; exact ⟨hval, hVq.2⟩) (by rw [h2, List.length_cons]; omega) hP.2 (by rw [hz, hv, hR2, bnd_id hval])
      unfold sm1
      rw [ho]
      rfl
    · -- not
      subst h1
      obtain ⟨z0, q, rfl, hVq⟩ := VT_1 hV
      have ea : opa o1 = 4 := by unfold opa; rw [ho]; rfl
      have eb : opb o1 = 0 := by unfold opb; rw [ho]; rfl
      have hq := hP.top
      have hin : z0 = 0 ∨ z0 = 1 := hVq.1
      have hl2 : 1 ≤ (z0 :: q).length := by simp
      simp only [List.length_cons] at h64
      have hl3 : (z0 :: q).length ≤ 64 := by
        rw [← hlen, List.length_cons]
        omega
      refine rn_24 l ta rs I Rp d ru hru (nI G) w (z0 :: q).length c S 4 0 o5 o6 o7 o9 o11 _ J hw hl3 hS (by omega) h300 (by rw [hc1, ea, eb]) (by omega) (by omega) (fun x y R L hx hy hR hL => ?_)
      subst hx hy
      have hR := hR hl2
      have hR2 : R.toInt = z0 := by rw [hR]; exact hq
      refine rn_op4 l ta rs I Rp d ru (nI w) (nI G) (z0 :: q).length c 0 R L o11 _ J (by rw [hR2]; exact VT_b01 hin) (fun v hv => ?_)
      refine rn_449 l ta rs I Rp d ru (nI w) (nI G) (z0 :: q).length (z0 :: q).length c 4 v _ _ _ _ J (by omega) (Or.inr (Or.inl ⟨by omega, by omega, rfl⟩)) hl2 hl3 (by omega) (fun z hz => ?_)
      have hval : inM (1 - z0) := by rcases hin with e | e <;> rw [e] <;> exact ⟨by omega, by omega⟩
      refine nxt ((1 - z0) :: q) (z0 :: q).length z _ _ _ _ _ q _ ?_ rfl (by simp) (by rw [h2]; exact ⟨by rcases hin with e | e <;> rw [e] <;> simp, hVq.2⟩) (by rw [h2, List.length_cons]; omega) hP.2 (by rw [hz, hv, hR2, bnd_id hval])
      unfold sm1
      rw [ho]
      rfl
    · -- two become one
      obtain ⟨hop, y0, x0, q, rfl, hsm, hxi, hyi, hVu⟩ := bin_el (nm := nm) hbin hV h64
      have hl2 : 2 ≤ (y0 :: x0 :: q).length := by simp
      have hl3 : (y0 :: x0 :: q).length ≤ 64 := by
        rw [← hlen]
        exact h64
      have hw2 : (y0 :: x0 :: q).length = (wrk o1.1 x0 y0 :: q).length + 1 := by simp
      have eb : opb o1 = 0 := by
        unfold op2 at hop
        unfold opb
        rw [if_neg (by omega), if_neg (by omega), if_neg (by omega)]
      have hqy := hP.top
      have hqx := hP.snd
      have hWi : inM (wrk o1.1 x0 y0) := by
        rcases hbin with ⟨h, _⟩ | ⟨h, _⟩ | ⟨h, v, e1, e2⟩
        · exact wrk_num h hxi
        · exact VT_b01 (wrk_b01 h)
        · subst e1
          have hy : y0 = 0 ∨ y0 = 1 := hV.1
          have hx : x0 = 0 ∨ x0 = 1 := hV.2.1
          rcases h with h | h <;> rw [h]
          · exact VT_b01 (wrk_and hx hy)
          · exact VT_b01 (wrk_or hx hy)
      -- which of them
      have go : ∀ m : Nat, opa o1 = m → 5 ≤ m → m ≤ 16 → (∀ (R L : Int64) (o11 : Option Value) (n : Nat), R.toInt = y0 → L.toInt = x0 → (∀ v : Int64, bnd v.toInt = wrk o1.1 x0 y0 → rnr l ru ta rs I Rp d n 449 [some (.ref 23), some (.int (nI w)), some (.int (nI G)), some (.int (nI (y0 :: x0 :: q).length)), some (.int (nI c)), some (.int (nI m)), some (.int (nI 0)), some (.long R), none, some (.long L), none, some (.long v), none] J) → rnr l ru ta rs I Rp d (n + 1) 125 [some (.ref 23), some (.int (nI w)), some (.int (nI G)), some (.int (nI (y0 :: x0 :: q).length)), some (.int (nI c)), some (.int (nI m)), some (.int (nI 0)), some (.long R), none, some (.long L), none, o11, none] J) → rnr l ru ta rs I Rp d (4 * e.length + 1 + 1 + 1 + 1 + 1) 24 (rnL (nI w) (nI G) (y0 :: x0 :: q).length c o5 o6 o7 o9 o11) J := by
        intro m em hm5 hm16 hstep
        refine rn_24 l ta rs I Rp d ru hru (nI G) w (y0 :: x0 :: q).length c S m 0 o5 o6 o7 o9 o11 _ J hw hl3 hS (by omega) h300 (by rw [hc1, em, eb]) hm16 (by omega) (fun x y R L hx hy hR hL => ?_)
        subst hx hy
        have hR2 : R.toInt = y0 := by rw [hR (by omega)]; exact hqy
        have hL2 : L.toInt = x0 := by rw [hL hl2]; exact hqx
        refine hstep R L o11 _ hR2 hL2 (fun v hv => ?_)
        refine rn_449 l ta rs I Rp d ru (nI w) (nI G) (y0 :: x0 :: q).length (wrk o1.1 x0 y0 :: q).length c m v _ _ _ _ J hm16 (Or.inr (Or.inr ⟨hm5, hw2⟩)) (by simp) (by omega) (by omega) (fun z hz => ?_)
        exact nxt (wrk o1.1 x0 y0 :: q) _ z _ _ _ _ _ q _ hsm rfl rfl hVu.1 hVu.2 hP.2.2 (hz.trans hv)
      have b01 : opa o1 = 15 ∨ opa o1 = 16 → (y0 = 0 ∨ y0 = 1) ∧ (x0 = 0 ∨ x0 = 1) := by
        intro ha
        rcases hbin with ⟨h, _⟩ | ⟨h, _⟩ | ⟨h, v, e1, e2⟩
        · exfalso
          unfold opa at ha
          rcases h with h | h | h | h <;> rw [h] at ha <;> exact absurd ha (by decide)
        · exfalso
          unfold opa at ha
          rcases h with h | h | h | h | h | h <;> rw [h] at ha <;> exact absurd ha (by decide)
        · subst e1
          exact ⟨hV.1, hV.2.1⟩
      rcases hop with h | h | h | h | h | h | h | h | h | h | h | h
      · exact go 5 (by unfold opa; rw [h]; rfl) (by omega) (by omega) (fun R L o11 n hR hL hn => rn_op5 l ta rs I Rp d ru (nI w) (nI G) _ c 0 R L o11 n J (by rw [hR]; exact hyi) (by rw [hL]; exact hxi) (fun v hv => hn v (by rw [h, hv, hR, hL]; rfl)))
      · exact go 6 (by unfold opa; rw [h]; rfl) (by omega) (by omega) (fun R L o11 n hR hL hn => rn_op6 l ta rs I Rp d ru (nI w) (nI G) _ c 0 R L o11 n J (by rw [hR]; exact hyi) (by rw [hL]; exact hxi) (fun v hv => hn v (by rw [h, hv, hR, hL]; rfl)))
      · exact go 7 (by unfold opa; rw [h]; rfl) (by omega) (by omega) (fun R L o11 n hR hL hn => rn_op7 l ta rs I Rp d ru (nI w) (nI G) _ c 0 R L o11 n J (by rw [hR]; exact hyi) (by rw [hL]; exact hxi) (fun v hv => hn v (by rw [h, hv, hR, hL]; rfl)))
      · exact go 8 (by unfold opa; rw [h]; rfl) (by omega) (by omega) (fun R L o11 n hR hL hn => rn_op8 l ta rs I Rp d ru (nI w) (nI G) _ c 0 R L o11 n J (by rw [hR]; exact hyi) (by rw [hL]; exact hxi) (fun v hv => hn v (by rw [hv, hR, hL, ← h]; exact bnd_id hWi)))
      · exact go 9 (by unfold opa; rw [h]; rfl) (by omega) (by omega) (fun R L o11 n hR hL hn => rn_op9 l ta rs I Rp d ru (nI w) (nI G) _ c 0 R L o11 n J  (fun v hv => hn v (by rw [hv, hR, hL, ← h]; exact bnd_id hWi)))
      · exact go 11 (by unfold opa; rw [h]; rfl) (by omega) (by omega) (fun R L o11 n hR hL hn => rn_op11 l ta rs I Rp d ru (nI w) (nI G) _ c 0 R L o11 n J  (fun v hv => hn v (by rw [hv, hR, hL, ← h]; exact bnd_id hWi)))
      · exact go 13 (by unfold opa; rw [h]; rfl) (by omega) (by omega) (fun R L o11 n hR hL hn => rn_op13 l ta rs I Rp d ru (nI w) (nI G) _ c 0 R L o11 n J  (fun v hv => hn v (by rw [hv, hR, hL, ← h]; exact bnd_id hWi)))
      · exact go 14 (by unfold opa; rw [h]; rfl) (by omega) (by omega) (fun R L o11 n hR hL hn => rn_op14 l ta rs I Rp d ru (nI w) (nI G) _ c 0 R L o11 n J  (fun v hv => hn v (by rw [hv, hR, hL, ← h]; exact bnd_id hWi)))
      · exact go 10 (by unfold opa; rw [h]; rfl) (by omega) (by omega) (fun R L o11 n hR hL hn => rn_op10 l ta rs I Rp d ru (nI w) (nI G) _ c 0 R L o11 n J  (fun v hv => hn v (by rw [hv, hR, hL, ← h]; exact bnd_id hWi)))
      · exact go 12 (by unfold opa; rw [h]; rfl) (by omega) (by omega) (fun R L o11 n hR hL hn => rn_op12 l ta rs I Rp d ru (nI w) (nI G) _ c 0 R L o11 n J  (fun v hv => hn v (by rw [hv, hR, hL, ← h]; exact bnd_id hWi)))
      · exact go 15 (by unfold opa; rw [h]; rfl) (by omega) (by omega) (fun R L o11 n hR hL hn => rn_op15 l ta rs I Rp d ru (nI w) (nI G) _ c 0 R L o11 n J (by rw [hR]; exact (b01 (by unfold opa; rw [h]; decide)).1) (by rw [hL]; exact (b01 (by unfold opa; rw [h]; decide)).2) (fun v hv => hn v (by rw [hv, hR, hL, ← h]; exact bnd_id hWi)))
      · exact go 16 (by unfold opa; rw [h]; rfl) (by omega) (by omega) (fun R L o11 n hR hL hn => rn_op16 l ta rs I Rp d ru (nI w) (nI G) _ c 0 R L o11 n J (by rw [hR]; exact (b01 (by unfold opa; rw [h]; decide)).1) (by rw [hL]; exact (b01 (by unfold opa; rw [h]; decide)).2) (fun v hv => hn v (by rw [hv, hR, hL, ← h]; exact bnd_id hWi)))
set_option maxRecDepth 100000 in
set_option maxHeartbeats 4000000 in
theorem ex_run (ru : Nat) (hru : TSP ru) (kk w G st : Nat) (e : List Odr) (b : Bool) (hw : w < 5) (hG : G < 10000) (h2 : I (ru + 2) w = nI st) (h3 : I (ru + 3) w = nI (st + e.length)) (h300 : st + e.length ≤ 300) (hC : Cds (I (ru + 1)) st e) (hT : tyE kk e [] = some [b]) (nm : Nat → Int) (hnm : NMc (I 24) kk nm) (x : Int) (hx : smE nm e [] = [x]) (J : XJ) (hR : ∀ J' : XJ, (∀ q, q ≠ 25 → J' q = J q) → Rp (some (.int (nI (hld x 0 G).toNat))) (shH ru ta rs) I J') : xm l (d + 1) 0 0 mX2_run [.ref 23, .int (nI w), .int (nI G)] (shH ru ta rs) I J Rp := by
  refine xm_ofK (4 * e.length + 1) (X := xxX2) (t := tX2_run) (stop := [24, 88, 125, 449]) (ini := false) xx2 pl2 rfl kX2_run (fun h => by cases h) (Nat.le_of_ble_eq_true rfl) (fun K hK => ?_)
  have vw : vp_in (nI w) 5 := vp_in_nI hw (by omega)
  have cw : (nI w).toNatClampNeg = w := nI_clamp (by omega)
  have g0 : ¬ nI w < nI 0 := nI_nlt (by omega) (by omega)
  have g5 : nI w < nI 5 := nI_lt hw (by omega)
  have lp := rn_loop l ta rs I Rp d ru hru kk w G (st + e.length) hw hG h3 h300 nm hnm J x hR e st [] b [] none none none none none J hC rfl hT trivial trivial (fun _ _ => rfl) (by simp) hx
  have e2 : I (ru + 2) (nI w).toNatClampNeg = nI st := by rw [cw]; exact h2
  dsimp only [rnr, rnL] at lp
  rw [← e2] at lp
  rcases hru with rfl | rfl | rfl | rfl | rfl
  all_goals
    refine And.intro (fun z => absurd z g0) (fun _ => ?_)
    refine And.intro (fun _ => ?_) (fun z => absurd g5 z)
    refine And.intro vw ?_
    exact hK 24 _ [] _ I J 0 0 lp
end RUN
