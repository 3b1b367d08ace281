section RUN
variable (l : Launch) (ta : Nat) (rs : List XO) (I : XI) (Rp : XR) (d : Nat)
set_option maxRecDepth 100000 in
set_option maxHeartbeats 4000000 in
theorem rn_449 (ru : Nat) (w gr : Int32) (top top' i op : Nat) (v : Int64) (o6 o7 o9 : Option Value) (n : Nat) (J : XJ) (hop : op ≤ 16) (ht : (op ≤ 1 ∧ top' = top + 1) ∨ (2 ≤ op ∧ op < 5 ∧ top' = top) ∨ (5 ≤ op ∧ top = top' + 1)) (h1 : 1 ≤ top') (h64 : top' ≤ 64) (hi : i < 300) (nxt : ∀ c : Int64, c.toInt = bnd v.toInt → rnr l ru ta rs I Rp d n 24 (rnL w gr top' (i + 1) (some (.int (nI op))) o6 o7 o9 (some (.long v))) (uJ J 25 (top' - 1) c)) : rnr l ru ta rs I Rp d (n + 1) 449 (rnL w gr top i (some (.int (nI op))) o6 o7 o9 (some (.long v))) J := by
  have g1 : ¬ nI top' < nI 1 := nI_nlt h1 (by omega)
  have g2 : nI top' ≤ nI 64 := nI_le h64 (by omega)
  have e1 : nI top' - nI 1 = nI (top' - 1) := nI_subI h1 (by omega)
  have vp : vp_in (nI top' - nI 1) 64 := by
    rw [e1]
    exact vp_in_nI (by omega) (by omega)
  have ec : (nI top' - nI 1).toNatClampNeg = top' - 1 := by
    rw [e1]
    exact nI_clamp (by omega)
  refine xrun_step fun K hK => ?_
  rcases ht with ⟨h, ht⟩ | ⟨h, h', ht⟩ | ⟨h, ht⟩
  · have et : nI top + 1 = nI top' := by rw [ht]; exact nI_1 _
    refine And.intro (fun z => absurd (show nI 1 < nI op from z) (nI_nlt h (by omega))) (fun _ => ?_)
    refine And.intro (fun z => absurd (show nI top + 1 < nI 1 from z) (by rw [et]; exact g1)) (fun _ => ?_)
    refine And.intro (fun _ => ?_) (fun z => absurd (show nI top + 1 ≤ nI 64 by rw [et]; exact g2) z)
    refine And.intro (show vp_in (nI top + 1 - nI 1) 64 by rw [et]; exact vp) ?_
    refine hK 24 [some (.ref 23), some (.int w), some (.int gr), some (.int (nI top + 1)), some (.int (nI i + 1)), some (.int (nI op)), o6, o7, none, o9, none, some (.long v), none] [] (shH ru ta rs) I (uJ J 25 (nI top + 1 - nI 1).toNatClampNeg (if (if v < 1000000 then v else 1000000) < -1000000 then (-1000000 : Int64) else (if v < 1000000 then v else 1000000))) 0 0 ?_
    rw [et, nI_1, ec]
    exact nxt _ (cl_bnd v)
  · subst ht
    refine And.intro (fun _ => ?_) (fun z => absurd (show nI 1 < nI op from nI_lt (by omega) (by omega)) z)
    refine And.intro (fun _ => ?_) (fun z => absurd (show nI op < nI 5 from nI_lt h' (by omega)) z)
    refine And.intro (fun z => absurd (show nI top' < nI 1 from z) g1) (fun _ => ?_)
    refine And.intro (fun _ => ?_) (fun z => absurd (show nI top' ≤ nI 64 from g2) z)
    refine And.intro (show vp_in (nI top' - nI 1) 64 from vp) ?_
    refine hK 24 [some (.ref 23), some (.int w), some (.int gr), some (.int (nI top')), some (.int (nI i + 1)), some (.int (nI op)), o6, o7, none, o9, none, some (.long v), none] [] (shH ru ta rs) I (uJ J 25 (nI top' - nI 1).toNatClampNeg (if (if v < 1000000 then v else 1000000) < -1000000 then (-1000000 : Int64) else (if v < 1000000 then v else 1000000))) 0 0 ?_
    rw [nI_1, ec]
    exact nxt _ (cl_bnd v)
  · have et : nI top + (-1) = nI top' := by
      rw [nI_m1 (by omega), ht, Nat.add_sub_cancel]
    refine And.intro (fun _ => ?_) (fun z => absurd (show nI 1 < nI op from nI_lt (by omega) (by omega)) z)
    refine And.intro (fun z => absurd (show nI op < nI 5 from z) (nI_nlt h (by omega))) (fun _ => ?_)
    refine And.intro (fun z => absurd (show nI top + (-1) < nI 1 from z) (by rw [et]; exact g1)) (fun _ => ?_)
    refine And.intro (fun _ => ?_) (fun z => absurd (show nI top + (-1) ≤ nI 64 by rw [et]; exact g2) z)
    refine And.intro (show vp_in (nI top + (-1) - nI 1) 64 by rw [et]; exact vp) ?_
    refine hK 24 [some (.ref 23), some (.int w), some (.int gr), some (.int (nI top + (-1))), some (.int (nI i + 1)), some (.int (nI op)), o6, o7, none, o9, none, some (.long v), none] [] (shH ru ta rs) I (uJ J 25 (nI top + (-1) - nI 1).toNatClampNeg (if (if v < 1000000 then v else 1000000) < -1000000 then (-1000000 : Int64) else (if v < 1000000 then v else 1000000))) 0 0 ?_
    rw [et, nI_1, ec]
    exact nxt _ (cl_bnd v)
end RUN
