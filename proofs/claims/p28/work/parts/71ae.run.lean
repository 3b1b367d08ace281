section RUN
variable (l : Launch) (ta : Nat) (rs : List XO) (I : XI) (Rp : XR) (d : Nat)
set_option maxRecDepth 100000 in
set_option maxHeartbeats 16000000 in
theorem rn_88 (ru : Nat) (gr : Int32) (w x y : Int32) (top i : Nat) (o7 o9 o11 : Option Value) (n : Nat) (J : XJ) (h64 : top ≤ 64) (nxt : ∀ (R L : Int64), (1 ≤ top → R = J 25 (top - 1)) → (2 ≤ top → L = J 25 (top - 2)) → rnr l ru ta rs I Rp d n 125 [some (.ref 23), some (.int w), some (.int gr), some (.int (nI top)), some (.int (nI i)), some (.int x), some (.int y), some (.long R), none, some (.long L), none, o11, none] J) : rnr l ru ta rs I Rp d (n + 1) 88 [some (.ref 23), some (.int w), some (.int gr), some (.int (nI top)), some (.int (nI i)), some (.int x), some (.int y), o7, none, o9, none, o11, none] J := by
  have v1 : 1 ≤ top → vp_in (nI top - nI 1) 64 := fun h => by
    rw [nI_subI h (by omega)]
    exact vp_in_nI (by omega) (by omega)
  have v2 : 2 ≤ top → vp_in (nI top - nI 2) 64 := fun h => by
    rw [nI_subI h (by omega)]
    exact vp_in_nI (by omega) (by omega)
  have c1 : 1 ≤ top → (nI top - nI 1).toNatClampNeg = top - 1 := fun h => by
    rw [nI_subI h (by omega)]
    exact nI_clamp (by omega)
  have c2 : 2 ≤ top → (nI top - nI 2).toNatClampNeg = top - 2 := fun h => by
    rw [nI_subI h (by omega)]
    exact nI_clamp (by omega)
  have hn : ∀ m : Nat, m < 65 → top ≤ m → nI top ≤ nI m := fun m hm h => nI_le h (by omega)
  have hp : ∀ m : Nat, m < 65 → m < top → ¬ nI top ≤ nI m := fun m hm h => by
    rw [Int32.le_iff_toInt_le, nI_toInt (by omega), nI_toInt (by omega)]
    omega
  refine xrun_step fun K hK => ?_
  have hcase : top = 0 ∨ top = 1 ∨ 2 ≤ top := by omega
  rcases hcase with h | h | h
  · refine And.intro (fun _ => ?_) (fun z => absurd (hn 0 (by decide) (by omega)) z)
    refine And.intro (fun _ => ?_) (fun z => absurd (hn 1 (by decide) (by omega)) z)
    exact hK 125 [some (.ref 23), some (.int w), some (.int gr), some (.int (nI top)), some (.int (nI i)), some (.int x), some (.int y), some (.long _), none, some (.long _), none, o11, none] [] _ I J 0 0 (nxt _ _ (fun z => absurd z (by omega)) (fun z => absurd z (by omega)))
  · refine And.intro (fun z => absurd z (hp 0 (by decide) (by omega))) (fun _ => ?_)
    refine And.intro (v1 (by omega)) ?_
    refine And.intro (fun _ => ?_) (fun z => absurd (hn 1 (by decide) (by omega)) z)
    exact hK 125 [some (.ref 23), some (.int w), some (.int gr), some (.int (nI top)), some (.int (nI i)), some (.int x), some (.int y), some (.long _), none, some (.long _), none, o11, none] [] _ I J 0 0 (nxt _ _ (fun z => congrArg (J 25) (c1 z)) (fun z => absurd z (by omega)))
  · refine And.intro (fun z => absurd z (hp 0 (by decide) (by omega))) (fun _ => ?_)
    refine And.intro (v1 (by omega)) ?_
    refine And.intro (fun z => absurd z (hp 1 (by decide) (by omega))) (fun _ => ?_)
    refine And.intro (v2 (by omega)) ?_
    exact hK 125 [some (.ref 23), some (.int w), some (.int gr), some (.int (nI top)), some (.int (nI i)), some (.int x), some (.int y), some (.long _), none, some (.long _), none, o11, none] [] _ I J 0 0 (nxt _ _ (fun z => congrArg (J 25) (c1 z)) (fun z => congrArg (J 25) (c2 z)))
end RUN
