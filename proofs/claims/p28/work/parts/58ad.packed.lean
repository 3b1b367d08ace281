set_option maxRecDepth 100000 in
set_option maxHeartbeats 1000000 in
theorem pk99ga (N P : Nat) (i w : Int32) (h1 : 1 ≤ N) (h2 : N ≤ 4095) (hpc : P ≤ 6) (hi5 : inI (-1, 5) i.toInt) (ru ta : Nat) (rs : List XO) (I0 I : XI) (hs : shO CF (shH ru ta rs)) (hiv : ivO CF [] I) (hfr : frO [96, 97, 98] I0 I) (hb1 : inI (1, 4) (I 68 2).toInt) : ga CF [96, 97, 98] false (shH ru ta rs) I0 [0, (nI N).toInt, i.toInt, (nI P).toInt, w.toInt, (I 68 2).toInt] [0, (nI N).toInt, i.toInt, (nI P).toInt, w.toInt, (I 68 2).toInt] (stA pk_a99) [some (.ref 67), some (.int (nI N)), some (.int i), some (.int (nI P)), some (.int w), some (.int (nI 12)), none, none, none, none] [] (shH ru ta rs) I := by
  have hv : (nI N).toInt = (N : Int) := nI_toInt (by omega)
  have hp : (nI P).toInt = (P : Int) := nI_toInt (by omega)
  refine ⟨⟨⟨rfl, fun v z r hz hr => ?_⟩, rfl, fun _ _ z => z⟩, ⟨fun k a hk => ?_, trivial⟩, ⟨fun p k q hq => ?_, fun p k hn => hiv p k rfl, hfr⟩, hs, fun _ => rfl⟩
  · match v, hz, hr with
    | 0, hz, hr =>
      cases hz
      cases hr
      exact ⟨by decide, by decide⟩
    | 1, hz, hr =>
      cases hz
      cases hr
      rw [hv]
      exact ⟨by show (1 : Int) ≤ (N : Int); omega, by show (N : Int) ≤ 4095; omega⟩
    | 2, hz, hr =>
      cases hz
      cases hr
      exact hi5
    | 3, hz, hr =>
      cases hz
      cases hr
      rw [hp]
      exact ⟨by show (0 : Int) ≤ (P : Int); omega, by show (P : Int) ≤ 6; omega⟩
    | 4, hz, hr =>
      cases hz
      cases hr
      exact inI_fr w
    | 5, hz, hr =>
      cases hz
      cases hr
      exact hb1
    | _ + 6, hz, _ => cases hz
  · match k, hk with
    | 0, hk =>
      cases hk
      exact ⟨_, rfl, 67, by decide, rfl⟩
    | 1, hk =>
      cases hk
      exact ⟨_, rfl, _, rfl, _, rfl, by simp⟩
    | 2, hk =>
      cases hk
      exact ⟨_, rfl, _, rfl, _, rfl, by simp⟩
    | 3, hk =>
      cases hk
      exact ⟨_, rfl, _, rfl, _, rfl, by simp⟩
    | 4, hk =>
      cases hk
      exact ⟨_, rfl, _, rfl, _, rfl, by simp⟩
    | 5, hk =>
      cases hk
      exact ⟨_, rfl, trivial⟩
    | 6, hk =>
      cases hk
      exact ⟨_, rfl, trivial⟩
    | 7, hk =>
      cases hk
      exact ⟨_, rfl, trivial⟩
    | 8, hk =>
      cases hk
      exact ⟨_, rfl, trivial⟩
    | 9, hk =>
      cases hk
      exact ⟨_, rfl, trivial⟩
    | _ + 10, hk => cases hk
  · by_cases hh : p = 68 ∧ k = 2
    · obtain ⟨rfl, rfl⟩ := hh
      cases hq
      exact ⟨_, rfl, by simp⟩
    · replace hq : tF [(68, 2, 5, .ofNat 0)] p k = some q := hq
      rw [tF_ne hh] at hq
      cases hq
