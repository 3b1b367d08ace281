set_option maxRecDepth 100000 in
set_option maxHeartbeats 1000000 in
theorem pk99 (l : Launch) (d N : Nat) (i w : Int32) (h1 : 1 ≤ N) (h2 : N ≤ 4095) (hpc : pcN 12 N ≤ 6) (hi5 : inI (-1, 5) i.toInt) (ru ta : Nat) (rs : List XO) (I0 I : XI) (J : XJ) (Rp : XR) (hq0 : QQ I0) (hs : shO CF (shH ru ta rs)) (hO : outO QQ CF [96, 97, 98] false (shH ru ta rs) I0 ck_X12_packed_0.2.2.2.2.1 [.ref 67, .int (nI N), .int i] Rp) (ha : agO ck_X12_packed_0.2.1 [.ref 67, .int (nI N), .int i]) (hiv : ivO CF [] I) (hfr : frO [96, 97, 98] I0 I) (hw : I 68 2 = 0 → w = 0) : ∀ n : Nat, 32212254721 ≤ n → xrun xxX12 (some .int) false false (shH ru ta rs).length 0 0 none l (d + 19) tX12_packed pk_st Rp n 99 (pkL N i w 12) [] (shH ru ta rs) I J 0 0 := by
  intro n hn
  have hQ : ∀ I', frO [96, 97, 98] I0 I' → QQ I' := fun I' hf => qq_ok I0 I' (fun p hp => hf p (qp3 p hp)) hq0
  have hb : inI (0, 4) (I 68 2).toInt := hiv 68 2 rfl
  by_cases hB : I 68 2 = 0
  · have hw0 := hw hB
    subst hw0
    obtain ⟨n, rfl⟩ : ∃ n', n = n' + 1 + 1 := ⟨n - 2, by omega⟩
    refine xrun_step fun K hK => ?_
    refine hK 105 [some (.ref 67), some (.int (nI N)), some (.int i), some (.int (nI (pcN 12 N))), some (.int 0), some (.int (-1)), some (.int 0), none, none, none] [] (shH ru ta rs) I J 0 0 ?_
    refine xrun_step fun K hK => ?_
    refine And.intro (fun _ => ?_) (fun h => absurd (show (0 : Int32) ≤ 0 by decide) h)
    refine And.intro (fun _ => ?_) (fun h => absurd (show (-1 : Int32) = -1 from rfl) h)
    exact hO _ _ I J hs (fun _ => rfl) hiv (hQ I hfr) hfr ⟨_, List.mem_cons_self, one_post ha ⟨-1, rfl, inI_fr _⟩⟩
  · have hb1 : inI (1, 4) (I 68 2).toInt := by
      refine ⟨?_, hb.2⟩
      have z1 := hb.1
      have z2 : ¬ (I 68 2).toInt = 0 := fun z => hB (Int32.toInt_inj.mp (z.trans (by decide)))
      dsimp only at z1 ⊢
      omega
    refine pk_run l d false (shH ru ta rs).length 0 0 (shH ru ta rs) I0 [.ref 67, .int (nI N), .int i] Rp hQ hO rfl n 99 pk_a99 [0, (nI N).toInt, i.toInt, (nI (pcN 12 N)).toInt, w.toInt, (I 68 2).toInt] (pkL N i w 12) [] (shH ru ta rs) I J rfl ?_ ?_ ?_
    · exact pk99ga N (pcN 12 N) i w h1 h2 hpc hi5 ru ta rs I0 I hs hiv hfr hb1
    · exact pk99pre N (pcN 12 N) i w I
    · show 32212254720 + dot [0, 0, 0, 0, 0, 0] [0, (nI N).toInt, i.toInt, (nI (pcN 12 N)).toInt, w.toInt, (I 68 2).toInt] < (n : Int)
      have e : dot [0, 0, 0, 0, 0, 0] [0, (nI N).toInt, i.toInt, (nI (pcN 12 N)).toInt, w.toInt, (I 68 2).toInt] = 0 := by simp [dot]
      rw [e]
      omega
