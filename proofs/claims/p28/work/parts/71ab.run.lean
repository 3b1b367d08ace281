theorem cl_hld (v : Int64) (G : Nat) (hG : G < 10000) : (if (if v < (nI G).toInt64 then v else (nI G).toInt64) < 0 then (0 : Int64) else (if v < (nI G).toInt64 then v else (nI G).toInt64)).toInt32 = nI (hld v.toInt 0 G).toNat := by
  have eg : (nI G).toInt64.toInt = (G : Int) := nI_i64 (by omega)
  have key : ∀ x : Int64, x.toInt = hld v.toInt 0 G → x.toInt32 = nI (hld v.toInt 0 G).toNat := fun x hx => by
    have b : 0 ≤ hld v.toInt 0 G ∧ hld v.toInt 0 G ≤ G := by
      unfold hld
      split
      · exact ⟨by omega, by omega⟩
      · split
        · exact ⟨by omega, by omega⟩
        · exact ⟨by omega, by omega⟩
    apply Int32.toInt_inj.mp
    rw [nI_toInt (by omega), Int64.toInt_toInt32, hx, Int.bmod_eq_of_le (by omega) (by omega)]
    omega
  refine key _ ?_
  unfold hld
  by_cases a : v < (nI G).toInt64
  · have a2 := Int64.lt_iff_toInt_lt.mp a
    rw [eg] at a2
    rw [if_pos a]
    by_cases b : v < 0
    · have b2 := Int64.lt_iff_toInt_lt.mp b
      rw [i64_0] at b2
      rw [if_pos b, if_pos b2, i64_0]
    · have b2 : ¬ v.toInt < (0 : Int64).toInt := fun z => b (Int64.lt_iff_toInt_lt.mpr z)
      rw [i64_0] at b2
      rw [if_neg b, if_neg b2, if_neg (by omega)]
  · have a2 : ¬ v.toInt < (nI G).toInt64.toInt := fun z => a (Int64.lt_iff_toInt_lt.mpr z)
    rw [eg] at a2
    have c : ¬ (nI G).toInt64 < 0 := fun z => by
      have z := Int64.lt_iff_toInt_lt.mp z
      rw [eg, i64_0] at z
      omega
    rw [if_neg a, if_neg c, eg, if_neg (by omega)]
    split
    · rfl
    · omega
