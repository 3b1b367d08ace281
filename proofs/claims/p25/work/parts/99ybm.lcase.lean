set_option maxRecDepth 100000 in
set_option maxHeartbeats 1000000 in
theorem law_loop (l : Launch) (L : Nat) (xs : Nat → Int32) (hL : L ≤ 3072) : ∀ (m n c : Nat) (sh : List XO) (I : XI) (J : XJ), c + m = 513 → 3 * m < n → lin2 sh I → lrun l L xs n 18 (lloc c) [] sh I J 99 18232 := by
  intro m
  induction m with
  | zero =>
    intro n c sh I J hc hn hv
    obtain ⟨n, rfl⟩ : ∃ n', n = n' + 1 := ⟨n - 1, by omega⟩
    refine xrun_step fun K hK => ?_
    refine And.intro (fun _ => And.intro (Or.inr rfl) rfl) (fun h => ?_)
    exfalso
    refine h ?_
    show nI L - nI 6 < nI (6 * c)
    refine Int32.lt_iff_toInt_lt.mpr ?_
    rw [nI_toInt (show 6 * c < 2 ^ 31 by omega), i32_sub (by rw [nI_toInt (by omega), nI_toInt (by omega)]; omega) (by rw [nI_toInt (by omega), nI_toInt (by omega)]; omega), nI_toInt (by omega), nI_toInt (by omega)]
    omega
  | succ m ih =>
    intro n c sh I J hc hn hv
    obtain ⟨n, rfl⟩ : ∃ n', n = n' + 1 + 1 + 1 := ⟨n - 3, by omega⟩
    have hx : ∀ (sh' : List XO) (I' : XI) (J' : XJ), lin2 sh' I' → lrun l L xs (n + 1) 1403 (lloc c) [] sh' I' J' 99 18232 := by
      intro sh' I' J' h'
      refine xrun_step fun K hK => ?_
      have e : nI (6 * c) + nI 6 = nI (6 * (c + 1)) := by rw [nI_add]; congr 1
      have y := ih n (c + 1) sh' I' J' (by omega) (by omega) h'
      have z := hK 18 (lloc (c + 1)) [] sh' I' J' 99 18232 y
      unfold lloc at z
      rw [← e] at z
      exact z
    have hd : ∀ (sh' : List XO) (I' : XI) (J' : XJ), lin2 sh' I' → lrun l L xs (n + 1 + 1) 1403 (lloc c) [] sh' I' J' 99 18232 := by
      intro sh' I' J' h'
      refine xrun_step fun K hK => ?_
      have e : nI (6 * c) + nI 6 = nI (6 * (c + 1)) := by rw [nI_add]; congr 1
      have y := ih (n + 1) (c + 1) sh' I' J' (by omega) (by omega) h'
      have z := hK 18 (lloc (c + 1)) [] sh' I' J' 99 18232 y
      unfold lloc at z
      rw [← e] at z
      exact z
    refine xrun_step fun K hK => ?_
    refine And.intro (fun _ => And.intro (Or.inr rfl) rfl) (fun h => ?_)
    have h6 : 6 * c + 6 ≤ L := by
      have h2 : ¬ nI L - nI 6 < nI (6 * c) := h
      have h3 : ¬ (nI L - nI 6).toInt < (nI (6 * c)).toInt := fun z => h2 (Int32.lt_iff_toInt_lt.mpr z)
      rw [nI_toInt (show 6 * c < 2 ^ 31 by omega), i32_sub (by rw [nI_toInt (by omega), nI_toInt (by omega)]; omega) (by rw [nI_toInt (by omega), nI_toInt (by omega)]; omega), nI_toInt (by omega), nI_toInt (by omega)] at h3
      omega
    refine And.intro (vp_in_nI (by omega) (by omega)) ?_
    refine And.intro (fun _ => hK _ _ _ _ _ _ _ _ (law_c0 l L xs (n + 1) c h6 hL sh I J hv hx)) (fun _ => ?_)
    refine And.intro (fun _ => hK _ _ _ _ _ _ _ _ (law_c1 l L xs (n + 1) c h6 hL sh I J hv hx)) (fun _ => ?_)
    refine And.intro (fun _ => hK _ _ _ _ _ _ _ _ (law_c2 l L xs (n + 1) c h6 hL sh I J hv hx)) (fun _ => ?_)
    refine And.intro (fun _ => hK _ _ _ _ _ _ _ _ (law_c3 l L xs (n + 1) c h6 hL sh I J hv hx)) (fun _ => ?_)
    refine And.intro (fun _ => hK _ _ _ _ _ _ _ _ (law_c4 l L xs (n + 1) c h6 hL sh I J hv hx)) (fun _ => ?_)
    refine And.intro (fun _ => hK _ _ _ _ _ _ _ _ (law_c5 l L xs (n + 1) c h6 hL sh I J hv hx)) (fun _ => ?_)
    refine And.intro (fun _ => hK _ _ _ _ _ _ _ _ (law_c6 l L xs (n + 1) c h6 hL sh I J hv hx)) (fun _ => ?_)
    refine And.intro (fun _ => hK _ _ _ _ _ _ _ _ (law_c7 l L xs (n + 1) c h6 hL sh I J hv hx)) (fun _ => ?_)
    refine And.intro (fun _ => hK _ _ _ _ _ _ _ _ (law_c8 l L xs (n + 1) c h6 hL sh I J hv hx)) (fun _ => ?_)
    refine And.intro (fun _ => hK _ _ _ _ _ _ _ _ (law_c9 l L xs (n + 1) c h6 hL sh I J hv hx)) (fun _ => ?_)
    refine And.intro (fun _ => hK _ _ _ _ _ _ _ _ (law_c10 l L xs (n + 1) c h6 hL sh I J hv hx)) (fun _ => ?_)
    refine And.intro (fun _ => hK _ _ _ _ _ _ _ _ (law_c11 l L xs (n + 1) c h6 hL sh I J hv hx)) (fun _ => ?_)
    refine And.intro (fun _ => hK _ _ _ _ _ _ _ _ (law_c12 l L xs (n + 1) c h6 hL sh I J hv hx)) (fun _ => ?_)
    refine And.intro (fun _ => hK _ _ _ _ _ _ _ _ (law_c13 l L xs (n + 1) c h6 hL sh I J hv hx)) (fun _ => ?_)
    refine And.intro (fun _ => hK _ _ _ _ _ _ _ _ (law_c14 l L xs (n + 1) c h6 hL sh I J hv hx)) (fun _ => ?_)
    refine And.intro (fun _ => hK _ _ _ _ _ _ _ _ (law_c15 l L xs (n + 1) c h6 hL sh I J hv hx)) (fun _ => ?_)
    refine And.intro (fun _ => hK _ _ _ _ _ _ _ _ (law_c16 l L xs (n + 1) c h6 hL sh I J hv hx)) (fun _ => ?_)
    refine And.intro (fun _ => hK _ _ _ _ _ _ _ _ (law_c17 l L xs (n + 1) c h6 hL sh I J hv hx)) (fun _ => ?_)
    refine And.intro (fun _ => hK _ _ _ _ _ _ _ _ (law_c18 l L xs (n + 1) c h6 hL sh I J hv hx)) (fun _ => ?_)
    refine And.intro (fun _ => hK _ _ _ _ _ _ _ _ (law_c19 l L xs (n + 1) c h6 hL sh I J hv hx)) (fun _ => ?_)
    refine And.intro (fun _ => hK _ _ _ _ _ _ _ _ (law_c20 l L xs (n + 1) c h6 hL sh I J hv hx)) (fun _ => ?_)
    refine And.intro (fun _ => hK _ _ _ _ _ _ _ _ (law_c21 l L xs (n + 1) c h6 hL sh I J hv hx)) (fun _ => ?_)
    refine And.intro (fun _ => hK _ _ _ _ _ _ _ _ (law_c22 l L xs (n + 1) c h6 hL sh I J hv hx)) (fun _ => ?_)
    refine And.intro (fun _ => hK _ _ _ _ _ _ _ _ (law_c23 l L xs (n + 1) c h6 hL sh I J hv hx)) (fun _ => ?_)
    refine And.intro (fun _ => hK _ _ _ _ _ _ _ _ (law_c24 l L xs (n + 1) c h6 hL sh I J hv hx)) (fun _ => ?_)
    refine And.intro (fun _ => hK _ _ _ _ _ _ _ _ (law_c25 l L xs (n + 1) c h6 hL sh I J hv hx)) (fun _ => ?_)
    refine And.intro (fun _ => hK _ _ _ _ _ _ _ _ (law_c26 l L xs (n + 1) c h6 hL sh I J hv hx)) (fun _ => ?_)
    refine And.intro (fun _ => hK _ _ _ _ _ _ _ _ (law_c27 l L xs (n + 1) c h6 hL sh I J hv hx)) (fun _ => ?_)
    refine And.intro (fun _ => hK _ _ _ _ _ _ _ _ (law_c28 l L xs (n + 1) c h6 hL sh I J hv hx)) (fun _ => ?_)
    refine And.intro (fun _ => hK _ _ _ _ _ _ _ _ (law_c29 l L xs (n + 1) c h6 hL sh I J hv hx)) (fun _ => ?_)
    refine And.intro (fun _ => hK _ _ _ _ _ _ _ _ (law_c30 l L xs (n + 1) c h6 hL sh I J hv hx)) (fun _ => ?_)
    refine And.intro (fun _ => hK _ _ _ _ _ _ _ _ (law_c31 l L xs (n + 1) c h6 hL sh I J hv hx)) (fun _ => ?_)
    refine And.intro (fun _ => hK _ _ _ _ _ _ _ _ (law_c32 l L xs (n + 1) c h6 hL sh I J hv hx)) (fun _ => ?_)
    refine And.intro (fun _ => hK _ _ _ _ _ _ _ _ (law_c33 l L xs (n + 1) c h6 hL sh I J hv hx)) (fun _ => ?_)
    refine And.intro (fun _ => hK _ _ _ _ _ _ _ _ (law_c34 l L xs (n + 1) c h6 hL sh I J hv hx)) (fun _ => ?_)
    refine And.intro (fun _ => hK _ _ _ _ _ _ _ _ (law_c35 l L xs (n + 1) c h6 hL sh I J hv hx)) (fun _ => ?_)
    refine And.intro (fun _ => hK _ _ _ _ _ _ _ _ (law_c36 l L xs (n + 1) c h6 hL sh I J hv hx)) (fun _ => ?_)
    exact hK _ _ _ _ _ _ _ _ (hd sh I J hv)
