set_option maxRecDepth 100000 in
set_option maxHeartbeats 4000000 in
theorem md_pl_loop (l : Launch) (d t : Nat) (ht : t < 4) (ru ta : Nat) (rs : List XO) (I : XI) (Rp : XR) (L : Lws) (x : Txt) (c : Nat) (g : GT (47 + 5 * t) I (tqW x) c (tqE x) (tqA x)) (db : DNb (tqA x)) (rt : RTx t I I (tqW x) (tqE x) (tqA x)) (V : Int32 × Ast) (hR : ∀ (I' : XI) (J' : XJ), FMl I I' → MA I' L V.2 → Rp (some (.int V.1)) (shH ru ta rs) I' J') : ∀ (m i n : Nat) (J : XJ) (I1 : XI) (A : Ast) (o3 o4 o5 o6 o7 : Option Value), i + m = (tqW x).length → 3 * m < n → FMl I I1 → AOK A → MA I1 L A → plS L x m i A = V → mpz l d ru ta rs J Rp n 21 [some (.ref 67), some (.int (nI t)), some (.int (nI i)), o3, o4, o5, o6, o7] I1 := by
  obtain ⟨⟨h24, _, _⟩, r71, rc, _⟩ := rt
  have vt : vp_in (nI t) 4 := vp_in_nI ht (by omega)
  have it : (nI t).toNatClampNeg = t := nI_clamp (by omega)
  intro m
  induction m with
  | zero =>
    intro i n J I1 A o3 o4 o5 o6 o7 hi hn f hA h eV
    obtain ⟨n, rfl⟩ : ∃ n', n = n' + 1 := ⟨n - 1, by omega⟩
    have hi : i = (tqW x).length := by omega
    have e71 : I1 71 (nI t).toNatClampNeg = nI (tqW x).length := by rw [it, f.1 71 (by decide) (by decide) (by decide)]; exact r71
    have e : V = (-1, A) := eV.symm
    rw [e] at hR
    refine xrun_step fun K hK => ?_
    refine And.intro vt ?_
    refine And.intro (fun _ => ?_) (fun z => absurd (show I1 71 (nI t).toNatClampNeg ≤ nI i from by rw [e71, hi]; exact Int32.le_refl _) z)
    exact hR I1 J f h
  | succ m ih =>
    intro i n J I1 A o3 o4 o5 o6 o7 hi hn f hA h eV
    obtain ⟨n, rfl⟩ : ∃ n', n = n' + 1 + 1 + 1 := ⟨n - 3, by omega⟩
    have cl := g.2 i (by omega)
    have e71 : I1 71 (nI t).toNatClampNeg = nI (tqW x).length := by rw [it, f.1 71 (by decide) (by decide) (by decide)]; exact r71
    have em : nI 24 * nI t + nI i = nI (24 * t + i) := by rw [nI_mul, nI_add]
    have ix : (nI 24 * nI t + nI i).toNatClampNeg = 24 * t + i := by rw [em]; exact nI_clamp (by omega)
    have vx : vp_in (nI 24 * nI t + nI i) 96 := by rw [em]; exact vp_in_nI (by omega) (by omega)
    obtain ⟨q72, _, q74⟩ := rc i (by omega)
    have e72 : I1 72 (nI 24 * nI t + nI i).toNatClampNeg = nI ((tqW x).getD i 0) := by rw [ix, f.1 72 (by decide) (by decide) (by decide)]; exact q72
    have e74 : NU3 ((tqA x).getD i (0, [])).2 (I1 74 (nI 24 * nI t + nI i).toNatClampNeg) (I1 75 (nI 24 * nI t + nI i).toNatClampNeg) (I1 76 (nI 24 * nI t + nI i).toNatClampNeg) := by
      rw [ix, f.1 74 (by decide) (by decide) (by decide), f.1 75 (by decide) (by decide) (by decide), f.1 76 (by decide) (by decide) (by decide)]
      exact q74
    have dm : ∀ y, y ∈ ((tqA x).getD i (0, [])).2 → y ≤ 10000 := fun y hy => by
      refine db _ ?_ y hy
      rw [List.getD_eq_getElem?_getD, List.getElem?_eq_getElem (by rw [g.1]; omega)]
      exact List.getElem_mem _
    have g1 : ¬ I1 71 (nI t).toNatClampNeg ≤ nI i := by rw [e71]; exact nI_ge (by omega) (by omega)
    have nx := hA.doS (L := L) ((tqW x).getD i 0) ((tqA x).getD i (0, [])).2
    have eV2 : (if (doS L A ((tqW x).getD i 0) ((tqA x).getD i (0, [])).2).1 = true then plS L x m (i + 1) (doS L A ((tqW x).getD i 0) ((tqA x).getD i (0, [])).2).2 else (nI i, (doS L A ((tqW x).getD i 0) ((tqA x).getD i (0, [])).2).2)) = V := eV
    have hl : 4 < (tqW x).getD i 0 → ((tqA x).getD i (0, [])).2.length = (fmS ((tqW x).getD i 0)).length := fun q => (cl.2.2.2 q).1
    have w13 := cl.1
    generalize (tqW x).getD i 0 = w at e72 nx eV2 hl w13
    generalize ((tqA x).getD i (0, [])).2 = D at e74 dm nx eV2 hl
    have nxt := mp_all l d ru ta rs I1 J Rp L A hA h (n + 1) (nI t) (nI i) (nI 24 * nI t + nI i) _ _ _ vx w w13 e72 D hl dm e74 (fun I2 J2 f2 m2 => by
      refine mp_fin l d ru ta rs I2 J2 Rp n (nI t) (nI i) _ _ _ _ (doS L A w D).1 (fun e => ?_) (fun e => ?_)
      · rw [e, if_pos rfl] at eV2
        rw [nI_1]
        exact ih (i + 1) n J2 I2 _ _ _ _ _ _ (by omega) (by omega) (f.tr f2) nx m2 eV2
      · rw [e, if_neg (by decide)] at eV2
        have z := hR I2 J2 (f.tr f2) (by rw [← eV2]; exact m2)
        rw [← eV2] at z
        exact z)
    refine xrun_step fun K hK => ?_
    refine And.intro vt ?_
    refine And.intro (fun z => absurd z g1) (fun _ => ?_)
    refine And.intro vx ?_
    refine And.intro vx ?_
    refine And.intro vx ?_
    exact hK 65 _ [] (shH ru ta rs) I1 J 0 0 nxt
