set_option maxRecDepth 100000 in
set_option maxHeartbeats 4000000 in
theorem md_played (l : Launch) (d : Nat) (ru ta : Nat) (rs : List XO) (I1 : XI) (J : XJ) (Rp : XR) {I : XI} (TX : Nat → Txt) (H Hi : Hlf) (hg : GRx I TX H Hi) (fc : FCl I I1) (x : Int32) (hR : ∀ (I' : XI) (J' : XJ), FMl I1 I' → MA I' (lwO TX (hvR H)) (pdS TX H x).2 → Rp (some (.int (pdS TX H x).1)) (shH ru ta rs) I' J') : xm l (d + 15) 0 0 mX12_played [.ref 67, .int x] (shH ru ta rs) I1 J Rp := by
  have m4 := hg.1.1.2.1
  have em : I1 68 3 = nI (hvM H) := (congrFun (fc 68 (by decide) (by decide) (by decide) (by decide) (by decide)) 3).trans hg.2.2.2.2.1.1.2.2.1
  refine xm_ofK 100 (X := xxX12) (t := tX12_played) (stop := [21, 65, 296]) (ini := false) xx12 pl12 rfl kX12_played (fun h => by cases h) (Nat.le_of_ble_eq_true rfl) (fun K hK => ?_)
  refine And.intro (show vp_in (nI 3) 2200 from vp_b (by decide)) ?_
  refine md_in l (d + 13) x (nI 0) (I1 68 3 - nI 1) _ _ _ _ (fun z => ?_) (fun z => ?_)
  · rw [em] at z
    have hv := (in_v (by omega)).mp z
    refine And.intro (fun _ => ?_) (fun z => absurd (show (1 : Int32) = 0 from z) (by decide))
    obtain ⟨t, ht, ex, ex2⟩ := vIn_t (by omega) hv
    have eS : pdS TX H x = plS (lwO TX (hvR H)) (TX t) (tqW (TX t)).length 0 (hvA H) := by
      unfold pdS
      rw [hv, if_pos rfl, ex2]
    have tx := (hg.2.1.1 t ht).keep (I' := I1) (by omega) (fun q hq => fc q (by omega) (by omega) (by omega) (by omega) (by omega))
    obtain ⟨⟨c, c3, g, e5, db⟩, r, _⟩ := tx
    have lp := md_pl_loop l d t (by omega) ru ta rs I1 Rp (lwO TX (hvR H)) (TX t) c g db r _ hR (tqW (TX t)).length 0 100 J I1 (hvA H) none none none none none (by omega) (by have := r.1.1; omega) FMl.rf hg.1.1.1 (hg.ma.fc fc) eS.symm
    subst ex
    exact hK 21 [some (.ref 67), some (.int (nI t)), some (.int (nI 0)), none, none, none, none, none] [] (shH ru ta rs) I1 J 0 0 lp
  · rw [em] at z
    refine And.intro (fun z => absurd rfl z) (fun _ => ?_)
    have hv : vIn x (hvM H) = false := by
      cases e : vIn x (hvM H) with
      | false => rfl
      | true => exact absurd ((in_v (by omega)).mpr e) z
    have eS : pdS TX H x = (nI 0 - nI 2, hvA H) := by
      unfold pdS
      rw [hv]
      rfl
    rw [eS] at hR
    exact hR I1 J FMl.rf (hg.ma.fc fc)
