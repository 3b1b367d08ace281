-- ===== the guess: 99g2.clsd =====
set_option maxRecDepth 100000 in
theorem cwg_shorten (l : Launch) (d : Nat) (ru ta : Nat) (rs : List XO) (I : XI) (J : XJ) (Rp : XR) (T : Nat) (w : Rw) (hr : RC T w (I 29)) (hw : WR w) (x : Int32) (y : Nat) (hy : y ≤ 9999) (h1 : ∀ b, b < 12 → x = nI b → 0 < w (28 + b) → ∀ I' : XI, F24 29 I I' → RC T (shR w b (nI y)) (I' 29) → Rp none (shH ru ta rs) I' J) (h0 : (∀ b, b < 12 → x = nI b → ¬ 0 < w (28 + b)) → Rp none (shH ru ta rs) I J) : xm l (d + 2) 0 0 mX10_shorten [.ref 28, .int x, .int (nI y)] (shH ru ta rs) I J Rp := by
  refine xm_ofK 0 (X := xxX10) (t := tX10_shorten) (stop := []) (ini := false) xx10 pl10 rfl kX10_shorten (fun h => by cases h) (Nat.le_of_ble_eq_true rfl) (fun K hK => ?_)
  refine cwg_hasBale l d ru ta rs I J _ T w hr hw x (fun b hb e hp => ?_) (fun hn => ?_)
  · subst e
    obtain ⟨a, ea, ha⟩ := hw.len hb
    have ix : (nI 28 + nI b).toNatClampNeg = 28 + b := ix_c (by omega)
    have ec : I 29 (nI 28 + nI b).toNatClampNeg = nI a := by rw [ix, hr.len hb, ea]
    have hp' : 0 < a := by rw [ea] at hp; exact (npos (by omega)).mp hp
    have ev : (if (0 : Int32) < I 29 (nI 28 + nI b).toNatClampNeg - nI y then I 29 (nI 28 + nI b).toNatClampNeg - nI y else nI 0) = nI (a - y) := by
      rw [ec]
      by_cases c : y < a
      · rw [nI_subI (by omega) (by omega), if_pos ((npos (by omega)).mpr (by omega))]
      · rw [if_neg (nsub_neg (by omega) (by omega)), show a - y = 0 by omega]
    refine And.intro (fun z => absurd (show (1 : Int32) = 0 from z) (by decide)) (fun _ => ?_)
    refine And.intro (show vp_in (nI 28 + nI b) 69 from vx_2 (by omega) (by omega)) ?_
    refine And.intro (show vp_in (nI 28 + nI b) 69 from vx_2 (by omega) (by omega)) ?_
    have fin := h1 b hb rfl hp (uI I 29 (28 + b) (nI (a - y))) F24.rf.u (by
      rw [uI_eq, shR_eq ea ha hy]
      by_cases c : y < a
      · rw [if_pos c]
        exact hr.ul hb hp _
      · rw [if_neg c, show a - y = 0 by omega]
        exact hr.z hb (fun k _ hk => upd_n hk) _ _)
    rw [← ix, ← ev] at fin
    exact fin
  · refine And.intro (fun _ => ?_) (fun z => absurd rfl z)
    exact h0 hn
