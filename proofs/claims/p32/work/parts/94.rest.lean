-- ===== by, need, image, back =====
def rOK (r : Option Nat) (m : Nat) : Prop := ∀ t, r = some t → t < m
set_option maxRecDepth 100000 in
set_option maxHeartbeats 2000000 in
theorem cd_setRule (l : Launch) (d : Nat) (ru ta : Nat) (rs : List XO) (I : XI) (J : XJ) (Rp : XR) (r : Option Nat) (hr : rOK r 4) (hR : Rp none (shH (ruO r) ta rs) (uI I 0 13 (rI r)) J) : xm l (d + 2) 0 0 mX11_setRule [.ref 0, .int (rI r)] (shH ru ta rs) I J Rp := by
  cases r with
  | none =>
    refine xm_ofK 0 (X := xxX11) (t := tX11_setRule) (stop := []) (ini := false) xx11 pl11 rfl kX11_setRule (fun h => by cases h) (Nat.le_of_ble_eq_true rfl) (fun K hK => ?_)
    refine xm_ofK 0 (X := xxX11) (t := tX11_textAt) (stop := []) (ini := false) xx11 pl11 rfl kX11_textAt (fun h => by cases h) (Nat.le_of_ble_eq_true rfl) (fun K2 hK2 => ?_)
    refine And.intro (fun _ => ?_) (fun h => absurd (show (-1 : Int32) < 0 by decide) h)
    exact hR
  | some t =>
    have ht := hr t rfl
    have y : t = 0 ∨ t = 1 ∨ t = 2 ∨ t = 3 := by omega
    rcases y with rfl | rfl | rfl | rfl
    all_goals
      refine xm_ofK 0 (X := xxX11) (t := tX11_setRule) (stop := []) (ini := false) xx11 pl11 rfl kX11_setRule (fun h => by cases h) (Nat.le_of_ble_eq_true rfl) (fun K hK => ?_)
      refine xm_ofK 0 (X := xxX11) (t := tX11_textAt) (stop := []) (ini := false) xx11 pl11 rfl kX11_textAt (fun h => by cases h) (Nat.le_of_ble_eq_true rfl) (fun K2 hK2 => ?_)
      refine And.intro (fun h => absurd h (by decide)) (fun _ => And.intro (fun h => absurd h (by decide)) (fun _ => And.intro (vp_b (by decide)) ?_))
      exact hR
theorem by_split {x : Int32} {m : Nat} (hm : m ≤ 4) : ((-1 : Int32) ≤ x ∧ x ≤ nI m - nI 1) → x = -1 ∨ vIn x m = true := fun h => by
  by_cases c : nI 0 ≤ x
  · exact Or.inr ((in_v (by omega)).mp ⟨c, h.2⟩)
  · refine Or.inl ?_
    have a := Int32.le_iff_toInt_le.mp h.1
    rw [Int32.le_iff_toInt_le, show (nI 0).toInt = 0 from by decide] at c
    rw [show (-1 : Int32).toInt = -1 from by decide] at a
    exact Int32.toInt_inj.mp (by rw [show (-1 : Int32).toInt = -1 from by decide]; omega)
theorem by_join {x : Int32} {m : Nat} (hm : m ≤ 4) (h : x = -1 ∨ vIn x m = true) : (-1 : Int32) ≤ x ∧ x ≤ nI m - nI 1 := by
  rcases h with h | h
  · subst h
    refine ⟨Int32.le_refl _, ?_⟩
    have y : m = 0 ∨ m = 1 ∨ m = 2 ∨ m = 3 ∨ m = 4 := by omega
    rcases y with rfl | rfl | rfl | rfl | rfl <;> decide
  · have z := (in_v (by omega)).mpr h
    refine ⟨?_, z.2⟩
    have a := Int32.le_iff_toInt_le.mp z.1
    rw [show (nI 0).toInt = 0 from by decide] at a
    rw [Int32.le_iff_toInt_le, show (-1 : Int32).toInt = -1 from by decide]
    omega
theorem by_r {x : Int32} {m : Nat} (hm : m ≤ 4) (h : x = -1 ∨ vIn x m = true) : ∃ r, rOK r m ∧ x = rI r := by
  rcases h with h | h
  · exact ⟨none, fun t e => (by cases e), h⟩
  · obtain ⟨t, ht, e, _⟩ := vIn_t (by omega) h
    exact ⟨some t, fun s es => (by cases es; exact ht), e⟩
set_option maxRecDepth 100000 in
set_option maxHeartbeats 2000000 in
theorem cd_by (l : Launch) (d : Nat) (ru ta : Nat) (rs : List XO) (I : XI) (J : XJ) (Rp : XR) (m : Nat) (hm : m ≤ 4) (em : I 0 12 = nI m) (x : Int32) (h1 : ∀ r, rOK r m → x = rI r → Rp (some (.int 1)) (shH (ruO r) ta rs) (uI I 0 13 x) J) (h0 : ¬ (x = -1 ∨ vIn x m = true) → Rp (some (.int 0)) (shH ru ta rs) I J) : xm l (d + 3) 0 0 mX11_by [.ref 0, .int x] (shH ru ta rs) I J Rp := by
  refine xm_ofK 0 (X := xxX11) (t := tX11_by) (stop := []) (ini := false) xx11 pl11 rfl kX11_by (fun h => by cases h) (Nat.le_of_ble_eq_true rfl) (fun K hK => ?_)
  refine (show xm l (d + 2) 0 0 mX11_within [.int x, .int (-1), .int (I 0 12 - nI 1)] (shH ru ta rs) I J _ from ?_)
  rw [em]
  by_cases c : (-1 : Int32) ≤ x ∧ x ≤ nI m - nI 1
  · refine c_within_t l (d + 1) x (-1) (nI m - nI 1) _ _ _ _ c.1 c.2 ?_
    refine And.intro (fun _ => ?_) (fun z => absurd (show (1 : Int32) = 0 from z) (by decide))
    obtain ⟨r, hr, er⟩ := by_r hm (by_split hm c)
    have y := h1 r hr er
    subst er
    refine cd_setRule l d ru ta rs I J _ r (fun t e => by have := hr t e; omega) ?_
    exact And.intro (Or.inr rfl) y
  · refine c_within_f l (d + 1) x (-1) (nI m - nI 1) _ _ _ _ c ?_
    refine And.intro (fun z => absurd rfl z) (fun _ => ?_)
    exact And.intro (Or.inl rfl) (h0 (fun z => c (by_join hm z)))
set_option maxRecDepth 100000 in
set_option maxHeartbeats 2000000 in
theorem md_by (l : Launch) (d : Nat) (ru ta : Nat) (rs : List XO) (I : XI) (J : XJ) (Rp : XR) (m : Nat) (hm : m ≤ 4) (em : I 68 3 = nI m) (x : Int32) (h1 : (x = -1 ∨ vIn x m = true) → Rp (some (.int 1)) (shH ru ta rs) (uI I 68 4 x) J) (h0 : ¬ (x = -1 ∨ vIn x m = true) → Rp (some (.int 0)) (shH ru ta rs) I J) : xm l (d + 2) 0 0 mX12_by [.ref 67, .int x] (shH ru ta rs) I J Rp := by
  refine xm_ofK 0 (X := xxX12) (t := tX12_by) (stop := []) (ini := false) xx12 pl12 rfl kX12_by (fun h => by cases h) (Nat.le_of_ble_eq_true rfl) (fun K hK => ?_)
  refine And.intro (fun (z : x = -1) => ?_) (fun (z : ¬ x = -1) => ?_)
  · refine And.intro (show vp_in (nI 4) 2200 from vp_b (by decide)) ?_
    exact And.intro (Or.inr rfl) (h1 (Or.inl z))
  · refine And.intro (show vp_in (nI 3) 2200 from vp_b (by decide)) ?_
    refine md_in l d x (nI 0) (I 68 3 - nI 1) _ _ _ _ (fun c => ?_) (fun c => ?_)
    · rw [em] at c
      refine And.intro (fun _ => ?_) (fun z => absurd (show (1 : Int32) = 0 from z) (by decide))
      refine And.intro (show vp_in (nI 4) 2200 from vp_b (by decide)) ?_
      exact And.intro (Or.inr rfl) (h1 (Or.inr ((in_v (by omega)).mp c)))
    · rw [em] at c
      refine And.intro (fun z => absurd rfl z) (fun _ => ?_)
      refine And.intro (Or.inl rfl) (h0 (fun q => ?_))
      rcases q with q | q
      · exact z q
      · exact c ((in_v (by omega)).mpr q)
def ndS (u : Nat) (x y : Int32) : Int32 := if x = -1 then 0 else if (rIn x 0 999 && rIn y 1 999 && decide (u < 8)) = true then nI (u + 1) else nI 0 - nI 2
set_option maxRecDepth 100000 in
set_option maxHeartbeats 4000000 in
theorem cd_need (l : Launch) (d : Nat) (ru ta : Nat) (rs : List XO) (I : XI) (J : XJ) (Rp : XR) (u : Nat) (hu : u ≤ 8) (eu : I 0 7 = nI u) (x y : Int32) (h1 : x = -1 → Rp (some (.int 0)) (shH ru ta rs) (uI I 0 7 0) J) (h2 : ¬ x = -1 → (rIn x 0 999 && rIn y 1 999 && decide (u < 8)) = true → Rp (some (.int (nI (u + 1)))) (shH ru ta rs) (uI (uI (uI I 3 u x) 4 u y) 0 7 (nI (u + 1))) J) (h3 : ¬ x = -1 → (rIn x 0 999 && rIn y 1 999 && decide (u < 8)) = false → Rp (some (.int (-2))) (shH ru ta rs) I J) : xm l (d + 2) 0 0 mX11_need [.ref 0, .int x, .int y] (shH ru ta rs) I J Rp := by
  refine xm_ofK 0 (X := xxX11) (t := tX11_need) (stop := []) (ini := false) xx11 pl11 rfl kX11_need (fun h => by cases h) (Nat.le_of_ble_eq_true rfl) (fun K hK => ?_)
  refine And.intro (fun (z : ¬ x = -1) => ?_) (fun (z : x = -1) => ?_)
  · have wit : ∀ (v : Int32) (lo hi : Nat) (Rq : XR), (rIn v lo hi = true → Rq (some (.int 1)) (shH ru ta rs) I J) → (rIn v lo hi = false → Rq (some (.int 0)) (shH ru ta rs) I J) → xm l (d + 1) 0 0 mX11_within [.int v, .int (nI lo), .int (nI hi)] (shH ru ta rs) I J Rq := fun v lo hi Rq a b => by
      cases e : rIn v lo hi with
      | true =>
        have := rIn_p.mp e
        exact c_within_t l d v (nI lo) (nI hi) _ _ _ _ this.1 this.2 (a e)
      | false =>
        exact c_within_f l d v (nI lo) (nI hi) _ _ _ _ (fun q => by
          have := rIn_p.mpr q
          rw [e] at this
          cases this) (b e)
    refine wit x 0 999 _ (fun hx => ?_) (fun hx => ?_)
    · refine And.intro (fun z => absurd (show (1 : Int32) = 0 from z) (by decide)) (fun _ => ?_)
      refine wit y 1 999 _ (fun hy => ?_) (fun hy => ?_)
      · refine And.intro (fun z => absurd (show (1 : Int32) = 0 from z) (by decide)) (fun _ => ?_)
        refine And.intro (fun (v : I 0 7 < nI 8) => ?_) (fun (v : ¬ I 0 7 < nI 8) => ?_)
        · rw [eu, nlt (by omega) (by omega)] at v
          have iu : (I 0 7).toNatClampNeg = u := by rw [eu]; exact nI_clamp (by omega)
          have vu : vp_in (I 0 7) 8 := by rw [eu]; exact vp_in_nI v (by omega)
          refine And.intro vu ?_
          refine And.intro vu ?_
          have y := h2 z (by rw [hx, hy, decide_eq_true v]; rfl)
          rw [← nI_add u 1, ← eu] at y
          have iu2 : (I 0 7).toNatClampNeg = u := iu
          rw [← iu2] at y
          exact y
        · rw [eu, nlt (by omega) (by omega)] at v
          exact h3 z (by rw [decide_eq_false v, Bool.and_false])
      · refine And.intro (fun _ => ?_) (fun z => absurd rfl z)
        exact h3 z (by rw [hy, Bool.and_false]; rfl)
    · refine And.intro (fun _ => ?_) (fun z => absurd rfl z)
      exact h3 z (by rw [hx]; rfl)
  · exact h1 z
set_option maxRecDepth 100000 in
set_option maxHeartbeats 4000000 in
theorem md_need (l : Launch) (d : Nat) (ru ta : Nat) (rs : List XO) (I : XI) (J : XJ) (Rp : XR) (u : Nat) (hu : u ≤ 8) (eu : I 68 6 = nI u) (x y : Int32) (h1 : x = -1 → Rp (some (.int 0)) (shH ru ta rs) (uI I 68 6 0) J) (h2 : ¬ x = -1 → (rIn x 0 999 && rIn y 1 999 && decide (u < 8)) = true → Rp (some (.int (nI (u + 1)))) (shH ru ta rs) (uI (uI (uI I 68 (42 + 2 * u) x) 68 (43 + 2 * u) y) 68 6 (nI (u + 1))) J) (h3 : ¬ x = -1 → (rIn x 0 999 && rIn y 1 999 && decide (u < 8)) = false → Rp (some (.int (-2))) (shH ru ta rs) I J) : xm l (d + 2) 0 0 mX12_need [.ref 67, .int x, .int y] (shH ru ta rs) I J Rp := by
  refine xm_ofK 0 (X := xxX12) (t := tX12_need) (stop := []) (ini := false) xx12 pl12 rfl kX12_need (fun h => by cases h) (Nat.le_of_ble_eq_true rfl) (fun K hK => ?_)
  refine And.intro (fun (z : ¬ x = -1) => ?_) (fun (z : x = -1) => ?_)
  · refine md_inR l d x 0 999 _ _ _ _ (fun hx => ?_) (fun hx => ?_)
    · refine And.intro (fun z => absurd (show (1 : Int32) = 0 from z) (by decide)) (fun _ => ?_)
      refine md_inR l d y 1 999 _ _ _ _ (fun hy => ?_) (fun hy => ?_)
      · refine And.intro (fun z => absurd (show (1 : Int32) = 0 from z) (by decide)) (fun _ => ?_)
        refine And.intro (show vp_in (nI 6) 2200 from vp_b (by decide)) ?_
        refine And.intro (fun (v : ¬ I 68 6 = nI 8) => ?_) (fun (v : I 68 6 = nI 8) => ?_)
        · rw [eu] at v
          have v8 : u < 8 := by
            have : ¬ u = 8 := fun e => v (by rw [e])
            omega
          have e1 : nI 42 + nI 2 * I 68 6 = nI (42 + 2 * u) := by rw [eu, nI_mul, nI_add]
          have c1 : (uI I 68 (nI 42 + nI 2 * I 68 6).toNatClampNeg x) 68 6 = I 68 6 := by
            rw [e1, nI_clamp (by omega), uI_eq, upd_n (by omega)]
          have e2 : nI 42 + nI 2 * (uI I 68 (nI 42 + nI 2 * I 68 6).toNatClampNeg x) 68 6 + nI 1 = nI (43 + 2 * u) := by
            rw [c1, e1, nI_add]
            congr 1
            omega
          have c2 : (uI (uI I 68 (nI 42 + nI 2 * I 68 6).toNatClampNeg x) 68 (nI 42 + nI 2 * (uI I 68 (nI 42 + nI 2 * I 68 6).toNatClampNeg x) 68 6 + nI 1).toNatClampNeg y) 68 6 = nI u := by
            rw [e2, nI_clamp (by omega), uI_eq, upd_n (by omega), c1, eu]
          refine And.intro (show vp_in (nI 6) 2200 from vp_b (by decide)) ?_
          refine And.intro (show vp_in (nI 42 + nI 2 * I 68 6) 2200 from by rw [e1]; exact vp_in_nI (by omega) (by omega)) ?_
          refine And.intro (show vp_in (nI 6) 2200 from vp_b (by decide)) ?_
          refine And.intro (show vp_in (nI 42 + nI 2 * (uI I 68 (nI 42 + nI 2 * I 68 6).toNatClampNeg x) 68 6 + nI 1) 2200 from by rw [e2]; exact vp_in_nI (by omega) (by omega)) ?_
          refine And.intro (show vp_in (nI 6) 2200 from vp_b (by decide)) ?_
          refine And.intro (show vp_in (nI 6) 2200 from vp_b (by decide)) ?_
          refine And.intro (show vp_in (nI 6) 2200 from vp_b (by decide)) ?_
          refine (show Rp (some (.int ((uI (uI (uI I 68 (nI 42 + nI 2 * I 68 6).toNatClampNeg x) 68 (nI 42 + nI 2 * (uI I 68 (nI 42 + nI 2 * I 68 6).toNatClampNeg x) 68 6 + nI 1).toNatClampNeg y) 68 6 ((uI (uI I 68 (nI 42 + nI 2 * I 68 6).toNatClampNeg x) 68 (nI 42 + nI 2 * (uI I 68 (nI 42 + nI 2 * I 68 6).toNatClampNeg x) 68 6 + nI 1).toNatClampNeg y) 68 6 + nI 1)) 68 6))) (shH ru ta rs) (uI (uI (uI I 68 (nI 42 + nI 2 * I 68 6).toNatClampNeg x) 68 (nI 42 + nI 2 * (uI I 68 (nI 42 + nI 2 * I 68 6).toNatClampNeg x) 68 6 + nI 1).toNatClampNeg y) 68 6 ((uI (uI I 68 (nI 42 + nI 2 * I 68 6).toNatClampNeg x) 68 (nI 42 + nI 2 * (uI I 68 (nI 42 + nI 2 * I 68 6).toNatClampNeg x) 68 6 + nI 1).toNatClampNeg y) 68 6 + nI 1)) J from ?_)
          rw [uI_rd, c2, nI_add, e2, e1, nI_clamp (by omega), nI_clamp (by omega)]
          exact h2 z (by rw [hx, hy, decide_eq_true v8]; rfl)
        · rw [eu] at v
          have v8 : ¬ u < 8 := by
            have := nI_inj v (by omega) (by omega)
            omega
          exact h3 z (by rw [decide_eq_false v8, Bool.and_false])
      · refine And.intro (fun _ => ?_) (fun z => absurd rfl z)
        exact h3 z (by rw [hy, Bool.and_false]; rfl)
    · refine And.intro (fun _ => ?_) (fun z => absurd rfl z)
      exact h3 z (by rw [hx]; rfl)
  · refine And.intro (show vp_in (nI 6) 2200 from vp_b (by decide)) ?_
    exact h1 z
/-- what image() makes of the class's state -/
def gKp (I : XI) : XI := uI (cI (cI (uI (uI (uI (uI (uI (uI (uI (cI (cI I 27 7 0 0 69) 2 9 0 0 2139) 8 1 (I 1 1)) 8 2 (I 1 2)) 6 5 (I 12 5)) 6 6 (I 12 6)) 6 7 (I 12 7)) 6 8 (I 0 12)) 6 9 (I 0 13)) 3 10 0 0 8) 4 11 0 0 8) 6 4 (I 0 7)
set_option maxRecDepth 100000 in
set_option maxHeartbeats 4000000 in
theorem cd_image (l : Launch) (d : Nat) (ru ta : Nat) (rs : List XO) (I : XI) (J : XJ) (Rp : XR) (hR : Rp (some (.int (I 27 65))) (shH ru ta rs) (gKp I) J) : xm l (d + 3) 0 0 mX11_image [.ref 0] (shH ru ta rs) I J Rp := by
  have q69 : ¬ nI 0 < 0 ∧ ¬ nI 0 < 0 ∧ ¬ nI 69 < 0 ∧ (nI 0).toNatClampNeg + (nI 69).toNatClampNeg ≤ 69 ∧ (nI 0).toNatClampNeg + (nI 69).toNatClampNeg ≤ 69 := by decide
  have q2139 : ¬ nI 0 < 0 ∧ ¬ nI 0 < 0 ∧ ¬ nI 2139 < 0 ∧ (nI 0).toNatClampNeg + (nI 2139).toNatClampNeg ≤ 2139 ∧ (nI 0).toNatClampNeg + (nI 2139).toNatClampNeg ≤ 2139 := by decide
  have q8 : ¬ nI 0 < 0 ∧ ¬ nI 0 < 0 ∧ ¬ nI 8 < 0 ∧ (nI 0).toNatClampNeg + (nI 8).toNatClampNeg ≤ 8 ∧ (nI 0).toNatClampNeg + (nI 8).toNatClampNeg ≤ 8 := by decide
  refine xm_ofK 0 (X := xxX11) (t := tX11_image) (stop := []) (ini := false) xx11 pl11 rfl kX11_image (fun h => by cases h) (Nat.le_of_ble_eq_true rfl) (fun K hK => ?_)
  refine xm_ofK 0 (X := xxX1) (t := tX1_keepWorld) (stop := []) (ini := false) xx1 pl1 rfl kX1_keepWorld (fun h => by cases h) (Nat.le_of_ble_eq_true rfl) (fun K2 hK2 => ?_)
  refine And.intro (fun z => absurd (show nI 69 = nI 69 from rfl) z) (fun _ => ?_)
  refine And.intro q69 ?_
  refine xm_ofK 0 (X := xxX6) (t := tX6_takeFrom) (stop := []) (ini := false) xx6 pl6 rfl kX6_takeFrom (fun h => by cases h) (Nat.le_of_ble_eq_true rfl) (fun K3 hK3 => ?_)
  refine And.intro (fun z => absurd (show nI 2139 = nI 2139 from rfl) z) (fun _ => ?_)
  refine And.intro q2139 ?_
  refine xm_ofK 0 (X := xxX1) (t := tX1_keepTold) (stop := []) (ini := false) xx1 pl1 rfl kX1_keepTold (fun h => by cases h) (Nat.le_of_ble_eq_true rfl) (fun K4 hK4 => ?_)
  refine xm_ofK 0 (X := xxX1) (t := tX1_keepTexts) (stop := []) (ini := false) xx1 pl1 rfl kX1_keepTexts (fun h => by cases h) (Nat.le_of_ble_eq_true rfl) (fun K5 hK5 => ?_)
  refine xm_ofK 0 (X := xxX1) (t := tX1_keepNeeds) (stop := []) (ini := false) xx1 pl1 rfl kX1_keepNeeds (fun h => by cases h) (Nat.le_of_ble_eq_true rfl) (fun K6 hK6 => ?_)
  refine And.intro (fun z => absurd (show nI 8 = nI 8 from rfl) z) (fun _ => ?_)
  refine And.intro (fun z => absurd (show nI 8 = nI 8 from rfl) z) (fun _ => ?_)
  refine And.intro q8 ?_
  refine And.intro q8 ?_
  refine And.intro (show vp_in (nI 65) 69 from vp_b (by decide)) ?_
  exact hR
/-- what back() makes of it, its rule aside -/
def gBk1 (I : XI) : XI := uI (uI (uI (uI (uI (uI (cI (cI I 7 27 0 0 69) 9 2 0 0 2139) 1 1 (I 8 1)) 1 2 (I 8 2)) 12 5 (I 6 5)) 12 6 (I 6 6)) 12 7 (I 6 7)) 0 12 (I 6 8)
def gBk (I : XI) : XI := uI (cI (cI (uI (gBk1 I) 0 13 (I 6 9)) 10 3 0 0 8) 11 4 0 0 8) 0 7 (I 6 4)
set_option maxRecDepth 100000 in
set_option maxHeartbeats 4000000 in
theorem cd_back (l : Launch) (d : Nat) (ru ta : Nat) (rs : List XO) (I : XI) (J : XJ) (Rp : XR) (r : Option Nat) (hr : rOK r 4) (er : I 6 9 = rI r) (hR : Rp (some (.int (I 7 65))) (shH (ruO r) ta rs) (gBk I) J) : xm l (d + 4) 0 0 mX11_back [.ref 0] (shH ru ta rs) I J Rp := by
  have q69 : ¬ nI 0 < 0 ∧ ¬ nI 0 < 0 ∧ ¬ nI 69 < 0 ∧ (nI 0).toNatClampNeg + (nI 69).toNatClampNeg ≤ 69 ∧ (nI 0).toNatClampNeg + (nI 69).toNatClampNeg ≤ 69 := by decide
  have q2139 : ¬ nI 0 < 0 ∧ ¬ nI 0 < 0 ∧ ¬ nI 2139 < 0 ∧ (nI 0).toNatClampNeg + (nI 2139).toNatClampNeg ≤ 2139 ∧ (nI 0).toNatClampNeg + (nI 2139).toNatClampNeg ≤ 2139 := by decide
  have q8 : ¬ nI 0 < 0 ∧ ¬ nI 0 < 0 ∧ ¬ nI 8 < 0 ∧ (nI 0).toNatClampNeg + (nI 8).toNatClampNeg ≤ 8 ∧ (nI 0).toNatClampNeg + (nI 8).toNatClampNeg ≤ 8 := by decide
  refine xm_ofK 0 (X := xxX11) (t := tX11_back) (stop := []) (ini := false) xx11 pl11 rfl kX11_back (fun h => by cases h) (Nat.le_of_ble_eq_true rfl) (fun K hK => ?_)
  refine xm_ofK 0 (X := xxX1) (t := tX1_giveWorld) (stop := []) (ini := false) xx1 pl1 rfl kX1_giveWorld (fun h => by cases h) (Nat.le_of_ble_eq_true rfl) (fun K2 hK2 => ?_)
  refine And.intro (fun z => absurd (show nI 69 = nI 69 from rfl) z) (fun _ => ?_)
  refine And.intro q69 ?_
  refine xm_ofK 0 (X := xxX6) (t := tX6_takeFrom) (stop := []) (ini := false) xx6 pl6 rfl kX6_takeFrom (fun h => by cases h) (Nat.le_of_ble_eq_true rfl) (fun K3 hK3 => ?_)
  refine And.intro (fun z => absurd (show nI 2139 = nI 2139 from rfl) z) (fun _ => ?_)
  refine And.intro q2139 ?_
  refine (show xm l (d + 3) 0 0 mX11_setRule [.ref 0, .int (I 6 9)] (shH ru ta rs) (gBk1 I) J _ from ?_)
  have hR2 := hR
  unfold gBk at hR2
  rw [er] at hR2 ⊢
  refine cd_setRule l (d + 1) ru ta rs (gBk1 I) J _ r hr ?_
  refine xm_ofK 0 (X := xxX1) (t := tX1_giveNeeds) (stop := []) (ini := false) xx1 pl1 rfl kX1_giveNeeds (fun h => by cases h) (Nat.le_of_ble_eq_true rfl) (fun K6 hK6 => ?_)
  refine And.intro (fun z => absurd (show nI 8 = nI 8 from rfl) z) (fun _ => ?_)
  refine And.intro (fun z => absurd (show nI 8 = nI 8 from rfl) z) (fun _ => ?_)
  refine And.intro q8 ?_
  refine And.intro q8 ?_
  refine And.intro (show vp_in (nI 65) 69 from vp_b (by decide)) ?_
  exact hR2
set_option maxRecDepth 100000 in
theorem md_copies1 (l : Launch) (d : Nat) (ru ta : Nat) (rs : List XO) (I : XI) (J : XJ) (Rp : XR) (hR : Rp none (shH ru ta rs) (cI I 68 69 0 0 2200) J) : xm l (d + 1) 0 0 mX12_copies [.ref 67, .int 1] (shH ru ta rs) I J Rp := by
  refine xm_ofK 2201 (X := xxX12) (t := tX12_copies) (stop := [2]) (ini := false) xx12 pl12 rfl kX12_copies (fun h => by cases h) (Nat.le_of_ble_eq_true rfl) (fun K hK => ?_)
  have h := hm_copies_loop l d 68 69 1 (Or.inr ⟨by decide, rfl, rfl⟩) ru ta rs I J Rp hR 2200 0 2201 (by omega) (by omega)
  rw [cI_zero] at h
  exact hK _ _ _ _ _ _ _ _ h
set_option maxRecDepth 100000 in
theorem md_copies0 (l : Launch) (d : Nat) (ru ta : Nat) (rs : List XO) (I : XI) (J : XJ) (Rp : XR) (hR : Rp none (shH ru ta rs) (cI I 69 68 0 0 2200) J) : xm l (d + 1) 0 0 mX12_copies [.ref 67, .int 0] (shH ru ta rs) I J Rp := by
  refine xm_ofK 2201 (X := xxX12) (t := tX12_copies) (stop := [2]) (ini := false) xx12 pl12 rfl kX12_copies (fun h => by cases h) (Nat.le_of_ble_eq_true rfl) (fun K hK => ?_)
  have h := hm_copies_loop l d 69 68 0 (Or.inl ⟨rfl, rfl, rfl⟩) ru ta rs I J Rp hR 2200 0 2201 (by omega) (by omega)
  rw [cI_zero] at h
  exact hK _ _ _ _ _ _ _ _ h
set_option maxRecDepth 100000 in
theorem md_image (l : Launch) (d : Nat) (ru ta : Nat) (rs : List XO) (I : XI) (J : XJ) (Rp : XR) (hR : Rp (some (.int (I 68 125))) (shH ru ta rs) (cI I 68 69 0 0 2200) J) : xm l (d + 2) 0 0 mX12_image [.ref 67] (shH ru ta rs) I J Rp := by
  refine xm_ofK 0 (X := xxX12) (t := tX12_image) (stop := []) (ini := false) xx12 pl12 rfl kX12_image (fun h => by cases h) (Nat.le_of_ble_eq_true rfl) (fun K hK => ?_)
  refine md_copies1 l d ru ta rs I J _ ?_
  exact And.intro (vp_b (by decide)) hR
set_option maxRecDepth 100000 in
theorem md_back (l : Launch) (d : Nat) (ru ta : Nat) (rs : List XO) (I : XI) (J : XJ) (Rp : XR) (hR : Rp (some (.int (I 69 125))) (shH ru ta rs) (cI I 69 68 0 0 2200) J) : xm l (d + 2) 0 0 mX12_back [.ref 67] (shH ru ta rs) I J Rp := by
  refine xm_ofK 0 (X := xxX12) (t := tX12_back) (stop := []) (ini := false) xx12 pl12 rfl kX12_back (fun h => by cases h) (Nat.le_of_ble_eq_true rfl) (fun K hK => ?_)
  refine md_copies0 l d ru ta rs I J _ ?_
  exact And.intro (vp_b (by decide)) hR
