-- ===== what leaves the count of texts as it is, on both sides =====
def isNr (p0 k0 a b : Nat) : Bool := Nat.beq a p0 && Nat.beq b k0
def gNr (p0 k0 v : Nat) (q : Nat × Nat × Int × Int) : Nat × Nat × Int × Int := match isNr p0 k0 q.1 q.2.1 with
  | true => (q.1, q.2.1, (v : Int), (v : Int))
  | false => q
/-- the confidence with one cell narrowed -/
def CNr (p0 k0 v : Nat) : AC := (CFs, CFc.map (gNr p0 k0 v), CFr)
/-- a cell that can be narrowed so -/
def NCr (p0 k0 : Nat) : Prop := (∃ q, CFc.find? (fun q => Nat.beq q.1 p0 && Nat.beq q.2.1 k0) = some q ∧ q.1 = p0 ∧ q.2.1 = k0) ∧ nrm p0 k0 = k0 ∧ (∀ k, nrm p0 k = k0 → k = k0) ∧ cellI CF p0 k0 = (0, 4)
theorem nc_A : NCr 0 12 := ⟨⟨_, rfl, rfl, rfl⟩, rfl, fun _ h => h, by decide +kernel⟩
theorem nc_B : NCr 68 3 := ⟨⟨_, rfl, rfl, rfl⟩, rfl, fun k h => by
  unfold nrm at h
  split at h
  · omega
  · exact h, by decide +kernel⟩
theorem nc_C : NCr 6 8 := ⟨⟨_, rfl, rfl, rfl⟩, rfl, fun _ h => h, by decide +kernel⟩
theorem gNr_1 (p0 k0 v : Nat) (q : Nat × Nat × Int × Int) : (gNr p0 k0 v q).1 = q.1 ∧ (gNr p0 k0 v q).2.1 = q.2.1 := by
  unfold gNr
  split <;> exact ⟨rfl, rfl⟩
theorem find_gNr (p0 k0 v a b : Nat) : ∀ L : List (Nat × Nat × Int × Int), (L.map (gNr p0 k0 v)).find? (fun q => Nat.beq q.1 a && Nat.beq q.2.1 b) = (L.find? (fun q => Nat.beq q.1 a && Nat.beq q.2.1 b)).map (gNr p0 k0 v)
  | [] => rfl
  | q :: L => by
    have ih := find_gNr p0 k0 v a b L
    rw [List.map_cons, List.find?_cons, List.find?_cons, (gNr_1 p0 k0 v q).1, (gNr_1 p0 k0 v q).2]
    cases Nat.beq q.1 a && Nat.beq q.2.1 b with
    | true => rfl
    | false => exact ih
theorem gNr_t {p0 k0 v : Nat} {q : Nat × Nat × Int × Int} (h : isNr p0 k0 q.1 q.2.1 = true) : (gNr p0 k0 v q).2.2 = ((v : Int), (v : Int)) := by
  unfold gNr
  split
  · rfl
  · rename_i z
    rw [h] at z
    cases z
theorem gNr_f {p0 k0 v : Nat} {q : Nat × Nat × Int × Int} (h : isNr p0 k0 q.1 q.2.1 = false) : (gNr p0 k0 v q).2.2 = q.2.2 := by
  unfold gNr
  split
  · rename_i z
    rw [h] at z
    cases z
  · rfl
theorem cnr_cell {p0 k0 : Nat} (H : NCr p0 k0) (v p k : Nat) : cellI (CNr p0 k0 v) p k = match isNr p0 k0 p (nrm p k) with
    | true => ((v : Int), (v : Int))
    | false => cellI CF p k := by
  have e := find_gNr p0 k0 v p (nrm p k) CFc
  cases h : isNr p0 k0 p (nrm p k) with
  | true =>
    have hs : ∃ q, CFc.find? (fun q => Nat.beq q.1 p && Nat.beq q.2.1 (nrm p k)) = some q ∧ q.1 = p ∧ q.2.1 = nrm p k := by
      unfold isNr at h
      simp only [Bool.and_eq_true] at h
      obtain ⟨h1, h2⟩ := h
      rw [Nat.eq_of_beq_eq_true h1] at h2 ⊢
      rw [Nat.eq_of_beq_eq_true h2]
      exact H.1
    obtain ⟨q, h1, h2, h3⟩ := hs
    rw [h1] at e
    have e2 : (CNr p0 k0 v).2.1.find? (fun q => Nat.beq q.1 p && Nat.beq q.2.1 (nrm p k)) = some (gNr p0 k0 v q) := e
    unfold cellI
    rw [e2]
    show (gNr p0 k0 v q).2.2 = _
    exact gNr_t (by rw [h2, h3]; exact h)
  | false =>
    cases hf : CFc.find? (fun q => Nat.beq q.1 p && Nat.beq q.2.1 (nrm p k)) with
    | none =>
      rw [hf] at e
      have e2 : (CNr p0 k0 v).2.1.find? (fun q => Nat.beq q.1 p && Nat.beq q.2.1 (nrm p k)) = none := e
      have e3 : CF.2.1.find? (fun q => Nat.beq q.1 p && Nat.beq q.2.1 (nrm p k)) = none := hf
      unfold cellI
      rw [e2, e3]
      rfl
    | some q =>
      rw [hf] at e
      have e2 : (CNr p0 k0 v).2.1.find? (fun q => Nat.beq q.1 p && Nat.beq q.2.1 (nrm p k)) = some (gNr p0 k0 v q) := e
      have e3 : CF.2.1.find? (fun q => Nat.beq q.1 p && Nat.beq q.2.1 (nrm p k)) = some q := hf
      have y := List.find?_some hf
      simp only [Bool.and_eq_true] at y
      have y1 := Nat.eq_of_beq_eq_true y.1
      have y2 := Nat.eq_of_beq_eq_true y.2
      unfold cellI
      rw [e2, e3]
      show (gNr p0 k0 v q).2.2 = q.2.2
      exact gNr_f (by rw [y1, y2]; exact h)
theorem isNr_el {p0 k0 p k : Nat} (H : NCr p0 k0) (h : isNr p0 k0 p (nrm p k) = true) : p = p0 ∧ k = k0 := by
  unfold isNr at h
  simp only [Bool.and_eq_true] at h
  obtain ⟨h1, h2⟩ := h
  have e1 := Nat.eq_of_beq_eq_true h1
  subst e1
  exact ⟨rfl, H.2.2.1 k (Nat.eq_of_beq_eq_true h2)⟩
theorem cnr_val {p0 k0 v : Nat} (H : NCr p0 k0) {I : XI} (h : ivO (CNr p0 k0 v) [] I) : (I p0 k0).toInt = v := by
  have y := h p0 k0 rfl
  rw [cnr_cell H, H.2.1, show isNr p0 k0 p0 k0 = true by unfold isNr; simp] at y
  exact Int.le_antisymm y.2 y.1
theorem cnr_up {p0 k0 v : Nat} (H : NCr p0 k0) {I : XI} (h : ivO CF [] I) (h1 : (I p0 k0).toInt = v) : ivO (CNr p0 k0 v) [] I := by
  intro p k hn
  rw [cnr_cell H]
  cases z : isNr p0 k0 p (nrm p k) with
  | false => exact h p k hn
  | true =>
    obtain ⟨rfl, rfl⟩ := isNr_el H z
    rw [h1]
    exact ⟨Int.le_refl _, Int.le_refl _⟩
theorem cnr_dn {p0 k0 v : Nat} (H : NCr p0 k0) (hv : v < 5) {I : XI} (h : ivO (CNr p0 k0 v) [] I) : ivO CF [] I := by
  intro p k hn
  have y := h p k hn
  rw [cnr_cell H] at y
  cases z : isNr p0 k0 p (nrm p k) with
  | false =>
    rw [z] at y
    exact y
  | true =>
    obtain ⟨rfl, rfl⟩ := isNr_el H z
    rw [cnr_val H h, H.2.2.2]
    exact ⟨by dsimp only; omega, by dsimp only; omega⟩
theorem cnr_lift {p0 k0 v : Nat} (H : NCr p0 k0) (hv : v < 5) {c : AK} {M : XM} (h : ctrO QQ CF c M) (h0 : nmem p0 c.2.2.1 = false) : ctrO QQ (CNr p0 k0 v) c M := by
  intro l d sh I J as Rp h1 h2 h3 h4 h5 h6
  exact h l d sh I J as Rp h1 h2 h3 (cnr_dn H hv h4) h5 (fun v' sh' I' J' g1 g2 g3 g4 g5 g6 => h6 v' sh' I' J' g1 g2 (cnr_up H g3 (by rw [g5 p0 h0]; exact cnr_val H h4)) g4 g5 g6)
theorem w5 {f : Nat → Bool} (h : ((List.range 5).all f) = true) {v : Nat} (hv : v < 5) : f v = true := List.all_eq_true.mp h v (List.mem_range.mpr hv)
theorem ga_put68X {C : AC} {Wm : List Nat} {Wf : Bool} {sh0 : List XO} {I0 : XI} {R0 R : List Int} {S : AS} {lc : List (Option Value)} {st : List Value} {sh : List XO} {I : XI} (hg : ga C Wm Wf sh0 I0 R0 R S lc st sh I) (hW : nmem 68 Wm = true) {i j : Nat} (hT : ∀ e, e ∈ S.2.2.2 → e.1 = 68 → e.2.1 < 60) (hi : 60 ≤ i) (hj : 60 ≤ j) (hc : cellI C 68 i = cellI C 68 j) : ga C Wm Wf sh0 I0 R0 R S lc st sh (uI I 68 i (I 68 j)) := by
  refine ⟨hg.1, hg.2.1, ⟨fun p k q h => ?_, fun p k hn => ?_, fun p hp => ?_⟩, hg.2.2.2⟩
  · obtain ⟨e, he, h1, h2⟩ := tF_ex h
    rw [uI_atA, if_neg (fun z => by
      have := hT e he (by rw [h1]; exact z.1)
      omega)]
    exact hg.2.2.1.1 p k q h
  · by_cases z : p = 68 ∧ k = i
    · obtain ⟨rfl, rfl⟩ := z
      rw [uI_atA, if_pos ⟨rfl, rfl⟩, hc]
      refine hg.2.2.1.2.1 68 j ?_
      cases y : tF S.2.2.2 68 j with
      | none => rfl
      | some q =>
        obtain ⟨e, he, h1, h2⟩ := tF_ex y
        have := hT e he h1
        omega
    · rw [uI_atA, if_neg z]
      exact hg.2.2.1.2.1 p k hn
  · rw [uI_ne (fun e => by subst e; rw [hW] at hp; cases hp)]
    exact hg.2.2.1.2.2 p hp
theorem cx_68 {v k : Nat} (hk : 60 ≤ k) : cellI (CNr 68 3 v) 68 k = cellI CF 68 k := by
  rw [cnr_cell nc_B]
  cases z : isNr 68 3 68 (nrm 68 k) with
  | false => rfl
  | true =>
    have := (isNr_el nc_B z).2
    omega
theorem cell_nextX {v k : Nat} (hk : 130 ≤ k) : cellI (CNr 68 3 v) 68 k = cellI (CNr 68 3 v) 68 (k + 69) := by
  rw [cx_68 (by omega), cx_68 (by omega)]
  exact cell_next hk
theorem cell_colX {v S k : Nat} (hk : k < 69) : cellI (CNr 68 3 v) 68 (130 + 69 * S + k) = cellI (CNr 68 3 v) 68 (60 + k) := by
  rw [cx_68 (by omega), cx_68 (by omega)]
  exact cell_col hk
set_option maxRecDepth 100000 in
theorem cd_X11_setRule_0 : ((List.range 5).all fun v => aChk QPl (CNr 0 12 v) ck_X11_setRule_0 cg_X11_setRule_0 xxX11 mX11_setRule tX11_setRule ca_X11_setRule_0 [] 1) = true := by decide +kernel
theorem cy_X11_setRule_0 {v : Nat} (hv : v < 5) : ctsO QQ (CNr 0 12 v) xxX11 cg_X11_setRule_0 := ctsO_cons rfl (cnr_lift nc_A hv ct_X11_textAt_0 rfl) (ctsO_nil)
theorem cv_X11_setRule_0 {v : Nat} (hv : v < 5) : ctrO QQ (CNr 0 12 v) ck_X11_setRule_0 mX11_setRule := chk_ok (Q := QQ) (QP := QPl) (C := (CNr 0 12 v)) (c := ck_X11_setRule_0) (G := cg_X11_setRule_0) (X := xxX11) (M := mX11_setRule) (t := tX11_setRule) (anns := ca_X11_setRule_0) 1 xx11 pl11 rfl kX11_setRule qq_ok (cy_X11_setRule_0 hv) (w5 cd_X11_setRule_0 hv)
set_option maxRecDepth 100000 in
theorem cd_X11_by_0 : ((List.range 5).all fun v => aChk QPl (CNr 0 12 v) ck_X11_by_0 cg_X11_by_0 xxX11 mX11_by tX11_by ca_X11_by_0 [] 1) = true := by decide +kernel
theorem cy_X11_by_0 {v : Nat} (hv : v < 5) : ctsO QQ (CNr 0 12 v) xxX11 cg_X11_by_0 := ctsO_cons rfl (cnr_lift nc_A hv ct_X11_within_8 rfl) (ctsO_cons rfl (cv_X11_setRule_0 hv) (ctsO_nil))
theorem cv_X11_by_0 {v : Nat} (hv : v < 5) : ctrO QQ (CNr 0 12 v) ck_X11_by_0 mX11_by := chk_ok (Q := QQ) (QP := QPl) (C := (CNr 0 12 v)) (c := ck_X11_by_0) (G := cg_X11_by_0) (X := xxX11) (M := mX11_by) (t := tX11_by) (anns := ca_X11_by_0) 1 xx11 pl11 rfl kX11_by qq_ok (cy_X11_by_0 hv) (w5 cd_X11_by_0 hv)
set_option maxRecDepth 100000 in
theorem cd_X11_need_0 : ((List.range 5).all fun v => aChk QPl (CNr 0 12 v) ck_X11_need_0 cg_X11_need_0 xxX11 mX11_need tX11_need ca_X11_need_0 [] 1) = true := by decide +kernel
theorem cy_X11_need_0 {v : Nat} (hv : v < 5) : ctsO QQ (CNr 0 12 v) xxX11 cg_X11_need_0 := ctsO_cons rfl (cnr_lift nc_A hv ct_X11_within_12 rfl) (ctsO_cons rfl (cnr_lift nc_A hv ct_X11_within_3 rfl) (ctsO_nil))
theorem cv_X11_need_0 {v : Nat} (hv : v < 5) : ctrO QQ (CNr 0 12 v) ck_X11_need_0 mX11_need := chk_ok (Q := QQ) (QP := QPl) (C := (CNr 0 12 v)) (c := ck_X11_need_0) (G := cg_X11_need_0) (X := xxX11) (M := mX11_need) (t := tX11_need) (anns := ca_X11_need_0) 1 xx11 pl11 rfl kX11_need qq_ok (cy_X11_need_0 hv) (w5 cd_X11_need_0 hv)
set_option maxRecDepth 100000 in
theorem cd_X12_keepsNow_0 : ((List.range 5).all fun v => aChk QPl (CNr 68 3 v) ck_X12_keepsNow_0 cg_X12_keepsNow_0 xxX12 mX12_keepsNow tX12_keepsNow ca_X12_keepsNow_0 [2] 70) = true := by decide +kernel
theorem cy_X12_keepsNow_0 {v : Nat} (hv : v < 5) : ctsO QQ (CNr 68 3 v) xxX12 cg_X12_keepsNow_0 := ctsO_nil
set_option maxRecDepth 100000 in
theorem cf_X12_keepsNow_0_2 : ((List.range 5).all fun v => ((List.range 70).all fun k => aN (CNr 68 3 v) ck_X12_keepsNow_0.2.2.1 ck_X12_keepsNow_0.2.2.2.1 cg_X12_keepsNow_0 (ck_X12_keepsNow_0.1 - 1) ck_X12_keepsNow_0.2.2.2.2.1 xxX12 mX12_keepsNow.2.2.2 tX12_keepsNow (ca_X12_keepsNow_0.map fun q => q.1) (kkA (CNr 68 3 v) ((aInts ck_X12_keepsNow_0.2.1).length + 1) ca_X12_keepsNow_0 (some ca_X12_keepsNow_0_2.2.2.2.2.2.2)) 2 (enS ca_X12_keepsNow_0_2.2 1 ((Int.ofNat 0 : Int) + (k : Int))))) = true := by decide +kernel
theorem sev_X12_keepsNow_0 {v : Nat} (hv : v < 5) : ∀ q, q ∈ ca_X12_keepsNow_0 → nmem q.1 [2] = true → ∀ (l : Launch) (d : Nat) (sh : List XO) (I : XI) (as : List Value) (Rp : XR), agO ck_X12_keepsNow_0.2.1 as → (∀ I2, frO ck_X12_keepsNow_0.2.2.1 I I2 → QQ I2) → outO QQ (CNr 68 3 v) ck_X12_keepsNow_0.2.2.1 ck_X12_keepsNow_0.2.2.2.1 sh I ck_X12_keepsNow_0.2.2.2.2.1 as Rp → segO (CNr 68 3 v) ck_X12_keepsNow_0.2.2.1 ck_X12_keepsNow_0.2.2.2.1 sh I xxX12 mX12_keepsNow.2.2.2 (!(Nat.beq 0 0)) sh.length 0 0 l (d + (ck_X12_keepsNow_0.1 - 1)) tX12_keepsNow (ca_X12_keepsNow_0.map fun q => q.1) Rp as ca_X12_keepsNow_0 (aInts ck_X12_keepsNow_0.2.1).length q := by
  intro q hq hz l d sh0 I0 as Rp ha hQ hO
  simp only [ca_X12_keepsNow_0, List.mem_cons, List.not_mem_nil, or_false] at hq
  rcases hq with rfl
  · exact seg_enum hQ (cy_X12_keepsNow_0 hv) hO 1 69 (Int.ofNat 0 : Int) rfl (fun k hk => List.all_eq_true.mp (w5 cf_X12_keepsNow_0_2 hv) k (List.mem_range.mpr (by omega)))
theorem cv_X12_keepsNow_0 {v : Nat} (hv : v < 5) : ctrO QQ (CNr 68 3 v) ck_X12_keepsNow_0 mX12_keepsNow := chk_okS (Q := QQ) (QP := QPl) (C := (CNr 68 3 v)) (c := ck_X12_keepsNow_0) (G := cg_X12_keepsNow_0) (X := xxX12) (M := mX12_keepsNow) (t := tX12_keepsNow) (anns := ca_X12_keepsNow_0) [2] 70 xx12 pl12 rfl kX12_keepsNow qq_ok (cy_X12_keepsNow_0 hv) (sev_X12_keepsNow_0 hv) (w5 cd_X12_keepsNow_0 hv)
set_option maxRecDepth 100000 in
theorem cd_X12_keepsStep_0 : ((List.range 5).all fun v => aChk QPl (CNr 68 3 v) ck_X12_keepsStep_0 cg_X12_keepsStep_0 xxX12 mX12_keepsStep tX12_keepsStep ca_X12_keepsStep_0 [15, 53] 2074) = true := by decide +kernel
theorem cy_X12_keepsStep_0 {v : Nat} (hv : v < 5) : ctsO QQ (CNr 68 3 v) xxX12 cg_X12_keepsStep_0 := ctsO_nil
set_option maxRecDepth 100000 in
set_option maxHeartbeats 4000000 in
theorem se0_X12_keepsStep_0 : ∀ q, q ∈ ca_X12_keepsStep_0 → nmem q.1 [15, 53] = true → ∀ (l : Launch) (d : Nat) (sh : List XO) (I : XI) (as : List Value) (Rp : XR), agO ck_X12_keepsStep_0.2.1 as → (∀ I2, frO ck_X12_keepsStep_0.2.2.1 I I2 → QQ I2) → outO QQ (CNr 68 3 0) ck_X12_keepsStep_0.2.2.1 ck_X12_keepsStep_0.2.2.2.1 sh I ck_X12_keepsStep_0.2.2.2.2.1 as Rp → segO (CNr 68 3 0) ck_X12_keepsStep_0.2.2.1 ck_X12_keepsStep_0.2.2.2.1 sh I xxX12 mX12_keepsStep.2.2.2 (!(Nat.beq 0 0)) sh.length 0 0 l (d + (ck_X12_keepsStep_0.1 - 1)) tX12_keepsStep (ca_X12_keepsStep_0.map fun q => q.1) Rp as ca_X12_keepsStep_0 (aInts ck_X12_keepsStep_0.2.1).length q := by
  intro q hq hz l d sh0 I0 as Rp ha _ _ K R lc st sh I J hK hg hp
  simp only [ca_X12_keepsStep_0, List.mem_cons, List.not_mem_nil, or_false] at hq
  rcases hq with rfl | rfl | rfl | rfl
  · cases st with
    | cons _ _ => exact hg.2.1.2.elim
    | nil =>
      obtain ⟨ru, ta, rs, _, _, rfl⟩ := shX hg.2.2.2.1
      obtain ⟨o0, e0, p0, hp0, y0⟩ := hg.2.1.1 0 (.inr (.inl [67])) rfl
      obtain ⟨o1, e1, x, y1, z, hzk, hx⟩ := hg.2.1.1 1 (.inl (1, .ofNat 0)) rfl
      obtain ⟨a0, a1, r, rfl⟩ := ex2 e1
      cases e0
      cases e1
      subst y0 y1
      have hp0 := List.mem_singleton.mp hp0
      subst hp0
      replace hx : x.toInt = z + 0 := hx
      have hzE : inI ((130 : Int), (2131 : Int)) z := hg.1.1.2 1 z _ hzk rfl
      have hz1 := hzE.1
      have hz2 := hzE.2
      dsimp only at hz1 hz2
      obtain ⟨k, rfl, hk0, hk, _⟩ := nI_inI (x := x) (a := 130) (b := 2131) (by rw [hx]; exact ⟨by show (130 : Int) ≤ z + 0; omega, by show z + 0 ≤ (2131 : Int); omega⟩) (by decide)
      have hkz : (k : Int) = z := by
        rw [nI_toInt (by omega)] at hx
        omega
      have hT : ∀ e, e ∈ ca_X12_keepsStep_0_15.2.2.2.2.1 → e.1 = 68 → e.2.1 < 60 := by decide
      have out : k = 2131 → K 43 (some (.ref 67) :: some (.int (nI k)) :: r) [] (shH ru ta rs) I J 0 0 := by
        intro hkk
        exact hK 43 (ca_X12_keepsStep_0_15.2.1.set 1 (2131, 2131), ca_X12_keepsStep_0_15.2.2.1, ca_X12_keepsStep_0_15.2.2.2.1, ca_X12_keepsStep_0_15.2.2.2.2.1) (by decide +kernel) R _ [] _ I J (ga_setE (S := stA ca_X12_keepsStep_0_15.2) (r := (2131, 2131)) rfl hzk ⟨by show (2131 : Int) ≤ z; omega, by show z ≤ (2131 : Int); omega⟩ hg)
      have fin : ∀ I2, ga (CNr 68 3 0) ck_X12_keepsStep_0.2.2.1 ck_X12_keepsStep_0.2.2.2.1 sh0 I0 R R (stA ca_X12_keepsStep_0_15.2) (some (.ref 67) :: some (.int (nI k)) :: r) [] (shH ru ta rs) I2 → k < 2131 → K 15 (some (.ref 67) :: some (.int (nI k + 1)) :: r) [] (shH ru ta rs) I2 J 0 0 := by
        intro I2 h2 hkk
        have h3 := ga_setE (S := stA ca_X12_keepsStep_0_15.2) (r := (130, 2130)) rfl hzk ⟨by show (130 : Int) ≤ z; omega, by show z ≤ (2130 : Int); omega⟩ h2
        refine hK 15 (ca_X12_keepsStep_0_15.2.1.set 1 (130, 2130), [.inr (.inl [67]), .inl (1, .ofNat 1)], [], ca_X12_keepsStep_0_15.2.2.2.2.1) (by decide +kernel) R _ [] _ I2 J ⟨h3.1, ⟨fun i a ha => ?_, trivial⟩, h3.2.2⟩
        match i, ha with
        | 0, ha =>
          cases ha
          exact ⟨_, rfl, 67, List.mem_singleton.mpr rfl, rfl⟩
        | 1, ha =>
          cases ha
          exact ⟨_, rfl, _, rfl, num_add1 hzk hx (by omega)⟩
        | _ + 2, ha => cases ha
      refine And.intro (fun h => out ?_) (fun h => ?_)
      · rcases Nat.lt_or_ge k 2131 with y | y
        · exact absurd h (nI_ge (a := k) (b := 2131) y (by omega))
        · omega
      have hk2 : k < 2131 := by
        rcases Nat.lt_or_ge k 2131 with y | y
        · exact y
        · exact absurd (nI_le (a := 2131) (b := k) y (by omega)) h
      have q1 : (nI k).toNatClampNeg = k := nI_clamp (by omega)
      have q2 : (nI k + nI 69).toNatClampNeg = k + 69 := by rw [nI_add]; exact nI_clamp (by omega)
      have w2 : vp_in (nI k + nI 69) 2200 := by rw [nI_add]; exact vp_in_nI (by omega) (by omega)
      refine And.intro w2 (And.intro (vp_in_nI (N := 2200) (by omega) (by omega)) ?_)
      have y := fin (uI I 68 k (I 68 (k + 69))) (ga_put68X hg rfl hT (by omega) (by omega) (cell_nextX (by omega))) (by omega)
      have z : uI I 68 (nI k).toNatClampNeg (I 68 (nI k + nI 69).toNatClampNeg) = uI I 68 k (I 68 (k + 69)) := by rw [q1, q2]
      rw [← z] at y
      exact y
  · exact absurd hz (by decide)
  · cases st with
    | cons _ _ => exact hg.2.1.2.elim
    | nil =>
      obtain ⟨ru, ta, rs, _, _, rfl⟩ := shX hg.2.2.2.1
      obtain ⟨o0, e0, p0, hp0, y0⟩ := hg.2.1.1 0 (.inr (.inl [67])) rfl
      obtain ⟨o1, e1, x, y1, z, hzk, hx⟩ := hg.2.1.1 1 (.inl (1, .ofNat 0)) rfl
      obtain ⟨a0, a1, r, rfl⟩ := ex2 e1
      cases e0
      cases e1
      subst y0 y1
      have hp0 := List.mem_singleton.mp hp0
      subst hp0
      replace hx : x.toInt = z + 0 := hx
      have hzE : inI ((0 : Int), (69 : Int)) z := hg.1.1.2 1 z _ hzk rfl
      have hz1 := hzE.1
      have hz2 := hzE.2
      dsimp only at hz1 hz2
      obtain ⟨k, rfl, hk0, hk, _⟩ := nI_inI (x := x) (a := 0) (b := 69) (by rw [hx]; exact ⟨by show (0 : Int) ≤ z + 0; omega, by show z + 0 ≤ (69 : Int); omega⟩) (by decide)
      have hkz : (k : Int) = z := by
        rw [nI_toInt (by omega)] at hx
        omega
      have hT : ∀ e, e ∈ ca_X12_keepsStep_0_53.2.2.2.2.1 → e.1 = 68 → e.2.1 < 60 := by decide
      have out : k = 69 → K 94 (some (.ref 67) :: some (.int (nI k)) :: r) [] (shH ru ta rs) I J 0 0 := by
        intro hkk
        exact hK 94 (ca_X12_keepsStep_0_53.2.1.set 1 (69, 69), ca_X12_keepsStep_0_53.2.2.1, ca_X12_keepsStep_0_53.2.2.2.1, ca_X12_keepsStep_0_53.2.2.2.2.1) (by decide +kernel) R _ [] _ I J (ga_setE (S := stA ca_X12_keepsStep_0_53.2) (r := (69, 69)) rfl hzk ⟨by show (69 : Int) ≤ z; omega, by show z ≤ (69 : Int); omega⟩ hg)
      have fin : ∀ I2, ga (CNr 68 3 0) ck_X12_keepsStep_0.2.2.1 ck_X12_keepsStep_0.2.2.2.1 sh0 I0 R R (stA ca_X12_keepsStep_0_53.2) (some (.ref 67) :: some (.int (nI k)) :: r) [] (shH ru ta rs) I2 → k < 69 → K 53 (some (.ref 67) :: some (.int (nI k + 1)) :: r) [] (shH ru ta rs) I2 J 0 0 := by
        intro I2 h2 hkk
        have h3 := ga_setE (S := stA ca_X12_keepsStep_0_53.2) (r := (0, 68)) rfl hzk ⟨by show (0 : Int) ≤ z; omega, by show z ≤ (68 : Int); omega⟩ h2
        refine hK 53 (ca_X12_keepsStep_0_53.2.1.set 1 (0, 68), [.inr (.inl [67]), .inl (1, .ofNat 1)], [], ca_X12_keepsStep_0_53.2.2.2.2.1) (by decide +kernel) R _ [] _ I2 J ⟨h3.1, ⟨fun i a ha => ?_, trivial⟩, h3.2.2⟩
        match i, ha with
        | 0, ha =>
          cases ha
          exact ⟨_, rfl, 67, List.mem_singleton.mpr rfl, rfl⟩
        | 1, ha =>
          cases ha
          exact ⟨_, rfl, _, rfl, num_add1 hzk hx (by omega)⟩
        | _ + 2, ha => cases ha
      obtain ⟨s, hs2, hsx⟩ : numO R (2, .ofNat 0) (I 68 5) := hg.2.2.1.1 68 5 _ rfl
      replace hsx : (I 68 5).toInt = s := hsx.trans (Int.add_zero s)
      have hsE : inI ((0 : Int), (29 : Int)) s := hg.1.1.2 2 s _ hs2 rfl
      obtain ⟨S, eS, _, hS, _⟩ := nI_inI (x := I 68 5) (a := 0) (b := 29) (by rw [hsx]; exact ⟨by show (0 : Int) ≤ s; exact hsE.1, by show s ≤ (29 : Int); exact hsE.2⟩) (by decide)
      refine And.intro (fun h => out ?_) (fun h => ?_)
      · rcases Nat.lt_or_ge k 69 with y | y
        · exact absurd h (nI_ge (a := k) (b := 69) y (by omega))
        · omega
      have hk2 : k < 69 := by
        rcases Nat.lt_or_ge k 69 with y | y
        · exact y
        · exact absurd (nI_le (a := 69) (b := k) y (by omega)) h
      obtain ⟨q1, w1⟩ := ix_col (S := S) (k := k) (by omega) hk2
      obtain ⟨q2, w2⟩ := ix_row hk2
      rw [← eS] at q1 w1
      refine And.intro (vp_in_nI (N := 2200) (n := 5) (by omega) (by omega)) (And.intro w2 (And.intro w1 ?_))
      have y := fin (uI I 68 (130 + 69 * S + k) (I 68 (60 + k))) (ga_put68X hg rfl hT (by omega) (by omega) (cell_colX hk2)) (by omega)
      rw [← q1, ← q2] at y
      exact y
  · exact absurd hz (by decide)
set_option maxRecDepth 100000 in
set_option maxHeartbeats 4000000 in
theorem se1_X12_keepsStep_0 : ∀ q, q ∈ ca_X12_keepsStep_0 → nmem q.1 [15, 53] = true → ∀ (l : Launch) (d : Nat) (sh : List XO) (I : XI) (as : List Value) (Rp : XR), agO ck_X12_keepsStep_0.2.1 as → (∀ I2, frO ck_X12_keepsStep_0.2.2.1 I I2 → QQ I2) → outO QQ (CNr 68 3 1) ck_X12_keepsStep_0.2.2.1 ck_X12_keepsStep_0.2.2.2.1 sh I ck_X12_keepsStep_0.2.2.2.2.1 as Rp → segO (CNr 68 3 1) ck_X12_keepsStep_0.2.2.1 ck_X12_keepsStep_0.2.2.2.1 sh I xxX12 mX12_keepsStep.2.2.2 (!(Nat.beq 0 0)) sh.length 0 0 l (d + (ck_X12_keepsStep_0.1 - 1)) tX12_keepsStep (ca_X12_keepsStep_0.map fun q => q.1) Rp as ca_X12_keepsStep_0 (aInts ck_X12_keepsStep_0.2.1).length q := by
  intro q hq hz l d sh0 I0 as Rp ha _ _ K R lc st sh I J hK hg hp
  simp only [ca_X12_keepsStep_0, List.mem_cons, List.not_mem_nil, or_false] at hq
  rcases hq with rfl | rfl | rfl | rfl
  · cases st with
    | cons _ _ => exact hg.2.1.2.elim
    | nil =>
      obtain ⟨ru, ta, rs, _, _, rfl⟩ := shX hg.2.2.2.1
      obtain ⟨o0, e0, p0, hp0, y0⟩ := hg.2.1.1 0 (.inr (.inl [67])) rfl
      obtain ⟨o1, e1, x, y1, z, hzk, hx⟩ := hg.2.1.1 1 (.inl (1, .ofNat 0)) rfl
      obtain ⟨a0, a1, r, rfl⟩ := ex2 e1
      cases e0
      cases e1
      subst y0 y1
      have hp0 := List.mem_singleton.mp hp0
      subst hp0
      replace hx : x.toInt = z + 0 := hx
      have hzE : inI ((130 : Int), (2131 : Int)) z := hg.1.1.2 1 z _ hzk rfl
      have hz1 := hzE.1
      have hz2 := hzE.2
      dsimp only at hz1 hz2
      obtain ⟨k, rfl, hk0, hk, _⟩ := nI_inI (x := x) (a := 130) (b := 2131) (by rw [hx]; exact ⟨by show (130 : Int) ≤ z + 0; omega, by show z + 0 ≤ (2131 : Int); omega⟩) (by decide)
      have hkz : (k : Int) = z := by
        rw [nI_toInt (by omega)] at hx
        omega
      have hT : ∀ e, e ∈ ca_X12_keepsStep_0_15.2.2.2.2.1 → e.1 = 68 → e.2.1 < 60 := by decide
      have out : k = 2131 → K 43 (some (.ref 67) :: some (.int (nI k)) :: r) [] (shH ru ta rs) I J 0 0 := by
        intro hkk
        exact hK 43 (ca_X12_keepsStep_0_15.2.1.set 1 (2131, 2131), ca_X12_keepsStep_0_15.2.2.1, ca_X12_keepsStep_0_15.2.2.2.1, ca_X12_keepsStep_0_15.2.2.2.2.1) (by decide +kernel) R _ [] _ I J (ga_setE (S := stA ca_X12_keepsStep_0_15.2) (r := (2131, 2131)) rfl hzk ⟨by show (2131 : Int) ≤ z; omega, by show z ≤ (2131 : Int); omega⟩ hg)
      have fin : ∀ I2, ga (CNr 68 3 1) ck_X12_keepsStep_0.2.2.1 ck_X12_keepsStep_0.2.2.2.1 sh0 I0 R R (stA ca_X12_keepsStep_0_15.2) (some (.ref 67) :: some (.int (nI k)) :: r) [] (shH ru ta rs) I2 → k < 2131 → K 15 (some (.ref 67) :: some (.int (nI k + 1)) :: r) [] (shH ru ta rs) I2 J 0 0 := by
        intro I2 h2 hkk
        have h3 := ga_setE (S := stA ca_X12_keepsStep_0_15.2) (r := (130, 2130)) rfl hzk ⟨by show (130 : Int) ≤ z; omega, by show z ≤ (2130 : Int); omega⟩ h2
        refine hK 15 (ca_X12_keepsStep_0_15.2.1.set 1 (130, 2130), [.inr (.inl [67]), .inl (1, .ofNat 1)], [], ca_X12_keepsStep_0_15.2.2.2.2.1) (by decide +kernel) R _ [] _ I2 J ⟨h3.1, ⟨fun i a ha => ?_, trivial⟩, h3.2.2⟩
        match i, ha with
        | 0, ha =>
          cases ha
          exact ⟨_, rfl, 67, List.mem_singleton.mpr rfl, rfl⟩
        | 1, ha =>
          cases ha
          exact ⟨_, rfl, _, rfl, num_add1 hzk hx (by omega)⟩
        | _ + 2, ha => cases ha
      refine And.intro (fun h => out ?_) (fun h => ?_)
      · rcases Nat.lt_or_ge k 2131 with y | y
        · exact absurd h (nI_ge (a := k) (b := 2131) y (by omega))
        · omega
      have hk2 : k < 2131 := by
        rcases Nat.lt_or_ge k 2131 with y | y
        · exact y
        · exact absurd (nI_le (a := 2131) (b := k) y (by omega)) h
      have q1 : (nI k).toNatClampNeg = k := nI_clamp (by omega)
      have q2 : (nI k + nI 69).toNatClampNeg = k + 69 := by rw [nI_add]; exact nI_clamp (by omega)
      have w2 : vp_in (nI k + nI 69) 2200 := by rw [nI_add]; exact vp_in_nI (by omega) (by omega)
      refine And.intro w2 (And.intro (vp_in_nI (N := 2200) (by omega) (by omega)) ?_)
      have y := fin (uI I 68 k (I 68 (k + 69))) (ga_put68X hg rfl hT (by omega) (by omega) (cell_nextX (by omega))) (by omega)
      have z : uI I 68 (nI k).toNatClampNeg (I 68 (nI k + nI 69).toNatClampNeg) = uI I 68 k (I 68 (k + 69)) := by rw [q1, q2]
      rw [← z] at y
      exact y
  · exact absurd hz (by decide)
  · cases st with
    | cons _ _ => exact hg.2.1.2.elim
    | nil =>
      obtain ⟨ru, ta, rs, _, _, rfl⟩ := shX hg.2.2.2.1
      obtain ⟨o0, e0, p0, hp0, y0⟩ := hg.2.1.1 0 (.inr (.inl [67])) rfl
      obtain ⟨o1, e1, x, y1, z, hzk, hx⟩ := hg.2.1.1 1 (.inl (1, .ofNat 0)) rfl
      obtain ⟨a0, a1, r, rfl⟩ := ex2 e1
      cases e0
      cases e1
      subst y0 y1
      have hp0 := List.mem_singleton.mp hp0
      subst hp0
      replace hx : x.toInt = z + 0 := hx
      have hzE : inI ((0 : Int), (69 : Int)) z := hg.1.1.2 1 z _ hzk rfl
      have hz1 := hzE.1
      have hz2 := hzE.2
      dsimp only at hz1 hz2
      obtain ⟨k, rfl, hk0, hk, _⟩ := nI_inI (x := x) (a := 0) (b := 69) (by rw [hx]; exact ⟨by show (0 : Int) ≤ z + 0; omega, by show z + 0 ≤ (69 : Int); omega⟩) (by decide)
      have hkz : (k : Int) = z := by
        rw [nI_toInt (by omega)] at hx
        omega
      have hT : ∀ e, e ∈ ca_X12_keepsStep_0_53.2.2.2.2.1 → e.1 = 68 → e.2.1 < 60 := by decide
      have out : k = 69 → K 94 (some (.ref 67) :: some (.int (nI k)) :: r) [] (shH ru ta rs) I J 0 0 := by
        intro hkk
        exact hK 94 (ca_X12_keepsStep_0_53.2.1.set 1 (69, 69), ca_X12_keepsStep_0_53.2.2.1, ca_X12_keepsStep_0_53.2.2.2.1, ca_X12_keepsStep_0_53.2.2.2.2.1) (by decide +kernel) R _ [] _ I J (ga_setE (S := stA ca_X12_keepsStep_0_53.2) (r := (69, 69)) rfl hzk ⟨by show (69 : Int) ≤ z; omega, by show z ≤ (69 : Int); omega⟩ hg)
      have fin : ∀ I2, ga (CNr 68 3 1) ck_X12_keepsStep_0.2.2.1 ck_X12_keepsStep_0.2.2.2.1 sh0 I0 R R (stA ca_X12_keepsStep_0_53.2) (some (.ref 67) :: some (.int (nI k)) :: r) [] (shH ru ta rs) I2 → k < 69 → K 53 (some (.ref 67) :: some (.int (nI k + 1)) :: r) [] (shH ru ta rs) I2 J 0 0 := by
        intro I2 h2 hkk
        have h3 := ga_setE (S := stA ca_X12_keepsStep_0_53.2) (r := (0, 68)) rfl hzk ⟨by show (0 : Int) ≤ z; omega, by show z ≤ (68 : Int); omega⟩ h2
        refine hK 53 (ca_X12_keepsStep_0_53.2.1.set 1 (0, 68), [.inr (.inl [67]), .inl (1, .ofNat 1)], [], ca_X12_keepsStep_0_53.2.2.2.2.1) (by decide +kernel) R _ [] _ I2 J ⟨h3.1, ⟨fun i a ha => ?_, trivial⟩, h3.2.2⟩
        match i, ha with
        | 0, ha =>
          cases ha
          exact ⟨_, rfl, 67, List.mem_singleton.mpr rfl, rfl⟩
        | 1, ha =>
          cases ha
          exact ⟨_, rfl, _, rfl, num_add1 hzk hx (by omega)⟩
        | _ + 2, ha => cases ha
      obtain ⟨s, hs2, hsx⟩ : numO R (2, .ofNat 0) (I 68 5) := hg.2.2.1.1 68 5 _ rfl
      replace hsx : (I 68 5).toInt = s := hsx.trans (Int.add_zero s)
      have hsE : inI ((0 : Int), (29 : Int)) s := hg.1.1.2 2 s _ hs2 rfl
      obtain ⟨S, eS, _, hS, _⟩ := nI_inI (x := I 68 5) (a := 0) (b := 29) (by rw [hsx]; exact ⟨by show (0 : Int) ≤ s; exact hsE.1, by show s ≤ (29 : Int); exact hsE.2⟩) (by decide)
      refine And.intro (fun h => out ?_) (fun h => ?_)
      · rcases Nat.lt_or_ge k 69 with y | y
        · exact absurd h (nI_ge (a := k) (b := 69) y (by omega))
        · omega
      have hk2 : k < 69 := by
        rcases Nat.lt_or_ge k 69 with y | y
        · exact y
        · exact absurd (nI_le (a := 69) (b := k) y (by omega)) h
      obtain ⟨q1, w1⟩ := ix_col (S := S) (k := k) (by omega) hk2
      obtain ⟨q2, w2⟩ := ix_row hk2
      rw [← eS] at q1 w1
      refine And.intro (vp_in_nI (N := 2200) (n := 5) (by omega) (by omega)) (And.intro w2 (And.intro w1 ?_))
      have y := fin (uI I 68 (130 + 69 * S + k) (I 68 (60 + k))) (ga_put68X hg rfl hT (by omega) (by omega) (cell_colX hk2)) (by omega)
      rw [← q1, ← q2] at y
      exact y
  · exact absurd hz (by decide)
set_option maxRecDepth 100000 in
set_option maxHeartbeats 4000000 in
theorem se2_X12_keepsStep_0 : ∀ q, q ∈ ca_X12_keepsStep_0 → nmem q.1 [15, 53] = true → ∀ (l : Launch) (d : Nat) (sh : List XO) (I : XI) (as : List Value) (Rp : XR), agO ck_X12_keepsStep_0.2.1 as → (∀ I2, frO ck_X12_keepsStep_0.2.2.1 I I2 → QQ I2) → outO QQ (CNr 68 3 2) ck_X12_keepsStep_0.2.2.1 ck_X12_keepsStep_0.2.2.2.1 sh I ck_X12_keepsStep_0.2.2.2.2.1 as Rp → segO (CNr 68 3 2) ck_X12_keepsStep_0.2.2.1 ck_X12_keepsStep_0.2.2.2.1 sh I xxX12 mX12_keepsStep.2.2.2 (!(Nat.beq 0 0)) sh.length 0 0 l (d + (ck_X12_keepsStep_0.1 - 1)) tX12_keepsStep (ca_X12_keepsStep_0.map fun q => q.1) Rp as ca_X12_keepsStep_0 (aInts ck_X12_keepsStep_0.2.1).length q := by
  intro q hq hz l d sh0 I0 as Rp ha _ _ K R lc st sh I J hK hg hp
  simp only [ca_X12_keepsStep_0, List.mem_cons, List.not_mem_nil, or_false] at hq
  rcases hq with rfl | rfl | rfl | rfl
  · cases st with
    | cons _ _ => exact hg.2.1.2.elim
    | nil =>
      obtain ⟨ru, ta, rs, _, _, rfl⟩ := shX hg.2.2.2.1
      obtain ⟨o0, e0, p0, hp0, y0⟩ := hg.2.1.1 0 (.inr (.inl [67])) rfl
      obtain ⟨o1, e1, x, y1, z, hzk, hx⟩ := hg.2.1.1 1 (.inl (1, .ofNat 0)) rfl
      obtain ⟨a0, a1, r, rfl⟩ := ex2 e1
      cases e0
      cases e1
      subst y0 y1
      have hp0 := List.mem_singleton.mp hp0
      subst hp0
      replace hx : x.toInt = z + 0 := hx
      have hzE : inI ((130 : Int), (2131 : Int)) z := hg.1.1.2 1 z _ hzk rfl
      have hz1 := hzE.1
      have hz2 := hzE.2
      dsimp only at hz1 hz2
      obtain ⟨k, rfl, hk0, hk, _⟩ := nI_inI (x := x) (a := 130) (b := 2131) (by rw [hx]; exact ⟨by show (130 : Int) ≤ z + 0; omega, by show z + 0 ≤ (2131 : Int); omega⟩) (by decide)
      have hkz : (k : Int) = z := by
        rw [nI_toInt (by omega)] at hx
        omega
      have hT : ∀ e, e ∈ ca_X12_keepsStep_0_15.2.2.2.2.1 → e.1 = 68 → e.2.1 < 60 := by decide
      have out : k = 2131 → K 43 (some (.ref 67) :: some (.int (nI k)) :: r) [] (shH ru ta rs) I J 0 0 := by
        intro hkk
        exact hK 43 (ca_X12_keepsStep_0_15.2.1.set 1 (2131, 2131), ca_X12_keepsStep_0_15.2.2.1, ca_X12_keepsStep_0_15.2.2.2.1, ca_X12_keepsStep_0_15.2.2.2.2.1) (by decide +kernel) R _ [] _ I J (ga_setE (S := stA ca_X12_keepsStep_0_15.2) (r := (2131, 2131)) rfl hzk ⟨by show (2131 : Int) ≤ z; omega, by show z ≤ (2131 : Int); omega⟩ hg)
      have fin : ∀ I2, ga (CNr 68 3 2) ck_X12_keepsStep_0.2.2.1 ck_X12_keepsStep_0.2.2.2.1 sh0 I0 R R (stA ca_X12_keepsStep_0_15.2) (some (.ref 67) :: some (.int (nI k)) :: r) [] (shH ru ta rs) I2 → k < 2131 → K 15 (some (.ref 67) :: some (.int (nI k + 1)) :: r) [] (shH ru ta rs) I2 J 0 0 := by
        intro I2 h2 hkk
        have h3 := ga_setE (S := stA ca_X12_keepsStep_0_15.2) (r := (130, 2130)) rfl hzk ⟨by show (130 : Int) ≤ z; omega, by show z ≤ (2130 : Int); omega⟩ h2
        refine hK 15 (ca_X12_keepsStep_0_15.2.1.set 1 (130, 2130), [.inr (.inl [67]), .inl (1, .ofNat 1)], [], ca_X12_keepsStep_0_15.2.2.2.2.1) (by decide +kernel) R _ [] _ I2 J ⟨h3.1, ⟨fun i a ha => ?_, trivial⟩, h3.2.2⟩
        match i, ha with
        | 0, ha =>
          cases ha
          exact ⟨_, rfl, 67, List.mem_singleton.mpr rfl, rfl⟩
        | 1, ha =>
          cases ha
          exact ⟨_, rfl, _, rfl, num_add1 hzk hx (by omega)⟩
        | _ + 2, ha => cases ha
      refine And.intro (fun h => out ?_) (fun h => ?_)
      · rcases Nat.lt_or_ge k 2131 with y | y
        · exact absurd h (nI_ge (a := k) (b := 2131) y (by omega))
        · omega
      have hk2 : k < 2131 := by
        rcases Nat.lt_or_ge k 2131 with y | y
        · exact y
        · exact absurd (nI_le (a := 2131) (b := k) y (by omega)) h
      have q1 : (nI k).toNatClampNeg = k := nI_clamp (by omega)
      have q2 : (nI k + nI 69).toNatClampNeg = k + 69 := by rw [nI_add]; exact nI_clamp (by omega)
      have w2 : vp_in (nI k + nI 69) 2200 := by rw [nI_add]; exact vp_in_nI (by omega) (by omega)
      refine And.intro w2 (And.intro (vp_in_nI (N := 2200) (by omega) (by omega)) ?_)
      have y := fin (uI I 68 k (I 68 (k + 69))) (ga_put68X hg rfl hT (by omega) (by omega) (cell_nextX (by omega))) (by omega)
      have z : uI I 68 (nI k).toNatClampNeg (I 68 (nI k + nI 69).toNatClampNeg) = uI I 68 k (I 68 (k + 69)) := by rw [q1, q2]
      rw [← z] at y
      exact y
  · exact absurd hz (by decide)
  · cases st with
    | cons _ _ => exact hg.2.1.2.elim
    | nil =>
      obtain ⟨ru, ta, rs, _, _, rfl⟩ := shX hg.2.2.2.1
      obtain ⟨o0, e0, p0, hp0, y0⟩ := hg.2.1.1 0 (.inr (.inl [67])) rfl
      obtain ⟨o1, e1, x, y1, z, hzk, hx⟩ := hg.2.1.1 1 (.inl (1, .ofNat 0)) rfl
      obtain ⟨a0, a1, r, rfl⟩ := ex2 e1
      cases e0
      cases e1
      subst y0 y1
      have hp0 := List.mem_singleton.mp hp0
      subst hp0
      replace hx : x.toInt = z + 0 := hx
      have hzE : inI ((0 : Int), (69 : Int)) z := hg.1.1.2 1 z _ hzk rfl
      have hz1 := hzE.1
      have hz2 := hzE.2
      dsimp only at hz1 hz2
      obtain ⟨k, rfl, hk0, hk, _⟩ := nI_inI (x := x) (a := 0) (b := 69) (by rw [hx]; exact ⟨by show (0 : Int) ≤ z + 0; omega, by show z + 0 ≤ (69 : Int); omega⟩) (by decide)
      have hkz : (k : Int) = z := by
        rw [nI_toInt (by omega)] at hx
        omega
      have hT : ∀ e, e ∈ ca_X12_keepsStep_0_53.2.2.2.2.1 → e.1 = 68 → e.2.1 < 60 := by decide
      have out : k = 69 → K 94 (some (.ref 67) :: some (.int (nI k)) :: r) [] (shH ru ta rs) I J 0 0 := by
        intro hkk
        exact hK 94 (ca_X12_keepsStep_0_53.2.1.set 1 (69, 69), ca_X12_keepsStep_0_53.2.2.1, ca_X12_keepsStep_0_53.2.2.2.1, ca_X12_keepsStep_0_53.2.2.2.2.1) (by decide +kernel) R _ [] _ I J (ga_setE (S := stA ca_X12_keepsStep_0_53.2) (r := (69, 69)) rfl hzk ⟨by show (69 : Int) ≤ z; omega, by show z ≤ (69 : Int); omega⟩ hg)
      have fin : ∀ I2, ga (CNr 68 3 2) ck_X12_keepsStep_0.2.2.1 ck_X12_keepsStep_0.2.2.2.1 sh0 I0 R R (stA ca_X12_keepsStep_0_53.2) (some (.ref 67) :: some (.int (nI k)) :: r) [] (shH ru ta rs) I2 → k < 69 → K 53 (some (.ref 67) :: some (.int (nI k + 1)) :: r) [] (shH ru ta rs) I2 J 0 0 := by
        intro I2 h2 hkk
        have h3 := ga_setE (S := stA ca_X12_keepsStep_0_53.2) (r := (0, 68)) rfl hzk ⟨by show (0 : Int) ≤ z; omega, by show z ≤ (68 : Int); omega⟩ h2
        refine hK 53 (ca_X12_keepsStep_0_53.2.1.set 1 (0, 68), [.inr (.inl [67]), .inl (1, .ofNat 1)], [], ca_X12_keepsStep_0_53.2.2.2.2.1) (by decide +kernel) R _ [] _ I2 J ⟨h3.1, ⟨fun i a ha => ?_, trivial⟩, h3.2.2⟩
        match i, ha with
        | 0, ha =>
          cases ha
          exact ⟨_, rfl, 67, List.mem_singleton.mpr rfl, rfl⟩
        | 1, ha =>
          cases ha
          exact ⟨_, rfl, _, rfl, num_add1 hzk hx (by omega)⟩
        | _ + 2, ha => cases ha
      obtain ⟨s, hs2, hsx⟩ : numO R (2, .ofNat 0) (I 68 5) := hg.2.2.1.1 68 5 _ rfl
      replace hsx : (I 68 5).toInt = s := hsx.trans (Int.add_zero s)
      have hsE : inI ((0 : Int), (29 : Int)) s := hg.1.1.2 2 s _ hs2 rfl
      obtain ⟨S, eS, _, hS, _⟩ := nI_inI (x := I 68 5) (a := 0) (b := 29) (by rw [hsx]; exact ⟨by show (0 : Int) ≤ s; exact hsE.1, by show s ≤ (29 : Int); exact hsE.2⟩) (by decide)
      refine And.intro (fun h => out ?_) (fun h => ?_)
      · rcases Nat.lt_or_ge k 69 with y | y
        · exact absurd h (nI_ge (a := k) (b := 69) y (by omega))
        · omega
      have hk2 : k < 69 := by
        rcases Nat.lt_or_ge k 69 with y | y
        · exact y
        · exact absurd (nI_le (a := 69) (b := k) y (by omega)) h
      obtain ⟨q1, w1⟩ := ix_col (S := S) (k := k) (by omega) hk2
      obtain ⟨q2, w2⟩ := ix_row hk2
      rw [← eS] at q1 w1
      refine And.intro (vp_in_nI (N := 2200) (n := 5) (by omega) (by omega)) (And.intro w2 (And.intro w1 ?_))
      have y := fin (uI I 68 (130 + 69 * S + k) (I 68 (60 + k))) (ga_put68X hg rfl hT (by omega) (by omega) (cell_colX hk2)) (by omega)
      rw [← q1, ← q2] at y
      exact y
  · exact absurd hz (by decide)
set_option maxRecDepth 100000 in
set_option maxHeartbeats 4000000 in
theorem se3_X12_keepsStep_0 : ∀ q, q ∈ ca_X12_keepsStep_0 → nmem q.1 [15, 53] = true → ∀ (l : Launch) (d : Nat) (sh : List XO) (I : XI) (as : List Value) (Rp : XR), agO ck_X12_keepsStep_0.2.1 as → (∀ I2, frO ck_X12_keepsStep_0.2.2.1 I I2 → QQ I2) → outO QQ (CNr 68 3 3) ck_X12_keepsStep_0.2.2.1 ck_X12_keepsStep_0.2.2.2.1 sh I ck_X12_keepsStep_0.2.2.2.2.1 as Rp → segO (CNr 68 3 3) ck_X12_keepsStep_0.2.2.1 ck_X12_keepsStep_0.2.2.2.1 sh I xxX12 mX12_keepsStep.2.2.2 (!(Nat.beq 0 0)) sh.length 0 0 l (d + (ck_X12_keepsStep_0.1 - 1)) tX12_keepsStep (ca_X12_keepsStep_0.map fun q => q.1) Rp as ca_X12_keepsStep_0 (aInts ck_X12_keepsStep_0.2.1).length q := by
  intro q hq hz l d sh0 I0 as Rp ha _ _ K R lc st sh I J hK hg hp
  simp only [ca_X12_keepsStep_0, List.mem_cons, List.not_mem_nil, or_false] at hq
  rcases hq with rfl | rfl | rfl | rfl
  · cases st with
    | cons _ _ => exact hg.2.1.2.elim
    | nil =>
      obtain ⟨ru, ta, rs, _, _, rfl⟩ := shX hg.2.2.2.1
      obtain ⟨o0, e0, p0, hp0, y0⟩ := hg.2.1.1 0 (.inr (.inl [67])) rfl
      obtain ⟨o1, e1, x, y1, z, hzk, hx⟩ := hg.2.1.1 1 (.inl (1, .ofNat 0)) rfl
      obtain ⟨a0, a1, r, rfl⟩ := ex2 e1
      cases e0
      cases e1
      subst y0 y1
      have hp0 := List.mem_singleton.mp hp0
      subst hp0
      replace hx : x.toInt = z + 0 := hx
      have hzE : inI ((130 : Int), (2131 : Int)) z := hg.1.1.2 1 z _ hzk rfl
      have hz1 := hzE.1
      have hz2 := hzE.2
      dsimp only at hz1 hz2
      obtain ⟨k, rfl, hk0, hk, _⟩ := nI_inI (x := x) (a := 130) (b := 2131) (by rw [hx]; exact ⟨by show (130 : Int) ≤ z + 0; omega, by show z + 0 ≤ (2131 : Int); omega⟩) (by decide)
      have hkz : (k : Int) = z := by
        rw [nI_toInt (by omega)] at hx
        omega
      have hT : ∀ e, e ∈ ca_X12_keepsStep_0_15.2.2.2.2.1 → e.1 = 68 → e.2.1 < 60 := by decide
      have out : k = 2131 → K 43 (some (.ref 67) :: some (.int (nI k)) :: r) [] (shH ru ta rs) I J 0 0 := by
        intro hkk
        exact hK 43 (ca_X12_keepsStep_0_15.2.1.set 1 (2131, 2131), ca_X12_keepsStep_0_15.2.2.1, ca_X12_keepsStep_0_15.2.2.2.1, ca_X12_keepsStep_0_15.2.2.2.2.1) (by decide +kernel) R _ [] _ I J (ga_setE (S := stA ca_X12_keepsStep_0_15.2) (r := (2131, 2131)) rfl hzk ⟨by show (2131 : Int) ≤ z; omega, by show z ≤ (2131 : Int); omega⟩ hg)
      have fin : ∀ I2, ga (CNr 68 3 3) ck_X12_keepsStep_0.2.2.1 ck_X12_keepsStep_0.2.2.2.1 sh0 I0 R R (stA ca_X12_keepsStep_0_15.2) (some (.ref 67) :: some (.int (nI k)) :: r) [] (shH ru ta rs) I2 → k < 2131 → K 15 (some (.ref 67) :: some (.int (nI k + 1)) :: r) [] (shH ru ta rs) I2 J 0 0 := by
        intro I2 h2 hkk
        have h3 := ga_setE (S := stA ca_X12_keepsStep_0_15.2) (r := (130, 2130)) rfl hzk ⟨by show (130 : Int) ≤ z; omega, by show z ≤ (2130 : Int); omega⟩ h2
        refine hK 15 (ca_X12_keepsStep_0_15.2.1.set 1 (130, 2130), [.inr (.inl [67]), .inl (1, .ofNat 1)], [], ca_X12_keepsStep_0_15.2.2.2.2.1) (by decide +kernel) R _ [] _ I2 J ⟨h3.1, ⟨fun i a ha => ?_, trivial⟩, h3.2.2⟩
        match i, ha with
        | 0, ha =>
          cases ha
          exact ⟨_, rfl, 67, List.mem_singleton.mpr rfl, rfl⟩
        | 1, ha =>
          cases ha
          exact ⟨_, rfl, _, rfl, num_add1 hzk hx (by omega)⟩
        | _ + 2, ha => cases ha
      refine And.intro (fun h => out ?_) (fun h => ?_)
      · rcases Nat.lt_or_ge k 2131 with y | y
        · exact absurd h (nI_ge (a := k) (b := 2131) y (by omega))
        · omega
      have hk2 : k < 2131 := by
        rcases Nat.lt_or_ge k 2131 with y | y
        · exact y
        · exact absurd (nI_le (a := 2131) (b := k) y (by omega)) h
      have q1 : (nI k).toNatClampNeg = k := nI_clamp (by omega)
      have q2 : (nI k + nI 69).toNatClampNeg = k + 69 := by rw [nI_add]; exact nI_clamp (by omega)
      have w2 : vp_in (nI k + nI 69) 2200 := by rw [nI_add]; exact vp_in_nI (by omega) (by omega)
      refine And.intro w2 (And.intro (vp_in_nI (N := 2200) (by omega) (by omega)) ?_)
      have y := fin (uI I 68 k (I 68 (k + 69))) (ga_put68X hg rfl hT (by omega) (by omega) (cell_nextX (by omega))) (by omega)
      have z : uI I 68 (nI k).toNatClampNeg (I 68 (nI k + nI 69).toNatClampNeg) = uI I 68 k (I 68 (k + 69)) := by rw [q1, q2]
      rw [← z] at y
      exact y
  · exact absurd hz (by decide)
  · cases st with
    | cons _ _ => exact hg.2.1.2.elim
    | nil =>
      obtain ⟨ru, ta, rs, _, _, rfl⟩ := shX hg.2.2.2.1
      obtain ⟨o0, e0, p0, hp0, y0⟩ := hg.2.1.1 0 (.inr (.inl [67])) rfl
      obtain ⟨o1, e1, x, y1, z, hzk, hx⟩ := hg.2.1.1 1 (.inl (1, .ofNat 0)) rfl
      obtain ⟨a0, a1, r, rfl⟩ := ex2 e1
      cases e0
      cases e1
      subst y0 y1
      have hp0 := List.mem_singleton.mp hp0
      subst hp0
      replace hx : x.toInt = z + 0 := hx
      have hzE : inI ((0 : Int), (69 : Int)) z := hg.1.1.2 1 z _ hzk rfl
      have hz1 := hzE.1
      have hz2 := hzE.2
      dsimp only at hz1 hz2
      obtain ⟨k, rfl, hk0, hk, _⟩ := nI_inI (x := x) (a := 0) (b := 69) (by rw [hx]; exact ⟨by show (0 : Int) ≤ z + 0; omega, by show z + 0 ≤ (69 : Int); omega⟩) (by decide)
      have hkz : (k : Int) = z := by
        rw [nI_toInt (by omega)] at hx
        omega
      have hT : ∀ e, e ∈ ca_X12_keepsStep_0_53.2.2.2.2.1 → e.1 = 68 → e.2.1 < 60 := by decide
      have out : k = 69 → K 94 (some (.ref 67) :: some (.int (nI k)) :: r) [] (shH ru ta rs) I J 0 0 := by
        intro hkk
        exact hK 94 (ca_X12_keepsStep_0_53.2.1.set 1 (69, 69), ca_X12_keepsStep_0_53.2.2.1, ca_X12_keepsStep_0_53.2.2.2.1, ca_X12_keepsStep_0_53.2.2.2.2.1) (by decide +kernel) R _ [] _ I J (ga_setE (S := stA ca_X12_keepsStep_0_53.2) (r := (69, 69)) rfl hzk ⟨by show (69 : Int) ≤ z; omega, by show z ≤ (69 : Int); omega⟩ hg)
      have fin : ∀ I2, ga (CNr 68 3 3) ck_X12_keepsStep_0.2.2.1 ck_X12_keepsStep_0.2.2.2.1 sh0 I0 R R (stA ca_X12_keepsStep_0_53.2) (some (.ref 67) :: some (.int (nI k)) :: r) [] (shH ru ta rs) I2 → k < 69 → K 53 (some (.ref 67) :: some (.int (nI k + 1)) :: r) [] (shH ru ta rs) I2 J 0 0 := by
        intro I2 h2 hkk
        have h3 := ga_setE (S := stA ca_X12_keepsStep_0_53.2) (r := (0, 68)) rfl hzk ⟨by show (0 : Int) ≤ z; omega, by show z ≤ (68 : Int); omega⟩ h2
        refine hK 53 (ca_X12_keepsStep_0_53.2.1.set 1 (0, 68), [.inr (.inl [67]), .inl (1, .ofNat 1)], [], ca_X12_keepsStep_0_53.2.2.2.2.1) (by decide +kernel) R _ [] _ I2 J ⟨h3.1, ⟨fun i a ha => ?_, trivial⟩, h3.2.2⟩
        match i, ha with
        | 0, ha =>
          cases ha
          exact ⟨_, rfl, 67, List.mem_singleton.mpr rfl, rfl⟩
        | 1, ha =>
          cases ha
          exact ⟨_, rfl, _, rfl, num_add1 hzk hx (by omega)⟩
        | _ + 2, ha => cases ha
      obtain ⟨s, hs2, hsx⟩ : numO R (2, .ofNat 0) (I 68 5) := hg.2.2.1.1 68 5 _ rfl
      replace hsx : (I 68 5).toInt = s := hsx.trans (Int.add_zero s)
      have hsE : inI ((0 : Int), (29 : Int)) s := hg.1.1.2 2 s _ hs2 rfl
      obtain ⟨S, eS, _, hS, _⟩ := nI_inI (x := I 68 5) (a := 0) (b := 29) (by rw [hsx]; exact ⟨by show (0 : Int) ≤ s; exact hsE.1, by show s ≤ (29 : Int); exact hsE.2⟩) (by decide)
      refine And.intro (fun h => out ?_) (fun h => ?_)
      · rcases Nat.lt_or_ge k 69 with y | y
        · exact absurd h (nI_ge (a := k) (b := 69) y (by omega))
        · omega
      have hk2 : k < 69 := by
        rcases Nat.lt_or_ge k 69 with y | y
        · exact y
        · exact absurd (nI_le (a := 69) (b := k) y (by omega)) h
      obtain ⟨q1, w1⟩ := ix_col (S := S) (k := k) (by omega) hk2
      obtain ⟨q2, w2⟩ := ix_row hk2
      rw [← eS] at q1 w1
      refine And.intro (vp_in_nI (N := 2200) (n := 5) (by omega) (by omega)) (And.intro w2 (And.intro w1 ?_))
      have y := fin (uI I 68 (130 + 69 * S + k) (I 68 (60 + k))) (ga_put68X hg rfl hT (by omega) (by omega) (cell_colX hk2)) (by omega)
      rw [← q1, ← q2] at y
      exact y
  · exact absurd hz (by decide)
set_option maxRecDepth 100000 in
set_option maxHeartbeats 4000000 in
theorem se4_X12_keepsStep_0 : ∀ q, q ∈ ca_X12_keepsStep_0 → nmem q.1 [15, 53] = true → ∀ (l : Launch) (d : Nat) (sh : List XO) (I : XI) (as : List Value) (Rp : XR), agO ck_X12_keepsStep_0.2.1 as → (∀ I2, frO ck_X12_keepsStep_0.2.2.1 I I2 → QQ I2) → outO QQ (CNr 68 3 4) ck_X12_keepsStep_0.2.2.1 ck_X12_keepsStep_0.2.2.2.1 sh I ck_X12_keepsStep_0.2.2.2.2.1 as Rp → segO (CNr 68 3 4) ck_X12_keepsStep_0.2.2.1 ck_X12_keepsStep_0.2.2.2.1 sh I xxX12 mX12_keepsStep.2.2.2 (!(Nat.beq 0 0)) sh.length 0 0 l (d + (ck_X12_keepsStep_0.1 - 1)) tX12_keepsStep (ca_X12_keepsStep_0.map fun q => q.1) Rp as ca_X12_keepsStep_0 (aInts ck_X12_keepsStep_0.2.1).length q := by
  intro q hq hz l d sh0 I0 as Rp ha _ _ K R lc st sh I J hK hg hp
  simp only [ca_X12_keepsStep_0, List.mem_cons, List.not_mem_nil, or_false] at hq
  rcases hq with rfl | rfl | rfl | rfl
  · cases st with
    | cons _ _ => exact hg.2.1.2.elim
    | nil =>
      obtain ⟨ru, ta, rs, _, _, rfl⟩ := shX hg.2.2.2.1
      obtain ⟨o0, e0, p0, hp0, y0⟩ := hg.2.1.1 0 (.inr (.inl [67])) rfl
      obtain ⟨o1, e1, x, y1, z, hzk, hx⟩ := hg.2.1.1 1 (.inl (1, .ofNat 0)) rfl
      obtain ⟨a0, a1, r, rfl⟩ := ex2 e1
      cases e0
      cases e1
      subst y0 y1
      have hp0 := List.mem_singleton.mp hp0
      subst hp0
      replace hx : x.toInt = z + 0 := hx
      have hzE : inI ((130 : Int), (2131 : Int)) z := hg.1.1.2 1 z _ hzk rfl
      have hz1 := hzE.1
      have hz2 := hzE.2
      dsimp only at hz1 hz2
      obtain ⟨k, rfl, hk0, hk, _⟩ := nI_inI (x := x) (a := 130) (b := 2131) (by rw [hx]; exact ⟨by show (130 : Int) ≤ z + 0; omega, by show z + 0 ≤ (2131 : Int); omega⟩) (by decide)
      have hkz : (k : Int) = z := by
        rw [nI_toInt (by omega)] at hx
        omega
      have hT : ∀ e, e ∈ ca_X12_keepsStep_0_15.2.2.2.2.1 → e.1 = 68 → e.2.1 < 60 := by decide
      have out : k = 2131 → K 43 (some (.ref 67) :: some (.int (nI k)) :: r) [] (shH ru ta rs) I J 0 0 := by
        intro hkk
        exact hK 43 (ca_X12_keepsStep_0_15.2.1.set 1 (2131, 2131), ca_X12_keepsStep_0_15.2.2.1, ca_X12_keepsStep_0_15.2.2.2.1, ca_X12_keepsStep_0_15.2.2.2.2.1) (by decide +kernel) R _ [] _ I J (ga_setE (S := stA ca_X12_keepsStep_0_15.2) (r := (2131, 2131)) rfl hzk ⟨by show (2131 : Int) ≤ z; omega, by show z ≤ (2131 : Int); omega⟩ hg)
      have fin : ∀ I2, ga (CNr 68 3 4) ck_X12_keepsStep_0.2.2.1 ck_X12_keepsStep_0.2.2.2.1 sh0 I0 R R (stA ca_X12_keepsStep_0_15.2) (some (.ref 67) :: some (.int (nI k)) :: r) [] (shH ru ta rs) I2 → k < 2131 → K 15 (some (.ref 67) :: some (.int (nI k + 1)) :: r) [] (shH ru ta rs) I2 J 0 0 := by
        intro I2 h2 hkk
        have h3 := ga_setE (S := stA ca_X12_keepsStep_0_15.2) (r := (130, 2130)) rfl hzk ⟨by show (130 : Int) ≤ z; omega, by show z ≤ (2130 : Int); omega⟩ h2
        refine hK 15 (ca_X12_keepsStep_0_15.2.1.set 1 (130, 2130), [.inr (.inl [67]), .inl (1, .ofNat 1)], [], ca_X12_keepsStep_0_15.2.2.2.2.1) (by decide +kernel) R _ [] _ I2 J ⟨h3.1, ⟨fun i a ha => ?_, trivial⟩, h3.2.2⟩
        match i, ha with
        | 0, ha =>
          cases ha
          exact ⟨_, rfl, 67, List.mem_singleton.mpr rfl, rfl⟩
        | 1, ha =>
          cases ha
          exact ⟨_, rfl, _, rfl, num_add1 hzk hx (by omega)⟩
        | _ + 2, ha => cases ha
      refine And.intro (fun h => out ?_) (fun h => ?_)
      · rcases Nat.lt_or_ge k 2131 with y | y
        · exact absurd h (nI_ge (a := k) (b := 2131) y (by omega))
        · omega
      have hk2 : k < 2131 := by
        rcases Nat.lt_or_ge k 2131 with y | y
        · exact y
        · exact absurd (nI_le (a := 2131) (b := k) y (by omega)) h
      have q1 : (nI k).toNatClampNeg = k := nI_clamp (by omega)
      have q2 : (nI k + nI 69).toNatClampNeg = k + 69 := by rw [nI_add]; exact nI_clamp (by omega)
      have w2 : vp_in (nI k + nI 69) 2200 := by rw [nI_add]; exact vp_in_nI (by omega) (by omega)
      refine And.intro w2 (And.intro (vp_in_nI (N := 2200) (by omega) (by omega)) ?_)
      have y := fin (uI I 68 k (I 68 (k + 69))) (ga_put68X hg rfl hT (by omega) (by omega) (cell_nextX (by omega))) (by omega)
      have z : uI I 68 (nI k).toNatClampNeg (I 68 (nI k + nI 69).toNatClampNeg) = uI I 68 k (I 68 (k + 69)) := by rw [q1, q2]
      rw [← z] at y
      exact y
  · exact absurd hz (by decide)
  · cases st with
    | cons _ _ => exact hg.2.1.2.elim
    | nil =>
      obtain ⟨ru, ta, rs, _, _, rfl⟩ := shX hg.2.2.2.1
      obtain ⟨o0, e0, p0, hp0, y0⟩ := hg.2.1.1 0 (.inr (.inl [67])) rfl
      obtain ⟨o1, e1, x, y1, z, hzk, hx⟩ := hg.2.1.1 1 (.inl (1, .ofNat 0)) rfl
      obtain ⟨a0, a1, r, rfl⟩ := ex2 e1
      cases e0
      cases e1
      subst y0 y1
      have hp0 := List.mem_singleton.mp hp0
      subst hp0
      replace hx : x.toInt = z + 0 := hx
      have hzE : inI ((0 : Int), (69 : Int)) z := hg.1.1.2 1 z _ hzk rfl
      have hz1 := hzE.1
      have hz2 := hzE.2
      dsimp only at hz1 hz2
      obtain ⟨k, rfl, hk0, hk, _⟩ := nI_inI (x := x) (a := 0) (b := 69) (by rw [hx]; exact ⟨by show (0 : Int) ≤ z + 0; omega, by show z + 0 ≤ (69 : Int); omega⟩) (by decide)
      have hkz : (k : Int) = z := by
        rw [nI_toInt (by omega)] at hx
        omega
      have hT : ∀ e, e ∈ ca_X12_keepsStep_0_53.2.2.2.2.1 → e.1 = 68 → e.2.1 < 60 := by decide
      have out : k = 69 → K 94 (some (.ref 67) :: some (.int (nI k)) :: r) [] (shH ru ta rs) I J 0 0 := by
        intro hkk
        exact hK 94 (ca_X12_keepsStep_0_53.2.1.set 1 (69, 69), ca_X12_keepsStep_0_53.2.2.1, ca_X12_keepsStep_0_53.2.2.2.1, ca_X12_keepsStep_0_53.2.2.2.2.1) (by decide +kernel) R _ [] _ I J (ga_setE (S := stA ca_X12_keepsStep_0_53.2) (r := (69, 69)) rfl hzk ⟨by show (69 : Int) ≤ z; omega, by show z ≤ (69 : Int); omega⟩ hg)
      have fin : ∀ I2, ga (CNr 68 3 4) ck_X12_keepsStep_0.2.2.1 ck_X12_keepsStep_0.2.2.2.1 sh0 I0 R R (stA ca_X12_keepsStep_0_53.2) (some (.ref 67) :: some (.int (nI k)) :: r) [] (shH ru ta rs) I2 → k < 69 → K 53 (some (.ref 67) :: some (.int (nI k + 1)) :: r) [] (shH ru ta rs) I2 J 0 0 := by
        intro I2 h2 hkk
        have h3 := ga_setE (S := stA ca_X12_keepsStep_0_53.2) (r := (0, 68)) rfl hzk ⟨by show (0 : Int) ≤ z; omega, by show z ≤ (68 : Int); omega⟩ h2
        refine hK 53 (ca_X12_keepsStep_0_53.2.1.set 1 (0, 68), [.inr (.inl [67]), .inl (1, .ofNat 1)], [], ca_X12_keepsStep_0_53.2.2.2.2.1) (by decide +kernel) R _ [] _ I2 J ⟨h3.1, ⟨fun i a ha => ?_, trivial⟩, h3.2.2⟩
        match i, ha with
        | 0, ha =>
          cases ha
          exact ⟨_, rfl, 67, List.mem_singleton.mpr rfl, rfl⟩
        | 1, ha =>
          cases ha
          exact ⟨_, rfl, _, rfl, num_add1 hzk hx (by omega)⟩
        | _ + 2, ha => cases ha
      obtain ⟨s, hs2, hsx⟩ : numO R (2, .ofNat 0) (I 68 5) := hg.2.2.1.1 68 5 _ rfl
      replace hsx : (I 68 5).toInt = s := hsx.trans (Int.add_zero s)
      have hsE : inI ((0 : Int), (29 : Int)) s := hg.1.1.2 2 s _ hs2 rfl
      obtain ⟨S, eS, _, hS, _⟩ := nI_inI (x := I 68 5) (a := 0) (b := 29) (by rw [hsx]; exact ⟨by show (0 : Int) ≤ s; exact hsE.1, by show s ≤ (29 : Int); exact hsE.2⟩) (by decide)
      refine And.intro (fun h => out ?_) (fun h => ?_)
      · rcases Nat.lt_or_ge k 69 with y | y
        · exact absurd h (nI_ge (a := k) (b := 69) y (by omega))
        · omega
      have hk2 : k < 69 := by
        rcases Nat.lt_or_ge k 69 with y | y
        · exact y
        · exact absurd (nI_le (a := 69) (b := k) y (by omega)) h
      obtain ⟨q1, w1⟩ := ix_col (S := S) (k := k) (by omega) hk2
      obtain ⟨q2, w2⟩ := ix_row hk2
      rw [← eS] at q1 w1
      refine And.intro (vp_in_nI (N := 2200) (n := 5) (by omega) (by omega)) (And.intro w2 (And.intro w1 ?_))
      have y := fin (uI I 68 (130 + 69 * S + k) (I 68 (60 + k))) (ga_put68X hg rfl hT (by omega) (by omega) (cell_colX hk2)) (by omega)
      rw [← q1, ← q2] at y
      exact y
  · exact absurd hz (by decide)
theorem sev_X12_keepsStep_0 {v : Nat} (hv : v < 5) : ∀ q, q ∈ ca_X12_keepsStep_0 → nmem q.1 [15, 53] = true → ∀ (l : Launch) (d : Nat) (sh : List XO) (I : XI) (as : List Value) (Rp : XR), agO ck_X12_keepsStep_0.2.1 as → (∀ I2, frO ck_X12_keepsStep_0.2.2.1 I I2 → QQ I2) → outO QQ (CNr 68 3 v) ck_X12_keepsStep_0.2.2.1 ck_X12_keepsStep_0.2.2.2.1 sh I ck_X12_keepsStep_0.2.2.2.2.1 as Rp → segO (CNr 68 3 v) ck_X12_keepsStep_0.2.2.1 ck_X12_keepsStep_0.2.2.2.1 sh I xxX12 mX12_keepsStep.2.2.2 (!(Nat.beq 0 0)) sh.length 0 0 l (d + (ck_X12_keepsStep_0.1 - 1)) tX12_keepsStep (ca_X12_keepsStep_0.map fun q => q.1) Rp as ca_X12_keepsStep_0 (aInts ck_X12_keepsStep_0.2.1).length q := by
  have h5 : v = 0 ∨ v = 1 ∨ v = 2 ∨ v = 3 ∨ v = 4 := by omega
  rcases h5 with rfl | rfl | rfl | rfl | rfl
  · exact se0_X12_keepsStep_0
  · exact se1_X12_keepsStep_0
  · exact se2_X12_keepsStep_0
  · exact se3_X12_keepsStep_0
  · exact se4_X12_keepsStep_0
theorem cv_X12_keepsStep_0 {v : Nat} (hv : v < 5) : ctrO QQ (CNr 68 3 v) ck_X12_keepsStep_0 mX12_keepsStep := chk_okS (Q := QQ) (QP := QPl) (C := (CNr 68 3 v)) (c := ck_X12_keepsStep_0) (G := cg_X12_keepsStep_0) (X := xxX12) (M := mX12_keepsStep) (t := tX12_keepsStep) (anns := ca_X12_keepsStep_0) [15, 53] 2074 xx12 pl12 rfl kX12_keepsStep qq_ok (cy_X12_keepsStep_0 hv) (sev_X12_keepsStep_0 hv) (w5 cd_X12_keepsStep_0 hv)
set_option maxRecDepth 100000 in
theorem cd_X12_thing_0 : ((List.range 5).all fun v => aChk QPl (CNr 68 3 v) ck_X12_thing_0 cg_X12_thing_0 xxX12 mX12_thing tX12_thing ca_X12_thing_0 [] 31) = true := by decide +kernel
theorem cy_X12_thing_0 {v : Nat} (hv : v < 5) : ctsO QQ (CNr 68 3 v) xxX12 cg_X12_thing_0 := ctsO_cons rfl (cnr_lift nc_B hv ct_X12_in_2 rfl) (ctsO_cons rfl (cnr_lift nc_B hv ct_X12_in_3 rfl) (ctsO_cons rfl (cnr_lift nc_B hv ct_X12_in_4 rfl) (ctsO_nil)))
theorem cv_X12_thing_0 {v : Nat} (hv : v < 5) : ctrO QQ (CNr 68 3 v) ck_X12_thing_0 mX12_thing := chk_ok (Q := QQ) (QP := QPl) (C := (CNr 68 3 v)) (c := ck_X12_thing_0) (G := cg_X12_thing_0) (X := xxX12) (M := mX12_thing) (t := tX12_thing) (anns := ca_X12_thing_0) 31 xx12 pl12 rfl kX12_thing qq_ok (cy_X12_thing_0 hv) (w5 cd_X12_thing_0 hv)
set_option maxRecDepth 100000 in
theorem cd_X12_reaper_0 : ((List.range 5).all fun v => aChk QPl (CNr 68 3 v) ck_X12_reaper_0 cg_X12_reaper_0 xxX12 mX12_reaper tX12_reaper ca_X12_reaper_0 [] 1) = true := by decide +kernel
theorem cy_X12_reaper_0 {v : Nat} (hv : v < 5) : ctsO QQ (CNr 68 3 v) xxX12 cg_X12_reaper_0 := ctsO_cons rfl (cnr_lift nc_B hv ct_X12_in_2 rfl) (ctsO_nil)
theorem cv_X12_reaper_0 {v : Nat} (hv : v < 5) : ctrO QQ (CNr 68 3 v) ck_X12_reaper_0 mX12_reaper := chk_ok (Q := QQ) (QP := QPl) (C := (CNr 68 3 v)) (c := ck_X12_reaper_0) (G := cg_X12_reaper_0) (X := xxX12) (M := mX12_reaper) (t := tX12_reaper) (anns := ca_X12_reaper_0) 1 xx12 pl12 rfl kX12_reaper qq_ok (cy_X12_reaper_0 hv) (w5 cd_X12_reaper_0 hv)
set_option maxRecDepth 100000 in
theorem cd_X12_barn_0 : ((List.range 5).all fun v => aChk QPl (CNr 68 3 v) ck_X12_barn_0 cg_X12_barn_0 xxX12 mX12_barn tX12_barn ca_X12_barn_0 [] 1) = true := by decide +kernel
theorem cy_X12_barn_0 {v : Nat} (hv : v < 5) : ctsO QQ (CNr 68 3 v) xxX12 cg_X12_barn_0 := ctsO_cons rfl (cnr_lift nc_B hv ct_X12_in_5 rfl) (ctsO_nil)
theorem cv_X12_barn_0 {v : Nat} (hv : v < 5) : ctrO QQ (CNr 68 3 v) ck_X12_barn_0 mX12_barn := chk_ok (Q := QQ) (QP := QPl) (C := (CNr 68 3 v)) (c := ck_X12_barn_0) (G := cg_X12_barn_0) (X := xxX12) (M := mX12_barn) (t := tX12_barn) (anns := ca_X12_barn_0) 1 xx12 pl12 rfl kX12_barn qq_ok (cy_X12_barn_0 hv) (w5 cd_X12_barn_0 hv)
set_option maxRecDepth 100000 in
theorem cd_X12_undo_0 : ((List.range 5).all fun v => aChk QPl (CNr 68 3 v) ck_X12_undo_0 cg_X12_undo_0 xxX12 mX12_undo tX12_undo ca_X12_undo_0 [23] 71) = true := by decide +kernel
theorem cy_X12_undo_0 {v : Nat} (hv : v < 5) : ctsO QQ (CNr 68 3 v) xxX12 cg_X12_undo_0 := ctsO_nil
set_option maxRecDepth 100000 in
set_option maxHeartbeats 4000000 in
theorem se0_X12_undo_0 : ∀ q, q ∈ ca_X12_undo_0 → nmem q.1 [23] = true → ∀ (l : Launch) (d : Nat) (sh : List XO) (I : XI) (as : List Value) (Rp : XR), agO ck_X12_undo_0.2.1 as → (∀ I2, frO ck_X12_undo_0.2.2.1 I I2 → QQ I2) → outO QQ (CNr 68 3 0) ck_X12_undo_0.2.2.1 ck_X12_undo_0.2.2.2.1 sh I ck_X12_undo_0.2.2.2.2.1 as Rp → segO (CNr 68 3 0) ck_X12_undo_0.2.2.1 ck_X12_undo_0.2.2.2.1 sh I xxX12 mX12_undo.2.2.2 (!(Nat.beq 0 0)) sh.length 0 0 l (d + (ck_X12_undo_0.1 - 1)) tX12_undo (ca_X12_undo_0.map fun q => q.1) Rp as ca_X12_undo_0 (aInts ck_X12_undo_0.2.1).length q := by
  intro q hq hz l d sh0 I0 as Rp ha _ _ K R lc st sh I J hK hg hp
  simp only [ca_X12_undo_0, List.mem_cons, List.not_mem_nil, or_false] at hq
  rcases hq with rfl | rfl
  · cases st with
    | cons _ _ => exact hg.2.1.2.elim
    | nil =>
      obtain ⟨ru, ta, rs, _, _, rfl⟩ := shX hg.2.2.2.1
      obtain ⟨o0, e0, p0, hp0, y0⟩ := hg.2.1.1 0 (.inr (.inl [67])) rfl
      obtain ⟨o1, e1, x, y1, z, hzk, hx⟩ := hg.2.1.1 1 (.inl (1, .ofNat 0)) rfl
      obtain ⟨a0, a1, r, rfl⟩ := ex2 e1
      cases e0
      cases e1
      subst y0 y1
      have hp0 := List.mem_singleton.mp hp0
      subst hp0
      replace hx : x.toInt = z + 0 := hx
      have hzE : inI ((0 : Int), (69 : Int)) z := hg.1.1.2 1 z _ hzk rfl
      have hz1 := hzE.1
      have hz2 := hzE.2
      dsimp only at hz1 hz2
      obtain ⟨k, rfl, hk0, hk, _⟩ := nI_inI (x := x) (a := 0) (b := 69) (by rw [hx]; exact ⟨by show (0 : Int) ≤ z + 0; omega, by show z + 0 ≤ (69 : Int); omega⟩) (by decide)
      have hkz : (k : Int) = z := by
        rw [nI_toInt (by omega)] at hx
        omega
      have hT : ∀ e, e ∈ ca_X12_undo_0_23.2.2.2.2.1 → e.1 = 68 → e.2.1 < 60 := by decide
      have out : k = 69 → K 64 (some (.ref 67) :: some (.int (nI k)) :: r) [] (shH ru ta rs) I J 0 0 := by
        intro hkk
        exact hK 64 (ca_X12_undo_0_23.2.1.set 1 (69, 69), ca_X12_undo_0_23.2.2.1, ca_X12_undo_0_23.2.2.2.1, ca_X12_undo_0_23.2.2.2.2.1) (by decide +kernel) R _ [] _ I J (ga_setE (S := stA ca_X12_undo_0_23.2) (r := (69, 69)) rfl hzk ⟨by show (69 : Int) ≤ z; omega, by show z ≤ (69 : Int); omega⟩ hg)
      have fin : ∀ I2, ga (CNr 68 3 0) ck_X12_undo_0.2.2.1 ck_X12_undo_0.2.2.2.1 sh0 I0 R R (stA ca_X12_undo_0_23.2) (some (.ref 67) :: some (.int (nI k)) :: r) [] (shH ru ta rs) I2 → k < 69 → K 23 (some (.ref 67) :: some (.int (nI k + 1)) :: r) [] (shH ru ta rs) I2 J 0 0 := by
        intro I2 h2 hkk
        have h3 := ga_setE (S := stA ca_X12_undo_0_23.2) (r := (0, 68)) rfl hzk ⟨by show (0 : Int) ≤ z; omega, by show z ≤ (68 : Int); omega⟩ h2
        refine hK 23 (ca_X12_undo_0_23.2.1.set 1 (0, 68), [.inr (.inl [67]), .inl (1, .ofNat 1)], [], ca_X12_undo_0_23.2.2.2.2.1) (by decide +kernel) R _ [] _ I2 J ⟨h3.1, ⟨fun i a ha => ?_, trivial⟩, h3.2.2⟩
        match i, ha with
        | 0, ha =>
          cases ha
          exact ⟨_, rfl, 67, List.mem_singleton.mpr rfl, rfl⟩
        | 1, ha =>
          cases ha
          exact ⟨_, rfl, _, rfl, num_add1 hzk hx (by omega)⟩
        | _ + 2, ha => cases ha
      obtain ⟨s, hs2, hsx⟩ : numO R (2, .ofNat 0) (I 68 5) := hg.2.2.1.1 68 5 _ rfl
      replace hsx : (I 68 5).toInt = s := hsx.trans (Int.add_zero s)
      have hsE : inI ((0 : Int), (29 : Int)) s := hg.1.1.2 2 s _ hs2 rfl
      obtain ⟨S, eS, _, hS, _⟩ := nI_inI (x := I 68 5) (a := 0) (b := 29) (by rw [hsx]; exact ⟨by show (0 : Int) ≤ s; exact hsE.1, by show s ≤ (29 : Int); exact hsE.2⟩) (by decide)
      refine And.intro (fun h => out ?_) (fun h => ?_)
      · rcases Nat.lt_or_ge k 69 with y | y
        · exact absurd h (nI_ge (a := k) (b := 69) y (by omega))
        · omega
      have hk2 : k < 69 := by
        rcases Nat.lt_or_ge k 69 with y | y
        · exact y
        · exact absurd (nI_le (a := 69) (b := k) y (by omega)) h
      obtain ⟨q1, w1⟩ := ix_col (S := S) (k := k) (by omega) hk2
      obtain ⟨q2, w2⟩ := ix_row hk2
      rw [← eS] at q1 w1
      refine And.intro (vp_in_nI (N := 2200) (n := 5) (by omega) (by omega)) (And.intro w1 (And.intro w2 ?_))
      have y := fin (uI I 68 (60 + k) (I 68 (130 + 69 * S + k))) (ga_put68X hg rfl hT (by omega) (by omega) (cell_colX hk2).symm) (by omega)
      rw [← q1, ← q2] at y
      exact y
  · exact absurd hz (by decide)
set_option maxRecDepth 100000 in
set_option maxHeartbeats 4000000 in
theorem se1_X12_undo_0 : ∀ q, q ∈ ca_X12_undo_0 → nmem q.1 [23] = true → ∀ (l : Launch) (d : Nat) (sh : List XO) (I : XI) (as : List Value) (Rp : XR), agO ck_X12_undo_0.2.1 as → (∀ I2, frO ck_X12_undo_0.2.2.1 I I2 → QQ I2) → outO QQ (CNr 68 3 1) ck_X12_undo_0.2.2.1 ck_X12_undo_0.2.2.2.1 sh I ck_X12_undo_0.2.2.2.2.1 as Rp → segO (CNr 68 3 1) ck_X12_undo_0.2.2.1 ck_X12_undo_0.2.2.2.1 sh I xxX12 mX12_undo.2.2.2 (!(Nat.beq 0 0)) sh.length 0 0 l (d + (ck_X12_undo_0.1 - 1)) tX12_undo (ca_X12_undo_0.map fun q => q.1) Rp as ca_X12_undo_0 (aInts ck_X12_undo_0.2.1).length q := by
  intro q hq hz l d sh0 I0 as Rp ha _ _ K R lc st sh I J hK hg hp
  simp only [ca_X12_undo_0, List.mem_cons, List.not_mem_nil, or_false] at hq
  rcases hq with rfl | rfl
  · cases st with
    | cons _ _ => exact hg.2.1.2.elim
    | nil =>
      obtain ⟨ru, ta, rs, _, _, rfl⟩ := shX hg.2.2.2.1
      obtain ⟨o0, e0, p0, hp0, y0⟩ := hg.2.1.1 0 (.inr (.inl [67])) rfl
      obtain ⟨o1, e1, x, y1, z, hzk, hx⟩ := hg.2.1.1 1 (.inl (1, .ofNat 0)) rfl
      obtain ⟨a0, a1, r, rfl⟩ := ex2 e1
      cases e0
      cases e1
      subst y0 y1
      have hp0 := List.mem_singleton.mp hp0
      subst hp0
      replace hx : x.toInt = z + 0 := hx
      have hzE : inI ((0 : Int), (69 : Int)) z := hg.1.1.2 1 z _ hzk rfl
      have hz1 := hzE.1
      have hz2 := hzE.2
      dsimp only at hz1 hz2
      obtain ⟨k, rfl, hk0, hk, _⟩ := nI_inI (x := x) (a := 0) (b := 69) (by rw [hx]; exact ⟨by show (0 : Int) ≤ z + 0; omega, by show z + 0 ≤ (69 : Int); omega⟩) (by decide)
      have hkz : (k : Int) = z := by
        rw [nI_toInt (by omega)] at hx
        omega
      have hT : ∀ e, e ∈ ca_X12_undo_0_23.2.2.2.2.1 → e.1 = 68 → e.2.1 < 60 := by decide
      have out : k = 69 → K 64 (some (.ref 67) :: some (.int (nI k)) :: r) [] (shH ru ta rs) I J 0 0 := by
        intro hkk
        exact hK 64 (ca_X12_undo_0_23.2.1.set 1 (69, 69), ca_X12_undo_0_23.2.2.1, ca_X12_undo_0_23.2.2.2.1, ca_X12_undo_0_23.2.2.2.2.1) (by decide +kernel) R _ [] _ I J (ga_setE (S := stA ca_X12_undo_0_23.2) (r := (69, 69)) rfl hzk ⟨by show (69 : Int) ≤ z; omega, by show z ≤ (69 : Int); omega⟩ hg)
      have fin : ∀ I2, ga (CNr 68 3 1) ck_X12_undo_0.2.2.1 ck_X12_undo_0.2.2.2.1 sh0 I0 R R (stA ca_X12_undo_0_23.2) (some (.ref 67) :: some (.int (nI k)) :: r) [] (shH ru ta rs) I2 → k < 69 → K 23 (some (.ref 67) :: some (.int (nI k + 1)) :: r) [] (shH ru ta rs) I2 J 0 0 := by
        intro I2 h2 hkk
        have h3 := ga_setE (S := stA ca_X12_undo_0_23.2) (r := (0, 68)) rfl hzk ⟨by show (0 : Int) ≤ z; omega, by show z ≤ (68 : Int); omega⟩ h2
        refine hK 23 (ca_X12_undo_0_23.2.1.set 1 (0, 68), [.inr (.inl [67]), .inl (1, .ofNat 1)], [], ca_X12_undo_0_23.2.2.2.2.1) (by decide +kernel) R _ [] _ I2 J ⟨h3.1, ⟨fun i a ha => ?_, trivial⟩, h3.2.2⟩
        match i, ha with
        | 0, ha =>
          cases ha
          exact ⟨_, rfl, 67, List.mem_singleton.mpr rfl, rfl⟩
        | 1, ha =>
          cases ha
          exact ⟨_, rfl, _, rfl, num_add1 hzk hx (by omega)⟩
        | _ + 2, ha => cases ha
      obtain ⟨s, hs2, hsx⟩ : numO R (2, .ofNat 0) (I 68 5) := hg.2.2.1.1 68 5 _ rfl
      replace hsx : (I 68 5).toInt = s := hsx.trans (Int.add_zero s)
      have hsE : inI ((0 : Int), (29 : Int)) s := hg.1.1.2 2 s _ hs2 rfl
      obtain ⟨S, eS, _, hS, _⟩ := nI_inI (x := I 68 5) (a := 0) (b := 29) (by rw [hsx]; exact ⟨by show (0 : Int) ≤ s; exact hsE.1, by show s ≤ (29 : Int); exact hsE.2⟩) (by decide)
      refine And.intro (fun h => out ?_) (fun h => ?_)
      · rcases Nat.lt_or_ge k 69 with y | y
        · exact absurd h (nI_ge (a := k) (b := 69) y (by omega))
        · omega
      have hk2 : k < 69 := by
        rcases Nat.lt_or_ge k 69 with y | y
        · exact y
        · exact absurd (nI_le (a := 69) (b := k) y (by omega)) h
      obtain ⟨q1, w1⟩ := ix_col (S := S) (k := k) (by omega) hk2
      obtain ⟨q2, w2⟩ := ix_row hk2
      rw [← eS] at q1 w1
      refine And.intro (vp_in_nI (N := 2200) (n := 5) (by omega) (by omega)) (And.intro w1 (And.intro w2 ?_))
      have y := fin (uI I 68 (60 + k) (I 68 (130 + 69 * S + k))) (ga_put68X hg rfl hT (by omega) (by omega) (cell_colX hk2).symm) (by omega)
      rw [← q1, ← q2] at y
      exact y
  · exact absurd hz (by decide)
set_option maxRecDepth 100000 in
set_option maxHeartbeats 4000000 in
theorem se2_X12_undo_0 : ∀ q, q ∈ ca_X12_undo_0 → nmem q.1 [23] = true → ∀ (l : Launch) (d : Nat) (sh : List XO) (I : XI) (as : List Value) (Rp : XR), agO ck_X12_undo_0.2.1 as → (∀ I2, frO ck_X12_undo_0.2.2.1 I I2 → QQ I2) → outO QQ (CNr 68 3 2) ck_X12_undo_0.2.2.1 ck_X12_undo_0.2.2.2.1 sh I ck_X12_undo_0.2.2.2.2.1 as Rp → segO (CNr 68 3 2) ck_X12_undo_0.2.2.1 ck_X12_undo_0.2.2.2.1 sh I xxX12 mX12_undo.2.2.2 (!(Nat.beq 0 0)) sh.length 0 0 l (d + (ck_X12_undo_0.1 - 1)) tX12_undo (ca_X12_undo_0.map fun q => q.1) Rp as ca_X12_undo_0 (aInts ck_X12_undo_0.2.1).length q := by
  intro q hq hz l d sh0 I0 as Rp ha _ _ K R lc st sh I J hK hg hp
  simp only [ca_X12_undo_0, List.mem_cons, List.not_mem_nil, or_false] at hq
  rcases hq with rfl | rfl
  · cases st with
    | cons _ _ => exact hg.2.1.2.elim
    | nil =>
      obtain ⟨ru, ta, rs, _, _, rfl⟩ := shX hg.2.2.2.1
      obtain ⟨o0, e0, p0, hp0, y0⟩ := hg.2.1.1 0 (.inr (.inl [67])) rfl
      obtain ⟨o1, e1, x, y1, z, hzk, hx⟩ := hg.2.1.1 1 (.inl (1, .ofNat 0)) rfl
      obtain ⟨a0, a1, r, rfl⟩ := ex2 e1
      cases e0
      cases e1
      subst y0 y1
      have hp0 := List.mem_singleton.mp hp0
      subst hp0
      replace hx : x.toInt = z + 0 := hx
      have hzE : inI ((0 : Int), (69 : Int)) z := hg.1.1.2 1 z _ hzk rfl
      have hz1 := hzE.1
      have hz2 := hzE.2
      dsimp only at hz1 hz2
      obtain ⟨k, rfl, hk0, hk, _⟩ := nI_inI (x := x) (a := 0) (b := 69) (by rw [hx]; exact ⟨by show (0 : Int) ≤ z + 0; omega, by show z + 0 ≤ (69 : Int); omega⟩) (by decide)
      have hkz : (k : Int) = z := by
        rw [nI_toInt (by omega)] at hx
        omega
      have hT : ∀ e, e ∈ ca_X12_undo_0_23.2.2.2.2.1 → e.1 = 68 → e.2.1 < 60 := by decide
      have out : k = 69 → K 64 (some (.ref 67) :: some (.int (nI k)) :: r) [] (shH ru ta rs) I J 0 0 := by
        intro hkk
        exact hK 64 (ca_X12_undo_0_23.2.1.set 1 (69, 69), ca_X12_undo_0_23.2.2.1, ca_X12_undo_0_23.2.2.2.1, ca_X12_undo_0_23.2.2.2.2.1) (by decide +kernel) R _ [] _ I J (ga_setE (S := stA ca_X12_undo_0_23.2) (r := (69, 69)) rfl hzk ⟨by show (69 : Int) ≤ z; omega, by show z ≤ (69 : Int); omega⟩ hg)
      have fin : ∀ I2, ga (CNr 68 3 2) ck_X12_undo_0.2.2.1 ck_X12_undo_0.2.2.2.1 sh0 I0 R R (stA ca_X12_undo_0_23.2) (some (.ref 67) :: some (.int (nI k)) :: r) [] (shH ru ta rs) I2 → k < 69 → K 23 (some (.ref 67) :: some (.int (nI k + 1)) :: r) [] (shH ru ta rs) I2 J 0 0 := by
        intro I2 h2 hkk
        have h3 := ga_setE (S := stA ca_X12_undo_0_23.2) (r := (0, 68)) rfl hzk ⟨by show (0 : Int) ≤ z; omega, by show z ≤ (68 : Int); omega⟩ h2
        refine hK 23 (ca_X12_undo_0_23.2.1.set 1 (0, 68), [.inr (.inl [67]), .inl (1, .ofNat 1)], [], ca_X12_undo_0_23.2.2.2.2.1) (by decide +kernel) R _ [] _ I2 J ⟨h3.1, ⟨fun i a ha => ?_, trivial⟩, h3.2.2⟩
        match i, ha with
        | 0, ha =>
          cases ha
          exact ⟨_, rfl, 67, List.mem_singleton.mpr rfl, rfl⟩
        | 1, ha =>
          cases ha
          exact ⟨_, rfl, _, rfl, num_add1 hzk hx (by omega)⟩
        | _ + 2, ha => cases ha
      obtain ⟨s, hs2, hsx⟩ : numO R (2, .ofNat 0) (I 68 5) := hg.2.2.1.1 68 5 _ rfl
      replace hsx : (I 68 5).toInt = s := hsx.trans (Int.add_zero s)
      have hsE : inI ((0 : Int), (29 : Int)) s := hg.1.1.2 2 s _ hs2 rfl
      obtain ⟨S, eS, _, hS, _⟩ := nI_inI (x := I 68 5) (a := 0) (b := 29) (by rw [hsx]; exact ⟨by show (0 : Int) ≤ s; exact hsE.1, by show s ≤ (29 : Int); exact hsE.2⟩) (by decide)
      refine And.intro (fun h => out ?_) (fun h => ?_)
      · rcases Nat.lt_or_ge k 69 with y | y
        · exact absurd h (nI_ge (a := k) (b := 69) y (by omega))
        · omega
      have hk2 : k < 69 := by
        rcases Nat.lt_or_ge k 69 with y | y
        · exact y
        · exact absurd (nI_le (a := 69) (b := k) y (by omega)) h
      obtain ⟨q1, w1⟩ := ix_col (S := S) (k := k) (by omega) hk2
      obtain ⟨q2, w2⟩ := ix_row hk2
      rw [← eS] at q1 w1
      refine And.intro (vp_in_nI (N := 2200) (n := 5) (by omega) (by omega)) (And.intro w1 (And.intro w2 ?_))
      have y := fin (uI I 68 (60 + k) (I 68 (130 + 69 * S + k))) (ga_put68X hg rfl hT (by omega) (by omega) (cell_colX hk2).symm) (by omega)
      rw [← q1, ← q2] at y
      exact y
  · exact absurd hz (by decide)
set_option maxRecDepth 100000 in
set_option maxHeartbeats 4000000 in
theorem se3_X12_undo_0 : ∀ q, q ∈ ca_X12_undo_0 → nmem q.1 [23] = true → ∀ (l : Launch) (d : Nat) (sh : List XO) (I : XI) (as : List Value) (Rp : XR), agO ck_X12_undo_0.2.1 as → (∀ I2, frO ck_X12_undo_0.2.2.1 I I2 → QQ I2) → outO QQ (CNr 68 3 3) ck_X12_undo_0.2.2.1 ck_X12_undo_0.2.2.2.1 sh I ck_X12_undo_0.2.2.2.2.1 as Rp → segO (CNr 68 3 3) ck_X12_undo_0.2.2.1 ck_X12_undo_0.2.2.2.1 sh I xxX12 mX12_undo.2.2.2 (!(Nat.beq 0 0)) sh.length 0 0 l (d + (ck_X12_undo_0.1 - 1)) tX12_undo (ca_X12_undo_0.map fun q => q.1) Rp as ca_X12_undo_0 (aInts ck_X12_undo_0.2.1).length q := by
  intro q hq hz l d sh0 I0 as Rp ha _ _ K R lc st sh I J hK hg hp
  simp only [ca_X12_undo_0, List.mem_cons, List.not_mem_nil, or_false] at hq
  rcases hq with rfl | rfl
  · cases st with
    | cons _ _ => exact hg.2.1.2.elim
    | nil =>
      obtain ⟨ru, ta, rs, _, _, rfl⟩ := shX hg.2.2.2.1
      obtain ⟨o0, e0, p0, hp0, y0⟩ := hg.2.1.1 0 (.inr (.inl [67])) rfl
      obtain ⟨o1, e1, x, y1, z, hzk, hx⟩ := hg.2.1.1 1 (.inl (1, .ofNat 0)) rfl
      obtain ⟨a0, a1, r, rfl⟩ := ex2 e1
      cases e0
      cases e1
      subst y0 y1
      have hp0 := List.mem_singleton.mp hp0
      subst hp0
      replace hx : x.toInt = z + 0 := hx
      have hzE : inI ((0 : Int), (69 : Int)) z := hg.1.1.2 1 z _ hzk rfl
      have hz1 := hzE.1
      have hz2 := hzE.2
      dsimp only at hz1 hz2
      obtain ⟨k, rfl, hk0, hk, _⟩ := nI_inI (x := x) (a := 0) (b := 69) (by rw [hx]; exact ⟨by show (0 : Int) ≤ z + 0; omega, by show z + 0 ≤ (69 : Int); omega⟩) (by decide)
      have hkz : (k : Int) = z := by
        rw [nI_toInt (by omega)] at hx
        omega
      have hT : ∀ e, e ∈ ca_X12_undo_0_23.2.2.2.2.1 → e.1 = 68 → e.2.1 < 60 := by decide
      have out : k = 69 → K 64 (some (.ref 67) :: some (.int (nI k)) :: r) [] (shH ru ta rs) I J 0 0 := by
        intro hkk
        exact hK 64 (ca_X12_undo_0_23.2.1.set 1 (69, 69), ca_X12_undo_0_23.2.2.1, ca_X12_undo_0_23.2.2.2.1, ca_X12_undo_0_23.2.2.2.2.1) (by decide +kernel) R _ [] _ I J (ga_setE (S := stA ca_X12_undo_0_23.2) (r := (69, 69)) rfl hzk ⟨by show (69 : Int) ≤ z; omega, by show z ≤ (69 : Int); omega⟩ hg)
      have fin : ∀ I2, ga (CNr 68 3 3) ck_X12_undo_0.2.2.1 ck_X12_undo_0.2.2.2.1 sh0 I0 R R (stA ca_X12_undo_0_23.2) (some (.ref 67) :: some (.int (nI k)) :: r) [] (shH ru ta rs) I2 → k < 69 → K 23 (some (.ref 67) :: some (.int (nI k + 1)) :: r) [] (shH ru ta rs) I2 J 0 0 := by
        intro I2 h2 hkk
        have h3 := ga_setE (S := stA ca_X12_undo_0_23.2) (r := (0, 68)) rfl hzk ⟨by show (0 : Int) ≤ z; omega, by show z ≤ (68 : Int); omega⟩ h2
        refine hK 23 (ca_X12_undo_0_23.2.1.set 1 (0, 68), [.inr (.inl [67]), .inl (1, .ofNat 1)], [], ca_X12_undo_0_23.2.2.2.2.1) (by decide +kernel) R _ [] _ I2 J ⟨h3.1, ⟨fun i a ha => ?_, trivial⟩, h3.2.2⟩
        match i, ha with
        | 0, ha =>
          cases ha
          exact ⟨_, rfl, 67, List.mem_singleton.mpr rfl, rfl⟩
        | 1, ha =>
          cases ha
          exact ⟨_, rfl, _, rfl, num_add1 hzk hx (by omega)⟩
        | _ + 2, ha => cases ha
      obtain ⟨s, hs2, hsx⟩ : numO R (2, .ofNat 0) (I 68 5) := hg.2.2.1.1 68 5 _ rfl
      replace hsx : (I 68 5).toInt = s := hsx.trans (Int.add_zero s)
      have hsE : inI ((0 : Int), (29 : Int)) s := hg.1.1.2 2 s _ hs2 rfl
      obtain ⟨S, eS, _, hS, _⟩ := nI_inI (x := I 68 5) (a := 0) (b := 29) (by rw [hsx]; exact ⟨by show (0 : Int) ≤ s; exact hsE.1, by show s ≤ (29 : Int); exact hsE.2⟩) (by decide)
      refine And.intro (fun h => out ?_) (fun h => ?_)
      · rcases Nat.lt_or_ge k 69 with y | y
        · exact absurd h (nI_ge (a := k) (b := 69) y (by omega))
        · omega
      have hk2 : k < 69 := by
        rcases Nat.lt_or_ge k 69 with y | y
        · exact y
        · exact absurd (nI_le (a := 69) (b := k) y (by omega)) h
      obtain ⟨q1, w1⟩ := ix_col (S := S) (k := k) (by omega) hk2
      obtain ⟨q2, w2⟩ := ix_row hk2
      rw [← eS] at q1 w1
      refine And.intro (vp_in_nI (N := 2200) (n := 5) (by omega) (by omega)) (And.intro w1 (And.intro w2 ?_))
      have y := fin (uI I 68 (60 + k) (I 68 (130 + 69 * S + k))) (ga_put68X hg rfl hT (by omega) (by omega) (cell_colX hk2).symm) (by omega)
      rw [← q1, ← q2] at y
      exact y
  · exact absurd hz (by decide)
set_option maxRecDepth 100000 in
set_option maxHeartbeats 4000000 in
theorem se4_X12_undo_0 : ∀ q, q ∈ ca_X12_undo_0 → nmem q.1 [23] = true → ∀ (l : Launch) (d : Nat) (sh : List XO) (I : XI) (as : List Value) (Rp : XR), agO ck_X12_undo_0.2.1 as → (∀ I2, frO ck_X12_undo_0.2.2.1 I I2 → QQ I2) → outO QQ (CNr 68 3 4) ck_X12_undo_0.2.2.1 ck_X12_undo_0.2.2.2.1 sh I ck_X12_undo_0.2.2.2.2.1 as Rp → segO (CNr 68 3 4) ck_X12_undo_0.2.2.1 ck_X12_undo_0.2.2.2.1 sh I xxX12 mX12_undo.2.2.2 (!(Nat.beq 0 0)) sh.length 0 0 l (d + (ck_X12_undo_0.1 - 1)) tX12_undo (ca_X12_undo_0.map fun q => q.1) Rp as ca_X12_undo_0 (aInts ck_X12_undo_0.2.1).length q := by
  intro q hq hz l d sh0 I0 as Rp ha _ _ K R lc st sh I J hK hg hp
  simp only [ca_X12_undo_0, List.mem_cons, List.not_mem_nil, or_false] at hq
  rcases hq with rfl | rfl
  · cases st with
    | cons _ _ => exact hg.2.1.2.elim
    | nil =>
      obtain ⟨ru, ta, rs, _, _, rfl⟩ := shX hg.2.2.2.1
      obtain ⟨o0, e0, p0, hp0, y0⟩ := hg.2.1.1 0 (.inr (.inl [67])) rfl
      obtain ⟨o1, e1, x, y1, z, hzk, hx⟩ := hg.2.1.1 1 (.inl (1, .ofNat 0)) rfl
      obtain ⟨a0, a1, r, rfl⟩ := ex2 e1
      cases e0
      cases e1
      subst y0 y1
      have hp0 := List.mem_singleton.mp hp0
      subst hp0
      replace hx : x.toInt = z + 0 := hx
      have hzE : inI ((0 : Int), (69 : Int)) z := hg.1.1.2 1 z _ hzk rfl
      have hz1 := hzE.1
      have hz2 := hzE.2
      dsimp only at hz1 hz2
      obtain ⟨k, rfl, hk0, hk, _⟩ := nI_inI (x := x) (a := 0) (b := 69) (by rw [hx]; exact ⟨by show (0 : Int) ≤ z + 0; omega, by show z + 0 ≤ (69 : Int); omega⟩) (by decide)
      have hkz : (k : Int) = z := by
        rw [nI_toInt (by omega)] at hx
        omega
      have hT : ∀ e, e ∈ ca_X12_undo_0_23.2.2.2.2.1 → e.1 = 68 → e.2.1 < 60 := by decide
      have out : k = 69 → K 64 (some (.ref 67) :: some (.int (nI k)) :: r) [] (shH ru ta rs) I J 0 0 := by
        intro hkk
        exact hK 64 (ca_X12_undo_0_23.2.1.set 1 (69, 69), ca_X12_undo_0_23.2.2.1, ca_X12_undo_0_23.2.2.2.1, ca_X12_undo_0_23.2.2.2.2.1) (by decide +kernel) R _ [] _ I J (ga_setE (S := stA ca_X12_undo_0_23.2) (r := (69, 69)) rfl hzk ⟨by show (69 : Int) ≤ z; omega, by show z ≤ (69 : Int); omega⟩ hg)
      have fin : ∀ I2, ga (CNr 68 3 4) ck_X12_undo_0.2.2.1 ck_X12_undo_0.2.2.2.1 sh0 I0 R R (stA ca_X12_undo_0_23.2) (some (.ref 67) :: some (.int (nI k)) :: r) [] (shH ru ta rs) I2 → k < 69 → K 23 (some (.ref 67) :: some (.int (nI k + 1)) :: r) [] (shH ru ta rs) I2 J 0 0 := by
        intro I2 h2 hkk
        have h3 := ga_setE (S := stA ca_X12_undo_0_23.2) (r := (0, 68)) rfl hzk ⟨by show (0 : Int) ≤ z; omega, by show z ≤ (68 : Int); omega⟩ h2
        refine hK 23 (ca_X12_undo_0_23.2.1.set 1 (0, 68), [.inr (.inl [67]), .inl (1, .ofNat 1)], [], ca_X12_undo_0_23.2.2.2.2.1) (by decide +kernel) R _ [] _ I2 J ⟨h3.1, ⟨fun i a ha => ?_, trivial⟩, h3.2.2⟩
        match i, ha with
        | 0, ha =>
          cases ha
          exact ⟨_, rfl, 67, List.mem_singleton.mpr rfl, rfl⟩
        | 1, ha =>
          cases ha
          exact ⟨_, rfl, _, rfl, num_add1 hzk hx (by omega)⟩
        | _ + 2, ha => cases ha
      obtain ⟨s, hs2, hsx⟩ : numO R (2, .ofNat 0) (I 68 5) := hg.2.2.1.1 68 5 _ rfl
      replace hsx : (I 68 5).toInt = s := hsx.trans (Int.add_zero s)
      have hsE : inI ((0 : Int), (29 : Int)) s := hg.1.1.2 2 s _ hs2 rfl
      obtain ⟨S, eS, _, hS, _⟩ := nI_inI (x := I 68 5) (a := 0) (b := 29) (by rw [hsx]; exact ⟨by show (0 : Int) ≤ s; exact hsE.1, by show s ≤ (29 : Int); exact hsE.2⟩) (by decide)
      refine And.intro (fun h => out ?_) (fun h => ?_)
      · rcases Nat.lt_or_ge k 69 with y | y
        · exact absurd h (nI_ge (a := k) (b := 69) y (by omega))
        · omega
      have hk2 : k < 69 := by
        rcases Nat.lt_or_ge k 69 with y | y
        · exact y
        · exact absurd (nI_le (a := 69) (b := k) y (by omega)) h
      obtain ⟨q1, w1⟩ := ix_col (S := S) (k := k) (by omega) hk2
      obtain ⟨q2, w2⟩ := ix_row hk2
      rw [← eS] at q1 w1
      refine And.intro (vp_in_nI (N := 2200) (n := 5) (by omega) (by omega)) (And.intro w1 (And.intro w2 ?_))
      have y := fin (uI I 68 (60 + k) (I 68 (130 + 69 * S + k))) (ga_put68X hg rfl hT (by omega) (by omega) (cell_colX hk2).symm) (by omega)
      rw [← q1, ← q2] at y
      exact y
  · exact absurd hz (by decide)
theorem sev_X12_undo_0 {v : Nat} (hv : v < 5) : ∀ q, q ∈ ca_X12_undo_0 → nmem q.1 [23] = true → ∀ (l : Launch) (d : Nat) (sh : List XO) (I : XI) (as : List Value) (Rp : XR), agO ck_X12_undo_0.2.1 as → (∀ I2, frO ck_X12_undo_0.2.2.1 I I2 → QQ I2) → outO QQ (CNr 68 3 v) ck_X12_undo_0.2.2.1 ck_X12_undo_0.2.2.2.1 sh I ck_X12_undo_0.2.2.2.2.1 as Rp → segO (CNr 68 3 v) ck_X12_undo_0.2.2.1 ck_X12_undo_0.2.2.2.1 sh I xxX12 mX12_undo.2.2.2 (!(Nat.beq 0 0)) sh.length 0 0 l (d + (ck_X12_undo_0.1 - 1)) tX12_undo (ca_X12_undo_0.map fun q => q.1) Rp as ca_X12_undo_0 (aInts ck_X12_undo_0.2.1).length q := by
  have h5 : v = 0 ∨ v = 1 ∨ v = 2 ∨ v = 3 ∨ v = 4 := by omega
  rcases h5 with rfl | rfl | rfl | rfl | rfl
  · exact se0_X12_undo_0
  · exact se1_X12_undo_0
  · exact se2_X12_undo_0
  · exact se3_X12_undo_0
  · exact se4_X12_undo_0
theorem cv_X12_undo_0 {v : Nat} (hv : v < 5) : ctrO QQ (CNr 68 3 v) ck_X12_undo_0 mX12_undo := chk_okS (Q := QQ) (QP := QPl) (C := (CNr 68 3 v)) (c := ck_X12_undo_0) (G := cg_X12_undo_0) (X := xxX12) (M := mX12_undo) (t := tX12_undo) (anns := ca_X12_undo_0) [23] 71 xx12 pl12 rfl kX12_undo qq_ok (cy_X12_undo_0 hv) (sev_X12_undo_0 hv) (w5 cd_X12_undo_0 hv)
set_option maxRecDepth 100000 in
theorem cd_X12_by_0 : ((List.range 5).all fun v => aChk QPl (CNr 68 3 v) ck_X12_by_0 cg_X12_by_0 xxX12 mX12_by tX12_by ca_X12_by_0 [] 1) = true := by decide +kernel
theorem cy_X12_by_0 {v : Nat} (hv : v < 5) : ctsO QQ (CNr 68 3 v) xxX12 cg_X12_by_0 := ctsO_cons rfl (cnr_lift nc_B hv ct_X12_in_0 rfl) (ctsO_nil)
theorem cv_X12_by_0 {v : Nat} (hv : v < 5) : ctrO QQ (CNr 68 3 v) ck_X12_by_0 mX12_by := chk_ok (Q := QQ) (QP := QPl) (C := (CNr 68 3 v)) (c := ck_X12_by_0) (G := cg_X12_by_0) (X := xxX12) (M := mX12_by) (t := tX12_by) (anns := ca_X12_by_0) 1 xx12 pl12 rfl kX12_by qq_ok (cy_X12_by_0 hv) (w5 cd_X12_by_0 hv)
set_option maxRecDepth 100000 in
theorem cd_X12_hour_0 : ((List.range 5).all fun v => aChk QPl (CNr 68 3 v) ck_X12_hour_0 cg_X12_hour_0 xxX12 mX12_hour tX12_hour ca_X12_hour_0 [] 61) = true := by decide +kernel
theorem cy_X12_hour_0 {v : Nat} (hv : v < 5) : ctsO QQ (CNr 68 3 v) xxX12 cg_X12_hour_0 := ctsO_cons rfl (cnr_lift nc_B hv ct_X12_in_7 rfl) (ctsO_cons rfl (cv_X12_keepsStep_0 hv) (ctsO_cons rfl (cnr_lift nc_B hv ct_X12_laysNow_0 rfl) (ctsO_cons rfl (cnr_lift nc_B hv ct_X12_hourPasses_0 rfl) (ctsO_cons rfl (cv_X12_keepsNow_0 hv) (ctsO_nil)))))
theorem cv_X12_hour_0 {v : Nat} (hv : v < 5) : ctrO QQ (CNr 68 3 v) ck_X12_hour_0 mX12_hour := chk_ok (Q := QQ) (QP := QPl) (C := (CNr 68 3 v)) (c := ck_X12_hour_0) (G := cg_X12_hour_0) (X := xxX12) (M := mX12_hour) (t := tX12_hour) (anns := ca_X12_hour_0) 61 xx12 pl12 rfl kX12_hour qq_ok (cy_X12_hour_0 hv) (w5 cd_X12_hour_0 hv)
set_option maxRecDepth 100000 in
theorem cd_X12_cut_0 : ((List.range 5).all fun v => aChk QPl (CNr 68 3 v) ck_X12_cut_0 cg_X12_cut_0 xxX12 mX12_cut tX12_cut ca_X12_cut_0 [] 1) = true := by decide +kernel
theorem cy_X12_cut_0 {v : Nat} (hv : v < 5) : ctsO QQ (CNr 68 3 v) xxX12 cg_X12_cut_0 := ctsO_cons rfl (cnr_lift nc_B hv ct_X12_isThing_0 rfl) (ctsO_cons rfl (cnr_lift nc_B hv ct_X12_isReaper_0 rfl) (ctsO_cons rfl (cnr_lift nc_B hv ct_X12_isBarn_0 rfl) (ctsO_cons rfl (cnr_lift nc_B hv ct_X12_laysNow_0 rfl) (ctsO_cons rfl (cnr_lift nc_B hv ct_X12_cutsNow_0 rfl) (ctsO_cons rfl (cv_X12_keepsStep_0 hv) (ctsO_cons rfl (cv_X12_keepsNow_0 hv) (ctsO_nil)))))))
theorem cv_X12_cut_0 {v : Nat} (hv : v < 5) : ctrO QQ (CNr 68 3 v) ck_X12_cut_0 mX12_cut := chk_ok (Q := QQ) (QP := QPl) (C := (CNr 68 3 v)) (c := ck_X12_cut_0) (G := cg_X12_cut_0) (X := xxX12) (M := mX12_cut) (t := tX12_cut) (anns := ca_X12_cut_0) 1 xx12 pl12 rfl kX12_cut qq_ok (cy_X12_cut_0 hv) (w5 cd_X12_cut_0 hv)
set_option maxRecDepth 100000 in
theorem cd_X12_last_0 : ((List.range 5).all fun v => aChk QPl (CNr 68 3 v) ck_X12_last_0 cg_X12_last_0 xxX12 mX12_last tX12_last ca_X12_last_0 [18] 1) = true := by decide +kernel
theorem cy_X12_last_0 {v : Nat} (hv : v < 5) : ctsO QQ (CNr 68 3 v) xxX12 cg_X12_last_0 := ctsO_cons rfl (cnr_lift nc_B hv ct_X12_isReaper_0 rfl) (ctsO_cons rfl (cnr_lift nc_B hv ct_X12_isBarn_0 rfl) (ctsO_cons rfl (cnr_lift nc_B hv ct_X12_laysNow_0 rfl) (ctsO_cons rfl (cnr_lift nc_B hv ct_X12_freeBale_0 rfl) (ctsO_cons rfl (cnr_lift nc_B hv ct_X12_isRoom_0 rfl) (ctsO_cons rfl (cv_X12_keepsStep_0 hv) (ctsO_cons rfl (cnr_lift nc_B hv ct_X12_bales_0 rfl) (ctsO_cons rfl (cv_X12_keepsNow_0 hv) (ctsO_nil))))))))
set_option maxRecDepth 100000 in
theorem cf_X12_last_0_18 : ((List.range 5).all fun v => ((List.range 4).all fun k => aN (CNr 68 3 v) ck_X12_last_0.2.2.1 ck_X12_last_0.2.2.2.1 cg_X12_last_0 (ck_X12_last_0.1 - 1) ck_X12_last_0.2.2.2.2.1 xxX12 mX12_last.2.2.2 tX12_last (ca_X12_last_0.map fun q => q.1) (kkA (CNr 68 3 v) ((aInts ck_X12_last_0.2.1).length + 1) ca_X12_last_0 (some ca_X12_last_0_18.2.2.2.2.2.2)) 18 (enS ca_X12_last_0_18.2 1 ((Int.ofNat 0 : Int) + (k : Int))))) = true := by decide +kernel
theorem sev_X12_last_0 {v : Nat} (hv : v < 5) : ∀ q, q ∈ ca_X12_last_0 → nmem q.1 [18] = true → ∀ (l : Launch) (d : Nat) (sh : List XO) (I : XI) (as : List Value) (Rp : XR), agO ck_X12_last_0.2.1 as → (∀ I2, frO ck_X12_last_0.2.2.1 I I2 → QQ I2) → outO QQ (CNr 68 3 v) ck_X12_last_0.2.2.1 ck_X12_last_0.2.2.2.1 sh I ck_X12_last_0.2.2.2.2.1 as Rp → segO (CNr 68 3 v) ck_X12_last_0.2.2.1 ck_X12_last_0.2.2.2.1 sh I xxX12 mX12_last.2.2.2 (!(Nat.beq 0 0)) sh.length 0 0 l (d + (ck_X12_last_0.1 - 1)) tX12_last (ca_X12_last_0.map fun q => q.1) Rp as ca_X12_last_0 (aInts ck_X12_last_0.2.1).length q := by
  intro q hq hz l d sh0 I0 as Rp ha hQ hO
  simp only [ca_X12_last_0, List.mem_cons, List.not_mem_nil, or_false] at hq
  rcases hq with rfl
  · exact seg_enum hQ (cy_X12_last_0 hv) hO 1 3 (Int.ofNat 0 : Int) rfl (fun k hk => List.all_eq_true.mp (w5 cf_X12_last_0_18 hv) k (List.mem_range.mpr (by omega)))
theorem cv_X12_last_0 {v : Nat} (hv : v < 5) : ctrO QQ (CNr 68 3 v) ck_X12_last_0 mX12_last := chk_okS (Q := QQ) (QP := QPl) (C := (CNr 68 3 v)) (c := ck_X12_last_0) (G := cg_X12_last_0) (X := xxX12) (M := mX12_last) (t := tX12_last) (anns := ca_X12_last_0) [18] 1 xx12 pl12 rfl kX12_last qq_ok (cy_X12_last_0 hv) (sev_X12_last_0 hv) (w5 cd_X12_last_0 hv)
set_option maxRecDepth 100000 in
set_option maxHeartbeats 1000000 in
theorem cv_X12_use_0 {v : Nat} (hv : v < 5) : ctrO QQ (CNr 68 3 v) ck_X12_use_0 mX12_use := by
  intro l d sh I J as Rp ha hce hs hi hq hR
  obtain ⟨f, t, rfl, _, _⟩ := ag1ii ha
  obtain ⟨ru, ta, rs, _, _, rfl⟩ := shX hs
  have fin : ∀ (r : Int32) (I' : XI) (J' : XJ), ivO (CNr 68 3 v) [] I' → frO [68, 93] I I' → Rp (some (.int r)) (shH ru ta rs) I' J' := fun r I' J' h1 h3 => hR _ _ I' J' hs (fun _ => rfl) h1 (qp_of (ms := [68, 93]) rfl hq h3) h3 ⟨_, List.mem_cons_self, one_post ha ⟨r, rfl, inI_fr _⟩⟩
  show xm l (d + 19 + 1) 0 0 mX12_use [.ref 67, .int f, .int t] (shH ru ta rs) I J Rp
  refine xm_ofK 0 (X := xxX12) (t := tX12_use) (stop := []) (ini := false) xx12 pl12 rfl kX12_use (fun h => by cases h) (Nat.le_of_ble_eq_true rfl) (fun K hK => ?_)
  by_cases c1 : 1 ≤ f ∧ f ≤ 999
  · refine m_in_t l (d + 18) f 1 999 _ _ _ _ c1.1 c1.2 ?_
    refine And.intro (fun h => absurd h (by decide)) (fun _ => ?_)
    refine (cnr_lift nc_B hv ct_X12_isBarn_0 rfl) l (d + 17) (shH ru ta rs) I J [.ref 67, .int t] _ ⟨by decide, ⟨inI_fr _, trivial⟩⟩ (fun e he => by cases he) hs hi hq ?_
    intro v sh' I1 J1 g1 g2 g3 gQ g4 g5
    have e1 := g2 rfl
    subst e1
    have e2 : I1 = I := funext fun p => g4 p rfl
    subst e2
    obtain ⟨P, hP, hp⟩ := g5
    have hr : (v = some (.int 1) ∧ inI (0, 3) t.toInt) ∨ v = some (.int 0) := by
      rcases List.mem_cons.mp hP with rfl | hP
      · obtain ⟨x, rfl, hx⟩ : ∃ x, v = some (.int x) ∧ inI (1, 1) x.toInt := hp.2.1
        have hx1 := hx.1
        have hx2 := hx.2
        exact Or.inl ⟨by rw [show x = 1 from Int32.toInt_inj.mp (by rw [show (1 : Int32).toInt = 1 by decide]; exact Int.le_antisymm hx2 hx1)], hp.1 0 _ _ rfl rfl⟩
      · rcases List.mem_cons.mp hP with rfl | hP
        · obtain ⟨x, rfl, hx⟩ : ∃ x, v = some (.int x) ∧ inI (0, 0) x.toInt := hp.2.1
          have hx1 := hx.1
          have hx2 := hx.2
          exact Or.inr (by rw [show x = 0 from Int32.toInt_inj.mp (by rw [show (0 : Int32).toInt = 0 by decide]; exact Int.le_antisymm hx2 hx1)])
        · cases hP
    rcases hr with ⟨rfl, ht⟩ | rfl
    · have ht1 : ¬ t = -1 := fun e => by
        have := ht.1
        rw [e] at this
        exact absurd this (by decide)
      refine And.intro (fun _ => ?_) (fun h => absurd h (by decide))
      refine (cnr_lift nc_B hv ct_X12_laysNow_0 rfl) l (d + 18) (shH ru ta rs) I1 J1 [.ref 67] _ ⟨by decide, trivial⟩ (fun e he => by cases he) hs hi hq ?_
      intro v2 sh2 I2 J2 a1 a2 a3 aQ a4 a5
      have e1 := a2 rfl
      subst e1
      obtain ⟨P2, hP2, hp2⟩ := a5
      rw [List.mem_singleton.mp hP2] at hp2
      have ev2 : v2 = none := hp2.2.1
      subst ev2
      have f2 : frO [68, 93] I1 I2 := fr_tr (ns := [93]) rfl (fun _ _ => rfl) a4
      refine hm_feetIn l (d + 18) t ht1 ru ta rs I2 J2 _ (lens_of (cnr_dn nc_B hv a3)) (fun r hr => ?_)
      refine And.intro (fun hge => ?_) (fun _ => fin _ I2 J2 a3 f2)
      refine (cv_X12_keepsStep_0 hv) l (d + 18) (shH ru ta rs) I2 J2 [.ref 67] _ ⟨by decide, trivial⟩ (fun e he => ?_) hs a3 aQ ?_
      · rcases List.mem_cons.mp he with rfl | he
        · exact a3 68 0 rfl
        · rcases List.mem_cons.mp he with rfl | he
          · exact a3 68 1 rfl
          · rw [List.mem_singleton.mp he]
            exact a3 68 2 rfl
      intro v3 sh3 I3 J3 b1 b2 b3 bQ b4 b5
      have e1 := b2 rfl
      subst e1
      obtain ⟨P3, hP3, hp3⟩ := b5
      rw [List.mem_singleton.mp hP3] at hp3
      have ev3 : v3 = none := hp3.2.1
      subst ev3
      have f3 : frO [68, 93] I1 I3 := fr_tr (ns := [68]) rfl f2 b4
      refine hm_usesNow l (d + 16) f t ru ta rs I3 J3 _ (lens_of (cnr_dn nc_B hv b3)) ?_ (fun I4 J4 u1 u2 => ?_)
      · rw [lenF_93 (I := I2) (b4 93 rfl), ← hr]
        exact Int32.le_iff_toInt_le.mp hge
      have h4 := cnr_up nc_B (iv_out (cnr_dn nc_B hv b3) u1 u2) (by rw [u2.1 68 (by decide)]; exact cnr_val nc_B b3)
      have f4 : frO [68, 93] I1 I4 := fr_out rfl f3 u2
      refine (cv_X12_keepsNow_0 hv) l (d + 18) (shH ru ta rs) I4 J4 [.ref 67] _ ⟨by decide, trivial⟩ (fun e he => by cases he) hs h4 (qp_of (ms := [68, 93]) rfl hq f4) ?_
      intro v5 sh5 I5 J5 c1 c2 c3 cQ c4 c5
      have e1 := c2 rfl
      subst e1
      obtain ⟨P5, hP5, hp5⟩ := c5
      rw [List.mem_singleton.mp hP5] at hp5
      have ev5 : v5 = none := hp5.2.1
      subst ev5
      refine hm_feetIn l (d + 18) t ht1 ru ta rs I5 J5 _ (lens_of (cnr_dn nc_B hv c3)) (fun r2 hr2 => ?_)
      exact fin _ I5 J5 c3 (fr_tr (ns := [68]) rfl f4 c4)
    · refine And.intro (fun h => absurd rfl h) (fun _ => ?_)
      exact fin _ I1 J1 hi (fun _ _ => rfl)
  · refine m_in_f l (d + 18) f 1 999 _ _ _ _ c1 ?_
    exact And.intro (fun _ => fin _ I J hi (fun _ _ => rfl)) (fun h => absurd rfl h)
set_option maxRecDepth 100000 in
theorem cd_X12_move_0 : ((List.range 5).all fun v => aChk QPl (CNr 68 3 v) ck_X12_move_0 cg_X12_move_0 xxX12 mX12_move tX12_move ca_X12_move_0 [] 1) = true := by decide +kernel
theorem cy_X12_move_0 {v : Nat} (hv : v < 5) : ctsO QQ (CNr 68 3 v) xxX12 cg_X12_move_0 := ctsO_cons rfl (cnr_lift nc_B hv ct_X12_isBale_0 rfl) (ctsO_cons rfl (cnr_lift nc_B hv ct_X12_isBarn_0 rfl) (ctsO_cons rfl (cnr_lift nc_B hv ct_X12_laysNow_0 rfl) (ctsO_cons rfl (cnr_lift nc_B hv ct_X12_isRoom_1 rfl) (ctsO_cons rfl (cv_X12_keepsStep_0 hv) (ctsO_nil)))))
theorem cv_X12_move_0 {v : Nat} (hv : v < 5) : ctrO QQ (CNr 68 3 v) ck_X12_move_0 mX12_move := chk_ok (Q := QQ) (QP := QPl) (C := (CNr 68 3 v)) (c := ck_X12_move_0) (G := cg_X12_move_0) (X := xxX12) (M := mX12_move) (t := tX12_move) (anns := ca_X12_move_0) 1 xx12 pl12 rfl kX12_move qq_ok (cy_X12_move_0 hv) (w5 cd_X12_move_0 hv)
set_option maxRecDepth 100000 in
theorem cd_X12_sell_0 : ((List.range 5).all fun v => aChk QPl (CNr 68 3 v) ck_X12_sell_0 cg_X12_sell_0 xxX12 mX12_sell tX12_sell ca_X12_sell_0 [] 1) = true := by decide +kernel
theorem cy_X12_sell_0 {v : Nat} (hv : v < 5) : ctsO QQ (CNr 68 3 v) xxX12 cg_X12_sell_0 := ctsO_cons rfl (cnr_lift nc_B hv ct_X12_isBale_0 rfl) (ctsO_cons rfl (cv_X12_keepsStep_0 hv) (ctsO_cons rfl (cnr_lift nc_B hv ct_X12_laysNow_0 rfl) (ctsO_cons rfl (cnr_lift nc_B hv ct_X12_sellsNow_0 rfl) (ctsO_cons rfl (cv_X12_keepsNow_0 hv) (ctsO_nil)))))
theorem cv_X12_sell_0 {v : Nat} (hv : v < 5) : ctrO QQ (CNr 68 3 v) ck_X12_sell_0 mX12_sell := chk_ok (Q := QQ) (QP := QPl) (C := (CNr 68 3 v)) (c := ck_X12_sell_0) (G := cg_X12_sell_0) (X := xxX12) (M := mX12_sell) (t := tX12_sell) (anns := ca_X12_sell_0) 1 xx12 pl12 rfl kX12_sell qq_ok (cy_X12_sell_0 hv) (w5 cd_X12_sell_0 hv)
set_option maxRecDepth 100000 in
theorem cd_X12_keepsStep_1 : ((List.range 5).all fun v => aChk QPl (CNr 68 3 v) ck_X12_keepsStep_1 cg_X12_keepsStep_1 xxX12 mX12_keepsStep tX12_keepsStep ca_X12_keepsStep_1 [15, 53] 2074) = true := by decide +kernel
theorem cy_X12_keepsStep_1 {v : Nat} (hv : v < 5) : ctsO QQ (CNr 68 3 v) xxX12 cg_X12_keepsStep_1 := ctsO_nil
set_option maxRecDepth 100000 in
set_option maxHeartbeats 4000000 in
theorem se0_X12_keepsStep_1 : ∀ q, q ∈ ca_X12_keepsStep_1 → nmem q.1 [15, 53] = true → ∀ (l : Launch) (d : Nat) (sh : List XO) (I : XI) (as : List Value) (Rp : XR), agO ck_X12_keepsStep_1.2.1 as → (∀ I2, frO ck_X12_keepsStep_1.2.2.1 I I2 → QQ I2) → outO QQ (CNr 68 3 0) ck_X12_keepsStep_1.2.2.1 ck_X12_keepsStep_1.2.2.2.1 sh I ck_X12_keepsStep_1.2.2.2.2.1 as Rp → segO (CNr 68 3 0) ck_X12_keepsStep_1.2.2.1 ck_X12_keepsStep_1.2.2.2.1 sh I xxX12 mX12_keepsStep.2.2.2 (!(Nat.beq 0 0)) sh.length 0 0 l (d + (ck_X12_keepsStep_1.1 - 1)) tX12_keepsStep (ca_X12_keepsStep_1.map fun q => q.1) Rp as ca_X12_keepsStep_1 (aInts ck_X12_keepsStep_1.2.1).length q := by
  intro q hq hz l d sh0 I0 as Rp ha _ _ K R lc st sh I J hK hg hp
  simp only [ca_X12_keepsStep_1, List.mem_cons, List.not_mem_nil, or_false] at hq
  rcases hq with rfl | rfl | rfl | rfl
  · cases st with
    | cons _ _ => exact hg.2.1.2.elim
    | nil =>
      obtain ⟨ru, ta, rs, _, _, rfl⟩ := shX hg.2.2.2.1
      obtain ⟨o0, e0, p0, hp0, y0⟩ := hg.2.1.1 0 (.inr (.inl [67])) rfl
      obtain ⟨o1, e1, x, y1, z, hzk, hx⟩ := hg.2.1.1 1 (.inl (1, .ofNat 0)) rfl
      obtain ⟨a0, a1, r, rfl⟩ := ex2 e1
      cases e0
      cases e1
      subst y0 y1
      have hp0 := List.mem_singleton.mp hp0
      subst hp0
      replace hx : x.toInt = z + 0 := hx
      have hzE : inI ((130 : Int), (2131 : Int)) z := hg.1.1.2 1 z _ hzk rfl
      have hz1 := hzE.1
      have hz2 := hzE.2
      dsimp only at hz1 hz2
      obtain ⟨k, rfl, hk0, hk, _⟩ := nI_inI (x := x) (a := 130) (b := 2131) (by rw [hx]; exact ⟨by show (130 : Int) ≤ z + 0; omega, by show z + 0 ≤ (2131 : Int); omega⟩) (by decide)
      have hkz : (k : Int) = z := by
        rw [nI_toInt (by omega)] at hx
        omega
      have hT : ∀ e, e ∈ ca_X12_keepsStep_1_15.2.2.2.2.1 → e.1 = 68 → e.2.1 < 60 := by decide
      have out : k = 2131 → K 43 (some (.ref 67) :: some (.int (nI k)) :: r) [] (shH ru ta rs) I J 0 0 := by
        intro hkk
        exact hK 43 (ca_X12_keepsStep_1_15.2.1.set 1 (2131, 2131), ca_X12_keepsStep_1_15.2.2.1, ca_X12_keepsStep_1_15.2.2.2.1, ca_X12_keepsStep_1_15.2.2.2.2.1) (by decide +kernel) R _ [] _ I J (ga_setE (S := stA ca_X12_keepsStep_1_15.2) (r := (2131, 2131)) rfl hzk ⟨by show (2131 : Int) ≤ z; omega, by show z ≤ (2131 : Int); omega⟩ hg)
      have fin : ∀ I2, ga (CNr 68 3 0) ck_X12_keepsStep_1.2.2.1 ck_X12_keepsStep_1.2.2.2.1 sh0 I0 R R (stA ca_X12_keepsStep_1_15.2) (some (.ref 67) :: some (.int (nI k)) :: r) [] (shH ru ta rs) I2 → k < 2131 → K 15 (some (.ref 67) :: some (.int (nI k + 1)) :: r) [] (shH ru ta rs) I2 J 0 0 := by
        intro I2 h2 hkk
        have h3 := ga_setE (S := stA ca_X12_keepsStep_1_15.2) (r := (130, 2130)) rfl hzk ⟨by show (130 : Int) ≤ z; omega, by show z ≤ (2130 : Int); omega⟩ h2
        refine hK 15 (ca_X12_keepsStep_1_15.2.1.set 1 (130, 2130), [.inr (.inl [67]), .inl (1, .ofNat 1)], [], ca_X12_keepsStep_1_15.2.2.2.2.1) (by decide +kernel) R _ [] _ I2 J ⟨h3.1, ⟨fun i a ha => ?_, trivial⟩, h3.2.2⟩
        match i, ha with
        | 0, ha =>
          cases ha
          exact ⟨_, rfl, 67, List.mem_singleton.mpr rfl, rfl⟩
        | 1, ha =>
          cases ha
          exact ⟨_, rfl, _, rfl, num_add1 hzk hx (by omega)⟩
        | _ + 2, ha => cases ha
      refine And.intro (fun h => out ?_) (fun h => ?_)
      · rcases Nat.lt_or_ge k 2131 with y | y
        · exact absurd h (nI_ge (a := k) (b := 2131) y (by omega))
        · omega
      have hk2 : k < 2131 := by
        rcases Nat.lt_or_ge k 2131 with y | y
        · exact y
        · exact absurd (nI_le (a := 2131) (b := k) y (by omega)) h
      have q1 : (nI k).toNatClampNeg = k := nI_clamp (by omega)
      have q2 : (nI k + nI 69).toNatClampNeg = k + 69 := by rw [nI_add]; exact nI_clamp (by omega)
      have w2 : vp_in (nI k + nI 69) 2200 := by rw [nI_add]; exact vp_in_nI (by omega) (by omega)
      refine And.intro w2 (And.intro (vp_in_nI (N := 2200) (by omega) (by omega)) ?_)
      have y := fin (uI I 68 k (I 68 (k + 69))) (ga_put68X hg rfl hT (by omega) (by omega) (cell_nextX (by omega))) (by omega)
      have z : uI I 68 (nI k).toNatClampNeg (I 68 (nI k + nI 69).toNatClampNeg) = uI I 68 k (I 68 (k + 69)) := by rw [q1, q2]
      rw [← z] at y
      exact y
  · exact absurd hz (by decide)
  · cases st with
    | cons _ _ => exact hg.2.1.2.elim
    | nil =>
      obtain ⟨ru, ta, rs, _, _, rfl⟩ := shX hg.2.2.2.1
      obtain ⟨o0, e0, p0, hp0, y0⟩ := hg.2.1.1 0 (.inr (.inl [67])) rfl
      obtain ⟨o1, e1, x, y1, z, hzk, hx⟩ := hg.2.1.1 1 (.inl (1, .ofNat 0)) rfl
      obtain ⟨a0, a1, r, rfl⟩ := ex2 e1
      cases e0
      cases e1
      subst y0 y1
      have hp0 := List.mem_singleton.mp hp0
      subst hp0
      replace hx : x.toInt = z + 0 := hx
      have hzE : inI ((0 : Int), (69 : Int)) z := hg.1.1.2 1 z _ hzk rfl
      have hz1 := hzE.1
      have hz2 := hzE.2
      dsimp only at hz1 hz2
      obtain ⟨k, rfl, hk0, hk, _⟩ := nI_inI (x := x) (a := 0) (b := 69) (by rw [hx]; exact ⟨by show (0 : Int) ≤ z + 0; omega, by show z + 0 ≤ (69 : Int); omega⟩) (by decide)
      have hkz : (k : Int) = z := by
        rw [nI_toInt (by omega)] at hx
        omega
      have hT : ∀ e, e ∈ ca_X12_keepsStep_1_53.2.2.2.2.1 → e.1 = 68 → e.2.1 < 60 := by decide
      have out : k = 69 → K 94 (some (.ref 67) :: some (.int (nI k)) :: r) [] (shH ru ta rs) I J 0 0 := by
        intro hkk
        exact hK 94 (ca_X12_keepsStep_1_53.2.1.set 1 (69, 69), ca_X12_keepsStep_1_53.2.2.1, ca_X12_keepsStep_1_53.2.2.2.1, ca_X12_keepsStep_1_53.2.2.2.2.1) (by decide +kernel) R _ [] _ I J (ga_setE (S := stA ca_X12_keepsStep_1_53.2) (r := (69, 69)) rfl hzk ⟨by show (69 : Int) ≤ z; omega, by show z ≤ (69 : Int); omega⟩ hg)
      have fin : ∀ I2, ga (CNr 68 3 0) ck_X12_keepsStep_1.2.2.1 ck_X12_keepsStep_1.2.2.2.1 sh0 I0 R R (stA ca_X12_keepsStep_1_53.2) (some (.ref 67) :: some (.int (nI k)) :: r) [] (shH ru ta rs) I2 → k < 69 → K 53 (some (.ref 67) :: some (.int (nI k + 1)) :: r) [] (shH ru ta rs) I2 J 0 0 := by
        intro I2 h2 hkk
        have h3 := ga_setE (S := stA ca_X12_keepsStep_1_53.2) (r := (0, 68)) rfl hzk ⟨by show (0 : Int) ≤ z; omega, by show z ≤ (68 : Int); omega⟩ h2
        refine hK 53 (ca_X12_keepsStep_1_53.2.1.set 1 (0, 68), [.inr (.inl [67]), .inl (1, .ofNat 1)], [], ca_X12_keepsStep_1_53.2.2.2.2.1) (by decide +kernel) R _ [] _ I2 J ⟨h3.1, ⟨fun i a ha => ?_, trivial⟩, h3.2.2⟩
        match i, ha with
        | 0, ha =>
          cases ha
          exact ⟨_, rfl, 67, List.mem_singleton.mpr rfl, rfl⟩
        | 1, ha =>
          cases ha
          exact ⟨_, rfl, _, rfl, num_add1 hzk hx (by omega)⟩
        | _ + 2, ha => cases ha
      obtain ⟨s, hs2, hsx⟩ : numO R (2, .ofNat 0) (I 68 5) := hg.2.2.1.1 68 5 _ rfl
      replace hsx : (I 68 5).toInt = s := hsx.trans (Int.add_zero s)
      have hsE : inI ((0 : Int), (29 : Int)) s := hg.1.1.2 2 s _ hs2 rfl
      obtain ⟨S, eS, _, hS, _⟩ := nI_inI (x := I 68 5) (a := 0) (b := 29) (by rw [hsx]; exact ⟨by show (0 : Int) ≤ s; exact hsE.1, by show s ≤ (29 : Int); exact hsE.2⟩) (by decide)
      refine And.intro (fun h => out ?_) (fun h => ?_)
      · rcases Nat.lt_or_ge k 69 with y | y
        · exact absurd h (nI_ge (a := k) (b := 69) y (by omega))
        · omega
      have hk2 : k < 69 := by
        rcases Nat.lt_or_ge k 69 with y | y
        · exact y
        · exact absurd (nI_le (a := 69) (b := k) y (by omega)) h
      obtain ⟨q1, w1⟩ := ix_col (S := S) (k := k) (by omega) hk2
      obtain ⟨q2, w2⟩ := ix_row hk2
      rw [← eS] at q1 w1
      refine And.intro (vp_in_nI (N := 2200) (n := 5) (by omega) (by omega)) (And.intro w2 (And.intro w1 ?_))
      have y := fin (uI I 68 (130 + 69 * S + k) (I 68 (60 + k))) (ga_put68X hg rfl hT (by omega) (by omega) (cell_colX hk2)) (by omega)
      rw [← q1, ← q2] at y
      exact y
  · exact absurd hz (by decide)
set_option maxRecDepth 100000 in
set_option maxHeartbeats 4000000 in
theorem se1_X12_keepsStep_1 : ∀ q, q ∈ ca_X12_keepsStep_1 → nmem q.1 [15, 53] = true → ∀ (l : Launch) (d : Nat) (sh : List XO) (I : XI) (as : List Value) (Rp : XR), agO ck_X12_keepsStep_1.2.1 as → (∀ I2, frO ck_X12_keepsStep_1.2.2.1 I I2 → QQ I2) → outO QQ (CNr 68 3 1) ck_X12_keepsStep_1.2.2.1 ck_X12_keepsStep_1.2.2.2.1 sh I ck_X12_keepsStep_1.2.2.2.2.1 as Rp → segO (CNr 68 3 1) ck_X12_keepsStep_1.2.2.1 ck_X12_keepsStep_1.2.2.2.1 sh I xxX12 mX12_keepsStep.2.2.2 (!(Nat.beq 0 0)) sh.length 0 0 l (d + (ck_X12_keepsStep_1.1 - 1)) tX12_keepsStep (ca_X12_keepsStep_1.map fun q => q.1) Rp as ca_X12_keepsStep_1 (aInts ck_X12_keepsStep_1.2.1).length q := by
  intro q hq hz l d sh0 I0 as Rp ha _ _ K R lc st sh I J hK hg hp
  simp only [ca_X12_keepsStep_1, List.mem_cons, List.not_mem_nil, or_false] at hq
  rcases hq with rfl | rfl | rfl | rfl
  · cases st with
    | cons _ _ => exact hg.2.1.2.elim
    | nil =>
      obtain ⟨ru, ta, rs, _, _, rfl⟩ := shX hg.2.2.2.1
      obtain ⟨o0, e0, p0, hp0, y0⟩ := hg.2.1.1 0 (.inr (.inl [67])) rfl
      obtain ⟨o1, e1, x, y1, z, hzk, hx⟩ := hg.2.1.1 1 (.inl (1, .ofNat 0)) rfl
      obtain ⟨a0, a1, r, rfl⟩ := ex2 e1
      cases e0
      cases e1
      subst y0 y1
      have hp0 := List.mem_singleton.mp hp0
      subst hp0
      replace hx : x.toInt = z + 0 := hx
      have hzE : inI ((130 : Int), (2131 : Int)) z := hg.1.1.2 1 z _ hzk rfl
      have hz1 := hzE.1
      have hz2 := hzE.2
      dsimp only at hz1 hz2
      obtain ⟨k, rfl, hk0, hk, _⟩ := nI_inI (x := x) (a := 130) (b := 2131) (by rw [hx]; exact ⟨by show (130 : Int) ≤ z + 0; omega, by show z + 0 ≤ (2131 : Int); omega⟩) (by decide)
      have hkz : (k : Int) = z := by
        rw [nI_toInt (by omega)] at hx
        omega
      have hT : ∀ e, e ∈ ca_X12_keepsStep_1_15.2.2.2.2.1 → e.1 = 68 → e.2.1 < 60 := by decide
      have out : k = 2131 → K 43 (some (.ref 67) :: some (.int (nI k)) :: r) [] (shH ru ta rs) I J 0 0 := by
        intro hkk
        exact hK 43 (ca_X12_keepsStep_1_15.2.1.set 1 (2131, 2131), ca_X12_keepsStep_1_15.2.2.1, ca_X12_keepsStep_1_15.2.2.2.1, ca_X12_keepsStep_1_15.2.2.2.2.1) (by decide +kernel) R _ [] _ I J (ga_setE (S := stA ca_X12_keepsStep_1_15.2) (r := (2131, 2131)) rfl hzk ⟨by show (2131 : Int) ≤ z; omega, by show z ≤ (2131 : Int); omega⟩ hg)
      have fin : ∀ I2, ga (CNr 68 3 1) ck_X12_keepsStep_1.2.2.1 ck_X12_keepsStep_1.2.2.2.1 sh0 I0 R R (stA ca_X12_keepsStep_1_15.2) (some (.ref 67) :: some (.int (nI k)) :: r) [] (shH ru ta rs) I2 → k < 2131 → K 15 (some (.ref 67) :: some (.int (nI k + 1)) :: r) [] (shH ru ta rs) I2 J 0 0 := by
        intro I2 h2 hkk
        have h3 := ga_setE (S := stA ca_X12_keepsStep_1_15.2) (r := (130, 2130)) rfl hzk ⟨by show (130 : Int) ≤ z; omega, by show z ≤ (2130 : Int); omega⟩ h2
        refine hK 15 (ca_X12_keepsStep_1_15.2.1.set 1 (130, 2130), [.inr (.inl [67]), .inl (1, .ofNat 1)], [], ca_X12_keepsStep_1_15.2.2.2.2.1) (by decide +kernel) R _ [] _ I2 J ⟨h3.1, ⟨fun i a ha => ?_, trivial⟩, h3.2.2⟩
        match i, ha with
        | 0, ha =>
          cases ha
          exact ⟨_, rfl, 67, List.mem_singleton.mpr rfl, rfl⟩
        | 1, ha =>
          cases ha
          exact ⟨_, rfl, _, rfl, num_add1 hzk hx (by omega)⟩
        | _ + 2, ha => cases ha
      refine And.intro (fun h => out ?_) (fun h => ?_)
      · rcases Nat.lt_or_ge k 2131 with y | y
        · exact absurd h (nI_ge (a := k) (b := 2131) y (by omega))
        · omega
      have hk2 : k < 2131 := by
        rcases Nat.lt_or_ge k 2131 with y | y
        · exact y
        · exact absurd (nI_le (a := 2131) (b := k) y (by omega)) h
      have q1 : (nI k).toNatClampNeg = k := nI_clamp (by omega)
      have q2 : (nI k + nI 69).toNatClampNeg = k + 69 := by rw [nI_add]; exact nI_clamp (by omega)
      have w2 : vp_in (nI k + nI 69) 2200 := by rw [nI_add]; exact vp_in_nI (by omega) (by omega)
      refine And.intro w2 (And.intro (vp_in_nI (N := 2200) (by omega) (by omega)) ?_)
      have y := fin (uI I 68 k (I 68 (k + 69))) (ga_put68X hg rfl hT (by omega) (by omega) (cell_nextX (by omega))) (by omega)
      have z : uI I 68 (nI k).toNatClampNeg (I 68 (nI k + nI 69).toNatClampNeg) = uI I 68 k (I 68 (k + 69)) := by rw [q1, q2]
      rw [← z] at y
      exact y
  · exact absurd hz (by decide)
  · cases st with
    | cons _ _ => exact hg.2.1.2.elim
    | nil =>
      obtain ⟨ru, ta, rs, _, _, rfl⟩ := shX hg.2.2.2.1
      obtain ⟨o0, e0, p0, hp0, y0⟩ := hg.2.1.1 0 (.inr (.inl [67])) rfl
      obtain ⟨o1, e1, x, y1, z, hzk, hx⟩ := hg.2.1.1 1 (.inl (1, .ofNat 0)) rfl
      obtain ⟨a0, a1, r, rfl⟩ := ex2 e1
      cases e0
      cases e1
      subst y0 y1
      have hp0 := List.mem_singleton.mp hp0
      subst hp0
      replace hx : x.toInt = z + 0 := hx
      have hzE : inI ((0 : Int), (69 : Int)) z := hg.1.1.2 1 z _ hzk rfl
      have hz1 := hzE.1
      have hz2 := hzE.2
      dsimp only at hz1 hz2
      obtain ⟨k, rfl, hk0, hk, _⟩ := nI_inI (x := x) (a := 0) (b := 69) (by rw [hx]; exact ⟨by show (0 : Int) ≤ z + 0; omega, by show z + 0 ≤ (69 : Int); omega⟩) (by decide)
      have hkz : (k : Int) = z := by
        rw [nI_toInt (by omega)] at hx
        omega
      have hT : ∀ e, e ∈ ca_X12_keepsStep_1_53.2.2.2.2.1 → e.1 = 68 → e.2.1 < 60 := by decide
      have out : k = 69 → K 94 (some (.ref 67) :: some (.int (nI k)) :: r) [] (shH ru ta rs) I J 0 0 := by
        intro hkk
        exact hK 94 (ca_X12_keepsStep_1_53.2.1.set 1 (69, 69), ca_X12_keepsStep_1_53.2.2.1, ca_X12_keepsStep_1_53.2.2.2.1, ca_X12_keepsStep_1_53.2.2.2.2.1) (by decide +kernel) R _ [] _ I J (ga_setE (S := stA ca_X12_keepsStep_1_53.2) (r := (69, 69)) rfl hzk ⟨by show (69 : Int) ≤ z; omega, by show z ≤ (69 : Int); omega⟩ hg)
      have fin : ∀ I2, ga (CNr 68 3 1) ck_X12_keepsStep_1.2.2.1 ck_X12_keepsStep_1.2.2.2.1 sh0 I0 R R (stA ca_X12_keepsStep_1_53.2) (some (.ref 67) :: some (.int (nI k)) :: r) [] (shH ru ta rs) I2 → k < 69 → K 53 (some (.ref 67) :: some (.int (nI k + 1)) :: r) [] (shH ru ta rs) I2 J 0 0 := by
        intro I2 h2 hkk
        have h3 := ga_setE (S := stA ca_X12_keepsStep_1_53.2) (r := (0, 68)) rfl hzk ⟨by show (0 : Int) ≤ z; omega, by show z ≤ (68 : Int); omega⟩ h2
        refine hK 53 (ca_X12_keepsStep_1_53.2.1.set 1 (0, 68), [.inr (.inl [67]), .inl (1, .ofNat 1)], [], ca_X12_keepsStep_1_53.2.2.2.2.1) (by decide +kernel) R _ [] _ I2 J ⟨h3.1, ⟨fun i a ha => ?_, trivial⟩, h3.2.2⟩
        match i, ha with
        | 0, ha =>
          cases ha
          exact ⟨_, rfl, 67, List.mem_singleton.mpr rfl, rfl⟩
        | 1, ha =>
          cases ha
          exact ⟨_, rfl, _, rfl, num_add1 hzk hx (by omega)⟩
        | _ + 2, ha => cases ha
      obtain ⟨s, hs2, hsx⟩ : numO R (2, .ofNat 0) (I 68 5) := hg.2.2.1.1 68 5 _ rfl
      replace hsx : (I 68 5).toInt = s := hsx.trans (Int.add_zero s)
      have hsE : inI ((0 : Int), (29 : Int)) s := hg.1.1.2 2 s _ hs2 rfl
      obtain ⟨S, eS, _, hS, _⟩ := nI_inI (x := I 68 5) (a := 0) (b := 29) (by rw [hsx]; exact ⟨by show (0 : Int) ≤ s; exact hsE.1, by show s ≤ (29 : Int); exact hsE.2⟩) (by decide)
      refine And.intro (fun h => out ?_) (fun h => ?_)
      · rcases Nat.lt_or_ge k 69 with y | y
        · exact absurd h (nI_ge (a := k) (b := 69) y (by omega))
        · omega
      have hk2 : k < 69 := by
        rcases Nat.lt_or_ge k 69 with y | y
        · exact y
        · exact absurd (nI_le (a := 69) (b := k) y (by omega)) h
      obtain ⟨q1, w1⟩ := ix_col (S := S) (k := k) (by omega) hk2
      obtain ⟨q2, w2⟩ := ix_row hk2
      rw [← eS] at q1 w1
      refine And.intro (vp_in_nI (N := 2200) (n := 5) (by omega) (by omega)) (And.intro w2 (And.intro w1 ?_))
      have y := fin (uI I 68 (130 + 69 * S + k) (I 68 (60 + k))) (ga_put68X hg rfl hT (by omega) (by omega) (cell_colX hk2)) (by omega)
      rw [← q1, ← q2] at y
      exact y
  · exact absurd hz (by decide)
set_option maxRecDepth 100000 in
set_option maxHeartbeats 4000000 in
theorem se2_X12_keepsStep_1 : ∀ q, q ∈ ca_X12_keepsStep_1 → nmem q.1 [15, 53] = true → ∀ (l : Launch) (d : Nat) (sh : List XO) (I : XI) (as : List Value) (Rp : XR), agO ck_X12_keepsStep_1.2.1 as → (∀ I2, frO ck_X12_keepsStep_1.2.2.1 I I2 → QQ I2) → outO QQ (CNr 68 3 2) ck_X12_keepsStep_1.2.2.1 ck_X12_keepsStep_1.2.2.2.1 sh I ck_X12_keepsStep_1.2.2.2.2.1 as Rp → segO (CNr 68 3 2) ck_X12_keepsStep_1.2.2.1 ck_X12_keepsStep_1.2.2.2.1 sh I xxX12 mX12_keepsStep.2.2.2 (!(Nat.beq 0 0)) sh.length 0 0 l (d + (ck_X12_keepsStep_1.1 - 1)) tX12_keepsStep (ca_X12_keepsStep_1.map fun q => q.1) Rp as ca_X12_keepsStep_1 (aInts ck_X12_keepsStep_1.2.1).length q := by
  intro q hq hz l d sh0 I0 as Rp ha _ _ K R lc st sh I J hK hg hp
  simp only [ca_X12_keepsStep_1, List.mem_cons, List.not_mem_nil, or_false] at hq
  rcases hq with rfl | rfl | rfl | rfl
  · cases st with
    | cons _ _ => exact hg.2.1.2.elim
    | nil =>
      obtain ⟨ru, ta, rs, _, _, rfl⟩ := shX hg.2.2.2.1
      obtain ⟨o0, e0, p0, hp0, y0⟩ := hg.2.1.1 0 (.inr (.inl [67])) rfl
      obtain ⟨o1, e1, x, y1, z, hzk, hx⟩ := hg.2.1.1 1 (.inl (1, .ofNat 0)) rfl
      obtain ⟨a0, a1, r, rfl⟩ := ex2 e1
      cases e0
      cases e1
      subst y0 y1
      have hp0 := List.mem_singleton.mp hp0
      subst hp0
      replace hx : x.toInt = z + 0 := hx
      have hzE : inI ((130 : Int), (2131 : Int)) z := hg.1.1.2 1 z _ hzk rfl
      have hz1 := hzE.1
      have hz2 := hzE.2
      dsimp only at hz1 hz2
      obtain ⟨k, rfl, hk0, hk, _⟩ := nI_inI (x := x) (a := 130) (b := 2131) (by rw [hx]; exact ⟨by show (130 : Int) ≤ z + 0; omega, by show z + 0 ≤ (2131 : Int); omega⟩) (by decide)
      have hkz : (k : Int) = z := by
        rw [nI_toInt (by omega)] at hx
        omega
      have hT : ∀ e, e ∈ ca_X12_keepsStep_1_15.2.2.2.2.1 → e.1 = 68 → e.2.1 < 60 := by decide
      have out : k = 2131 → K 43 (some (.ref 67) :: some (.int (nI k)) :: r) [] (shH ru ta rs) I J 0 0 := by
        intro hkk
        exact hK 43 (ca_X12_keepsStep_1_15.2.1.set 1 (2131, 2131), ca_X12_keepsStep_1_15.2.2.1, ca_X12_keepsStep_1_15.2.2.2.1, ca_X12_keepsStep_1_15.2.2.2.2.1) (by decide +kernel) R _ [] _ I J (ga_setE (S := stA ca_X12_keepsStep_1_15.2) (r := (2131, 2131)) rfl hzk ⟨by show (2131 : Int) ≤ z; omega, by show z ≤ (2131 : Int); omega⟩ hg)
      have fin : ∀ I2, ga (CNr 68 3 2) ck_X12_keepsStep_1.2.2.1 ck_X12_keepsStep_1.2.2.2.1 sh0 I0 R R (stA ca_X12_keepsStep_1_15.2) (some (.ref 67) :: some (.int (nI k)) :: r) [] (shH ru ta rs) I2 → k < 2131 → K 15 (some (.ref 67) :: some (.int (nI k + 1)) :: r) [] (shH ru ta rs) I2 J 0 0 := by
        intro I2 h2 hkk
        have h3 := ga_setE (S := stA ca_X12_keepsStep_1_15.2) (r := (130, 2130)) rfl hzk ⟨by show (130 : Int) ≤ z; omega, by show z ≤ (2130 : Int); omega⟩ h2
        refine hK 15 (ca_X12_keepsStep_1_15.2.1.set 1 (130, 2130), [.inr (.inl [67]), .inl (1, .ofNat 1)], [], ca_X12_keepsStep_1_15.2.2.2.2.1) (by decide +kernel) R _ [] _ I2 J ⟨h3.1, ⟨fun i a ha => ?_, trivial⟩, h3.2.2⟩
        match i, ha with
        | 0, ha =>
          cases ha
          exact ⟨_, rfl, 67, List.mem_singleton.mpr rfl, rfl⟩
        | 1, ha =>
          cases ha
          exact ⟨_, rfl, _, rfl, num_add1 hzk hx (by omega)⟩
        | _ + 2, ha => cases ha
      refine And.intro (fun h => out ?_) (fun h => ?_)
      · rcases Nat.lt_or_ge k 2131 with y | y
        · exact absurd h (nI_ge (a := k) (b := 2131) y (by omega))
        · omega
      have hk2 : k < 2131 := by
        rcases Nat.lt_or_ge k 2131 with y | y
        · exact y
        · exact absurd (nI_le (a := 2131) (b := k) y (by omega)) h
      have q1 : (nI k).toNatClampNeg = k := nI_clamp (by omega)
      have q2 : (nI k + nI 69).toNatClampNeg = k + 69 := by rw [nI_add]; exact nI_clamp (by omega)
      have w2 : vp_in (nI k + nI 69) 2200 := by rw [nI_add]; exact vp_in_nI (by omega) (by omega)
      refine And.intro w2 (And.intro (vp_in_nI (N := 2200) (by omega) (by omega)) ?_)
      have y := fin (uI I 68 k (I 68 (k + 69))) (ga_put68X hg rfl hT (by omega) (by omega) (cell_nextX (by omega))) (by omega)
      have z : uI I 68 (nI k).toNatClampNeg (I 68 (nI k + nI 69).toNatClampNeg) = uI I 68 k (I 68 (k + 69)) := by rw [q1, q2]
      rw [← z] at y
      exact y
  · exact absurd hz (by decide)
  · cases st with
    | cons _ _ => exact hg.2.1.2.elim
    | nil =>
      obtain ⟨ru, ta, rs, _, _, rfl⟩ := shX hg.2.2.2.1
      obtain ⟨o0, e0, p0, hp0, y0⟩ := hg.2.1.1 0 (.inr (.inl [67])) rfl
      obtain ⟨o1, e1, x, y1, z, hzk, hx⟩ := hg.2.1.1 1 (.inl (1, .ofNat 0)) rfl
      obtain ⟨a0, a1, r, rfl⟩ := ex2 e1
      cases e0
      cases e1
      subst y0 y1
      have hp0 := List.mem_singleton.mp hp0
      subst hp0
      replace hx : x.toInt = z + 0 := hx
      have hzE : inI ((0 : Int), (69 : Int)) z := hg.1.1.2 1 z _ hzk rfl
      have hz1 := hzE.1
      have hz2 := hzE.2
      dsimp only at hz1 hz2
      obtain ⟨k, rfl, hk0, hk, _⟩ := nI_inI (x := x) (a := 0) (b := 69) (by rw [hx]; exact ⟨by show (0 : Int) ≤ z + 0; omega, by show z + 0 ≤ (69 : Int); omega⟩) (by decide)
      have hkz : (k : Int) = z := by
        rw [nI_toInt (by omega)] at hx
        omega
      have hT : ∀ e, e ∈ ca_X12_keepsStep_1_53.2.2.2.2.1 → e.1 = 68 → e.2.1 < 60 := by decide
      have out : k = 69 → K 94 (some (.ref 67) :: some (.int (nI k)) :: r) [] (shH ru ta rs) I J 0 0 := by
        intro hkk
        exact hK 94 (ca_X12_keepsStep_1_53.2.1.set 1 (69, 69), ca_X12_keepsStep_1_53.2.2.1, ca_X12_keepsStep_1_53.2.2.2.1, ca_X12_keepsStep_1_53.2.2.2.2.1) (by decide +kernel) R _ [] _ I J (ga_setE (S := stA ca_X12_keepsStep_1_53.2) (r := (69, 69)) rfl hzk ⟨by show (69 : Int) ≤ z; omega, by show z ≤ (69 : Int); omega⟩ hg)
      have fin : ∀ I2, ga (CNr 68 3 2) ck_X12_keepsStep_1.2.2.1 ck_X12_keepsStep_1.2.2.2.1 sh0 I0 R R (stA ca_X12_keepsStep_1_53.2) (some (.ref 67) :: some (.int (nI k)) :: r) [] (shH ru ta rs) I2 → k < 69 → K 53 (some (.ref 67) :: some (.int (nI k + 1)) :: r) [] (shH ru ta rs) I2 J 0 0 := by
        intro I2 h2 hkk
        have h3 := ga_setE (S := stA ca_X12_keepsStep_1_53.2) (r := (0, 68)) rfl hzk ⟨by show (0 : Int) ≤ z; omega, by show z ≤ (68 : Int); omega⟩ h2
        refine hK 53 (ca_X12_keepsStep_1_53.2.1.set 1 (0, 68), [.inr (.inl [67]), .inl (1, .ofNat 1)], [], ca_X12_keepsStep_1_53.2.2.2.2.1) (by decide +kernel) R _ [] _ I2 J ⟨h3.1, ⟨fun i a ha => ?_, trivial⟩, h3.2.2⟩
        match i, ha with
        | 0, ha =>
          cases ha
          exact ⟨_, rfl, 67, List.mem_singleton.mpr rfl, rfl⟩
        | 1, ha =>
          cases ha
          exact ⟨_, rfl, _, rfl, num_add1 hzk hx (by omega)⟩
        | _ + 2, ha => cases ha
      obtain ⟨s, hs2, hsx⟩ : numO R (2, .ofNat 0) (I 68 5) := hg.2.2.1.1 68 5 _ rfl
      replace hsx : (I 68 5).toInt = s := hsx.trans (Int.add_zero s)
      have hsE : inI ((0 : Int), (29 : Int)) s := hg.1.1.2 2 s _ hs2 rfl
      obtain ⟨S, eS, _, hS, _⟩ := nI_inI (x := I 68 5) (a := 0) (b := 29) (by rw [hsx]; exact ⟨by show (0 : Int) ≤ s; exact hsE.1, by show s ≤ (29 : Int); exact hsE.2⟩) (by decide)
      refine And.intro (fun h => out ?_) (fun h => ?_)
      · rcases Nat.lt_or_ge k 69 with y | y
        · exact absurd h (nI_ge (a := k) (b := 69) y (by omega))
        · omega
      have hk2 : k < 69 := by
        rcases Nat.lt_or_ge k 69 with y | y
        · exact y
        · exact absurd (nI_le (a := 69) (b := k) y (by omega)) h
      obtain ⟨q1, w1⟩ := ix_col (S := S) (k := k) (by omega) hk2
      obtain ⟨q2, w2⟩ := ix_row hk2
      rw [← eS] at q1 w1
      refine And.intro (vp_in_nI (N := 2200) (n := 5) (by omega) (by omega)) (And.intro w2 (And.intro w1 ?_))
      have y := fin (uI I 68 (130 + 69 * S + k) (I 68 (60 + k))) (ga_put68X hg rfl hT (by omega) (by omega) (cell_colX hk2)) (by omega)
      rw [← q1, ← q2] at y
      exact y
  · exact absurd hz (by decide)
set_option maxRecDepth 100000 in
set_option maxHeartbeats 4000000 in
theorem se3_X12_keepsStep_1 : ∀ q, q ∈ ca_X12_keepsStep_1 → nmem q.1 [15, 53] = true → ∀ (l : Launch) (d : Nat) (sh : List XO) (I : XI) (as : List Value) (Rp : XR), agO ck_X12_keepsStep_1.2.1 as → (∀ I2, frO ck_X12_keepsStep_1.2.2.1 I I2 → QQ I2) → outO QQ (CNr 68 3 3) ck_X12_keepsStep_1.2.2.1 ck_X12_keepsStep_1.2.2.2.1 sh I ck_X12_keepsStep_1.2.2.2.2.1 as Rp → segO (CNr 68 3 3) ck_X12_keepsStep_1.2.2.1 ck_X12_keepsStep_1.2.2.2.1 sh I xxX12 mX12_keepsStep.2.2.2 (!(Nat.beq 0 0)) sh.length 0 0 l (d + (ck_X12_keepsStep_1.1 - 1)) tX12_keepsStep (ca_X12_keepsStep_1.map fun q => q.1) Rp as ca_X12_keepsStep_1 (aInts ck_X12_keepsStep_1.2.1).length q := by
  intro q hq hz l d sh0 I0 as Rp ha _ _ K R lc st sh I J hK hg hp
  simp only [ca_X12_keepsStep_1, List.mem_cons, List.not_mem_nil, or_false] at hq
  rcases hq with rfl | rfl | rfl | rfl
  · cases st with
    | cons _ _ => exact hg.2.1.2.elim
    | nil =>
      obtain ⟨ru, ta, rs, _, _, rfl⟩ := shX hg.2.2.2.1
      obtain ⟨o0, e0, p0, hp0, y0⟩ := hg.2.1.1 0 (.inr (.inl [67])) rfl
      obtain ⟨o1, e1, x, y1, z, hzk, hx⟩ := hg.2.1.1 1 (.inl (1, .ofNat 0)) rfl
      obtain ⟨a0, a1, r, rfl⟩ := ex2 e1
      cases e0
      cases e1
      subst y0 y1
      have hp0 := List.mem_singleton.mp hp0
      subst hp0
      replace hx : x.toInt = z + 0 := hx
      have hzE : inI ((130 : Int), (2131 : Int)) z := hg.1.1.2 1 z _ hzk rfl
      have hz1 := hzE.1
      have hz2 := hzE.2
      dsimp only at hz1 hz2
      obtain ⟨k, rfl, hk0, hk, _⟩ := nI_inI (x := x) (a := 130) (b := 2131) (by rw [hx]; exact ⟨by show (130 : Int) ≤ z + 0; omega, by show z + 0 ≤ (2131 : Int); omega⟩) (by decide)
      have hkz : (k : Int) = z := by
        rw [nI_toInt (by omega)] at hx
        omega
      have hT : ∀ e, e ∈ ca_X12_keepsStep_1_15.2.2.2.2.1 → e.1 = 68 → e.2.1 < 60 := by decide
      have out : k = 2131 → K 43 (some (.ref 67) :: some (.int (nI k)) :: r) [] (shH ru ta rs) I J 0 0 := by
        intro hkk
        exact hK 43 (ca_X12_keepsStep_1_15.2.1.set 1 (2131, 2131), ca_X12_keepsStep_1_15.2.2.1, ca_X12_keepsStep_1_15.2.2.2.1, ca_X12_keepsStep_1_15.2.2.2.2.1) (by decide +kernel) R _ [] _ I J (ga_setE (S := stA ca_X12_keepsStep_1_15.2) (r := (2131, 2131)) rfl hzk ⟨by show (2131 : Int) ≤ z; omega, by show z ≤ (2131 : Int); omega⟩ hg)
      have fin : ∀ I2, ga (CNr 68 3 3) ck_X12_keepsStep_1.2.2.1 ck_X12_keepsStep_1.2.2.2.1 sh0 I0 R R (stA ca_X12_keepsStep_1_15.2) (some (.ref 67) :: some (.int (nI k)) :: r) [] (shH ru ta rs) I2 → k < 2131 → K 15 (some (.ref 67) :: some (.int (nI k + 1)) :: r) [] (shH ru ta rs) I2 J 0 0 := by
        intro I2 h2 hkk
        have h3 := ga_setE (S := stA ca_X12_keepsStep_1_15.2) (r := (130, 2130)) rfl hzk ⟨by show (130 : Int) ≤ z; omega, by show z ≤ (2130 : Int); omega⟩ h2
        refine hK 15 (ca_X12_keepsStep_1_15.2.1.set 1 (130, 2130), [.inr (.inl [67]), .inl (1, .ofNat 1)], [], ca_X12_keepsStep_1_15.2.2.2.2.1) (by decide +kernel) R _ [] _ I2 J ⟨h3.1, ⟨fun i a ha => ?_, trivial⟩, h3.2.2⟩
        match i, ha with
        | 0, ha =>
          cases ha
          exact ⟨_, rfl, 67, List.mem_singleton.mpr rfl, rfl⟩
        | 1, ha =>
          cases ha
          exact ⟨_, rfl, _, rfl, num_add1 hzk hx (by omega)⟩
        | _ + 2, ha => cases ha
      refine And.intro (fun h => out ?_) (fun h => ?_)
      · rcases Nat.lt_or_ge k 2131 with y | y
        · exact absurd h (nI_ge (a := k) (b := 2131) y (by omega))
        · omega
      have hk2 : k < 2131 := by
        rcases Nat.lt_or_ge k 2131 with y | y
        · exact y
        · exact absurd (nI_le (a := 2131) (b := k) y (by omega)) h
      have q1 : (nI k).toNatClampNeg = k := nI_clamp (by omega)
      have q2 : (nI k + nI 69).toNatClampNeg = k + 69 := by rw [nI_add]; exact nI_clamp (by omega)
      have w2 : vp_in (nI k + nI 69) 2200 := by rw [nI_add]; exact vp_in_nI (by omega) (by omega)
      refine And.intro w2 (And.intro (vp_in_nI (N := 2200) (by omega) (by omega)) ?_)
      have y := fin (uI I 68 k (I 68 (k + 69))) (ga_put68X hg rfl hT (by omega) (by omega) (cell_nextX (by omega))) (by omega)
      have z : uI I 68 (nI k).toNatClampNeg (I 68 (nI k + nI 69).toNatClampNeg) = uI I 68 k (I 68 (k + 69)) := by rw [q1, q2]
      rw [← z] at y
      exact y
  · exact absurd hz (by decide)
  · cases st with
    | cons _ _ => exact hg.2.1.2.elim
    | nil =>
      obtain ⟨ru, ta, rs, _, _, rfl⟩ := shX hg.2.2.2.1
      obtain ⟨o0, e0, p0, hp0, y0⟩ := hg.2.1.1 0 (.inr (.inl [67])) rfl
      obtain ⟨o1, e1, x, y1, z, hzk, hx⟩ := hg.2.1.1 1 (.inl (1, .ofNat 0)) rfl
      obtain ⟨a0, a1, r, rfl⟩ := ex2 e1
      cases e0
      cases e1
      subst y0 y1
      have hp0 := List.mem_singleton.mp hp0
      subst hp0
      replace hx : x.toInt = z + 0 := hx
      have hzE : inI ((0 : Int), (69 : Int)) z := hg.1.1.2 1 z _ hzk rfl
      have hz1 := hzE.1
      have hz2 := hzE.2
      dsimp only at hz1 hz2
      obtain ⟨k, rfl, hk0, hk, _⟩ := nI_inI (x := x) (a := 0) (b := 69) (by rw [hx]; exact ⟨by show (0 : Int) ≤ z + 0; omega, by show z + 0 ≤ (69 : Int); omega⟩) (by decide)
      have hkz : (k : Int) = z := by
        rw [nI_toInt (by omega)] at hx
        omega
      have hT : ∀ e, e ∈ ca_X12_keepsStep_1_53.2.2.2.2.1 → e.1 = 68 → e.2.1 < 60 := by decide
      have out : k = 69 → K 94 (some (.ref 67) :: some (.int (nI k)) :: r) [] (shH ru ta rs) I J 0 0 := by
        intro hkk
        exact hK 94 (ca_X12_keepsStep_1_53.2.1.set 1 (69, 69), ca_X12_keepsStep_1_53.2.2.1, ca_X12_keepsStep_1_53.2.2.2.1, ca_X12_keepsStep_1_53.2.2.2.2.1) (by decide +kernel) R _ [] _ I J (ga_setE (S := stA ca_X12_keepsStep_1_53.2) (r := (69, 69)) rfl hzk ⟨by show (69 : Int) ≤ z; omega, by show z ≤ (69 : Int); omega⟩ hg)
      have fin : ∀ I2, ga (CNr 68 3 3) ck_X12_keepsStep_1.2.2.1 ck_X12_keepsStep_1.2.2.2.1 sh0 I0 R R (stA ca_X12_keepsStep_1_53.2) (some (.ref 67) :: some (.int (nI k)) :: r) [] (shH ru ta rs) I2 → k < 69 → K 53 (some (.ref 67) :: some (.int (nI k + 1)) :: r) [] (shH ru ta rs) I2 J 0 0 := by
        intro I2 h2 hkk
        have h3 := ga_setE (S := stA ca_X12_keepsStep_1_53.2) (r := (0, 68)) rfl hzk ⟨by show (0 : Int) ≤ z; omega, by show z ≤ (68 : Int); omega⟩ h2
        refine hK 53 (ca_X12_keepsStep_1_53.2.1.set 1 (0, 68), [.inr (.inl [67]), .inl (1, .ofNat 1)], [], ca_X12_keepsStep_1_53.2.2.2.2.1) (by decide +kernel) R _ [] _ I2 J ⟨h3.1, ⟨fun i a ha => ?_, trivial⟩, h3.2.2⟩
        match i, ha with
        | 0, ha =>
          cases ha
          exact ⟨_, rfl, 67, List.mem_singleton.mpr rfl, rfl⟩
        | 1, ha =>
          cases ha
          exact ⟨_, rfl, _, rfl, num_add1 hzk hx (by omega)⟩
        | _ + 2, ha => cases ha
      obtain ⟨s, hs2, hsx⟩ : numO R (2, .ofNat 0) (I 68 5) := hg.2.2.1.1 68 5 _ rfl
      replace hsx : (I 68 5).toInt = s := hsx.trans (Int.add_zero s)
      have hsE : inI ((0 : Int), (29 : Int)) s := hg.1.1.2 2 s _ hs2 rfl
      obtain ⟨S, eS, _, hS, _⟩ := nI_inI (x := I 68 5) (a := 0) (b := 29) (by rw [hsx]; exact ⟨by show (0 : Int) ≤ s; exact hsE.1, by show s ≤ (29 : Int); exact hsE.2⟩) (by decide)
      refine And.intro (fun h => out ?_) (fun h => ?_)
      · rcases Nat.lt_or_ge k 69 with y | y
        · exact absurd h (nI_ge (a := k) (b := 69) y (by omega))
        · omega
      have hk2 : k < 69 := by
        rcases Nat.lt_or_ge k 69 with y | y
        · exact y
        · exact absurd (nI_le (a := 69) (b := k) y (by omega)) h
      obtain ⟨q1, w1⟩ := ix_col (S := S) (k := k) (by omega) hk2
      obtain ⟨q2, w2⟩ := ix_row hk2
      rw [← eS] at q1 w1
      refine And.intro (vp_in_nI (N := 2200) (n := 5) (by omega) (by omega)) (And.intro w2 (And.intro w1 ?_))
      have y := fin (uI I 68 (130 + 69 * S + k) (I 68 (60 + k))) (ga_put68X hg rfl hT (by omega) (by omega) (cell_colX hk2)) (by omega)
      rw [← q1, ← q2] at y
      exact y
  · exact absurd hz (by decide)
set_option maxRecDepth 100000 in
set_option maxHeartbeats 4000000 in
theorem se4_X12_keepsStep_1 : ∀ q, q ∈ ca_X12_keepsStep_1 → nmem q.1 [15, 53] = true → ∀ (l : Launch) (d : Nat) (sh : List XO) (I : XI) (as : List Value) (Rp : XR), agO ck_X12_keepsStep_1.2.1 as → (∀ I2, frO ck_X12_keepsStep_1.2.2.1 I I2 → QQ I2) → outO QQ (CNr 68 3 4) ck_X12_keepsStep_1.2.2.1 ck_X12_keepsStep_1.2.2.2.1 sh I ck_X12_keepsStep_1.2.2.2.2.1 as Rp → segO (CNr 68 3 4) ck_X12_keepsStep_1.2.2.1 ck_X12_keepsStep_1.2.2.2.1 sh I xxX12 mX12_keepsStep.2.2.2 (!(Nat.beq 0 0)) sh.length 0 0 l (d + (ck_X12_keepsStep_1.1 - 1)) tX12_keepsStep (ca_X12_keepsStep_1.map fun q => q.1) Rp as ca_X12_keepsStep_1 (aInts ck_X12_keepsStep_1.2.1).length q := by
  intro q hq hz l d sh0 I0 as Rp ha _ _ K R lc st sh I J hK hg hp
  simp only [ca_X12_keepsStep_1, List.mem_cons, List.not_mem_nil, or_false] at hq
  rcases hq with rfl | rfl | rfl | rfl
  · cases st with
    | cons _ _ => exact hg.2.1.2.elim
    | nil =>
      obtain ⟨ru, ta, rs, _, _, rfl⟩ := shX hg.2.2.2.1
      obtain ⟨o0, e0, p0, hp0, y0⟩ := hg.2.1.1 0 (.inr (.inl [67])) rfl
      obtain ⟨o1, e1, x, y1, z, hzk, hx⟩ := hg.2.1.1 1 (.inl (1, .ofNat 0)) rfl
      obtain ⟨a0, a1, r, rfl⟩ := ex2 e1
      cases e0
      cases e1
      subst y0 y1
      have hp0 := List.mem_singleton.mp hp0
      subst hp0
      replace hx : x.toInt = z + 0 := hx
      have hzE : inI ((130 : Int), (2131 : Int)) z := hg.1.1.2 1 z _ hzk rfl
      have hz1 := hzE.1
      have hz2 := hzE.2
      dsimp only at hz1 hz2
      obtain ⟨k, rfl, hk0, hk, _⟩ := nI_inI (x := x) (a := 130) (b := 2131) (by rw [hx]; exact ⟨by show (130 : Int) ≤ z + 0; omega, by show z + 0 ≤ (2131 : Int); omega⟩) (by decide)
      have hkz : (k : Int) = z := by
        rw [nI_toInt (by omega)] at hx
        omega
      have hT : ∀ e, e ∈ ca_X12_keepsStep_1_15.2.2.2.2.1 → e.1 = 68 → e.2.1 < 60 := by decide
      have out : k = 2131 → K 43 (some (.ref 67) :: some (.int (nI k)) :: r) [] (shH ru ta rs) I J 0 0 := by
        intro hkk
        exact hK 43 (ca_X12_keepsStep_1_15.2.1.set 1 (2131, 2131), ca_X12_keepsStep_1_15.2.2.1, ca_X12_keepsStep_1_15.2.2.2.1, ca_X12_keepsStep_1_15.2.2.2.2.1) (by decide +kernel) R _ [] _ I J (ga_setE (S := stA ca_X12_keepsStep_1_15.2) (r := (2131, 2131)) rfl hzk ⟨by show (2131 : Int) ≤ z; omega, by show z ≤ (2131 : Int); omega⟩ hg)
      have fin : ∀ I2, ga (CNr 68 3 4) ck_X12_keepsStep_1.2.2.1 ck_X12_keepsStep_1.2.2.2.1 sh0 I0 R R (stA ca_X12_keepsStep_1_15.2) (some (.ref 67) :: some (.int (nI k)) :: r) [] (shH ru ta rs) I2 → k < 2131 → K 15 (some (.ref 67) :: some (.int (nI k + 1)) :: r) [] (shH ru ta rs) I2 J 0 0 := by
        intro I2 h2 hkk
        have h3 := ga_setE (S := stA ca_X12_keepsStep_1_15.2) (r := (130, 2130)) rfl hzk ⟨by show (130 : Int) ≤ z; omega, by show z ≤ (2130 : Int); omega⟩ h2
        refine hK 15 (ca_X12_keepsStep_1_15.2.1.set 1 (130, 2130), [.inr (.inl [67]), .inl (1, .ofNat 1)], [], ca_X12_keepsStep_1_15.2.2.2.2.1) (by decide +kernel) R _ [] _ I2 J ⟨h3.1, ⟨fun i a ha => ?_, trivial⟩, h3.2.2⟩
        match i, ha with
        | 0, ha =>
          cases ha
          exact ⟨_, rfl, 67, List.mem_singleton.mpr rfl, rfl⟩
        | 1, ha =>
          cases ha
          exact ⟨_, rfl, _, rfl, num_add1 hzk hx (by omega)⟩
        | _ + 2, ha => cases ha
      refine And.intro (fun h => out ?_) (fun h => ?_)
      · rcases Nat.lt_or_ge k 2131 with y | y
        · exact absurd h (nI_ge (a := k) (b := 2131) y (by omega))
        · omega
      have hk2 : k < 2131 := by
        rcases Nat.lt_or_ge k 2131 with y | y
        · exact y
        · exact absurd (nI_le (a := 2131) (b := k) y (by omega)) h
      have q1 : (nI k).toNatClampNeg = k := nI_clamp (by omega)
      have q2 : (nI k + nI 69).toNatClampNeg = k + 69 := by rw [nI_add]; exact nI_clamp (by omega)
      have w2 : vp_in (nI k + nI 69) 2200 := by rw [nI_add]; exact vp_in_nI (by omega) (by omega)
      refine And.intro w2 (And.intro (vp_in_nI (N := 2200) (by omega) (by omega)) ?_)
      have y := fin (uI I 68 k (I 68 (k + 69))) (ga_put68X hg rfl hT (by omega) (by omega) (cell_nextX (by omega))) (by omega)
      have z : uI I 68 (nI k).toNatClampNeg (I 68 (nI k + nI 69).toNatClampNeg) = uI I 68 k (I 68 (k + 69)) := by rw [q1, q2]
      rw [← z] at y
      exact y
  · exact absurd hz (by decide)
  · cases st with
    | cons _ _ => exact hg.2.1.2.elim
    | nil =>
      obtain ⟨ru, ta, rs, _, _, rfl⟩ := shX hg.2.2.2.1
      obtain ⟨o0, e0, p0, hp0, y0⟩ := hg.2.1.1 0 (.inr (.inl [67])) rfl
      obtain ⟨o1, e1, x, y1, z, hzk, hx⟩ := hg.2.1.1 1 (.inl (1, .ofNat 0)) rfl
      obtain ⟨a0, a1, r, rfl⟩ := ex2 e1
      cases e0
      cases e1
      subst y0 y1
      have hp0 := List.mem_singleton.mp hp0
      subst hp0
      replace hx : x.toInt = z + 0 := hx
      have hzE : inI ((0 : Int), (69 : Int)) z := hg.1.1.2 1 z _ hzk rfl
      have hz1 := hzE.1
      have hz2 := hzE.2
      dsimp only at hz1 hz2
      obtain ⟨k, rfl, hk0, hk, _⟩ := nI_inI (x := x) (a := 0) (b := 69) (by rw [hx]; exact ⟨by show (0 : Int) ≤ z + 0; omega, by show z + 0 ≤ (69 : Int); omega⟩) (by decide)
      have hkz : (k : Int) = z := by
        rw [nI_toInt (by omega)] at hx
        omega
      have hT : ∀ e, e ∈ ca_X12_keepsStep_1_53.2.2.2.2.1 → e.1 = 68 → e.2.1 < 60 := by decide
      have out : k = 69 → K 94 (some (.ref 67) :: some (.int (nI k)) :: r) [] (shH ru ta rs) I J 0 0 := by
        intro hkk
        exact hK 94 (ca_X12_keepsStep_1_53.2.1.set 1 (69, 69), ca_X12_keepsStep_1_53.2.2.1, ca_X12_keepsStep_1_53.2.2.2.1, ca_X12_keepsStep_1_53.2.2.2.2.1) (by decide +kernel) R _ [] _ I J (ga_setE (S := stA ca_X12_keepsStep_1_53.2) (r := (69, 69)) rfl hzk ⟨by show (69 : Int) ≤ z; omega, by show z ≤ (69 : Int); omega⟩ hg)
      have fin : ∀ I2, ga (CNr 68 3 4) ck_X12_keepsStep_1.2.2.1 ck_X12_keepsStep_1.2.2.2.1 sh0 I0 R R (stA ca_X12_keepsStep_1_53.2) (some (.ref 67) :: some (.int (nI k)) :: r) [] (shH ru ta rs) I2 → k < 69 → K 53 (some (.ref 67) :: some (.int (nI k + 1)) :: r) [] (shH ru ta rs) I2 J 0 0 := by
        intro I2 h2 hkk
        have h3 := ga_setE (S := stA ca_X12_keepsStep_1_53.2) (r := (0, 68)) rfl hzk ⟨by show (0 : Int) ≤ z; omega, by show z ≤ (68 : Int); omega⟩ h2
        refine hK 53 (ca_X12_keepsStep_1_53.2.1.set 1 (0, 68), [.inr (.inl [67]), .inl (1, .ofNat 1)], [], ca_X12_keepsStep_1_53.2.2.2.2.1) (by decide +kernel) R _ [] _ I2 J ⟨h3.1, ⟨fun i a ha => ?_, trivial⟩, h3.2.2⟩
        match i, ha with
        | 0, ha =>
          cases ha
          exact ⟨_, rfl, 67, List.mem_singleton.mpr rfl, rfl⟩
        | 1, ha =>
          cases ha
          exact ⟨_, rfl, _, rfl, num_add1 hzk hx (by omega)⟩
        | _ + 2, ha => cases ha
      obtain ⟨s, hs2, hsx⟩ : numO R (2, .ofNat 0) (I 68 5) := hg.2.2.1.1 68 5 _ rfl
      replace hsx : (I 68 5).toInt = s := hsx.trans (Int.add_zero s)
      have hsE : inI ((0 : Int), (29 : Int)) s := hg.1.1.2 2 s _ hs2 rfl
      obtain ⟨S, eS, _, hS, _⟩ := nI_inI (x := I 68 5) (a := 0) (b := 29) (by rw [hsx]; exact ⟨by show (0 : Int) ≤ s; exact hsE.1, by show s ≤ (29 : Int); exact hsE.2⟩) (by decide)
      refine And.intro (fun h => out ?_) (fun h => ?_)
      · rcases Nat.lt_or_ge k 69 with y | y
        · exact absurd h (nI_ge (a := k) (b := 69) y (by omega))
        · omega
      have hk2 : k < 69 := by
        rcases Nat.lt_or_ge k 69 with y | y
        · exact y
        · exact absurd (nI_le (a := 69) (b := k) y (by omega)) h
      obtain ⟨q1, w1⟩ := ix_col (S := S) (k := k) (by omega) hk2
      obtain ⟨q2, w2⟩ := ix_row hk2
      rw [← eS] at q1 w1
      refine And.intro (vp_in_nI (N := 2200) (n := 5) (by omega) (by omega)) (And.intro w2 (And.intro w1 ?_))
      have y := fin (uI I 68 (130 + 69 * S + k) (I 68 (60 + k))) (ga_put68X hg rfl hT (by omega) (by omega) (cell_colX hk2)) (by omega)
      rw [← q1, ← q2] at y
      exact y
  · exact absurd hz (by decide)
theorem sev_X12_keepsStep_1 {v : Nat} (hv : v < 5) : ∀ q, q ∈ ca_X12_keepsStep_1 → nmem q.1 [15, 53] = true → ∀ (l : Launch) (d : Nat) (sh : List XO) (I : XI) (as : List Value) (Rp : XR), agO ck_X12_keepsStep_1.2.1 as → (∀ I2, frO ck_X12_keepsStep_1.2.2.1 I I2 → QQ I2) → outO QQ (CNr 68 3 v) ck_X12_keepsStep_1.2.2.1 ck_X12_keepsStep_1.2.2.2.1 sh I ck_X12_keepsStep_1.2.2.2.2.1 as Rp → segO (CNr 68 3 v) ck_X12_keepsStep_1.2.2.1 ck_X12_keepsStep_1.2.2.2.1 sh I xxX12 mX12_keepsStep.2.2.2 (!(Nat.beq 0 0)) sh.length 0 0 l (d + (ck_X12_keepsStep_1.1 - 1)) tX12_keepsStep (ca_X12_keepsStep_1.map fun q => q.1) Rp as ca_X12_keepsStep_1 (aInts ck_X12_keepsStep_1.2.1).length q := by
  have h5 : v = 0 ∨ v = 1 ∨ v = 2 ∨ v = 3 ∨ v = 4 := by omega
  rcases h5 with rfl | rfl | rfl | rfl | rfl
  · exact se0_X12_keepsStep_1
  · exact se1_X12_keepsStep_1
  · exact se2_X12_keepsStep_1
  · exact se3_X12_keepsStep_1
  · exact se4_X12_keepsStep_1
theorem cv_X12_keepsStep_1 {v : Nat} (hv : v < 5) : ctrO QQ (CNr 68 3 v) ck_X12_keepsStep_1 mX12_keepsStep := chk_okS (Q := QQ) (QP := QPl) (C := (CNr 68 3 v)) (c := ck_X12_keepsStep_1) (G := cg_X12_keepsStep_1) (X := xxX12) (M := mX12_keepsStep) (t := tX12_keepsStep) (anns := ca_X12_keepsStep_1) [15, 53] 2074 xx12 pl12 rfl kX12_keepsStep qq_ok (cy_X12_keepsStep_1 hv) (sev_X12_keepsStep_1 hv) (w5 cd_X12_keepsStep_1 hv)
set_option maxRecDepth 100000 in
theorem cd_X12_decades_0 : ((List.range 5).all fun v => aChk QPl (CNr 68 3 v) ck_X12_decades_0 cg_X12_decades_0 xxX12 mX12_decades tX12_decades ca_X12_decades_0 [] 31) = true := by decide +kernel
theorem cy_X12_decades_0 {v : Nat} (hv : v < 5) : ctsO QQ (CNr 68 3 v) xxX12 cg_X12_decades_0 := ctsO_cons rfl (cnr_lift nc_B hv ct_X12_in_9 rfl) (ctsO_cons rfl (cnr_lift nc_B hv ct_X12_in_10 rfl) (ctsO_cons rfl (cv_X12_keepsStep_1 hv) (ctsO_cons rfl (cnr_lift nc_B hv ct_X12_laysNow_0 rfl) (ctsO_cons rfl (cnr_lift nc_B hv ct_X12_happens_0 rfl) (ctsO_cons rfl (cv_X12_keepsNow_0 hv) (ctsO_nil))))))
theorem cv_X12_decades_0 {v : Nat} (hv : v < 5) : ctrO QQ (CNr 68 3 v) ck_X12_decades_0 mX12_decades := chk_ok (Q := QQ) (QP := QPl) (C := (CNr 68 3 v)) (c := ck_X12_decades_0) (G := cg_X12_decades_0) (X := xxX12) (M := mX12_decades) (t := tX12_decades) (anns := ca_X12_decades_0) 31 xx12 pl12 rfl kX12_decades qq_ok (cy_X12_decades_0 hv) (w5 cd_X12_decades_0 hv)
set_option maxRecDepth 100000 in
theorem cd_X12_hours_0 : ((List.range 5).all fun v => aChk QPl (CNr 68 3 v) ck_X12_hours_0 cg_X12_hours_0 xxX12 mX12_hours tX12_hours ca_X12_hours_0 [] 2147483648) = true := by decide +kernel
theorem cy_X12_hours_0 {v : Nat} (hv : v < 5) : ctsO QQ (CNr 68 3 v) xxX12 cg_X12_hours_0 := ctsO_cons rfl (cv_X12_hour_0 hv) (ctsO_nil)
theorem cv_X12_hours_0 {v : Nat} (hv : v < 5) : ctrO QQ (CNr 68 3 v) ck_X12_hours_0 mX12_hours := chk_ok (Q := QQ) (QP := QPl) (C := (CNr 68 3 v)) (c := ck_X12_hours_0) (G := cg_X12_hours_0) (X := xxX12) (M := mX12_hours) (t := tX12_hours) (anns := ca_X12_hours_0) 2147483648 xx12 pl12 rfl kX12_hours qq_ok (cy_X12_hours_0 hv) (w5 cd_X12_hours_0 hv)
set_option maxRecDepth 100000 in
theorem cd_X12_played_0 : ((List.range 5).all fun v => aChk QPl (CNr 68 3 v) ck_X12_played_0 cg_X12_played_0 xxX12 mX12_played tX12_played ca_X12_played_0 [] 25) = true := by decide +kernel
theorem cy_X12_played_0 {v : Nat} (hv : v < 5) : ctsO QQ (CNr 68 3 v) xxX12 cg_X12_played_0 := ctsO_cons rfl (cnr_lift nc_B hv ct_X12_in_0 rfl) (ctsO_cons rfl (cv_X12_thing_0 hv) (ctsO_cons rfl (cv_X12_hours_0 hv) (ctsO_cons rfl (cv_X12_sell_0 hv) (ctsO_cons rfl (cv_X12_move_0 hv) (ctsO_cons rfl (cv_X12_use_0 hv) (ctsO_cons rfl (cv_X12_last_0 hv) (ctsO_cons rfl (cv_X12_cut_0 hv) (ctsO_cons rfl (cv_X12_barn_0 hv) (ctsO_cons rfl (cv_X12_reaper_0 hv) (ctsO_nil))))))))))
theorem cv_X12_played_0 {v : Nat} (hv : v < 5) : ctrO QQ (CNr 68 3 v) ck_X12_played_0 mX12_played := chk_ok (Q := QQ) (QP := QPl) (C := (CNr 68 3 v)) (c := ck_X12_played_0) (G := cg_X12_played_0) (X := xxX12) (M := mX12_played) (t := tX12_played) (anns := ca_X12_played_0) 25 xx12 pl12 rfl kX12_played qq_ok (cy_X12_played_0 hv) (w5 cd_X12_played_0 hv)
set_option maxRecDepth 100000 in
theorem cd_X12_need_0 : ((List.range 5).all fun v => aChk QPl (CNr 68 3 v) ck_X12_need_0 cg_X12_need_0 xxX12 mX12_need tX12_need ca_X12_need_0 [] 1) = true := by decide +kernel
theorem cy_X12_need_0 {v : Nat} (hv : v < 5) : ctsO QQ (CNr 68 3 v) xxX12 cg_X12_need_0 := ctsO_cons rfl (cnr_lift nc_B hv ct_X12_in_15 rfl) (ctsO_cons rfl (cnr_lift nc_B hv ct_X12_in_5 rfl) (ctsO_nil))
theorem cv_X12_need_0 {v : Nat} (hv : v < 5) : ctrO QQ (CNr 68 3 v) ck_X12_need_0 mX12_need := chk_ok (Q := QQ) (QP := QPl) (C := (CNr 68 3 v)) (c := ck_X12_need_0) (G := cg_X12_need_0) (X := xxX12) (M := mX12_need) (t := tX12_need) (anns := ca_X12_need_0) 1 xx12 pl12 rfl kX12_need qq_ok (cy_X12_need_0 hv) (w5 cd_X12_need_0 hv)
