-- ===== the image's count of needs =====
def isW (a b : Nat) : Bool := Nat.beq a 6 && Nat.beq b 4
def gW (v : Nat) (q : Nat × Nat × Int × Int) : Nat × Nat × Int × Int := match isW q.1 q.2.1 with
  | true => (q.1, q.2.1, (v : Int), (v : Int))
  | false => q
def CWv (v : Nat) : AC := (CFs, CFc.map (gW v), CFr)
theorem gW_1 (v : Nat) (q : Nat × Nat × Int × Int) : (gW v q).1 = q.1 ∧ (gW v q).2.1 = q.2.1 := by
  unfold gW
  split <;> exact ⟨rfl, rfl⟩
theorem find_gW (v a b : Nat) : ∀ L : List (Nat × Nat × Int × Int), (L.map (gW v)).find? (fun q => Nat.beq q.1 a && Nat.beq q.2.1 b) = (L.find? (fun q => Nat.beq q.1 a && Nat.beq q.2.1 b)).map (gW v)
  | [] => rfl
  | q :: L => by
    have ih := find_gW v a b L
    rw [List.map_cons, List.find?_cons, List.find?_cons, (gW_1 v q).1, (gW_1 v q).2]
    cases Nat.beq q.1 a && Nat.beq q.2.1 b with
    | true => rfl
    | false => exact ih
theorem gW_t {v : Nat} {q : Nat × Nat × Int × Int} (h : isW q.1 q.2.1 = true) : (gW v q).2.2 = ((v : Int), (v : Int)) := by
  unfold gW
  split
  · rfl
  · rename_i z
    rw [h] at z
    cases z
theorem gW_f {v : Nat} {q : Nat × Nat × Int × Int} (h : isW q.1 q.2.1 = false) : (gW v q).2.2 = q.2.2 := by
  unfold gW
  split
  · rename_i z
    rw [h] at z
    cases z
  · rfl
theorem cw_cell (v p k : Nat) : cellI (CWv v) p k = match isW p (nrm p k) with
    | true => ((v : Int), (v : Int))
    | false => cellI CF p k := by
  have e := find_gW v p (nrm p k) CFc
  cases h : isW p (nrm p k) with
  | true =>
    have hs : ∃ q, CFc.find? (fun q => Nat.beq q.1 p && Nat.beq q.2.1 (nrm p k)) = some q ∧ q.1 = p ∧ q.2.1 = nrm p k := by
      unfold isW at h
      simp only [Bool.and_eq_true] at h
      obtain ⟨h1, h2⟩ := h
      rw [Nat.eq_of_beq_eq_true h1] at h2 ⊢
      rw [Nat.eq_of_beq_eq_true h2]
      exact ⟨_, rfl, rfl, rfl⟩
    obtain ⟨q, h1, h2, h3⟩ := hs
    rw [h1] at e
    have e2 : (CWv v).2.1.find? (fun q => Nat.beq q.1 p && Nat.beq q.2.1 (nrm p k)) = some (gW v q) := e
    unfold cellI
    rw [e2]
    show (gW v q).2.2 = _
    exact gW_t (by rw [h2, h3]; exact h)
  | false =>
    cases hf : CFc.find? (fun q => Nat.beq q.1 p && Nat.beq q.2.1 (nrm p k)) with
    | none =>
      rw [hf] at e
      have e2 : (CWv v).2.1.find? (fun q => Nat.beq q.1 p && Nat.beq q.2.1 (nrm p k)) = none := e
      have e3 : CF.2.1.find? (fun q => Nat.beq q.1 p && Nat.beq q.2.1 (nrm p k)) = none := hf
      unfold cellI
      rw [e2, e3]
      rfl
    | some q =>
      rw [hf] at e
      have e2 : (CWv v).2.1.find? (fun q => Nat.beq q.1 p && Nat.beq q.2.1 (nrm p k)) = some (gW v q) := e
      have e3 : CF.2.1.find? (fun q => Nat.beq q.1 p && Nat.beq q.2.1 (nrm p k)) = some q := hf
      have y := List.find?_some hf
      simp only [Bool.and_eq_true] at y
      have y1 := Nat.eq_of_beq_eq_true y.1
      have y2 := Nat.eq_of_beq_eq_true y.2
      unfold cellI
      rw [e2, e3]
      show (gW v q).2.2 = q.2.2
      exact gW_f (by rw [y1, y2]; exact h)
theorem cw_64 {v : Nat} {I : XI} (h : ivO (CWv v) [] I) : (I 6 4).toInt = v := by
  have y := h 6 4 rfl
  rw [cw_cell] at y
  exact Int.le_antisymm y.2 y.1
theorem isW_el {p k : Nat} (h : isW p (nrm p k) = true) : p = 6 ∧ k = 4 := by
  unfold isW at h
  simp only [Bool.and_eq_true] at h
  obtain ⟨h1, h2⟩ := h
  have e1 := Nat.eq_of_beq_eq_true h1
  subst e1
  exact ⟨rfl, Nat.eq_of_beq_eq_true h2⟩
theorem ivw_up {v : Nat} {I : XI} (h : ivO CF [] I) (h1 : (I 6 4).toInt = v) : ivO (CWv v) [] I := by
  intro p k hn
  rw [cw_cell]
  cases z : isW p (nrm p k) with
  | false => exact h p k hn
  | true =>
    obtain ⟨rfl, rfl⟩ := isW_el z
    rw [h1]
    exact ⟨Int.le_refl _, Int.le_refl _⟩
theorem cell_64 : cellI CF 6 4 = (0, 8) := by decide +kernel
theorem ivw_dn {v : Nat} (hv : v < 9) {I : XI} (h : ivO (CWv v) [] I) : ivO CF [] I := by
  intro p k hn
  have y := h p k hn
  rw [cw_cell] at y
  cases z : isW p (nrm p k) with
  | false =>
    rw [z] at y
    exact y
  | true =>
    obtain ⟨rfl, rfl⟩ := isW_el z
    rw [cw_64 h, cell_64]
    exact ⟨by dsimp only; omega, by dsimp only; omega⟩
theorem wlift {v : Nat} (hv : v < 9) {c : AK} {M : XM} (h : ctrO QQ CF c M) (h6 : nmem 6 c.2.2.1 = false) : ctrO QQ (CWv v) c M := by
  intro l d sh I J as Rp h1 h2 h3 h4 h5 hh
  exact h l d sh I J as Rp h1 h2 h3 (ivw_dn hv h4) h5 (fun v' sh' I' J' g1 g2 g3 g4 g5 g6 => hh v' sh' I' J' g1 g2 (ivw_up g3 (by rw [g5 6 h6]; exact cw_64 h4)) g4 g5 g6)
-- the class's image and back
def ckN (v : Nat) : AK := (1, [.inr (.inl [6]), .inr (.inl [3]), .inr (.inl [4]), .inl ((v : Int), (v : Int))], [6, 10, 11], false, [([((v : Int), (v : Int))], .inr (.inr 9), [(6, 4, ((v : Int), (v : Int)))])], [])
set_option maxRecDepth 100000 in
theorem cdN : ((List.range 9).all fun v => aChk QPl (CXv v) (ckN v) cg_X1_keepNeeds_0 xxX1 mX1_keepNeeds tX1_keepNeeds ca_X1_keepNeeds_0 [] 1) = true := by decide +kernel
theorem cyN {v : Nat} : ctsO QQ (CXv v) xxX1 cg_X1_keepNeeds_0 := ctsO_nil
theorem ctN {v : Nat} (hv : v < 9) : ctrO QQ (CXv v) (ckN v) mX1_keepNeeds := chk_ok (Q := QQ) (QP := QPl) (C := (CXv v)) (c := ckN v) (G := cg_X1_keepNeeds_0) (X := xxX1) (M := mX1_keepNeeds) (t := tX1_keepNeeds) (anns := ca_X1_keepNeeds_0) 1 xx1 pl1 rfl kX1_keepNeeds qq_ok cyN (w9 cdN hv)
def cgI (v : Nat) : List (Nat × AK) := [(354, ck_X1_keepWorld_0), (358, ck_X1_keepTold_0), (361, ck_X1_keepTexts_0), (365, ckN v)]
def ckI (v : Nat) : AK := (3, [.inr (.inl [0])], [6, 7, 8, 9, 10, 11], false, [([], .inl fr, [(6, 4, ((v : Int), (v : Int)))])], [])
set_option maxRecDepth 100000 in
theorem cdI : ((List.range 9).all fun v => aChk QPl (CXv v) (ckI v) (cgI v) xxX11 mX11_image tX11_image ca_X11_image_0 [] 1) = true := by decide +kernel
theorem cyI {v : Nat} (hv : v < 9) : ctsO QQ (CXv v) xxX11 (cgI v) := ctsO_cons rfl (vlift hv ct_X1_keepWorld_0 rfl rfl) (ctsO_cons rfl (vlift hv ct_X1_keepTold_0 rfl rfl) (ctsO_cons rfl (vlift hv ct_X1_keepTexts_0 rfl rfl) (ctsO_cons rfl (ctN hv) (ctsO_nil))))
theorem ctI {v : Nat} (hv : v < 9) : ctrO QQ (CXv v) (ckI v) mX11_image := chk_ok (Q := QQ) (QP := QPl) (C := (CXv v)) (c := ckI v) (G := cgI v) (X := xxX11) (M := mX11_image) (t := tX11_image) (anns := ca_X11_image_0) 1 xx11 pl11 rfl kX11_image qq_ok (cyI hv) (w9 cdI hv)
def ckB (v : Nat) : AK := (3, [.inr (.inl [0])], [0, 1, 2, 3, 4, 12, 27], true, [([], .inl fr, [(0, 7, ((v : Int), (v : Int)))])], [])
set_option maxRecDepth 100000 in
theorem cdB : ((List.range 9).all fun v => aChk QPl (CWv v) (ckB v) cg_X11_back_0 xxX11 mX11_back tX11_back ca_X11_back_0 [] 1) = true := by decide +kernel
theorem cyB {v : Nat} (hv : v < 9) : ctsO QQ (CWv v) xxX11 cg_X11_back_0 := ctsO_cons rfl (wlift hv ct_X1_giveWorld_0 rfl) (ctsO_cons rfl (wlift hv ct_X11_setRule_0 rfl) (ctsO_cons rfl (wlift hv ct_X1_giveNeeds_0 rfl) (ctsO_nil)))
theorem ctB {v : Nat} (hv : v < 9) : ctrO QQ (CWv v) (ckB v) mX11_back := chk_ok (Q := QQ) (QP := QPl) (C := (CWv v)) (c := ckB v) (G := cg_X11_back_0) (X := xxX11) (M := mX11_back) (t := tX11_back) (anns := ca_X11_back_0) 1 xx11 pl11 rfl kX11_back qq_ok (cyB hv) (w9 cdB hv)
-- the reference's image and back
set_option maxRecDepth 100000 in
theorem hm_copies1 (l : Launch) (d : Nat) (ru ta : Nat) (rs : List XO) (I : XI) (J : XJ) (Rp : XR) (hR : Rp none (shH ru ta rs) (cI I 68 69 0 0 2200) J) : xm l (d + 1) 0 0 mX12_copies [.ref 67, .int 1] (shH ru ta rs) I J Rp := by
  refine xm_ofK 2201 (X := xxX12) (t := tX12_copies) (stop := [2]) (ini := false) xx12 pl12 rfl kX12_copies (fun h => by cases h) (Nat.le_of_ble_eq_true rfl) (fun K hK => ?_)
  have h := hm_copies_loop l d 68 69 1 (Or.inr ⟨by decide, rfl, rfl⟩) ru ta rs I J Rp hR 2200 0 2201 (by omega) (by omega)
  rw [cI_zero] at h
  exact hK _ _ _ _ _ _ _ _ h
set_option maxRecDepth 100000 in
theorem hm_copies0 (l : Launch) (d : Nat) (ru ta : Nat) (rs : List XO) (I : XI) (J : XJ) (Rp : XR) (hR : Rp none (shH ru ta rs) (cI I 69 68 0 0 2200) J) : xm l (d + 1) 0 0 mX12_copies [.ref 67, .int 0] (shH ru ta rs) I J Rp := by
  refine xm_ofK 2201 (X := xxX12) (t := tX12_copies) (stop := [2]) (ini := false) xx12 pl12 rfl kX12_copies (fun h => by cases h) (Nat.le_of_ble_eq_true rfl) (fun K hK => ?_)
  have h := hm_copies_loop l d 69 68 0 (Or.inl ⟨rfl, rfl, rfl⟩) ru ta rs I J Rp hR 2200 0 2201 (by omega) (by omega)
  rw [cI_zero] at h
  exact hK _ _ _ _ _ _ _ _ h
set_option maxRecDepth 100000 in
theorem m_image_x (l : Launch) (d : Nat) (ru ta : Nat) (rs : List XO) (I : XI) (J : XJ) (Rp : XR) (hR : ∀ r : Int32, Rp (some (.int r)) (shH ru ta rs) (cI I 68 69 0 0 2200) J) : xm l (d + 2) 0 0 mX12_image [.ref 67] (shH ru ta rs) I J Rp := by
  refine xm_ofK 0 (X := xxX12) (t := tX12_image) (stop := []) (ini := false) xx12 pl12 rfl kX12_image (fun h => by cases h) (Nat.le_of_ble_eq_true rfl) (fun K hK => ?_)
  refine hm_copies1 l d ru ta rs I J _ ?_
  exact And.intro (vp_b (by decide)) (hR _)
set_option maxRecDepth 100000 in
theorem m_back_x (l : Launch) (d : Nat) (ru ta : Nat) (rs : List XO) (I : XI) (J : XJ) (Rp : XR) (hR : ∀ r : Int32, Rp (some (.int r)) (shH ru ta rs) (cI I 69 68 0 0 2200) J) : xm l (d + 2) 0 0 mX12_back [.ref 67] (shH ru ta rs) I J Rp := by
  refine xm_ofK 0 (X := xxX12) (t := tX12_back) (stop := []) (ini := false) xx12 pl12 rfl kX12_back (fun h => by cases h) (Nat.le_of_ble_eq_true rfl) (fun K hK => ?_)
  refine hm_copies0 l d ru ta rs I J _ ?_
  exact And.intro (vp_b (by decide)) (hR _)
theorem cI_686 (I : XI) : cI I 68 69 0 0 2200 69 6 = I 68 6 := by
  rw [cI_eq]
  simp only [va_cpy]
  rw [if_pos (by omega)]
theorem cI_696 (I : XI) : cI I 69 68 0 0 2200 68 6 = I 69 6 := by
  rw [cI_eq]
  simp only [va_cpy]
  rw [if_pos (by omega)]
theorem iv_cB {I : XI} (h : ivO CF [] I) : ivO CF [] (cI I 69 68 0 0 2200) := by
  intro q k hn
  by_cases e : q = 68
  · subst e
    rw [cI_eq]
    simp only [va_cpy]
    by_cases hk : 0 ≤ k ∧ k < 0 + 2200
    · rw [if_pos hk, show 0 + (k - 0) = k by omega, ← cell_6 k]
      exact h 69 k rfl
    · rw [if_neg hk]
      exact h 68 k rfl
  · rw [cI_ne e]
    exact h q k hn
theorem qq_cI {I : XI} {q p sp dp n : Nat} (hp : nmem p QPl = false) (h : QQ I) : QQ (cI I q p sp dp n) := qq_ok I _ (fun r hr => cI_ne (fun z => by
  subst z
  rw [nmem_of hr] at hp
  cases hp)) h
-- need, on both sides
abbrev okN (day feet : Int32) (m : Nat) : Prop := (0 ≤ day ∧ day ≤ 999) ∧ (1 ≤ feet ∧ feet ≤ 999) ∧ m < 8
set_option maxRecDepth 100000 in
set_option maxHeartbeats 1000000 in
theorem c_need (l : Launch) (d m : Nat) (hm : m < 9) (day feet : Int32) (ru ta : Nat) (rs : List XO) (I : XI) (J : XJ) (Rp : XR) (e : I 0 7 = nI m) (h0 : day = -1 → Rp (some (.int 0)) (shH ru ta rs) (uI I 0 7 0) J) (h1 : ¬ day = -1 → ¬ okN day feet m → Rp (some (.int (-2))) (shH ru ta rs) I J) (h2 : ¬ day = -1 → okN day feet m → Rp (some (.int (nI (m + 1)))) (shH ru ta rs) (uI (uI (uI I 3 m day) 4 m feet) 0 7 (nI (m + 1))) J) : xm l (d + 2) 0 0 mX11_need [.ref 0, .int day, .int feet] (shH ru ta rs) I J Rp := by
  refine xm_ofK 0 (X := xxX11) (t := tX11_need) (stop := []) (ini := false) xx11 pl11 rfl kX11_need (fun h => by cases h) (Nat.le_of_ble_eq_true rfl) (fun K hK => ?_)
  refine And.intro (fun hd => ?_) (fun hd => h0 hd)
  have bad := h1 hd
  by_cases c1 : 0 ≤ day ∧ day ≤ 999
  · refine c_within_t l d day 0 999 _ _ _ _ c1.1 c1.2 ?_
    refine And.intro (fun h => absurd h (show ¬ ((1 : Int32) = (0 : Int32)) by decide)) (fun _ => ?_)
    by_cases c2 : 1 ≤ feet ∧ feet ≤ 999
    · refine c_within_t l d feet 1 999 _ _ _ _ c2.1 c2.2 ?_
      refine And.intro (fun h => absurd h (show ¬ ((1 : Int32) = (0 : Int32)) by decide)) (fun _ => ?_)
      refine And.intro (fun hlt => ?_) (fun hge => ?_)
      · have hlt : I 0 7 < nI 8 := hlt
        rw [e] at hlt
        have h8 : m < 8 := (nI_ltI (by omega) (by omega)).mp hlt
        have v8 : vp_in (I 0 7) 8 := by rw [e]; exact vp_in_nI h8 (by omega)
        refine And.intro v8 (And.intro v8 ?_)
        have y := h2 hd ⟨c1, c2, h8⟩
        show Rp (some (.int (I 0 7 + nI 1))) (shH ru ta rs) (uI (uI (uI I 3 (I 0 7).toNatClampNeg day) 4 (I 0 7).toNatClampNeg feet) 0 7 (I 0 7 + nI 1)) J
        rw [e, nI_clamp (by omega), nI_add]
        exact y
      · refine bad (fun z => hge ?_)
        show I 0 7 < nI 8
        rw [e]
        exact nI_lt z.2.2 (by omega)
    · refine c_within_f l d feet 1 999 _ _ _ _ c2 ?_
      refine And.intro (fun _ => ?_) (fun h => absurd (show ((0 : Int32) = (0 : Int32)) by decide) h)
      exact bad (fun z => c2 z.2.1)
  · refine c_within_f l d day 0 999 _ _ _ _ c1 ?_
    refine And.intro (fun _ => ?_) (fun h => absurd (show ((0 : Int32) = (0 : Int32)) by decide) h)
    exact bad (fun z => c1 z.1)
set_option maxRecDepth 100000 in
set_option maxHeartbeats 1000000 in
theorem m_need (l : Launch) (d m : Nat) (hm : m < 9) (day feet : Int32) (ru ta : Nat) (rs : List XO) (I : XI) (J : XJ) (Rp : XR) (e : I 68 6 = nI m) (h0 : day = -1 → Rp (some (.int 0)) (shH ru ta rs) (uI I 68 6 0) J) (h1 : ¬ day = -1 → ¬ okN day feet m → Rp (some (.int (-2))) (shH ru ta rs) I J) (h2 : ¬ day = -1 → okN day feet m → Rp (some (.int (nI (m + 1)))) (shH ru ta rs) (uI (uI (uI I 68 (42 + 2 * m) day) 68 (43 + 2 * m) feet) 68 6 (nI (m + 1))) J) : xm l (d + 2) 0 0 mX12_need [.ref 67, .int day, .int feet] (shH ru ta rs) I J Rp := by
  have v6 : vp_in (6 : Int32) 2200 := vp_b (by decide)
  have eA : (42 : Int32) + 2 * I 68 6 = nI (42 + 2 * m) := by rw [e, show (42 : Int32) = nI 42 from rfl, show (2 : Int32) = nI 2 from rfl, nI_mul, nI_add]
  have eA2 : ((42 : Int32) + 2 * I 68 6).toNatClampNeg = 42 + 2 * m := by rw [eA, nI_clamp (by omega)]
  have e1 : uI I 68 ((42 : Int32) + 2 * I 68 6).toNatClampNeg day 68 6 = nI m := by rw [uI_atC, eA2, if_neg (by omega)]; exact e
  have eB : (42 : Int32) + 2 * uI I 68 ((42 : Int32) + 2 * I 68 6).toNatClampNeg day 68 6 + 1 = nI (43 + 2 * m) := by rw [e1, show (42 : Int32) = nI 42 from rfl, show (2 : Int32) = nI 2 from rfl, nI_mul, nI_add, nI_1, show 42 + 2 * m + 1 = 43 + 2 * m by omega]
  refine xm_ofK 0 (X := xxX12) (t := tX12_need) (stop := []) (ini := false) xx12 pl12 rfl kX12_need (fun h => by cases h) (Nat.le_of_ble_eq_true rfl) (fun K hK => ?_)
  refine And.intro (fun hd => ?_) (fun hd => And.intro v6 (h0 hd))
  have bad := h1 hd
  by_cases c1 : 0 ≤ day ∧ day ≤ 999
  · refine m_in_t l d day 0 999 _ _ _ _ c1.1 c1.2 ?_
    refine And.intro (fun h => absurd h (show ¬ ((1 : Int32) = (0 : Int32)) by decide)) (fun _ => ?_)
    by_cases c2 : 1 ≤ feet ∧ feet ≤ 999
    · refine m_in_t l d feet 1 999 _ _ _ _ c2.1 c2.2 ?_
      refine And.intro (fun h => absurd h (show ¬ ((1 : Int32) = (0 : Int32)) by decide)) (fun _ => ?_)
      refine And.intro v6 (And.intro (fun hne => ?_) (fun heq => ?_))
      · have h8 : m < 8 := by
          rcases Nat.lt_or_ge m 8 with z | z
          · exact z
          · exfalso
            refine hne ?_
            show I 68 6 = nI 8
            rw [e, show m = 8 by omega]
        have vA : vp_in ((42 : Int32) + 2 * I 68 6) 2200 := by rw [eA]; exact vp_in_nI (by omega) (by omega)
        have vB : vp_in ((42 : Int32) + 2 * uI I 68 ((42 : Int32) + 2 * I 68 6).toNatClampNeg day 68 6 + 1) 2200 := by rw [eB]; exact vp_in_nI (by omega) (by omega)
        have y := h2 hd ⟨c1, c2, h8⟩
        have e2 : uI (uI I 68 (42 + 2 * m) day) 68 (43 + 2 * m) feet 68 6 = nI m := by rw [uI_atC, if_neg (by omega), uI_atC, if_neg (by omega)]; exact e
        refine And.intro v6 (And.intro vA (And.intro v6 (And.intro vB (And.intro v6 (And.intro v6 (And.intro v6 ?_))))))
        show Rp (some (.int (uI (uI I 68 ((42 : Int32) + 2 * I 68 6).toNatClampNeg day) 68 ((42 : Int32) + 2 * uI I 68 ((42 : Int32) + 2 * I 68 6).toNatClampNeg day 68 6 + 1).toNatClampNeg feet 68 6 + nI 1))) (shH ru ta rs) (uI (uI (uI I 68 ((42 : Int32) + 2 * I 68 6).toNatClampNeg day) 68 ((42 : Int32) + 2 * uI I 68 ((42 : Int32) + 2 * I 68 6).toNatClampNeg day 68 6 + 1).toNatClampNeg feet) 68 6 (uI (uI I 68 ((42 : Int32) + 2 * I 68 6).toNatClampNeg day) 68 ((42 : Int32) + 2 * uI I 68 ((42 : Int32) + 2 * I 68 6).toNatClampNeg day 68 6 + 1).toNatClampNeg feet 68 6 + nI 1)) J
        rw [eB, nI_clamp (by omega), eA2, e2, nI_add]
        exact y
      · refine bad (fun z => ?_)
        have heq : I 68 6 = nI 8 := heq
        rw [e] at heq
        have := nI_small heq (by omega) (by omega)
        omega
    · refine m_in_f l d feet 1 999 _ _ _ _ c2 ?_
      refine And.intro (fun _ => ?_) (fun h => absurd (show ((0 : Int32) = (0 : Int32)) by decide) h)
      exact bad (fun z => c2 z.2.1)
  · refine m_in_f l d day 0 999 _ _ _ _ c1 ?_
    refine And.intro (fun _ => ?_) (fun h => absurd (show ((0 : Int32) = (0 : Int32)) by decide) h)
    exact bad (fun z => c1 z.1)
theorem cell_34 : (CFc.all fun q => !(Nat.beq q.1 3) && !(Nat.beq q.1 4)) = true ∧ xlk CFr 3 = none ∧ xlk CFr 4 = none := by decide +kernel
theorem cell_n34 {p k : Nat} (hp : p = 3 ∨ p = 4) : cellI CF p k = fr := by
  unfold cellI
  split
  · rename_i q e
    exfalso
    have hm := List.mem_of_find?_eq_some e
    have hq := List.find?_some e
    simp only [Bool.and_eq_true] at hq
    have e1 := Nat.eq_of_beq_eq_true hq.1
    have y := List.all_eq_true.mp cell_34.1 q hm
    rw [e1] at y
    rcases hp with rfl | rfl
    · exact absurd y (by decide)
    · exact absurd y (by decide)
  · split
    · rename_i r e
      rcases hp with rfl | rfl
      · have y := cell_34.2.1.symm.trans e
        cases y
      · have y := cell_34.2.2.symm.trans e
        cases y
    · rfl
theorem cell_n68 : ((List.range 18).all fun j => decide (cellI CF 68 (42 + j) = fr)) = true := by decide +kernel
theorem cell_nd {k : Nat} (h1 : 42 ≤ k) (h2 : k < 60) : cellI CF 68 k = fr := by
  have y := of_decide_eq_true (List.all_eq_true.mp cell_n68 (k - 42) (List.mem_range.mpr (by omega)))
  rw [show 42 + (k - 42) = k by omega] at y
  exact y
