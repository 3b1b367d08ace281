-- ===== image and back; end, fault, by =====
def ckT (v : Nat) : AK := (1, [.inr (.inl [6]), .inl ((v : Int), (v : Int)), .inl (.negSucc 0, .ofNat 3)], [6], false, [([((v : Int), (v : Int)), (.negSucc 0, .ofNat 3)], .inr (.inr 9), [(6, 8, ((v : Int), (v : Int)))])], [])
def ckN (v : Nat) : AK := (1, [.inr (.inl [6]), .inr (.inl [3]), .inr (.inl [4]), .inl (.ofNat 0, .ofNat 8)], [6, 10, 11], false, [([(.ofNat 0, .ofNat 8)], .inr (.inr 9), [(6, 8, ((v : Int), (v : Int)))])], [(6, 8, ((v : Int), (v : Int)))])
set_option maxRecDepth 100000 in
theorem cdT : ((List.range 5).all fun v => aChk QPl (CNr 0 12 v) (ckT v) cg_X1_keepTexts_0 xxX1 mX1_keepTexts tX1_keepTexts ca_X1_keepTexts_0 [] 1) = true := by decide +kernel
set_option maxRecDepth 100000 in
theorem cdN : ((List.range 5).all fun v => aChk QPl (CNr 0 12 v) (ckN v) cg_X1_keepNeeds_0 xxX1 mX1_keepNeeds tX1_keepNeeds ca_X1_keepNeeds_0 [] 1) = true := by decide +kernel
theorem ctT {v : Nat} (hv : v < 5) : ctrO QQ (CNr 0 12 v) (ckT v) mX1_keepTexts := chk_ok (Q := QQ) (QP := QPl) (C := (CNr 0 12 v)) (c := ckT v) (G := cg_X1_keepTexts_0) (X := xxX1) (M := mX1_keepTexts) (t := tX1_keepTexts) (anns := ca_X1_keepTexts_0) 1 xx1 pl1 rfl kX1_keepTexts qq_ok ctsO_nil (w5 cdT hv)
theorem ctN {v : Nat} (hv : v < 5) : ctrO QQ (CNr 0 12 v) (ckN v) mX1_keepNeeds := chk_ok (Q := QQ) (QP := QPl) (C := (CNr 0 12 v)) (c := ckN v) (G := cg_X1_keepNeeds_0) (X := xxX1) (M := mX1_keepNeeds) (t := tX1_keepNeeds) (anns := ca_X1_keepNeeds_0) 1 xx1 pl1 rfl kX1_keepNeeds qq_ok ctsO_nil (w5 cdN hv)
def cgI (v : Nat) : List (Nat × AK) := [(354, ck_X1_keepWorld_0), (358, ck_X1_keepTold_0), (361, ckT v), (365, ckN v)]
def ckI (v : Nat) : AK := (3, [.inr (.inl [0])], [6, 7, 8, 9, 10, 11], false, [([], .inl fr, [(6, 8, ((v : Int), (v : Int)))])], [])
set_option maxRecDepth 100000 in
theorem cdI : ((List.range 5).all fun v => aChk QPl (CNr 0 12 v) (ckI v) (cgI v) xxX11 mX11_image tX11_image ca_X11_image_0 [] 1) = true := by decide +kernel
theorem cyI {v : Nat} (hv : v < 5) : ctsO QQ (CNr 0 12 v) xxX11 (cgI v) := ctsO_cons rfl (cnr_lift nc_A hv ct_X1_keepWorld_0 rfl) (ctsO_cons rfl (cnr_lift nc_A hv ct_X1_keepTold_0 rfl) (ctsO_cons rfl (ctT hv) (ctsO_cons rfl (ctN hv) (ctsO_nil))))
theorem ctI {v : Nat} (hv : v < 5) : ctrO QQ (CNr 0 12 v) (ckI v) mX11_image := chk_ok (Q := QQ) (QP := QPl) (C := (CNr 0 12 v)) (c := ckI v) (G := cgI v) (X := xxX11) (M := mX11_image) (t := tX11_image) (anns := ca_X11_image_0) 1 xx11 pl11 rfl kX11_image qq_ok (cyI hv) (w5 cdI hv)
def ckS (v : Nat) : AK := (2, [.inr (.inl [0]), .inl (.negSucc 0, .ofNat 3)], [0], true, [([(.negSucc 0, .ofNat 3)], .inr (.inr 9), [(0, 12, ((v : Int), (v : Int)))])], [(0, 12, ((v : Int), (v : Int)))])
set_option maxRecDepth 100000 in
theorem cdS : ((List.range 5).all fun v => aChk QPl (CNr 6 8 v) (ckS v) cg_X11_setRule_0 xxX11 mX11_setRule tX11_setRule ca_X11_setRule_0 [] 1) = true := by decide +kernel
theorem ctS {v : Nat} (hv : v < 5) : ctrO QQ (CNr 6 8 v) (ckS v) mX11_setRule := chk_ok (Q := QQ) (QP := QPl) (C := (CNr 6 8 v)) (c := ckS v) (G := cg_X11_setRule_0) (X := xxX11) (M := mX11_setRule) (t := tX11_setRule) (anns := ca_X11_setRule_0) 1 xx11 pl11 rfl kX11_setRule qq_ok (ctsO_cons rfl (cnr_lift nc_C hv ct_X11_textAt_0 rfl) (ctsO_nil)) (w5 cdS hv)
def cgB (v : Nat) : List (Nat × AK) := [(369, ck_X1_giveWorld_0), (220, ckS v), (378, ck_X1_giveNeeds_0)]
def ckB (v : Nat) : AK := (3, [.inr (.inl [0])], [0, 1, 2, 3, 4, 12, 27], true, [([], .inl fr, [(0, 12, ((v : Int), (v : Int)))])], [])
set_option maxRecDepth 100000 in
theorem cdB : ((List.range 5).all fun v => aChk QPl (CNr 6 8 v) (ckB v) (cgB v) xxX11 mX11_back tX11_back ca_X11_back_0 [] 1) = true := by decide +kernel
theorem cyB {v : Nat} (hv : v < 5) : ctsO QQ (CNr 6 8 v) xxX11 (cgB v) := ctsO_cons rfl (cnr_lift nc_C hv ct_X1_giveWorld_0 rfl) (ctsO_cons rfl (ctS hv) (ctsO_cons rfl (cnr_lift nc_C hv ct_X1_giveNeeds_0 rfl) (ctsO_nil)))
theorem ctB {v : Nat} (hv : v < 5) : ctrO QQ (CNr 6 8 v) (ckB v) mX11_back := chk_ok (Q := QQ) (QP := QPl) (C := (CNr 6 8 v)) (c := ckB v) (G := cgB v) (X := xxX11) (M := mX11_back) (t := tX11_back) (anns := ca_X11_back_0) 1 xx11 pl11 rfl kX11_back qq_ok (cyB hv) (w5 cdB hv)
-- the reference's image and back
set_option maxRecDepth 100000 in
theorem hm_copies1 (l : Launch) (d : Nat) (ru ta : Nat) (rs : List XO) (I : XI) (J : XJ) (Rp : XR) (hR : Rp none (shH ru ta rs) (cI I 68 69 0 0 2200) J) : xm l (d + 1) 0 0 mX12_copies [.ref 67, .int 1] (shH ru ta rs) I J Rp := by
  refine xm_ofK 2201 (X := xxX12) (t := tX12_copies) (stop := [2]) (ini := false) xx12 pl12 rfl kX12_copies (fun h => by cases h) (Nat.le_of_ble_eq_true rfl) (fun K hK => ?_)
  have h := hm_copies_loop l d 68 69 1 (Or.inr ⟨by decide, rfl, rfl⟩) ru ta rs I J Rp hR 2200 0 2201 (by omega) (by omega)
  rw [cI_zero] at h
  exact hK _ _ _ _ _ _ _ _ h
set_option maxRecDepth 100000 in
theorem hm_copies0 (l : Launch) (d : Nat) (ru ta : Nat) (rs : List XO) (I : XI) (J : XJ) (Rp : XR) (hR : Rp none (shH ru ta rs) (cI I 69 68 0 0 2200) J) : xm l (d + 1) 0 0 mX12_copies [.ref 67, .int 0] (shH ru ta rs) I J Rp := by
  refine xm_ofK 2201 (X := xxX12) (t := tX12_copies) (stop := [2]) (ini := false) xx12 pl12 rfl kX12_copies (fun h => by cases h) (Nat.le_of_ble_eq_true rfl) (fun K hK => ?_)
  have h := hm_copies_loop l d 69 68 0 (Or.inl ⟨rfl, rfl, rfl⟩) ru ta rs I J Rp hR 2200 0 2201 (by omega) (by omega)
  rw [cI_zero] at h
  exact hK _ _ _ _ _ _ _ _ h
set_option maxRecDepth 100000 in
theorem m_image_x (l : Launch) (d : Nat) (ru ta : Nat) (rs : List XO) (I : XI) (J : XJ) (Rp : XR) (hR : ∀ r : Int32, Rp (some (.int r)) (shH ru ta rs) (cI I 68 69 0 0 2200) J) : xm l (d + 2) 0 0 mX12_image [.ref 67] (shH ru ta rs) I J Rp := by
  refine xm_ofK 0 (X := xxX12) (t := tX12_image) (stop := []) (ini := false) xx12 pl12 rfl kX12_image (fun h => by cases h) (Nat.le_of_ble_eq_true rfl) (fun K hK => ?_)
  refine hm_copies1 l d ru ta rs I J _ ?_
  exact And.intro (vp_b (by decide)) (hR _)
set_option maxRecDepth 100000 in
theorem m_back_x (l : Launch) (d : Nat) (ru ta : Nat) (rs : List XO) (I : XI) (J : XJ) (Rp : XR) (hR : ∀ r : Int32, Rp (some (.int r)) (shH ru ta rs) (cI I 69 68 0 0 2200) J) : xm l (d + 2) 0 0 mX12_back [.ref 67] (shH ru ta rs) I J Rp := by
  refine xm_ofK 0 (X := xxX12) (t := tX12_back) (stop := []) (ini := false) xx12 pl12 rfl kX12_back (fun h => by cases h) (Nat.le_of_ble_eq_true rfl) (fun K hK => ?_)
  refine hm_copies0 l d ru ta rs I J _ ?_
  exact And.intro (vp_b (by decide)) (hR _)
theorem cI_683 (I : XI) : cI I 68 69 0 0 2200 69 3 = I 68 3 := by
  rw [cI_eq]
  simp only [va_cpy]
  rw [if_pos (by omega)]
theorem cI_693 (I : XI) : cI I 69 68 0 0 2200 68 3 = I 69 3 := by
  rw [cI_eq]
  simp only [va_cpy]
  rw [if_pos (by omega)]
theorem iv_cB {I : XI} (h : ivO CF [] I) : ivO CF [] (cI I 69 68 0 0 2200) := by
  intro q k hn
  by_cases e : q = 68
  · subst e
    rw [cI_eq]
    simp only [va_cpy]
    by_cases hk : 0 ≤ k ∧ k < 0 + 2200
    · rw [if_pos hk, show 0 + (k - 0) = k by omega, ← cell_6 k]
      exact h 69 k rfl
    · rw [if_neg hk]
      exact h 68 k rfl
  · rw [cI_ne e]
    exact h q k hn
theorem qq_cI {I : XI} {q p sp dp n : Nat} (hp : nmem p QPl = false) (h : QQ I) : QQ (cI I q p sp dp n) := qq_ok I _ (fun r hr => cI_ne (fun z => by
  subst z
  rw [nmem_of hr] at hp
  cases hp)) h
-- end
set_option maxRecDepth 100000 in
theorem c_end (l : Launch) (d : Nat) (x : Int32) (ru ta : Nat) (rs : List XO) (I : XI) (J : XJ) (Rp : XR) (h1 : 0 ≤ x ∧ x ≤ I 30 1 → Rp (some (.int x)) (shH ru ta rs) (uI I 30 1 x) J) (h0 : ¬ (0 ≤ x ∧ x ≤ I 30 1) → Rp (some (.int (-1))) (shH ru ta rs) I J) : xm l (d + 2) 0 0 mX11_end [.ref 0, .int x] (shH ru ta rs) I J Rp := by
  refine xm_ofK 0 (X := xxX11) (t := tX11_end) (stop := []) (ini := false) xx11 pl11 rfl kX11_end (fun h => by cases h) (Nat.le_of_ble_eq_true rfl) (fun K hK => ?_)
  by_cases c : 0 ≤ x ∧ x ≤ I 30 1
  · refine c_within_t l d x 0 (I 30 1) _ _ _ _ c.1 c.2 ?_
    refine And.intro (fun _ => h1 c) (fun h => absurd h (show ¬ ((1 : Int32) = (0 : Int32)) by decide))
  · refine c_within_f l d x 0 (I 30 1) _ _ _ _ c ?_
    refine And.intro (fun h => absurd rfl h) (fun _ => h0 c)
set_option maxRecDepth 100000 in
theorem m_end (l : Launch) (d : Nat) (x : Int32) (ru ta : Nat) (rs : List XO) (I : XI) (J : XJ) (Rp : XR) (h1 : 0 ≤ x ∧ x ≤ I 67 3 → Rp (some (.int x)) (shH ru ta rs) (uI I 67 3 x) J) (h0 : ¬ (0 ≤ x ∧ x ≤ I 67 3) → Rp (some (.int (-1))) (shH ru ta rs) I J) : xm l (d + 2) 0 0 mX12_end [.ref 67, .int x] (shH ru ta rs) I J Rp := by
  refine xm_ofK 0 (X := xxX12) (t := tX12_end) (stop := []) (ini := false) xx12 pl12 rfl kX12_end (fun h => by cases h) (Nat.le_of_ble_eq_true rfl) (fun K hK => ?_)
  by_cases c : 0 ≤ x ∧ x ≤ I 67 3
  · refine m_in_t l d x 0 (I 67 3) _ _ _ _ c.1 c.2 ?_
    refine And.intro (fun _ => h1 c) (fun h => absurd h (show ¬ ((1 : Int32) = (0 : Int32)) by decide))
  · refine m_in_f l d x 0 (I 67 3) _ _ _ _ c ?_
    refine And.intro (fun h => absurd rfl h) (fun _ => h0 c)
-- fault
set_option maxRecDepth 100000 in
theorem c_fault (l : Launch) (d : Nat) (x : Int32) (ru ta : Nat) (rs : List XO) (I : XI) (J : XJ) (Rp : XR) (hn : I 35 6 = 0 → Rp (some (.int (-1))) (shH ru ta rs) I J) (h0 : ¬ I 35 6 = 0 → x = 0 → Rp (some (.int (I 35 7))) (shH ru ta rs) I J) (h1 : ¬ I 35 6 = 0 → x = 1 → Rp (some (.int (I 35 8))) (shH ru ta rs) I J) (h2 : ¬ I 35 6 = 0 → ¬ x = 0 → ¬ x = 1 → Rp (some (.int (-1))) (shH ru ta rs) I J) : xm l (d + 1) 0 0 mX11_fault [.ref 0, .int x] (shH ru ta rs) I J Rp := by
  refine xm_ofK 0 (X := xxX11) (t := tX11_fault) (stop := []) (ini := false) xx11 pl11 rfl kX11_fault (fun h => by cases h) (Nat.le_of_ble_eq_true rfl) (fun K hK => ?_)
  refine And.intro (fun r => ?_) (fun r => hn r)
  refine And.intro (fun e => h0 r e) (fun n0 => And.intro (fun e => h1 r e) (fun n1 => h2 r n0 n1))
set_option maxRecDepth 100000 in
theorem m_fault (l : Launch) (d : Nat) (x : Int32) (ru ta : Nat) (rs : List XO) (I : XI) (J : XJ) (Rp : XR) (h0 : x = 0 → Rp (some (.int (I 67 4))) (shH ru ta rs) I J) (h1 : x = 1 → Rp (some (.int (I 67 5))) (shH ru ta rs) I J) (h2 : ¬ x = 0 → ¬ x = 1 → Rp (some (.int (-1))) (shH ru ta rs) I J) : xm l (d + 1) 0 0 mX12_fault [.ref 67, .int x] (shH ru ta rs) I J Rp := by
  refine xm_ofK 0 (X := xxX12) (t := tX12_fault) (stop := []) (ini := false) xx12 pl12 rfl kX12_fault (fun h => by cases h) (Nat.le_of_ble_eq_true rfl) (fun K hK => ?_)
  refine And.intro (fun n0 => ?_) (fun e => h0 e)
  refine And.intro (fun n1 => h2 n0 n1) (fun e => h1 e)
-- by
abbrev ByI (x : Int32) (m : Nat) : Prop := -1 ≤ x ∧ x ≤ nI m - 1
set_option maxRecDepth 100000 in
set_option maxHeartbeats 1000000 in
theorem c_by (l : Launch) (d m : Nat) (hm : m < 5) (x : Int32) (ru ta : Nat) (rs : List XO) (I : XI) (J : XJ) (Rp : XR) (hs : shO CF (shH ru ta rs)) (hi : ivO CF [] I) (hq : QQ I) (e : I 0 12 = nI m) (h1 : ByI x m → ∀ (sh' : List XO) (I' : XI) (J' : XJ), shO CF sh' → ivO (CNr 0 12 m) [] I' → QQ I' → frO [0] I I' → Rp (some (.int 1)) sh' I' J') (h0 : ¬ ByI x m → Rp (some (.int 0)) (shH ru ta rs) I J) : xm l (d + 3) 0 0 mX11_by [.ref 0, .int x] (shH ru ta rs) I J Rp := by
  refine xm_ofK 0 (X := xxX11) (t := tX11_by) (stop := []) (ini := false) xx11 pl11 rfl kX11_by (fun h => by cases h) (Nat.le_of_ble_eq_true rfl) (fun K hK => ?_)
  show xm l (d + 2) 0 0 mX11_within [.int x, .int (-1), .int (I 0 12 - 1)] (shH ru ta rs) I J _
  rw [e]
  have hx : ivO (CNr 0 12 m) [] I := cnr_up nc_A hi (by rw [e]; exact nI_toInt (by omega))
  by_cases c : ByI x m
  · refine c_within_t l (d + 1) x (-1) (nI m - 1) _ _ _ _ c.1 c.2 ?_
    refine And.intro (fun _ => ?_) (fun h => absurd h (show ¬ ((1 : Int32) = (0 : Int32)) by decide))
    have cx : inI (.negSucc 0, .ofNat 3) x.toInt := by
      have a := Int32.le_iff_toInt_le.mp c.1
      have b := Int32.le_iff_toInt_le.mp c.2
      have t1 : (-1 : Int32).toInt = -1 := rfl
      have t2 : (nI m - 1).toInt = (m : Int) - 1 := by
        have t3 : (1 : Int32).toInt = 1 := rfl
        rw [i32_sub (by rw [nI_toInt (by omega), t3]; omega) (by rw [nI_toInt (by omega), t3]; omega), nI_toInt (by omega), t3]
      rw [t1] at a
      rw [t2] at b
      exact ⟨a, by
        show x.toInt ≤ 3
        omega⟩
    refine ctr_at (cv_X11_setRule_0 hm) (Nat.le_add_left 2 d) l _ I J [.ref 0, .int x] _ ⟨by decide, cx, trivial⟩ (fun e he => by cases he) hs hx hq ?_
    intro v1 sh1 I1 J1 g1 w1 i1 q1 f1 p1
    have p1 : v1 = none := by
      obtain ⟨P, hP, hp⟩ := p1
      have hP := List.mem_singleton.mp hP
      subst hP
      exact hp.2.1
    subst p1
    exact And.intro (Or.inr rfl) (h1 c sh1 I1 J1 g1 i1 q1 f1)
  · refine c_within_f l (d + 1) x (-1) (nI m - 1) _ _ _ _ c ?_
    refine And.intro (fun h => absurd rfl h) (fun _ => And.intro (Or.inl rfl) (h0 c))
set_option maxRecDepth 100000 in
set_option maxHeartbeats 1000000 in
theorem m_by (l : Launch) (d m : Nat) (hm : m < 5) (x : Int32) (ru ta : Nat) (rs : List XO) (I : XI) (J : XJ) (Rp : XR) (e : I 68 3 = nI m) (h1 : ByI x m → Rp (some (.int 1)) (shH ru ta rs) (uI I 68 4 x) J) (h0 : ¬ ByI x m → Rp (some (.int 0)) (shH ru ta rs) I J) : xm l (d + 2) 0 0 mX12_by [.ref 67, .int x] (shH ru ta rs) I J Rp := by
  have t1 : (-1 : Int32).toInt = -1 := rfl
  have t0 : (0 : Int32).toInt = 0 := rfl
  have t2 : (nI m - 1).toInt = (m : Int) - 1 := by
    have t3 : (1 : Int32).toInt = 1 := rfl
    rw [i32_sub (by rw [nI_toInt (by omega), t3]; omega) (by rw [nI_toInt (by omega), t3]; omega), nI_toInt (by omega), t3]
  have put : ByI x m → vp_in (4 : Int32) 2200 ∧ (((1 : Int32) = 0 ∨ (1 : Int32) = 1) ∧ Rp (some (.int 1)) (shH ru ta rs) (uI I 68 4 x) J) := fun c => ⟨vp_b (by decide), Or.inr rfl, h1 c⟩
  refine xm_ofK 0 (X := xxX12) (t := tX12_by) (stop := []) (ini := false) xx12 pl12 rfl kX12_by (fun h => by cases h) (Nat.le_of_ble_eq_true rfl) (fun K hK => ?_)
  refine And.intro (fun eq => ?_) (fun ne => ?_)
  · have eq : x = -1 := eq
    refine put ⟨?_, Int32.le_iff_toInt_le.mpr ?_⟩
    · rw [eq]
      exact Int32.le_refl _
    · rw [t2, eq, t1]
      omega
  · have ne : ¬ x = -1 := ne
    refine And.intro (vp_b (by decide)) ?_
    show xm l (d + 1) 0 0 mX12_in [.int x, .int 0, .int (I 68 3 - 1)] (shH ru ta rs) I J _
    rw [e]
    by_cases c : 0 ≤ x ∧ x ≤ nI m - 1
    · refine m_in_t l d x 0 (nI m - 1) _ _ _ _ c.1 c.2 ?_
      refine And.intro (fun _ => put ⟨?_, c.2⟩) (fun h => absurd h (show ¬ ((1 : Int32) = (0 : Int32)) by decide))
      have a := Int32.le_iff_toInt_le.mp c.1
      exact Int32.le_iff_toInt_le.mpr (by omega)
    · refine m_in_f l d x 0 (nI m - 1) _ _ _ _ c ?_
      refine And.intro (fun h => absurd rfl h) (fun _ => And.intro (Or.inl rfl) (h0 (fun y => ?_)))
      have a := Int32.le_iff_toInt_le.mp y.1
      refine c ⟨Int32.le_iff_toInt_le.mpr ?_, y.2⟩
      have z : x.toInt ≠ -1 := fun z => ne (Int32.toInt_inj.mp (z.trans t1.symm))
      omega
