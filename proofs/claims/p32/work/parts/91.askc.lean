-- ===== what is asked of things, reapers, bales, barns: both sides =====
theorem CA.n {I I' : XI} {ru : Nat} {L : Lws} {A : Ast} (h : CA I ru L A) (f : ∀ q, q ≠ 24 → I' q = I q) : CA I' ru L A := by
  obtain ⟨hc, hr, hn, first, hfi, e1, e2, hst⟩ := h
  refine ⟨hc.fc (fun q a b c d => f q c), by rw [f 27 (by decide)]; exact hr, hn, first, hfi, by rw [f 1 (by decide)]; exact e1, by rw [f 1 (by decide)]; exact e2, fun k hk => ?_⟩
  rw [f 2 (by decide)]
  exact hst k hk
theorem MA.n {I I1 I2 : XI} {L : Lws} {A : Ast} (h : MA I L A) (f : F93 I I1) (e1 : I1 93 = oW A) (g : ∀ q, q ≠ 91 → I2 q = I1 q) : MA I2 L A := h.f2 f e1 (F93.n g) (g 93 (by decide))
theorem MA.srm {I I1 : XI} {L : Lws} {A : Ast} (h : MA I L A) (hw : WR (oW A)) (f : F93 I I1) (e1 : I1 93 = oW A) : SRm I1 (oQ A) L (nW (oW A)) (oW A 67) := by
  have s := (h.1.keep f).srm (by rw [e1]; exact hw)
  rw [e1] at s
  exact s
def swS (ys : List Int32) (y : Int32) : Nat → Int32
  | k => match ys with
    | [] => -1
    | v :: vs => if y = nI k then v else swS vs y (k + 1)
def ofT (L : Lws) (A : Ast) (t : Nat) (y : Int32) : Int32 := swS [nI (qH (oQ A) t), nI (qK (oQ A) t), nI (qO (oQ A) t), oW A t, nI (lgR (oQ A) L (oW A) t), nI (grR (oQ A) L (oW A) t), if maR (oQ A) L (oW A) t (lgR (oQ A) L (oW A) t) = true then 1 else 0] y 0
def ofS (L : Lws) (A : Ast) (x y : Int32) : Int32 := if vIn x (qT (oQ A)) = true then ofT L A x.toNatClampNeg y else -1
def orT (A : Ast) (r : Nat) (y : Int32) : Int32 := swS [nI (qC (oQ A) r), nI 1 - oW A (8 + r), oW A (12 + r)] y 0
def orS (A : Ast) (x y : Int32) : Int32 := if vIn x (qR (oQ A)) = true then orT A x.toNatClampNeg y else -1
def blT (L : Lws) (A : Ast) (b : Nat) (y : Int32) : Int32 := swS [oW A (16 + b), oW A (28 + b), oW A (40 + b), oW A (52 + b), nI (spR L (oW A) b), nI (seR L (oW A) b)] y 0
def blS (L : Lws) (A : Ast) (x y : Int32) : Int32 := if (vIn x 12 && decide (0 < oW A (28 + x.toNatClampNeg))) = true then blT L A x.toNatClampNeg y else -1
def obT (A : Ast) (b : Nat) (y : Int32) : Int32 := swS [nI (qM (oQ A) b), feR (oW A) (nI b) 12] y 0
def obS (A : Ast) (x y : Int32) : Int32 := if vIn x (qB (oQ A)) = true then obT A x.toNatClampNeg y else -1
theorem sw_y {v : Int32} {vs : List Int32} {y : Int32} {k : Nat} (h : y = nI k) : swS (v :: vs) y k = v := if_pos h
theorem sw_n {v : Int32} {vs : List Int32} {y : Int32} {k : Nat} (h : ¬ y = nI k) : swS (v :: vs) y k = swS vs y (k + 1) := if_neg h
set_option maxRecDepth 100000 in
set_option maxHeartbeats 4000000 in
theorem cd_of (l : Launch) (d : Nat) (ru ta : Nat) (rs : List XO) (I : XI) (J : XJ) (Rp : XR) (L : Lws) (A : Ast) (hA : AOK A) (h : CA I ru L A) (x y : Int32) (hR : ∀ (I' : XI) (J' : XJ), FCl I I' → CA I' ru L A → Rp (some (.int (ofS L A x y))) (shH ru ta rs) I' J') : xm l (d + 8) 0 0 mX11_of [.ref 0, .int x, .int y] (shH ru ta rs) I J Rp := by
  have h0 := h
  obtain ⟨hc, hr, hs⟩ := h
  obtain ⟨hq, hw, hn, hf⟩ := hA
  have t8 := hq.1
  have r4 := hq.2.1
  have b4 := hq.2.2.1
  refine xm_ofK 0 (X := xxX11) (t := tX11_of) (stop := []) (ini := false) xx11 pl11 rfl kX11_of (fun h => by cases h) (Nat.le_of_ble_eq_true rfl) (fun K hK => ?_)
  refine cc_hasThing l (d + 6) ru ta rs I J _ (oQ A) L hc x (fun b hb ex => ?_) (fun hn => ?_)
  · refine And.intro (fun _ => ?_) (fun z => absurd (show (1 : Int32) = 0 from z) (by decide))
    have eS : ofS L A x y = ofT L A b y := by
      subst ex
      unfold ofS
      rw [nI_clamp (by omega), vIn_n (by omega) hb]
      rfl
    have fin : ∀ (v : Int32) (I' : XI) (J' : XJ), ofT L A b y = v → (∀ q, q ≠ 24 → I' q = I q) → Rp (some (.int v)) (shH ru ta rs) I' J' := fun v I' J' e f => by
      have z := hR I' J' (fun q _ _ _ d _ => f q d) (h0.n f)
      rw [eS, e] at z
      exact z
    subst ex
    refine And.intro (fun (z0 : y = nI 0) => ?_) (fun (z0 : ¬ y = nI 0) => ?_)
    · have e : I 13 b = nI (qH (oQ A) b) := (hc.1.2.2.2.1 b hb).1
      refine And.intro (show vp_in (nI b) 8 from vp_in_nI (by omega) (by omega)) ?_
      have ib : (nI b).toNatClampNeg = b := nI_clamp (by omega)
      have z := fin _ I J (by unfold ofT; rw [sw_y z0]) (fun _ _ => rfl)
      rw [← e, ← ib] at z
      exact z
    refine And.intro (fun (z1 : y = nI 1) => ?_) (fun (z1 : ¬ y = nI 1) => ?_)
    · have e : I 14 b = nI (qK (oQ A) b) := (hc.1.2.2.2.1 b hb).2.1
      refine And.intro (show vp_in (nI b) 8 from vp_in_nI (by omega) (by omega)) ?_
      have ib : (nI b).toNatClampNeg = b := nI_clamp (by omega)
      have z := fin _ I J (by unfold ofT; rw [sw_n z0, sw_y z1]) (fun _ _ => rfl)
      rw [← e, ← ib] at z
      exact z
    refine And.intro (fun (z2 : y = nI 2) => ?_) (fun (z2 : ¬ y = nI 2) => ?_)
    · have e : I 15 b = nI (qO (oQ A) b) := (hc.1.2.2.2.1 b hb).2.2
      refine And.intro (show vp_in (nI b) 8 from vp_in_nI (by omega) (by omega)) ?_
      have ib : (nI b).toNatClampNeg = b := nI_clamp (by omega)
      have z := fin _ I J (by unfold ofT; rw [sw_n z0, sw_n z1, sw_y z2]) (fun _ _ => rfl)
      rw [← e, ← ib] at z
      exact z
    refine And.intro (fun (z3 : y = nI 3) => ?_) (fun (z3 : ¬ y = nI 3) => ?_)
    · have e : I 27 (0 + b) = oW A b := by rw [Nat.zero_add]; exact hr.t hb (by omega)
      refine And.intro (show vp_in (nI 0 + nI b) 69 from vx_2 (by omega) (by omega)) ?_
      have ib : (nI 0 + nI b).toNatClampNeg = 0 + b := ix_c (by omega)
      have z := fin _ I J (by unfold ofT; rw [sw_n z0, sw_n z1, sw_n z2, sw_y z3]) (fun _ _ => rfl)
      rw [← e, ← ib] at z
      exact z
    refine And.intro (fun (z4 : y = nI 4) => ?_) (fun (z4 : ¬ y = nI 4) => ?_)
    · refine cw_shadow l (d + 3) ru ta rs I J _ (oQ A) L hc (oW A) hr hw b hb (fun I1 J1 f1 => ?_)
      exact fin _ I1 J1 (by unfold ofT; rw [sw_n z0, sw_n z1, sw_n z2, sw_n z3, sw_y z4]) f1
    refine And.intro (fun (z5 : y = nI 5) => ?_) (fun (z5 : ¬ y = nI 5) => ?_)
    · refine cw_grows l (d + 3) ru ta rs I J _ (oQ A) L hc (oW A) hr hw b hb (fun I1 J1 f1 => ?_)
      exact fin _ I1 J1 (by unfold ofT; rw [sw_n z0, sw_n z1, sw_n z2, sw_n z3, sw_n z4, sw_y z5]) f1
    refine And.intro (fun (z6 : y = nI 6) => ?_) (fun (z6 : ¬ y = nI 6) => ?_)
    · refine cw_shadow l (d + 3) ru ta rs I J _ (oQ A) L hc (oW A) hr hw b hb (fun I1 J1 f1 => ?_)
      refine cw_may l (d + 3) ru ta rs I1 J1 _ (oQ A) L (hc.fc (fun q a b c d => f1 q c)) (oW A) (by rw [f1 27 (by decide)]; exact hr) hw b _ hb (lgR_le hq hw hb) (fun I2 J2 e f2 => ?_) (fun I2 J2 e f2 => ?_)
      · refine And.intro (fun z => absurd (show (1 : Int32) = 0 from z) (by decide)) (fun _ => ?_)
        exact fin _ I2 J2 (by unfold ofT; rw [sw_n z0, sw_n z1, sw_n z2, sw_n z3, sw_n z4, sw_n z5, sw_y z6, if_pos e]; rfl) (fun q hq => (f2 q hq).trans (f1 q hq))
      · refine And.intro (fun _ => ?_) (fun z => absurd rfl z)
        exact fin _ I2 J2 (by unfold ofT; rw [sw_n z0, sw_n z1, sw_n z2, sw_n z3, sw_n z4, sw_n z5, sw_y z6, if_neg (by rw [e]; decide)]; rfl) (fun q hq => (f2 q hq).trans (f1 q hq))
    exact fin _ I J (by unfold ofT; rw [sw_n z0, sw_n z1, sw_n z2, sw_n z3, sw_n z4, sw_n z5, sw_n z6]; rfl) (fun _ _ => rfl)
  · refine And.intro (fun z => absurd rfl z) (fun _ => ?_)
    have z := hR I J FCl.rf h0
    have eS : ofS L A x y = -1 := by
      unfold ofS
      cases e : vIn x (qT (oQ A)) with
      | false => rfl
      | true =>
        obtain ⟨b, hb, ey, _⟩ := vIn_t (by omega) e
        exact absurd ey (hn b hb)
    rw [eS] at z
    exact z
set_option maxRecDepth 100000 in
set_option maxHeartbeats 4000000 in
theorem cd_ofReaper (l : Launch) (d : Nat) (ru ta : Nat) (rs : List XO) (I : XI) (J : XJ) (Rp : XR) (L : Lws) (A : Ast) (hA : AOK A) (h : CA I ru L A) (x y : Int32) (hR : ∀ (I' : XI) (J' : XJ), FCl I I' → CA I' ru L A → Rp (some (.int (orS A x y))) (shH ru ta rs) I' J') : xm l (d + 2) 0 0 mX11_ofReaper [.ref 0, .int x, .int y] (shH ru ta rs) I J Rp := by
  have h0 := h
  obtain ⟨hc, hr, hs⟩ := h
  obtain ⟨hq, hw, hn, hf⟩ := hA
  have t8 := hq.1
  have r4 := hq.2.1
  have b4 := hq.2.2.1
  refine xm_ofK 0 (X := xxX11) (t := tX11_ofReaper) (stop := []) (ini := false) xx11 pl11 rfl kX11_ofReaper (fun h => by cases h) (Nat.le_of_ble_eq_true rfl) (fun K hK => ?_)
  refine cc_hasReaper l (d + 0) ru ta rs I J _ (oQ A) L hc x (fun b hb ex => ?_) (fun hn => ?_)
  · refine And.intro (fun _ => ?_) (fun z => absurd (show (1 : Int32) = 0 from z) (by decide))
    have eS : orS A x y = orT A b y := by
      subst ex
      unfold orS
      rw [nI_clamp (by omega), vIn_n (by omega) hb]
      rfl
    have fin : ∀ (v : Int32) (I' : XI) (J' : XJ), orT A b y = v → (∀ q, q ≠ 24 → I' q = I q) → Rp (some (.int v)) (shH ru ta rs) I' J' := fun v I' J' e f => by
      have z := hR I' J' (fun q _ _ _ d _ => f q d) (h0.n f)
      rw [eS, e] at z
      exact z
    subst ex
    refine And.intro (fun (z0 : y = nI 0) => ?_) (fun (z0 : ¬ y = nI 0) => ?_)
    · have e : I 16 b = nI (qC (oQ A) b) := hc.1.2.2.2.2.1 b hb
      refine And.intro (show vp_in (nI b) 4 from vp_in_nI (by omega) (by omega)) ?_
      have ib : (nI b).toNatClampNeg = b := nI_clamp (by omega)
      have z := fin _ I J (by unfold orT; rw [sw_y z0]) (fun _ _ => rfl)
      rw [← e, ← ib] at z
      exact z
    refine And.intro (fun (z1 : y = nI 1) => ?_) (fun (z1 : ¬ y = nI 1) => ?_)
    · have e : I 27 (8 + b) = nI 1 - oW A (8 + b) := (hr.2.1 b (by omega)).1
      refine And.intro (show vp_in (nI 8 + nI b) 69 from vx_2 (by omega) (by omega)) ?_
      have ib : (nI 8 + nI b).toNatClampNeg = 8 + b := ix_c (by omega)
      have z := fin _ I J (by unfold orT; rw [sw_n z0, sw_y z1]) (fun _ _ => rfl)
      rw [← e, ← ib] at z
      exact z
    refine And.intro (fun (z2 : y = nI 2) => ?_) (fun (z2 : ¬ y = nI 2) => ?_)
    · have e : I 27 (12 + b) = oW A (12 + b) := (hr.2.1 b (by omega)).2
      refine And.intro (show vp_in (nI 12 + nI b) 69 from vx_2 (by omega) (by omega)) ?_
      have ib : (nI 12 + nI b).toNatClampNeg = 12 + b := ix_c (by omega)
      have z := fin _ I J (by unfold orT; rw [sw_n z0, sw_n z1, sw_y z2]) (fun _ _ => rfl)
      rw [← e, ← ib] at z
      exact z
    exact fin _ I J (by unfold orT; rw [sw_n z0, sw_n z1, sw_n z2]; rfl) (fun _ _ => rfl)
  · refine And.intro (fun z => absurd rfl z) (fun _ => ?_)
    have z := hR I J FCl.rf h0
    have eS : orS A x y = -1 := by
      unfold orS
      cases e : vIn x (qR (oQ A)) with
      | false => rfl
      | true =>
        obtain ⟨b, hb, ey, _⟩ := vIn_t (by omega) e
        exact absurd ey (hn b hb)
    rw [eS] at z
    exact z
set_option maxRecDepth 100000 in
set_option maxHeartbeats 4000000 in
theorem cd_bale (l : Launch) (d : Nat) (ru ta : Nat) (rs : List XO) (I : XI) (J : XJ) (Rp : XR) (L : Lws) (A : Ast) (hA : AOK A) (h : CA I ru L A) (x y : Int32) (hR : ∀ (I' : XI) (J' : XJ), FCl I I' → CA I' ru L A → Rp (some (.int (blS L A x y))) (shH ru ta rs) I' J') : xm l (d + 8) 0 0 mX11_bale [.ref 0, .int x, .int y] (shH ru ta rs) I J Rp := by
  have h0 := h
  obtain ⟨hc, hr, hs⟩ := h
  obtain ⟨hq, hw, hn, hf⟩ := hA
  have t8 := hq.1
  have r4 := hq.2.1
  have b4 := hq.2.2.1
  refine xm_ofK 0 (X := xxX11) (t := tX11_bale) (stop := []) (ini := false) xx11 pl11 rfl kX11_bale (fun h => by cases h) (Nat.le_of_ble_eq_true rfl) (fun K hK => ?_)
  refine cw_hasBale l (d + 6) ru ta rs I J _ (qT (oQ A)) (oW A) hr hw x (fun b hb ex hp => ?_) (fun hn => ?_)
  · refine And.intro (fun _ => ?_) (fun z => absurd (show (1 : Int32) = 0 from z) (by decide))
    have eS : blS L A x y = blT L A b y := by
      subst ex
      unfold blS
      rw [nI_clamp (by omega), vIn_n (by omega) hb, decide_eq_true hp]
      rfl
    have fin : ∀ (v : Int32) (I' : XI) (J' : XJ), blT L A b y = v → (∀ q, q ≠ 24 → I' q = I q) → Rp (some (.int v)) (shH ru ta rs) I' J' := fun v I' J' e f => by
      have z := hR I' J' (fun q _ _ _ d _ => f q d) (h0.n f)
      rw [eS, e] at z
      exact z
    subst ex
    refine And.intro (fun (z0 : y = nI 0) => ?_) (fun (z0 : ¬ y = nI 0) => ?_)
    · have e : I 27 (16 + b) = oW A (16 + b) := ((hr.2.2.1 b hb).2 hp).1
      refine And.intro (show vp_in (nI 16 + nI b) 69 from vx_2 (by omega) (by omega)) ?_
      have ib : (nI 16 + nI b).toNatClampNeg = 16 + b := ix_c (by omega)
      have z := fin _ I J (by unfold blT; rw [sw_y z0]) (fun _ _ => rfl)
      rw [← e, ← ib] at z
      exact z
    refine And.intro (fun (z1 : y = nI 1) => ?_) (fun (z1 : ¬ y = nI 1) => ?_)
    · have e : I 27 (28 + b) = oW A (28 + b) := (hr.2.2.1 b hb).1
      refine And.intro (show vp_in (nI 28 + nI b) 69 from vx_2 (by omega) (by omega)) ?_
      have ib : (nI 28 + nI b).toNatClampNeg = 28 + b := ix_c (by omega)
      have z := fin _ I J (by unfold blT; rw [sw_n z0, sw_y z1]) (fun _ _ => rfl)
      rw [← e, ← ib] at z
      exact z
    refine And.intro (fun (z2 : y = nI 2) => ?_) (fun (z2 : ¬ y = nI 2) => ?_)
    · have e : I 27 (40 + b) = oW A (40 + b) := ((hr.2.2.1 b hb).2 hp).2.1
      refine And.intro (show vp_in (nI 40 + nI b) 69 from vx_2 (by omega) (by omega)) ?_
      have ib : (nI 40 + nI b).toNatClampNeg = 40 + b := ix_c (by omega)
      have z := fin _ I J (by unfold blT; rw [sw_n z0, sw_n z1, sw_y z2]) (fun _ _ => rfl)
      rw [← e, ← ib] at z
      exact z
    refine And.intro (fun (z3 : y = nI 3) => ?_) (fun (z3 : ¬ y = nI 3) => ?_)
    · have e : I 27 (52 + b) = oW A (52 + b) := ((hr.2.2.1 b hb).2 hp).2.2
      refine And.intro (show vp_in (nI 52 + nI b) 69 from vx_2 (by omega) (by omega)) ?_
      have ib : (nI 52 + nI b).toNatClampNeg = 52 + b := ix_c (by omega)
      have z := fin _ I J (by unfold blT; rw [sw_n z0, sw_n z1, sw_n z2, sw_y z3]) (fun _ _ => rfl)
      rw [← e, ← ib] at z
      exact z
    refine And.intro (fun (z4 : y = nI 4) => ?_) (fun (z4 : ¬ y = nI 4) => ?_)
    · refine cw_spoils2 l (d + 3) ru ta rs I J _ (oQ A) L hc (oW A) hr hw b hb (fun _ I1 J1 f1 => ?_) (fun hnp => absurd hp hnp)
      exact fin _ I1 J1 (by unfold blT; rw [sw_n z0, sw_n z1, sw_n z2, sw_n z3, sw_y z4]) f1
    refine And.intro (fun (z5 : y = nI 5) => ?_) (fun (z5 : ¬ y = nI 5) => ?_)
    · refine cw_sells l (d + 3) ru ta rs I J _ (oQ A) L hc (oW A) hr hw b hb hp (fun I1 J1 f1 => ?_)
      exact fin _ I1 J1 (by unfold blT; rw [sw_n z0, sw_n z1, sw_n z2, sw_n z3, sw_n z4, sw_y z5]) f1
    exact fin _ I J (by unfold blT; rw [sw_n z0, sw_n z1, sw_n z2, sw_n z3, sw_n z4, sw_n z5]; rfl) (fun _ _ => rfl)
  · refine And.intro (fun z => absurd rfl z) (fun _ => ?_)
    have z := hR I J FCl.rf h0
    have eS : blS L A x y = -1 := by
      unfold blS
      cases e : vIn x 12 with
      | false => rfl
      | true =>
        obtain ⟨b, hb, ey, e2⟩ := vIn_t (by omega) e
        rw [e2, decide_eq_false (hn b hb ey)]
        rfl
    rw [eS] at z
    exact z
set_option maxRecDepth 100000 in
set_option maxHeartbeats 4000000 in
theorem cd_ofBarn (l : Launch) (d : Nat) (ru ta : Nat) (rs : List XO) (I : XI) (J : XJ) (Rp : XR) (L : Lws) (A : Ast) (hA : AOK A) (h : CA I ru L A) (x y : Int32) (hR : ∀ (I' : XI) (J' : XJ), FCl I I' → CA I' ru L A → Rp (some (.int (obS A x y))) (shH ru ta rs) I' J') : xm l (d + 2) 0 0 mX11_ofBarn [.ref 0, .int x, .int y] (shH ru ta rs) I J Rp := by
  have h0 := h
  obtain ⟨hc, hr, hs⟩ := h
  obtain ⟨hq, hw, hn, hf⟩ := hA
  have t8 := hq.1
  have r4 := hq.2.1
  have b4 := hq.2.2.1
  refine xm_ofK 0 (X := xxX11) (t := tX11_ofBarn) (stop := []) (ini := false) xx11 pl11 rfl kX11_ofBarn (fun h => by cases h) (Nat.le_of_ble_eq_true rfl) (fun K hK => ?_)
  refine cc_hasBarn l (d + 0) ru ta rs I J _ (oQ A) L hc x (fun b hb ex => ?_) (fun hn => ?_)
  · refine And.intro (fun _ => ?_) (fun z => absurd (show (1 : Int32) = 0 from z) (by decide))
    have eS : obS A x y = obT A b y := by
      subst ex
      unfold obS
      rw [nI_clamp (by omega), vIn_n (by omega) hb]
      rfl
    have fin : ∀ (v : Int32) (I' : XI) (J' : XJ), obT A b y = v → (∀ q, q ≠ 24 → I' q = I q) → Rp (some (.int v)) (shH ru ta rs) I' J' := fun v I' J' e f => by
      have z := hR I' J' (fun q _ _ _ d _ => f q d) (h0.n f)
      rw [eS, e] at z
      exact z
    subst ex
    refine And.intro (fun (z0 : y = nI 0) => ?_) (fun (z0 : ¬ y = nI 0) => ?_)
    · have e : I 17 b = nI (qM (oQ A) b) := hc.1.2.2.2.2.2 b hb
      refine And.intro (show vp_in (nI b) 4 from vp_in_nI (by omega) (by omega)) ?_
      have ib : (nI b).toNatClampNeg = b := nI_clamp (by omega)
      have z := fin _ I J (by unfold obT; rw [sw_y z0]) (fun _ _ => rfl)
      rw [← e, ← ib] at z
      exact z
    refine And.intro (fun (z1 : y = nI 1) => ?_) (fun (z1 : ¬ y = nI 1) => ?_)
    · refine cw_feetIn l d ru ta rs I J _ _ _ hr hw (nI b) (nI_ne1 (by omega)) ?_
      exact fin _ I J (by unfold obT; rw [sw_n z0, sw_y z1]) (fun _ _ => rfl)
    exact fin _ I J (by unfold obT; rw [sw_n z0, sw_n z1]; rfl) (fun _ _ => rfl)
  · refine And.intro (fun z => absurd rfl z) (fun _ => ?_)
    have z := hR I J FCl.rf h0
    have eS : obS A x y = -1 := by
      unfold obS
      cases e : vIn x (qB (oQ A)) with
      | false => rfl
      | true =>
        obtain ⟨b, hb, ey, _⟩ := vIn_t (by omega) e
        exact absurd ey (hn b hb)
    rw [eS] at z
    exact z
