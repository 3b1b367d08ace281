-- ===== most: the class =====
def jI (m : Int) : Int32 := Int32.ofInt m
theorem jI_nat (n : Nat) : jI (n : Int) = nI n := Int32.ofInt_eq_ofNat
theorem jI_to {m : Int} (h1 : -1 ≤ m) (h2 : m < 100000) : (jI m).toInt = m := Int32.toInt_ofInt_of_le (by omega) (by omega)
theorem jI_lt {m : Int} {v : Nat} (h1 : -1 ≤ m) (h2 : m < 100000) (hv : v < 100000) : (jI m < nI v ↔ m < (v : Int)) ∧ (nI v ≤ jI m ↔ (v : Int) ≤ m) := by
  rw [Int32.lt_iff_toInt_lt, Int32.le_iff_toInt_le, nI_toInt (by omega), jI_to h1 h2]
  exact ⟨Iff.rfl, Iff.rfl⟩
/-- a digit, as the class notes it -/
def thI (d : Nat) : Int32 := if d = 0 then nI 8 else nI (d - 1)
-- what isn't a thing
set_option maxRecDepth 100000 in
set_option maxHeartbeats 1000000 in
theorem cwg_cutLenN (l : Launch) (d : Nat) (ru ta : Nat) (rs : List XO) (I : XI) (J : XJ) (Rp : XR) (Q : Tld) (L : Lws) (h : CE I ru Q L) (x y z : Int32) (hx : ∀ t, t < qT Q → x ≠ nI t) (hR : Rp (some (.int (nI 0))) (shH ru ta rs) I J) : xm l (d + 5) 0 0 mX10_cutLength [.ref 28, .int x, .int y, .int z] (shH ru ta rs) I J Rp := by
  refine xm_ofK 0 (X := xxX10) (t := tX10_cutLength) (stop := []) (ini := false) xx10 pl10 rfl kX10_cutLength (fun h => by cases h) (Nat.le_of_ble_eq_true rfl) (fun K hK => ?_)
  refine cc_hasThing l (d + 3) ru ta rs I J _ Q L h x (fun t ht e => absurd e (hx t ht)) (fun _ => ?_)
  refine And.intro (fun _ => ?_) (fun z => absurd rfl z)
  exact hR
set_option maxRecDepth 100000 in
set_option maxHeartbeats 1000000 in
theorem cwg_cutOffN (l : Launch) (d : Nat) (ru ta : Nat) (rs : List XO) (I : XI) (J : XJ) (Rp : XR) (Q : Tld) (L : Lws) (h : CE I ru Q L) (x y z : Int32) (hx : ∀ t, t < qT Q → x ≠ nI t) (hR : ∀ v : Int32, Rp (some (.int v)) (shH ru ta rs) I J) : xm l (d + 6) 0 0 mX10_cutOff [.ref 28, .int x, .int y, .int z] (shH ru ta rs) I J Rp := by
  refine xm_ofK 0 (X := xxX10) (t := tX10_cutOff) (stop := []) (ini := false) xx10 pl10 rfl kX10_cutOff (fun h => by cases h) (Nat.le_of_ble_eq_true rfl) (fun K hK => ?_)
  refine cwg_cutLenN l d ru ta rs I J _ Q L h x y z hx ?_
  have sh : ∀ (Rq : XR), Rq (some (.int (nI 0))) (shH ru ta rs) I J → xm l (d + 5) 0 0 mX10_shadowOf [.ref 28, .int x] (shH ru ta rs) I J Rq := fun Rq hq => by
    refine xm_ofK 0 (X := xxX10) (t := tX10_shadowOf) (stop := []) (ini := false) xx10 pl10 rfl kX10_shadowOf (fun h => by cases h) (Nat.le_of_ble_eq_true rfl) (fun K hK => ?_)
    refine cc_hasThing l (d + 3) ru ta rs I J _ Q L h x (fun t ht e => absurd e (hx t ht)) (fun _ => ?_)
    refine And.intro (fun _ => ?_) (fun z => absurd rfl z)
    exact hq
  refine sh _ ?_
  refine And.intro (fun _ => ?_) (fun z => absurd (show nI 0 ≤ 0 from by decide) z)
  exact hR _
theorem cwg_cutOffV (l : Launch) (d : Nat) (ru ta : Nat) (rs : List XO) (I : XI) (J : XJ) (Rp : XR) (Q : Tld) (L : Lws) (h : CE I ru Q L) (w : Rw) (hr : RC (qT Q) w (I 29)) (hw : WR w) (v : Int32) (t : Nat) (ev : v = nI t) (r bn : Nat) (ht : t < qT Q) (hrr : r < qR Q) (hb : bn < qB Q) (hR : ∀ (I' : XI) (J' : XJ), F24 29 I I' → RC (qT Q) (cuR Q L w t r bn) (I' 29) → Rp (some (.int (bI (cuB Q L w t r bn)))) (shH ru ta rs) I' J') : xm l (d + 6) 0 0 mX10_cutOff [.ref 28, .int v, .int (nI r), .int (nI bn)] (shH ru ta rs) I J Rp := by
  subst ev
  exact cwg_cutOff l d ru ta rs I J Rp Q L h w hr hw t r bn ht hrr hb hR
theorem cwg_cutLenV (l : Launch) (d : Nat) (ru ta : Nat) (rs : List XO) (I : XI) (J : XJ) (Rp : XR) (Q : Tld) (L : Lws) (h : CE I ru Q L) (w : Rw) (hr : RC (qT Q) w (I 29)) (hw : WR w) (v : Int32) (t : Nat) (ev : v = nI t) (r bn : Nat) (ht : t < qT Q) (hrr : r < qR Q) (hb : bn < qB Q) (h1 : ∀ (I' : XI) (J' : XJ), cuOK Q L w t r bn = true → (∀ q, q ≠ 24 → I' q = I q) → Rp (some (.int (nI (cuL Q L w t r)))) (shH ru ta rs) I' J') (h0 : ∀ (I' : XI) (J' : XJ), cuOK Q L w t r bn = false → (∀ q, q ≠ 24 → I' q = I q) → Rp (some (.int (nI 0))) (shH ru ta rs) I' J') : xm l (d + 5) 0 0 mX10_cutLength [.ref 28, .int v, .int (nI r), .int (nI bn)] (shH ru ta rs) I J Rp := by
  subst ev
  exact cwg_cutLen2 l d ru ta rs I J Rp Q L h w hr hw t r bn ht hrr hb h1 h0
-- what a search leaves
def FwS (i : Nat) (I I' : XI) : Prop := (∀ q, q ≠ 24 → q ≠ 29 → (q < 36 ∨ 39 < q) → I' q = I q) ∧ (∀ k, k ≠ 4 → I' 36 k = I 36 k) ∧ (∀ p, p < i → I' 38 p = I 38 p) ∧ ∀ j, j < 69 * i → I' 37 j = I 37 j
theorem FwS.rf {i : Nat} {I : XI} : FwS i I I := ⟨fun _ _ _ _ => rfl, fun _ _ => rfl, fun _ _ => rfl, fun _ _ => rfl⟩
theorem FwS.tr {i : Nat} {I I1 I2 : XI} (h : FwS i I I1) (g : FwS i I1 I2) : FwS i I I2 := ⟨fun q a b c => (g.1 q a b c).trans (h.1 q a b c), fun k hk => (g.2.1 k hk).trans (h.2.1 k hk), fun p hp => (g.2.2.1 p hp).trans (h.2.2.1 p hp), fun j hj => (g.2.2.2 j hj).trans (h.2.2.2 j hj)⟩
theorem FwS.lo {i : Nat} {I I1 : XI} (h : FwS (i + 1) I I1) : FwS i I I1 := ⟨h.1, h.2.1, fun p hp => h.2.2.1 p (by omega), fun j hj => h.2.2.2 j (by omega)⟩
theorem FwS.w {i : Nat} {I I1 : XI} (h : F24 29 I I1) : FwS i I I1 := ⟨fun q a b _ => h q a b, fun k _ => by rw [h 36 (by decide) (by decide)], fun p _ => by rw [h 38 (by decide) (by decide)], fun j _ => by rw [h 37 (by decide) (by decide)]⟩
theorem FwS.ce {i : Nat} {I I1 : XI} {ru : Nat} {Q : Tld} {L : Lws} (f : FwS i I I1) (h : CE I ru Q L) : CE I1 ru Q L := h.keep (fun q hq => f.1 q (by omega) (by omega) (by omega))
/-- what the search knows at i: who cuts, where; the hours; what stands; the way so far -/
def MwS (Q : Tld) (r bn n i : Nat) (g : Nat → Nat) (a : Mac) (I : XI) : Prop := I 36 5 = nI r ∧ I 36 6 = nI (qC Q r) ∧ I 36 7 = nI bn ∧ I 36 8 = nI n ∧ (I 36 4 = jI a.1 ∧ -1 ≤ a.1 ∧ a.1 ≤ 1000) ∧ (0 ≤ a.1 → ∀ p, p < n → I 39 p = thI (a.2 p)) ∧ ∀ p, p < i → I 38 p = thI (g p)
theorem MwS.w {Q : Tld} {r bn n i : Nat} {g : Nat → Nat} {a : Mac} {I I1 : XI} (h : MwS Q r bn n i g a I) (f : ∀ q, q ≠ 24 → q ≠ 29 → q ≠ 37 → I1 q = I q) : MwS Q r bn n i g a I1 := by
  unfold MwS
  rw [f 36 (by decide) (by decide) (by decide), f 38 (by decide) (by decide) (by decide), f 39 (by decide) (by decide) (by decide)]
  exact h
theorem MwS.g {Q : Tld} {r bn n i : Nat} {g : Nat → Nat} {a : Mac} {I : XI} (h : MwS Q r bn n (i + 1) g a I) {g' : Nat → Nat} (e : ∀ p, p < i → g p = g' p) : MwS Q r bn n i g' a I := ⟨h.1, h.2.1, h.2.2.1, h.2.2.2.1, h.2.2.2.2.1, h.2.2.2.2.2.1, fun p hp => by rw [← e p hp]; exact h.2.2.2.2.2.2 p (by omega)⟩
/-- the thing of this hour is noted -/
theorem MwS.th {Q : Tld} {r bn n i : Nat} {g : Nat → Nat} {a : Mac} {I : XI} (h : MwS Q r bn n i g a I) (k : Nat) : MwS Q r bn n (i + 1) (upN g i k) a (uI I 38 i (thI k)) := by
  obtain ⟨h1, h2, h3, h4, h5, h6, h7⟩ := h
  have e36 : (uI I 38 i (thI k)) 36 = I 36 := uI_ne (by decide)
  have e39 : (uI I 38 i (thI k)) 39 = I 39 := uI_ne (by decide)
  unfold MwS
  rw [e36, e39]
  refine ⟨h1, h2, h3, h4, h5, h6, fun p hp => ?_⟩
  rw [uI_eq]
  unfold upN
  by_cases e : p = i
  · rw [e, upd_s, if_pos rfl]
  · rw [upd_n e, if_neg e]
    exact h7 p (by omega)
-- a way is looked at
set_option maxRecDepth 100000 in
set_option maxHeartbeats 1000000 in
theorem cd_consider (l : Launch) (d : Nat) (ru ta : Nat) (rs : List XO) (I : XI) (J : XJ) (Rp : XR) (Q : Tld) (r bn n : Nat) (g : Nat → Nat) (a : Mac) (hn : n ≤ 4) (h : MwS Q r bn n n g a I) (s : Nat) (hs : s ≤ 1000) (hR : ∀ I' : XI, (∀ q, q ≠ 36 → q ≠ 39 → I' q = I q) → (∀ k, k ≠ 4 → I' 36 k = I 36 k) → MwS Q r bn n n g (mlf s g a) I' → Rp none (shH ru ta rs) I' J) : xm l (d + 1) 0 0 mX3_consider [.ref 36, .int (nI s)] (shH ru ta rs) I J Rp := by
  obtain ⟨h1, h2, h3, h4, ⟨h5, b1, b2⟩, h6, h7⟩ := id h
  have lt := jI_lt (m := a.1) (v := s) b1 (by omega) (by omega)
  refine xm_ofK 0 (X := xxX3) (t := tX3_consider) (stop := []) (ini := false) xx3 pl3 rfl kX3_consider (fun h => by cases h) (Nat.le_of_ble_eq_true rfl) (fun K hK => ?_)
  refine And.intro (fun (z : nI s ≤ I 36 4) => ?_) (fun (z : ¬ nI s ≤ I 36 4) => ?_)
  · rw [h5, lt.2] at z
    have e : mlf s g a = a := if_neg (by omega)
    exact hR I (fun _ _ _ => rfl) (fun _ _ => rfl) (by rw [e]; exact h)
  · rw [h5, lt.2] at z
    have e : mlf s g a = ((s : Int), g) := if_pos (by omega)
    have z0 : (nI 0).toNatClampNeg = 0 := by decide
    have z4 : (nI 4).toNatClampNeg = 4 := by decide
    have q : ¬ nI 0 < 0 ∧ ¬ nI 0 < 0 ∧ ¬ nI 4 < 0 ∧ (nI 0).toNatClampNeg + (nI 4).toNatClampNeg ≤ 4 ∧ (nI 0).toNatClampNeg + (nI 4).toNatClampNeg ≤ 4 := ⟨by decide, by decide, by decide, by decide, by decide⟩
    refine And.intro q ?_
    show Rp none (shH ru ta rs) (cI (uI I 36 4 (nI s)) 38 39 (nI 0).toNatClampNeg (nI 0).toNatClampNeg (nI 4).toNatClampNeg) J
    rw [z0, z4]
    have k36 : ∀ k, (cI (uI I 36 4 (nI s)) 38 39 0 0 4) 36 k = upd (I 36) 4 (nI s) k := fun k => by rw [cI_ne (by decide), uI_eq]
    refine hR _ (fun q a b => by rw [cI_ne b, uI_ne a]) (fun k hk => by rw [k36, upd_n hk]) ?_
    rw [e]
    refine ⟨?_, ?_, ?_, ?_, ⟨?_, ?_, ?_⟩, fun _ p hp => ?_, fun p hp => ?_⟩
    · rw [k36, upd_n (by decide)]
      exact h1
    · rw [k36, upd_n (by decide)]
      exact h2
    · rw [k36, upd_n (by decide)]
      exact h3
    · rw [k36, upd_n (by decide)]
      exact h4
    · rw [k36, upd_s, jI_nat]
    · show (-1 : Int) ≤ (s : Int)
      omega
    · show (s : Int) ≤ 1000
      omega
    · rw [cI_eq, cp_lo (by omega), uI_ne (by decide)]
      exact h7 p hp
    · rw [cI_ne (by decide), uI_ne (by decide)]
      exact h7 p hp
theorem mv_le {Q : Tld} {L : Lws} {r bn : Nat} {w : Rw} {k : Nat} (hQ : TOK Q) (hr : r < qR Q) : mvV Q L r bn w k ≤ 99 := by
  have c := (hQ.2.2.2.2.1 r hr).2
  unfold mvV
  split
  · omega
  · split
    · unfold cuL
      split <;> omega
    · omega
abbrev mFk (Q : Tld) (L : Lws) (r bn m i : Nat) (w : Rw) (s : Nat) (g : Nat → Nat) : Nat → Mac → Mac := fun k => mRn Q L r bn (qT Q + 1) m (i + 1) (mvW Q L r bn w k) (s + mvV Q L r bn w k) (upN g i k)
abbrev mzr (l : Launch) (d : Nat) (ru ta : Nat) (rs : List XO) (J : XJ) (Rp : XR) (n pc i s c : Nat) (o5 o6 : Option Value) (I : XI) : Prop := xrun xxX3 none false false (shH ru ta rs).length 0 0 none l d tX3_search [72, 129, 176] Rp n pc [some (.ref 36), some (.int (nI i)), some (.int (nI s)), some (.int (nI 0)), some (.int (nI c)), o5, o6] [] (shH ru ta rs) I J 0 0
/-- the search at hours left is what it should be -/
def MSok (l : Launch) (ru ta : Nat) (rs : List XO) (Q : Tld) (L : Lws) (r bn n m : Nat) : Prop := ∀ (d i : Nat) (w : Rw) (s : Nat) (g : Nat → Nat) (a : Mac) (I : XI) (J : XJ) (Rp : XR), i + m + 1 = n → CE I ru Q L → MwS Q r bn n i g a I → RC (qT Q) w (I 29) → WR w → s ≤ 99 * i → (∀ (I' : XI) (J' : XJ), FwS i I I' → MwS Q r bn n i g (mRn Q L r bn (qT Q + 1) (m + 1) i w s g a) I' → Rp none (shH ru ta rs) I' J') → xm l (d + m + 7) 0 0 mX3_search [.ref 36, .int (nI i), .int (nI s)] (shH ru ta rs) I J Rp
/-- what a choice leaves: the row of this hour too -/
def FSb (i : Nat) (I I' : XI) : Prop := FwS i I I' ∧ ∀ j, j < 69 * (i + 1) → I' 37 j = I 37 j
theorem FSb.tr {i : Nat} {I I1 I2 : XI} (h : FSb i I I1) (g : FSb i I1 I2) : FSb i I I2 := ⟨h.1.tr g.1, fun j hj => (g.2 j hj).trans (h.2 j hj)⟩
theorem FSb.w {i : Nat} {I I1 : XI} (h : F24 29 I I1) : FSb i I I1 := ⟨FwS.w h, fun j _ => by rw [h 37 (by decide) (by decide)]⟩
theorem FSb.th {i : Nat} {I : XI} {v : Int32} : FSb i I (uI I 38 i v) := ⟨⟨fun q _ _ h => uI_ne (by omega), fun k _ => by rw [uI_ne (by decide)], fun p hp => by rw [uI_eq, upd_n (by omega)], fun j _ => by rw [uI_ne (by decide)]⟩, fun j _ => by rw [uI_ne (by decide)]⟩
def mfu : Nat → Nat
  | 0 => 1
  | _ + 1 => 2
/-- behind a choice that counts: its hours, then the next choice -/
def MStl (l : Launch) (ru ta : Nat) (rs : List XO) (Q : Tld) (L : Lws) (r bn n m D : Nat) : Prop := ∀ (i : Nat) (w : Rw) (s : Nat) (g : Nat → Nat) (a : Mac) (I : XI) (J : XJ) (Rp : XR) (c nn : Nat), i + m + 1 = n → CE I ru Q L → MwS Q r bn n i g a I → RC (qT Q) w (I 29) → WR w → s ≤ 99 * i → c ≤ qT Q → (0 < c → cuOK Q L w (c - 1) r bn = true) → (∀ (I' : XI) (J' : XJ), FSb i I I' → ((∀ j, j < 69 → I' 29 j = I' 37 (69 * i + j)) ∨ I' 29 = I 29) → MwS Q r bn n i g (mFk Q L r bn m i w s g c a) I' → mzr l D ru ta rs J' Rp nn 72 i s (c + 1) (some (.int (thI c))) (some (.int (nI (mvV Q L r bn w c)))) I') → mzr l D ru ta rs J Rp (nn + mfu m) 129 i s c (some (.int (thI c))) (some (.int (nI (mvV Q L r bn w c)))) I
set_option maxRecDepth 100000 in
set_option maxHeartbeats 4000000 in
theorem ms_tl0 (l : Launch) (ru ta : Nat) (rs : List XO) (Q : Tld) (L : Lws) (r bn n : Nat) (hr : r < qR Q) (hn : n ≤ 4) (d : Nat) : MStl l ru ta rs Q L r bn n 0 (d + 6) := by
  intro i w s g a I J Rp c nn hi hc hm hrc hw hs hcT hok H
  have ii : (nI i).toNatClampNeg = i := nI_clamp (by omega)
  have hv := mv_le (L := L) (bn := bn) (w := w) (k := c) hc.2.1 hr
  have m1 := hm.th c
  have e8 : (uI I 38 i (thI c)) 36 8 = nI n := m1.2.2.2.1
  have hin : i + 1 = n := by omega
  rw [hin] at m1
  refine xrun_step fun K hK => ?_
  refine And.intro (show vp_in (nI i) 4 from vp_in_nI (by omega) (by omega)) ?_
  refine And.intro (fun (z : ¬ nI i + nI 1 = (uI I 38 (nI i).toNatClampNeg (thI c)) 36 8) => ?_) (fun _ => ?_)
  · rw [ii, e8, nI_add, hin] at z
    exact absurd rfl z
  · refine (show xm l (d + 6) 0 0 mX3_consider [.ref 36, .int (nI s + nI (mvV Q L r bn w c))] (shH ru ta rs) (uI I 38 (nI i).toNatClampNeg (thI c)) J _ from ?_)
    rw [ii, nI_add]
    refine cd_consider l (d + 5) ru ta rs _ J _ Q r bn n (upN g i c) a hn m1 (s + mvV Q L r bn w c) (by omega) (fun I2 f2 k2 m2 => ?_)
    refine hK 72 [some (.ref 36), some (.int (nI i)), some (.int (nI s)), some (.int (nI 0)), some (.int (nI c + 1)), some (.int (thI c)), some (.int (nI (mvV Q L r bn w c)))] [] (shH ru ta rs) I2 J 0 0 ?_
    rw [nI_1]
    refine (H I2 J (FSb.th.tr ⟨⟨fun q _ _ h => f2 q (by omega) (by omega), k2, fun p _ => by rw [f2 38 (by decide) (by decide)], fun j _ => by rw [f2 37 (by decide) (by decide)]⟩, fun j _ => by rw [f2 37 (by decide) (by decide)]⟩) (Or.inr ?_) ?_)
    · rw [f2 29 (by decide) (by decide), uI_ne (by decide)]
    · rw [← hin] at m2
      rw [← hin]
      exact m2.g (fun p hp => if_neg (by omega))
/-- from the hour on: it passes, the hours left, the world back -/
theorem ms_176 (l : Launch) (ru ta : Nat) (rs : List XO) (Q : Tld) (L : Lws) (r bn n m : Nat) (hr : r < qR Q) (hn : n ≤ 4) (ih : MSok l ru ta rs Q L r bn n m) (d i : Nat) (w w' : Rw) (s : Nat) (g : Nat → Nat) (a : Mac) (I : XI) (J : XJ) (Rp : XR) (c nn : Nat) (hi : i + (m + 1) + 1 = n) (hc : CE I ru Q L) (hm : MwS Q r bn n (i + 1) (upN g i c) a I) (hrc : RC (qT Q) w' (I 29)) (hw : WR w') (hs : s ≤ 99 * i) (ew : ptR Q L 1 w' = mvW Q L r bn w c) (o5 : Option Value) (H : ∀ (I' : XI) (J' : XJ), FSb i I I' → (∀ j, j < 69 → I' 29 j = I' 37 (69 * i + j)) → MwS Q r bn n i g (mFk Q L r bn (m + 1) i w s g c a) I' → mzr l (d + m + 7) ru ta rs J' Rp nn 72 i s (c + 1) o5 (some (.int (nI (mvV Q L r bn w c)))) I') : mzr l (d + m + 7) ru ta rs J Rp (nn + 1) 176 i s c o5 (some (.int (nI (mvV Q L r bn w c)))) I := by
  have t8 := hc.2.1.1
  have hv := mv_le (L := L) (bn := bn) (w := w) (k := c) hc.2.1 hr
  have ei69 : nI i * nI 69 = nI (69 * i) := by rw [nI_mul, Nat.mul_comm]
  have z0 : (nI 0).toNatClampNeg = 0 := by decide
  have z69 : (nI 69).toNatClampNeg = 69 := by decide
  have zi : (nI (69 * i)).toNatClampNeg = 69 * i := nI_clamp (by omega)
  have w2 : WR (mvW Q L r bn w c) := by
    rw [← ew]
    exact hw.pt t8 1 _
  refine xrun_step fun K hK => ?_
  -- behind the hour
  have go : ∀ (I2 : XI) (J2 : XJ), F24 29 I I2 → RC (qT Q) (mvW Q L r bn w c) (I2 29) → ∀ Rq : XR, (∀ (I3 : XI) (J3 : XJ), FSb i I (cI I3 37 29 (69 * i) 0 69) → (∀ j, j < 69 → (cI I3 37 29 (69 * i) 0 69) 29 j = (cI I3 37 29 (69 * i) 0 69) 37 (69 * i + j)) → MwS Q r bn n i g (mFk Q L r bn (m + 1) i w s g c a) (cI I3 37 29 (69 * i) 0 69) → Rq none (shH ru ta rs) I3 J3) → xm l (d + m + 7) 0 0 mX3_search [.ref 36, .int (nI i + nI 1), .int (nI s + nI (mvV Q L r bn w c))] (shH ru ta rs) I2 J2 Rq := fun I2 J2 f2 r2 Rq hq => by
    rw [nI_add, nI_add]
    have c2 : CE I2 ru Q L := (FwS.w (i := 0) f2).ce hc
    refine ih d (i + 1) (mvW Q L r bn w c) (s + mvV Q L r bn w c) (upN g i c) a I2 J2 Rq (by omega) c2 (hm.w (fun q a b _ => f2 q a b)) r2 w2 (by omega) (fun I3 J3 f3 m3 => ?_)
    have e37 : (cI I3 37 29 (69 * i) 0 69) 37 = I3 37 := cI_ne (by decide)
    have q29 : ∀ q, q ≠ 29 → (cI I3 37 29 (69 * i) 0 69) q = I3 q := fun q hq => cI_ne hq
    refine hq I3 J3 ⟨⟨fun q a b h => (q29 q b).trans ((f3.1 q a b h).trans (f2 q a b)), fun k hk => by rw [q29 36 (by decide), f3.2.1 k hk, f2 36 (by decide) (by decide)], fun p hp => by rw [q29 38 (by decide), f3.2.2.1 p (by omega), f2 38 (by decide) (by decide)], fun j hj => by rw [e37, f3.2.2.2 j (by omega), f2 37 (by decide) (by decide)]⟩, fun j hj => by rw [e37, f3.2.2.2 j hj, f2 37 (by decide) (by decide)]⟩ (fun j hj => ?_) ?_
    · rw [e37, cI_eq]
      simp only [va_cpy]
      rw [if_pos (by omega)]
      first
        | (congr 1; omega)
        | congr 1
        | rfl
    · have m4 : MwS Q r bn n i g (mFk Q L r bn (m + 1) i w s g c a) I3 := m3.g (fun p hp => if_neg (by omega))
      unfold MwS at m4 ⊢
      rw [q29 36 (by decide), q29 38 (by decide), q29 39 (by decide)]
      exact m4
  have fin : ∀ (I3 : XI) (J3 : XJ), FSb i I (cI I3 37 29 (69 * i) 0 69) → (∀ j, j < 69 → (cI I3 37 29 (69 * i) 0 69) 29 j = (cI I3 37 29 (69 * i) 0 69) 37 (69 * i + j)) → MwS Q r bn n i g (mFk Q L r bn (m + 1) i w s g c a) (cI I3 37 29 (69 * i) 0 69) → (¬ nI i * nI 69 < 0 ∧ ¬ nI 0 < 0 ∧ ¬ nI 69 < 0 ∧ (nI i * nI 69).toNatClampNeg + (nI 69).toNatClampNeg ≤ 276 ∧ (nI 0).toNatClampNeg + (nI 69).toNatClampNeg ≤ 69) ∧ K 72 [some (.ref 36), some (.int (nI i)), some (.int (nI s)), some (.int (nI 0)), some (.int (nI c + 1)), o5, some (.int (nI (mvV Q L r bn w c)))] [] (shH ru ta rs) (cI I3 37 29 (nI i * nI 69).toNatClampNeg (nI 0).toNatClampNeg (nI 69).toNatClampNeg) J3 0 0 := fun I3 J3 f e m4 => by
    rw [ei69, zi, z0, z69]
    refine ⟨⟨nI_nn (by omega), by decide, by decide, by omega, by decide⟩, ?_⟩
    refine hK 72 _ [] (shH ru ta rs) _ J3 0 0 ?_
    rw [nI_1]
    exact H _ J3 f e m4
  refine cwg_passHour l (d + m + 2) ru ta rs I J _ Q L hc w' hrc hw (fun h I2 J2 f2 r2 => ?_) (fun h => ?_)
  · have ep : ptR Q L 1 w' = hrR Q L w' := if_pos h
    rw [← ep, ew] at r2
    refine go I2 J2 f2 r2 _ (fun I3 J3 f e m4 => ?_)
    exact fin I3 J3 f e m4
  · have ep : ptR Q L 1 w' = w' := if_neg (by rw [h]; decide)
    have r2 : RC (qT Q) (mvW Q L r bn w c) (I 29) := by
      rw [← ew, ep]
      exact hrc
    refine go I J F24.rf r2 _ (fun I3 J3 f e m4 => ?_)
    exact fin I3 J3 f e m4
set_option maxRecDepth 100000 in
set_option maxHeartbeats 4000000 in
theorem ms_tlS (l : Launch) (ru ta : Nat) (rs : List XO) (Q : Tld) (L : Lws) (r bn n m : Nat) (hr : r < qR Q) (hb : bn < qB Q) (hn : n ≤ 4) (ih : MSok l ru ta rs Q L r bn n m) (d : Nat) : MStl l ru ta rs Q L r bn n (m + 1) (d + m + 7) := by
  intro i w s g a I J Rp c nn hi hc hm hrc hw hs hcT hok H
  have ii : (nI i).toNatClampNeg = i := nI_clamp (by omega)
  have t8 := hc.2.1.1
  have m1 := hm.th c
  have f1 : FSb i I (uI I 38 i (thI c)) := FSb.th
  have c1 : CE (uI I 38 i (thI c)) ru Q L := f1.1.ce hc
  have r1 : RC (qT Q) w ((uI I 38 i (thI c)) 29) := by rw [uI_ne (by decide)]; exact hrc
  have e8 : (uI I 38 i (thI c)) 36 8 = nI n := m1.2.2.2.1
  have e5 : (uI I 38 i (thI c)) 36 5 = nI r := m1.1
  have e7 : (uI I 38 i (thI c)) 36 7 = nI bn := m1.2.2.1
  refine xrun_step fun K hK => ?_
  refine And.intro (show vp_in (nI i) 4 from vp_in_nI (by omega) (by omega)) ?_
  refine And.intro (fun _ => ?_) (fun (z : nI i + nI 1 = (uI I 38 (nI i).toNatClampNeg (thI c)) 36 8) => ?_)
  · refine (show xm l (d + m + 7) 0 0 mX10_cutOff [.ref 28, .int (thI c), .int ((uI I 38 (nI i).toNatClampNeg (thI c)) 36 5), .int ((uI I 38 (nI i).toNatClampNeg (thI c)) 36 7)] (shH ru ta rs) (uI I 38 (nI i).toNatClampNeg (thI c)) J _ from ?_)
    rw [ii, e5, e7]
    rcases Nat.eq_zero_or_pos c with c0 | cp
    · subst c0
      refine cwg_cutOffN l (d + m + 1) ru ta rs _ J _ Q L c1 (thI 0) (nI r) (nI bn) (fun t ht e => ?_) (fun v => ?_)
      · have := nI_inj (show nI 8 = nI t from e) (by omega) (by omega)
        omega
      · refine hK 176 [some (.ref 36), some (.int (nI i)), some (.int (nI s)), some (.int (nI 0)), some (.int (nI 0)), some (.int (thI 0)), some (.int (nI (mvV Q L r bn w 0)))] [] (shH ru ta rs) (uI I 38 i (thI 0)) J 0 0 ?_
        exact ms_176 l ru ta rs Q L r bn n m hr hn ih d i w w s g a _ J Rp 0 nn hi c1 m1 r1 hw hs rfl _ (fun I' J' f e m4 => H I' J' (f1.tr f) (Or.inl e) m4)
    · obtain ⟨t, rfl⟩ : ∃ t, c = t + 1 := ⟨c - 1, by omega⟩
      have hok := hok cp
      rw [Nat.add_sub_cancel] at hok
      have et : thI (t + 1) = nI t := by
        unfold thI
        rw [if_neg (by omega), Nat.add_sub_cancel]
      refine cwg_cutOffV l (d + m + 1) ru ta rs _ J _ Q L c1 w r1 hw (thI (t + 1)) t et r bn (by omega) hr hb (fun I2 J2 f2 r2 => ?_)
      have w2 : WR (cuR Q L w t r bn) := hw.cu hc.2.1 (by omega) hr hb
      refine hK 176 [some (.ref 36), some (.int (nI i)), some (.int (nI s)), some (.int (nI 0)), some (.int (nI (t + 1))), some (.int (thI (t + 1))), some (.int (nI (mvV Q L r bn w (t + 1))))] [] (shH ru ta rs) I2 J2 0 0 ?_
      have ew : ptR Q L 1 (cuR Q L w t r bn) = mvW Q L r bn w (t + 1) := by
        unfold mvW
        rw [if_neg (by omega), Nat.add_sub_cancel]
      have f12 : FSb i I I2 := f1.tr (FSb.w f2)
      exact ms_176 l ru ta rs Q L r bn n m hr hn ih d i w _ s g a I2 J2 Rp (t + 1) nn hi ((FwS.w (i := 0) f2).ce c1) (m1.w (fun q a b _ => f2 q a b)) r2 w2 hs ew _ (fun I' J' f e m4 => H I' J' (f12.tr f) (Or.inl e) m4)
  · rw [ii, e8, nI_add] at z
    exfalso
    have := nI_inj z (by omega) (by omega)
    omega
set_option maxRecDepth 100000 in
set_option maxHeartbeats 4000000 in
theorem ms_loop (l : Launch) (ru ta : Nat) (rs : List XO) (Q : Tld) (L : Lws) (r bn n m x : Nat) (hr : r < qR Q) (hb : bn < qB Q) (hn : n ≤ 4) (tl : MStl l ru ta rs Q L r bn n m (x + 5)) (i : Nat) (w : Rw) (s : Nat) (g : Nat → Nat) (a : Mac) (I : XI) (Rp : XR) (hi : i + m + 1 = n) (hc : CE I ru Q L) (hw : WR w) (hs : s ≤ 99 * i) (hrc : RC (qT Q) w (I 29)) (hR : ∀ (I' : XI) (J' : XJ), FwS i I I' → MwS Q r bn n i g (foN (mFk Q L r bn m i w s g) (qT Q + 1) a) I' → Rp none (shH ru ta rs) I' J') : ∀ (q c nn : Nat) (J1 : XJ) (I1 : XI) (o5 o6 : Option Value), c + q = 9 → 3 * q < nn → FwS i I I1 → (∀ j, j < 69 → I1 37 (69 * i + j) = I 29 j) → (∀ j, j < 69 → I1 29 j = I 29 j) → MwS Q r bn n i g (foN (mFk Q L r bn m i w s g) (if c < qT Q + 1 then c else qT Q + 1) a) I1 → mzr l (x + 5) ru ta rs J1 Rp nn 72 i s c o5 o6 I1 := by
  have t8 := hc.2.1.1
  intro q
  induction q with
  | zero =>
    intro c nn J1 I1 o5 o6 hq hnn f b37 b29 hm
    obtain ⟨nn, rfl⟩ : ∃ n', nn = n' + 1 := ⟨nn - 1, by omega⟩
    rw [if_neg (by omega)] at hm
    refine xrun_step fun K hK => ?_
    refine And.intro (fun _ => ?_) (fun z => absurd (show nI 8 < nI c from (nlt (by omega) (by omega)).mpr (by omega)) z)
    exact hR I1 J1 f hm
  | succ q ih =>
    intro c nn J1 I1 o5 o6 hq hnn f b37 b29 hm
    obtain ⟨nn, rfl⟩ : ∃ n', nn = n' + 1 + 1 + 1 := ⟨nn - 3, by omega⟩
    have c1 : CE I1 ru Q L := f.ce hc
    have r1 : RC (qT Q) w (I1 29) := hrc.cg (fun _ _ => rfl) b29
    have e5 : I1 36 5 = nI r := hm.1
    have e7 : I1 36 7 = nI bn := hm.2.2.1
    -- a choice that counts
    have cnt : c ≤ qT Q → (0 < c → cuOK Q L w (c - 1) r bn = true) → ∀ (I2 : XI) (J2 : XJ), (∀ q, q ≠ 24 → I2 q = I1 q) → mzr l (x + 5) ru ta rs J2 Rp (nn + 1 + 1) 129 i s c (some (.int (thI c))) (some (.int (nI (mvV Q L r bn w c)))) I2 := fun hcT hok I2 J2 f2 => by
      rw [if_pos (by omega)] at hm
      have f02 : FwS i I I2 := f.tr (FwS.w (fun q a _ => f2 q a))
      have nx : ∀ (k : Nat) (I' : XI) (J' : XJ), 3 * q < k → FSb i I2 I' → ((∀ j, j < 69 → I' 29 j = I' 37 (69 * i + j)) ∨ I' 29 = I2 29) → MwS Q r bn n i g (mFk Q L r bn m i w s g c (foN (mFk Q L r bn m i w s g) c a)) I' → mzr l (x + 5) ru ta rs J' Rp k 72 i s (c + 1) (some (.int (thI c))) (some (.int (nI (mvV Q L r bn w c)))) I' := fun k I' J' hk f' e' m' => by
        have p37 : ∀ j, j < 69 → I' 37 (69 * i + j) = I 29 j := fun j hj => by rw [f'.2 _ (by omega), f2 37 (by decide)]; exact b37 j hj
        refine ih (c + 1) k J' I' _ _ (by omega) hk (f02.tr f'.1) p37 (fun j hj => ?_) ?_
        · rcases e' with e' | e'
          · rw [e' j hj]
            exact p37 j hj
          · rw [e', f2 29 (by decide)]
            exact b29 j hj
        · by_cases y : c + 1 < qT Q + 1
          · rw [if_pos y]
            exact m'
          · rw [if_neg y, show qT Q + 1 = c + 1 by omega]
            exact m'
      have m2 : MwS Q r bn n i g (foN (mFk Q L r bn m i w s g) c a) I2 := hm.w (fun q a _ _ => f2 q a)
      have r2 : RC (qT Q) w (I2 29) := by rw [f2 29 (by decide)]; exact r1
      have c2 : CE I2 ru Q L := f02.ce hc
      cases m with
      | zero => exact tl i w s g _ I2 J2 Rp c (nn + 1) hi c2 m2 r2 hw hs hcT hok (fun I' J' f' e' m' => nx (nn + 1) I' J' (by omega) f' e' m')
      | succ m => exact tl i w s g _ I2 J2 Rp c nn hi c2 m2 r2 hw hs hcT hok (fun I' J' f' e' m' => nx nn I' J' (by omega) f' e' m')
    -- a choice that is passed over
    have skp : MwS Q r bn n i g (foN (mFk Q L r bn m i w s g) (if c + 1 < qT Q + 1 then c + 1 else qT Q + 1) a) I1 → ∀ (I2 : XI) (J2 : XJ) (o5 o6 : Option Value), (∀ q, q ≠ 24 → I2 q = I1 q) → mzr l (x + 5) ru ta rs J2 Rp (nn + 1 + 1) 72 i s (c + 1) o5 o6 I2 := fun m1 I2 J2 o5 o6 f2 => by
      refine ih (c + 1) (nn + 1 + 1) J2 I2 o5 o6 (by omega) (by omega) (f.tr (FwS.w (fun q a _ => f2 q a))) (fun j hj => by rw [f2 37 (by decide)]; exact b37 j hj) (fun j hj => by rw [f2 29 (by decide)]; exact b29 j hj) (m1.w (fun q a _ _ => f2 q a))
    refine xrun_step fun K hK => ?_
    refine And.intro (fun z => absurd ((nlt (by omega) (by omega)).mp (show nI 8 < nI c from z)) (by omega)) (fun _ => ?_)
    refine And.intro (fun (z : ¬ nI c = 0) => ?_) (fun (z : nI c = 0) => ?_)
    · have cp : 0 < c := by
        rcases Nat.eq_zero_or_pos c with e | p
        · exact absurd (by rw [e]; rfl) z
        · exact p
      have ev : nI c - nI 1 = nI (c - 1) := nI_subI cp (by omega)
      have n8 : ¬ nI c - nI 1 = nI 8 := fun y => by
        rw [ev] at y
        have := nI_inj y (by omega) (by omega)
        omega
      refine (show xm l (x + 5) 0 0 mX10_cutLength [.ref 28, .int (nI c - nI 1), .int (I1 36 5), .int (I1 36 7)] (shH ru ta rs) I1 J1 _ from ?_)
      rw [e5, e7]
      by_cases hT : c ≤ qT Q
      · refine cwg_cutLenV l x ru ta rs I1 J1 _ Q L c1 w r1 hw (nI c - nI 1) (c - 1) ev r bn (by omega) hr hb (fun I2 J2 ok f2 => ?_) (fun I2 J2 ok f2 => ?_)
        · have cl := cuL_c (L := L) hc.2.1 hw (show c - 1 < qT Q by omega) hr
          have lg : ¬ cuL Q L w (c - 1) r = 0 := fun y => by
            have y := cl.2.mp y
            unfold cuOK at ok
            rw [y] at ok
            simp at ok
          have l99 := (cuL_eq (L := L) hc.2.1 hw (show c - 1 < qT Q by omega) hr).2.1
          have k := cnt hT (fun _ => ok) I2 J2 f2
          have e1 : thI c = nI c - nI 1 := by
            rw [ev]
            exact if_neg (by omega)
          have e2 : mvV Q L r bn w c = cuL Q L w (c - 1) r := by
            unfold mvV
            rw [if_neg (by omega), if_pos ok]
          rw [e1, e2] at k
          refine And.intro (fun y => absurd y n8) (fun _ => ?_)
          refine And.intro (fun _ => ?_) (fun (y : nI (cuL Q L w (c - 1) r) = 0) => absurd ((neq0 (by omega)).mp y) lg)
          exact hK 129 [some (.ref 36), some (.int (nI i)), some (.int (nI s)), some (.int (nI 0)), some (.int (nI c)), some (.int (nI c - nI 1)), some (.int (nI (cuL Q L w (c - 1) r)))] [] (shH ru ta rs) I2 J2 0 0 k
        · have m1 : MwS Q r bn n i g (foN (mFk Q L r bn m i w s g) (if c + 1 < qT Q + 1 then c + 1 else qT Q + 1) a) I1 := by
            rw [if_pos (by omega)] at hm
            have y : foN (mFk Q L r bn m i w s g) (c + 1) a = foN (mFk Q L r bn m i w s g) c a := mRn_skip cp ok
            have y2 : (if c + 1 < qT Q + 1 then c + 1 else qT Q + 1) = c + 1 := by
              split <;> omega
            rw [y2, y]
            exact hm
          refine And.intro (fun y => absurd y n8) (fun _ => ?_)
          refine And.intro (fun y => absurd (show nI 0 = 0 from rfl) y) (fun _ => ?_)
          refine hK 72 [some (.ref 36), some (.int (nI i)), some (.int (nI s)), some (.int (nI 0)), some (.int (nI c + 1)), some (.int (nI c - nI 1)), some (.int (nI 0))] [] (shH ru ta rs) I2 J2 0 0 ?_
          rw [nI_1]
          exact skp m1 I2 J2 _ _ f2
      · refine cwg_cutLenN l x ru ta rs I1 J1 _ Q L c1 (nI c - nI 1) (nI r) (nI bn) (fun t ht e => ?_) ?_
        · rw [ev] at e
          have := nI_inj e (by omega) (by omega)
          omega
        · have m1 : MwS Q r bn n i g (foN (mFk Q L r bn m i w s g) (if c + 1 < qT Q + 1 then c + 1 else qT Q + 1) a) I1 := by
            rw [if_neg (by omega)] at hm ⊢
            exact hm
          refine And.intro (fun y => absurd y n8) (fun _ => ?_)
          refine And.intro (fun y => absurd (show nI 0 = 0 from rfl) y) (fun _ => ?_)
          refine hK 72 [some (.ref 36), some (.int (nI i)), some (.int (nI s)), some (.int (nI 0)), some (.int (nI c + 1)), some (.int (nI c - nI 1)), some (.int (nI 0))] [] (shH ru ta rs) I1 J1 0 0 ?_
          rw [nI_1]
          exact skp m1 I1 J1 _ _ (fun _ _ => rfl)
    · have c0 : c = 0 := nI_inj (b := 0) z (by omega) (by omega)
      subst c0
      refine (show xm l (x + 5) 0 0 mX10_cutLength [.ref 28, .int (nI 8), .int (I1 36 5), .int (I1 36 7)] (shH ru ta rs) I1 J1 _ from ?_)
      refine cwg_cutLenN l x ru ta rs I1 J1 _ Q L c1 (nI 8) _ _ (fun t ht e => ?_) ?_
      · have := nI_inj e (by omega) (by omega)
        omega
      · refine And.intro (fun _ => ?_) (fun y => absurd (show nI 8 = nI 8 from rfl) y)
        exact hK 129 [some (.ref 36), some (.int (nI i)), some (.int (nI s)), some (.int (nI 0)), some (.int (nI 0)), some (.int (nI 8)), some (.int (nI 0))] [] (shH ru ta rs) I1 J1 0 0 (cnt (Nat.zero_le _) (fun h => absurd h (Nat.lt_irrefl 0)) I1 J1 (fun _ _ => rfl))
set_option maxRecDepth 100000 in
set_option maxHeartbeats 4000000 in
theorem ms_one (l : Launch) (ru ta : Nat) (rs : List XO) (Q : Tld) (L : Lws) (r bn n m x : Nat) (hr : r < qR Q) (hb : bn < qB Q) (hn : n ≤ 4) (tl : MStl l ru ta rs Q L r bn n m (x + 5)) (i : Nat) (w : Rw) (s : Nat) (g : Nat → Nat) (a : Mac) (I : XI) (J : XJ) (Rp : XR) (hi : i + m + 1 = n) (hc : CE I ru Q L) (hm : MwS Q r bn n i g a I) (hrc : RC (qT Q) w (I 29)) (hw : WR w) (hs : s ≤ 99 * i) (hR : ∀ (I' : XI) (J' : XJ), FwS i I I' → MwS Q r bn n i g (mRn Q L r bn (qT Q + 1) (m + 1) i w s g a) I' → Rp none (shH ru ta rs) I' J') : xm l (x + 5 + 1) 0 0 mX3_search [.ref 36, .int (nI i), .int (nI s)] (shH ru ta rs) I J Rp := by
  obtain ⟨h1, h2, h3, h4, ⟨h5, b1, b2⟩, h6, h7⟩ := id hm
  have cr := (hc.2.1.2.2.2.2.1 r hr).2
  have ni : n - i ≤ 4 := by omega
  have mr : (n - i) * qC Q r ≤ 4 * 99 := Nat.mul_le_mul ni cr
  have ei69 : nI i * nI 69 = nI (69 * i) := by rw [nI_mul, Nat.mul_comm]
  have z0 : (nI 0).toNatClampNeg = 0 := by decide
  have z69 : (nI 69).toNatClampNeg = 69 := by decide
  have zi : (nI (69 * i)).toNatClampNeg = 69 * i := nI_clamp (by omega)
  have ex : nI s + (I 36 8 - nI i) * I 36 6 = nI (s + (n - i) * qC Q r) := by
    rw [h4, h2, nI_subI (by omega) (by omega), nI_mul, nI_add]
  have lt := jI_lt (m := a.1) (v := s + (n - i) * qC Q r) b1 (by omega) (by omega)
  refine xm_ofK 40 (X := xxX3) (t := tX3_search) (stop := [72, 129, 176]) (ini := false) xx3 pl3 rfl kX3_search (fun h => by cases h) (Nat.le_of_ble_eq_true rfl) (fun K hK => ?_)
  refine And.intro (fun (z : I 36 4 < nI s + (I 36 8 - nI i) * I 36 6) => ?_) (fun (z : ¬ I 36 4 < nI s + (I 36 8 - nI i) * I 36 6) => ?_)
  · refine And.intro (fun y => absurd (show nI i < 0 from y) (nI_nn (by omega))) (fun _ => ?_)
    refine And.intro (fun y => absurd ((nle (by omega) (by omega)).mp (show nI 4 ≤ nI i from y)) (by omega)) (fun _ => ?_)
    refine And.intro (fun y => absurd (show I 36 8 ≤ nI i from y) (by rw [h4]; exact nI_ge (by omega) (by omega))) (fun _ => ?_)
    refine And.intro (fun _ => ?_) (fun y => absurd (show nI 0 = 0 from rfl) y)
    have q : ¬ nI 0 < 0 ∧ ¬ nI i * nI 69 < 0 ∧ ¬ nI 69 < 0 ∧ (nI 0).toNatClampNeg + (nI 69).toNatClampNeg ≤ 69 ∧ (nI i * nI 69).toNatClampNeg + (nI 69).toNatClampNeg ≤ 276 := by
      rw [ei69, zi, z0, z69]
      exact ⟨by decide, nI_nn (by omega), by decide, by decide, by omega⟩
    refine And.intro q ?_
    refine hK 72 [some (.ref 36), some (.int (nI i)), some (.int (nI s)), some (.int (nI 0)), some (.int (nI 0)), none, none] [] (shH ru ta rs) (cI I 29 37 (nI 0).toNatClampNeg (nI i * nI 69).toNatClampNeg (nI 69).toNatClampNeg) J 0 0 ?_
    rw [ei69, zi, z0, z69]
    have qne : ∀ q, q ≠ 37 → (cI I 29 37 0 (69 * i) 69) q = I q := fun q hq => cI_ne hq
    have f0 : FwS i I (cI I 29 37 0 (69 * i) 69) := ⟨fun q _ _ h => qne q (by omega), fun k _ => by rw [qne 36 (by decide)], fun p _ => by rw [qne 38 (by decide)], fun j hj => by rw [cI_eq]; simp only [va_cpy]; rw [if_neg (by omega)]⟩
    refine ms_loop l ru ta rs Q L r bn n m x hr hb hn tl i w s g a I Rp hi hc hw hs hrc hR 9 0 40 J _ none none (by omega) (by omega) f0 (fun j hj => ?_) (fun j hj => by rw [qne 29 (by decide)]) ?_
    · rw [cI_eq]
      simp only [va_cpy]
      rw [if_pos (by omega)]
      congr 1
      omega
    · rw [if_pos (by omega)]
      unfold MwS
      rw [qne 36 (by decide), qne 38 (by decide), qne 39 (by decide)]
      exact hm
  · have b : ((s + (n - i) * qC Q r : Nat) : Int) ≤ a.1 := by
      rw [ex, h5] at z
      have := (not_congr lt.1).mp z
      omega
    have e : mRn Q L r bn (qT Q + 1) (m + 1) i w s g a = a := mRn_id (m + 1) i w s g a (mBd_mono (by rw [show n - i = m + 1 by omega] at b; exact b) (m + 1) w s (mBd_reach (m + 1) w s))
    rw [e] at hR
    refine And.intro (fun y => absurd (show nI i < 0 from y) (nI_nn (by omega))) (fun _ => ?_)
    refine And.intro (fun y => absurd ((nle (by omega) (by omega)).mp (show nI 4 ≤ nI i from y)) (by omega)) (fun _ => ?_)
    refine And.intro (fun y => absurd (show I 36 8 ≤ nI i from y) (by rw [h4]; exact nI_ge (by omega) (by omega))) (fun _ => ?_)
    refine And.intro (fun y => absurd (show nI 1 = 0 from y) (by decide)) (fun _ => ?_)
    exact hR I J FwS.rf hm
theorem ms_all (l : Launch) (ru ta : Nat) (rs : List XO) (Q : Tld) (L : Lws) (r bn n : Nat) (hr : r < qR Q) (hb : bn < qB Q) (hn : n ≤ 4) : ∀ m, MSok l ru ta rs Q L r bn n m
  | 0 => fun d i w s g a I J Rp hi hc hm hrc hw hs hR => ms_one l ru ta rs Q L r bn n 0 (d + 1) hr hb hn (ms_tl0 l ru ta rs Q L r bn n hr hn d) i w s g a I J Rp hi hc hm hrc hw hs hR
  | m + 1 => fun d i w s g a I J Rp hi hc hm hrc hw hs hR => by
    have y := ms_one l ru ta rs Q L r bn n (m + 1) (d + m + 2) hr hb hn (ms_tlS l ru ta rs Q L r bn n m hr hb hn (ms_all l ru ta rs Q L r bn n hr hb hn m) d) i w s g a I J Rp hi hc hm hrc hw hs hR
    rw [show d + m + 2 + 5 + 1 = d + (m + 1) + 7 by omega] at y
    exact y
/-- a search from the first hour -/
def moA (Q : Tld) (L : Lws) (w : Rw) (r bn n : Nat) : Mac := mRn Q L r bn (qT Q + 1) n 0 w 0 (fun _ => 0) (-1, fun _ => 0)
theorem mBd_s {Q : Tld} {L : Lws} {r bn B : Nat} (hB : 0 < B) {x : Int} : ∀ (m : Nat) (w : Rw) (s : Nat), mBd Q L r bn B m w s x → (s : Int) ≤ x
  | 0, _, _, h => h
  | m + 1, w, s, h => by
    have y := mBd_s hB m _ _ (h 0 hB)
    omega
theorem moA_0 (Q : Tld) (L : Lws) (w : Rw) (r bn n : Nat) : 0 ≤ (moA Q L w r bn n).1 := by
  have y := mBd_s (Nat.succ_pos _) n w 0 (mRn_bd (Q := Q) (L := L) (r := r) (bn := bn) (B := qT Q + 1) n 0 w 0 (fun _ => 0) (-1, fun _ => 0))
  exact y
def FM (I I' : XI) : Prop := ∀ q, q ≠ 24 → q ≠ 29 → (q < 36 ∨ 39 < q) → I' q = I q
set_option maxRecDepth 100000 in
set_option maxHeartbeats 4000000 in
theorem cd_start (l : Launch) (d : Nat) (ru ta : Nat) (rs : List XO) (Q : Tld) (L : Lws) (r bn n : Nat) (hr : r < qR Q) (hb : bn < qB Q) (h1 : 1 ≤ n) (hn : n ≤ 4) (w : Rw) (I : XI) (J : XJ) (Rp : XR) (hc : CE I ru Q L) (hrc : RC (qT Q) w (I 29)) (hw : WR w) (hR : ∀ (I' : XI) (J' : XJ), FM I I' → I' 36 4 = jI (moA Q L w r bn n).1 → (∀ p, p < n → I' 39 p = thI ((moA Q L w r bn n).2 p)) → Rp none (shH ru ta rs) I' J') : xm l (d + 11) 0 0 mX3_start [.ref 36, .int (nI r), .int (nI bn), .int (nI n)] (shH ru ta rs) I J Rp := by
  have r4 := hc.2.1.2.1
  obtain ⟨m, rfl⟩ : ∃ m, n = m + 1 := ⟨n - 1, by omega⟩
  have ir : (nI r).toNatClampNeg = r := nI_clamp (by omega)
  have ec : I 16 r = nI (qC Q r) := hc.1.2.2.2.2.1 r hr
  refine xm_ofK 0 (X := xxX3) (t := tX3_start) (stop := []) (ini := false) xx3 pl3 rfl kX3_start (fun h => by cases h) (Nat.le_of_ble_eq_true rfl) (fun K hK => ?_)
  refine (show xm l (d + 10) 0 0 mX9_hasReaper [.ref 12, .int (nI r)] (shH ru ta rs) (uI (uI I 36 4 (-1)) 36 5 (nI r)) J _ from ?_)
  refine cc_hasReaper l (d + 9) ru ta rs _ J _ Q L (hc.keep (fun q hq => by rw [uI_ne (by omega), uI_ne (by omega)])) (nI r) (fun t ht e => ?_) (fun hx => absurd rfl (hx r hr))
  refine And.intro (fun z => absurd (show (1 : Int32) = 0 from z) (by decide)) (fun _ => ?_)
  refine And.intro (show vp_in (nI r) 4 from vp_in_nI (by omega) (by omega)) ?_
  refine (show xm l (d + 10) 0 0 mX3_search [.ref 36, .int (nI 0), .int (nI 0)] (shH ru ta rs) (uI (uI (uI (uI (uI I 36 4 (-1)) 36 5 (nI r)) 36 6 (I 16 (nI r).toNatClampNeg)) 36 7 (nI bn)) 36 8 (nI (m + 1))) J _ from ?_)
  rw [ir, ec]
  have y := ms_all l ru ta rs Q L r bn (m + 1) hr hb hn m (d + (3 - m)) 0 w 0 (fun _ => 0) (-1, fun _ => 0) (uI (uI (uI (uI (uI I 36 4 (-1)) 36 5 (nI r)) 36 6 (nI (qC Q r))) 36 7 (nI bn)) 36 8 (nI (m + 1))) J
  rw [show d + (3 - m) + m + 7 = d + 10 by omega] at y
  have q36 : ∀ q, q ≠ 36 → (uI (uI (uI (uI (uI I 36 4 (-1)) 36 5 (nI r)) 36 6 (nI (qC Q r))) 36 7 (nI bn)) 36 8 (nI (m + 1))) q = I q := fun q hq => by rw [uI_ne hq, uI_ne hq, uI_ne hq, uI_ne hq, uI_ne hq]
  refine y _ (by omega) (hc.keep (fun q hq => q36 q (by omega))) ⟨?_, ?_, ?_, ?_, ⟨?_, Int.le_refl _, by decide⟩, fun z => absurd z (by decide), fun p hp => absurd hp (Nat.not_lt_zero p)⟩ (by rw [q36 29 (by decide)]; exact hrc) hw (Nat.zero_le _) (fun I' J' f m' => ?_)
  · rw [uI_atC, if_neg (by decide), uI_atC, if_neg (by decide), uI_atC, if_neg (by decide), uI_rd]
  · rw [uI_atC, if_neg (by decide), uI_atC, if_neg (by decide), uI_rd]
  · rw [uI_atC, if_neg (by decide), uI_rd]
  · rw [uI_rd]
  · rw [uI_atC, if_neg (by decide), uI_atC, if_neg (by decide), uI_atC, if_neg (by decide), uI_atC, if_neg (by decide), uI_rd]
    rfl
  · exact hR I' J' (fun q a b h => (f.1 q a b h).trans (q36 q (by omega))) m'.2.2.2.2.1.1 (m'.2.2.2.2.2.1 (moA_0 Q L w r bn (m + 1)))
def moS (L : Lws) (A : Ast) (x y z v : Int32) : Int32 := if (vIn x (qR (oQ A)) && vIn y (qB (oQ A)) && rIn z 1 4 && decide (-1 ≤ v ∧ v ≤ z - nI 1)) = true then (if v = -1 then jI (moA (oQ A) L (oW A) x.toNatClampNeg y.toNatClampNeg z.toNatClampNeg).1 else thI ((moA (oQ A) L (oW A) x.toNatClampNeg y.toNatClampNeg z.toNatClampNeg).2 v.toNatClampNeg)) else -1
theorem v_n {v : Int32} {n : Nat} (hn : n < 100) (h1 : -1 ≤ v) (h2 : v ≤ nI n) (h : ¬ v = -1) : ∃ k, k ≤ n ∧ v = nI k ∧ v.toNatClampNeg = k := by
  have a := Int32.le_iff_toInt_le.mp h1
  have b := Int32.le_iff_toInt_le.mp h2
  rw [nI_toInt (by omega)] at b
  rw [show (-1 : Int32).toInt = -1 from rfl] at a
  have c : ¬ v < 0 := fun z => by
    have z := Int32.lt_iff_toInt_lt.mp z
    rw [show (0 : Int32).toInt = 0 from rfl] at z
    have e : v.toInt = (-1 : Int32).toInt := by rw [show (-1 : Int32).toInt = -1 from rfl]; omega
    exact h (Int32.toInt_inj.mp e)
  obtain ⟨k, ek, hk⟩ := nn_of c
  rw [ek, nI_toInt (by omega)] at b
  exact ⟨k, by omega, ek, by rw [ek, nI_clamp (by omega)]⟩
set_option maxRecDepth 100000 in
set_option maxHeartbeats 4000000 in
theorem cd_most (l : Launch) (d : Nat) (ru ta : Nat) (rs : List XO) (I : XI) (J : XJ) (Rp : XR) (L : Lws) (A : Ast) (hA : AOK A) (h : CA I ru L A) (x y z v : Int32) (hR : ∀ (I' : XI) (J' : XJ), FM I I' → Rp (some (.int (moS L A x y z v))) (shH ru ta rs) I' J') : xm l (d + 12) 0 0 mX11_most [.ref 0, .int x, .int y, .int z, .int v] (shH ru ta rs) I J Rp := by
  have r4 := hA.1.2.1
  have b4 := hA.1.2.2.1
  have none_ : (vIn x (qR (oQ A)) && vIn y (qB (oQ A)) && rIn z 1 4 && decide (-1 ≤ v ∧ v ≤ z - nI 1)) = false → Rp (some (.int (-1))) (shH ru ta rs) I J := fun e => by
    have z := hR I J (fun _ _ _ _ => rfl)
    unfold moS at z
    rw [e] at z
    exact z
  refine xm_ofK 0 (X := xxX11) (t := tX11_most) (stop := []) (ini := false) xx11 pl11 rfl kX11_most (fun h => by cases h) (Nat.le_of_ble_eq_true rfl) (fun K hK => ?_)
  refine cc_hasReaper l (d + 10) ru ta rs I J _ (oQ A) L h.1 x (fun r hr ex => ?_) (fun hn => ?_)
  · refine And.intro (fun z => absurd (show (1 : Int32) = 0 from z) (by decide)) (fun _ => ?_)
    have hx : vIn x (qR (oQ A)) = true := by rw [ex]; exact vIn_n (by omega) hr
    refine cc_hasBarn l (d + 10) ru ta rs I J _ (oQ A) L h.1 y (fun bn hb ey => ?_) (fun hn => ?_)
    · refine And.intro (fun _ => ?_) (fun z => absurd (show (1 : Int32) = 0 from z) (by decide))
      have hy : vIn y (qB (oQ A)) = true := by rw [ey]; exact vIn_n (by omega) hb
      refine And.intro (fun z => absurd (show nI 0 = 0 from rfl) z) (fun _ => ?_)
      refine cd_in l (d + 10) z 1 4 _ _ _ _ (fun hz => ?_) (fun hz => ?_)
      · refine And.intro (fun z => absurd (show (1 : Int32) = 0 from z) (by decide)) (fun _ => ?_)
        obtain ⟨n, n1, n4, ez, ez2⟩ := rIn_t (by omega) (by omega) hz
        by_cases hv : -1 ≤ v ∧ v ≤ z - nI 1
        · refine c_within_t l (d + 10) v (-1) (z - nI 1) _ _ _ _ hv.1 hv.2 ?_
          refine And.intro (fun _ => ?_) (fun z => absurd (show (1 : Int32) = 0 from z) (by decide))
          have eS : moS L A x y z v = (if v = -1 then jI (moA (oQ A) L (oW A) r bn n).1 else thI ((moA (oQ A) L (oW A) r bn n).2 v.toNatClampNeg)) := by
            unfold moS
            rw [hx, hy, hz, decide_eq_true hv, ex, ey, ez2, nI_clamp (by omega), nI_clamp (by omega)]
            rfl
          rw [eS] at hR
          refine cwg_take l (d + 10) ru ta rs I J _ (fun I1 f1 e1 => ?_)
          have f : F24 29 I I1 := fun q _ b => f1 q b
          refine (show xm l (d + 11) 0 0 mX3_start [.ref 36, .int x, .int y, .int z] (shH ru ta rs) I1 J _ from ?_)
          rw [ez] at hv
          rw [ex, ey, ez]
          refine cd_start l d ru ta rs (oQ A) L r bn n hr hb n1 n4 (oW A) I1 J _ (h.1.k29 f) (h.2.1.cg (fun _ _ => rfl) e1) hA.2.1 (fun I2 J2 f2 e2 e3 => ?_)
          have fm : FM I I2 := fun q a b c => (f2 q a b c).trans (f q a b)
          have z := hR I2 J2 fm
          refine And.intro (fun (u : ¬ v = -1) => ?_) (fun (u : v = -1) => ?_)
          · rw [if_neg u] at z
            have n100 : n - 1 < 100 := by omega
            rw [nI_subI n1 (by omega)] at hv
            obtain ⟨k, hk, ev, ev2⟩ := v_n n100 hv.1 hv.2 u
            rw [ev2] at z
            subst ev
            have ik : (nI k).toNatClampNeg = k := nI_clamp (by omega)
            have y := e3 k (by omega)
            rw [← y, ← ik] at z
            refine xm_ofK 0 (X := xxX3) (t := tX3_thingAt) (stop := []) (ini := false) xx3 pl3 rfl kX3_thingAt (fun h => by cases h) (Nat.le_of_ble_eq_true rfl) (fun K2 hK2 => ?_)
            refine And.intro (fun q => absurd (show nI k < 0 from q) (nI_nn (by omega))) (fun _ => ?_)
            refine And.intro (fun q => absurd ((nle (by omega) (by omega)).mp (show nI 4 ≤ nI k from q)) (by omega)) (fun _ => ?_)
            refine And.intro (show vp_in (nI k) 4 from vp_in_nI (by omega) (by omega)) ?_
            exact z
          · rw [if_pos u, ← e2] at z
            exact z
        · refine c_within_f l (d + 10) v (-1) (z - nI 1) _ _ _ _ hv ?_
          refine And.intro (fun z => absurd rfl z) (fun _ => ?_)
          exact none_ (by rw [decide_eq_false hv]; exact Bool.and_false _)
      · refine And.intro (fun _ => ?_) (fun z => absurd rfl z)
        exact none_ (by rw [hz, Bool.and_false]; rfl)
    · refine And.intro (fun z => absurd rfl z) (fun _ => ?_)
      refine And.intro (fun _ => ?_) (fun z => absurd (show nI 1 = 0 from z) (by decide))
      refine none_ ?_
      have e0 : vIn y (qB (oQ A)) = false := by
        cases e : vIn y (qB (oQ A)) with
        | false => rfl
        | true =>
          obtain ⟨b, hb, ey, _⟩ := vIn_t (by omega) e
          exact absurd ey (hn b hb)
      rw [e0, Bool.and_false]
      rfl
  · refine And.intro (fun _ => ?_) (fun z => absurd rfl z)
    refine And.intro (fun _ => ?_) (fun z => absurd (show nI 1 = 0 from z) (by decide))
    refine none_ ?_
    have e0 : vIn x (qR (oQ A)) = false := by
      cases e : vIn x (qR (oQ A)) with
      | false => rfl
      | true =>
        obtain ⟨b, hb, ey, _⟩ := vIn_t (by omega) e
        exact absurd ey (hn b hb)
    rw [e0]
    rfl

