-- ===== whose shadow, and when: whose, at =====
theorem or_n0 (x : Int32) : x ||| nI 0 = x := by
  have e : nI 0 = 0 := rfl
  rw [e]
  simp
def bt (k : Nat) : Int32 := nI 1 <<< (nI k &&& 31)
/-- the world with a thing full grown, no clouds, on a day -/
def hoR0 (w : Rw) (t dy : Nat) : Rw := upd (upd (upd w 65 (nI dy)) 66 (nI 0)) t (nI 100)
def hoRow (w : Rw) (t dy h : Nat) : Rw := upd (hoR0 w t dy) 64 (nI h)
theorem ok_up {w : Rw} (hw : WR w) {i n : Nat} (hn : n ≤ bdW i) : WR (upd w i (nI n)) := fun k hk h67 => by
  unfold upd
  by_cases e : k = i
  · rw [if_pos e, e]
    exact ⟨n, rfl, hn⟩
  · rw [if_neg e]
    exact hw k hk h67
theorem WR.hoR {w : Rw} (hw : WR w) {t dy : Nat} (ht : t < 8) (hd : dy ≤ 999) : WR (hoR0 w t dy) := by
  refine ok_up (ok_up (ok_up hw ?_) ?_) ?_
  · rw [show bdW 65 = 999 by decide]
    exact hd
  · exact Nat.zero_le _
  · unfold bdW
    rw [if_pos ht]
    exact Nat.le_refl _
theorem WR.ho {w : Rw} (hw : WR w) {t dy h : Nat} (ht : t < 8) (hd : dy ≤ 999) (hh : h ≤ 9) : WR (hoRow w t dy h) := ok_up (hw.hoR ht hd) (by rw [show bdW 64 = 9 by decide]; exact hh)
theorem ho_c {w : Rw} {t dy h : Nat} (ht : t < 8) : hoRow w t dy h t = nI 100 ∧ hoRow w t dy h 64 = nI h ∧ hoRow w t dy h 65 = nI dy ∧ hoRow w t dy h 66 = nI 0 := by
  refine ⟨?_, ?_, ?_, ?_⟩
  · unfold hoRow hoR0
    rw [upd_n (by omega), upd_s]
  · unfold hoRow
    rw [upd_s]
  · unfold hoRow hoR0
    rw [upd_n (by omega), upd_n (by omega), upd_n (by omega), upd_s]
  · unfold hoRow hoR0
    rw [upd_n (by omega), upd_n (by omega), upd_s]
def hoB (Q : Tld) (L : Lws) (w : Rw) (t : Nat) (feet : Int32) (dy h : Nat) : Bool := decide (nI (lgR Q L (hoRow w t dy h) t) = feet)
def hoN (f : Nat → Bool) : Nat → Int32
  | 0 => nI 0
  | k + 1 => if f k = true then hoN f k ||| bt k else hoN f k
def hoV (Q : Tld) (L : Lws) (w : Rw) (t : Nat) (feet : Int32) (dy : Nat) : Int32 := hoN (hoB Q L w t feet dy) 10
abbrev hoyz (l : Launch) (d : Nat) (ru ta : Nat) (rs : List XO) (J : XJ) (Rp : XR) (n t : Nat) (feet : Int32) (dy : Nat) (s : Int32) (h : Nat) (I : XI) : Prop := xrun xxX11 (some .int) false false (shH ru ta rs).length 0 0 none l (d + 3) tX11_hoursOf [6] Rp n 6 [some (.ref 0), some (.int (nI t)), some (.int feet), some (.int (nI dy)), some (.int s), some (.int (nI h))] [] (shH ru ta rs) I J 0 0
set_option maxRecDepth 100000 in
set_option maxHeartbeats 2000000 in
theorem cd_ho_loop (l : Launch) (d : Nat) (ru ta : Nat) (rs : List XO) (I : XI) (Rp : XR) (Q : Tld) (L : Lws) (h : CE I ru Q L) (w : Rw) (hw : WR w) (t : Nat) (ht : t < qT Q) (feet : Int32) (dy : Nat) (hd : dy ≤ 999) (hR : ∀ (I' : XI) (J' : XJ), (∀ q, q ≠ 24 → I' q = I q) → Rp (some (.int (hoV Q L w t feet dy))) (shH ru ta rs) I' J') : ∀ (m k n : Nat) (J : XJ) (I1 : XI), k + m = 10 → m < n → (∀ q, q ≠ 24 → I1 q = I q) → hoyz l d ru ta rs J Rp n t feet dy (hoN (hoB Q L w t feet dy) k) k I1 := by
  have t8 := h.2.1.1
  intro m
  induction m with
  | zero =>
    intro k n J I1 hk hn f
    obtain ⟨n, rfl⟩ : ∃ n', n = n' + 1 := ⟨n - 1, by omega⟩
    have hk : k = 10 := by omega
    subst hk
    refine xrun_step fun K hK => ?_
    refine And.intro (fun _ => ?_) (fun z => absurd (Int32.le_refl _) z)
    exact hR I1 J f
  | succ m ih =>
    intro k n J I1 hk hn f
    obtain ⟨n, rfl⟩ : ∃ n', n = n' + 1 := ⟨n - 1, by omega⟩
    have hw1 := hw.ho (t := t) (dy := dy) (h := k) (by omega) hd (by omega)
    obtain ⟨c1, c2, c3, c4⟩ := ho_c (w := w) (t := t) (dy := dy) (h := k) (by omega)
    refine xrun_step fun K hK => ?_
    refine And.intro (fun z => absurd (show nI 10 ≤ nI k from z) (nI_ge (by omega) (by omega))) (fun _ => ?_)
    refine cx_shadowW l d ru ta rs I1 J _ Q L (h.fc (fun q _ _ c _ => f q c)) (hoRow w t dy k) hw1 t ht (nI 100) (nI k) (nI dy) (nI 0) (by rw [← (hw1 t (by omega) (by omega)).nw.1, c1]) (by rw [← (hw1 64 (by omega) (by omega)).nw.1, c2]) (by rw [← (hw1 65 (by omega) (by omega)).nw.1, c3]) (by rw [← (hw1 66 (by omega) (by omega)).nw.1, c4]) (fun I2 J2 f2 => ?_)
    have f3 : ∀ q, q ≠ 24 → I2 q = I q := fun q hq => (f2 q hq).trans (f q hq)
    refine And.intro (fun (z : ¬ nI (lgR Q L (hoRow w t dy k) t) = feet) => ?_) (fun (z : nI (lgR Q L (hoRow w t dy k) t) = feet) => ?_)
    · refine hK 6 [some (.ref 0), some (.int (nI t)), some (.int feet), some (.int (nI dy)), some (.int (hoN (hoB Q L w t feet dy) k)), some (.int (nI k + 1))] [] (shH ru ta rs) I2 J2 0 0 ?_
      have e : hoN (hoB Q L w t feet dy) (k + 1) = hoN (hoB Q L w t feet dy) k := if_neg (fun q => z (of_decide_eq_true q))
      rw [nI_1, ← e]
      exact ih (k + 1) n J2 I2 (by omega) (by omega) f3
    · refine hK 6 [some (.ref 0), some (.int (nI t)), some (.int feet), some (.int (nI dy)), some (.int (hoN (hoB Q L w t feet dy) k ||| bt k)), some (.int (nI k + 1))] [] (shH ru ta rs) I2 J2 0 0 ?_
      have e : hoN (hoB Q L w t feet dy) (k + 1) = hoN (hoB Q L w t feet dy) k ||| bt k := if_pos (decide_eq_true z)
      rw [nI_1, ← e]
      exact ih (k + 1) n J2 I2 (by omega) (by omega) f3
set_option maxRecDepth 100000 in
theorem cd_ho (l : Launch) (d : Nat) (ru ta : Nat) (rs : List XO) (I : XI) (J : XJ) (Rp : XR) (Q : Tld) (L : Lws) (h : CE I ru Q L) (w : Rw) (hw : WR w) (t : Nat) (ht : t < qT Q) (feet : Int32) (dy : Nat) (hd : dy ≤ 999) (hR : ∀ (I' : XI) (J' : XJ), (∀ q, q ≠ 24 → I' q = I q) → Rp (some (.int (hoV Q L w t feet dy))) (shH ru ta rs) I' J') : xm l (d + 4) 0 0 mX11_hoursOf [.ref 0, .int (nI t), .int feet, .int (nI dy)] (shH ru ta rs) I J Rp := by
  refine xm_ofK 11 (X := xxX11) (t := tX11_hoursOf) (stop := [6]) (ini := false) xx11 pl11 rfl kX11_hoursOf (fun h => by cases h) (Nat.le_of_ble_eq_true rfl) (fun K hK => ?_)
  exact hK 6 [some (.ref 0), some (.int (nI t)), some (.int feet), some (.int (nI dy)), some (.int (nI 0)), some (.int (nI 0))] [] _ _ _ _ _ (cd_ho_loop l d ru ta rs I Rp Q L h w hw t ht feet dy hd hR 10 0 11 J I (by omega) (by omega) (fun _ _ => rfl))
abbrev hqz (l : Launch) (d : Nat) (ru ta : Nat) (rs : List XO) (J : XJ) (Rp : XR) (n t : Nat) (feet : Int32) (dy : Nat) (s : Int32) (h : Nat) (I : XI) : Prop := xrun xxX12 (some .int) false false (shH ru ta rs).length 0 0 none l (d + 9) tX12_hoursOf [36] Rp n 36 [some (.ref 67), some (.int (nI t)), some (.int feet), some (.int (nI dy)), some (.int s), some (.int (nI h))] [] (shH ru ta rs) I J 0 0
set_option maxRecDepth 100000 in
set_option maxHeartbeats 2000000 in
theorem md_ho_loop (l : Launch) (d : Nat) (ru ta : Nat) (rs : List XO) (I : XI) (Rp : XR) (Q : Tld) (L : Lws) (h : RE I Q L) (w : Rw) (hw : WR w) (t : Nat) (ht : t < qT Q) (feet : Int32) (dy : Nat) (hd : dy ≤ 999) (hR : ∀ (I' : XI) (J' : XJ), F93 I I' → WR (I' 93) → Rp (some (.int (hoV Q L w t feet dy))) (shH ru ta rs) I' J') : ∀ (m k n : Nat) (J : XJ) (I1 : XI), k + m = 10 → m < n → F93 I I1 → WR (I1 93) → (∀ j, j ≠ 64 → I1 93 j = hoR0 w t dy j) → hqz l d ru ta rs J Rp n t feet dy (hoN (hoB Q L w t feet dy) k) k I1 := by
  have t8 := h.1.2.1
  intro m
  induction m with
  | zero =>
    intro k n J I1 hk hn f wr e0
    obtain ⟨n, rfl⟩ : ∃ n', n = n' + 1 := ⟨n - 1, by omega⟩
    have hk : k = 10 := by omega
    subst hk
    refine xrun_step fun K hK => ?_
    refine And.intro (fun _ => ?_) (fun z => absurd (Int32.le_refl _) z)
    exact hR I1 J f wr
  | succ m ih =>
    intro k n J I1 hk hn f wr e0
    obtain ⟨n, rfl⟩ : ∃ n', n = n' + 1 := ⟨n - 1, by omega⟩
    have hw1 := hw.ho (t := t) (dy := dy) (h := k) (by omega) hd (by omega)
    have eR : (uI I1 93 64 (nI k)) 93 = hoRow w t dy k := by
      rw [uI_eq]
      funext j
      unfold hoRow upd
      by_cases e : j = 64
      · rw [if_pos e, if_pos e]
      · rw [if_neg e, if_neg e]
        exact e0 j e
    have w3 : WR ((uI I1 93 64 (nI k)) 93) := by rw [eR]; exact hw1
    have sm := (h.keep (f.u (k := 64) (v := nI k))).srm w3
    refine xrun_step fun K hK => ?_
    refine And.intro (fun z => absurd (show nI 10 ≤ nI k from z) (nI_ge (by omega) (by omega))) (fun _ => ?_)
    refine And.intro (show vp_in (nI 64) 69 from vp_b (by decide)) ?_
    refine ex_long l d ru ta rs (uI I1 93 64 (nI k)) J _ Q L _ _ sm t ht (fun I2 J2 f2 => ?_)
    have eL : lgOf L (nmT Q (nW ((uI I1 93 64 (nI k)) 93)) t 0) = lgR Q L (hoRow w t dy k) t := by rw [eR]; rfl
    rw [eL]
    have f3 : F93 I I2 := f.u.tr (F93.n f2)
    have e3 : I2 93 = hoRow w t dy k := (f2 93 (by decide)).trans eR
    have e4 : ∀ j, j ≠ 64 → I2 93 j = hoR0 w t dy j := fun j hj => by
      rw [e3]
      exact upd_n hj
    refine And.intro (fun (z : ¬ nI (lgR Q L (hoRow w t dy k) t) = feet) => ?_) (fun (z : nI (lgR Q L (hoRow w t dy k) t) = feet) => ?_)
    · refine hK 36 [some (.ref 67), some (.int (nI t)), some (.int feet), some (.int (nI dy)), some (.int (hoN (hoB Q L w t feet dy) k ||| nI 0)), some (.int (nI k + 1))] [] (shH ru ta rs) I2 J2 0 0 ?_
      have e : hoN (hoB Q L w t feet dy) (k + 1) = hoN (hoB Q L w t feet dy) k := if_neg (fun q => z (of_decide_eq_true q))
      rw [nI_1, or_n0, ← e]
      exact ih (k + 1) n J2 I2 (by omega) (by omega) f3 (by rw [e3]; exact hw1) e4
    · refine hK 36 [some (.ref 67), some (.int (nI t)), some (.int feet), some (.int (nI dy)), some (.int (hoN (hoB Q L w t feet dy) k ||| bt k)), some (.int (nI k + 1))] [] (shH ru ta rs) I2 J2 0 0 ?_
      have e : hoN (hoB Q L w t feet dy) (k + 1) = hoN (hoB Q L w t feet dy) k ||| bt k := if_pos (decide_eq_true z)
      rw [nI_1, ← e]
      exact ih (k + 1) n J2 I2 (by omega) (by omega) f3 (by rw [e3]; exact hw1) e4
set_option maxRecDepth 100000 in
set_option maxHeartbeats 2000000 in
theorem md_ho (l : Launch) (d : Nat) (ru ta : Nat) (rs : List XO) (I : XI) (J : XJ) (Rp : XR) (Q : Tld) (L : Lws) (h : RE I Q L) (w : Rw) (hl : wLay I = w) (hw : WR w) (t : Nat) (ht : t < qT Q) (feet : Int32) (dy : Nat) (hd : dy ≤ 999) (hR : ∀ (I' : XI) (J' : XJ), F93 I I' → WR (I' 93) → Rp (some (.int (hoV Q L w t feet dy))) (shH ru ta rs) I' J') : xm l (d + 10) 0 0 mX12_hoursOf [.ref 67, .int (nI t), .int feet, .int (nI dy)] (shH ru ta rs) I J Rp := by
  have t8 := h.1.2.1
  refine xm_ofK 11 (X := xxX12) (t := tX12_hoursOf) (stop := [36]) (ini := false) xx12 pl12 rfl kX12_hoursOf (fun h => by cases h) (Nat.le_of_ble_eq_true rfl) (fun K hK => ?_)
  refine rx_lays l (d + 8) ru ta rs I J _ (fun I1 f1 e1 => ?_)
  rw [hl] at e1
  have it : (nI 0 + nI t).toNatClampNeg = t := by
    have y := ix_c (a := 0) (b := t) (by omega)
    rw [Nat.zero_add] at y
    exact y
  refine And.intro (show vp_in (nI 65) 69 from vp_b (by decide)) ?_
  refine And.intro (show vp_in (nI 66) 69 from vp_b (by decide)) ?_
  refine And.intro (show vp_in (nI 0 + nI t) 69 from vx_2 (by omega) (by omega)) ?_
  refine hK 36 [some (.ref 67), some (.int (nI t)), some (.int feet), some (.int (nI dy)), some (.int (nI 0)), some (.int (nI 0))] [] (shH ru ta rs) (uI (uI (uI I1 93 65 (nI dy)) 93 66 (nI 0)) 93 (nI 0 + nI t).toNatClampNeg (nI 100)) J 0 0 ?_
  rw [it]
  have e3 : (uI (uI (uI I1 93 65 (nI dy)) 93 66 (nI 0)) 93 t (nI 100)) 93 = hoR0 w t dy := by
    rw [uI_eq, uI_eq, uI_eq, e1]
    rfl
  exact md_ho_loop l d ru ta rs I Rp Q L h w hw t ht feet dy hd hR 10 0 11 J _ (by omega) (by omega) f1.u.u.u (by rw [e3]; exact hw.hoR (by omega) hd) (fun j _ => congrFun e3 j)
/-- whose; at -/
def atS (L : Lws) (A : Ast) (x y z : Int32) : Int32 := if (vIn x (qT (oQ A)) && rIn y 1 999 && rIn z 0 999) = true then hoV (oQ A) L (oW A) x.toNatClampNeg y z.toNatClampNeg else -1
set_option maxRecDepth 100000 in
set_option maxHeartbeats 2000000 in
theorem cd_at (l : Launch) (d : Nat) (ru ta : Nat) (rs : List XO) (I : XI) (J : XJ) (Rp : XR) (L : Lws) (A : Ast) (hA : AOK A) (h : CA I ru L A) (x y z : Int32) (hR : ∀ (I' : XI) (J' : XJ), F24 29 I I' → Rp (some (.int (atS L A x y z))) (shH ru ta rs) I' J') : xm l (d + 5) 0 0 mX11_at [.ref 0, .int x, .int y, .int z] (shH ru ta rs) I J Rp := by
  have t8 := hA.1.1
  have none_ : (vIn x (qT (oQ A)) && rIn y 1 999 && rIn z 0 999) = false → Rp (some (.int (-1))) (shH ru ta rs) I J := fun e => by
    have z := hR I J F24.rf
    unfold atS at z
    rw [e] at z
    exact z
  refine xm_ofK 0 (X := xxX11) (t := tX11_at) (stop := []) (ini := false) xx11 pl11 rfl kX11_at (fun h => by cases h) (Nat.le_of_ble_eq_true rfl) (fun K hK => ?_)
  refine cc_hasThing l (d + 3) ru ta rs I J _ (oQ A) L h.1 x (fun t ht ex => ?_) (fun hn => ?_)
  · refine And.intro (fun z => absurd (show (1 : Int32) = 0 from z) (by decide)) (fun _ => ?_)
    have hx : vIn x (qT (oQ A)) = true := by rw [ex]; exact vIn_n (by omega) ht
    refine cd_in l (d + 3) y 1 999 _ _ _ _ (fun hy => ?_) (fun hy => ?_)
    · refine And.intro (fun z => absurd (show (1 : Int32) = 0 from z) (by decide)) (fun _ => ?_)
      refine cd_in l (d + 3) z 0 999 _ _ _ _ (fun hz => ?_) (fun hz => ?_)
      · refine And.intro (fun _ => ?_) (fun z => absurd (show (1 : Int32) = 0 from z) (by decide))
        obtain ⟨k, _, k9, ez, ez2⟩ := rIn_t (by omega) (by omega) hz
        have eS : atS L A x y z = hoV (oQ A) L (oW A) t y k := by
          unfold atS
          rw [hx, hy, hz, ez2, ex, nI_clamp (by omega)]
          rfl
        rw [eS] at hR
        subst ez ex
        exact cd_ho l d ru ta rs I J _ (oQ A) L h.1 (oW A) hA.2.1 t ht y k k9 (fun I1 J1 f1 => hR I1 J1 (F24.n f1))
      · refine And.intro (fun z => absurd rfl z) (fun _ => ?_)
        exact none_ (by rw [hz]; exact Bool.and_false _)
    · refine And.intro (fun _ => ?_) (fun z => absurd rfl z)
      exact none_ (by rw [hy, Bool.and_false]; rfl)
  · refine And.intro (fun _ => ?_) (fun z => absurd rfl z)
    refine none_ ?_
    cases e : vIn x (qT (oQ A)) with
    | false => rfl
    | true =>
      obtain ⟨b, hb, ey, _⟩ := vIn_t (by omega) e
      exact absurd ey (hn b hb)
set_option maxRecDepth 100000 in
set_option maxHeartbeats 2000000 in
theorem md_at (l : Launch) (d : Nat) (ru ta : Nat) (rs : List XO) (I : XI) (J : XJ) (Rp : XR) (L : Lws) (A : Ast) (hA : AOK A) (h : MA I L A) (x y z : Int32) (hR : ∀ (I' : XI) (J' : XJ), FQ I I' → Rp (some (.int (atS L A x y z))) (shH ru ta rs) I' J') : xm l (d + 11) 0 0 mX12_at [.ref 67, .int x, .int y, .int z] (shH ru ta rs) I J Rp := by
  obtain ⟨hre, hlay, hs⟩ := h
  have t8 := hA.1.1
  have eT : I 68 0 = nI (qT (oQ A)) := hre.1.1.1
  have none_ : (vIn x (qT (oQ A)) && rIn y 1 999 && rIn z 0 999) = false → Rp (some (.int (-1))) (shH ru ta rs) I J := fun e => by
    have z := hR I J FQ.rf
    unfold atS at z
    rw [e] at z
    exact z
  refine xm_ofK 0 (X := xxX12) (t := tX12_at) (stop := []) (ini := false) xx12 pl12 rfl kX12_at (fun h => by cases h) (Nat.le_of_ble_eq_true rfl) (fun K hK => ?_)
  refine md_isT l (d + 8) ru ta rs I J _ _ eT (by omega) x (fun hx => ?_) (fun hx => ?_)
  · refine And.intro (fun z => absurd (show (1 : Int32) = 0 from z) (by decide)) (fun _ => ?_)
    refine md_inR l (d + 9) y 1 999 _ _ _ _ (fun hy => ?_) (fun hy => ?_)
    · refine And.intro (fun z => absurd (show (1 : Int32) = 0 from z) (by decide)) (fun _ => ?_)
      refine md_inR l (d + 9) z 0 999 _ _ _ _ (fun hz => ?_) (fun hz => ?_)
      · refine And.intro (fun z => absurd (show (1 : Int32) = 0 from z) (by decide)) (fun _ => ?_)
        obtain ⟨k, _, k9, ez, ez2⟩ := rIn_t (by omega) (by omega) hz
        obtain ⟨t, ht, ex, ex2⟩ := vIn_t (by omega) hx
        have eS : atS L A x y z = hoV (oQ A) L (oW A) t y k := by
          unfold atS
          rw [hx, hy, hz, ez2, ex2]
          rfl
        rw [eS] at hR
        subst ez ex
        exact md_ho l d ru ta rs I J _ (oQ A) L hre (oW A) hlay hA.2.1 t ht y k k9 (fun I1 J1 f1 w1 => hR I1 J1 (FQ.w f1 w1))
      · refine And.intro (fun _ => ?_) (fun z => absurd rfl z)
        exact none_ (by rw [hz]; exact Bool.and_false _)
    · refine And.intro (fun _ => ?_) (fun z => absurd rfl z)
      exact none_ (by rw [hy, Bool.and_false]; rfl)
  · refine And.intro (fun _ => ?_) (fun z => absurd rfl z)
    exact none_ (by rw [hx]; rfl)
