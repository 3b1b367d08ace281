-- ===== who would leave: leave =====
def bsr (x k : Int32) : Int32 := (x.toUInt32 >>> (k.toUInt32 &&& Int32.toUInt32 31)).toInt32
def bc1 (x : Int32) : Int32 := x - (bsr x (nI 1) &&& 1431655765)
def bc2 (x : Int32) : Int32 := (x &&& 858993459) + (bsr x (nI 2) &&& 858993459)
def bc3 (x : Int32) : Int32 := (x + bsr x (nI 4)) &&& 252645135
def bc4 (x : Int32) : Int32 := x + bsr x (nI 8)
def bc5 (x : Int32) : Int32 := x + bsr x (nI 16)
def bcX (x : Int32) : Int32 := bc5 (bc4 (bc3 (bc2 (bc1 x)))) &&& nI 63
set_option maxRecDepth 100000 in
theorem j_bitCount (l : Launch) (d : Nat) (x : Int32) (sh : List XO) (I : XI) (J : XJ) (Rp : XR) (hR : Rp (some (.int (bcX x))) sh I J) : xm l (d + 1) 0 0 mJ6_bitCount_0f7a4 [.int x] sh I J Rp := by
  refine xm_ofK 0 (X := xxJ6) (t := tJ6_bitCount_0f7a4) (stop := []) (ini := false) xxj6 plJ6 rfl kJ6_bitCount_0f7a4 (fun h => by cases h) (Nat.le_of_ble_eq_true rfl) (fun K hK => ?_)
  exact hR
theorem bc16 : ∀ s, s < 16 → bcX (nI s) = nI (pcN 12 s) := by decide +kernel
theorem pc16 : ∀ s, s < 16 → pcN 12 s < 5 := by decide +kernel
/-- an owner's things count for a set of owners -/
def inS (s o : Nat) : Bool := if o = 4 then decide (3 ≤ pcN 12 s) else decide (s / 2 ^ o % 2 = 1)
def lvV (s : Nat) : Int32 := if 3 ≤ pcN 12 s then nI s ||| nI 16 else nI s
theorem lv_in : ∀ s, s < 16 → ∀ o, o < 5 → (decide ((lvV s >>> (nI o &&& 31)) &&& nI 1 = nI 1) = inS s o) := by decide +kernel
theorem sh_b0 : ∀ s, s < 16 → nI s &&& nI 1 = (if s / 2 ^ 0 % 2 = 1 then nI 1 else nI 0) := by decide +kernel
theorem sh_bk : ∀ s, s < 16 → ∀ k, k < 4 → (nI s >>> (nI k &&& 31)) &&& nI 1 = (if s / 2 ^ k % 2 = 1 then nI 1 else nI 0) := by decide +kernel
def shK (s k : Nat) (a : Int32) : Int32 := if s / 2 ^ k % 2 = 1 then a else nI 0
theorem shK_m (s k : Nat) (a : Int32) : (if s / 2 ^ k % 2 = 1 then nI 1 else nI 0) * a = shK s k a := by
  have e1 : nI 1 = 1 := rfl
  have e0 : nI 0 = 0 := rfl
  unfold shK
  by_cases c : s / 2 ^ k % 2 = 1
  · rw [if_pos c, if_pos c, e1]
    simp
  · rw [if_neg c, if_neg c, e0]
    simp
def shS (s : Nat) (a b c e : Int32) : Int32 := shK s 0 a + shK s 1 b + shK s 2 c + shK s 3 e
theorem add_n0 (x : Int32) : x + nI 0 = x := by
  have e : nI 0 = 0 := rfl
  rw [e]
  simp
def alN (Q : Tld) (L : Lws) (w : Rw) (s : Nat) : Nat → Int32
  | 0 => nI 0
  | k + 1 => if inS s (qO Q k) = true then alN Q L w s k + nI (lgR Q L w k) else alN Q L w s k
def lvN (Q : Tld) (L : Lws) (w : Rw) (a b c e : Int32) : Nat → Nat → Int32
  | 0, _ => -1
  | m + 1, s => if alN Q L w s (qT Q) ≤ shS s a b c e then lvN Q L w a b c e m (s + 1) else nI s
def lvS (L : Lws) (A : Ast) (a b c e : Int32) : Int32 := if (rIn a 0 9999 && rIn b 0 9999 && rIn c 0 9999 && rIn e 0 9999) = true then lvN (oQ A) L (oW A) a b c e 15 1 else -1
-- the class
abbrev shz (l : Launch) (d : Nat) (ru ta : Nat) (rs : List XO) (J : XJ) (Rp : XR) (n s : Nat) (x : Int32) (k : Nat) (I : XI) : Prop := xrun xxX10 (some .int) false false (shH ru ta rs).length 0 0 none l (d + 4) tX10_shadowsOf [4] Rp n 4 [some (.ref 26), some (.int (lvV s)), some (.int x), some (.int (nI k))] [] (shH ru ta rs) I J 0 0
set_option maxRecDepth 100000 in
set_option maxHeartbeats 2000000 in
theorem cw_shs_loop (l : Launch) (d : Nat) (ru ta : Nat) (rs : List XO) (I : XI) (Rp : XR) (Q : Tld) (L : Lws) (h : CE I ru Q L) (w : Rw) (hr : RC (qT Q) w (I 27)) (hw : WR w) (s : Nat) (hs : s < 16) (hR : ∀ (I' : XI) (J' : XJ), (∀ q, q ≠ 24 → I' q = I q) → Rp (some (.int (alN Q L w s (qT Q)))) (shH ru ta rs) I' J') : ∀ (m k n : Nat) (J : XJ) (I1 : XI), k + m = qT Q → m < n → (∀ q, q ≠ 24 → I1 q = I q) → shz l d ru ta rs J Rp n s (alN Q L w s k) k I1 := by
  have t8 := h.2.1.1
  intro m
  induction m with
  | zero =>
    intro k n J I1 hk hn f
    obtain ⟨n, rfl⟩ : ∃ n', n = n' + 1 := ⟨n - 1, by omega⟩
    have hk : k = qT Q := by omega
    have e12 : I1 12 5 = nI k := by rw [f 12 (by decide), hk]; exact h.1.1
    refine xrun_step fun K hK => ?_
    refine And.intro (fun _ => ?_) (fun z => absurd (show I1 12 5 ≤ nI k from by rw [e12]; exact Int32.le_refl _) z)
    rw [hk]
    exact hR I1 J f
  | succ m ih =>
    intro k n J I1 hk hn f
    obtain ⟨n, rfl⟩ : ∃ n', n = n' + 1 := ⟨n - 1, by omega⟩
    have hc : CE I1 ru Q L := h.fc (fun q _ _ c _ => f q c)
    have e12 : I1 12 5 = nI (qT Q) := hc.1.1
    have ib : (nI k).toNatClampNeg = k := nI_clamp (by omega)
    have e15 : I1 15 (nI k).toNatClampNeg = nI (qO Q k) := by rw [ib]; exact (hc.1.2.2.2.1 k (by omega)).2.2
    have o4 := (h.2.1.2.2.2.1 k (by omega)).2.2.2
    have li := lv_in s hs (qO Q k) (by omega)
    refine xrun_step fun K hK => ?_
    refine And.intro (fun z => absurd (show I1 12 5 ≤ nI k from z) (by rw [e12]; exact nI_ge (by omega) (by omega))) (fun _ => ?_)
    refine And.intro (fun z => absurd (show nI 8 ≤ nI k from z) (nI_ge (by omega) (by omega))) (fun _ => ?_)
    refine And.intro (show vp_in (nI k) 8 from vp_in_nI (by omega) (by omega)) ?_
    refine And.intro (fun (z : ¬ (lvV s >>> (I1 15 (nI k).toNatClampNeg &&& 31)) &&& nI 1 = nI 1) => ?_) (fun (z : (lvV s >>> (I1 15 (nI k).toNatClampNeg &&& 31)) &&& nI 1 = nI 1) => ?_)
    · rw [e15] at z
      rw [decide_eq_false z] at li
      refine hK 4 [some (.ref 26), some (.int (lvV s)), some (.int (alN Q L w s k)), some (.int (nI k + 1))] [] (shH ru ta rs) I1 J 0 0 ?_
      have e : alN Q L w s (k + 1) = alN Q L w s k := if_neg (by rw [← li]; decide)
      rw [nI_1, ← e]
      exact ih (k + 1) n J I1 (by omega) (by omega) f
    · rw [e15] at z
      rw [decide_eq_true z] at li
      refine cw_shadow l d ru ta rs I1 J _ Q L hc w (by rw [f 27 (by decide)]; exact hr) hw k (by omega) (fun I2 J2 f2 => ?_)
      refine hK 4 [some (.ref 26), some (.int (lvV s)), some (.int (alN Q L w s k + nI (lgR Q L w k))), some (.int (nI k + 1))] [] (shH ru ta rs) I2 J2 0 0 ?_
      have e : alN Q L w s (k + 1) = alN Q L w s k + nI (lgR Q L w k) := if_pos li.symm
      rw [nI_1, ← e]
      exact ih (k + 1) n J2 I2 (by omega) (by omega) (fun q hq => (f2 q hq).trans (f q hq))
set_option maxRecDepth 100000 in
theorem cw_shs (l : Launch) (d : Nat) (ru ta : Nat) (rs : List XO) (I : XI) (J : XJ) (Rp : XR) (Q : Tld) (L : Lws) (h : CE I ru Q L) (w : Rw) (hr : RC (qT Q) w (I 27)) (hw : WR w) (s : Nat) (hs : s < 16) (v : Int32) (ev : v = lvV s) (hR : ∀ (I' : XI) (J' : XJ), (∀ q, q ≠ 24 → I' q = I q) → Rp (some (.int (alN Q L w s (qT Q)))) (shH ru ta rs) I' J') : xm l (d + 5) 0 0 mX10_shadowsOf [.ref 26, .int v] (shH ru ta rs) I J Rp := by
  subst ev
  have t8 := h.2.1.1
  refine xm_ofK 9 (X := xxX10) (t := tX10_shadowsOf) (stop := [4]) (ini := false) xx10 pl10 rfl kX10_shadowsOf (fun h => by cases h) (Nat.le_of_ble_eq_true rfl) (fun K hK => ?_)
  exact hK 4 [some (.ref 26), some (.int (lvV s)), some (.int (nI 0)), some (.int (nI 0))] [] _ _ _ _ _ (cw_shs_loop l d ru ta rs I Rp Q L h w hr hw s hs hR (qT Q) 0 9 J I (by omega) (by omega) (fun _ _ => rfl))
abbrev lvz (l : Launch) (d : Nat) (ru ta : Nat) (rs : List XO) (J : XJ) (Rp : XR) (n : Nat) (a b c e : Int32) (s : Nat) (o : Option Value) (I : XI) : Prop := xrun xxX11 (some .int) false false (shH ru ta rs).length 0 0 none l (d + 5) tX11_leave [50] Rp n 50 [some (.ref 0), some (.int a), some (.int b), some (.int c), some (.int e), some (.int (nI s)), o] [] (shH ru ta rs) I J 0 0
set_option maxRecDepth 100000 in
set_option maxHeartbeats 4000000 in
theorem cd_lv_loop (l : Launch) (d : Nat) (ru ta : Nat) (rs : List XO) (I : XI) (Rp : XR) (Q : Tld) (L : Lws) (h : CE I ru Q L) (w : Rw) (hr : RC (qT Q) w (I 27)) (hw : WR w) (a b c e V : Int32) (hR : ∀ (I' : XI) (J' : XJ), (∀ q, q ≠ 24 → I' q = I q) → Rp (some (.int V)) (shH ru ta rs) I' J') : ∀ (m s n : Nat) (J : XJ) (I1 : XI) (o : Option Value), s + m = 16 → m < n → (∀ q, q ≠ 24 → I1 q = I q) → lvN Q L w a b c e m s = V → lvz l d ru ta rs J Rp n a b c e s o I1 := by
  have t8 := h.2.1.1
  intro m
  induction m with
  | zero =>
    intro s n J I1 o hk hn f eV
    obtain ⟨n, rfl⟩ : ∃ n', n = n' + 1 := ⟨n - 1, by omega⟩
    have hk : s = 16 := by omega
    subst hk
    have eV : -1 = V := eV
    subst eV
    refine xrun_step fun K hK => ?_
    refine And.intro (fun _ => ?_) (fun z => absurd (Int32.le_refl _) z)
    exact hR I1 J f
  | succ m ih =>
    intro s n J I1 o hk hn f eV
    obtain ⟨n, rfl⟩ : ∃ n', n = n' + 1 := ⟨n - 1, by omega⟩
    have hc : CE I1 ru Q L := h.fc (fun q _ _ c _ => f q c)
    have eV2 : (if alN Q L w s (qT Q) ≤ shS s a b c e then lvN Q L w a b c e m (s + 1) else nI s) = V := eV
    have eX : (nI s &&& nI 1) * a + ((nI s >>> (nI 1 &&& 31)) &&& nI 1) * b + ((nI s >>> (nI 2 &&& 31)) &&& nI 1) * c + ((nI s >>> (nI 3 &&& 31)) &&& nI 1) * e = shS s a b c e := by
      rw [sh_b0 s (by omega), sh_bk s (by omega) 1 (by decide), sh_bk s (by omega) 2 (by decide), sh_bk s (by omega) 3 (by decide), shK_m, shK_m, shK_m, shK_m]
      rfl
    have fin : ∀ (I2 : XI) (J2 : XJ), (∀ q, q ≠ 24 → I2 q = I q) → (alN Q L w s (qT Q) ≤ shS s a b c e → lvz l d ru ta rs J2 Rp n a b c e (s + 1) (some (.int (shS s a b c e))) I2) ∧ (¬ alN Q L w s (qT Q) ≤ shS s a b c e → Rp (some (.int (nI s))) (shH ru ta rs) I2 J2) := fun I2 J2 f2 => by
      refine ⟨fun z => ?_, fun z => ?_⟩
      · rw [if_pos z] at eV2
        exact ih (s + 1) n J2 I2 _ (by omega) (by omega) f2 eV2
      · rw [if_neg z] at eV2
        rw [eV2]
        exact hR I2 J2 f2
    rw [← eX] at fin
    have p5 := pc16 s (by omega)
    refine xrun_step fun K hK => ?_
    refine And.intro (fun z => absurd (show nI 16 ≤ nI s from z) (nI_ge (by omega) (by omega))) (fun _ => ?_)
    refine j_bitCount l (d + 4) (nI s) _ _ _ _ ?_
    rw [bc16 s (by omega)]
    refine And.intro (fun (z : nI (pcN 12 s) < nI 3) => ?_) (fun (z : ¬ nI (pcN 12 s) < nI 3) => ?_)
    · rw [nlt (by omega) (by omega)] at z
      refine cw_shs l d ru ta rs I1 J _ Q L hc w (by rw [f 27 (by decide)]; exact hr) hw s (by omega) (nI s) (if_neg (by omega)).symm (fun I2 J2 f2 => ?_)
      have fi := fin I2 J2 (fun q hq => (f2 q hq).trans (f q hq))
      refine And.intro (fun z => ?_) (fun z => ?_)
      · refine hK 50 [some (.ref 0), some (.int a), some (.int b), some (.int c), some (.int e), some (.int (nI s + 1)), some (.int ((nI s &&& nI 1) * a + ((nI s >>> (nI 1 &&& 31)) &&& nI 1) * b + ((nI s >>> (nI 2 &&& 31)) &&& nI 1) * c + ((nI s >>> (nI 3 &&& 31)) &&& nI 1) * e))] [] (shH ru ta rs) I2 J2 0 0 ?_
        rw [nI_1]
        exact fi.1 z
      · exact fi.2 z
    · rw [nlt (by omega) (by omega)] at z
      refine cw_shs l d ru ta rs I1 J _ Q L hc w (by rw [f 27 (by decide)]; exact hr) hw s (by omega) (nI s ||| nI 16) (if_pos (by omega)).symm (fun I2 J2 f2 => ?_)
      have fi := fin I2 J2 (fun q hq => (f2 q hq).trans (f q hq))
      refine And.intro (fun z => ?_) (fun z => ?_)
      · refine hK 50 [some (.ref 0), some (.int a), some (.int b), some (.int c), some (.int e), some (.int (nI s + 1)), some (.int ((nI s &&& nI 1) * a + ((nI s >>> (nI 1 &&& 31)) &&& nI 1) * b + ((nI s >>> (nI 2 &&& 31)) &&& nI 1) * c + ((nI s >>> (nI 3 &&& 31)) &&& nI 1) * e))] [] (shH ru ta rs) I2 J2 0 0 ?_
        rw [nI_1]
        exact fi.1 z
      · exact fi.2 z
set_option maxRecDepth 100000 in
set_option maxHeartbeats 2000000 in
theorem cd_leave (l : Launch) (d : Nat) (ru ta : Nat) (rs : List XO) (I : XI) (J : XJ) (Rp : XR) (L : Lws) (A : Ast) (hA : AOK A) (h : CA I ru L A) (a b c e : Int32) (hR : ∀ (I' : XI) (J' : XJ), F24 29 I I' → Rp (some (.int (lvS L A a b c e))) (shH ru ta rs) I' J') : xm l (d + 6) 0 0 mX11_leave [.ref 0, .int a, .int b, .int c, .int e] (shH ru ta rs) I J Rp := by
  have none_ : (rIn a 0 9999 && rIn b 0 9999 && rIn c 0 9999 && rIn e 0 9999) = false → Rp (some (.int (-1))) (shH ru ta rs) I J := fun q => by
    have z := hR I J F24.rf
    unfold lvS at z
    rw [q] at z
    exact z
  refine xm_ofK 16 (X := xxX11) (t := tX11_leave) (stop := [50]) (ini := false) xx11 pl11 rfl kX11_leave (fun h => by cases h) (Nat.le_of_ble_eq_true rfl) (fun K hK => ?_)
  refine cd_in l (d + 4) a 0 9999 _ _ _ _ (fun ha => ?_) (fun ha => ?_)
  · refine And.intro (fun z => absurd (show (1 : Int32) = 0 from z) (by decide)) (fun _ => ?_)
    refine cd_in l (d + 4) b 0 9999 _ _ _ _ (fun hb => ?_) (fun hb => ?_)
    · refine And.intro (fun z => absurd (show (1 : Int32) = 0 from z) (by decide)) (fun _ => ?_)
      refine cd_in l (d + 4) c 0 9999 _ _ _ _ (fun hcc => ?_) (fun hcc => ?_)
      · refine And.intro (fun z => absurd (show (1 : Int32) = 0 from z) (by decide)) (fun _ => ?_)
        refine cd_in l (d + 4) e 0 9999 _ _ _ _ (fun he => ?_) (fun he => ?_)
        · refine And.intro (fun _ => ?_) (fun z => absurd (show (1 : Int32) = 0 from z) (by decide))
          have eS : lvS L A a b c e = lvN (oQ A) L (oW A) a b c e 15 1 := by
            unfold lvS
            rw [ha, hb, hcc, he]
            rfl
          rw [eS] at hR
          exact hK 50 [some (.ref 0), some (.int a), some (.int b), some (.int c), some (.int e), some (.int (nI 1)), none] [] _ _ _ _ _ (cd_lv_loop l d ru ta rs I Rp (oQ A) L h.1 (oW A) h.2.1 hA.2.1 a b c e _ (fun I1 J1 f1 => hR I1 J1 (F24.n f1)) 15 1 16 J I none (by omega) (by omega) (fun _ _ => rfl) rfl)
        · refine And.intro (fun z => absurd rfl z) (fun _ => ?_)
          exact none_ (by rw [he]; exact Bool.and_false _)
      · refine And.intro (fun _ => ?_) (fun z => absurd rfl z)
        exact none_ (by rw [hcc, Bool.and_false]; rfl)
    · refine And.intro (fun _ => ?_) (fun z => absurd rfl z)
      exact none_ (by rw [hb, Bool.and_false]; rfl)
  · refine And.intro (fun _ => ?_) (fun z => absurd rfl z)
    exact none_ (by rw [ha]; rfl)
-- the reference
theorem m_has_n (l : Launch) (d s k : Nat) (hs : s < 2147483648) (hk : k < 32) (v : Int32) (ev : v = nI k) (sh : List XO) (I : XI) (J : XJ) (Rp : XR) (h1 : s / 2 ^ k % 2 = 1 → Rp (some (.int 1)) sh I J) (h0 : ¬ s / 2 ^ k % 2 = 1 → Rp (some (.int 0)) sh I J) : xm l (d + 1) 0 0 mX12_has [.int (nI s), .int v] sh I J Rp := by
  subst ev
  have b := bit_nat s k hs hk
  refine m_has_x l d (nI s) (nI k) sh I J Rp (fun z => h1 ?_) (fun z => h0 (fun q => z ?_))
  · rw [b] at z
    rcases bit_two s k with q | q
    · rw [q] at z
      exact absurd z (by decide)
    · exact q
  · rw [b, q]
    rfl
abbrev lvq (l : Launch) (d : Nat) (ru ta : Nat) (rs : List XO) (J : XJ) (Rp : XR) (n pc : Nat) (a b c e : Int32) (s : Nat) (x y o : Option Value) (I : XI) : Prop := xrun xxX12 (some .int) false false (shH ru ta rs).length 0 0 none l (d + 9) tX12_leave [54, 67] Rp n pc [some (.ref 67), some (.int a), some (.int b), some (.int c), some (.int e), some (.int (nI s)), x, y, o] [] (shH ru ta rs) I J 0 0
set_option maxRecDepth 100000 in
set_option maxHeartbeats 4000000 in
/-- behind the sum: the shares, the comparison -/
theorem md_lv_end (l : Launch) (d : Nat) (ru ta : Nat) (rs : List XO) (I : XI) (J : XJ) (Rp : XR) (a b c e X : Int32) (s n T : Nat) (hs : s < 16) (hT : T < 100) (eT : I 68 0 = nI T) (o : Option Value) (h1 : X ≤ shS s a b c e → lvq l d ru ta rs J Rp n 54 a b c e (s + 1) (some (.int X)) (some (.int (shS s a b c e))) o I) (h0 : ¬ X ≤ shS s a b c e → Rp (some (.int (nI s))) (shH ru ta rs) I J) : lvq l d ru ta rs J Rp (n + 1) 67 a b c e s (some (.int X)) (some (.int (nI T))) o I := by
  refine xrun_step fun K hK => ?_
  refine And.intro (show vp_in (nI 0) 2200 from vp_b (by decide)) ?_
  refine And.intro (fun _ => ?_) (fun z => absurd (show I 68 0 ≤ nI T from by rw [eT]; exact Int32.le_refl _) z)
  have fin : ∀ v : Int32, v = shS s a b c e → (X ≤ v → lvq l d ru ta rs J Rp n 54 a b c e (s + 1) (some (.int X)) (some (.int v)) o I) ∧ (¬ X ≤ v → Rp (some (.int (nI s))) (shH ru ta rs) I J) := fun v ev => by
    rw [ev]
    exact ⟨h1, h0⟩
  refine m_has_n l (d + 8) s 0 (by omega) (by decide) _ rfl _ _ _ _ (fun b0 => ?_) (fun b0 => ?_)
  · have q0 : shK s 0 a = a := if_pos b0
    refine And.intro (fun z => absurd (show (1 : Int32) = 0 from z) (by decide)) (fun _ => ?_)
    refine m_has_n l (d + 8) s 1 (by omega) (by decide) _ rfl _ _ _ _ (fun b1 => ?_) (fun b1 => ?_)
    · have q1 : shK s 1 b = b := if_pos b1
      refine And.intro (fun z => absurd (show (1 : Int32) = 0 from z) (by decide)) (fun _ => ?_)
      refine m_has_n l (d + 8) s 2 (by omega) (by decide) _ rfl _ _ _ _ (fun b2 => ?_) (fun b2 => ?_)
      · have q2 : shK s 2 c = c := if_pos b2
        refine And.intro (fun z => absurd (show (1 : Int32) = 0 from z) (by decide)) (fun _ => ?_)
        refine m_has_n l (d + 8) s 3 (by omega) (by decide) _ rfl _ _ _ _ (fun b3 => ?_) (fun b3 => ?_)
        · have q3 : shK s 3 e = e := if_pos b3
          refine And.intro (fun z => absurd (show (1 : Int32) = 0 from z) (by decide)) (fun _ => ?_)
          have ev : a + b + c + e = shS s a b c e := by
            unfold shS
            rw [q0, q1, q2, q3]
          have fi := fin (a + b + c + e) ev
          refine And.intro (fun z => ?_) (fun z => ?_)
          · refine hK 54 [some (.ref 67), some (.int a), some (.int b), some (.int c), some (.int e), some (.int (nI s + 1)), some (.int X), some (.int (a + b + c + e)), o] [] (shH ru ta rs) I J 0 0 ?_
            rw [nI_1]
            exact fi.1 z
          · exact fi.2 z
        · have q3 : shK s 3 e = nI 0 := if_neg b3
          refine And.intro (fun _ => ?_) (fun z => absurd rfl z)
          have ev : a + b + c + nI 0 = shS s a b c e := by
            unfold shS
            rw [q0, q1, q2, q3]
          have fi := fin (a + b + c + nI 0) ev
          refine And.intro (fun z => ?_) (fun z => ?_)
          · refine hK 54 [some (.ref 67), some (.int a), some (.int b), some (.int c), some (.int e), some (.int (nI s + 1)), some (.int X), some (.int (a + b + c + nI 0)), o] [] (shH ru ta rs) I J 0 0 ?_
            rw [nI_1]
            exact fi.1 z
          · exact fi.2 z
      · have q2 : shK s 2 c = nI 0 := if_neg b2
        refine And.intro (fun _ => ?_) (fun z => absurd rfl z)
        refine m_has_n l (d + 8) s 3 (by omega) (by decide) _ rfl _ _ _ _ (fun b3 => ?_) (fun b3 => ?_)
        · have q3 : shK s 3 e = e := if_pos b3
          refine And.intro (fun z => absurd (show (1 : Int32) = 0 from z) (by decide)) (fun _ => ?_)
          have ev : a + b + nI 0 + e = shS s a b c e := by
            unfold shS
            rw [q0, q1, q2, q3]
          have fi := fin (a + b + nI 0 + e) ev
          refine And.intro (fun z => ?_) (fun z => ?_)
          · refine hK 54 [some (.ref 67), some (.int a), some (.int b), some (.int c), some (.int e), some (.int (nI s + 1)), some (.int X), some (.int (a + b + nI 0 + e)), o] [] (shH ru ta rs) I J 0 0 ?_
            rw [nI_1]
            exact fi.1 z
          · exact fi.2 z
        · have q3 : shK s 3 e = nI 0 := if_neg b3
          refine And.intro (fun _ => ?_) (fun z => absurd rfl z)
          have ev : a + b + nI 0 + nI 0 = shS s a b c e := by
            unfold shS
            rw [q0, q1, q2, q3]
          have fi := fin (a + b + nI 0 + nI 0) ev
          refine And.intro (fun z => ?_) (fun z => ?_)
          · refine hK 54 [some (.ref 67), some (.int a), some (.int b), some (.int c), some (.int e), some (.int (nI s + 1)), some (.int X), some (.int (a + b + nI 0 + nI 0)), o] [] (shH ru ta rs) I J 0 0 ?_
            rw [nI_1]
            exact fi.1 z
          · exact fi.2 z
    · have q1 : shK s 1 b = nI 0 := if_neg b1
      refine And.intro (fun _ => ?_) (fun z => absurd rfl z)
      refine m_has_n l (d + 8) s 2 (by omega) (by decide) _ rfl _ _ _ _ (fun b2 => ?_) (fun b2 => ?_)
      · have q2 : shK s 2 c = c := if_pos b2
        refine And.intro (fun z => absurd (show (1 : Int32) = 0 from z) (by decide)) (fun _ => ?_)
        refine m_has_n l (d + 8) s 3 (by omega) (by decide) _ rfl _ _ _ _ (fun b3 => ?_) (fun b3 => ?_)
        · have q3 : shK s 3 e = e := if_pos b3
          refine And.intro (fun z => absurd (show (1 : Int32) = 0 from z) (by decide)) (fun _ => ?_)
          have ev : a + nI 0 + c + e = shS s a b c e := by
            unfold shS
            rw [q0, q1, q2, q3]
          have fi := fin (a + nI 0 + c + e) ev
          refine And.intro (fun z => ?_) (fun z => ?_)
          · refine hK 54 [some (.ref 67), some (.int a), some (.int b), some (.int c), some (.int e), some (.int (nI s + 1)), some (.int X), some (.int (a + nI 0 + c + e)), o] [] (shH ru ta rs) I J 0 0 ?_
            rw [nI_1]
            exact fi.1 z
          · exact fi.2 z
        · have q3 : shK s 3 e = nI 0 := if_neg b3
          refine And.intro (fun _ => ?_) (fun z => absurd rfl z)
          have ev : a + nI 0 + c + nI 0 = shS s a b c e := by
            unfold shS
            rw [q0, q1, q2, q3]
          have fi := fin (a + nI 0 + c + nI 0) ev
          refine And.intro (fun z => ?_) (fun z => ?_)
          · refine hK 54 [some (.ref 67), some (.int a), some (.int b), some (.int c), some (.int e), some (.int (nI s + 1)), some (.int X), some (.int (a + nI 0 + c + nI 0)), o] [] (shH ru ta rs) I J 0 0 ?_
            rw [nI_1]
            exact fi.1 z
          · exact fi.2 z
      · have q2 : shK s 2 c = nI 0 := if_neg b2
        refine And.intro (fun _ => ?_) (fun z => absurd rfl z)
        refine m_has_n l (d + 8) s 3 (by omega) (by decide) _ rfl _ _ _ _ (fun b3 => ?_) (fun b3 => ?_)
        · have q3 : shK s 3 e = e := if_pos b3
          refine And.intro (fun z => absurd (show (1 : Int32) = 0 from z) (by decide)) (fun _ => ?_)
          have ev : a + nI 0 + nI 0 + e = shS s a b c e := by
            unfold shS
            rw [q0, q1, q2, q3]
          have fi := fin (a + nI 0 + nI 0 + e) ev
          refine And.intro (fun z => ?_) (fun z => ?_)
          · refine hK 54 [some (.ref 67), some (.int a), some (.int b), some (.int c), some (.int e), some (.int (nI s + 1)), some (.int X), some (.int (a + nI 0 + nI 0 + e)), o] [] (shH ru ta rs) I J 0 0 ?_
            rw [nI_1]
            exact fi.1 z
          · exact fi.2 z
        · have q3 : shK s 3 e = nI 0 := if_neg b3
          refine And.intro (fun _ => ?_) (fun z => absurd rfl z)
          have ev : a + nI 0 + nI 0 + nI 0 = shS s a b c e := by
            unfold shS
            rw [q0, q1, q2, q3]
          have fi := fin (a + nI 0 + nI 0 + nI 0) ev
          refine And.intro (fun z => ?_) (fun z => ?_)
          · refine hK 54 [some (.ref 67), some (.int a), some (.int b), some (.int c), some (.int e), some (.int (nI s + 1)), some (.int X), some (.int (a + nI 0 + nI 0 + nI 0)), o] [] (shH ru ta rs) I J 0 0 ?_
            rw [nI_1]
            exact fi.1 z
          · exact fi.2 z
  · have q0 : shK s 0 a = nI 0 := if_neg b0
    refine And.intro (fun _ => ?_) (fun z => absurd rfl z)
    refine m_has_n l (d + 8) s 1 (by omega) (by decide) _ rfl _ _ _ _ (fun b1 => ?_) (fun b1 => ?_)
    · have q1 : shK s 1 b = b := if_pos b1
      refine And.intro (fun z => absurd (show (1 : Int32) = 0 from z) (by decide)) (fun _ => ?_)
      refine m_has_n l (d + 8) s 2 (by omega) (by decide) _ rfl _ _ _ _ (fun b2 => ?_) (fun b2 => ?_)
      · have q2 : shK s 2 c = c := if_pos b2
        refine And.intro (fun z => absurd (show (1 : Int32) = 0 from z) (by decide)) (fun _ => ?_)
        refine m_has_n l (d + 8) s 3 (by omega) (by decide) _ rfl _ _ _ _ (fun b3 => ?_) (fun b3 => ?_)
        · have q3 : shK s 3 e = e := if_pos b3
          refine And.intro (fun z => absurd (show (1 : Int32) = 0 from z) (by decide)) (fun _ => ?_)
          have ev : nI 0 + b + c + e = shS s a b c e := by
            unfold shS
            rw [q0, q1, q2, q3]
          have fi := fin (nI 0 + b + c + e) ev
          refine And.intro (fun z => ?_) (fun z => ?_)
          · refine hK 54 [some (.ref 67), some (.int a), some (.int b), some (.int c), some (.int e), some (.int (nI s + 1)), some (.int X), some (.int (nI 0 + b + c + e)), o] [] (shH ru ta rs) I J 0 0 ?_
            rw [nI_1]
            exact fi.1 z
          · exact fi.2 z
        · have q3 : shK s 3 e = nI 0 := if_neg b3
          refine And.intro (fun _ => ?_) (fun z => absurd rfl z)
          have ev : nI 0 + b + c + nI 0 = shS s a b c e := by
            unfold shS
            rw [q0, q1, q2, q3]
          have fi := fin (nI 0 + b + c + nI 0) ev
          refine And.intro (fun z => ?_) (fun z => ?_)
          · refine hK 54 [some (.ref 67), some (.int a), some (.int b), some (.int c), some (.int e), some (.int (nI s + 1)), some (.int X), some (.int (nI 0 + b + c + nI 0)), o] [] (shH ru ta rs) I J 0 0 ?_
            rw [nI_1]
            exact fi.1 z
          · exact fi.2 z
      · have q2 : shK s 2 c = nI 0 := if_neg b2
        refine And.intro (fun _ => ?_) (fun z => absurd rfl z)
        refine m_has_n l (d + 8) s 3 (by omega) (by decide) _ rfl _ _ _ _ (fun b3 => ?_) (fun b3 => ?_)
        · have q3 : shK s 3 e = e := if_pos b3
          refine And.intro (fun z => absurd (show (1 : Int32) = 0 from z) (by decide)) (fun _ => ?_)
          have ev : nI 0 + b + nI 0 + e = shS s a b c e := by
            unfold shS
            rw [q0, q1, q2, q3]
          have fi := fin (nI 0 + b + nI 0 + e) ev
          refine And.intro (fun z => ?_) (fun z => ?_)
          · refine hK 54 [some (.ref 67), some (.int a), some (.int b), some (.int c), some (.int e), some (.int (nI s + 1)), some (.int X), some (.int (nI 0 + b + nI 0 + e)), o] [] (shH ru ta rs) I J 0 0 ?_
            rw [nI_1]
            exact fi.1 z
          · exact fi.2 z
        · have q3 : shK s 3 e = nI 0 := if_neg b3
          refine And.intro (fun _ => ?_) (fun z => absurd rfl z)
          have ev : nI 0 + b + nI 0 + nI 0 = shS s a b c e := by
            unfold shS
            rw [q0, q1, q2, q3]
          have fi := fin (nI 0 + b + nI 0 + nI 0) ev
          refine And.intro (fun z => ?_) (fun z => ?_)
          · refine hK 54 [some (.ref 67), some (.int a), some (.int b), some (.int c), some (.int e), some (.int (nI s + 1)), some (.int X), some (.int (nI 0 + b + nI 0 + nI 0)), o] [] (shH ru ta rs) I J 0 0 ?_
            rw [nI_1]
            exact fi.1 z
          · exact fi.2 z
    · have q1 : shK s 1 b = nI 0 := if_neg b1
      refine And.intro (fun _ => ?_) (fun z => absurd rfl z)
      refine m_has_n l (d + 8) s 2 (by omega) (by decide) _ rfl _ _ _ _ (fun b2 => ?_) (fun b2 => ?_)
      · have q2 : shK s 2 c = c := if_pos b2
        refine And.intro (fun z => absurd (show (1 : Int32) = 0 from z) (by decide)) (fun _ => ?_)
        refine m_has_n l (d + 8) s 3 (by omega) (by decide) _ rfl _ _ _ _ (fun b3 => ?_) (fun b3 => ?_)
        · have q3 : shK s 3 e = e := if_pos b3
          refine And.intro (fun z => absurd (show (1 : Int32) = 0 from z) (by decide)) (fun _ => ?_)
          have ev : nI 0 + nI 0 + c + e = shS s a b c e := by
            unfold shS
            rw [q0, q1, q2, q3]
          have fi := fin (nI 0 + nI 0 + c + e) ev
          refine And.intro (fun z => ?_) (fun z => ?_)
          · refine hK 54 [some (.ref 67), some (.int a), some (.int b), some (.int c), some (.int e), some (.int (nI s + 1)), some (.int X), some (.int (nI 0 + nI 0 + c + e)), o] [] (shH ru ta rs) I J 0 0 ?_
            rw [nI_1]
            exact fi.1 z
          · exact fi.2 z
        · have q3 : shK s 3 e = nI 0 := if_neg b3
          refine And.intro (fun _ => ?_) (fun z => absurd rfl z)
          have ev : nI 0 + nI 0 + c + nI 0 = shS s a b c e := by
            unfold shS
            rw [q0, q1, q2, q3]
          have fi := fin (nI 0 + nI 0 + c + nI 0) ev
          refine And.intro (fun z => ?_) (fun z => ?_)
          · refine hK 54 [some (.ref 67), some (.int a), some (.int b), some (.int c), some (.int e), some (.int (nI s + 1)), some (.int X), some (.int (nI 0 + nI 0 + c + nI 0)), o] [] (shH ru ta rs) I J 0 0 ?_
            rw [nI_1]
            exact fi.1 z
          · exact fi.2 z
      · have q2 : shK s 2 c = nI 0 := if_neg b2
        refine And.intro (fun _ => ?_) (fun z => absurd rfl z)
        refine m_has_n l (d + 8) s 3 (by omega) (by decide) _ rfl _ _ _ _ (fun b3 => ?_) (fun b3 => ?_)
        · have q3 : shK s 3 e = e := if_pos b3
          refine And.intro (fun z => absurd (show (1 : Int32) = 0 from z) (by decide)) (fun _ => ?_)
          have ev : nI 0 + nI 0 + nI 0 + e = shS s a b c e := by
            unfold shS
            rw [q0, q1, q2, q3]
          have fi := fin (nI 0 + nI 0 + nI 0 + e) ev
          refine And.intro (fun z => ?_) (fun z => ?_)
          · refine hK 54 [some (.ref 67), some (.int a), some (.int b), some (.int c), some (.int e), some (.int (nI s + 1)), some (.int X), some (.int (nI 0 + nI 0 + nI 0 + e)), o] [] (shH ru ta rs) I J 0 0 ?_
            rw [nI_1]
            exact fi.1 z
          · exact fi.2 z
        · have q3 : shK s 3 e = nI 0 := if_neg b3
          refine And.intro (fun _ => ?_) (fun z => absurd rfl z)
          have ev : nI 0 + nI 0 + nI 0 + nI 0 = shS s a b c e := by
            unfold shS
            rw [q0, q1, q2, q3]
          have fi := fin (nI 0 + nI 0 + nI 0 + nI 0) ev
          refine And.intro (fun z => ?_) (fun z => ?_)
          · refine hK 54 [some (.ref 67), some (.int a), some (.int b), some (.int c), some (.int e), some (.int (nI s + 1)), some (.int X), some (.int (nI 0 + nI 0 + nI 0 + nI 0)), o] [] (shH ru ta rs) I J 0 0 ?_
            rw [nI_1]
            exact fi.1 z
          · exact fi.2 z
set_option maxRecDepth 100000 in
set_option maxHeartbeats 4000000 in
theorem md_lv_in (l : Launch) (d : Nat) (ru ta : Nat) (rs : List XO) (Rp : XR) (Q : Tld) (L : Lws) (w : Rw) (hw : WR w) (a b c e : Int32) (s n0 : Nat) (hs : s < 16) (I : XI) (h : RE I Q L) (ew : I 93 = w) (H : ∀ (J' : XJ) (I' : XI) (o : Option Value), (∀ q, q ≠ 91 → I' q = I q) → lvq l d ru ta rs J' Rp n0 67 a b c e s (some (.int (alN Q L w s (qT Q)))) (some (.int (nI (qT Q)))) o I') : ∀ (m k : Nat) (J : XJ) (I1 : XI) (o : Option Value), k + m = qT Q → (∀ q, q ≠ 91 → I1 q = I q) → lvq l d ru ta rs J Rp (n0 + m) 67 a b c e s (some (.int (alN Q L w s k))) (some (.int (nI k))) o I1 := by
  have t8 := h.1.2.1
  intro m
  induction m with
  | zero =>
    intro k J I1 o hk f
    have hk : k = qT Q := by omega
    subst hk
    exact H J I1 o f
  | succ m ih =>
    intro k J I1 o hk f
    have hr1 : RE I1 Q L := h.keep (F93.n f)
    have e93 : I1 93 = w := (f 93 (by decide)).trans ew
    have e68 : I1 68 0 = nI (qT Q) := hr1.1.1.1
    have ib : (nI 26 + nI k).toNatClampNeg = 26 + k := ix_c (by omega)
    have e26 : I1 68 (nI 26 + nI k).toNatClampNeg = nI (qO Q k) := by rw [ib]; exact (hr1.1.1.2.2.2.1 k (by omega)).2.2
    have o4 := (h.1.2.2.2.2.1 k (by omega)).2.2.2
    have p5 := pc16 s hs
    have sm := hr1.srm (by rw [e93]; exact hw)
    have yes : inS s (qO Q k) = true → ∀ (J2 : XJ) (I2 : XI), (∀ q, q ≠ 91 → I2 q = I1 q) → lvq l d ru ta rs J2 Rp (n0 + m) 67 a b c e s (some (.int (alN Q L w s k + nI (lgR Q L w k)))) (some (.int (nI k + 1))) (some (.int (nI (qO Q k)))) I2 := fun y J2 I2 f2 => by
      have e : alN Q L w s (k + 1) = alN Q L w s k + nI (lgR Q L w k) := if_pos y
      rw [nI_1, ← e]
      exact ih (k + 1) J2 I2 _ (by omega) (fun q hq => (f2 q hq).trans (f q hq))
    have no : inS s (qO Q k) = false → lvq l d ru ta rs J Rp (n0 + m) 67 a b c e s (some (.int (alN Q L w s k + nI 0))) (some (.int (nI k + 1))) (some (.int (nI (qO Q k)))) I1 := fun y => by
      have e : alN Q L w s (k + 1) = alN Q L w s k := if_neg (by rw [y]; decide)
      rw [nI_1, add_n0, ← e]
      exact ih (k + 1) J I1 _ (by omega) f
    rw [← e26] at yes no
    have lon : ∀ (Rq : XR), (∀ (I2 : XI) (J2 : XJ), (∀ q, q ≠ 91 → I2 q = I1 q) → Rq (some (.int (nI (lgR Q L w k)))) (shH ru ta rs) I2 J2) → xm l (d + 9) 0 0 mX12_longOf [.ref 67, .int (nI k)] (shH ru ta rs) I1 J Rq := fun Rq hq => by
      refine ex_long l d ru ta rs I1 J Rq Q L _ _ sm k (by omega) (fun I2 J2 f2 => ?_)
      have z := hq I2 J2 f2
      rw [← e93] at z
      exact z
    refine xrun_step fun K hK => ?_
    refine And.intro (show vp_in (nI 0) 2200 from vp_b (by decide)) ?_
    refine And.intro (fun z => absurd (show I1 68 0 ≤ nI k from z) (by rw [e68]; exact nI_ge (by omega) (by omega))) (fun _ => ?_)
    refine And.intro (show vp_in (nI 26 + nI k) 2200 from vx_2 (by omega) (by omega)) ?_
    refine And.intro (fun (z : ¬ I1 68 (nI 26 + nI k).toNatClampNeg = nI 4) => ?_) (fun (z : I1 68 (nI 26 + nI k).toNatClampNeg = nI 4) => ?_)
    · rw [e26] at z
      have n4 : ¬ qO Q k = 4 := fun q => z (by rw [q])
      refine m_has_n l (d + 8) s (qO Q k) (by omega) (by omega) _ e26 _ _ _ _ (fun y => ?_) (fun y => ?_)
      · have yi : inS s (qO Q k) = true := by
          unfold inS
          rw [if_neg n4]
          exact decide_eq_true y
        refine And.intro (fun z => absurd (show (1 : Int32) = 0 from z) (by decide)) (fun _ => ?_)
        refine lon _ (fun I2 J2 f2 => ?_)
        exact hK 67 [some (.ref 67), some (.int a), some (.int b), some (.int c), some (.int e), some (.int (nI s)), some (.int (alN Q L w s k + nI (lgR Q L w k))), some (.int (nI k + 1)), some (.int (I1 68 (nI 26 + nI k).toNatClampNeg))] [] (shH ru ta rs) I2 J2 0 0 (yes yi J2 I2 f2)
      · have yi : inS s (qO Q k) = false := by
          unfold inS
          rw [if_neg n4]
          exact decide_eq_false y
        refine And.intro (fun _ => ?_) (fun z => absurd rfl z)
        exact hK 67 [some (.ref 67), some (.int a), some (.int b), some (.int c), some (.int e), some (.int (nI s)), some (.int (alN Q L w s k + nI 0)), some (.int (nI k + 1)), some (.int (I1 68 (nI 26 + nI k).toNatClampNeg))] [] (shH ru ta rs) I1 J 0 0 (no yi)
    · rw [e26] at z
      have e4 : qO Q k = 4 := nI_inj z (by omega) (by omega)
      refine hm_manyF l (d + 8) s (by omega) _ _ _ _ ?_
      refine And.intro (fun (y : nI (pcN 12 s) < nI 3) => ?_) (fun (y : ¬ nI (pcN 12 s) < nI 3) => ?_)
      · rw [nlt (by omega) (by omega)] at y
        have yi : inS s (qO Q k) = false := by
          unfold inS
          rw [if_pos e4]
          exact decide_eq_false (by omega)
        exact hK 67 [some (.ref 67), some (.int a), some (.int b), some (.int c), some (.int e), some (.int (nI s)), some (.int (alN Q L w s k + nI 0)), some (.int (nI k + 1)), some (.int (I1 68 (nI 26 + nI k).toNatClampNeg))] [] (shH ru ta rs) I1 J 0 0 (no yi)
      · rw [nlt (by omega) (by omega)] at y
        have yi : inS s (qO Q k) = true := by
          unfold inS
          rw [if_pos e4]
          exact decide_eq_true (by omega)
        refine lon _ (fun I2 J2 f2 => ?_)
        exact hK 67 [some (.ref 67), some (.int a), some (.int b), some (.int c), some (.int e), some (.int (nI s)), some (.int (alN Q L w s k + nI (lgR Q L w k))), some (.int (nI k + 1)), some (.int (I1 68 (nI 26 + nI k).toNatClampNeg))] [] (shH ru ta rs) I2 J2 0 0 (yes yi J2 I2 f2)
set_option maxRecDepth 100000 in
set_option maxHeartbeats 4000000 in
theorem md_lv_out (l : Launch) (d : Nat) (ru ta : Nat) (rs : List XO) (Rp : XR) (Q : Tld) (L : Lws) (w : Rw) (hw : WR w) (a b c e V : Int32) (I : XI) (h : RE I Q L) (ew : I 93 = w) (hR : ∀ (I' : XI) (J' : XJ), (∀ q, q ≠ 91 → I' q = I q) → Rp (some (.int V)) (shH ru ta rs) I' J') : ∀ (m s : Nat) (J : XJ) (I1 : XI) (x y o : Option Value), s + m = 16 → (∀ q, q ≠ 91 → I1 q = I q) → lvN Q L w a b c e m s = V → lvq l d ru ta rs J Rp (m * (qT Q + 2) + 1) 54 a b c e s x y o I1 := by
  have t8 := h.1.2.1
  intro m
  induction m with
  | zero =>
    intro s J I1 x y o hk f eV
    have hk : s = 16 := by omega
    subst hk
    have eV : -1 = V := eV
    subst eV
    refine xrun_step fun K hK => ?_
    refine And.intro (fun _ => ?_) (fun z => absurd (Int32.le_refl _) z)
    exact hR I1 J f
  | succ m ih =>
    intro s J I1 x y o hk f eV
    have hr1 : RE I1 Q L := h.keep (F93.n f)
    have e93 : I1 93 = w := (f 93 (by decide)).trans ew
    have eV2 : (if alN Q L w s (qT Q) ≤ shS s a b c e then lvN Q L w a b c e m (s + 1) else nI s) = V := eV
    have eF : (m + 1) * (qT Q + 2) + 1 = (m * (qT Q + 2) + 1 + 1 + qT Q) + 1 := by
      rw [Nat.succ_mul]
      generalize m * (qT Q + 2) = z
      omega
    have inn := md_lv_in l d ru ta rs Rp Q L w hw a b c e s (m * (qT Q + 2) + 1 + 1) (by omega) I1 hr1 e93 (fun J2 I2 o2 f2 => by
      have g2 : ∀ q, q ≠ 91 → I2 q = I q := fun q hq => (f2 q hq).trans (f q hq)
      have hr2 : RE I2 Q L := h.keep (F93.n g2)
      refine md_lv_end l d ru ta rs I2 J2 Rp a b c e _ s (m * (qT Q + 2) + 1) (qT Q) (by omega) (by omega) hr2.1.1.1 o2 (fun z => ?_) (fun z => ?_)
      · rw [if_pos z] at eV2
        exact ih (s + 1) J2 I2 _ _ _ (by omega) g2 eV2
      · rw [if_neg z] at eV2
        rw [eV2]
        exact hR I2 J2 g2) (qT Q) 0 J I1 o (by omega) (fun _ _ => rfl)
    rw [eF]
    refine xrun_step fun K hK => ?_
    refine And.intro (fun z => absurd (show nI 16 ≤ nI s from z) (nI_ge (by omega) (by omega))) (fun _ => ?_)
    exact hK 67 [some (.ref 67), some (.int a), some (.int b), some (.int c), some (.int e), some (.int (nI s)), some (.int (nI 0)), some (.int (nI 0)), o] [] (shH ru ta rs) I1 J 0 0 inn
set_option maxRecDepth 100000 in
set_option maxHeartbeats 2000000 in
theorem md_leave (l : Launch) (d : Nat) (ru ta : Nat) (rs : List XO) (I : XI) (J : XJ) (Rp : XR) (L : Lws) (A : Ast) (hA : AOK A) (h : MA I L A) (a b c e : Int32) (hR : ∀ (I' : XI) (J' : XJ), FQ I I' → Rp (some (.int (lvS L A a b c e))) (shH ru ta rs) I' J') : xm l (d + 10) 0 0 mX12_leave [.ref 67, .int a, .int b, .int c, .int e] (shH ru ta rs) I J Rp := by
  obtain ⟨hre, hlay, hs⟩ := h
  have none_ : (rIn a 0 9999 && rIn b 0 9999 && rIn c 0 9999 && rIn e 0 9999) = false → Rp (some (.int (-1))) (shH ru ta rs) I J := fun q => by
    have z := hR I J FQ.rf
    unfold lvS at z
    rw [q] at z
    exact z
  refine xm_ofK (15 * (qT (oQ A) + 2) + 1) (X := xxX12) (t := tX12_leave) (stop := [54, 67]) (ini := false) xx12 pl12 rfl kX12_leave (fun h => by cases h) (Nat.le_of_ble_eq_true rfl) (fun K hK => ?_)
  refine md_inR l (d + 8) a 0 9999 _ _ _ _ (fun ha => ?_) (fun ha => ?_)
  · refine And.intro (fun z => absurd (show (1 : Int32) = 0 from z) (by decide)) (fun _ => ?_)
    refine md_inR l (d + 8) b 0 9999 _ _ _ _ (fun hb => ?_) (fun hb => ?_)
    · refine And.intro (fun z => absurd (show (1 : Int32) = 0 from z) (by decide)) (fun _ => ?_)
      refine md_inR l (d + 8) c 0 9999 _ _ _ _ (fun hcc => ?_) (fun hcc => ?_)
      · refine And.intro (fun z => absurd (show (1 : Int32) = 0 from z) (by decide)) (fun _ => ?_)
        refine md_inR l (d + 8) e 0 9999 _ _ _ _ (fun he => ?_) (fun he => ?_)
        · refine And.intro (fun _ => ?_) (fun z => absurd (show (1 : Int32) = 0 from z) (by decide))
          have eS : lvS L A a b c e = lvN (oQ A) L (oW A) a b c e 15 1 := by
            unfold lvS
            rw [ha, hb, hcc, he]
            rfl
          rw [eS] at hR
          refine rx_lays l (d + 8) ru ta rs I J _ (fun I1 f1 e1 => ?_)
          rw [hlay] at e1
          exact hK 54 [some (.ref 67), some (.int a), some (.int b), some (.int c), some (.int e), some (.int (nI 1)), none, none, none] [] _ _ _ _ _ (md_lv_out l d ru ta rs Rp (oQ A) L (oW A) hA.2.1 a b c e _ I1 (hre.keep f1) e1 (fun I2 J2 f2 => hR I2 J2 ((FQ.w f1 (by rw [e1]; exact hA.2.1)).n f2)) 15 1 J I1 none none none (by omega) (fun _ _ => rfl) rfl)
        · refine And.intro (fun z => absurd rfl z) (fun _ => ?_)
          exact none_ (by rw [he]; exact Bool.and_false _)
      · refine And.intro (fun _ => ?_) (fun z => absurd rfl z)
        exact none_ (by rw [hcc, Bool.and_false]; rfl)
    · refine And.intro (fun _ => ?_) (fun z => absurd rfl z)
      exact none_ (by rw [hb, Bool.and_false]; rfl)
  · refine And.intro (fun _ => ?_) (fun z => absurd rfl z)
    exact none_ (by rw [ha]; rfl)

