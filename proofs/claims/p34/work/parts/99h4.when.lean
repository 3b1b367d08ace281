-- ===== when to sell: when =====
theorem shR_n {w : Rw} {b b1 : Nat} {x : Int32} (hb : b < 12) (hb1 : b1 < 12) (h : b1 ≠ b) : shR w b1 x (28 + b) = w (28 + b) := by
  unfold shR
  split
  · exact upd_n (by omega)
  · unfold baI
    rw [upd_n (by omega), upd_n (by omega), upd_n (by omega), upd_n (by omega), upd_n (by omega)]
theorem spN_n {L : Lws} {b : Nat} (hb : b < 12) : ∀ (m : Nat) (w : Rw) (k : Nat), k + m ≤ 12 → ¬ 0 < w (28 + b) → spN L m w k (28 + b) = w (28 + b)
  | 0, _, _, _, _ => rfl
  | m + 1, w, k, hk, h => by
    unfold spN
    split
    · rename_i c
      have hkb : k ≠ b := fun e => h (by rw [← e]; exact c)
      have e : shR (upd w (40 + k) (ltR (nI 99) (w (40 + k) + nI 1))) k (nI (spR L w k)) (28 + b) = w (28 + b) := by
        rw [shR_n hb (by omega) hkb, upd_n (by omega)]
      rw [spN_n hb m _ (k + 1) (by omega) (by rw [e]; exact h), e]
    · exact spN_n hb m w (k + 1) (by omega) h
theorem gwN_n {Q : Tld} {L : Lws} {j : Nat} (hj : 8 ≤ j) : ∀ (m : Nat) (w : Rw) (t : Nat), t + m ≤ 8 → gwN Q L m w t j = w j
  | 0, _, _, _ => rfl
  | m + 1, w, t, h => by
    unfold gwN
    split
    · rw [gwN_n hj m _ (t + 1) (by omega), upd_n (by omega)]
    · rfl
theorem hrR_n {Q : Tld} {L : Lws} (t8 : qT Q ≤ 8) {w : Rw} {b : Nat} (hb : b < 12) (h : ¬ 0 < w (28 + b)) : hrR Q L w (28 + b) = w (28 + b) := by
  have e0 : hr0 w (28 + b) = w (28 + b) := by
    unfold hr0
    rw [upd_n (by omega), upd_n (by omega), upd_n (by omega), upd_n (by omega), upd_n (by omega)]
  unfold hrR
  split
  · unfold dayR
    have e1 : dw0 (hr0 w) (28 + b) = w (28 + b) := by
      unfold dw0 dr
      rw [upd_n (by omega), upd_n (by omega), upd_n (by omega), upd_n (by omega), e0]
    have e2 : gwN Q L (qT Q) (dw0 (hr0 w)) 0 (28 + b) = w (28 + b) := by
      rw [gwN_n (by omega) (qT Q) _ 0 (by omega), e1]
    rw [spN_n hb 12 _ 0 (by omega) (by rw [e2]; exact h), e2]
  · exact e0
def wnN (Q : Tld) (L : Lws) (b : Nat) : Nat → Nat → Rw → Int32 → Int32 → Int32 × Int32
  | 0, _, _, f, s => (f, s)
  | m + 1, h, w, f, s => if 0 < w (28 + b) then (if cnP w = true then wnN Q L b m (h + 1) (hrR Q L w) (if nI (seR L w b) ≤ s then f else nI h) (if nI (seR L w b) ≤ s then s else nI (seR L w b)) else ((if nI (seR L w b) ≤ s then f else nI h), (if nI (seR L w b) ≤ s then s else nI (seR L w b)))) else (f, s)
theorem wnN_n {Q : Tld} {L : Lws} {b : Nat} {w : Rw} {f s : Int32} (h : ¬ 0 < w (28 + b)) : ∀ m k, wnN Q L b m k w f s = (f, s)
  | 0, _ => rfl
  | m + 1, k => if_neg h
def wnS (L : Lws) (A : Ast) (x y z : Int32) : Int32 := if (vIn x 12 && decide (0 < oW A (28 + x.toNatClampNeg)) && rIn y 0 60 && rIn z 0 1) = true then (if z = 0 then (wnN (oQ A) L x.toNatClampNeg (y.toNatClampNeg + 1) 0 (oW A) (-1) (-1)).1 else (wnN (oQ A) L x.toNatClampNeg (y.toNatClampNeg + 1) 0 (oW A) (-1) (-1)).2) else -1
theorem n1_le {n : Nat} (h : n < 2 ^ 31) : (-1 : Int32) ≤ nI n := by
  rw [Int32.le_iff_toInt_le, nI_toInt h, show (-1 : Int32).toInt = -1 from rfl]
  omega
abbrev wnz (l : Launch) (d : Nat) (ru ta : Nat) (rs : List XO) (J : XJ) (Rp : XR) (n b N : Nat) (y s f : Int32) (h : Nat) (o : Option Value) (I : XI) : Prop := xrun xxX11 (some .int) false false (shH ru ta rs).length 0 0 none l (d + 5) tX11_when [55] Rp n 55 [some (.ref 0), some (.int (nI b)), some (.int (nI N)), some (.int y), some (.int s), some (.int f), some (.int (nI h)), o] [] (shH ru ta rs) I J 0 0
set_option maxRecDepth 100000 in
set_option maxHeartbeats 4000000 in
theorem cd_wn_loop (l : Launch) (d : Nat) (ru ta : Nat) (rs : List XO) (I : XI) (Rp : XR) (Q : Tld) (L : Lws) (h : CE I ru Q L) (b N : Nat) (hb : b < 12) (hN : N ≤ 60) (y : Int32) (V : Int32 × Int32) (hR : ∀ (I' : XI) (J' : XJ), F24 29 I I' → Rp (some (.int (if y = 0 then V.1 else V.2))) (shH ru ta rs) I' J') : ∀ (m k n : Nat) (J : XJ) (I1 : XI) (w : Rw) (f s : Int32) (o : Option Value), k + m = N + 1 → m < n → F24 29 I I1 → RC (qT Q) w (I1 29) → WR w → -1 ≤ s → wnN Q L b m k w f s = V → wnz l d ru ta rs J Rp n b N y s f k o I1 := by
  have t8 := h.2.1.1
  have fin : ∀ (I2 : XI) (J2 : XJ) (f s : Int32), F24 29 I I2 → (f, s) = V → (¬ y = 0 → Rp (some (.int s)) (shH ru ta rs) I2 J2) ∧ (y = 0 → Rp (some (.int f)) (shH ru ta rs) I2 J2) := fun I2 J2 f s g e => by
    have z := hR I2 J2 g
    rw [← e] at z
    refine ⟨fun c => ?_, fun c => ?_⟩
    · rw [if_neg c] at z
      exact z
    · rw [if_pos c] at z
      exact z
  intro m
  induction m with
  | zero =>
    intro k n J I1 w f s o hk hn g hr hw hs eV
    obtain ⟨n, rfl⟩ : ∃ n', n = n' + 1 := ⟨n - 1, by omega⟩
    have fi := fin I1 J f s g eV
    refine xrun_step fun K hK => ?_
    refine And.intro (fun _ => ?_) (fun z => absurd (show nI N < nI k from (nlt (by omega) (by omega)).mpr (by omega)) z)
    exact And.intro (fun z => fi.1 z) (fun z => fi.2 z)
  | succ m ih =>
    intro k n J I1 w f s o hk hn g hr hw hs eV
    obtain ⟨n, rfl⟩ : ∃ n', n = n' + 1 := ⟨n - 1, by omega⟩
    refine xrun_step fun K hK => ?_
    refine And.intro (fun z => absurd ((nlt (by omega) (by omega)).mp (show nI N < nI k from z)) (by omega)) (fun _ => ?_)
    refine cwg_hasBale l (d + 4) ru ta rs I1 J _ (qT Q) w hr hw (nI b) (fun b' hb' e hp => ?_) (fun hn0 => ?_)
    · have e := nI_inj e (by omega) (by omega)
      subst e
      refine And.intro (fun z => absurd (show (1 : Int32) = 0 from z) (by decide)) (fun _ => ?_)
      have eV2 : (if cnP w = true then wnN Q L b m (k + 1) (hrR Q L w) (if nI (seR L w b) ≤ s then f else nI k) (if nI (seR L w b) ≤ s then s else nI (seR L w b)) else ((if nI (seR L w b) ≤ s then f else nI k), (if nI (seR L w b) ≤ s then s else nI (seR L w b)))) = V := (if_pos hp).symm.trans eV
      have s9 := seR_le (L := L) hw hb
      refine cwg_sells l (d + 1) ru ta rs I1 J _ Q L (h.k29 g) w hr hw b hb hp (fun I2 J2 f2 => ?_)
      have g2 : F24 29 I I2 := g.tr (F24.n f2)
      have r2 : RC (qT Q) w (I2 29) := by rw [f2 29 (by decide)]; exact hr
      refine And.intro (fun (z : nI (seR L w b) ≤ s) => ?_) (fun (z : ¬ nI (seR L w b) ≤ s) => ?_)
      · rw [if_pos z, if_pos z] at eV2
        refine cwg_passHour l d ru ta rs I2 J2 _ Q L (h.k29 g2) w r2 hw (fun hc I3 J3 f3 r3 => ?_) (fun hc => ?_)
        · rw [if_pos hc] at eV2
          refine And.intro (fun _ => ?_) (fun z => absurd (show (1 : Int32) = 0 from z) (by decide))
          refine hK 55 [some (.ref 0), some (.int (nI b)), some (.int (nI N)), some (.int y), some (.int s), some (.int f), some (.int (nI k + 1)), some (.int (nI (seR L w b)))] [] (shH ru ta rs) I3 J3 0 0 ?_
          rw [nI_1]
          exact ih (k + 1) n J3 I3 _ f s _ (by omega) (by omega) (g2.tr f3) r3 (hw.hr t8 hc) hs eV2
        · rw [if_neg (by rw [hc]; decide)] at eV2
          have fi := fin I2 J2 f s g2 eV2
          refine And.intro (fun z => absurd rfl z) (fun _ => ?_)
          exact And.intro (fun z => fi.1 z) (fun z => fi.2 z)
      · rw [if_neg z, if_neg z] at eV2
        refine cwg_passHour l d ru ta rs I2 J2 _ Q L (h.k29 g2) w r2 hw (fun hc I3 J3 f3 r3 => ?_) (fun hc => ?_)
        · rw [if_pos hc] at eV2
          refine And.intro (fun _ => ?_) (fun z => absurd (show (1 : Int32) = 0 from z) (by decide))
          refine hK 55 [some (.ref 0), some (.int (nI b)), some (.int (nI N)), some (.int y), some (.int (nI (seR L w b))), some (.int (nI k)), some (.int (nI k + 1)), some (.int (nI (seR L w b)))] [] (shH ru ta rs) I3 J3 0 0 ?_
          rw [nI_1]
          exact ih (k + 1) n J3 I3 _ _ _ _ (by omega) (by omega) (g2.tr f3) r3 (hw.hr t8 hc) (n1_le (by omega)) eV2
        · rw [if_neg (by rw [hc]; decide)] at eV2
          have fi := fin I2 J2 _ _ g2 eV2
          refine And.intro (fun z => absurd rfl z) (fun _ => ?_)
          exact And.intro (fun z => fi.1 z) (fun z => fi.2 z)
    · have hp := hn0 b hb rfl
      have eV2 : (f, s) = V := (wnN_n hp (m + 1) k).symm.trans eV
      refine And.intro (fun _ => ?_) (fun z => absurd rfl z)
      refine And.intro (fun _ => ?_) (fun z => absurd (show (-1 : Int32) ≤ s from hs) z)
      refine cwg_passHour l d ru ta rs I1 J _ Q L (h.k29 g) w hr hw (fun hc I3 J3 f3 r3 => ?_) (fun hc => ?_)
      · refine And.intro (fun _ => ?_) (fun z => absurd (show (1 : Int32) = 0 from z) (by decide))
        refine hK 55 [some (.ref 0), some (.int (nI b)), some (.int (nI N)), some (.int y), some (.int s), some (.int f), some (.int (nI k + 1)), some (.int (-1))] [] (shH ru ta rs) I3 J3 0 0 ?_
        rw [nI_1]
        have hp2 : ¬ 0 < hrR Q L w (28 + b) := by rw [hrR_n t8 hb hp]; exact hp
        exact ih (k + 1) n J3 I3 _ f s _ (by omega) (by omega) (g.tr f3) r3 (hw.hr t8 hc) hs ((wnN_n hp2 m (k + 1)).trans eV2)
      · have fi := fin I1 J f s g eV2
        refine And.intro (fun z => absurd rfl z) (fun _ => ?_)
        exact And.intro (fun z => fi.1 z) (fun z => fi.2 z)
set_option maxRecDepth 100000 in
set_option maxHeartbeats 2000000 in
theorem cd_when (l : Launch) (d : Nat) (ru ta : Nat) (rs : List XO) (I : XI) (J : XJ) (Rp : XR) (L : Lws) (A : Ast) (hA : AOK A) (h : CA I ru L A) (x y z : Int32) (hR : ∀ (I' : XI) (J' : XJ), F24 29 I I' → Rp (some (.int (wnS L A x y z))) (shH ru ta rs) I' J') : xm l (d + 6) 0 0 mX11_when [.ref 0, .int x, .int y, .int z] (shH ru ta rs) I J Rp := by
  have none_ : (vIn x 12 && decide (0 < oW A (28 + x.toNatClampNeg)) && rIn y 0 60 && rIn z 0 1) = false → Rp (some (.int (-1))) (shH ru ta rs) I J := fun e => by
    have z := hR I J F24.rf
    unfold wnS at z
    rw [e] at z
    exact z
  refine xm_ofK 70 (X := xxX11) (t := tX11_when) (stop := [55]) (ini := false) xx11 pl11 rfl kX11_when (fun h => by cases h) (Nat.le_of_ble_eq_true rfl) (fun K hK => ?_)
  refine cw_hasBale l (d + 4) ru ta rs I J _ _ (oW A) h.2.1 hA.2.1 x (fun b hb ex hp => ?_) (fun hn => ?_)
  · refine And.intro (fun z => absurd (show (1 : Int32) = 0 from z) (by decide)) (fun _ => ?_)
    have hx : (vIn x 12 && decide (0 < oW A (28 + x.toNatClampNeg))) = true := by
      rw [ex, vIn_n (by omega) hb, nI_clamp (by omega), decide_eq_true hp]
      rfl
    refine cd_in l (d + 4) y 0 60 _ _ _ _ (fun hy => ?_) (fun hy => ?_)
    · refine And.intro (fun z => absurd (show (1 : Int32) = 0 from z) (by decide)) (fun _ => ?_)
      refine cd_in l (d + 4) z 0 1 _ _ _ _ (fun hz => ?_) (fun hz => ?_)
      · refine And.intro (fun _ => ?_) (fun z => absurd (show (1 : Int32) = 0 from z) (by decide))
        obtain ⟨k, _, k9, ey, ey2⟩ := rIn_t (by omega) (by omega) hy
        have eS : wnS L A x y z = (if z = 0 then (wnN (oQ A) L b (k + 1) 0 (oW A) (-1) (-1)).1 else (wnN (oQ A) L b (k + 1) 0 (oW A) (-1) (-1)).2) := by
          unfold wnS
          rw [hx, hy, hz, ey2, ex, nI_clamp (by omega)]
          rfl
        rw [eS] at hR
        subst ey ex
        refine cwg_take l (d + 4) ru ta rs I J _ (fun I1 f1 e1 => ?_)
        have f : F24 29 I I1 := fun q _ b => f1 q b
        exact hK 55 [some (.ref 0), some (.int (nI b)), some (.int (nI k)), some (.int z), some (.int (-1)), some (.int (-1)), some (.int (nI 0)), none] [] _ _ _ _ _ (cd_wn_loop l d ru ta rs I Rp (oQ A) L h.1 b k hb k9 z _ hR (k + 1) 0 70 J I1 (oW A) (-1) (-1) none (by omega) (by omega) f (h.2.1.cg (fun _ _ => rfl) e1) hA.2.1 (by decide) rfl)
      · refine And.intro (fun z => absurd rfl z) (fun _ => ?_)
        exact none_ (by rw [hz]; exact Bool.and_false _)
    · refine And.intro (fun _ => ?_) (fun z => absurd rfl z)
      exact none_ (by rw [hy, Bool.and_false]; rfl)
  · refine And.intro (fun _ => ?_) (fun z => absurd rfl z)
    refine none_ ?_
    have e0 : (vIn x 12 && decide (0 < oW A (28 + x.toNatClampNeg))) = false := by
      cases e : vIn x 12 with
      | false => rfl
      | true =>
        obtain ⟨b, hb, ey, ey2⟩ := vIn_t (by omega) e
        rw [ey2, decide_eq_false (hn b hb ey)]
        rfl
    rw [e0]
    rfl
-- the reference
abbrev wnq (l : Launch) (d : Nat) (ru ta : Nat) (rs : List XO) (J : XJ) (Rp : XR) (n b N : Nat) (y f s g : Int32) (h : Nat) (o : Option Value) (I : XI) : Prop := xrun xxX12 (some .int) false false (shH ru ta rs).length 0 0 none l (d + 13) tX12_when [45] Rp n 45 [some (.ref 67), some (.int (nI b)), some (.int (nI N)), some (.int y), some (.int f), some (.int s), some (.int g), some (.int (nI h)), o] [] (shH ru ta rs) I J 0 0
set_option maxRecDepth 100000 in
set_option maxHeartbeats 4000000 in
theorem md_wn_loop (l : Launch) (d : Nat) (ru ta : Nat) (rs : List XO) (I : XI) (Rp : XR) (Q : Tld) (L : Lws) (h : RE I Q L) (b N : Nat) (hb : b < 12) (hN : N ≤ 60) (y : Int32) (V : Int32 × Int32) (hR : ∀ (I' : XI) (J' : XJ), F93 I I' → WR (I' 93) → Rp (some (.int (if y = 0 then V.1 else V.2))) (shH ru ta rs) I' J') : ∀ (m k n : Nat) (J : XJ) (I1 : XI) (w : Rw) (f s : Int32) (o : Option Value), k + m = N + 1 → 2 * m + 1 < n → F93 I I1 → I1 93 = w → WR w → wnN Q L b m k w f s = V → wnq l d ru ta rs J Rp n b N y f s (nI 1) k o I1 := by
  have t8 := h.1.2.1
  have fin : ∀ (I2 : XI) (J2 : XJ) (f s : Int32), F93 I I2 → WR (I2 93) → (f, s) = V → (¬ y = 0 → Rp (some (.int s)) (shH ru ta rs) I2 J2) ∧ (y = 0 → Rp (some (.int f)) (shH ru ta rs) I2 J2) := fun I2 J2 f s g w2 e => by
    have z := hR I2 J2 g w2
    rw [← e] at z
    refine ⟨fun c => ?_, fun c => ?_⟩
    · rw [if_neg c] at z
      exact z
    · rw [if_pos c] at z
      exact z
  have stopd : ∀ (n k : Nat) (J : XJ) (I1 : XI) (f s : Int32) (o : Option Value), F93 I I1 → WR (I1 93) → (f, s) = V → wnq l d ru ta rs J Rp (n + 1) b N y f s (nI 0) k o I1 := fun n k J I1 f s o g w1 e => by
    have fi := fin I1 J f s g w1 e
    refine xrun_step fun K hK => ?_
    refine And.intro (fun _ => ?_) (fun _ => ?_)
    · exact And.intro (fun z => fi.1 z) (fun z => fi.2 z)
    · refine And.intro (fun _ => ?_) (fun z => absurd rfl z)
      exact And.intro (fun z => fi.1 z) (fun z => fi.2 z)
  intro m
  induction m with
  | zero =>
    intro k n J I1 w f s o hk hn g ew hw eV
    obtain ⟨n, rfl⟩ : ∃ n', n = n' + 1 := ⟨n - 1, by omega⟩
    have fi := fin I1 J f s g (by rw [ew]; exact hw) eV
    refine xrun_step fun K hK => ?_
    refine And.intro (fun _ => ?_) (fun z => absurd (show nI N < nI k from (nlt (by omega) (by omega)).mpr (by omega)) z)
    exact And.intro (fun z => fi.1 z) (fun z => fi.2 z)
  | succ m ih =>
    intro k n J I1 w f s o hk hn g ew hw eV
    obtain ⟨n, rfl⟩ : ∃ n', n = n' + 1 + 1 := ⟨n - 2, by omega⟩
    have ib : (nI 28 + nI b).toNatClampNeg = 28 + b := ix_c (by omega)
    have e28 : I1 93 (nI 28 + nI b).toNatClampNeg = w (28 + b) := by rw [ib, ew]
    have re1 : RE I1 Q L := h.keep g
    have wr1 : WR (I1 93) := by rw [ew]; exact hw
    refine xrun_step fun K hK => ?_
    refine And.intro (fun z => absurd ((nlt (by omega) (by omega)).mp (show nI N < nI k from z)) (by omega)) (fun _ => ?_)
    refine And.intro (fun z => absurd (show nI 1 = 0 from z) (by decide)) (fun _ => ?_)
    refine And.intro (show vp_in (nI 28 + nI b) 69 from vx_2 (by omega) (by omega)) ?_
    refine And.intro (fun (z : ¬ I1 93 (nI 28 + nI b).toNatClampNeg = 0) => ?_) (fun (z : I1 93 (nI 28 + nI b).toNatClampNeg = 0) => ?_)
    · rw [e28] at z
      have hp : 0 < w (28 + b) := by
        obtain ⟨q, eq, hq⟩ := hw (28 + b) (by omega) (by omega)
        have bd := bdW_le (28 + b)
        rw [eq] at z ⊢
        exact (npos (by omega)).mpr (by
          rcases Nat.eq_zero_or_pos q with c | c
          · exact absurd (by rw [c]; rfl) z
          · exact c)
      have eV2 : (if cnP w = true then wnN Q L b m (k + 1) (hrR Q L w) (if nI (seR L w b) ≤ s then f else nI k) (if nI (seR L w b) ≤ s then s else nI (seR L w b)) else ((if nI (seR L w b) ≤ s then f else nI k), (if nI (seR L w b) ≤ s then s else nI (seR L w b)))) = V := (if_pos hp).symm.trans eV
      refine rx_sells l (d + 4) ru ta rs I1 J _ Q L re1 wr1 b hb (fun I2 J2 f2 => ?_)
      rw [ew]
      have g2 : F93 I I2 := g.tr (F93.n f2)
      have e2 : I2 93 = w := (f2 93 (by decide)).trans ew
      have nxt : ∀ (f s : Int32), (if cnP w = true then wnN Q L b m (k + 1) (hrR Q L w) f s else (f, s)) = V → (∀ (o : Option Value) (J3 : XJ) (I3 : XI), F93 I2 I3 → I3 93 = ptR Q L 1 w → (cnP w = true → wnq l d ru ta rs J3 Rp (n + 1) b N y f s (nI 1) (k + 1) o I3) ∧ (cnP w = false → wnq l d ru ta rs J3 Rp (n + 1) b N y f s (nI 0) (k + 1) o I3)) := fun f s e o J3 I3 f3 e3 => by
        have wr3 : WR (I3 93) := by rw [e3]; exact hw.pt t8 1 _
        refine ⟨fun hc => ?_, fun hc => ?_⟩
        · rw [if_pos hc] at e
          have ep : ptR Q L 1 w = hrR Q L w := if_pos hc
          rw [ep] at e3
          exact ih (k + 1) (n + 1) J3 I3 _ f s o (by omega) (by omega) (g2.tr f3) e3 (hw.hr t8 hc) e
        · rw [if_neg (by rw [hc]; decide)] at e
          exact stopd n (k + 1) J3 I3 f s o (g2.tr f3) wr3 e
      have wr2 : WR (I2 93) := by rw [e2]; exact hw
      have re2 : RE I2 Q L := h.keep g2
      refine And.intro (fun (z : nI (seR L w b) ≤ s) => ?_) (fun (z : ¬ nI (seR L w b) ≤ s) => ?_)
      · rw [if_pos z, if_pos z] at eV2
        have nx := nxt _ _ eV2
        refine rx_canPass l (d + 12) ru ta rs I2 J2 _ (fun hc => ?_) (fun hc => ?_)
        · rw [e2] at hc
          refine rx_pt l d ru ta rs I2 J2 _ Q L re2 wr2 1 (by decide) (fun I3 J3 f3 e3 => ?_)
          rw [e2] at e3
          refine hK 45 [some (.ref 67), some (.int (nI b)), some (.int (nI N)), some (.int y), some (.int f), some (.int s), some (.int (nI 1)), some (.int (nI k + 1)), some (.int (nI (seR L w b)))] [] (shH ru ta rs) I3 J3 0 0 ?_
          rw [nI_1]
          exact (nx _ J3 I3 f3 e3).1 hc
        · rw [e2] at hc
          refine rx_pt l d ru ta rs I2 J2 _ Q L re2 wr2 1 (by decide) (fun I3 J3 f3 e3 => ?_)
          rw [e2] at e3
          refine hK 45 [some (.ref 67), some (.int (nI b)), some (.int (nI N)), some (.int y), some (.int f), some (.int s), some (.int (nI 0)), some (.int (nI k + 1)), some (.int (nI (seR L w b)))] [] (shH ru ta rs) I3 J3 0 0 ?_
          rw [nI_1]
          exact (nx _ J3 I3 f3 e3).2 hc
      · rw [if_neg z, if_neg z] at eV2
        have nx := nxt _ _ eV2
        refine rx_canPass l (d + 12) ru ta rs I2 J2 _ (fun hc => ?_) (fun hc => ?_)
        · rw [e2] at hc
          refine rx_pt l d ru ta rs I2 J2 _ Q L re2 wr2 1 (by decide) (fun I3 J3 f3 e3 => ?_)
          rw [e2] at e3
          refine hK 45 [some (.ref 67), some (.int (nI b)), some (.int (nI N)), some (.int y), some (.int (nI k)), some (.int (nI (seR L w b))), some (.int (nI 1)), some (.int (nI k + 1)), some (.int (nI (seR L w b)))] [] (shH ru ta rs) I3 J3 0 0 ?_
          rw [nI_1]
          exact (nx _ J3 I3 f3 e3).1 hc
        · rw [e2] at hc
          refine rx_pt l d ru ta rs I2 J2 _ Q L re2 wr2 1 (by decide) (fun I3 J3 f3 e3 => ?_)
          rw [e2] at e3
          refine hK 45 [some (.ref 67), some (.int (nI b)), some (.int (nI N)), some (.int y), some (.int (nI k)), some (.int (nI (seR L w b))), some (.int (nI 0)), some (.int (nI k + 1)), some (.int (nI (seR L w b)))] [] (shH ru ta rs) I3 J3 0 0 ?_
          rw [nI_1]
          exact (nx _ J3 I3 f3 e3).2 hc
    · rw [e28] at z
      have hp : ¬ 0 < w (28 + b) := by rw [z]; decide
      have eV2 : (f, s) = V := (wnN_n hp (m + 1) k).symm.trans eV
      refine hK 45 [some (.ref 67), some (.int (nI b)), some (.int (nI N)), some (.int y), some (.int f), some (.int s), some (.int (nI 0)), some (.int (nI k + 1)), o] [] (shH ru ta rs) I1 J 0 0 ?_
      rw [nI_1]
      exact stopd n (k + 1) J I1 f s o g wr1 eV2
set_option maxRecDepth 100000 in
set_option maxHeartbeats 2000000 in
theorem md_when (l : Launch) (d : Nat) (ru ta : Nat) (rs : List XO) (I : XI) (J : XJ) (Rp : XR) (L : Lws) (A : Ast) (hA : AOK A) (h : MA I L A) (x y z : Int32) (hR : ∀ (I' : XI) (J' : XJ), FQ I I' → Rp (some (.int (wnS L A x y z))) (shH ru ta rs) I' J') : xm l (d + 14) 0 0 mX12_when [.ref 67, .int x, .int y, .int z] (shH ru ta rs) I J Rp := by
  have h0 := h
  obtain ⟨hre, hlay, hs⟩ := h
  have none_ : (vIn x 12 && decide (0 < oW A (28 + x.toNatClampNeg)) && rIn y 0 60 && rIn z 0 1) = false → Rp (some (.int (-1))) (shH ru ta rs) I J := fun e => by
    have z := hR I J FQ.rf
    unfold wnS at z
    rw [e] at z
    exact z
  have e88 : ∀ k, k < 12 → I 68 (88 + k) = oW A (28 + k) := fun k hk => by
    rw [← h0.w (k := 28 + k) (by omega), show 60 + (28 + k) = 88 + k by omega]
  refine xm_ofK 130 (X := xxX12) (t := tX12_when) (stop := [45]) (ini := false) xx12 pl12 rfl kX12_when (fun h => by cases h) (Nat.le_of_ble_eq_true rfl) (fun K hK => ?_)
  refine md_isBale l (d + 11) ru ta rs I J _ (oW A) e88 x (fun b hb ex hp => ?_) (fun e0 => ?_)
  · refine And.intro (fun z => absurd (show (1 : Int32) = 0 from z) (by decide)) (fun _ => ?_)
    have hx : (vIn x 12 && decide (0 < oW A (28 + x.toNatClampNeg))) = true := by
      rw [ex, vIn_n (by omega) hb, nI_clamp (by omega), decide_eq_true hp]
      rfl
    refine md_inR l (d + 12) y 0 60 _ _ _ _ (fun hy => ?_) (fun hy => ?_)
    · refine And.intro (fun z => absurd (show (1 : Int32) = 0 from z) (by decide)) (fun _ => ?_)
      refine md_inR l (d + 12) z 0 1 _ _ _ _ (fun hz => ?_) (fun hz => ?_)
      · refine And.intro (fun _ => ?_) (fun z => absurd (show (1 : Int32) = 0 from z) (by decide))
        obtain ⟨k, _, k9, ey, ey2⟩ := rIn_t (by omega) (by omega) hy
        have eS : wnS L A x y z = (if z = 0 then (wnN (oQ A) L b (k + 1) 0 (oW A) (-1) (-1)).1 else (wnN (oQ A) L b (k + 1) 0 (oW A) (-1) (-1)).2) := by
          unfold wnS
          rw [hx, hy, hz, ey2, ex, nI_clamp (by omega)]
          rfl
        rw [eS] at hR
        subst ey ex
        refine rx_lays l (d + 12) ru ta rs I J _ (fun I1 f1 e1 => ?_)
        rw [hlay] at e1
        exact hK 45 [some (.ref 67), some (.int (nI b)), some (.int (nI k)), some (.int z), some (.int (-1)), some (.int (-1)), some (.int (nI 1)), some (.int (nI 0)), none] [] _ _ _ _ _ (md_wn_loop l d ru ta rs I Rp (oQ A) L hre b k hb k9 z _ (fun I2 J2 f2 w2 => hR I2 J2 (FQ.w f2 w2)) (k + 1) 0 130 J I1 (oW A) (-1) (-1) none (by omega) (by omega) f1 e1 hA.2.1 rfl)
      · refine And.intro (fun z => absurd rfl z) (fun _ => ?_)
        exact none_ (by rw [hz]; exact Bool.and_false _)
    · refine And.intro (fun _ => ?_) (fun z => absurd rfl z)
      exact none_ (by rw [hy, Bool.and_false]; rfl)
  · refine And.intro (fun _ => ?_) (fun z => absurd rfl z)
    exact none_ (by rw [e0]; rfl)

