-- ===== the reference's next token, exactly =====
def tkR (s v : Int32) (q : TK) : Prop := match q.1 with
  | 0 => s = 0
  | 1 => s = 1 ∧ v = nI q.2.1
  | 2 => s = 2 ∧ ((q.2.1 < 10000 ∧ v = nI q.2.1) ∨ (q.2.1 = 10000 ∧ nI 10000 ≤ v))
  | 3 => s = 3 ∧ v = nI q.2.1
  | _ => s = 4 ∨ (s = 3 ∧ v = 44)
/-- the token that is come to -/
def RTK (I : XI) (q : TK) : Prop := I 67 15 = nI q.2.2.2 ∧ I 67 16 = nI q.2.2.1 ∧ tkR (I 67 17) (I 67 18) q
theorem en64_snoc : ∀ (l : List Int32) (x : Int32) (L : Int64), en64 (l ++ [x]) L = 64 * en64 l L + x.toInt64 - 64
  | [], _, _ => rfl
  | y :: l, x, L => by
    rw [List.cons_append, en64, en64]
    exact en64_snoc l x _
theorem ltN_snoc (B : Nat → Int32) : ∀ (n i : Nat), ltN B (n + 1) i = ltN B n i ++ [B (i + n)]
  | 0, i => rfl
  | n + 1, i => by
    rw [ltN, ltN_snoc B n (i + 1), ltN, List.cons_append, show i + 1 + n = i + (n + 1) by omega]
theorem wy {Rp : XR} {sh : List XO} {I : XI} {J : XJ} {L c : Int64} {r : List Int64} {k : Nat} (hR : Rp (some (.int (wIx L (c :: r) k))) sh I J) (h : L = c) : Rp (some (.int (nI k))) sh I J := by
  rw [wIx_y h] at hR
  exact hR
theorem wn {Rp : XR} {sh : List XO} {I : XI} {J : XJ} {L c : Int64} {r : List Int64} {k : Nat} (hR : Rp (some (.int (wIx L (c :: r) k))) sh I J) (h : ¬ L = c) : Rp (some (.int (wIx L r (k + 1)))) sh I J := by
  rw [wIx_n h] at hR
  exact hR
set_option maxRecDepth 100000 in
set_option maxHeartbeats 1000000 in
theorem ux_wordOf (l : Launch) (d : Nat) (L : Int64) (sh : List XO) (I : XI) (J : XJ) (Rp : XR) (hR : Rp (some (.int (wIx L [11729831, 667614707, 55578630963, 865520435, 186489, 883071911, 54316697970, 9051310, 146804, 11672820, 220389, 11992485, 13523756, 10681714, 11443108, 3046, 2233, 3375, 10169325, 3058, 138148, 191476, 12721332, 149625, 43581340212, 667614702, 598932836, 9575595, 47877618984, 10640549, 803137906, 55440722935] 0))) sh I J) : xm l (d + 1) 0 0 mX12_wordOf [.long L] sh I J Rp := by
  refine xm_ofK 0 (X := xxX12) (t := tX12_wordOf) (stop := []) (ini := false) xx12 pl12 rfl kX12_wordOf (fun h => by cases h) (Nat.le_of_ble_eq_true rfl) (fun K hK => ?_)
  refine And.intro (fun h => ?_) (fun h => ?_)
  case refine_2 => exact wy hR ((lg_cmp_eq L 11729831).mp h)
  replace hR := wn hR (fun z => h ((lg_cmp_eq L 11729831).mpr z))
  refine And.intro (fun h => ?_) (fun h => ?_)
  case refine_2 => exact wy hR ((lg_cmp_eq L 667614707).mp h)
  replace hR := wn hR (fun z => h ((lg_cmp_eq L 667614707).mpr z))
  refine And.intro (fun h => ?_) (fun h => ?_)
  case refine_2 => exact wy hR ((lg_cmp_eq L 55578630963).mp h)
  replace hR := wn hR (fun z => h ((lg_cmp_eq L 55578630963).mpr z))
  refine And.intro (fun h => ?_) (fun h => ?_)
  case refine_2 => exact wy hR ((lg_cmp_eq L 865520435).mp h)
  replace hR := wn hR (fun z => h ((lg_cmp_eq L 865520435).mpr z))
  refine And.intro (fun h => ?_) (fun h => ?_)
  case refine_2 => exact wy hR ((lg_cmp_eq L 186489).mp h)
  replace hR := wn hR (fun z => h ((lg_cmp_eq L 186489).mpr z))
  refine And.intro (fun h => ?_) (fun h => ?_)
  case refine_2 => exact wy hR ((lg_cmp_eq L 883071911).mp h)
  replace hR := wn hR (fun z => h ((lg_cmp_eq L 883071911).mpr z))
  refine And.intro (fun h => ?_) (fun h => ?_)
  case refine_2 => exact wy hR ((lg_cmp_eq L 54316697970).mp h)
  replace hR := wn hR (fun z => h ((lg_cmp_eq L 54316697970).mpr z))
  refine And.intro (fun h => ?_) (fun h => ?_)
  case refine_2 => exact wy hR ((lg_cmp_eq L 9051310).mp h)
  replace hR := wn hR (fun z => h ((lg_cmp_eq L 9051310).mpr z))
  refine And.intro (fun h => ?_) (fun h => ?_)
  case refine_2 => exact wy hR ((lg_cmp_eq L 146804).mp h)
  replace hR := wn hR (fun z => h ((lg_cmp_eq L 146804).mpr z))
  refine And.intro (fun h => ?_) (fun h => ?_)
  case refine_2 => exact wy hR ((lg_cmp_eq L 11672820).mp h)
  replace hR := wn hR (fun z => h ((lg_cmp_eq L 11672820).mpr z))
  refine And.intro (fun h => ?_) (fun h => ?_)
  case refine_2 => exact wy hR ((lg_cmp_eq L 220389).mp h)
  replace hR := wn hR (fun z => h ((lg_cmp_eq L 220389).mpr z))
  refine And.intro (fun h => ?_) (fun h => ?_)
  case refine_2 => exact wy hR ((lg_cmp_eq L 11992485).mp h)
  replace hR := wn hR (fun z => h ((lg_cmp_eq L 11992485).mpr z))
  refine And.intro (fun h => ?_) (fun h => ?_)
  case refine_2 => exact wy hR ((lg_cmp_eq L 13523756).mp h)
  replace hR := wn hR (fun z => h ((lg_cmp_eq L 13523756).mpr z))
  refine And.intro (fun h => ?_) (fun h => ?_)
  case refine_2 => exact wy hR ((lg_cmp_eq L 10681714).mp h)
  replace hR := wn hR (fun z => h ((lg_cmp_eq L 10681714).mpr z))
  refine And.intro (fun h => ?_) (fun h => ?_)
  case refine_2 => exact wy hR ((lg_cmp_eq L 11443108).mp h)
  replace hR := wn hR (fun z => h ((lg_cmp_eq L 11443108).mpr z))
  refine And.intro (fun h => ?_) (fun h => ?_)
  case refine_2 => exact wy hR ((lg_cmp_eq L 3046).mp h)
  replace hR := wn hR (fun z => h ((lg_cmp_eq L 3046).mpr z))
  refine And.intro (fun h => ?_) (fun h => ?_)
  case refine_2 => exact wy hR ((lg_cmp_eq L 2233).mp h)
  replace hR := wn hR (fun z => h ((lg_cmp_eq L 2233).mpr z))
  refine And.intro (fun h => ?_) (fun h => ?_)
  case refine_2 => exact wy hR ((lg_cmp_eq L 3375).mp h)
  replace hR := wn hR (fun z => h ((lg_cmp_eq L 3375).mpr z))
  refine And.intro (fun h => ?_) (fun h => ?_)
  case refine_2 => exact wy hR ((lg_cmp_eq L 10169325).mp h)
  replace hR := wn hR (fun z => h ((lg_cmp_eq L 10169325).mpr z))
  refine And.intro (fun h => ?_) (fun h => ?_)
  case refine_2 => exact wy hR ((lg_cmp_eq L 3058).mp h)
  replace hR := wn hR (fun z => h ((lg_cmp_eq L 3058).mpr z))
  refine And.intro (fun h => ?_) (fun h => ?_)
  case refine_2 => exact wy hR ((lg_cmp_eq L 138148).mp h)
  replace hR := wn hR (fun z => h ((lg_cmp_eq L 138148).mpr z))
  refine And.intro (fun h => ?_) (fun h => ?_)
  case refine_2 => exact wy hR ((lg_cmp_eq L 191476).mp h)
  replace hR := wn hR (fun z => h ((lg_cmp_eq L 191476).mpr z))
  refine And.intro (fun h => ?_) (fun h => ?_)
  case refine_2 => exact wy hR ((lg_cmp_eq L 12721332).mp h)
  replace hR := wn hR (fun z => h ((lg_cmp_eq L 12721332).mpr z))
  refine And.intro (fun h => ?_) (fun h => ?_)
  case refine_2 => exact wy hR ((lg_cmp_eq L 149625).mp h)
  replace hR := wn hR (fun z => h ((lg_cmp_eq L 149625).mpr z))
  refine And.intro (fun h => ?_) (fun h => ?_)
  case refine_2 => exact wy hR ((lg_cmp_eq L 43581340212).mp h)
  replace hR := wn hR (fun z => h ((lg_cmp_eq L 43581340212).mpr z))
  refine And.intro (fun h => ?_) (fun h => ?_)
  case refine_2 => exact wy hR ((lg_cmp_eq L 667614702).mp h)
  replace hR := wn hR (fun z => h ((lg_cmp_eq L 667614702).mpr z))
  refine And.intro (fun h => ?_) (fun h => ?_)
  case refine_2 => exact wy hR ((lg_cmp_eq L 598932836).mp h)
  replace hR := wn hR (fun z => h ((lg_cmp_eq L 598932836).mpr z))
  refine And.intro (fun h => ?_) (fun h => ?_)
  case refine_2 => exact wy hR ((lg_cmp_eq L 9575595).mp h)
  replace hR := wn hR (fun z => h ((lg_cmp_eq L 9575595).mpr z))
  refine And.intro (fun h => ?_) (fun h => ?_)
  case refine_2 => exact wy hR ((lg_cmp_eq L 47877618984).mp h)
  replace hR := wn hR (fun z => h ((lg_cmp_eq L 47877618984).mpr z))
  refine And.intro (fun h => ?_) (fun h => ?_)
  case refine_2 => exact wy hR ((lg_cmp_eq L 10640549).mp h)
  replace hR := wn hR (fun z => h ((lg_cmp_eq L 10640549).mpr z))
  refine And.intro (fun h => ?_) (fun h => ?_)
  case refine_2 => exact wy hR ((lg_cmp_eq L 803137906).mp h)
  replace hR := wn hR (fun z => h ((lg_cmp_eq L 803137906).mpr z))
  refine And.intro (fun h => ?_) (fun h => ?_)
  case refine_2 => exact wy hR ((lg_cmp_eq L 55440722935).mp h)
  replace hR := wn hR (fun z => h ((lg_cmp_eq L 55440722935).mpr z))
  exact hR
theorem word_val {B : Nat → Int32} {T i : Nat} (hi : i ≤ T) (h7 : (lts B T i).length ≤ 7) : wIx (en64 (lts B T i) 0) [11729831, 667614707, 55578630963, 865520435, 186489, 883071911, 54316697970, 9051310, 146804, 11672820, 220389, 11992485, 13523756, 10681714, 11443108, 3046, 2233, 3375, 10169325, 3058, 138148, 191476, 12721332, 149625, 43581340212, 667614702, 598932836, 9575595, 47877618984, 10640549, 803137906, 55440722935] 0 = oI (kW (lts B T i) wT 0) := by
  rw [wK_en]
  exact wIx_k (lts_let hi) h7 wT 0 wT_let
theorem word_long {B : Nat → Int32} {T i : Nat} (h : 7 < (lts B T i).length) : kW (lts B T i) wT 0 = none := by
  cases e : kW (lts B T i) wT 0 with
  | none => rfl
  | some k =>
    obtain ⟨m, _, h2⟩ := kW_some e
    have := (wT_let _ (List.mem_of_getElem? h2)).1
    omega
/-- what next() leaves -/
def NXe (I I' : XI) (T a0 : Nat) : Prop := EQT I I' ∧ RTK I' (lexS (I 70) T a0)
theorem NXe.nx {I I' : XI} {T a0 : Nat} (e0 : I 67 15 = nI a0) (ha : a0 ≤ T) (h : NXe I I' T a0) : NX I I' T := by
  obtain ⟨q, r1, r2, r3⟩ := h
  have b := lexS_b (B := I 70) ha
  generalize lexS (I 70) T a0 = tk at *
  obtain ⟨s, v, p, x⟩ := tk
  refine ⟨q, a0, x, e0, r1, b.1, b.2.1, ?_, fun z => ?_⟩
  · by_cases e : s = 0
    · left
      subst e
      exact r3
    · right
      exact b.2.2.1 e
  · have b4 : s ≤ 4 := b.2.2.2.1
    have y : s = 0 ∨ s = 1 ∨ s = 2 ∨ s = 3 ∨ s = 4 := by omega
    rcases y with rfl | rfl | rfl | rfl | rfl
    · have r3 : I' 67 17 = 0 := r3
      exact absurd (r3.symm.trans z) (by decide)
    · have r3 : I' 67 17 = 1 ∧ I' 67 18 = nI v := r3
      have := b.2.2.2.2.2.1 rfl
      have this : v < 32 := this
      rw [r3.2, nI_toInt (by omega)]
      omega
    · exact absurd (r3.1.symm.trans z) (by decide)
    · exact absurd (r3.1.symm.trans z) (by decide)
    · have r3 : I' 67 17 = 4 ∨ (I' 67 17 = 3 ∧ I' 67 18 = 44) := r3
      rcases r3 with r3 | ⟨r3, _⟩
      · exact absurd (r3.symm.trans z) (by decide)
      · exact absurd (r3.symm.trans z) (by decide)
abbrev uxr (l : Launch) (d : Nat) (ru_ ta : Nat) (rs : List XO) (J : XJ) (Rp : XR) (n pc : Nat) (lc : List (Option Value)) (I' : XI) : Prop := xrun xxX12 none false false (shH ru_ ta rs).length 0 0 none l (d + 3) tX12_next [0, 52, 99, 173, 232, 373] Rp n pc lc [] (shH ru_ ta rs) I' J 0 0
section UX
variable (l : Launch) (d T : Nat) (ru_ ta : Nat) (rs : List XO) (I : XI) (J : XJ) (Rp : XR) (a0 : Nat)
set_option maxRecDepth 100000 in
set_option maxHeartbeats 1000000 in
theorem ux_173 (hT : T ≤ 300) (hR : ∀ I', NXe I I' T a0 → Rp none (shH ru_ ta rs) I' J) (b0 n : Nat) (hb : b0 < T) (elex : lexS (I 70) T a0 = lexC (I 70) T b0) (hlet : bLt (I 70 b0) = true) (x : Int32) (L : Int64) (hL : ru bLt (I 70) T b0 - b0 ≤ 8 → L = en64 (lts (I 70) T b0) 0) (I' : XI) (q : EQT I I') (e : I' 67 15 = nI (ru bLt (I 70) T b0)) (e16 : I' 67 16 = nI b0) : uxr l d ru_ ta rs J Rp (n + 1) 173 [some (.ref 67), some (.int x), some (.long L), none, some (.int (nI (ru bLt (I 70) T b0 - b0)))] I' := by
  have hlen : (lts (I 70) T b0).length = ru bLt (I 70) T b0 - b0 := ltN_len _ _ _
  have hle := ru_le (f := bLt) (B := I 70) (T := T) (i := b0) (by omega)
  have ek := elex.trans (lexC_lt hb hlet)
  have fin : ∀ (r s : Int32), tkR s r (lexS (I 70) T a0) → Rp none (shH ru_ ta rs) (uI (uI I' 67 18 r) 67 17 s) J := by
    intro r s hr
    refine hR _ ⟨(q.u (by omega) (by omega)).u (by omega) (by omega), ?_, ?_, ?_⟩
    · rw [uI_atC, uI_atC, if_neg (by decide), if_neg (by decide), e, ek]
      cases kW (lts (I 70) T b0) wT 0 <;> rfl
    · rw [uI_atC, uI_atC, if_neg (by decide), if_neg (by decide), e16, ek]
      cases kW (lts (I 70) T b0) wT 0 <;> rfl
    · rw [uI_atC, uI_atC, uI_atC, uI_atC, if_pos rfl, if_neg (by decide), if_pos rfl]
      exact hr
  refine xrun_step fun K hK => ?_
  refine And.intro (fun h => ?_) (fun h => ?_)
  · have h : nI (ru bLt (I 70) T b0 - b0) ≤ nI 7 := h
    rw [nI_leI (by omega) (by omega)] at h
    refine ux_wordOf l (d + 2) L _ I' J _ ?_
    rw [hL (by omega), word_val (by omega) (by omega)]
    cases hk : kW (lts (I 70) T b0) wT 0 with
    | some k =>
      rw [hk] at ek
      refine And.intro (fun _ => fin (nI k) 1 ?_) (fun h => absurd (nI_pos' (by have := kW_lt hk; omega)) h)
      rw [ek]
      exact ⟨rfl, rfl⟩
    | none =>
      rw [hk] at ek
      refine And.intro (fun h => absurd (show (0 : Int32) ≤ -1 from h) (by decide)) (fun _ => fin (-1) 4 ?_)
      rw [ek]
      exact Or.inl rfl
  · have h : ¬ nI (ru bLt (I 70) T b0 - b0) ≤ nI 7 := h
    rw [nI_leI (by omega) (by omega)] at h
    rw [word_long (by omega)] at ek
    refine And.intro (fun h => absurd (show (0 : Int32) ≤ -1 from h) (by decide)) (fun _ => fin (-1) 4 ?_)
    rw [ek]
    exact Or.inl rfl
set_option maxRecDepth 100000 in
set_option maxHeartbeats 1000000 in
theorem ux_word (hT : T ≤ 300) (hR : ∀ I', NXe I I' T a0 → Rp none (shH ru_ ta rs) I' J) (e14 : I 67 14 = nI T) (b0 : Nat) (hb : b0 < T) (elex : lexS (I 70) T a0 = lexC (I 70) T b0) (hlet : bLt (I 70 b0) = true) (x : Int32) : ∀ (m n a : Nat) (L : Int64) (I' : XI), a + m = T → m + 1 < n → b0 ≤ a → ru bLt (I 70) T a = ru bLt (I 70) T b0 → (a - b0 ≤ 8 → L = en64 (ltN (I 70) (a - b0) b0) 0) → EQT I I' → I' 67 15 = nI a → I' 67 16 = nI b0 → uxr l d ru_ ta rs J Rp n 99 [some (.ref 67), some (.int x), some (.long L), none, some (.int (nI (a - b0)))] I' := by
  intro m
  have out : ∀ (n a : Nat) (L : Int64) (I' : XI), 1 < n → ru bLt (I 70) T b0 = a → (a - b0 ≤ 8 → L = en64 (ltN (I 70) (a - b0) b0) 0) → EQT I I' → I' 67 15 = nI a → I' 67 16 = nI b0 → uxr l d ru_ ta rs J Rp (n - 1) 173 [some (.ref 67), some (.int x), some (.long L), none, some (.int (nI (a - b0)))] I' := by
    intro n a L I' hn hr hL q e e16
    obtain ⟨n, rfl⟩ : ∃ n', n = n' + 1 + 1 := ⟨n - 2, by omega⟩
    subst hr
    exact ux_173 l d T ru_ ta rs I J Rp a0 hT hR b0 n hb elex hlet x L hL I' q e e16
  induction m with
  | zero =>
    intro n a L I' hm hn hb2 hr hL q e e16
    obtain ⟨n, rfl⟩ : ∃ n', n = n' + 1 + 1 := ⟨n - 2, by omega⟩
    rw [ru_e (show T ≤ a by omega)] at hr
    refine xrun_step fun K hK => ?_
    refine And.intro (fun _ => ?_) (fun h => absurd (nx_ge e14 q e (by omega)) h)
    exact hK 173 [some (.ref 67), some (.int x), some (.long L), none, some (.int (nI (a - b0)))] [] (shH ru_ ta rs) I' J 0 0 (out (n + 1 + 1) a L I' (by omega) hr.symm hL q e e16)
  | succ m ih =>
    intro n a L I' hm hn hb2 hr hL q e e16
    obtain ⟨n, rfl⟩ : ∃ n', n = n' + 1 + 1 := ⟨n - 2, by omega⟩
    have v : vp_in (I' 67 15) 300 := by rw [e]; exact vp_in_nI (by omega) (by omega)
    have ex : I' 70 (I' 67 15).toNatClampNeg = I 70 a := by rw [e, nI_clamp (by omega), q.1 70 (by decide)]
    have go : bLt (I 70 a) = true → ∀ L', (a + 1 - b0 ≤ 8 → L' = en64 (ltN (I 70) (a + 1 - b0) b0) 0) → uxr l d ru_ ta rs J Rp (n + 1) 99 [some (.ref 67), some (.int x), some (.long L'), none, some (.int (nI (a - b0) + 1))] (uI I' 67 15 (I' 67 15 + 1)) := by
      intro hl L' hL'
      rw [nI_1, show a - b0 + 1 = a + 1 - b0 by omega]
      refine ih (n + 1) (a + 1) L' _ (by omega) (by omega) (by omega) (by rw [← ru_t (by omega) hl]; exact hr) hL' (q.u (by omega) (by omega)) ?_ ?_
      · rw [uI_atC, if_pos rfl, e, nI_1]
      · rw [uI_atC, if_neg (by decide)]
        exact e16
    refine xrun_step fun K hK => ?_
    refine And.intro (fun h => absurd h (nx_lt hT e14 q e (by omega))) (fun _ => And.intro v ?_)
    refine tx_isLetter l (d + 1) (I' 70 (I' 67 15).toNatClampNeg) _ _ _ _ (fun hl => ?_) (fun hl => ?_)
    · rw [ex] at hl
      have hl := (bLt_iff _).mpr hl
      refine And.intro (fun h => absurd h (by decide)) (fun _ => ?_)
      refine And.intro (fun h8 => ?_) (fun h8 => And.intro v ?_)
      · have h8 : nI 8 ≤ nI (a - b0) := h8
        rw [nI_leI (by omega) (by omega)] at h8
        exact hK 99 [some (.ref 67), some (.int x), some (.long L), none, some (.int (nI (a - b0) + 1))] [] (shH ru_ ta rs) (uI I' 67 15 (I' 67 15 + 1)) J 0 0 (go hl L (fun z => by omega))
      · have h8 : ¬ nI 8 ≤ nI (a - b0) := h8
        rw [nI_leI (by omega) (by omega)] at h8
        refine hK 99 [some (.ref 67), some (.int x), some (.long (64 * L + (I' 70 (I' 67 15).toNatClampNeg).toInt64 - 64)), none, some (.int (nI (a - b0) + 1))] [] (shH ru_ ta rs) (uI I' 67 15 (I' 67 15 + 1)) J 0 0 (go hl _ (fun _ => ?_))
        rw [ex, hL (by omega), show a + 1 - b0 = (a - b0) + 1 by omega, ltN_snoc, en64_snoc, show b0 + (a - b0) = a by omega]
    · rw [ex] at hl
      have hl : bLt (I 70 a) = false := bF (bLt_iff _) hl
      rw [ru_f hl] at hr
      refine And.intro (fun _ => ?_) (fun h => absurd rfl h)
      exact hK 173 [some (.ref 67), some (.int x), some (.long L), none, some (.int (nI (a - b0)))] [] (shH ru_ ta rs) I' J 0 0 (out (n + 1 + 1) a L I' (by omega) hr.symm hL q e e16)
def nuR (a : Nat) (v : Int32) : Prop := (a < 10000 ∧ v = nI a) ∨ (a = 10000 ∧ ∃ m : Nat, v = nI m ∧ 10000 ≤ m ∧ m < 1100000)
theorem nuR_step {a k : Nat} {v : Int32} (h : nuR a v) (hk : k ≤ 9) : nuR (min 10000 (10 * a + k)) (if nI 99999 < v then v else 10 * v + nI (48 + k) - 48) := by
  rcases h with ⟨h1, rfl⟩ | ⟨h1, m, rfl, h2, h3⟩
  · rw [if_neg (nI_nlt (by omega) (by omega))]
    have e : (10 : Int32) * nI a + nI (48 + k) - 48 = nI (10 * a + k) := by
      rw [show (10 : Int32) = nI 10 from rfl, nI_mul, nI_add, show (48 : Int32) = nI 48 from rfl, nI_subI (by omega) (by omega)]
      congr 1
      omega
    rw [e]
    rcases Nat.lt_or_ge (10 * a + k) 10000 with c | c
    · exact Or.inl ⟨by omega, by rw [Nat.min_eq_right (by omega)]⟩
    · exact Or.inr ⟨by omega, 10 * a + k, rfl, c, by omega⟩
  · refine Or.inr ⟨by omega, ?_⟩
    by_cases c : nI 99999 < nI m
    · rw [if_pos c]
      exact ⟨m, rfl, h2, h3⟩
    · rw [if_neg c]
      rw [nI_ltI (by omega) (by omega)] at c
      have e : (10 : Int32) * nI m + nI (48 + k) - 48 = nI (10 * m + k) := by
        rw [show (10 : Int32) = nI 10 from rfl, nI_mul, nI_add, show (48 : Int32) = nI 48 from rfl, nI_subI (by omega) (by omega)]
        congr 1
        omega
      exact ⟨10 * m + k, e, by omega, by omega⟩
theorem nuR_tk {a : Nat} {v : Int32} (h : nuR a v) : (a < 10000 ∧ v = nI a) ∨ (a = 10000 ∧ nI 10000 ≤ v) := by
  rcases h with h | ⟨h1, m, rfl, h2, h3⟩
  · exact Or.inl h
  · exact Or.inr ⟨h1, nI_le h2 (by omega)⟩
set_option maxRecDepth 100000 in
set_option maxHeartbeats 1000000 in
theorem ux_num (hT : T ≤ 300) (hR : ∀ I', NXe I I' T a0 → Rp none (shH ru_ ta rs) I' J) (e14 : I 67 14 = nI T) (b0 : Nat) (elex : lexS (I 70) T a0 = (2, nuS (I 70) T b0 0, b0, ru bDg (I 70) T b0)) (o1 o2 o3 o4 : Option Value) : ∀ (m n a w : Nat) (I' : XI), a + m = T → m < n → ru bDg (I 70) T a = ru bDg (I 70) T b0 → nuS (I 70) T a w = nuS (I 70) T b0 0 → nuR w (I' 67 18) → EQT I I' → I' 67 15 = nI a → I' 67 16 = nI b0 → I' 67 17 = 2 → uxr l d ru_ ta rs J Rp n 232 [some (.ref 67), o1, o2, o3, o4] I' := by
  have fin : ∀ (a w : Nat) (I' : XI), ru bDg (I 70) T b0 = a → nuS (I 70) T b0 0 = w → nuR w (I' 67 18) → EQT I I' → I' 67 15 = nI a → I' 67 16 = nI b0 → I' 67 17 = 2 → Rp none (shH ru_ ta rs) I' J := by
    intro a w I' h1 h2 h3 q e e16 e17
    refine hR I' ⟨q, ?_, ?_, ?_⟩
    · rw [elex, h1]
      exact e
    · rw [elex]
      exact e16
    · rw [elex, h2]
      exact ⟨e17, nuR_tk h3⟩
  intro m
  induction m with
  | zero =>
    intro n a w I' hm hn hr hu hw q e e16 e2
    obtain ⟨n, rfl⟩ : ∃ n', n = n' + 1 := ⟨n - 1, by omega⟩
    rw [ru_e (show T ≤ a by omega)] at hr
    rw [nuS_e (show T ≤ a by omega)] at hu
    refine xrun_step fun K hK => ?_
    exact And.intro (fun _ => fin a w I' hr.symm hu.symm hw q e e16 e2) (fun h => absurd (nx_ge e14 q e (by omega)) h)
  | succ m ih =>
    intro n a w I' hm hn hr hu hw q e e16 e2
    obtain ⟨n, rfl⟩ : ∃ n', n = n' + 1 := ⟨n - 1, by omega⟩
    have v : vp_in (I' 67 15) 300 := by rw [e]; exact vp_in_nI (by omega) (by omega)
    have ex : I' 70 (I' 67 15).toNatClampNeg = I 70 a := by rw [e, nI_clamp (by omega), q.1 70 (by decide)]
    refine xrun_step fun K hK => ?_
    refine And.intro (fun h => absurd h (nx_lt hT e14 q e (by omega))) (fun _ => And.intro v ?_)
    refine tx_in l (d + 2) (I' 70 (I' 67 15).toNatClampNeg) 48 57 _ _ _ _ (fun h1 h2 => ?_) (fun h => ?_)
    · rw [ex] at h1 h2
      have hd : bDg (I 70 a) = true := (bDg_iff _).mpr ⟨h1, h2⟩
      obtain ⟨k, hk9, ek, ek2⟩ := dg_BR (c := I 70 a) (r := I 70 a) (Or.inl ⟨Int32.le_trans (by decide) h1, rfl, Int32.le_trans h2 (by decide)⟩) hd
      rw [ru_t (by omega) hd] at hr
      rw [nuS_t (by omega) hd, ek2] at hu
      have st := nuR_step hw hk9
      have go : ∀ y : Int32, nuR (min 10000 (10 * w + k)) y → uxr l d ru_ ta rs J Rp n 232 [some (.ref 67), o1, o2, o3, o4] (uI (uI I' 67 18 y) 67 15 (I' 67 15 + 1)) := by
        intro y hy
        refine ih n (a + 1) (min 10000 (10 * w + k)) _ (by omega) (by omega) hr hu ?_ ((q.u (by omega) (by omega)).u (by omega) (by omega)) ?_ ?_ ?_
        · rw [uI_atC, if_neg (by decide), uI_atC, if_pos rfl]
          exact hy
        · rw [uI_atC, if_pos rfl, e, nI_1]
        · rw [uI_atC, if_neg (by decide), uI_atC, if_neg (by decide)]
          exact e16
        · rw [uI_atC, if_neg (by decide), uI_atC, if_neg (by decide)]
          exact e2
      refine And.intro (fun h => absurd h (by decide)) (fun _ => ?_)
      refine And.intro (fun hle => And.intro v ?_) (fun hgt => ?_)
      · have hle : I' 67 18 ≤ nI 99999 := hle
        rw [if_neg (Int32.not_lt.mpr hle)] at st
        refine hK 232 [some (.ref 67), o1, o2, o3, o4] [] (shH ru_ ta rs) (uI (uI I' 67 18 (10 * I' 67 18 + I' 70 (I' 67 15).toNatClampNeg - 48)) 67 15 (I' 67 15 + 1)) J 0 0 (go _ ?_)
        rw [ex, ek]
        exact st
      · have hgt : ¬ I' 67 18 ≤ nI 99999 := hgt
        rw [if_pos (Int32.not_le.mp hgt)] at st
        exact hK 232 [some (.ref 67), o1, o2, o3, o4] [] (shH ru_ ta rs) (uI (uI I' 67 18 (I' 67 18)) 67 15 (I' 67 15 + 1)) J 0 0 (go _ st)
    · rw [ex] at h
      have hd : bDg (I 70 a) = false := bF (bDg_iff _) h
      rw [ru_f hd] at hr
      rw [nuS_f hd] at hu
      refine And.intro (fun _ => ?_) (fun h => absurd rfl h)
      exact fin a w I' hr.symm hu.symm hw q e e16 e2
theorem i32_of {x : Int32} {z : Int} (h : x.toInt = z) (y : Int32) (hy : y.toInt = z) : x = y := Int32.toInt_inj.mp (h.trans hy.symm)
theorem sg_59 {x : Int32} (h1 : 59 ≤ x) (h2 : x ≤ 62) : sgL.contains x = true := by
  have a := Int32.le_iff_toInt_le.mp h1
  have b := Int32.le_iff_toInt_le.mp h2
  rw [show (59 : Int32).toInt = 59 by decide] at a
  rw [show (62 : Int32).toInt = 62 by decide] at b
  have y : x.toInt = 59 ∨ x.toInt = 60 ∨ x.toInt = 61 ∨ x.toInt = 62 := by omega
  rcases y with y | y | y | y
  · rw [i32_of y 59 (by decide)]; decide
  · rw [i32_of y 60 (by decide)]; decide
  · rw [i32_of y 61 (by decide)]; decide
  · rw [i32_of y 62 (by decide)]; decide
theorem sg_40 {x : Int32} (h1 : 40 ≤ x) (h2 : x ≤ 45) : sgL.contains x = true ∨ (sgL.contains x = false ∧ x = 44) := by
  have a := Int32.le_iff_toInt_le.mp h1
  have b := Int32.le_iff_toInt_le.mp h2
  rw [show (40 : Int32).toInt = 40 by decide] at a
  rw [show (45 : Int32).toInt = 45 by decide] at b
  have y : x.toInt = 40 ∨ x.toInt = 41 ∨ x.toInt = 42 ∨ x.toInt = 43 ∨ x.toInt = 44 ∨ x.toInt = 45 := by omega
  rcases y with y | y | y | y | y | y
  · rw [i32_of y 40 (by decide)]; decide
  · rw [i32_of y 41 (by decide)]; decide
  · rw [i32_of y 42 (by decide)]; decide
  · rw [i32_of y 43 (by decide)]; decide
  · rw [i32_of y 44 (by decide)]; decide
  · rw [i32_of y 45 (by decide)]; decide
theorem sg_no {x : Int32} (h1 : ¬ (59 ≤ x ∧ x ≤ 62)) (h2 : ¬ (40 ≤ x ∧ x ≤ 45)) (h3 : ¬ x = 47) (h4 : ¬ x = 35) : sgL.contains x = false := by
  cases e : sgL.contains x with
  | false => rfl
  | true =>
    have y : ∀ z, z ∈ sgL → (59 ≤ z ∧ z ≤ 62) ∨ (40 ≤ z ∧ z ≤ 45) ∨ z = 47 ∨ z = 35 := by decide
    rcases y x (by simpa using e) with z | z | z | z
    · exact absurd z h1
    · exact absurd z h2
    · exact absurd z h3
    · exact absurd z h4
def srt (x s : Int32) : Prop := (sgL.contains x = true ∧ s = 3) ∨ (sgL.contains x = false ∧ (s = 4 ∨ (s = 3 ∧ x = 44)))
set_option maxRecDepth 100000 in
set_option maxHeartbeats 1000000 in
theorem ux_373 (hT : T ≤ 300) (hR : ∀ I', NXe I I' T a0 → Rp none (shH ru_ ta rs) I' J) (e14 : I 67 14 = nI T) (a n : Nat) (hn : 0 < n) (hlt : a < T) (elex : lexS (I 70) T a0 = lexC (I 70) T a) (n1 : bLt (I 70 a) = false) (n2 : bDg (I 70 a) = false) (s : Int32) (hs : srt (I 70 a) s) (o2 o3 o4 : Option Value) (I' : XI) (q : EQT I I') (e : I' 67 15 = nI (a + 1)) (e16 : I' 67 16 = nI a) (e17 : I' 67 17 = s) (e18 : I' 67 18 = I 70 a) : uxr l d ru_ ta rs J Rp n 373 [some (.ref 67), some (.int (I 70 a)), o2, o3, o4] I' := by
  obtain ⟨n, rfl⟩ : ∃ n', n = n' + 1 := ⟨n - 1, by omega⟩
  have end1 : ((decide (I 70 a = 60) || decide (I 70 a = 62)) && (Nat.blt (a + 1) T && decide (I 70 (a + 1) = 61))) = false → Rp none (shH ru_ ta rs) I' J := by
    intro h3
    have ek := elex.trans (lexC_sg hlt n1 n2 h3)
    refine hR I' ⟨q, ?_, ?_, ?_⟩
    · rw [ek, e]
      cases sgL.contains (I 70 a) <;> rfl
    · rw [ek, e16]
      cases sgL.contains (I 70 a) <;> rfl
    · rw [ek, e17, e18]
      rcases hs with ⟨c, rfl⟩ | ⟨c, z⟩
      · rw [c]
        exact ⟨rfl, (sgL_nI c).1⟩
      · rw [c]
        exact z
  have fin : ∀ y : Int32, (I 70 a = 60 ∧ y = 300) ∨ (¬ I 70 a = 60 ∧ I 70 a = 62 ∧ y = 301) → a + 1 < T → I 70 (a + 1) = 61 → Rp none (shH ru_ ta rs) (uI (uI I' 67 18 y) 67 15 (I' 67 15 + 1)) J := by
    intro y hy h2 h61
    have h3 : ((decide (I 70 a = 60) || decide (I 70 a = 62)) && (Nat.blt (a + 1) T && decide (I 70 (a + 1) = 61))) = true := by
      rw [h61, Bool.and_eq_true, Bool.and_eq_true]
      refine ⟨?_, Nat.blt_eq.mpr h2, rfl⟩
      rcases hy with ⟨z, _⟩ | ⟨_, z, _⟩
      · rw [z]; rfl
      · rw [z]; rfl
    have ek := elex.trans (lexC_le hlt n1 n2 h3)
    have c3 : s = 3 := by
      rcases hs with ⟨_, z⟩ | ⟨z, _⟩
      · exact z
      · rcases hy with ⟨w, _⟩ | ⟨_, w, _⟩
        · rw [w] at z
          exact absurd z (by decide)
        · rw [w] at z
          exact absurd z (by decide)
    refine hR _ ⟨(q.u (by omega) (by omega)).u (by omega) (by omega), ?_, ?_, ?_⟩
    · rw [ek, uI_atC, if_pos rfl, e, nI_1]
    · rw [ek, uI_atC, if_neg (by decide), uI_atC, if_neg (by decide), e16]
    · rw [ek, uI_atC, if_neg (by decide), uI_atC, if_neg (by decide), uI_atC, if_neg (by decide), uI_atC, if_pos rfl, e17, c3]
      rcases hy with ⟨z, rfl⟩ | ⟨z, _, rfl⟩
      · rw [decide_eq_true z]
        exact ⟨rfl, rfl⟩
      · rw [decide_eq_false z]
        exact ⟨rfl, rfl⟩
  have up : ¬ I' 67 14 ≤ I' 67 15 → a + 1 < T := by
    intro h
    rcases Nat.lt_or_ge (a + 1) T with y | y
    · exact y
    · exact absurd (nx_ge e14 q e (by omega)) h
  have dn : I' 67 14 ≤ I' 67 15 → ¬ a + 1 < T := fun h z => nx_lt hT e14 q e z h
  have v : a + 1 < T → vp_in (I' 67 15) 300 := fun h => by rw [e]; exact vp_in_nI (by omega) (by omega)
  have ex : I' 70 (I' 67 15).toNatClampNeg = I 70 (a + 1) := by rw [e, nI_clamp (by omega), q.1 70 (by decide)]
  have noT : I' 67 14 ≤ I' 67 15 → Rp none (shH ru_ ta rs) I' J := fun h => end1 (by
    have : (Nat.blt (a + 1) T && decide (I 70 (a + 1) = 61)) = false := by
      cases z : (Nat.blt (a + 1) T && decide (I 70 (a + 1) = 61)) with
      | false => rfl
      | true =>
        rw [Bool.and_eq_true] at z
        exact absurd (Nat.blt_eq.mp z.1) (dn h)
    rw [this, Bool.and_false])
  have no61 : ¬ I' 70 (I' 67 15).toNatClampNeg = 61 → Rp none (shH ru_ ta rs) I' J := fun h => end1 (by
    rw [ex] at h
    rw [decide_eq_false h, Bool.and_false, Bool.and_false])
  have is61 : I' 70 (I' 67 15).toNatClampNeg = 61 → I 70 (a + 1) = 61 := fun h => by rw [← ex]; exact h
  refine xrun_step fun K hK => ?_
  refine And.intro (fun h60 => ?_) (fun h60 => And.intro (fun h62 => ?_) (fun h62 => ?_))
  · exact And.intro (fun h => noT h) (fun h => And.intro (v (up h)) (And.intro (fun g => no61 g) (fun g => And.intro (fun z => absurd h60 z) (fun _ => fin 300 (Or.inl ⟨h60, rfl⟩) (up h) (is61 g)))))
  · exact end1 (by
      have h60 : ¬ I 70 a = 60 := h60
      have h62 : ¬ I 70 a = 62 := h62
      rw [decide_eq_false h60, decide_eq_false h62]
      rfl)
  · exact And.intro (fun h => noT h) (fun h => And.intro (v (up h)) (And.intro (fun g => no61 g) (fun g => And.intro (fun _ => fin 301 (Or.inr ⟨h60, h62, rfl⟩) (up h) (is61 g)) (fun z => absurd z h60))))
set_option maxRecDepth 100000 in
set_option maxHeartbeats 2000000 in
theorem ux_52 (hT : T ≤ 300) (hR : ∀ I', NXe I I' T a0 → Rp none (shH ru_ ta rs) I' J) (e14 : I 67 14 = nI T) (a n : Nat) (hn : 304 < n) (ha : a ≤ T) (hru : ru bBl (I 70) T a0 = a) (hbl : a < T → bBl (I 70 a) = false) (o1 o2 o3 o4 : Option Value) (I' : XI) (q : EQT I I') (e : I' 67 15 = nI a) : uxr l d ru_ ta rs J Rp n 52 [some (.ref 67), o1, o2, o3, o4] I' := by
  obtain ⟨n, rfl⟩ : ∃ n', n = n' + 1 := ⟨n - 1, by omega⟩
  have elex : lexS (I 70) T a0 = lexC (I 70) T a := by rw [← hru]; rfl
  have q1 : EQT I (uI I' 67 16 (I' 67 15)) := q.u (by omega) (by omega)
  have et : I' 67 14 = nI T := by rw [q.2 14 (by omega), e14]
  refine xrun_step fun K hK => ?_
  refine And.intro (fun hne => ?_) (fun heq => ?_)
  · have hlt : a < T := by
      rcases Nat.lt_or_ge a T with h | h
      · exact h
      · exfalso
        refine hne ?_
        show I' 67 15 = I' 67 14
        rw [et, e, show a = T by omega]
    have v : vp_in (I' 67 15) 300 := by rw [e]; exact vp_in_nI (by omega) (by omega)
    have ex : I' 70 (I' 67 15).toNatClampNeg = I 70 a := by rw [e, nI_clamp (by omega), q.1 70 (by decide)]
    have e15 : uI I' 67 16 (I' 67 15) 67 15 = nI a := by
      rw [uI_atC]
      exact e
    have e16 : uI I' 67 16 (I' 67 15) 67 16 = nI a := by
      rw [uI_atC, if_pos rfl]
      exact e
    refine And.intro v ?_
    refine tx_isLetter l (d + 1) (I' 70 (I' 67 15).toNatClampNeg) _ _ _ _ (fun hlet => ?_) (fun hlet => ?_)
    · rw [ex] at hlet
      have hl := (bLt_iff _).mpr hlet
      refine And.intro (fun h => absurd h (by decide)) (fun _ => ?_)
      refine hK 99 [some (.ref 67), some (.int (I' 70 (I' 67 15).toNatClampNeg)), some (.long 0), none, some (.int (nI 0))] [] (shH ru_ ta rs) (uI I' 67 16 (I' 67 15)) J 0 0 ?_
      have x := ux_word l d T ru_ ta rs I J Rp a0 hT hR e14 a hlt elex hl (I' 70 (I' 67 15).toNatClampNeg) (T - a) n a 0 _ (by omega) (by omega) (Nat.le_refl _) rfl (fun _ => by rw [Nat.sub_self]; rfl) q1 e15 e16
      rw [Nat.sub_self] at x
      exact x
    · rw [ex] at hlet
      have n1 : bLt (I 70 a) = false := bF (bLt_iff _) hlet
      refine And.intro (fun _ => ?_) (fun h => absurd rfl h)
      refine tx_in l (d + 2) (I' 70 (I' 67 15).toNatClampNeg) 48 57 _ _ _ _ (fun h1 h2 => ?_) (fun h => ?_)
      · rw [ex] at h1 h2
        have hd : bDg (I 70 a) = true := (bDg_iff _).mpr ⟨h1, h2⟩
        refine And.intro (fun h => absurd h (by decide)) (fun _ => ?_)
        refine hK 232 [some (.ref 67), some (.int _), o2, o3, o4] [] (shH ru_ ta rs) (uI (uI (uI I' 67 16 (I' 67 15)) 67 17 2) 67 18 0) J 0 0 (ux_num l d T ru_ ta rs I J Rp a0 hT hR e14 a (elex.trans (lexC_dg hlt hd)) _ _ _ _ (T - a) n a 0 _ (by omega) (by omega) rfl rfl ?_ ((q1.u (by omega) (by omega)).u (by omega) (by omega)) ?_ ?_ ?_)
        · rw [uI_atC, if_pos rfl]
          exact Or.inl ⟨by omega, rfl⟩
        · rw [uI_atC, uI_atC]
          exact e15
        · rw [uI_atC, uI_atC]
          exact e16
        · rw [uI_atC, uI_atC]
          rfl
      · rw [ex] at h
        have n2 : bDg (I 70 a) = false := bF (bDg_iff _) h
        refine And.intro (fun _ => ?_) (fun h => absurd rfl h)
        have go : ∀ s : Int32, srt (I 70 a) s → uxr l d ru_ ta rs J Rp n 373 [some (.ref 67), some (.int (I' 70 (I' 67 15).toNatClampNeg)), o2, o3, o4] (uI (uI (uI (uI I' 67 16 (I' 67 15)) 67 15 (I' 67 15 + 1)) 67 18 (I' 70 (I' 67 15).toNatClampNeg)) 67 17 s) := by
          intro s hs
          rw [ex]
          refine ux_373 l d T ru_ ta rs I J Rp a0 hT hR e14 a n (by omega) hlt elex n1 n2 s hs o2 o3 o4 _ (((q1.u (by omega) (by omega)).u (by omega) (by omega)).u (by omega) (by omega)) ?_ ?_ ?_ ?_
          · rw [uI_atC, uI_atC, uI_atC, if_neg (by omega), if_neg (by omega), if_pos rfl, e, nI_1]
          · rw [uI_atC, uI_atC, uI_atC, if_neg (by omega), if_neg (by omega), if_neg (by omega)]
            exact e16
          · rw [uI_atC, if_pos rfl]
          · rw [uI_atC, uI_atC, if_neg (by omega), if_pos rfl]
        have at_ : ∀ s : Int32, srt (I 70 a) s → K 373 [some (.ref 67), some (.int (I' 70 (I' 67 15).toNatClampNeg)), o2, o3, o4] [] (shH ru_ ta rs) (uI (uI (uI (uI I' 67 16 (I' 67 15)) 67 15 (I' 67 15 + 1)) 67 18 (I' 70 (I' 67 15).toNatClampNeg)) 67 17 s) J 0 0 := fun s hs => hK 373 [some (.ref 67), some (.int (I' 70 (I' 67 15).toNatClampNeg)), o2, o3, o4] [] (shH ru_ ta rs) _ J 0 0 (go s hs)
        refine tx_in l (d + 2) (I' 70 (I' 67 15).toNatClampNeg) 59 62 _ _ _ _ (fun h1 h2 => ?_) (fun h59 => ?_)
        · rw [ex] at h1 h2
          exact And.intro (fun _ => at_ 3 (Or.inl ⟨sg_59 h1 h2, rfl⟩)) (fun h => absurd h (by decide))
        · refine And.intro (fun h => absurd rfl h) (fun _ => ?_)
          refine tx_in l (d + 2) (I' 70 (I' 67 15).toNatClampNeg) 40 45 _ _ _ _ (fun h1 h2 => ?_) (fun h40 => ?_)
          · rw [ex] at h1 h2
            refine And.intro (fun _ => at_ 3 ?_) (fun h => absurd h (by decide))
            rcases sg_40 h1 h2 with z | ⟨z, z2⟩
            · exact Or.inl ⟨z, rfl⟩
            · exact Or.inr ⟨z, Or.inr ⟨rfl, z2⟩⟩
          · rw [ex] at h59 h40
            refine And.intro (fun h => absurd rfl h) (fun _ => ?_)
            refine And.intro (fun h47 => ?_) (fun h47 => And.intro (fun h35 => ?_) (fun h35 => ?_))
            · have h47 : I' 70 (I' 67 15).toNatClampNeg = 47 := h47
              rw [ex] at h47
              exact at_ 3 (Or.inl ⟨by rw [show I 70 a = 47 from h47]; decide, rfl⟩)
            · have h47 : ¬ I' 70 (I' 67 15).toNatClampNeg = 47 := h47
              have h35 : ¬ I' 70 (I' 67 15).toNatClampNeg = 35 := h35
              rw [ex] at h35 h47
              exact at_ 4 (Or.inr ⟨sg_no h59 h40 h47 h35, Or.inl rfl⟩)
            · have h35 : I' 70 (I' 67 15).toNatClampNeg = 35 := h35
              rw [ex] at h35
              exact at_ 3 (Or.inl ⟨by rw [show I 70 a = 35 from h35]; decide, rfl⟩)
  · have ha2 : a = T := by
      have h : I' 67 15 = I' 67 14 := heq
      rw [et, e] at h
      exact (nI_eq (by omega) (by omega)).mp h
    have ek := elex.trans (lexC_end (show T ≤ a by omega))
    refine hR (uI (uI I' 67 16 (I' 67 15)) 67 17 0) ⟨q1.u (by omega) (by omega), ?_, ?_, ?_⟩
    · rw [ek, uI_atC, uI_atC, if_neg (by decide), if_neg (by decide), e, ha2]
    · rw [ek, uI_atC, uI_atC, if_neg (by decide), if_pos rfl, e, ha2]
    · rw [ek, uI_atC, if_pos rfl]
      rfl
set_option maxRecDepth 100000 in
set_option maxHeartbeats 1000000 in
theorem ux_0 (hT : T ≤ 300) (hR : ∀ I', NXe I I' T a0 → Rp none (shH ru_ ta rs) I' J) (e14 : I 67 14 = nI T) (o1 o2 o3 o4 : Option Value) : ∀ (m n a : Nat) (I' : XI), a + m = T → m + 305 < n → EQT I I' → I' 67 15 = nI a → ru bBl (I 70) T a0 = ru bBl (I 70) T a → uxr l d ru_ ta rs J Rp n 0 [some (.ref 67), o1, o2, o3, o4] I' := by
  intro m
  induction m with
  | zero =>
    intro n a I' hm hn q e h0
    obtain ⟨n, rfl⟩ : ∃ n', n = n' + 1 := ⟨n - 1, by omega⟩
    rw [ru_e (show T ≤ a by omega)] at h0
    refine xrun_step fun K hK => ?_
    exact And.intro (fun _ => hK 52 [some (.ref 67), o1, o2, o3, o4] [] (shH ru_ ta rs) I' J 0 0 (ux_52 l d T ru_ ta rs I J Rp a0 hT hR e14 a n (by omega) (by omega) h0 (fun z => by omega) o1 o2 o3 o4 I' q e)) (fun h => absurd (nx_ge e14 q e (by omega)) h)
  | succ m ih =>
    intro n a I' hm hn q e h0
    obtain ⟨n, rfl⟩ : ∃ n', n = n' + 1 := ⟨n - 1, by omega⟩
    have v : vp_in (I' 67 15) 300 := by rw [e]; exact vp_in_nI (by omega) (by omega)
    have ex : I' 70 (I' 67 15).toNatClampNeg = I 70 a := by rw [e, nI_clamp (by omega), q.1 70 (by decide)]
    have go : bBl (I 70 a) = true → uxr l d ru_ ta rs J Rp n 0 [some (.ref 67), o1, o2, o3, o4] (uI I' 67 15 (I' 67 15 + 1)) := by
      intro hb
      refine ih n (a + 1) _ (by omega) (by omega) (q.u (by omega) (by omega)) ?_ (by rw [← ru_t (by omega) hb]; exact h0)
      rw [uI_atC, if_pos rfl, e, nI_1]
    have out : bBl (I 70 a) = false → uxr l d ru_ ta rs J Rp n 52 [some (.ref 67), o1, o2, o3, o4] I' := fun hb => ux_52 l d T ru_ ta rs I J Rp a0 hT hR e14 a n (by omega) (by omega) (by rw [h0, ru_f hb]) (fun _ => hb) o1 o2 o3 o4 I' q e
    refine xrun_step fun K hK => ?_
    have k0 := fun hb => hK 0 [some (.ref 67), o1, o2, o3, o4] [] (shH ru_ ta rs) (uI I' 67 15 (I' 67 15 + 1)) J 0 0 (go hb)
    have k52 := fun hb => hK 52 [some (.ref 67), o1, o2, o3, o4] [] (shH ru_ ta rs) I' J 0 0 (out hb)
    refine And.intro (fun h => absurd h (nx_lt hT e14 q e (by omega))) (fun _ => And.intro v (And.intro (fun h32 => ?_) (fun h32 => And.intro v (And.intro (fun h10 => ?_) (fun h10 => ?_)))))
    · have h32 : I' 70 (I' 67 15).toNatClampNeg = 32 := h32
      rw [ex] at h32
      exact k0 ((bBl_iff _).mpr (Or.inl h32))
    · have h32 : ¬ I' 70 (I' 67 15).toNatClampNeg = 32 := h32
      have h10 : ¬ I' 70 (I' 67 15).toNatClampNeg = 10 := h10
      rw [ex] at h32 h10
      exact k52 (bF (bBl_iff _) (fun z => z.elim h32 h10))
    · have h10 : I' 70 (I' 67 15).toNatClampNeg = 10 := h10
      rw [ex] at h10
      exact k0 ((bBl_iff _).mpr (Or.inr h10))
set_option maxRecDepth 100000 in
theorem ux_next (hT : T ≤ 300) (e14 : I 67 14 = nI T) (e0 : I 67 15 = nI a0) (ha : a0 ≤ T) (hR : ∀ I', NXe I I' T a0 → Rp none (shH ru_ ta rs) I' J) : xm l (d + 4) 0 0 mX12_next [.ref 67] (shH ru_ ta rs) I J Rp :=
  xm_of (X := xxX12) (t := tX12_next) (stop := [0, 52, 99, 173, 232, 373]) (ini := false) (n := 700) xx12 pl12 rfl kX12_next (fun h => by cases h) (Nat.le_of_ble_eq_true rfl) (ux_0 l d T ru_ ta rs I J Rp a0 hT hR e14 none none none none (T - a0) 700 a0 I (by omega) (by omega) EQT.rf e0 rfl)
end UX
