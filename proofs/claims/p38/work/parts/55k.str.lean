-- ===== the two Strings: length, charAt, indexOf =====
theorem plJ0 : plainName xxJ0.1 = true := by decide +kernel
theorem plJ1 : plainName xxJ1.1 = true := by decide +kernel
theorem plJ3 : plainName xxJ3.1 = true := by decide +kernel
set_option maxRecDepth 100000 in
theorem js_coder (l : Launch) (d q : Nat) (hq : q = 900001 ∨ q = 900002) (sh : List XO) (I : XI) (J : XJ) (Rp : XR) (hR : Rp (some (.int 0)) sh I J) : xm l (d + 1) 0 0 mJ0_coder_7d493 [.ref q] sh I J Rp := by
  rcases hq with rfl | rfl
  · refine xm_ofK 0 (X := xxJ0) (t := tJ0_coder_7d493) (stop := []) (ini := false) xxj0 plJ0 rfl kJ0_coder_7d493 (fun h => by cases h) (Nat.le_of_ble_eq_true rfl) (fun K hK => ?_)
    exact And.intro (fun h => absurd h (by decide)) (fun _ => And.intro rfl hR)
  · refine xm_ofK 0 (X := xxJ0) (t := tJ0_coder_7d493) (stop := []) (ini := false) xxj0 plJ0 rfl kJ0_coder_7d493 (fun h => by cases h) (Nat.le_of_ble_eq_true rfl) (fun K hK => ?_)
    exact And.intro (fun h => absurd h (by decide)) (fun _ => And.intro rfl hR)
set_option maxRecDepth 100000 in
theorem js_isLatin1 (l : Launch) (d q : Nat) (hq : q = 900001 ∨ q = 900002) (sh : List XO) (I : XI) (J : XJ) (Rp : XR) (hR : Rp (some (.int 1)) sh I J) : xm l (d + 1) 0 0 mJ0_isLatin1_aae02 [.ref q] sh I J Rp := by
  rcases hq with rfl | rfl
  · refine xm_ofK 0 (X := xxJ0) (t := tJ0_isLatin1_aae02) (stop := []) (ini := false) xxj0 plJ0 rfl kJ0_isLatin1_aae02 (fun h => by cases h) (Nat.le_of_ble_eq_true rfl) (fun K hK => ?_)
    exact And.intro (fun h => absurd h (by decide)) (fun _ => And.intro (fun h => absurd rfl h) (fun _ => And.intro (Or.inr rfl) hR))
  · refine xm_ofK 0 (X := xxJ0) (t := tJ0_isLatin1_aae02) (stop := []) (ini := false) xxj0 plJ0 rfl kJ0_isLatin1_aae02 (fun h => by cases h) (Nat.le_of_ble_eq_true rfl) (fun K hK => ?_)
    exact And.intro (fun h => absurd h (by decide)) (fun _ => And.intro (fun h => absurd rfl h) (fun _ => And.intro (Or.inr rfl) hR))
theorem shr_0 (x : Int32) : x >>> ((0 : Int32) &&& 31) = x := by
  apply Int32.toBitVec_inj.mp
  rw [Int32.toBitVec_shiftRight, show (((0 : Int32) &&& 31).toBitVec.smod 32) = BitVec.ofNat 32 0 by decide]
  exact BitVec.eq_of_toInt_eq (by rw [BitVec.sshiftRight', BitVec.toInt_sshiftRight]; simp)
set_option maxRecDepth 100000 in
theorem js_length1 (l : Launch) (d : Nat) (sh : List XO) (I : XI) (J : XJ) (Rp : XR) (hR : Rp (some (.int 192)) sh I J) : xm l (d + 2) 0 0 mJ0_length_8abf5 [.ref 900001] sh I J Rp := by
  refine xm_ofK 0 (X := xxJ0) (t := tJ0_length_8abf5) (stop := []) (ini := false) xxj0 plJ0 rfl kJ0_length_8abf5 (fun h => by cases h) (Nat.le_of_ble_eq_true rfl) (fun K hK => ?_)
  refine js_coder l d 900001 (Or.inl rfl) _ _ _ _ ?_
  show Rp (some (.int ((192 : Int32) >>> ((0 : Int32) &&& 31)))) sh I J
  rw [shr_0]
  exact hR
set_option maxRecDepth 100000 in
theorem js_length2 (l : Launch) (d : Nat) (sh : List XO) (I : XI) (J : XJ) (Rp : XR) (hR : Rp (some (.int 11)) sh I J) : xm l (d + 2) 0 0 mJ0_length_8abf5 [.ref 900002] sh I J Rp := by
  refine xm_ofK 0 (X := xxJ0) (t := tJ0_length_8abf5) (stop := []) (ini := false) xxj0 plJ0 rfl kJ0_length_8abf5 (fun h => by cases h) (Nat.le_of_ble_eq_true rfl) (fun K hK => ?_)
  refine js_coder l d 900002 (Or.inr rfl) _ _ _ _ ?_
  show Rp (some (.int ((11 : Int32) >>> ((0 : Int32) &&& 31)))) sh I J
  rw [shr_0]
  exact hR
set_option maxRecDepth 100000 in
theorem js_pre (l : Launch) (d : Nat) (i n : Int32) (v : Value) (hv : v = .null ∨ v = .ref 900007) (h0 : ¬ i < 0) (h1 : i < n) (sh : List XO) (I : XI) (J : XJ) (Rp : XR) (hR : Rp (some (.int i)) sh I J) : xm l (d + 1) 0 0 mJ3_checkIndex_8e157 [.int i, .int n, v] sh I J Rp := by
  rcases hv with rfl | rfl
  · refine xm_ofK 0 (X := xxJ3) (t := tJ3_checkIndex_8e157) (stop := []) (ini := false) xxj3 plJ3 rfl kJ3_checkIndex_8e157 (fun h => by cases h) (Nat.le_of_ble_eq_true rfl) (fun K hK => ?_)
    exact And.intro (fun h => absurd h h0) (fun _ => And.intro (fun _ => hR) (fun h => absurd h1 h))
  · refine xm_ofK 0 (X := xxJ3) (t := tJ3_checkIndex_8e157) (stop := []) (ini := false) xxj3 plJ3 rfl kJ3_checkIndex_8e157 (fun h => by cases h) (Nat.le_of_ble_eq_true rfl) (fun K hK => ?_)
    exact And.intro (fun h => absurd h h0) (fun _ => And.intro (fun _ => hR) (fun h => absurd h1 h))
set_option maxRecDepth 100000 in
theorem js_check (l : Launch) (d : Nat) (i n : Int32) (h0 : ¬ i < 0) (h1 : i < n) (sh : List XO) (I : XI) (J : XJ) (Rp : XR) (hR : Rp none sh I J) : xm l (d + 2) 0 0 mJ0_checkIndex_df160 [.int i, .int n] sh I J Rp := by
  refine xm_ofK 0 (X := xxJ0) (t := tJ0_checkIndex_df160) (stop := []) (ini := false) xxj0 plJ0 rfl kJ0_checkIndex_df160 (fun h => by cases h) (Nat.le_of_ble_eq_true rfl) (fun K hK => ?_)
  refine And.intro ?_ ?_
  · exact js_pre l d i n .null (Or.inl rfl) h0 h1 _ _ _ _ hR
  · exact js_pre l d i n (.ref 900007) (Or.inr rfl) h0 h1 _ _ _ _ hR
def jsB : List Int32 := ((xlk xkA 900003).getD (0, 0, [])).2.2
/-- the letter at k of the words -/
def jsC (k : Nat) : Int32 := ((jsB.getD k 0 &&& 255).toUInt32 % 65536).toInt32
theorem jsC_char : ∀ k, k < 192 → narrow .char (.int (jsC k)) = .int (jsC k) := by decide +kernel
set_option maxRecDepth 100000 in
theorem js_charAtL (l : Launch) (d k : Nat) (hk : k < 192) (sh : List XO) (I : XI) (J : XJ) (Rp : XR) (hR : Rp (some (.int (jsC k))) sh I J) : xm l (d + 3) 0 0 mJ1_charAt_3b067 [.ref 900003, .int (nI k)] sh I J Rp := by
  refine xm_ofK 0 (X := xxJ1) (t := tJ1_charAt_3b067) (stop := []) (ini := false) xxj1 plJ1 rfl kJ1_charAt_3b067 (fun h => by cases h) (Nat.le_of_ble_eq_true rfl) (fun K hK => ?_)
  refine js_check l d (nI k) 192 (nI_pos (by omega)) (nI_lt (b := 192) hk (by omega)) _ _ _ _ ?_
  refine And.intro (vp_in_nI (N := 192) hk (by omega)) ?_
  have e : ((jsB.getD (nI k).toNatClampNeg 0 &&& 255).toUInt32 % 65536).toInt32 = jsC k := by rw [nI_clamp (by omega)]; rfl
  have y : narrow .char (.int ((jsB.getD (nI k).toNatClampNeg 0 &&& 255).toUInt32 % 65536).toInt32) = .int ((jsB.getD (nI k).toNatClampNeg 0 &&& 255).toUInt32 % 65536).toInt32 ∧ Rp (some (.int ((jsB.getD (nI k).toNatClampNeg 0 &&& 255).toUInt32 % 65536).toInt32)) sh I J := by
    rw [e]
    exact ⟨jsC_char k hk, hR⟩
  exact y
set_option maxRecDepth 100000 in
theorem js_charAt (l : Launch) (d k : Nat) (hk : k < 192) (sh : List XO) (I : XI) (J : XJ) (Rp : XR) (hR : Rp (some (.int (jsC k))) sh I J) : xm l (d + 4) 0 0 mJ0_charAt_5068e [.ref 900001, .int (nI k)] sh I J Rp := by
  refine xm_ofK 0 (X := xxJ0) (t := tJ0_charAt_5068e) (stop := []) (ini := false) xxj0 plJ0 rfl kJ0_charAt_5068e (fun h => by cases h) (Nat.le_of_ble_eq_true rfl) (fun K hK => ?_)
  refine js_isLatin1 l (d + 2) 900001 (Or.inl rfl) _ _ _ _ ?_
  refine And.intro (fun h => absurd h (by decide)) (fun _ => ?_)
  refine js_charAtL l d k hk _ _ _ _ ?_
  exact And.intro (jsC_char k hk) hR
set_option maxRecDepth 100000 in
theorem js_can (l : Launch) (d : Nat) (c : Int32) (sh : List XO) (I : XI) (J : XJ) (Rp : XR) (h1 : 0 ≤ c → c ≤ 255 → Rp (some (.int 1)) sh I J) (h0 : ¬ (0 ≤ c ∧ c ≤ 255) → Rp (some (.int 0)) sh I J) : xm l (d + 1) 0 0 mJ1_canEncode_9a6ad [.int c] sh I J Rp := by
  refine xm_ofK 0 (X := xxJ1) (t := tJ1_canEncode_9a6ad) (stop := []) (ini := false) xxj1 plJ1 rfl kJ1_canEncode_9a6ad (fun h => by cases h) (Nat.le_of_ble_eq_true rfl) (fun K hK => ?_)
  refine And.intro (fun h => And.intro (Or.inl rfl) (h0 fun z => absurd h (Int32.not_lt.mpr z.1))) (fun h => ?_)
  exact And.intro (fun g => And.intro (Or.inl rfl) (h0 fun z => absurd g (Int32.not_lt.mpr z.2))) (fun g => And.intro (Or.inr rfl) (h1 (Int32.not_lt.mp h) (Int32.not_lt.mp g)))
def jsS : List Int32 := ((xlk xkA 900004).getD (0, 0, [])).2.2
def jsX (c : Int32) : List Int32 → Nat → Int32
  | [], _ => -1
  | b :: r, k => if b = c.toInt8.toInt32 then nI k else jsX c r (k + 1)
set_option maxRecDepth 100000 in
theorem js_ixLoop (l : Launch) (d : Nat) (c : Int32) (sh : List XO) (I : XI) (J : XJ) (Rp : XR) : ∀ (m k n : Nat), k + m = 11 → m < n → Rp (some (.int (jsX c (jsS.drop k) k))) sh I J → xrun xxJ1 (some .int) false false sh.length 0 0 none l d tJ1_indexOfChar_4cfef [7] Rp n 7 [some (.ref 900004), some (.int c), some (.int 0), some (.int 11), some (.int c.toInt8.toInt32), some (.int (nI k))] [] sh I J 0 0 := by
  intro m
  induction m with
  | zero =>
    intro k n hk hn hR
    obtain ⟨n, rfl⟩ : ∃ n', n = n' + 1 := ⟨n - 1, by omega⟩
    have hk : k = 11 := by omega
    subst hk
    refine xrun_step fun K hK => ?_
    exact And.intro (fun _ => hR) (fun h => absurd (show (11 : Int32) ≤ nI 11 by decide) h)
  | succ m ih =>
    intro k n hk hn hR
    obtain ⟨n, rfl⟩ : ∃ n', n = n' + 1 := ⟨n - 1, by omega⟩
    have e : jsS.drop k = jsS.getD k 0 :: jsS.drop (k + 1) := by
      have : ∀ k, k < 11 → jsS.drop k = jsS.getD k 0 :: jsS.drop (k + 1) := by decide +kernel
      exact this k (by omega)
    rw [e] at hR
    replace hR : Rp (some (.int (if jsS.getD k 0 = c.toInt8.toInt32 then nI k else jsX c (jsS.drop (k + 1)) (k + 1)))) sh I J := hR
    refine xrun_step fun K hK => ?_
    refine And.intro (fun h => absurd h (nI_ge (a := k) (b := 11) (by omega) (by omega))) (fun _ => ?_)
    refine And.intro (vp_in_nI (N := 11) (by omega) (by omega)) ?_
    have ec : (nI k).toNatClampNeg = k := nI_clamp (by omega)
    refine And.intro (fun h => ?_) (fun h => ?_)
    · replace h : ¬ jsS.getD (nI k).toNatClampNeg 0 = c.toInt8.toInt32 := h
      rw [ec] at h
      rw [if_neg h] at hR
      refine hK 7 [some (.ref 900004), some (.int c), some (.int 0), some (.int 11), some (.int c.toInt8.toInt32), some (.int (nI k + 1))] [] sh I J 0 0 ?_
      rw [nI_1]
      exact ih (k + 1) n (by omega) (by omega) hR
    · replace h : jsS.getD (nI k).toNatClampNeg 0 = c.toInt8.toInt32 := h
      rw [ec] at h
      rw [if_pos h] at hR
      exact hR
set_option maxRecDepth 100000 in
theorem js_ixChar (l : Launch) (d : Nat) (c : Int32) (sh : List XO) (I : XI) (J : XJ) (Rp : XR) (hR : Rp (some (.int (jsX c jsS 0))) sh I J) : xm l (d + 1) 0 0 mJ1_indexOfChar_4cfef [.ref 900004, .int c, .int 0, .int 11] sh I J Rp := by
  refine xm_ofK 12 (X := xxJ1) (t := tJ1_indexOfChar_4cfef) (stop := [7]) (ini := false) xxj1 plJ1 rfl kJ1_indexOfChar_4cfef (fun h => by cases h) (Nat.le_of_ble_eq_true rfl) (fun K hK => ?_)
  exact hK 7 [some (.ref 900004), some (.int c), some (.int 0), some (.int 11), some (.int c.toInt8.toInt32), some (.int (nI 0))] [] sh I J 0 0 (js_ixLoop l d c sh I J Rp 11 0 12 rfl (by omega) hR)
def jsIx (c : Int32) : Int32 := if 0 ≤ c ∧ c ≤ 255 then jsX c jsS 0 else -1
set_option maxRecDepth 100000 in
theorem js_ixL (l : Launch) (d : Nat) (c : Int32) (sh : List XO) (I : XI) (J : XJ) (Rp : XR) (hR : Rp (some (.int (jsIx c))) sh I J) : xm l (d + 2) 0 0 mJ1_indexOf_4cfef [.ref 900004, .int c, .int 0, .int 11] sh I J Rp := by
  unfold jsIx at hR
  refine xm_ofK 0 (X := xxJ1) (t := tJ1_indexOf_4cfef) (stop := []) (ini := false) xxj1 plJ1 rfl kJ1_indexOf_4cfef (fun h => by cases h) (Nat.le_of_ble_eq_true rfl) (fun K hK => ?_)
  refine js_can l d c _ _ _ _ (fun h1 h2 => ?_) (fun h => ?_)
  · rw [if_pos ⟨h1, h2⟩] at hR
    refine And.intro (fun _ => ?_) (fun h => absurd h (by decide))
    refine And.intro (fun _ => ?_) (fun h => absurd (show (0 : Int32) < 11 by decide) h)
    exact js_ixChar l d c _ _ _ _ hR
  · rw [if_neg h] at hR
    exact And.intro (fun h => absurd rfl h) (fun _ => hR)
set_option maxRecDepth 100000 in
theorem js_ix2 (l : Launch) (d : Nat) (c : Int32) (sh : List XO) (I : XI) (J : XJ) (Rp : XR) (hR : Rp (some (.int (jsIx c))) sh I J) : xm l (d + 3) 0 0 mJ0_indexOf_7cf53 [.ref 900002, .int c, .int 0] sh I J Rp := by
  refine xm_ofK 0 (X := xxJ0) (t := tJ0_indexOf_7cf53) (stop := []) (ini := false) xxj0 plJ0 rfl kJ0_indexOf_7cf53 (fun h => by cases h) (Nat.le_of_ble_eq_true rfl) (fun K hK => ?_)
  refine js_isLatin1 l (d + 1) 900002 (Or.inr rfl) _ _ _ _ ?_
  refine And.intro (fun h => absurd h (by decide)) (fun _ => ?_)
  refine js_length2 l d _ _ _ _ ?_
  exact js_ixL l d c _ _ _ _ hR
set_option maxRecDepth 100000 in
theorem js_ix (l : Launch) (d : Nat) (c : Int32) (sh : List XO) (I : XI) (J : XJ) (Rp : XR) (hR : Rp (some (.int (jsIx c))) sh I J) : xm l (d + 4) 0 0 mJ0_indexOf_0f7a4 [.ref 900002, .int c] sh I J Rp := by
  refine xm_ofK 0 (X := xxJ0) (t := tJ0_indexOf_0f7a4) (stop := []) (ini := false) xxj0 plJ0 rfl kJ0_indexOf_0f7a4 (fun h => by cases h) (Nat.le_of_ble_eq_true rfl) (fun K hK => ?_)
  exact js_ix2 l d c _ _ _ _ hR
theorem nI_inI {x : Int32} {a b : Int} (h : inI (a, b) x.toInt) (ha : 0 ≤ a) : ∃ n : Nat, x = nI n ∧ a ≤ (n : Int) ∧ (n : Int) ≤ b ∧ n < 2 ^ 31 := by
  have h1 := h.1
  have h2 := h.2
  dsimp only at h1 h2
  have hl := Int32.toInt_lt x
  refine ⟨x.toInt.toNat, ?_, by omega, by omega, by omega⟩
  apply Int32.toInt_inj.mp
  rw [nI_toInt (by omega)]
  omega
