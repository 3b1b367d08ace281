-- ===== the tape and its tokens =====
def BR (c r : Int32) : Prop := (0 ≤ r ∧ c = r ∧ c ≤ 127) ∨ (r < 0 ∧ 128 ≤ c ∧ c ≤ 255)
theorem BR_eq {c r k : Int32} (h : BR c r) (h0 : 0 ≤ k) (h1 : k ≤ 127) : c = k ↔ r = k := by
  rcases h with ⟨_, e, _⟩ | ⟨a, b, _⟩
  · rw [e]
  · have a := Int32.lt_iff_toInt_lt.mp a
    have b := Int32.le_iff_toInt_le.mp b
    have h0 := Int32.le_iff_toInt_le.mp h0
    have h1 := Int32.le_iff_toInt_le.mp h1
    rw [show (0 : Int32).toInt = 0 by decide] at a h0
    rw [show (128 : Int32).toInt = 128 by decide] at b
    rw [show (127 : Int32).toInt = 127 by decide] at h1
    constructor
    · intro e
      rw [e] at b
      omega
    · intro e
      rw [e] at a
      omega
theorem BR_in {c r k m : Int32} (h : BR c r) (h0 : 0 ≤ k) (h1 : m ≤ 127) : (k ≤ c ∧ c ≤ m) ↔ (k ≤ r ∧ r ≤ m) := by
  rcases h with ⟨_, e, _⟩ | ⟨a, b, _⟩
  · rw [e]
  · have a := Int32.lt_iff_toInt_lt.mp a
    have b := Int32.le_iff_toInt_le.mp b
    have h0 := Int32.le_iff_toInt_le.mp h0
    have h1 := Int32.le_iff_toInt_le.mp h1
    rw [show (0 : Int32).toInt = 0 by decide] at a h0
    rw [show (128 : Int32).toInt = 128 by decide] at b
    rw [show (127 : Int32).toInt = 127 by decide] at h1
    constructor
    · rintro ⟨e1, e2⟩
      have e2 := Int32.le_iff_toInt_le.mp e2
      omega
    · rintro ⟨e1, e2⟩
      have e1 := Int32.le_iff_toInt_le.mp e1
      omega
theorem BR_dg {c r : Int32} (h : BR c r) : (48 ≤ c ∧ c ≤ 57) ↔ bDg r = true := by rw [bDg_iff, BR_in h (by decide) (by decide)]
theorem BR_lt {c r : Int32} (h : BR c r) : isLet c ↔ bLt r = true := by
  rw [bLt_iff]
  unfold isLet
  rw [BR_in h (by decide) (by decide), BR_in h (by decide) (by decide)]
theorem dg_lt {x : Int32} (h : bDg x = true) : bLt x = false := by
  have a := (bDg_iff x).mp h
  refine bF (bLt_iff x) (fun z => ?_)
  have b := let_rg z
  have c := Int32.le_iff_toInt_le.mp a.2
  rw [show (57 : Int32).toInt = 57 by decide] at c
  omega
theorem let_BR {c r : Int32} (h : BR c r) (hl : isLet r) : c = r := by
  rcases h with ⟨_, e, _⟩ | ⟨a, b, _⟩
  · exact e
  · have a := Int32.lt_iff_toInt_lt.mp a
    rw [show (0 : Int32).toInt = 0 by decide] at a
    have := let_rg hl
    omega
theorem dg_BR {c r : Int32} (h : BR c r) (hd : bDg r = true) : ∃ n, n ≤ 9 ∧ c = nI (48 + n) ∧ r.toNatClampNeg - 48 = n := by
  have hd := (bDg_iff r).mp hd
  have a := Int32.le_iff_toInt_le.mp hd.1
  have b := Int32.le_iff_toInt_le.mp hd.2
  rw [show (48 : Int32).toInt = 48 by decide] at a
  rw [show (57 : Int32).toInt = 57 by decide] at b
  have e : c = r := by
    rcases h with ⟨_, e, _⟩ | ⟨z, _, _⟩
    · exact e
    · have z := Int32.lt_iff_toInt_lt.mp z
      rw [show (0 : Int32).toInt = 0 by decide] at z
      omega
  have e2 : r = nI (48 + (r.toInt.toNat - 48)) := by
    apply Int32.toInt_inj.mp
    rw [nI_toInt (by omega)]
    omega
  refine ⟨r.toInt.toNat - 48, by omega, by rw [e]; exact e2, ?_⟩
  have e3 : r.toNatClampNeg = 48 + (r.toInt.toNat - 48) := by
    conv => lhs; rw [e2]
    exact nI_clamp (by omega)
  omega
section TAPE
variable (l : Launch) (ru_ ta : Nat) (rs : List XO) (I : XI) (J : XJ) (Rp : XR) (B : Nat → Int32) (T : Nat)
set_option maxRecDepth 100000 in
theorem tc_byteAt (d i : Nat) (hi : i < 100000) (hT : T ≤ 300) (eT : I 30 1 = nI T) (h1 : i < T → Rp (some (.int (I 31 i))) (shH ru_ ta rs) I J) (h0 : T ≤ i → Rp (some (.int 0)) (shH ru_ ta rs) I J) : xm l (d + 1) 0 0 mX7_byteAt [.ref 30, .int (nI i)] (shH ru_ ta rs) I J Rp := by
  refine xm_ofK 0 (X := xxX7) (t := tX7_byteAt) (stop := []) (ini := false) xx7 pl7 rfl kX7_byteAt (fun h => by cases h) (Nat.le_of_ble_eq_true rfl) (fun K hK => ?_)
  refine And.intro (fun h => absurd h (nI_pos (by omega))) (fun _ => ?_)
  rcases Nat.lt_or_ge i T with c | c
  · refine And.intro (fun h => absurd (show I 30 1 ≤ nI i from h) (by rw [eT]; exact nI_ge c (by omega))) (fun _ => ?_)
    refine And.intro (fun h => absurd (show nI 300 ≤ nI i from h) (nI_ge (by omega) (by omega))) (fun _ => ?_)
    refine And.intro (vp_in_nI (N := 300) (by omega) (by omega)) ?_
    show Rp (some (.int (I 31 (nI i).toNatClampNeg))) (shH ru_ ta rs) I J
    rw [nI_clamp (by omega)]
    exact h1 c
  · refine And.intro (fun _ => h0 c) (fun h => absurd (show I 30 1 ≤ nI i by rw [eT]; exact nI_le c (by omega)) h)
set_option maxRecDepth 100000 in
theorem tc_isDigit (d : Nat) (x : Int32) (sh : List XO) (h1 : 48 ≤ x ∧ x ≤ 57 → Rp (some (.int 1)) sh I J) (h0 : ¬ (48 ≤ x ∧ x ≤ 57) → Rp (some (.int 0)) sh I J) : xm l (d + 1) 0 0 mX7_isDigit [.int x] sh I J Rp := by
  refine xm_ofK 0 (X := xxX7) (t := tX7_isDigit) (stop := []) (ini := false) xx7 pl7 rfl kX7_isDigit (fun h => by cases h) (Nat.le_of_ble_eq_true rfl) (fun K hK => ?_)
  refine And.intro (fun h => And.intro (Or.inl rfl) (h0 fun z => absurd h (Int32.not_lt.mpr z.1))) (fun h => ?_)
  exact And.intro (fun g => And.intro (Or.inl rfl) (h0 fun z => absurd g (Int32.not_lt.mpr z.2))) (fun g => And.intro (Or.inr rfl) (h1 ⟨Int32.not_lt.mp h, Int32.not_lt.mp g⟩))
set_option maxRecDepth 100000 in
theorem tc_isLetter (d : Nat) (x : Int32) (sh : List XO) (h1 : isLet x → Rp (some (.int 1)) sh I J) (h0 : ¬ isLet x → Rp (some (.int 0)) sh I J) : xm l (d + 1) 0 0 mX7_isLetter [.int x] sh I J Rp := by
  refine xm_ofK 0 (X := xxX7) (t := tX7_isLetter) (stop := []) (ini := false) xx7 pl7 rfl kX7_isLetter (fun h => by cases h) (Nat.le_of_ble_eq_true rfl) (fun K hK => ?_)
  refine And.intro (fun h => ?_) (fun h => And.intro (fun g => ?_) (fun g => ?_))
  · have n1 : ¬ (97 ≤ x ∧ x ≤ 122) := fun z => absurd h (Int32.not_lt.mpr z.1)
    refine And.intro (fun h2 => And.intro (Or.inl rfl) (h0 fun z => z.elim n1 (fun z => absurd h2 (Int32.not_lt.mpr z.1)))) (fun h2 => ?_)
    exact And.intro (fun g2 => And.intro (Or.inl rfl) (h0 fun z => z.elim n1 (fun z => absurd g2 (Int32.not_lt.mpr z.2)))) (fun g2 => And.intro (Or.inr rfl) (h1 (Or.inr ⟨Int32.not_lt.mp h2, Int32.not_lt.mp g2⟩)))
  · exact And.intro (Or.inr rfl) (h1 (Or.inl ⟨Int32.not_lt.mp h, g⟩))
  · have n1 : ¬ (97 ≤ x ∧ x ≤ 122) := fun z => absurd z.2 g
    refine And.intro (fun h2 => And.intro (Or.inl rfl) (h0 fun z => z.elim n1 (fun z => absurd h2 (Int32.not_lt.mpr z.1)))) (fun h2 => ?_)
    exact And.intro (fun g2 => And.intro (Or.inl rfl) (h0 fun z => z.elim n1 (fun z => absurd g2 (Int32.not_lt.mpr z.2)))) (fun g2 => And.intro (Or.inr rfl) (h1 (Or.inr ⟨Int32.not_lt.mp h2, Int32.not_lt.mp g2⟩)))
set_option maxRecDepth 100000 in
theorem tc_digits_loop (d : Nat) (hT : T ≤ 300) (eT : I 30 1 = nI T) (hB : ∀ i, i < T → BR (I 31 i) (B i)) (f : Int32) : ∀ (m i N : Nat), i + m = T → m < N → Rp (some (.int (nI (ru bDg B T i)))) (shH ru_ ta rs) I J → xrun xxX7 (some .int) false false (shH ru_ ta rs).length 0 0 none l (d + 1) tX7_endOfDigits [2] Rp N 2 [some (.ref 30), some (.int f), some (.int (nI i))] [] (shH ru_ ta rs) I J 0 0 := by
  intro m
  induction m with
  | zero =>
    intro i N hi hN hR
    obtain ⟨N, rfl⟩ : ∃ n', N = n' + 1 := ⟨N - 1, by omega⟩
    rw [ru_e (show T ≤ i by omega)] at hR
    refine xrun_step fun K hK => ?_
    exact And.intro (fun _ => hR) (fun h => absurd (show I 30 1 ≤ nI i by rw [eT]; exact nI_le (by omega) (by omega)) h)
  | succ m ih =>
    intro i N hi hN hR
    obtain ⟨N, rfl⟩ : ∃ n', N = n' + 1 := ⟨N - 1, by omega⟩
    refine xrun_step fun K hK => ?_
    refine And.intro (fun h => absurd (show I 30 1 ≤ nI i from h) (by rw [eT]; exact nI_ge (by omega) (by omega))) (fun _ => ?_)
    refine tc_byteAt l ru_ ta rs I J _ T d i (by omega) hT eT (fun _ => ?_) (fun z => absurd z (by omega))
    refine tc_isDigit l I J _ d (I 31 i) _ (fun z => ?_) (fun z => ?_)
    · refine And.intro (fun h => absurd h (by decide)) (fun _ => ?_)
      rw [ru_t (show i < T by omega) ((BR_dg (hB i (by omega))).mp z)] at hR
      refine hK 2 [some (.ref 30), some (.int f), some (.int (nI i + 1))] [] (shH ru_ ta rs) I J 0 0 ?_
      rw [nI_1]
      exact ih (i + 1) N (by omega) (by omega) hR
    · rw [ru_f (bF Iff.rfl (fun y => z ((BR_dg (hB i (by omega))).mpr y)))] at hR
      exact And.intro (fun _ => hR) (fun h => absurd rfl h)
set_option maxRecDepth 100000 in
theorem tc_endOfDigits (d i : Nat) (hi : i ≤ T) (hT : T ≤ 300) (eT : I 30 1 = nI T) (hB : ∀ i, i < T → BR (I 31 i) (B i)) (hR : Rp (some (.int (nI (ru bDg B T i)))) (shH ru_ ta rs) I J) : xm l (d + 2) 0 0 mX7_endOfDigits [.ref 30, .int (nI i)] (shH ru_ ta rs) I J Rp := by
  refine xm_ofK 301 (X := xxX7) (t := tX7_endOfDigits) (stop := [2]) (ini := false) xx7 pl7 rfl kX7_endOfDigits (fun h => by cases h) (Nat.le_of_ble_eq_true rfl) (fun K hK => ?_)
  exact hK 2 [some (.ref 30), some (.int (nI i)), some (.int (nI i))] [] (shH ru_ ta rs) I J 0 0 (tc_digits_loop l ru_ ta rs I J Rp B T d hT eT hB _ (T - i) i 301 (by omega) (by omega) hR)
set_option maxRecDepth 100000 in
theorem tc_letters_loop (d : Nat) (hT : T ≤ 300) (eT : I 30 1 = nI T) (hB : ∀ i, i < T → BR (I 31 i) (B i)) (f : Int32) : ∀ (m i N : Nat), i + m = T → m < N → Rp (some (.int (nI (ru bLt B T i)))) (shH ru_ ta rs) I J → xrun xxX7 (some .int) false false (shH ru_ ta rs).length 0 0 none l (d + 1) tX7_endOfLetters [2] Rp N 2 [some (.ref 30), some (.int f), some (.int (nI i))] [] (shH ru_ ta rs) I J 0 0 := by
  intro m
  induction m with
  | zero =>
    intro i N hi hN hR
    obtain ⟨N, rfl⟩ : ∃ n', N = n' + 1 := ⟨N - 1, by omega⟩
    rw [ru_e (show T ≤ i by omega)] at hR
    refine xrun_step fun K hK => ?_
    exact And.intro (fun _ => hR) (fun h => absurd (show I 30 1 ≤ nI i by rw [eT]; exact nI_le (by omega) (by omega)) h)
  | succ m ih =>
    intro i N hi hN hR
    obtain ⟨N, rfl⟩ : ∃ n', N = n' + 1 := ⟨N - 1, by omega⟩
    refine xrun_step fun K hK => ?_
    refine And.intro (fun h => absurd (show I 30 1 ≤ nI i from h) (by rw [eT]; exact nI_ge (by omega) (by omega))) (fun _ => ?_)
    refine tc_byteAt l ru_ ta rs I J _ T d i (by omega) hT eT (fun _ => ?_) (fun z => absurd z (by omega))
    refine tc_isLetter l I J _ d (I 31 i) _ (fun z => ?_) (fun z => ?_)
    · refine And.intro (fun h => absurd h (by decide)) (fun _ => ?_)
      rw [ru_t (show i < T by omega) ((BR_lt (hB i (by omega))).mp z)] at hR
      refine hK 2 [some (.ref 30), some (.int f), some (.int (nI i + 1))] [] (shH ru_ ta rs) I J 0 0 ?_
      rw [nI_1]
      exact ih (i + 1) N (by omega) (by omega) hR
    · rw [ru_f (bF Iff.rfl (fun y => z ((BR_lt (hB i (by omega))).mpr y)))] at hR
      exact And.intro (fun _ => hR) (fun h => absurd rfl h)
set_option maxRecDepth 100000 in
theorem tc_endOfLetters (d i : Nat) (hi : i ≤ T) (hT : T ≤ 300) (eT : I 30 1 = nI T) (hB : ∀ i, i < T → BR (I 31 i) (B i)) (hR : Rp (some (.int (nI (ru bLt B T i)))) (shH ru_ ta rs) I J) : xm l (d + 2) 0 0 mX7_endOfLetters [.ref 30, .int (nI i)] (shH ru_ ta rs) I J Rp := by
  refine xm_ofK 301 (X := xxX7) (t := tX7_endOfLetters) (stop := [2]) (ini := false) xx7 pl7 rfl kX7_endOfLetters (fun h => by cases h) (Nat.le_of_ble_eq_true rfl) (fun K hK => ?_)
  exact hK 2 [some (.ref 30), some (.int (nI i)), some (.int (nI i))] [] (shH ru_ ta rs) I J 0 0 (tc_letters_loop l ru_ ta rs I J Rp B T d hT eT hB _ (T - i) i 301 (by omega) (by omega) hR)
theorem min_nI {a n : Nat} (ha : a ≤ 10000) (hn : n ≤ 9) : (if nI a * 10 + nI (48 + n) - 48 < (10000 : Int32) then nI a * 10 + nI (48 + n) - 48 else (10000 : Int32)) = nI (min 10000 (10 * a + n)) := by
  have e : nI a * 10 + nI (48 + n) - 48 = nI (10 * a + n) := by
    rw [show (10 : Int32) = nI 10 from rfl, nI_mul, nI_add, show (48 : Int32) = nI 48 from rfl]
    apply Int32.toInt_inj.mp
    rw [i32_sub (by rw [nI_toInt (by omega), nI_toInt (by omega)]; omega) (by rw [nI_toInt (by omega), nI_toInt (by omega)]; omega), nI_toInt (by omega), nI_toInt (by omega), nI_toInt (by omega)]
    omega
  rw [e, show (10000 : Int32) = nI 10000 from rfl]
  rcases Nat.lt_or_ge (10 * a + n) 10000 with h | h
  · rw [if_pos (nI_lt h (by omega)), Nat.min_eq_right (by omega)]
  · rw [if_neg (nI_nlt h (by omega)), Nat.min_eq_left h]
set_option maxRecDepth 100000 in
theorem tc_number_loop (d j : Nat) (hj : j ≤ T) (hT : T ≤ 300) (eT : I 30 1 = nI T) (hB : ∀ i, i < T → BR (I 31 i) (B i)) (o : Option Value) : ∀ (m i a N : Nat), i + m = j → m < N → (∀ k, i ≤ k → k < j → bDg (B k) = true) → a ≤ 10000 → Rp (some (.int (nI (nuN B m i a)))) (shH ru_ ta rs) I J → xrun xxX7 (some .int) false false (shH ru_ ta rs).length 0 0 none l (d + 1) tX7_numberIn [5] Rp N 5 [some (.ref 30), o, some (.int (nI j)), some (.int (nI a)), some (.int (nI i))] [] (shH ru_ ta rs) I J 0 0 := by
  intro m
  induction m with
  | zero =>
    intro i a N hi hN hd ha hR
    obtain ⟨N, rfl⟩ : ∃ n', N = n' + 1 := ⟨N - 1, by omega⟩
    refine xrun_step fun K hK => ?_
    exact And.intro (fun _ => hR) (fun h => absurd (show nI j ≤ nI i from nI_le (by omega) (by omega)) h)
  | succ m ih =>
    intro i a N hi hN hd ha hR
    obtain ⟨N, rfl⟩ : ∃ n', N = n' + 1 := ⟨N - 1, by omega⟩
    obtain ⟨n, h9, ec, en⟩ := dg_BR (hB i (by omega)) (hd i (Nat.le_refl _) (by omega))
    rw [nuN, en] at hR
    refine xrun_step fun K hK => ?_
    refine And.intro (fun h => absurd (show nI j ≤ nI i from h) (nI_ge (by omega) (by omega))) (fun _ => ?_)
    refine tc_byteAt l ru_ ta rs I J _ T d i (by omega) hT eT (fun _ => ?_) (fun z => absurd z (by omega))
    refine hK 5 [some (.ref 30), o, some (.int (nI j)), some (.int (if nI a * 10 + I 31 i - 48 < (10000 : Int32) then nI a * 10 + I 31 i - 48 else (10000 : Int32))), some (.int (nI i + 1))] [] (shH ru_ ta rs) I J 0 0 ?_
    rw [ec, min_nI ha h9, nI_1]
    exact ih (i + 1) _ N (by omega) (by omega) (fun k h1 h2 => hd k (by omega) h2) (Nat.min_le_left _ _) hR
set_option maxRecDepth 100000 in
theorem tc_numberIn (d i : Nat) (hi : i ≤ T) (hT : T ≤ 300) (eT : I 30 1 = nI T) (hB : ∀ i, i < T → BR (I 31 i) (B i)) (hR : Rp (some (.int (nI (nuS B T i 0)))) (shH ru_ ta rs) I J) : xm l (d + 2) 0 0 mX7_numberIn [.ref 30, .int (nI i), .int (nI (ru bDg B T i))] (shH ru_ ta rs) I J Rp := by
  obtain ⟨a1, a2, a3, a4⟩ := ru_all (f := bDg) (B := B) (T - i) i (Nat.le_refl _) hi
  refine xm_ofK 302 (X := xxX7) (t := tX7_numberIn) (stop := [5]) (ini := false) xx7 pl7 rfl kX7_numberIn (fun h => by cases h) (Nat.le_of_ble_eq_true rfl) (fun K hK => ?_)
  exact hK 5 [some (.ref 30), some (.int (nI i)), some (.int (nI (ru bDg B T i))), some (.int (nI 0)), some (.int (nI i))] [] (shH ru_ ta rs) I J 0 0 (tc_number_loop l ru_ ta rs I J Rp B T d (ru bDg B T i) a2 hT eT hB _ (ru bDg B T i - i) i 0 302 (by omega) (by omega) a3 (by omega) hR)
-- words
def gB (I : XI) (i j k : Nat) : Int32 := if i + k < j then I 31 (i + k) else 32
set_option maxRecDepth 100000 in
set_option maxHeartbeats 1000000 in
theorem tc_isWord_loop (d w i j : Nat) (hw : w < 32) (hij : i ≤ j) (hj : j ≤ T) (hT : T ≤ 300) (eT : I 30 1 = nI T) (h1 : (∀ k, k < 6 → jsC (6 * w + k) = gB I i j k) → Rp (some (.int 1)) (shH ru_ ta rs) I J) (h0 : ¬ (∀ k, k < 6 → jsC (6 * w + k) = gB I i j k) → Rp (some (.int 0)) (shH ru_ ta rs) I J) : ∀ (m k N : Nat) (o6 o7 : Option Value), k + m = 6 → m + 1 < N → (∀ k', k' < k → jsC (6 * w + k') = gB I i j k') → xrun xxX7 (some .boolean) false false (shH ru_ ta rs).length 0 0 none l (d + 4) tX7_isWord [18] Rp N 18 [some (.ref 30), some (.int (nI w)), some (.int (nI i)), some (.int (nI j)), some (.int 1), some (.int (nI k)), o6, o7] [] (shH ru_ ta rs) I J 0 0 := by
  intro m
  induction m with
  | zero =>
    intro k N o6 o7 hk hN hp
    obtain ⟨N, rfl⟩ : ∃ n', N = n' + 1 := ⟨N - 1, by omega⟩
    refine xrun_step fun K hK => ?_
    exact And.intro (fun _ => And.intro (Or.inr rfl) (h1 (fun k' hk' => hp k' (by omega)))) (fun h => absurd (show nI 6 ≤ nI k from nI_le (by omega) (by omega)) h)
  | succ m ih =>
    intro k N o6 o7 hk hN hp
    obtain ⟨N, rfl⟩ : ∃ n', N = n' + 1 + 1 := ⟨N - 2, by omega⟩
    have e6 : nI w * 6 + nI k = nI (6 * w + k) := by
      rw [show (6 : Int32) = nI 6 from rfl, nI_mul, nI_add, Nat.mul_comm]
    have eik : nI i + nI k = nI (i + k) := nI_add i k
    have out : ∀ o6 o7 : Option Value, ¬ (∀ k, k < 6 → jsC (6 * w + k) = gB I i j k) → xrun xxX7 (some .boolean) false false (shH ru_ ta rs).length 0 0 none l (d + 4) tX7_isWord [18] Rp (N + 1) 18 [some (.ref 30), some (.int (nI w)), some (.int (nI i)), some (.int (nI j)), some (.int 0), some (.int (nI k + 1)), o6, o7] [] (shH ru_ ta rs) I J 0 0 := by
      intro o6 o7 hn
      refine xrun_step fun K hK => ?_
      exact And.intro (fun _ => And.intro (Or.inl rfl) (h0 hn)) (fun _ => And.intro (fun _ => And.intro (Or.inl rfl) (h0 hn)) (fun h => absurd rfl h))
    refine xrun_step fun K hK => ?_
    refine And.intro (fun h => absurd (show nI 6 ≤ nI k from h) (nI_ge (by omega) (by omega))) (fun _ => ?_)
    refine And.intro (fun h => absurd h (by decide)) (fun _ => ?_)
    by_cases hb : i + k < j
    · refine And.intro (fun h => absurd (show nI j ≤ nI i + nI k from h) (by rw [eik]; exact nI_ge hb (by omega))) (fun _ => ?_)
      show xm l (d + 4) 0 0 mX7_byteAt [.ref 30, .int (nI i + nI k)] (shH ru_ ta rs) I J _
      rw [eik]
      refine tc_byteAt l ru_ ta rs I J _ T (d + 3) (i + k) (by omega) hT eT (fun _ => ?_) (fun z => absurd z (by omega))
      have eg : I 31 (i + k) = gB I i j k := by rw [gB, if_pos hb]
      refine And.intro (fun h => absurd (show nI w * 6 + nI k < 0 from h) (by rw [e6]; exact nI_pos (by omega))) (fun _ => ?_)
      refine js_length1 l (d + 2) _ _ _ _ ?_
      refine And.intro (fun h => absurd (show nI 192 ≤ nI w * 6 + nI k from h) (by rw [e6]; exact nI_ge (by omega) (by omega))) (fun _ => ?_)
      show xm l (d + 4) 0 0 mJ0_charAt_5068e [.ref 900001, .int (nI w * 6 + nI k)] (shH ru_ ta rs) I J _
      rw [e6]
      refine js_charAt l d (6 * w + k) (by omega) _ _ _ _ ?_
      refine And.intro (fun hne => ?_) (fun heq => ?_)
      · exact hK 18 [some (.ref 30), some (.int (nI w)), some (.int (nI i)), some (.int (nI j)), some (.int 0), some (.int (nI k + 1)), some (.int (nI w * 6 + nI k)), some (.int (I 31 (i + k)))] [] (shH ru_ ta rs) I J 0 0 (out _ _ (fun z => hne (by rw [eg]; exact z k (by omega))))
      · refine hK 18 [some (.ref 30), some (.int (nI w)), some (.int (nI i)), some (.int (nI j)), some (.int 1), some (.int (nI k + 1)), some (.int (nI w * 6 + nI k)), some (.int (I 31 (i + k)))] [] (shH ru_ ta rs) I J 0 0 ?_
        rw [nI_1]
        refine ih (k + 1) (N + 1) _ _ (by omega) (by omega) (fun k' hk' => ?_)
        by_cases z : k' = k
        · rw [z, ← eg]
          exact heq
        · exact hp k' (by omega)
    · refine And.intro (fun _ => ?_) (fun h => absurd (show nI j ≤ nI i + nI k by rw [eik]; exact nI_le (by omega) (by omega)) h)
      have eg : (32 : Int32) = gB I i j k := by rw [gB, if_neg hb]
      refine And.intro (fun h => absurd (show nI w * 6 + nI k < 0 from h) (by rw [e6]; exact nI_pos (by omega))) (fun _ => ?_)
      refine js_length1 l (d + 2) _ _ _ _ ?_
      refine And.intro (fun h => absurd (show nI 192 ≤ nI w * 6 + nI k from h) (by rw [e6]; exact nI_ge (by omega) (by omega))) (fun _ => ?_)
      show xm l (d + 4) 0 0 mJ0_charAt_5068e [.ref 900001, .int (nI w * 6 + nI k)] (shH ru_ ta rs) I J _
      rw [e6]
      refine js_charAt l d (6 * w + k) (by omega) _ _ _ _ ?_
      refine And.intro (fun hne => ?_) (fun heq => ?_)
      · exact hK 18 [some (.ref 30), some (.int (nI w)), some (.int (nI i)), some (.int (nI j)), some (.int 0), some (.int (nI k + 1)), some (.int (nI w * 6 + nI k)), some (.int 32)] [] (shH ru_ ta rs) I J 0 0 (out _ _ (fun z => hne (by
          have y := z k (by omega)
          rw [← eg] at y
          exact y)))
      · refine hK 18 [some (.ref 30), some (.int (nI w)), some (.int (nI i)), some (.int (nI j)), some (.int 1), some (.int (nI k + 1)), some (.int (nI w * 6 + nI k)), some (.int 32)] [] (shH ru_ ta rs) I J 0 0 ?_
        rw [nI_1]
        refine ih (k + 1) (N + 1) _ _ (by omega) (by omega) (fun k' hk' => ?_)
        by_cases z : k' = k
        · rw [z, ← eg]
          exact heq
        · exact hp k' (by omega)
set_option maxRecDepth 100000 in
theorem tc_isWord (d w i j : Nat) (hw : w < 32) (hij : i ≤ j) (hj : j ≤ T) (hT : T ≤ 300) (eT : I 30 1 = nI T) (h1 : j - i ≤ 6 → (∀ k, k < 6 → jsC (6 * w + k) = gB I i j k) → Rp (some (.int 1)) (shH ru_ ta rs) I J) (h0 : ¬ (j - i ≤ 6 ∧ ∀ k, k < 6 → jsC (6 * w + k) = gB I i j k) → Rp (some (.int 0)) (shH ru_ ta rs) I J) : xm l (d + 5) 0 0 mX7_isWord [.ref 30, .int (nI w), .int (nI i), .int (nI j)] (shH ru_ ta rs) I J Rp := by
  have ed : nI j - nI i = nI (j - i) := by
    apply Int32.toInt_inj.mp
    rw [i32_sub (by rw [nI_toInt (by omega), nI_toInt (by omega)]; omega) (by rw [nI_toInt (by omega), nI_toInt (by omega)]; omega), nI_toInt (by omega), nI_toInt (by omega), nI_toInt (by omega)]
    omega
  refine xm_ofK 9 (X := xxX7) (t := tX7_isWord) (stop := [18]) (ini := false) xx7 pl7 rfl kX7_isWord (fun h => by cases h) (Nat.le_of_ble_eq_true rfl) (fun K hK => ?_)
  refine And.intro (fun h => ?_) (fun h => ?_)
  · have h : nI 6 < nI j - nI i := h
    rw [ed, nI_ltI (by omega) (by omega)] at h
    refine hK 18 [some (.ref 30), some (.int (nI w)), some (.int (nI i)), some (.int (nI j)), some (.int 0), some (.int (nI 0)), none, none] [] (shH ru_ ta rs) I J 0 0 ?_
    refine xrun_step fun K hK => ?_
    refine And.intro (fun h => absurd (show nI 6 ≤ nI 0 from h) (by decide)) (fun _ => ?_)
    exact And.intro (fun _ => And.intro (Or.inl rfl) (h0 (fun z => by omega))) (fun h => absurd rfl h)
  · have h : ¬ nI 6 < nI j - nI i := h
    rw [ed, nI_ltI (by omega) (by omega)] at h
    exact hK 18 [some (.ref 30), some (.int (nI w)), some (.int (nI i)), some (.int (nI j)), some (.int 1), some (.int (nI 0)), none, none] [] (shH ru_ ta rs) I J 0 0 (tc_isWord_loop l ru_ ta rs I J Rp T d w i j hw hij hj hT eT (fun z => h1 (by omega) z) (fun z => h0 (fun y => z y.2)) 6 0 9 none none (by omega) (by omega) (fun k' hk' => by omega))
end TAPE
theorem wC_jsC : ((List.range 32).all fun w => (List.range 6).all fun k => decide (jsC (6 * w + k) = (wC.getD w []).getD k 32)) = true := by decide +kernel
theorem isW_iff {I : XI} {B : Nat → Int32} {T i w : Nat} (hi : i ≤ T) (hB : ∀ i, i < T → BR (I 31 i) (B i)) (hw : w < 32) : (ru bLt B T i - i ≤ 6 ∧ ∀ k, k < 6 → jsC (6 * w + k) = gB I i (ru bLt B T i) k) ↔ lts B T i = wC.getD w [] := by
  obtain ⟨a1, a2, a3, a4⟩ := ru_all (f := bLt) (B := B) (T - i) i (Nat.le_refl _) hi
  have hg : ∀ k, gB I i (ru bLt B T i) k = (lts B T i).getD k 32 := by
    intro k
    unfold gB lts
    by_cases h : i + k < ru bLt B T i
    · rw [if_pos h, ltN_get B _ _ _ (by omega)]
      exact let_BR (hB (i + k) (by omega)) ((bLt_iff _).mp (a3 (i + k) (by omega) h))
    · rw [if_neg h, ltN_out B _ _ _ (by omega)]
  have hj : ∀ k, k < 6 → jsC (6 * w + k) = (wC.getD w []).getD k 32 := fun k hk => of_decide_eq_true (List.all_eq_true.mp (List.all_eq_true.mp wC_jsC w (List.mem_range.mpr hw)) k (List.mem_range.mpr hk))
  have hm : wC.getD w [] ∈ wC := by
    have y : ((List.range 32).all fun w => wC.contains (wC.getD w [])) = true := by decide +kernel
    simpa using List.all_eq_true.mp y w (List.mem_range.mpr hw)
  have hl := wC_let _ hm
  have hlen : (lts B T i).length = ru bLt B T i - i := ltN_len B _ _
  constructor
  · rintro ⟨h1, h2⟩
    refine pad_eq 6 _ _ (by omega) hl.1 (lts_let hi) hl.2 (fun k hk => ?_)
    rw [← hg k, ← hj k hk]
    exact (h2 k hk).symm
  · intro h
    refine ⟨by rw [← hlen, h]; exact hl.1, fun k hk => ?_⟩
    rw [hg k, h, hj k hk]
section TAPE2
variable (l : Launch) (ru_ ta : Nat) (rs : List XO) (I : XI) (J : XJ) (Rp : XR) (B : Nat → Int32) (T : Nat)
theorem wC_drop : ∀ w, w < 32 → wC.drop w = wC.getD w [] :: wC.drop (w + 1) := by
  have y : ((List.range 32).all fun w => decide (wC.drop w = wC.getD w [] :: wC.drop (w + 1))) = true := by decide +kernel
  intro w hw
  exact of_decide_eq_true (List.all_eq_true.mp y w (List.mem_range.mpr hw))
set_option maxRecDepth 100000 in
theorem tc_wordIn_loop (d i : Nat) (hi : i ≤ T) (hT : T ≤ 300) (eT : I 30 1 = nI T) (hB : ∀ i, i < T → BR (I 31 i) (B i)) : ∀ (m w N : Nat), w + m = 32 → m < N → Rp (some (.int (oI (kW (lts B T i) (wC.drop w) w)))) (shH ru_ ta rs) I J → xrun xxX7 (some .int) false false (shH ru_ ta rs).length 0 0 none l (d + 5) tX7_wordIn [2] Rp N 2 [some (.ref 30), some (.int (nI i)), some (.int (nI (ru bLt B T i))), some (.int (nI w))] [] (shH ru_ ta rs) I J 0 0 := by
  intro m
  induction m with
  | zero =>
    intro w N hw hN hR
    obtain ⟨N, rfl⟩ : ∃ n', N = n' + 1 := ⟨N - 1, by omega⟩
    have ew : w = 32 := by omega
    subst ew
    refine xrun_step fun K hK => ?_
    exact And.intro (fun _ => hR) (fun h => absurd (show nI 31 < nI 32 from nI_lt (by omega) (by omega)) h)
  | succ m ih =>
    intro w N hw hN hR
    obtain ⟨N, rfl⟩ : ∃ n', N = n' + 1 := ⟨N - 1, by omega⟩
    have hru := ru_all (f := bLt) (B := B) (T - i) i (Nat.le_refl _) hi
    have hif := isW_iff (B := B) (T := T) (i := i) hi hB (show w < 32 by omega)
    rw [wC_drop w (by omega), kW] at hR
    refine xrun_step fun K hK => ?_
    refine And.intro (fun h => absurd (show nI 31 < nI w from h) (nI_nlt (by omega) (by omega))) (fun _ => ?_)
    refine tc_isWord l ru_ ta rs I J _ T d w i (ru bLt B T i) (by omega) hru.1 hru.2.1 hT eT (fun h1 h2 => ?_) (fun h0 => ?_)
    · rw [decide_eq_true (hif.mp ⟨h1, h2⟩)] at hR
      exact And.intro (fun h => absurd h (by decide)) (fun _ => hR)
    · rw [decide_eq_false (fun z => h0 (hif.mpr z))] at hR
      refine And.intro (fun _ => ?_) (fun h => absurd rfl h)
      refine hK 2 [some (.ref 30), some (.int (nI i)), some (.int (nI (ru bLt B T i))), some (.int (nI w + 1))] [] (shH ru_ ta rs) I J 0 0 ?_
      rw [nI_1]
      exact ih (w + 1) N (by omega) (by omega) hR
set_option maxRecDepth 100000 in
theorem tc_wordIn (d i : Nat) (hi : i ≤ T) (hT : T ≤ 300) (eT : I 30 1 = nI T) (hB : ∀ i, i < T → BR (I 31 i) (B i)) (hR : Rp (some (.int (oI ((kW (lts B T i) wT 0).map cw)))) (shH ru_ ta rs) I J) : xm l (d + 6) 0 0 mX7_wordIn [.ref 30, .int (nI i), .int (nI (ru bLt B T i))] (shH ru_ ta rs) I J Rp := by
  rw [← kW_cls] at hR
  refine xm_ofK 34 (X := xxX7) (t := tX7_wordIn) (stop := [2]) (ini := false) xx7 pl7 rfl kX7_wordIn (fun h => by cases h) (Nat.le_of_ble_eq_true rfl) (fun K hK => ?_)
  exact hK 2 [some (.ref 30), some (.int (nI i)), some (.int (nI (ru bLt B T i))), some (.int (nI 0))] [] (shH ru_ ta rs) I J 0 0 (tc_wordIn_loop l ru_ ta rs I J Rp B T d i hi hT eT hB 32 0 34 (by omega) (by omega) hR)
def adI (I : XI) (c : Nat) (s v p : Int32) : XI := uI (uI (uI (uI I 32 c s) 33 c v) 34 c p) 30 5 (nI (c + 1))
set_option maxRecDepth 100000 in
theorem tc_addToken (d c : Nat) (hc : c < 301) (s v p : Int32) (e : I 30 5 = nI c) (hR : Rp none (shH ru_ ta rs) (adI I c s v p) J) : xm l (d + 1) 0 0 mX7_addToken [.ref 30, .int s, .int v, .int p] (shH ru_ ta rs) I J Rp := by
  have hv : vp_in (I 30 5) 301 := by rw [e]; exact vp_in_nI hc (by omega)
  refine xm_ofK 0 (X := xxX7) (t := tX7_addToken) (stop := []) (ini := false) xx7 pl7 rfl kX7_addToken (fun h => by cases h) (Nat.le_of_ble_eq_true rfl) (fun K hK => ?_)
  refine And.intro (fun h => absurd (show I 30 5 < 0 from h) (by rw [e]; exact nI_pos (by omega))) (fun _ => ?_)
  refine And.intro (fun h => absurd (show nI 301 ≤ I 30 5 from h) (by rw [e]; exact nI_ge hc (by omega))) (fun _ => ?_)
  refine And.intro hv (And.intro hv (And.intro hv ?_))
  show Rp none (shH ru_ ta rs) (uI (uI (uI (uI I 32 (I 30 5).toNatClampNeg s) 33 (I 30 5).toNatClampNeg v) 34 (I 30 5).toNatClampNeg p) 30 5 (I 30 5 + 1)) J
  rw [e, nI_clamp (by omega), nI_1]
  exact hR
end TAPE2
