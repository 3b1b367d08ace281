-- ===== hail of the reference ends, whatever it answers (parts that don't compare it) =====
theorem rem_to {p q : Int64} (hq : q ≠ 0) : (p - p / q * q).toInt = Int.tmod p.toInt q.toInt ∧ (Int.tmod p.toInt q.toInt).natAbs < q.toInt.natAbs := by
  have q0 : q.toInt ≠ 0 := fun z => hq (Int64.toInt_inj.mp z)
  have qa : 0 < q.toInt.natAbs := Int.natAbs_pos.mpr q0
  have lt : (Int.tmod p.toInt q.toInt).natAbs < q.toInt.natAbs := by
    rw [Int.natAbs_tmod]
    exact Nat.mod_lt _ qa
  have b1 := Int64.le_toInt q
  have b2 := Int64.toInt_lt q
  refine ⟨?_, lt⟩
  rw [Int64.toInt_sub, Int64.toInt_mul, Int64.toInt_div, Int.bmod_mul_bmod, Int.sub_bmod_bmod]
  have e : p.toInt - p.toInt.tdiv q.toInt * q.toInt = Int.tmod p.toInt q.toInt := by rw [Int.tmod_def, Int.mul_comm]
  rw [e]
  refine Int.bmod_eq_of_le_mul_two ?_ ?_
  · omega
  · omega
set_option maxRecDepth 100000 in
set_option maxHeartbeats 1000000 in
theorem hc_loop (l : Launch) (d : Nat) (x y : Int64) (sh : List XO) (I : XI) (J : XJ) (Rp : XR) (hR : ∀ g : Int64, g ≠ 0 → Rp (some (.long g)) sh I J) : ∀ (k : Nat) (p q : Int64) (o8 : Option Value), (o8 = none ∨ ∃ r : Int64, o8 = some (.long r)) → q.toInt.natAbs < k → p ≠ 0 → xrun xxX12 (some .long) false false sh.length 0 0 none l d tX12_common [6] Rp k 6 [some (.long x), none, some (.long y), none, some (.long p), none, some (.long q), none, o8, none] [] sh I J 0 0 := by
  intro k
  induction k with
  | zero => exact fun p q o8 _ h => absurd h (Nat.not_lt_zero _)
  | succ k ih =>
    intro p q o8 ho h hp
    refine xrun_step fun K hK => ?_
    refine And.intro (fun _ => ?_) (fun (z : ¬ lg_cmp q (Int64.ofNat 0) = 0) => ?_)
    · exact hR p hp
    · have q0 : ¬ q = 0 := lgn z
      obtain ⟨e, lt⟩ := rem_to (p := p) q0
      refine And.intro (show ¬ q = 0 from q0) ?_
      have nx := ih q (p - p / q * q) (some (.long (p - p / q * q))) (Or.inr ⟨_, rfl⟩) (by rw [e]; omega) q0
      rcases ho with rfl | ⟨r, rfl⟩
      · exact hK 6 [some (.long x), none, some (.long y), none, some (.long q), none, some (.long (p - p / q * q)), none, some (.long (p - p / q * q)), none] [] sh I J 0 0 nx
      · exact hK 6 [some (.long x), none, some (.long y), none, some (.long q), none, some (.long (p - p / q * q)), none, some (.long (p - p / q * q)), none] [] sh I J 0 0 nx
set_option maxRecDepth 100000 in
theorem hc_any (l : Launch) (d : Nat) (x y : Int64) (hx : x ≠ 0) (sh : List XO) (I : XI) (J : XJ) (Rp : XR) (hR : ∀ g : Int64, g ≠ 0 → Rp (some (.long g)) sh I J) : xm l (d + 1) 0 0 mX12_common [.long x, .long y] sh I J Rp := by
  refine xm_ofK (y.toInt.natAbs + 1) (X := xxX12) (t := tX12_common) (stop := [6]) (ini := false) xx12 pl12 rfl kX12_common (fun h => by cases h) (Nat.le_of_ble_eq_true rfl) (fun K hK => ?_)
  exact hK 6 [some (.long x), none, some (.long y), none, some (.long x), none, some (.long y), none, none, none] [] _ _ _ _ _ (hc_loop l d x y sh I J Rp hR _ x y none (Or.inl rfl) (by omega) hx)
theorem p10_n : ∀ i, i < 10 → ¬ Int64.ofNat (10 ^ i) = 0 := by decide +kernel
theorem p10_s : ∀ i, i < 10 → Int64.ofNat (10 ^ i) * 10 = Int64.ofNat (10 ^ (i + 1)) := by decide +kernel
theorem j_64 : ∀ j, j < 10 → ¬ (Int32.ofNat j + Int32.ofNat 1).toInt64 = 0 := by decide +kernel
abbrev hlz (l : Launch) (d : Nat) (sh : List XO) (I : XI) (J : XJ) (Rp : XR) (nn pc n : Nat) (k w : Int32) (s D : Int64) (t : List (Option Value)) : Prop := xrun xxX12 (some .int) false false sh.length 0 0 none l (d + 1) tX12_hail [31, 57, 70] Rp nn pc ([some (.ref 67), some (.int (Int32.ofNat n)), some (.int k), some (.int w), some (.long s), none, some (.long D), none] ++ t) [] sh I J 0 0
set_option maxRecDepth 100000 in
set_option maxHeartbeats 2000000 in
/-- the sum's loop -/
theorem hl_out (l : Launch) (d n : Nat) (n9 : n ≤ 9) (k w : Int32) (D : Int64) (hD : D ≠ 0) (sh : List XO) (I : XI) (J : XJ) (Rp : XR) (hR : ∀ r : Int32, Rp (some (.int r)) sh I J) : ∀ (m j nn : Nat) (s W : Int64) (o11 o13 : Option Value), (o11 = none ∧ o13 = none ∨ ∃ (a : Int64) (q : Int32), o11 = some (.long a) ∧ o13 = some (.int q)) → j + m = n + 1 → 12 * m < nn → hlz l d sh I J Rp nn 57 n k w s D [some (.long W), none, some (.int (Int32.ofNat j)), o11, none, o13] := by
  have c1 : ∀ {a b : Nat}, a < 100 → b < 100 → (Int32.ofNat a < Int32.ofNat b ↔ a < b) := fun {a b} ha hb => by
    rw [Int32.lt_iff_toInt_lt, Int32.toInt_ofNat_of_lt (by omega), Int32.toInt_ofNat_of_lt (by omega)]
    omega
  have c2 : ∀ {a b : Nat}, a < 100 → b < 100 → (Int32.ofNat a ≤ Int32.ofNat b ↔ a ≤ b) := fun {a b} ha hb => by
    rw [Int32.le_iff_toInt_le, Int32.toInt_ofNat_of_lt (by omega), Int32.toInt_ofNat_of_lt (by omega)]
    omega
  intro m
  induction m with
  | zero =>
    intro j nn s W o11 o13 ho hj hnn
    obtain ⟨nn, rfl⟩ : ∃ n', nn = n' + 1 := ⟨nn - 1, by omega⟩
    have gt : Int32.ofNat n < Int32.ofNat j := (c1 (by omega) (by omega)).mpr (by omega)
    have fin : ∀ (Rq : XR), (∀ g : Int64, g ≠ 0 → Rq (some (.long g)) sh I J) → xm l (d + 1) 0 0 mX12_common [.long D, .long s] sh I J Rq := fun Rq hq => hc_any l d D s hD sh I J Rq hq
    rcases ho with ⟨rfl, rfl⟩ | ⟨a, q, rfl, rfl⟩
    all_goals
      refine xrun_step fun K hK => ?_
      refine And.intro (fun _ => ?_) (fun z => absurd gt z)
      refine fin _ (fun g hg => ?_)
      refine And.intro (fun _ => ?_) (fun _ => ?_)
      · refine And.intro (show ¬ g = 0 from hg) ?_
        exact hR _
      · refine And.intro (show ¬ g = 0 from hg) ?_
        exact hR _
  | succ m ih =>
    intro j nn s W o11 o13 ho hj hnn
    obtain ⟨nn, rfl⟩ : ∃ n', nn = n' + 1 := ⟨nn - 1, by omega⟩
    have ngt : ¬ Int32.ofNat n < Int32.ofNat j := fun z => by
      have := (c1 (by omega) (by omega)).mp z
      omega
    have j0 := j_64 j (by omega)
    -- the part's loop
    have inn : ∀ (mm q nq : Nat) (a : Int64), q + mm = n → 12 * m + 1 + mm < nq → hlz l d sh I J Rp nq 70 n k w s D [some (.long W), none, some (.int (Int32.ofNat j)), some (.long a), none, some (.int (Int32.ofNat q))] := by
      intro mm
      induction mm with
      | zero =>
        intro q nq a hq hnq
        obtain ⟨nq, rfl⟩ : ∃ n', nq = n' + 1 := ⟨nq - 1, by omega⟩
        have hq : q = n := by omega
        subst hq
        have e1 : Int32.ofNat j + Int32.ofNat 1 = Int32.ofNat (j + 1) := (Int32.ofNat_add j 1).symm
        have nx : ∀ s' W' : Int64, hlz l d sh I J Rp nq 57 q k w s' D [some (.long W'), none, some (.int (Int32.ofNat j + Int32.ofNat 1)), some (.long a), none, some (.int (Int32.ofNat q))] := fun s' W' => by
          rw [e1]
          exact ih (j + 1) nq s' W' _ _ (Or.inr ⟨a, _, rfl, rfl⟩) (by omega) (by omega)
        refine xrun_step fun K hK => ?_
        refine And.intro (fun _ => ?_) (fun z => absurd (Int32.le_refl _) z)
        refine And.intro (fun _ => ?_) (fun _ => ?_)
        · refine And.intro (show ¬ (Int32.ofNat j + Int32.ofNat 1).toInt64 = 0 from j0) ?_
          exact hK 57 _ [] sh I J 0 0 (nx _ _)
        · refine And.intro (show ¬ (Int32.ofNat j + Int32.ofNat 1).toInt64 = 0 from j0) ?_
          exact hK 57 _ [] sh I J 0 0 (nx _ _)
      | succ mm ihm =>
        intro q nq a hq hnq
        obtain ⟨nq, rfl⟩ : ∃ n', nq = n' + 1 := ⟨nq - 1, by omega⟩
        have e1 : Int32.ofNat q + Int32.ofNat 1 = Int32.ofNat (q + 1) := (Int32.ofNat_add q 1).symm
        have nx : ∀ a' : Int64, hlz l d sh I J Rp nq 70 n k w s D [some (.long W), none, some (.int (Int32.ofNat j)), some (.long a'), none, some (.int (Int32.ofNat q + Int32.ofNat 1))] := fun a' => by
          rw [e1]
          exact ihm (q + 1) nq a' (by omega) (by omega)
        refine xrun_step fun K hK => ?_
        refine And.intro (fun z => absurd ((c2 (by omega) (by omega)).mp (show Int32.ofNat n ≤ Int32.ofNat q from z)) (by omega)) (fun _ => ?_)
        refine And.intro (fun _ => ?_) (fun _ => ?_)
        · exact hK 70 _ [] sh I J 0 0 (nx _)
        · exact hK 70 _ [] sh I J 0 0 (nx _)
    rcases ho with ⟨rfl, rfl⟩ | ⟨a, q, rfl, rfl⟩
    all_goals
      refine xrun_step fun K hK => ?_
      refine And.intro (fun z => absurd z ngt) (fun _ => ?_)
      exact hK 70 _ [] sh I J 0 0 (inn n 0 nn W (Nat.zero_add _) (by omega))
set_option maxRecDepth 100000 in
set_option maxHeartbeats 2000000 in
theorem hl_ten (l : Launch) (d n : Nat) (n9 : n ≤ 9) (k w : Int32) (sh : List XO) (I : XI) (J : XJ) (Rp : XR) (hR : ∀ r : Int32, Rp (some (.int r)) sh I J) : ∀ (m i nn : Nat), i + m = n → 200 + m < nn → hlz l d sh I J Rp nn 31 n k w (Int64.ofNat 0) (Int64.ofNat (10 ^ i)) [some (.int (Int32.ofNat i)), none, none, none, none, none] := by
  have c2 : ∀ {a b : Nat}, a < 100 → b < 100 → (Int32.ofNat a ≤ Int32.ofNat b ↔ a ≤ b) := fun {a b} ha hb => by
    rw [Int32.le_iff_toInt_le, Int32.toInt_ofNat_of_lt (by omega), Int32.toInt_ofNat_of_lt (by omega)]
    omega
  intro m
  induction m with
  | zero =>
    intro i nn hi hnn
    obtain ⟨nn, rfl⟩ : ∃ n', nn = n' + 1 := ⟨nn - 1, by omega⟩
    have hi : i = n := by omega
    subst hi
    refine xrun_step fun K hK => ?_
    refine And.intro (fun _ => ?_) (fun z => absurd (Int32.le_refl _) z)
    exact hK 57 _ [] sh I J 0 0 (hl_out l d i n9 k w _ (p10_n i (by omega)) sh I J Rp hR (i + 1) 0 nn (Int64.ofNat 0) (Int64.ofNat 1) none none (Or.inl ⟨rfl, rfl⟩) (by omega) (by omega))
  | succ m ih =>
    intro i nn hi hnn
    obtain ⟨nn, rfl⟩ : ∃ n', nn = n' + 1 := ⟨nn - 1, by omega⟩
    have e1 : Int32.ofNat i + Int32.ofNat 1 = Int32.ofNat (i + 1) := (Int32.ofNat_add i 1).symm
    have nx := ih (i + 1) nn (by omega) (by omega)
    rw [← e1, ← p10_s i (by omega)] at nx
    refine xrun_step fun K hK => ?_
    refine And.intro (fun z => absurd ((c2 (by omega) (by omega)).mp (show Int32.ofNat n ≤ Int32.ofNat i from z)) (by omega)) (fun _ => ?_)
    exact hK 31 _ [] sh I J 0 0 nx
set_option maxRecDepth 100000 in
set_option maxHeartbeats 1000000 in
theorem m_hail_any (l : Launch) (d : Nat) (n k w : Int32) (sh : List XO) (I : XI) (J : XJ) (Rp : XR) (hR : ∀ r : Int32, Rp (some (.int r)) sh I J) : xm l (d + 2) 0 0 mX12_hail [.ref 67, .int n, .int k, .int w] sh I J Rp := by
  refine xm_ofK 300 (X := xxX12) (t := tX12_hail) (stop := [31, 57, 70]) (ini := false) xx12 pl12 rfl kX12_hail (fun h => by cases h) (Nat.le_of_ble_eq_true rfl) (fun K hK => ?_)
  by_cases h1 : 1 ≤ n ∧ n ≤ 9
  · refine m_in_t l _ _ _ _ _ _ _ _ h1.1 h1.2 ?_
    refine And.intro (fun h => absurd h (show ¬ ((1 : Int32) = (0 : Int32)) by decide)) (fun _ => ?_)
    by_cases h2 : 0 ≤ k ∧ k ≤ 9
    · refine m_in_t l _ _ _ _ _ _ _ _ h2.1 h2.2 ?_
      refine And.intro (fun _ => ?_) (fun h => absurd h (show ¬ ((1 : Int32) = (0 : Int32)) by decide))
      have y1 := Int32.le_iff_toInt_le.mp h1.1
      have y2 := Int32.le_iff_toInt_le.mp h1.2
      rw [show (1 : Int32).toInt = 1 from rfl] at y1
      rw [show (9 : Int32).toInt = 9 from rfl] at y2
      have en : n = Int32.ofNat n.toInt.toNat := by
        apply Int32.toInt_inj.mp
        rw [Int32.toInt_ofNat_of_lt (by omega)]
        omega
      have z := hl_ten l d n.toInt.toNat (by omega) k w sh I J Rp hR n.toInt.toNat 0 300 (Nat.zero_add _) (by omega)
      unfold hlz at z
      rw [← en] at z
      exact hK 31 _ [] sh I J 0 0 z
    · refine m_in_f l _ _ _ _ _ _ _ _ h2 ?_
      refine And.intro (fun h => absurd (show ((0 : Int32) = (0 : Int32)) by decide) h) (fun _ => ?_)
      exact hR _
  · refine m_in_f l _ _ _ _ _ _ _ _ h1 ?_
    refine And.intro (fun _ => ?_) (fun h => absurd (show ((0 : Int32) = (0 : Int32)) by decide) h)
    exact hR _

