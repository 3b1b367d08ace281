-- ===== the fewest bales that are enough: sums over sets =====
def smB (a : Nat → Nat) (S : Nat → Bool) : Nat → Nat
  | 0 => 0
  | b + 1 => smB a S b + (if S b = true then a b else 0)
def ctB (S : Nat → Bool) (b : Nat) : Nat := smB (fun _ => 1) S b
def nuB (S : Nat → Bool) (b : Nat) : Nat := smB (fun x => 2 ^ x) S b
theorem smB_cg {a : Nat → Nat} {S S' : Nat → Bool} : ∀ b, (∀ x, x < b → S x = S' x) → smB a S b = smB a S' b
  | 0, _ => rfl
  | b + 1, h => by
    unfold smB
    rw [smB_cg b (fun x hx => h x (by omega)), h b (by omega)]
theorem smB_le {a : Nat → Nat} {S : Nat → Bool} {k : Nat} : ∀ b, (∀ x, x < b → a x ≤ k) → smB a S b ≤ b * k
  | 0, _ => Nat.zero_le _
  | b + 1, h => by
    have ih := smB_le (S := S) b (fun x hx => h x (by omega))
    have hb := h b (by omega)
    unfold smB
    rw [Nat.succ_mul]
    split <;> omega
theorem ctB_le (S : Nat → Bool) (b : Nat) : ctB S b ≤ b := by
  have := smB_le (a := fun _ => 1) (S := S) (k := 1) b (fun _ _ => Nat.le_refl _)
  unfold ctB
  omega
theorem nuB_lt (S : Nat → Bool) : ∀ b, nuB S b < 2 ^ b
  | 0 => by
    show 0 < 2 ^ 0
    decide
  | b + 1 => by
    have ih := nuB_lt S b
    show nuB S b + (if S b = true then 2 ^ b else 0) < 2 ^ (b + 1)
    rw [Nat.pow_succ]
    split <;> omega
theorem nuB_bits (s : Nat) : ∀ b, nuB (Nat.testBit s) b = s % 2 ^ b
  | 0 => by
    show 0 = s % 2 ^ 0
    rw [Nat.pow_zero, Nat.mod_one]
  | b + 1 => by
    have ih := nuB_bits s b
    show nuB (Nat.testBit s) b + (if Nat.testBit s b = true then 2 ^ b else 0) = s % 2 ^ (b + 1)
    rw [ih, Nat.testBit_eq_decide_div_mod_eq, Nat.pow_succ, Nat.mod_mul]
    rcases bit_two s b with e | e
    · rw [e]
      rfl
    · rw [e, Nat.mul_one]
      rfl
theorem ctB_bits (s : Nat) : ∀ b, ctB (Nat.testBit s) b = pcN b s
  | 0 => rfl
  | b + 1 => by
    have ih := ctB_bits s b
    show ctB (Nat.testBit s) b + (if Nat.testBit s b = true then 1 else 0) = pcN (b + 1) s
    rw [ih, Nat.testBit_eq_decide_div_mod_eq, pcN_step]
    rcases bit_two s b with e | e
    · rw [e]
      rfl
    · rw [e]
      rfl
/-- the bits of a set's number -/
theorem bits_nm (S : Nat → Bool) : ∀ b x, x < b → Nat.testBit (nuB S b) x = S x
  | 0, x, h => absurd h (Nat.not_lt_zero x)
  | b + 1, x, h => by
    have lt := nuB_lt S b
    show Nat.testBit (nuB S b + (if S b = true then 2 ^ b else 0)) x = S x
    by_cases e : x = b
    · subst e
      by_cases c : S x = true
      · rw [if_pos c, Nat.add_comm, Nat.testBit_two_pow_add_eq, Nat.testBit_lt_two_pow lt, c]
        rfl
      · rw [if_neg c, Nat.add_zero, Nat.testBit_lt_two_pow lt]
        cases q : S x with
        | false => rfl
        | true => exact absurd q c
    · have ih := bits_nm S b x (by omega)
      by_cases c : S b = true
      · rw [if_pos c, Nat.add_comm, Nat.testBit_two_pow_add_gt (by omega), ih]
      · rw [if_neg c, Nat.add_zero, ih]
/-- with a threshold the sum of a set is the greatest of its size -/
theorem smB_thr {a : Nat → Nat} {T : Nat → Bool} {t : Nat} (S : Nat → Bool) : ∀ b, (∀ x, x < b → (T x = true → t ≤ a x) ∧ (T x = false → a x ≤ t)) → smB a S b + t * ctB T b ≤ smB a T b + t * ctB S b
  | 0, _ => Nat.le_refl _
  | b + 1, h => by
    have ih := smB_thr S b (fun x hx => h x (by omega))
    obtain ⟨h1, h2⟩ := h b (by omega)
    show smB a S b + (if S b = true then a b else 0) + t * (ctB T b + (if T b = true then 1 else 0)) ≤ smB a T b + (if T b = true then a b else 0) + t * (ctB S b + (if S b = true then 1 else 0))
    rw [Nat.mul_add, Nat.mul_add]
    generalize t * ctB T b = u at ih ⊢
    generalize t * ctB S b = v at ih ⊢
    cases c1 : S b <;> cases c2 : T b
    · simp only [Bool.false_eq_true, if_false, Nat.mul_zero, Nat.add_zero]
      exact ih
    · have := h1 c2
      simp only [Bool.false_eq_true, if_false, if_true, Nat.mul_zero, Nat.mul_one, Nat.add_zero]
      omega
    · have := h2 c2
      simp only [Bool.false_eq_true, if_false, if_true, Nat.mul_zero, Nat.mul_one, Nat.add_zero]
      omega
    · simp only [if_true, Nat.mul_one]
      omega
/-- v is the greatest sum of at most c of the bales below b -/
def LF (a : Nat → Nat) (b c v : Nat) : Prop := (∃ T : Nat → Bool, smB a T b = v ∧ ctB T b ≤ c) ∧ ∀ S : Nat → Bool, ctB S b ≤ c → smB a S b ≤ v
theorem LF_thr {a : Nat → Nat} {b : Nat} {T : Nat → Bool} {t : Nat} (h : ∀ x, x < b → (T x = true → t ≤ a x) ∧ (T x = false → a x ≤ t)) : LF a b (ctB T b) (smB a T b) := by
  refine ⟨⟨T, rfl, Nat.le_refl _⟩, fun S hS => ?_⟩
  have y := smB_thr (a := a) (T := T) (t := t) S b h
  have z := Nat.mul_le_mul_left t hS
  omega
theorem LF_all {a : Nat → Nat} {b c : Nat} {T : Nat → Bool} (h : ∀ x, x < b → T x = true) (hc : ctB T b ≤ c) : LF a b c (smB a T b) := by
  refine ⟨⟨T, rfl, hc⟩, fun S _ => ?_⟩
  have y := smB_thr (a := a) (T := T) (t := 0) S b (fun x hx => ⟨fun _ => Nat.zero_le _, fun z => by rw [h x hx] at z; cases z⟩)
  omega
theorem LF.det {a : Nat → Nat} {b c v v' : Nat} (h : LF a b c v) (h' : LF a b c v') : v = v' := by
  obtain ⟨⟨T, e, k⟩, g⟩ := h
  obtain ⟨⟨T', e', k'⟩, g'⟩ := h'
  have := g T' k'
  have := g' T k
  omega
/-- that many feet can be had of at most c bales below b -/
def Can (a : Nat → Nat) (b c : Nat) (m : Int) : Prop := ∃ S : Nat → Bool, ctB S b ≤ c ∧ m ≤ (smB a S b : Int)
theorem LF.can {a : Nat → Nat} {b c v : Nat} (h : LF a b c v) (m : Int) : Can a b c m ↔ m ≤ (v : Int) := by
  obtain ⟨⟨T, e, k⟩, g⟩ := h
  refine ⟨fun ⟨S, k', e'⟩ => ?_, fun z => ⟨T, k, by rw [e]; exact z⟩⟩
  have := g S k'
  omega
/-- the lowest set, from the highest bale down -/
def rsE (f : Nat → Nat → Nat) (a : Nat → Nat) : Nat → Nat → Int → Nat
  | 0, _, _ => 0
  | b + 1, c, m => if (f b c : Int) < m then 2 ^ b + rsE f a b (c - 1) (m - (a b : Int)) else rsE f a b c m
theorem rsE_ok {f : Nat → Nat → Nat} {a : Nat → Nat} (hf : ∀ b c, b ≤ 12 → LF a b c (f b c)) : ∀ (b c : Nat) (m : Int), b ≤ 12 → Can a b c m → (∃ S : Nat → Bool, nuB S b = rsE f a b c m ∧ ctB S b ≤ c ∧ m ≤ (smB a S b : Int)) ∧ ∀ S : Nat → Bool, ctB S b ≤ c → m ≤ (smB a S b : Int) → rsE f a b c m ≤ nuB S b
  | 0, c, m, _, h => by
    obtain ⟨S, h1, h2⟩ := h
    exact ⟨⟨S, rfl, h1, h2⟩, fun _ _ _ => Nat.zero_le _⟩
  | b + 1, c, m, hb, h => by
    have cn := (hf b c (by omega)).can m
    unfold rsE
    by_cases q : (f b c : Int) < m
    · rw [if_pos q]
      have no : ¬ Can a b c m := fun z => by
        have := cn.mp z
        omega
      have must : ∀ S : Nat → Bool, ctB S (b + 1) ≤ c → m ≤ (smB a S (b + 1) : Int) → S b = true ∧ ctB S b ≤ c - 1 ∧ m - (a b : Int) ≤ (smB a S b : Int) ∧ 1 ≤ c := fun S k e => by
        have ek : ctB S (b + 1) = ctB S b + (if S b = true then 1 else 0) := rfl
        have es : smB a S (b + 1) = smB a S b + (if S b = true then a b else 0) := rfl
        rw [ek] at k
        rw [es] at e
        by_cases s : S b = true
        · rw [if_pos s] at k e
          refine ⟨s, by omega, by omega, by omega⟩
        · rw [if_neg s] at k e
          exact absurd ⟨S, by omega, by omega⟩ no
      obtain ⟨S0, k0, e0⟩ := h
      obtain ⟨s0, k1, e1, c1⟩ := must S0 k0 e0
      obtain ⟨⟨S, n1, n2, n3⟩, lo⟩ := rsE_ok hf b (c - 1) (m - (a b : Int)) (by omega) ⟨S0, k1, e1⟩
      refine ⟨⟨fun x => if x = b then true else S x, ?_, ?_, ?_⟩, fun S' k' e' => ?_⟩
      · show nuB (fun x => if x = b then true else S x) b + (if (fun x => if x = b then true else S x) b = true then 2 ^ b else 0) = _
        have y : nuB (fun x => if x = b then true else S x) b = nuB S b := smB_cg b (fun x hx => if_neg (by omega))
        rw [y, n1, if_pos (if_pos rfl), Nat.add_comm]
      · show ctB (fun x => if x = b then true else S x) b + (if (fun x => if x = b then true else S x) b = true then 1 else 0) ≤ c
        have y : ctB (fun x => if x = b then true else S x) b = ctB S b := smB_cg b (fun x hx => if_neg (by omega))
        rw [y, if_pos (if_pos rfl)]
        omega
      · have z : smB a (fun x => if x = b then true else S x) (b + 1) = smB a (fun x => if x = b then true else S x) b + (if (fun x => if x = b then true else S x) b = true then a b else 0) := rfl
        have y : smB a (fun x => if x = b then true else S x) b = smB a S b := smB_cg b (fun x hx => if_neg (by omega))
        rw [z, y, if_pos (if_pos rfl)]
        omega
      · obtain ⟨s', k1', e1', _⟩ := must S' k' e'
        have := lo S' k1' e1'
        show 2 ^ b + _ ≤ nuB S' b + (if S' b = true then 2 ^ b else 0)
        rw [if_pos s']
        omega
    · rw [if_neg q]
      have yes : Can a b c m := cn.mpr (by omega)
      obtain ⟨⟨S, n1, n2, n3⟩, lo⟩ := rsE_ok hf b c m (by omega) yes
      have lt : rsE f a b c m < 2 ^ b := by
        rw [← n1]
        exact nuB_lt S b
      refine ⟨⟨fun x => if x = b then false else S x, ?_, ?_, ?_⟩, fun S' k' e' => ?_⟩
      · show nuB (fun x => if x = b then false else S x) b + (if (fun x => if x = b then false else S x) b = true then 2 ^ b else 0) = _
        have y : nuB (fun x => if x = b then false else S x) b = nuB S b := smB_cg b (fun x hx => if_neg (by omega))
        have w : ¬ (fun x => if x = b then false else S x) b = true := by
          show ¬ (if b = b then false else S b) = true
          rw [if_pos rfl]
          decide
        rw [y, n1, if_neg w]
        rfl
      · show ctB (fun x => if x = b then false else S x) b + (if (fun x => if x = b then false else S x) b = true then 1 else 0) ≤ c
        have y : ctB (fun x => if x = b then false else S x) b = ctB S b := smB_cg b (fun x hx => if_neg (by omega))
        have w : ¬ (fun x => if x = b then false else S x) b = true := by
          show ¬ (if b = b then false else S b) = true
          rw [if_pos rfl]
          decide
        rw [y, if_neg w]
        omega
      · have z : smB a (fun x => if x = b then false else S x) (b + 1) = smB a (fun x => if x = b then false else S x) b + (if (fun x => if x = b then false else S x) b = true then a b else 0) := rfl
        have y : smB a (fun x => if x = b then false else S x) b = smB a S b := smB_cg b (fun x hx => if_neg (by omega))
        have w : ¬ (fun x => if x = b then false else S x) b = true := by
          show ¬ (if b = b then false else S b) = true
          rw [if_pos rfl]
          decide
        rw [z, y, if_neg w]
        omega
      · have ek : ctB S' (b + 1) = ctB S' b + (if S' b = true then 1 else 0) := rfl
        have es : smB a S' (b + 1) = smB a S' b + (if S' b = true then a b else 0) := rfl
        show _ ≤ nuB S' b + (if S' b = true then 2 ^ b else 0)
        by_cases s : S' b = true
        · rw [if_pos s]
          omega
        · rw [if_neg s] at ek es ⊢
          have := lo S' (by omega) (by omega)
          omega
-- the reference: all sets, from the highest down
def okB (a : Nat → Nat) (s : Nat) : Prop := ∀ b, b < 12 → Nat.testBit s b = true → 0 < a b
def vlB (a : Nat → Nat) (x s : Nat) : Prop := okB a s ∧ x ≤ smB a (Nat.testBit s) 12
/-- what stands after the sets down to s; 4096: none -/
def bsE (a : Nat → Nat) (x s F : Nat) : Prop := (F = 4096 ∧ ∀ s', s < s' → s' < 4096 → ¬ vlB a x s') ∨ (s < F ∧ F < 4096 ∧ vlB a x F ∧ ∀ s', s < s' → s' < 4096 → vlB a x s' → pcN 12 F < pcN 12 s' ∨ (pcN 12 F = pcN 12 s' ∧ F ≤ s'))
theorem bsE_0 (a : Nat → Nat) (x : Nat) : bsE a x 4095 4096 := Or.inl ⟨rfl, fun s' h1 h2 => by omega⟩
theorem bsE_no {a : Nat → Nat} {x s F : Nat} (h : bsE a x (s + 1) F) (n : ¬ vlB a x (s + 1) ∨ (F < 4096 ∧ pcN 12 F < pcN 12 (s + 1))) : bsE a x s F := by
  rcases h with ⟨e, g⟩ | ⟨h1, h2, h3, h4⟩
  · refine Or.inl ⟨e, fun s' k1 k2 => ?_⟩
    by_cases c : s' = s + 1
    · rcases n with n | n
      · rw [c]
        exact n
      · omega
    · exact g s' (by omega) k2
  · refine Or.inr ⟨by omega, h2, h3, fun s' k1 k2 v => ?_⟩
    by_cases c : s' = s + 1
    · rcases n with n | n
      · rw [c] at v
        exact absurd v n
      · rw [c]
        exact Or.inl n.2
    · exact h4 s' (by omega) k2 v
theorem bsE_yes {a : Nat → Nat} {x s F : Nat} (h : bsE a x (s + 1) F) (hs : s + 1 < 4096) (v : vlB a x (s + 1)) (n : F = 4096 ∨ pcN 12 (s + 1) ≤ pcN 12 F) : bsE a x s (s + 1) := by
  refine Or.inr ⟨by omega, hs, v, fun s' k1 k2 v' => ?_⟩
  by_cases c : s' = s + 1
  · rw [c]
    exact Or.inr ⟨rfl, Nat.le_refl _⟩
  rcases h with ⟨e, g⟩ | ⟨h1, h2, h3, h4⟩
  · exact absurd v' (g s' (by omega) k2)
  · have n : pcN 12 (s + 1) ≤ pcN 12 F := by
      rcases n with n | n
      · omega
      · exact n
    rcases h4 s' (by omega) k2 v' with q | q
    · exact Or.inl (by omega)
    · rcases Nat.lt_or_ge (pcN 12 (s + 1)) (pcN 12 s') with r | r
      · exact Or.inl r
      · exact Or.inr ⟨by omega, by omega⟩
/-- a set with a bale that is none is enough without it -/
theorem can_drop {a : Nat → Nat} {S : Nat → Bool} {z : Nat} (hz : a z = 0) (hS : S z = true) : ∀ b, z < b → ctB (fun x => if x = z then false else S x) b + 1 = ctB S b ∧ smB a (fun x => if x = z then false else S x) b = smB a S b
  | 0, h => absurd h (Nat.not_lt_zero z)
  | b + 1, h => by
    show ctB (fun x => if x = z then false else S x) b + (if (if b = z then false else S b) = true then 1 else 0) + 1 = ctB S b + (if S b = true then 1 else 0) ∧ smB a (fun x => if x = z then false else S x) b + (if (if b = z then false else S b) = true then a b else 0) = smB a S b + (if S b = true then a b else 0)
    by_cases e : b = z
    · have y1 : ctB (fun x => if x = z then false else S x) b = ctB S b := smB_cg b (fun x hx => if_neg (by omega))
      have y2 : smB a (fun x => if x = z then false else S x) b = smB a S b := smB_cg b (fun x hx => if_neg (by omega))
      rw [y1, y2, if_pos e, e, hS, hz]
      exact ⟨rfl, rfl⟩
    · obtain ⟨i1, i2⟩ := can_drop hz hS b (by omega)
      rw [if_neg e, i2]
      refine ⟨?_, rfl⟩
      omega
/-- both are one: F of the reference; c the fewest that do, with it the lowest set -/
theorem enE {f : Nat → Nat → Nat} {a : Nat → Nat} (hf : ∀ b c, b ≤ 12 → LF a b c (f b c)) {x F : Nat} (hx : 1 ≤ x) (h : bsE a x 0 F) : (∀ c, c ≤ 12 → f 12 c < x) ∧ F = 4096 ∨ ∃ c, 1 ≤ c ∧ c ≤ 12 ∧ x ≤ f 12 c ∧ (∀ c', c' < c → f 12 c' < x) ∧ F = rsE f a 12 c (x : Int) := by
  have cn : ∀ c, Can a 12 c (x : Int) ↔ (x : Int) ≤ (f 12 c : Int) := fun c => (hf 12 c (Nat.le_refl _)).can _
  have vl : ∀ s, s < 4096 → vlB a x s → Can a 12 (pcN 12 s) (x : Int) := fun s hs v => ⟨Nat.testBit s, by rw [ctB_bits]; exact Nat.le_refl _, by have := v.2; omega⟩
  by_cases q : ∀ c, c ≤ 12 → f 12 c < x
  · refine Or.inl ⟨q, ?_⟩
    rcases h with ⟨e, _⟩ | ⟨h1, h2, h3, _⟩
    · exact e
    · have y := (cn _).mp (vl F h2 h3)
      have p : pcN 12 F ≤ 12 := by
        rw [← ctB_bits]
        exact ctB_le _ _
      have := q _ p
      omega
  · -- the least count
    have ex : ∃ c, c ≤ 12 ∧ x ≤ f 12 c ∧ ∀ c', c' < c → f 12 c' < x := by
      have st : ∀ n, n ≤ 13 → (∀ c, c < n → f 12 c < x) ∨ ∃ c, c < n ∧ x ≤ f 12 c ∧ ∀ c', c' < c → f 12 c' < x := by
        intro n
        induction n with
        | zero => exact fun _ => Or.inl (fun c hc => absurd hc (Nat.not_lt_zero c))
        | succ n ih =>
          intro hn
          rcases ih (by omega) with g | ⟨c, c1, c2, c3⟩
          · by_cases y : f 12 n < x
            · refine Or.inl (fun c hc => ?_)
              by_cases e : c = n
              · rw [e]
                exact y
              · exact g c (by omega)
            · exact Or.inr ⟨n, by omega, by omega, g⟩
          · exact Or.inr ⟨c, by omega, c2, c3⟩
      rcases st 13 (by omega) with g | ⟨c, c1, c2, c3⟩
      · exact absurd (fun c hc => g c (by omega)) q
      · exact ⟨c, by omega, c2, c3⟩
    obtain ⟨c, c12, cx, cmin⟩ := ex
    have c1 : 1 ≤ c := by
      rcases Nat.eq_zero_or_pos c with e | p
      · exfalso
        obtain ⟨⟨T, t1, t2⟩, _⟩ := hf 12 0 (Nat.le_refl _)
        subst e
        have z : ∀ b, ctB T b = 0 → smB a T b = 0 := by
          intro b
          induction b with
          | zero => exact fun _ => rfl
          | succ b ih =>
            intro k
            have ek : ctB T (b + 1) = ctB T b + (if T b = true then 1 else 0) := rfl
            have es : smB a T (b + 1) = smB a T b + (if T b = true then a b else 0) := rfl
            by_cases s : T b = true
            · rw [if_pos s] at ek
              omega
            · rw [if_neg s] at ek es
              rw [es, ih (by omega)]
        have := z 12 (by omega)
        omega
      · exact p
    refine Or.inr ⟨c, c1, c12, cx, cmin, ?_⟩
    have can : Can a 12 c (x : Int) := (cn c).mpr (by omega)
    obtain ⟨⟨S, n1, n2, n3⟩, lo⟩ := rsE_ok hf 12 c (x : Int) (Nat.le_refl _) can
    have lt := nuB_lt S 12
    rw [n1] at lt
    have lt : rsE f a 12 c (x : Int) < 4096 := lt
    have eb : ∀ b, b < 12 → Nat.testBit (rsE f a 12 c (x : Int)) b = S b := fun b hb => by
      rw [← n1]
      exact bits_nm S 12 b hb
    have ec : pcN 12 (rsE f a 12 c (x : Int)) = ctB S 12 := by
      rw [← ctB_bits]
      exact smB_cg 12 eb
    have es : smB a (Nat.testBit (rsE f a 12 c (x : Int))) 12 = smB a S 12 := smB_cg 12 eb
    have lowc : ∀ S' : Nat → Bool, (x : Int) ≤ (smB a S' 12 : Int) → c ≤ ctB S' 12 := fun S' e' => by
      rcases Nat.lt_or_ge (ctB S' 12) c with y | y
      · have := cmin _ y
        have := (cn (ctB S' 12)).mp ⟨S', Nat.le_refl _, e'⟩
        omega
      · exact y
    have ce : ctB S 12 = c := by
      have := lowc S n3
      omega
    have okr : vlB a x (rsE f a 12 c (x : Int)) := by
      refine ⟨fun b hb hbit => ?_, by rw [es]; omega⟩
      rw [eb b hb] at hbit
      rcases Nat.eq_zero_or_pos (a b) with z | z
      · exfalso
        obtain ⟨d1, d2⟩ := can_drop (a := a) (S := S) z hbit 12 hb
        have := lowc (fun x => if x = b then false else S x) (by rw [d2]; exact n3)
        omega
      · exact z
    have r0 : 0 < rsE f a 12 c (x : Int) := by
      rcases Nat.eq_zero_or_pos (rsE f a 12 c (x : Int)) with z | z
      · exfalso
        rw [z] at ec
        have : pcN 12 0 = 0 := by decide
        omega
      · exact z
    rcases h with ⟨e, g⟩ | ⟨h1, h2, h3, h4⟩
    · exact absurd okr (g _ r0 lt)
    · have k1 := h4 _ r0 lt okr
      have k2 := lowc (Nat.testBit F) (by have := h3.2; omega)
      rw [ctB_bits] at k2
      have k3 : pcN 12 F = c := by omega
      have k4 := lo (Nat.testBit F) (by rw [ctB_bits]; omega) (by have := h3.2; omega)
      rw [nuB_bits, Nat.mod_eq_of_lt (show F < 2 ^ 12 from h2)] at k4
      omega

