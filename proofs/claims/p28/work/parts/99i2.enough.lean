-- ===== enough, both sides =====
theorem or_nat {x y : Nat} (hx : x < 2 ^ 31) (hy : y < 2 ^ 31) : nI x ||| nI y = nI (x ||| y) := by
  have h := Nat.or_lt_two_pow hx hy
  apply Int32.toBitVec_inj.mp
  rw [Int32.toBitVec_or]
  apply BitVec.eq_of_toNat_eq
  rw [BitVec.toNat_or]
  show (BitVec.ofNat 32 x).toNat ||| (BitVec.ofNat 32 y).toNat = (BitVec.ofNat 32 (x ||| y)).toNat
  rw [BitVec.toNat_ofNat, BitVec.toNat_ofNat, BitVec.toNat_ofNat, Nat.mod_eq_of_lt (by omega), Nat.mod_eq_of_lt (by omega), Nat.mod_eq_of_lt (by omega)]
theorem bt_12 : ∀ m, m < 12 → nI 1 <<< (nI m &&& 31) = nI (2 ^ m) ∧ 2 ^ m < 4096 := by decide +kernel
theorem or_bt {x m : Nat} (hx : x < 4096) (hm : m < 12) : nI x ||| (nI 1 <<< (nI m &&& 31)) = nI (x ||| 2 ^ m) := by
  obtain ⟨e, h⟩ := bt_12 m hm
  rw [e, or_nat (by omega) (by omega)]
def aWl (w : Rw) (x : Nat) : Nat := nW w (28 + x)
theorem aWl_c {w : Rw} (hw : WR w) {b : Nat} (hb : b < 12) : w (28 + b) = nI (aWl w b) ∧ aWl w b ≤ 999 := by
  obtain ⟨a, e, h⟩ := hw.len hb
  have e2 : aWl w b = a := by
    show (w (28 + b)).toNatClampNeg = a
    rw [e, nI_clamp (by omega)]
  rw [e2]
  exact ⟨e, h⟩
def fB (a : Nat → Nat) : Nat → Nat → Nat
  | 0, _ => 0
  | _ + 1, 0 => 0
  | b + 1, c + 1 => if fB a b (c + 1) ≤ fB a b c + a b then fB a b c + a b else fB a b (c + 1)
theorem ct_0 {a : Nat → Nat} {T : Nat → Bool} : ∀ b, ctB T b = 0 → smB a T b = 0
  | 0, _ => rfl
  | b + 1, k => by
    have ek : ctB T (b + 1) = ctB T b + (if T b = true then 1 else 0) := rfl
    have es : smB a T (b + 1) = smB a T b + (if T b = true then a b else 0) := rfl
    by_cases s : T b = true
    · rw [if_pos s] at ek
      omega
    · rw [if_neg s] at ek es
      rw [es, ct_0 b (by omega)]
theorem put_b (a : Nat → Nat) (T : Nat → Bool) (v : Bool) (b : Nat) : smB a (fun x => if x = b then v else T x) (b + 1) = smB a T b + (if v = true then a b else 0) := by
  have y : smB a (fun x => if x = b then v else T x) b = smB a T b := smB_cg b (fun x hx => if_neg (by omega))
  show smB a (fun x => if x = b then v else T x) b + (if (if b = b then v else T b) = true then a b else 0) = _
  rw [y, if_pos rfl]
theorem fB_ok (a : Nat → Nat) : ∀ b c, LF a b c (fB a b c)
  | 0, c => ⟨⟨fun _ => false, rfl, Nat.zero_le _⟩, fun _ _ => Nat.le_refl _⟩
  | b + 1, 0 => by
    have z : ∀ n, ctB (fun _ => false) n = 0 := by
      intro n
      induction n with
      | zero => rfl
      | succ n ih => exact ih
    exact ⟨⟨fun _ => false, ct_0 (b + 1) (z _), by rw [z]; exact Nat.le_refl _⟩, fun S hS => by rw [ct_0 (b + 1) (by omega)]; exact Nat.zero_le _⟩
  | b + 1, c + 1 => by
    obtain ⟨⟨T1, e1, k1⟩, g1⟩ := fB_ok a b (c + 1)
    obtain ⟨⟨T2, e2, k2⟩, g2⟩ := fB_ok a b c
    have up : ∀ S : Nat → Bool, ctB S (b + 1) ≤ c + 1 → smB a S (b + 1) ≤ fB a b (c + 1) ∨ smB a S (b + 1) ≤ fB a b c + a b := fun S hS => by
      have ek : ctB S (b + 1) = ctB S b + (if S b = true then 1 else 0) := rfl
      have es : smB a S (b + 1) = smB a S b + (if S b = true then a b else 0) := rfl
      by_cases s : S b = true
      · rw [if_pos s] at ek es
        have := g2 S (by omega)
        exact Or.inr (by omega)
      · rw [if_neg s] at ek es
        have := g1 S (by omega)
        exact Or.inl (by omega)
    unfold fB
    by_cases q : fB a b (c + 1) ≤ fB a b c + a b
    · rw [if_pos q]
      refine ⟨⟨fun x => if x = b then true else T2 x, by rw [put_b, if_pos rfl, e2], ?_⟩, fun S hS => ?_⟩
      · show smB (fun _ => 1) _ _ ≤ _
        rw [put_b, if_pos rfl]
        exact Nat.succ_le_succ k2
      · rcases up S hS with y | y <;> omega
    · rw [if_neg q]
      refine ⟨⟨fun x => if x = b then false else T1 x, by rw [put_b, if_neg (by decide), e1, Nat.add_zero], ?_⟩, fun S hS => ?_⟩
      · show smB (fun _ => 1) _ _ ≤ _
        rw [put_b, if_neg (by decide)]
        exact k1
      · rcases up S hS with y | y <;> omega
theorem fB_le {w : Rw} (hw : WR w) {b c : Nat} (hb : b ≤ 12) : fB (aWl w) b c ≤ 12 * 999 := by
  obtain ⟨⟨T, e, k⟩, _⟩ := fB_ok (aWl w) b c
  have y := smB_le (a := aWl w) (S := T) (k := 999) b (fun x hx => (aWl_c hw (by omega)).2)
  rw [← e]
  exact Nat.le_trans y (Nat.mul_le_mul_right 999 hb)
def lcN (a : Nat → Nat) (x : Nat) : Nat → Nat → Nat
  | 0, c => c
  | m + 1, c => if fB a 12 c < x then lcN a x m (c + 1) else c
def enV (a : Nat → Nat) (x : Nat) : Int32 := if 12 < lcN a x 12 1 then -1 else nI (rsE (fB a) a 12 (lcN a x 12 1) (x : Int))
theorem lcN_no {a : Nat → Nat} {x : Nat} : ∀ m c, c + m = 13 → (∀ c', c ≤ c' → c' < 13 → fB a 12 c' < x) → lcN a x m c = 13
  | 0, c, h, _ => h
  | m + 1, c, h, g => by
    unfold lcN
    rw [if_pos (g c (Nat.le_refl _) (by omega))]
    exact lcN_no m (c + 1) (by omega) (fun c' k1 k2 => g c' (by omega) k2)
theorem lcN_yes {a : Nat → Nat} {x k : Nat} (h1 : x ≤ fB a 12 k) : ∀ m c, c + m = 13 → c ≤ k → k < 13 → (∀ c', c ≤ c' → c' < k → fB a 12 c' < x) → lcN a x m c = k
  | 0, c, h, h2, h3, _ => absurd h3 (by omega)
  | m + 1, c, h, h2, h3, g => by
    unfold lcN
    by_cases e : c = k
    · subst e
      exact if_neg (by omega)
    · rw [if_pos (g c (Nat.le_refl _) (by omega))]
      exact lcN_yes h1 m (c + 1) (by omega) (by omega) h3 (fun c' k1 k2 => g c' (by omega) k2)
def fI (F : Nat) : Int32 := if F = 4096 then -1 else nI F
theorem enV_eq {a : Nat → Nat} {x F : Nat} (hx : 1 ≤ x) (h : bsE a x 0 F) : fI F = enV a x := by
  rcases enE (f := fB a) (fun b c _ => fB_ok a b c) hx h with ⟨g, e⟩ | ⟨c, c1, c12, cx, cm, e⟩
  · have y := lcN_no (a := a) (x := x) 12 1 rfl (fun c' _ h2 => g c' (by omega))
    unfold enV fI
    rw [y, e]
    rfl
  · have y := lcN_yes (a := a) (x := x) cx 12 1 rfl c1 (by omega) (fun c' _ h2 => cm c' h2)
    have ne : ¬ F = 4096 := by
      rcases h with ⟨e', g⟩ | ⟨_, h2, _⟩
      · exfalso
        obtain ⟨⟨S, n1, _, _⟩, _⟩ := rsE_ok (f := fB a) (a := a) (fun b c _ => fB_ok a b c) 12 c (x : Int) (Nat.le_refl _) (((fB_ok a 12 c).can _).mpr (by omega))
        have := nuB_lt S 12
        omega
      · omega
    unfold enV fI
    rw [if_neg ne, y, if_neg (by omega), e]
-- the class: the longest of the bales below one
def IB (a : Nat → Nat) (t k : Nat) (v : Int32) : Prop := (v = -1 ∧ ∀ x, x < k → Nat.testBit t x = true) ∨ ∃ m, m < k ∧ v = nI m ∧ Nat.testBit t m = false ∧ ∀ x, x < k → Nat.testBit t x = false → a x ≤ a m
abbrev lgz (l : Launch) (d : Nat) (ru ta : Nat) (rs : List XO) (I : XI) (J : XJ) (Rp : XR) (n pc b c t ft i : Nat) (o6 o7 o8 : Option Value) : Prop := xrun xxX10 (some .int) false false (shH ru ta rs).length 0 0 none l d tX10_longestFeet [8, 20] Rp n pc [some (.ref 28), some (.int (nI b)), some (.int (nI c)), some (.int (nI t)), some (.int (nI ft)), some (.int (nI i)), o6, o7, o8] [] (shH ru ta rs) I J 0 0
set_option maxRecDepth 100000 in
set_option maxHeartbeats 2000000 in
theorem lg_in (l : Launch) (d : Nat) (ru ta : Nat) (rs : List XO) (I : XI) (J : XJ) (Rp : XR) (T : Nat) (w : Rw) (hr : RC T w (I 29)) (hw : WR w) (b c t ft i n0 : Nat) (hb : b ≤ 12) (ht : t < 4096) (H : ∀ (v : Int32) (o8 : Option Value), IB (aWl w) t b v → lgz l d ru ta rs I J Rp n0 20 b c t ft i (some (.int v)) (some (.int (nI b))) o8) : ∀ (m k : Nat) (v : Int32) (o8 : Option Value), k + m = b → IB (aWl w) t k v → lgz l d ru ta rs I J Rp (n0 + m) 20 b c t ft i (some (.int v)) (some (.int (nI k))) o8 := by
  intro m
  induction m with
  | zero =>
    intro k v o8 hk hv
    have hk : k = b := by omega
    subst hk
    exact H v o8 hv
  | succ m ih =>
    intro k v o8 hk hv
    have bn := bit_nat t k (by omega) (by omega)
    have tb : Nat.testBit t k = decide (t / 2 ^ k % 2 = 1) := Nat.testBit_eq_decide_div_mod_eq
    have ixk : (nI 28 + nI k).toNatClampNeg = 28 + k := ix_c (by omega)
    have ek : I 29 (nI 28 + nI k).toNatClampNeg = nI (aWl w k) := by rw [ixk, hr.len (by omega)]; exact (aWl_c hw (by omega)).1
    have lk := (aWl_c hw (show k < 12 by omega)).2
    have keep : ∀ o8 : Option Value, IB (aWl w) t (k + 1) v → lgz l d ru ta rs I J Rp (n0 + m) 20 b c t ft i (some (.int v)) (some (.int (nI k + 1))) o8 := fun o8 y => by
      rw [nI_1]
      exact ih (k + 1) v o8 (by omega) y
    have take : ∀ o8 : Option Value, IB (aWl w) t (k + 1) (nI k) → lgz l d ru ta rs I J Rp (n0 + m) 20 b c t ft i (some (.int (nI k))) (some (.int (nI k + 1))) o8 := fun o8 y => by
      rw [nI_1]
      exact ih (k + 1) (nI k) o8 (by omega) y
    refine xrun_step fun K hK => ?_
    refine And.intro (fun z => absurd (show nI b ≤ nI k from z) (nI_ge (by omega) (by omega))) (fun _ => ?_)
    refine And.intro (fun z => absurd (show nI 12 ≤ nI k from z) (nI_ge (by omega) (by omega))) (fun _ => ?_)
    refine And.intro (fun (z : ¬ (nI t >>> (nI k &&& 31)) &&& nI 1 = 0) => ?_) (fun (z : (nI t >>> (nI k &&& 31)) &&& nI 1 = 0) => ?_)
    · have tk : Nat.testBit t k = true := by
        rcases bit_two t k with q | q
        · exact absurd (bn.trans (by rw [q]; rfl)) z
        · rw [tb, q]
          rfl
      refine And.intro (fun _ => ?_) (fun z => absurd rfl z)
      refine hK 20 [some (.ref 28), some (.int (nI b)), some (.int (nI c)), some (.int (nI t)), some (.int (nI ft)), some (.int (nI i)), some (.int v), some (.int (nI k + 1)), some (.int (nI 0))] [] (shH ru ta rs) I J 0 0 ?_
      refine keep _ ?_
      rcases hv with ⟨e, g⟩ | ⟨m', h1, h2, h3, h4⟩
      · refine Or.inl ⟨e, fun x hx => ?_⟩
        by_cases c' : x = k
        · rw [c']
          exact tk
        · exact g x (by omega)
      · refine Or.inr ⟨m', by omega, h2, h3, fun x hx hf => ?_⟩
        by_cases c' : x = k
        · rw [c', tk] at hf
          cases hf
        · exact h4 x (by omega) hf
    · have fk : Nat.testBit t k = false := by
        rcases bit_two t k with q | q
        · rw [tb, q]
          rfl
        · have y := bn.symm.trans z
          rw [q] at y
          exact absurd y (by decide)
      refine And.intro (fun z => absurd (show nI 1 = 0 from z) (by decide)) (fun _ => ?_)
      refine And.intro (fun (e : v = -1) => ?_) (fun (e : ¬ v = -1) => ?_)
      · refine hK 20 [some (.ref 28), some (.int (nI b)), some (.int (nI c)), some (.int (nI t)), some (.int (nI ft)), some (.int (nI i)), some (.int (nI k)), some (.int (nI k + 1)), some (.int (nI 1))] [] (shH ru ta rs) I J 0 0 ?_
        refine take _ (Or.inr ⟨k, by omega, rfl, fk, fun x hx hf => ?_⟩)
        by_cases c' : x = k
        · rw [c']
          exact Nat.le_refl _
        · rcases hv with ⟨_, g⟩ | ⟨m', h1, h2, _, _⟩
          · rw [g x (by omega)] at hf
            cases hf
          · rw [h2] at e
            exact absurd e (nI_ne1 (by omega))
      · rcases hv with ⟨g, _⟩ | ⟨m', h1, h2, h3, h4⟩
        · exact absurd g e
        · subst h2
          have ixm : (nI 28 + nI m').toNatClampNeg = 28 + m' := ix_c (by omega)
          have em : I 29 (nI 28 + nI m').toNatClampNeg = nI (aWl w m') := by rw [ixm, hr.len (by omega)]; exact (aWl_c hw (by omega)).1
          have lm := (aWl_c hw (show m' < 12 by omega)).2
          refine And.intro (show vp_in (nI 28 + nI k) 69 from vx_2 (by omega) (by omega)) ?_
          refine And.intro (show vp_in (nI 28 + nI m') 69 from vx_2 (by omega) (by omega)) ?_
          refine And.intro (fun (y : I 29 (nI 28 + nI k).toNatClampNeg ≤ I 29 (nI 28 + nI m').toNatClampNeg) => ?_) (fun (y : ¬ I 29 (nI 28 + nI k).toNatClampNeg ≤ I 29 (nI 28 + nI m').toNatClampNeg) => ?_)
          · rw [ek, em, nle (by omega) (by omega)] at y
            refine hK 20 [some (.ref 28), some (.int (nI b)), some (.int (nI c)), some (.int (nI t)), some (.int (nI ft)), some (.int (nI i)), some (.int (nI m')), some (.int (nI k + 1)), some (.int (nI 1))] [] (shH ru ta rs) I J 0 0 ?_
            refine keep _ (Or.inr ⟨m', by omega, rfl, h3, fun x hx hf => ?_⟩)
            by_cases c' : x = k
            · rw [c']
              exact y
            · exact h4 x (by omega) hf
          · rw [ek, em, nle (by omega) (by omega)] at y
            refine hK 20 [some (.ref 28), some (.int (nI b)), some (.int (nI c)), some (.int (nI t)), some (.int (nI ft)), some (.int (nI i)), some (.int (nI k)), some (.int (nI k + 1)), some (.int (nI 1))] [] (shH ru ta rs) I J 0 0 ?_
            refine take _ (Or.inr ⟨k, by omega, rfl, fk, fun x hx hf => ?_⟩)
            by_cases c' : x = k
            · rw [c']
              exact Nat.le_refl _
            · have := h4 x (by omega) hf
              omega
/-- what stands after so many picks -/
def PK (a : Nat → Nat) (b t ft i : Nat) : Prop := t < 4096 ∧ (∀ x, Nat.testBit t x = true → x < b) ∧ ctB (Nat.testBit t) b = i ∧ ft = smB a (Nat.testBit t) b ∧ ∃ th, ∀ x, x < b → (Nat.testBit t x = true → th ≤ a x) ∧ (Nat.testBit t x = false → a x ≤ th)
theorem ins_b {a : Nat → Nat} {t m : Nat} (hm : Nat.testBit t m = false) : ∀ b, smB a (Nat.testBit (t ||| 2 ^ m)) b = smB a (Nat.testBit t) b + (if m < b then a m else 0)
  | 0 => rfl
  | b + 1 => by
    have ih := ins_b (a := a) hm b
    show smB a (Nat.testBit (t ||| 2 ^ m)) b + (if Nat.testBit (t ||| 2 ^ m) b = true then a b else 0) = smB a (Nat.testBit t) b + (if Nat.testBit t b = true then a b else 0) + _
    rw [ih, Nat.testBit_or, Nat.testBit_two_pow]
    by_cases e : m = b
    · subst e
      rw [hm, if_neg (show ¬ m < m by omega), if_pos (show m < m + 1 by omega), decide_eq_true rfl, if_pos (show (false || true) = true from rfl), if_neg (show ¬ false = true by decide)]
    · rw [decide_eq_false e, Bool.or_false]
      by_cases c : m < b
      · rw [if_pos c, if_pos (show m < b + 1 by omega)]
        omega
      · rw [if_neg c, if_neg (show ¬ m < b + 1 by omega)]
        omega
theorem PK.pick {a : Nat → Nat} {b t ft i m : Nat} (h : PK a b t ft i) (hb : b ≤ 12) (hm : m < b) (fm : Nat.testBit t m = false) (hx : ∀ x, x < b → Nat.testBit t x = false → a x ≤ a m) : PK a b (t ||| 2 ^ m) (ft + a m) (i + 1) := by
  obtain ⟨h1, h2, h3, h4, th, h5⟩ := h
  have p2 := (bt_12 m (by omega)).2
  have tb : ∀ x, Nat.testBit (t ||| 2 ^ m) x = (Nat.testBit t x || decide (m = x)) := fun x => by rw [Nat.testBit_or, Nat.testBit_two_pow]
  have o : t ||| 2 ^ m < 2 ^ 12 := Nat.or_lt_two_pow h1 p2
  refine ⟨o, fun x hx => ?_, ?_, ?_, a m, fun x hxb => ⟨fun z => ?_, fun z => ?_⟩⟩
  · rw [tb x] at hx
    by_cases e : m = x
    · omega
    · rw [decide_eq_false e, Bool.or_false] at hx
      exact h2 x hx
  · have y := ins_b (a := fun _ => 1) fm b
    rw [if_pos hm] at y
    show smB (fun _ => 1) _ b = i + 1
    rw [y]
    exact congrArg (· + 1) h3
  · rw [ins_b fm b, if_pos hm, h4]
  · rw [tb x] at z
    by_cases e : m = x
    · rw [e]
      exact Nat.le_refl _
    · rw [decide_eq_false e, Bool.or_false] at z
      have := (h5 x hxb).1 z
      have := (h5 m hm).2 fm
      omega
  · rw [tb x, Bool.or_eq_false_iff] at z
    exact hx x hxb z.1
set_option maxRecDepth 100000 in
set_option maxHeartbeats 2000000 in
theorem lg_out (l : Launch) (d : Nat) (ru ta : Nat) (rs : List XO) (I : XI) (J : XJ) (Rp : XR) (T : Nat) (w : Rw) (hr : RC T w (I 29)) (hw : WR w) (b c : Nat) (hb : b ≤ 12) (hc : c ≤ 12) (hR : ∀ v, LF (aWl w) b c v → Rp (some (.int (nI v))) (shH ru ta rs) I J) : ∀ (m i t ft : Nat) (o6 o7 o8 : Option Value), i + m = c → PK (aWl w) b t ft i → lgz l d ru ta rs I J Rp (m * (b + 2) + 1) 8 b c t ft i o6 o7 o8 := by
  intro m
  induction m with
  | zero =>
    intro i t ft o6 o7 o8 hi hp
    obtain ⟨h1, h2, h3, h4, th, h5⟩ := hp
    have y := hR ft (by
      have z := LF_thr h5
      rw [h3, ← h4, show i = c by omega] at z
      exact z)
    rw [Nat.zero_mul, Nat.zero_add]
    refine xrun_step (n := 0) fun K hK => ?_
    refine And.intro (fun _ => ?_) (fun z => absurd (show nI c ≤ nI i from by rw [show i = c by omega]; exact Int32.le_refl _) z)
    exact y
  | succ m ih =>
    intro i t ft o6 o7 o8 hi hp
    have hp0 := hp
    obtain ⟨h1, h2, h3, h4, th, h5⟩ := hp
    have eF : (m + 1) * (b + 2) + 1 = (m * (b + 2) + 1 + 1 + b) + 1 := by
      rw [Nat.succ_mul]
      generalize m * (b + 2) = z
      omega
    have inn := lg_in l d ru ta rs I J Rp T w hr hw b c t ft i (m * (b + 2) + 1 + 1) hb h1 (fun v o8 hv => by
      refine xrun_step fun K hK => ?_
      refine And.intro (fun _ => ?_) (fun z => absurd (Int32.le_refl _) z)
      refine And.intro (fun (z : ¬ v = -1) => ?_) (fun (z : v = -1) => ?_)
      · rcases hv with ⟨g, _⟩ | ⟨m', k1, k2, k3, k4⟩
        · exact absurd g z
        · subst k2
          have ixm : (nI 28 + nI m').toNatClampNeg = 28 + m' := ix_c (by omega)
          have em : I 29 (nI 28 + nI m').toNatClampNeg = nI (aWl w m') := by rw [ixm, hr.len (by omega)]; exact (aWl_c hw (by omega)).1
          refine And.intro (show vp_in (nI 28 + nI m') 69 from vx_2 (by omega) (by omega)) ?_
          refine hK 8 [some (.ref 28), some (.int (nI b)), some (.int (nI c)), some (.int (nI t ||| (nI 1 <<< (nI m' &&& 31)))), some (.int (nI ft + I 29 (nI 28 + nI m').toNatClampNeg)), some (.int (nI i + 1)), some (.int (nI m')), some (.int (nI b)), o8] [] (shH ru ta rs) I J 0 0 ?_
          rw [or_bt h1 (by omega), em, nI_add, nI_1]
          exact ih (i + 1) _ _ _ _ _ (by omega) (hp0.pick hb k1 k3 k4)
      · rcases hv with ⟨_, g⟩ | ⟨m', k1, k2, _, _⟩
        · have y := hR ft (by
            have q := LF_all (a := aWl w) (b := b) (c := c) (T := Nat.testBit t) g (by omega)
            rw [← h4] at q
            exact q)
          exact y
        · rw [k2] at z
          exact absurd z (nI_ne1 (by omega))) b 0 (-1) o8 (by omega) (Or.inl ⟨rfl, fun x hx => absurd hx (Nat.not_lt_zero x)⟩)
    rw [eF]
    refine xrun_step fun K hK => ?_
    refine And.intro (fun z => absurd (show nI c ≤ nI i from z) (nI_ge (by omega) (by omega))) (fun _ => ?_)
    exact hK 20 [some (.ref 28), some (.int (nI b)), some (.int (nI c)), some (.int (nI t)), some (.int (nI ft)), some (.int (nI i)), some (.int (-1)), some (.int (nI 0)), o8] [] (shH ru ta rs) I J 0 0 inn
set_option maxRecDepth 100000 in
set_option maxHeartbeats 1000000 in
theorem cwg_longest (l : Launch) (d : Nat) (ru ta : Nat) (rs : List XO) (I : XI) (J : XJ) (Rp : XR) (T : Nat) (w : Rw) (hr : RC T w (I 29)) (hw : WR w) (b c : Nat) (hb : b ≤ 12) (hc : c ≤ 12) (hR : Rp (some (.int (nI (fB (aWl w) b c)))) (shH ru ta rs) I J) : xm l (d + 1) 0 0 mX10_longestFeet [.ref 28, .int (nI b), .int (nI c)] (shH ru ta rs) I J Rp := by
  refine xm_ofK (c * (b + 2) + 1) (X := xxX10) (t := tX10_longestFeet) (stop := [8, 20]) (ini := false) xx10 pl10 rfl kX10_longestFeet (fun h => by cases h) (Nat.le_of_ble_eq_true rfl) (fun K hK => ?_)
  have z0 : ∀ b, smB (aWl w) (Nat.testBit 0) b = 0 := fun b => ct_0 b (by rw [ctB_bits]; exact (by
    have y : ∀ b, pcN b 0 = 0 := by
      intro b
      induction b with
      | zero => rfl
      | succ b ih => rw [pcN_step, ih, Nat.zero_div]
    exact y b))
  have c0 : ctB (Nat.testBit 0) b = 0 := by
    rw [ctB_bits]
    have y : ∀ b, pcN b 0 = 0 := by
      intro b
      induction b with
      | zero => rfl
      | succ b ih => rw [pcN_step, ih, Nat.zero_div]
    exact y b
  refine hK 8 [some (.ref 28), some (.int (nI b)), some (.int (nI c)), some (.int (nI 0)), some (.int (nI 0)), some (.int (nI 0)), none, none, none] [] _ _ _ _ _ (lg_out l d ru ta rs I J Rp T w hr hw b c hb hc (fun v hv => ?_) c 0 0 0 none none none (by omega) ⟨by decide, fun x hx => ?_, c0, (z0 b).symm, 999, fun x hx => ⟨fun z => ?_, fun _ => (aWl_c hw (by omega)).2⟩⟩)
  · rw [hv.det (fB_ok (aWl w) b c)]
    exact hR
  · rw [Nat.zero_testBit] at hx
    cases hx
  · rw [Nat.zero_testBit] at z
    cases z
-- the class: the count, then the set
abbrev ezl (l : Launch) (d : Nat) (ru ta : Nat) (rs : List XO) (J : XJ) (Rp : XR) (n x y c : Nat) (I : XI) : Prop := xrun xxX11 (some .int) false false (shH ru ta rs).length 0 0 none l (d + 6) tX11_enough [30, 74] Rp n 30 [some (.ref 0), some (.int (nI x)), some (.int (nI y)), some (.int (nI c)), none, none, none] [] (shH ru ta rs) I J 0 0
abbrev ezb (l : Launch) (d : Nat) (ru ta : Nat) (rs : List XO) (J : XJ) (Rp : XR) (n x y c s : Nat) (m b : Int32) (I : XI) : Prop := xrun xxX11 (some .int) false false (shH ru ta rs).length 0 0 none l (d + 6) tX11_enough [30, 74] Rp n 74 [some (.ref 0), some (.int (nI x)), some (.int (nI y)), some (.int (nI c)), some (.int (nI s)), some (.int m), some (.int b)] [] (shH ru ta rs) I J 0 0
/-- what is missing, as the class counts it -/
def mI (m : Int) : Int32 := Int32.ofInt m
theorem mI_nat (n : Nat) : mI (n : Int) = nI n := Int32.ofInt_eq_ofNat
theorem mI_lt {v : Nat} {m : Int} (hv : v < 2 ^ 30) (h1 : -(2 ^ 30) < m) (h2 : m < 2 ^ 30) : mI m ≤ nI v ↔ m ≤ (v : Int) := by
  have e : (mI m).toInt = m := Int32.toInt_ofInt_of_le (by omega) (by omega)
  rw [Int32.le_iff_toInt_le, nI_toInt (by omega), e]
theorem mI_sub {m : Int} {a : Nat} : mI m - nI a = mI (m - (a : Int)) := by
  rw [← mI_nat a]
  exact (Int32.ofInt_sub m (a : Int)).symm
theorem can_step {a : Nat → Nat} {b c : Nat} {m : Int} (h : Can a (b + 1) c m) (n : ¬ Can a b c m) : 1 ≤ c ∧ Can a b (c - 1) (m - (a b : Int)) := by
  obtain ⟨S, k, e⟩ := h
  have ek : ctB S (b + 1) = ctB S b + (if S b = true then 1 else 0) := rfl
  have es : smB a S (b + 1) = smB a S b + (if S b = true then a b else 0) := rfl
  by_cases s : S b = true
  · rw [if_pos s] at ek es
    exact ⟨by omega, S, by omega, by omega⟩
  · rw [if_neg s] at ek es
    exact absurd ⟨S, by omega, by omega⟩ n
set_option maxRecDepth 100000 in
set_option maxHeartbeats 2000000 in
theorem cd_en_set (l : Launch) (d : Nat) (ru ta : Nat) (rs : List XO) (I : XI) (J : XJ) (Rp : XR) (T : Nat) (w : Rw) (hr : RC T w (I 29)) (hw : WR w) (x y : Nat) (V : Nat) (hR : Rp (some (.int (nI V))) (shH ru ta rs) I J) : ∀ (b c s n q : Nat) (m : Int), b ≤ 12 → c ≤ 12 → b < n → s = 2 ^ b * q → s + 2 ^ b ≤ 4096 → -30000 + 1000 * (b : Int) ≤ m → m < 20000 → Can (aWl w) b c m → s + rsE (fB (aWl w)) (aWl w) b c m = V → ezb l d ru ta rs J Rp n x y c s (mI m) (nI b + (-1)) I := by
  intro b
  induction b with
  | zero =>
    intro c s n q m hb hc hn eq hs m1 m2 can eV
    obtain ⟨n, rfl⟩ : ∃ n', n = n' + 1 := ⟨n - 1, by omega⟩
    have eV : s + 0 = V := eV
    refine xrun_step fun K hK => ?_
    refine And.intro (fun _ => ?_) (fun z => absurd (show nI 0 + (-1) < 0 from by decide) z)
    rw [show s = V by omega]
    exact hR
  | succ b ih =>
    intro c s n q m hb hc hn eq hs m1 m2 can eV
    obtain ⟨n, rfl⟩ : ∃ n', n = n' + 1 := ⟨n - 1, by omega⟩
    have eb : nI (b + 1) + (-1) = nI b := by
      have y := nI_subI (a := b + 1) (b := 1) (by omega) (by omega)
      rw [Nat.add_sub_cancel] at y
      rw [show (-1 : Int32) = - nI 1 from by decide, ← Int32.sub_eq_add_neg]
      exact y
    have mb1 : -(2 ^ 30) < m := by omega
    have mb2 : m < 2 ^ 30 := by omega
    have lt := mI_lt (v := fB (aWl w) b c) (m := m) (Nat.lt_of_le_of_lt (fB_le hw (show b ≤ 12 by omega)) (by decide)) mb1 mb2
    have cn := (fB_ok (aWl w) b c).can m
    have eV2 : s + (if (fB (aWl w) b c : Int) < m then 2 ^ b + rsE (fB (aWl w)) (aWl w) b (c - 1) (m - (aWl w b : Int)) else rsE (fB (aWl w)) (aWl w) b c m) = V := eV
    have p0 := Nat.two_pow_pos b
    have eo : s ||| 2 ^ b = s + 2 ^ b := by
      rw [eq]
      exact (Nat.two_pow_add_eq_or_of_lt (by rw [Nat.pow_succ]; omega) q).symm
    rw [Nat.pow_succ] at hs eq
    have ixb : (nI 28 + nI b).toNatClampNeg = 28 + b := ix_c (by omega)
    have ea : I 29 (nI 28 + nI b).toNatClampNeg = nI (aWl w b) := by rw [ixb, hr.len (by omega)]; exact (aWl_c hw (by omega)).1
    have la := (aWl_c hw (show b < 12 by omega)).2
    rw [eb]
    refine xrun_step fun K hK => ?_
    refine And.intro (fun z => absurd (show nI b < 0 from z) (nI_nn (by omega))) (fun _ => ?_)
    refine cwg_longest l (d + 5) ru ta rs I J _ T w hr hw b c (by omega) hc ?_
    refine And.intro (fun (z : mI m ≤ nI (fB (aWl w) b c)) => ?_) (fun (z : ¬ mI m ≤ nI (fB (aWl w) b c)) => ?_)
    · rw [lt] at z
      rw [if_neg (Int.not_lt.mpr z)] at eV2
      refine hK 74 [some (.ref 0), some (.int (nI x)), some (.int (nI y)), some (.int (nI c)), some (.int (nI s)), some (.int (mI m)), some (.int (nI b + (-1)))] [] (shH ru ta rs) I J 0 0 ?_
      exact ih c s n (2 * q) m (by omega) hc (by omega) (by rw [eq, Nat.mul_assoc]) (by omega) (by omega) m2 (cn.mpr z) eV2
    · rw [lt] at z
      rw [if_pos (Int.not_le.mp z)] at eV2
      obtain ⟨c1, can2⟩ := can_step can (fun q => z (cn.mp q))
      refine And.intro (show vp_in (nI 28 + nI b) 69 from vx_2 (by omega) (by omega)) ?_
      refine hK 74 [some (.ref 0), some (.int (nI x)), some (.int (nI y)), some (.int (nI c + (-1))), some (.int (nI s ||| (nI 1 <<< (nI b &&& 31)))), some (.int (mI m - I 29 (nI 28 + nI b).toNatClampNeg)), some (.int (nI b + (-1)))] [] (shH ru ta rs) I J 0 0 ?_
      have ec : nI c + (-1) = nI (c - 1) := by
        have y : nI c + (-1) = nI c - nI 1 := by
          rw [show (-1 : Int32) = - nI 1 from by decide, Int32.sub_eq_add_neg]
        rw [y]
        exact nI_subI c1 (by omega)
      rw [or_bt (by omega) (by omega), ea, mI_sub, eo, ec]
      exact ih (c - 1) (s + 2 ^ b) n (2 * q + 1) _ (by omega) (by omega) (by omega) (by rw [eq, Nat.mul_add, Nat.mul_one, Nat.mul_assoc]) (by omega) (by omega) (by omega) can2 (by omega)
set_option maxRecDepth 100000 in
set_option maxHeartbeats 2000000 in
theorem cd_en_cnt (l : Launch) (d : Nat) (ru ta : Nat) (rs : List XO) (I : XI) (J : XJ) (Rp : XR) (T : Nat) (w : Rw) (hr : RC T w (I 29)) (hw : WR w) (x y C : Nat) (hx : x < 2 ^ 30) (h1 : 12 < C → Rp (some (.int (-1))) (shH ru ta rs) I J) (H : ∀ n, 13 < n → C ≤ 12 → ezb l d ru ta rs J Rp n x y C 0 (nI x) (nI 11) I) : ∀ (m c n : Nat), c + m = 13 → m + 14 < n → lcN (aWl w) x m c = C → ezl l d ru ta rs J Rp n x y c I := by
  intro m
  induction m with
  | zero =>
    intro c n hc hn eC
    obtain ⟨n, rfl⟩ : ∃ n', n = n' + 1 := ⟨n - 1, by omega⟩
    have eC : c = C := eC
    refine xrun_step fun K hK => ?_
    refine And.intro (fun _ => ?_) (fun z => absurd (show nI 12 < nI c from (nlt (by omega) (by omega)).mpr (by omega)) z)
    refine And.intro (fun z => absurd ((nle (by omega) (by omega)).mp (show nI c ≤ nI 12 from z)) (by omega)) (fun _ => ?_)
    exact h1 (by omega)
  | succ m ih =>
    intro c n hc hn eC
    obtain ⟨n, rfl⟩ : ∃ n', n = n' + 1 := ⟨n - 1, by omega⟩
    have le := fB_le (c := c) hw (Nat.le_refl 12)
    have eC2 : (if fB (aWl w) 12 c < x then lcN (aWl w) x m (c + 1) else c) = C := eC
    refine xrun_step fun K hK => ?_
    refine And.intro (fun z => absurd ((nlt (by omega) (by omega)).mp (show nI 12 < nI c from z)) (by omega)) (fun _ => ?_)
    refine cwg_longest l (d + 5) ru ta rs I J _ T w hr hw 12 c (Nat.le_refl _) (by omega) ?_
    refine And.intro (fun (z : nI x ≤ nI (fB (aWl w) 12 c)) => ?_) (fun (z : ¬ nI x ≤ nI (fB (aWl w) 12 c)) => ?_)
    · rw [nle (by omega) (by omega)] at z
      rw [if_neg (by omega)] at eC2
      subst eC2
      refine And.intro (fun _ => ?_) (fun z => absurd (show nI c ≤ nI 12 from (nle (by omega) (by omega)).mpr (by omega)) z)
      exact hK 74 [some (.ref 0), some (.int (nI x)), some (.int (nI y)), some (.int (nI c)), some (.int (nI 0)), some (.int (nI x)), some (.int (nI 11))] [] (shH ru ta rs) I J 0 0 (H n (by omega) (by omega))
    · rw [nle (by omega) (by omega)] at z
      rw [if_pos (by omega)] at eC2
      refine hK 30 [some (.ref 0), some (.int (nI x)), some (.int (nI y)), some (.int (nI c + 1)), none, none, none] [] (shH ru ta rs) I J 0 0 ?_
      rw [nI_1]
      exact ih (c + 1) n (by omega) (by omega) eC2
theorem lcN_le {a : Nat → Nat} {x : Nat} : ∀ m c, lcN a x m c ≤ 12 → c + m = 13 → x ≤ fB a 12 (lcN a x m c) ∧ c ≤ lcN a x m c
  | 0, c, h, e => by
    have h : c ≤ 12 := h
    omega
  | m + 1, c, h, e => by
    unfold lcN at h ⊢
    by_cases q : fB a 12 c < x
    · rw [if_pos q] at h ⊢
      have y := lcN_le m (c + 1) h (by omega)
      exact ⟨y.1, by omega⟩
    · rw [if_neg q]
      exact ⟨by omega, Nat.le_refl _⟩
def enqS (L : Lws) (A : Ast) (x y : Int32) : Int32 := if (rIn x 1 9999 && rIn y 0 60) = true then enV (aWl (ptR (oQ A) L y.toNatClampNeg (oW A))) x.toNatClampNeg else -1
set_option maxRecDepth 100000 in
set_option maxHeartbeats 2000000 in
theorem cd_enough (l : Launch) (d : Nat) (ru ta : Nat) (rs : List XO) (I : XI) (J : XJ) (Rp : XR) (L : Lws) (A : Ast) (hA : AOK A) (h : CA I ru L A) (x y : Int32) (hR : ∀ (I' : XI) (J' : XJ), F24 29 I I' → Rp (some (.int (enqS L A x y))) (shH ru ta rs) I' J') : xm l (d + 7) 0 0 mX11_enough [.ref 0, .int x, .int y] (shH ru ta rs) I J Rp := by
  have t8 := hA.1.1
  have none_ : (rIn x 1 9999 && rIn y 0 60) = false → Rp (some (.int (-1))) (shH ru ta rs) I J := fun e => by
    have z := hR I J F24.rf
    unfold enqS at z
    rw [e] at z
    exact z
  refine xm_ofK 40 (X := xxX11) (t := tX11_enough) (stop := [30, 74]) (ini := false) xx11 pl11 rfl kX11_enough (fun h => by cases h) (Nat.le_of_ble_eq_true rfl) (fun K hK => ?_)
  refine cd_in l (d + 5) x 1 9999 _ _ _ _ (fun hx => ?_) (fun hx => ?_)
  · refine And.intro (fun z => absurd (show (1 : Int32) = 0 from z) (by decide)) (fun _ => ?_)
    refine cd_in l (d + 5) y 0 60 _ _ _ _ (fun hy => ?_) (fun hy => ?_)
    · refine And.intro (fun _ => ?_) (fun z => absurd (show (1 : Int32) = 0 from z) (by decide))
      obtain ⟨X, x1, x9, ex, ex2⟩ := rIn_t (by omega) (by omega) hx
      obtain ⟨k, _, k60, ey, ey2⟩ := rIn_t (by omega) (by omega) hy
      have eS : enqS L A x y = enV (aWl (ptR (oQ A) L k (oW A))) X := by
        unfold enqS
        rw [hx, hy, ex2, ey2]
        rfl
      rw [eS] at hR
      subst ex ey
      refine cd_fs l d ru ta rs I J _ L A hA h k (by omega) (fun I1 J1 f1 r1 => ?_)
      have w1 := hA.2.1.pt (Q := oQ A) (L := L) t8 k _
      generalize ptR (oQ A) L k (oW A) = w at r1 w1 hR
      have fin := hR I1 J1 f1
      unfold enV at fin
      refine hK 30 [some (.ref 0), some (.int (nI X)), some (.int (nI k)), some (.int (nI 1)), none, none, none] [] _ _ _ _ _ (cd_en_cnt l d ru ta rs I1 J1 Rp (qT (oQ A)) w r1 w1 X k (lcN (aWl w) X 12 1) (by omega) (fun z => ?_) (fun n hn c12 => ?_) 12 1 40 rfl (by omega) rfl)
      · rw [if_pos z] at fin
        exact fin
      · rw [if_neg (by omega)] at fin
        obtain ⟨l1, l2⟩ := lcN_le (a := aWl w) (x := X) 12 1 c12 rfl
        have y := cd_en_set l d ru ta rs I1 J1 Rp (qT (oQ A)) w r1 w1 X k _ fin 12 (lcN (aWl w) X 12 1) 0 n 0 (X : Int) (Nat.le_refl _) c12 (by omega) rfl (by decide) (by omega) (by omega) (((fB_ok (aWl w) 12 _).can _).mpr (by omega)) (Nat.zero_add _)
        rw [mI_nat, show nI 12 + (-1) = nI 11 from by decide] at y
        exact y
    · refine And.intro (fun z => absurd rfl z) (fun _ => ?_)
      exact none_ (by rw [hy]; exact Bool.and_false _)
  · refine And.intro (fun _ => ?_) (fun z => absurd rfl z)
    exact none_ (by rw [hx]; rfl)
-- the reference
def arN (a : Nat → Nat) (s : Nat) : Nat → Bool
  | 0 => true
  | k + 1 => arN a s k && (!(Nat.testBit s k) || decide (0 < a k))
theorem arN_ok {a : Nat → Nat} {s : Nat} : ∀ k, arN a s k = true ↔ ∀ b, b < k → Nat.testBit s b = true → 0 < a b
  | 0 => ⟨fun _ b hb => absurd hb (Nat.not_lt_zero b), fun _ => rfl⟩
  | k + 1 => by
    have ih := arN_ok (a := a) (s := s) k
    unfold arN
    rw [Bool.and_eq_true, ih, Bool.or_eq_true, Bool.not_eq_true', decide_eq_true_iff]
    refine ⟨fun ⟨h1, h2⟩ b hb hs => ?_, fun h => ⟨fun b hb => h b (by omega), ?_⟩⟩
    · by_cases e : b = k
      · rw [e] at hs ⊢
        rcases h2 with q | q
        · rw [q] at hs
          cases hs
        · exact q
      · exact h1 b (by omega) hs
    · cases e : Nat.testBit s k with
      | false => exact Or.inl rfl
      | true => exact Or.inr (h k (by omega) e)
theorem tb_y {s k : Nat} (h : s / 2 ^ k % 2 = 1) : Nat.testBit s k = true := by rw [Nat.testBit_eq_decide_div_mod_eq]; exact decide_eq_true h
theorem tb_n {s k : Nat} (h : ¬ s / 2 ^ k % 2 = 1) : Nat.testBit s k = false := by rw [Nat.testBit_eq_decide_div_mod_eq]; exact decide_eq_false h
abbrev enq (l : Launch) (d : Nat) (ru ta : Nat) (rs : List XO) (I : XI) (J : XJ) (Rp : XR) (n pc x y : Nat) (f : Int32) (s : Nat) (o5 o6 o7 : Option Value) : Prop := xrun xxX12 (some .int) false false (shH ru ta rs).length 0 0 none l (d + 13) tX12_enough [39, 53] Rp n pc [some (.ref 67), some (.int (nI x)), some (.int (nI y)), some (.int f), some (.int (nI s)), o5, o6, o7] [] (shH ru ta rs) I J 0 0
set_option maxRecDepth 100000 in
set_option maxHeartbeats 4000000 in
theorem md_en_in (l : Launch) (d : Nat) (ru ta : Nat) (rs : List XO) (I : XI) (J : XJ) (Rp : XR) (w : Rw) (ew : I 93 = w) (hw : WR w) (x y : Nat) (f : Int32) (s n0 : Nat) (hs : s < 4096) (H : enq l d ru ta rs I J Rp n0 53 x y f s (some (.int (nI (smB (aWl w) (Nat.testBit s) 12)))) (some (.int (b2 (arN (aWl w) s 12)))) (some (.int (nI 12)))) : ∀ (m k : Nat), k + m = 12 → enq l d ru ta rs I J Rp (n0 + m) 53 x y f s (some (.int (nI (smB (aWl w) (Nat.testBit s) k)))) (some (.int (b2 (arN (aWl w) s k)))) (some (.int (nI k))) := by
  intro m
  induction m with
  | zero =>
    intro k hk
    have hk : k = 12 := by omega
    subst hk
    exact H
  | succ m ih =>
    intro k hk
    have nx := ih (k + 1) (by omega)
    have ixk : (nI 28 + nI k).toNatClampNeg = 28 + k := ix_c (by omega)
    have ek : I 93 (nI 28 + nI k).toNatClampNeg = nI (aWl w k) := by rw [ixk, ew]; exact (aWl_c hw (by omega)).1
    have lk := (aWl_c hw (show k < 12 by omega)).2
    have es : smB (aWl w) (Nat.testBit s) (k + 1) = smB (aWl w) (Nat.testBit s) k + (if Nat.testBit s k = true then aWl w k else 0) := rfl
    have er : arN (aWl w) s (k + 1) = (arN (aWl w) s k && (!(Nat.testBit s k) || decide (0 < aWl w k))) := rfl
    refine xrun_step fun K hK => ?_
    refine And.intro (fun z => absurd (show nI 12 ≤ nI k from z) (nI_ge (by omega) (by omega))) (fun _ => ?_)
    refine m_has_n l (d + 12) s k (by omega) (by omega) _ rfl _ _ _ _ (fun b => ?_) (fun b => ?_)
    · have tb := tb_y b
      rw [tb, if_pos rfl] at es
      rw [tb] at er
      have go : ∀ u : Bool, (arN (aWl w) s k = true → u = decide (0 < aWl w k)) → (arN (aWl w) s k = false → u = false) → K 53 [some (.ref 67), some (.int (nI x)), some (.int (nI y)), some (.int f), some (.int (nI s)), some (.int (nI (smB (aWl w) (Nat.testBit s) k) + I 93 (nI 28 + nI k).toNatClampNeg)), some (.int (b2 u)), some (.int (nI k + 1))] [] (shH ru ta rs) I J 0 0 := fun u u1 u2 => by
        refine hK 53 _ [] (shH ru ta rs) I J 0 0 ?_
        have eu : u = arN (aWl w) s (k + 1) := by
          rw [er]
          cases q : arN (aWl w) s k with
          | true => rw [u1 q]; rfl
          | false => rw [u2 q]; rfl
        rw [eu, ek, nI_add, ← es, nI_1]
        exact nx
      refine And.intro (fun z => absurd (show (1 : Int32) = 0 from z) (by decide)) (fun _ => ?_)
      refine And.intro (show vp_in (nI 28 + nI k) 69 from vx_2 (by omega) (by omega)) ?_
      cases q : arN (aWl w) s k with
      | true =>
        refine And.intro (fun z => absurd (show b2 true = 0 from z) (by decide)) (fun _ => ?_)
        refine m_has_n l (d + 12) s k (by omega) (by omega) _ rfl _ _ _ _ (fun _ => ?_) (fun b' => absurd b b')
        refine And.intro (fun z => absurd (show (1 : Int32) = 0 from z) (by decide)) (fun _ => ?_)
        refine And.intro (show vp_in (nI 28 + nI k) 69 from vx_2 (by omega) (by omega)) ?_
        refine And.intro (fun (z : I 93 (nI 28 + nI k).toNatClampNeg ≤ 0) => ?_) (fun (z : ¬ I 93 (nI 28 + nI k).toNatClampNeg ≤ 0) => ?_)
        · rw [ek, nle0 (by omega)] at z
          exact go false (fun _ => (decide_eq_false (by omega)).symm) (fun _ => rfl)
        · rw [ek, nle0 (by omega)] at z
          exact go true (fun _ => (decide_eq_true (by omega)).symm) (fun p => by rw [q] at p; cases p)
      | false =>
        refine And.intro (fun _ => ?_) (fun z => absurd (show b2 false = 0 from rfl) z)
        exact go false (fun p => by rw [q] at p; cases p) (fun _ => rfl)
    · have tb := tb_n b
      rw [tb, if_neg (by decide)] at es
      rw [tb] at er
      have go : ∀ u : Bool, u = arN (aWl w) s k → K 53 [some (.ref 67), some (.int (nI x)), some (.int (nI y)), some (.int f), some (.int (nI s)), some (.int (nI (smB (aWl w) (Nat.testBit s) k) + nI 0)), some (.int (b2 u)), some (.int (nI k + 1))] [] (shH ru ta rs) I J 0 0 := fun u u1 => by
        refine hK 53 _ [] (shH ru ta rs) I J 0 0 ?_
        have eu : u = arN (aWl w) s (k + 1) := by
          rw [er, u1]
          cases arN (aWl w) s k <;> rfl
        have es2 : smB (aWl w) (Nat.testBit s) (k + 1) = smB (aWl w) (Nat.testBit s) k := es
        rw [eu, add_n0, nI_1, ← es2]
        exact nx
      refine And.intro (fun _ => ?_) (fun z => absurd rfl z)
      cases q : arN (aWl w) s k with
      | true =>
        refine And.intro (fun z => absurd (show b2 true = 0 from z) (by decide)) (fun _ => ?_)
        refine m_has_n l (d + 12) s k (by omega) (by omega) _ rfl _ _ _ _ (fun b' => absurd b' b) (fun _ => ?_)
        refine And.intro (fun _ => ?_) (fun z => absurd rfl z)
        exact go true q.symm
      | false =>
        refine And.intro (fun _ => ?_) (fun z => absurd (show b2 false = 0 from rfl) z)
        exact go false q.symm
set_option maxRecDepth 100000 in
set_option maxHeartbeats 4000000 in
theorem md_en_out (l : Launch) (d : Nat) (ru ta : Nat) (rs : List XO) (I : XI) (J : XJ) (Rp : XR) (w : Rw) (ew : I 93 = w) (hw : WR w) (x y : Nat) (hx : x < 2 ^ 30) (hR : ∀ F, bsE (aWl w) x 0 F → Rp (some (.int (fI F))) (shH ru ta rs) I J) : ∀ (s F : Nat) (o5 o6 o7 : Option Value), s < 4096 → bsE (aWl w) x s F → enq l d ru ta rs I J Rp (s * 14 + 1) 39 x y (fI F) s o5 o6 o7 := by
  intro s
  induction s with
  | zero =>
    intro F o5 o6 o7 hs h
    refine xrun_step (n := 0) fun K hK => ?_
    refine And.intro (fun _ => ?_) (fun z => absurd (show nI 0 ≤ 0 from by decide) z)
    exact hR F h
  | succ s ih =>
    intro F o5 o6 o7 hs h
    have sl := smB_le (a := aWl w) (S := Nat.testBit (s + 1)) (k := 999) 12 (fun z hz => (aWl_c hw hz).2)
    have pc5 : pcN 12 (s + 1) ≤ 12 := by
      rw [← ctB_bits]
      exact ctB_le _ _
    have dn : nI (s + 1) + (-1) = nI s := by
      have y : nI (s + 1) + (-1) = nI (s + 1) - nI 1 := by
        rw [show (-1 : Int32) = - nI 1 from by decide, Int32.sub_eq_add_neg]
      rw [y, nI_subI (by omega) (by omega), Nat.add_sub_cancel]
    have no : ∀ (o5 o6 o7 : Option Value), (¬ vlB (aWl w) x (s + 1) ∨ (F < 4096 ∧ pcN 12 F < pcN 12 (s + 1))) → enq l d ru ta rs I J Rp (s * 14 + 1) 39 x y (fI F) s o5 o6 o7 := fun o5 o6 o7 n => ih F o5 o6 o7 (by omega) (bsE_no h n)
    have yes : ∀ (o5 o6 o7 : Option Value), vlB (aWl w) x (s + 1) → (F = 4096 ∨ pcN 12 (s + 1) ≤ pcN 12 F) → enq l d ru ta rs I J Rp (s * 14 + 1) 39 x y (nI (s + 1)) s o5 o6 o7 := fun o5 o6 o7 v n => by
      have z := ih (s + 1) o5 o6 o7 (by omega) (bsE_yes h hs v n)
      have e : fI (s + 1) = nI (s + 1) := if_neg (by omega)
      rw [e] at z
      exact z
    have inn := md_en_in l d ru ta rs I J Rp w ew hw x y (fI F) (s + 1) (s * 14 + 1 + 1) hs (by
      refine xrun_step fun K hK => ?_
      refine And.intro (fun _ => ?_) (fun z => absurd (Int32.le_refl _) z)
      cases q : arN (aWl w) (s + 1) 12 with
      | false =>
        refine And.intro (fun _ => ?_) (fun z => absurd (show b2 false = 0 from rfl) z)
        refine hK 39 [some (.ref 67), some (.int (nI x)), some (.int (nI y)), some (.int (fI F)), some (.int (nI (s + 1) + (-1))), some (.int (nI (smB (aWl w) (Nat.testBit (s + 1)) 12))), some (.int (b2 false)), some (.int (nI 12))] [] (shH ru ta rs) I J 0 0 ?_
        rw [dn]
        exact no _ _ _ (Or.inl (fun v => by
          have := (arN_ok 12).mpr v.1
          rw [q] at this
          cases this))
      | true =>
        have ok : okB (aWl w) (s + 1) := (arN_ok 12).mp q
        refine And.intro (fun z => absurd (show b2 true = 0 from z) (by decide)) (fun _ => ?_)
        refine And.intro (fun (z : nI (smB (aWl w) (Nat.testBit (s + 1)) 12) < nI x) => ?_) (fun (z : ¬ nI (smB (aWl w) (Nat.testBit (s + 1)) 12) < nI x) => ?_)
        · rw [nlt (by omega) (by omega)] at z
          refine hK 39 [some (.ref 67), some (.int (nI x)), some (.int (nI y)), some (.int (fI F)), some (.int (nI (s + 1) + (-1))), some (.int (nI (smB (aWl w) (Nat.testBit (s + 1)) 12))), some (.int (b2 true)), some (.int (nI 12))] [] (shH ru ta rs) I J 0 0 ?_
          rw [dn]
          exact no _ _ _ (Or.inl (fun v => by have := v.2; omega))
        · rw [nlt (by omega) (by omega)] at z
          have v : vlB (aWl w) x (s + 1) := ⟨ok, by omega⟩
          refine And.intro (fun (u : fI F = -1) => ?_) (fun (u : ¬ fI F = -1) => ?_)
          · have eF : F = 4096 := by
              unfold fI at u
              by_cases c : F = 4096
              · exact c
              · rw [if_neg c] at u
                exfalso
                rcases h with ⟨e, _⟩ | ⟨_, h2, _⟩
                · exact c e
                · exact nI_ne1 (by omega) u
            refine hK 39 [some (.ref 67), some (.int (nI x)), some (.int (nI y)), some (.int (nI (s + 1))), some (.int (nI (s + 1) + (-1))), some (.int (nI (smB (aWl w) (Nat.testBit (s + 1)) 12))), some (.int (b2 true)), some (.int (nI 12))] [] (shH ru ta rs) I J 0 0 ?_
            rw [dn]
            exact yes _ _ _ v (Or.inl eF)
          · have eF : F < 4096 ∧ fI F = nI F := by
              rcases h with ⟨e, _⟩ | ⟨_, h2, _⟩
              · exact absurd (if_pos e) u
              · exact ⟨h2, if_neg (by omega)⟩
            have pcF : pcN 12 F ≤ 12 := by
              rw [← ctB_bits]
              exact ctB_le _ _
            refine hm_manyF l (d + 12) (s + 1) hs _ _ _ _ ?_
            refine (show xm l (d + 13) 0 0 mX12_many [.int (fI F)] (shH ru ta rs) I J _ from ?_)
            rw [eF.2]
            refine hm_manyF l (d + 12) F eF.1 _ _ _ _ ?_
            refine And.intro (fun (t : nI (pcN 12 F) < nI (pcN 12 (s + 1))) => ?_) (fun (t : ¬ nI (pcN 12 F) < nI (pcN 12 (s + 1))) => ?_)
            · rw [nlt (by omega) (by omega)] at t
              refine hK 39 [some (.ref 67), some (.int (nI x)), some (.int (nI y)), some (.int (nI F)), some (.int (nI (s + 1) + (-1))), some (.int (nI (smB (aWl w) (Nat.testBit (s + 1)) 12))), some (.int (b2 true)), some (.int (nI 12))] [] (shH ru ta rs) I J 0 0 ?_
              rw [dn, ← eF.2]
              exact no _ _ _ (Or.inr ⟨eF.1, t⟩)
            · rw [nlt (by omega) (by omega)] at t
              refine hK 39 [some (.ref 67), some (.int (nI x)), some (.int (nI y)), some (.int (nI (s + 1))), some (.int (nI (s + 1) + (-1))), some (.int (nI (smB (aWl w) (Nat.testBit (s + 1)) 12))), some (.int (b2 true)), some (.int (nI 12))] [] (shH ru ta rs) I J 0 0 ?_
              rw [dn]
              exact yes _ _ _ v (Or.inr (by omega))) 12 0 rfl
    rw [show (s + 1) * 14 + 1 = (s * 14 + 1 + 1 + 12) + 1 by omega]
    refine xrun_step fun K hK => ?_
    refine And.intro (fun z => absurd ((nle0 (by omega)).mp (show nI (s + 1) ≤ 0 from z)) (by omega)) (fun _ => ?_)
    exact hK 53 [some (.ref 67), some (.int (nI x)), some (.int (nI y)), some (.int (fI F)), some (.int (nI (s + 1))), some (.int (nI 0)), some (.int (nI 1)), some (.int (nI 0))] [] (shH ru ta rs) I J 0 0 inn
set_option maxRecDepth 100000 in
set_option maxHeartbeats 2000000 in
theorem md_enough (l : Launch) (d : Nat) (ru ta : Nat) (rs : List XO) (I : XI) (J : XJ) (Rp : XR) (L : Lws) (A : Ast) (hA : AOK A) (h : MA I L A) (x y : Int32) (hR : ∀ (I' : XI) (J' : XJ), FQ I I' → Rp (some (.int (enqS L A x y))) (shH ru ta rs) I' J') : xm l (d + 14) 0 0 mX12_enough [.ref 67, .int x, .int y] (shH ru ta rs) I J Rp := by
  obtain ⟨hre, hlay, hs⟩ := h
  have t8 := hA.1.1
  have none_ : (rIn x 1 9999 && rIn y 0 60) = false → Rp (some (.int (-1))) (shH ru ta rs) I J := fun e => by
    have z := hR I J FQ.rf
    unfold enqS at z
    rw [e] at z
    exact z
  refine xm_ofK (4095 * 14 + 1) (X := xxX12) (t := tX12_enough) (stop := [39, 53]) (ini := false) xx12 pl12 rfl kX12_enough (fun h => by cases h) (Nat.le_of_ble_eq_true rfl) (fun K hK => ?_)
  refine md_inR l (d + 12) x 1 9999 _ _ _ _ (fun hx => ?_) (fun hx => ?_)
  · refine And.intro (fun z => absurd (show (1 : Int32) = 0 from z) (by decide)) (fun _ => ?_)
    refine md_inR l (d + 12) y 0 60 _ _ _ _ (fun hy => ?_) (fun hy => ?_)
    · refine And.intro (fun _ => ?_) (fun z => absurd (show (1 : Int32) = 0 from z) (by decide))
      obtain ⟨X, x1, x9, ex, ex2⟩ := rIn_t (by omega) (by omega) hx
      obtain ⟨k, _, k60, ey, ey2⟩ := rIn_t (by omega) (by omega) hy
      have eS : enqS L A x y = enV (aWl (ptR (oQ A) L k (oW A))) X := by
        unfold enqS
        rw [hx, hy, ex2, ey2]
        rfl
      rw [eS] at hR
      subst ex ey
      refine rx_lays l (d + 12) ru ta rs I J _ (fun I1 f1 e1 => ?_)
      rw [hlay] at e1
      refine rx_pt l d ru ta rs I1 J _ (oQ A) L (hre.keep f1) (by rw [e1]; exact hA.2.1) k (by omega) (fun I2 J2 f2 e2 => ?_)
      rw [e1] at e2
      have w1 := hA.2.1.pt (Q := oQ A) (L := L) t8 k _
      have fq := FQ.w (f1.tr f2) (by rw [e2]; exact w1)
      refine hK 39 [some (.ref 67), some (.int (nI X)), some (.int (nI k)), some (.int (fI 4096)), some (.int (nI 4095)), none, none, none] [] _ _ _ _ _ (md_en_out l d ru ta rs I2 J2 Rp _ e2 w1 X k (by omega) (fun F hF => ?_) 4095 4096 none none none (by omega) (bsE_0 _ _))
      rw [enV_eq x1 hF]
      exact hR I2 J2 fq
    · refine And.intro (fun z => absurd rfl z) (fun _ => ?_)
      exact none_ (by rw [hy]; exact Bool.and_false _)
  · refine And.intro (fun _ => ?_) (fun z => absurd rfl z)
    exact none_ (by rw [hx]; rfl)

