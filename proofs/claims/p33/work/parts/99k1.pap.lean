-- ===== barns packed by kinds: all ways, one after the other =====
def foW {α : Type} (f : Nat → α → α) : Nat → α → α
  | 0, a => a
  | k + 1, a => f k (foW f k a)
theorem foW_add {α : Type} (f : Nat → α → α) (p : Nat) : ∀ q (a : α), foW f (p + q) a = foW (fun j => f (p + j)) q (foW f p a)
  | 0, _ => rfl
  | q + 1, a => by
    show f (p + q) (foW f (p + q) a) = f (p + q) (foW (fun j => f (p + j)) q (foW f p a))
    rw [foW_add f p q a]
theorem foW_mul {α : Type} (f : Nat → α → α) (b : Nat) : ∀ k (a : α), foW f (k * b) a = foW (fun i s => foW (fun j => f (i * b + j)) b s) k a
  | 0, a => by
    rw [Nat.zero_mul]
    rfl
  | k + 1, a => by
    rw [Nat.succ_mul, foW_add, foW_mul f b k a]
    rfl
theorem foW_cg {α : Type} {f g : Nat → α → α} : ∀ k (a : α), (∀ j, j < k → ∀ s, f j s = g j s) → foW f k a = foW g k a
  | 0, _, _ => rfl
  | k + 1, a, h => by
    show f k (foW f k a) = g k (foW g k a)
    rw [foW_cg k a (fun j hj => h j (by omega)), h k (by omega)]
theorem foW_id {α : Type} {f : Nat → α → α} {a : α} : ∀ k, (∀ j, j < k → f j a = a) → foW f k a = a
  | 0, _ => rfl
  | k + 1, h => by
    show f k (foW f k a) = a
    rw [foW_id k (fun j hj => h j (by omega)), h k (by omega)]
def upP (g : Nat → Nat) (i v : Nat) : Nat → Nat := fun x => if x = i then v else g x
/-- all ways of the loads that are left -/
def gRw {α : Type} (F : (Nat → Nat) → α → α) (B : Nat) : Nat → Nat → (Nat → Nat) → α → α
  | 0, _, g, a => F g a
  | m + 1, i, g, a => foW (fun k => gRw F B m (i + 1) (upP g i k)) B a
def dgY (B m i : Nat) (g : Nat → Nat) (j : Nat) : Nat → Nat := fun p => if p < i then g p else if p < i + m then j / B ^ (i + m - 1 - p) % B else g p
theorem gRw_num {α : Type} {F : (Nat → Nat) → α → α} {B : Nat} (hB : 0 < B) : ∀ (m i : Nat) (g : Nat → Nat) (a : α), gRw F B m i g a = foW (fun j => F (dgY B m i g j)) (B ^ m) a
  | 0, i, g, a => by
    have e : dgY B 0 i g 0 = g := by
      funext p
      unfold dgY
      split
      · rfl
      · rw [if_neg (by omega)]
    show F g a = F (dgY B 0 i g 0) a
    rw [e]
  | m + 1, i, g, a => by
    have pm : 0 < B ^ m := Nat.pow_pos hB
    rw [Nat.pow_succ, Nat.mul_comm, foW_mul]
    show foW (fun k => gRw F B m (i + 1) (upP g i k)) B a = _
    refine foW_cg B a (fun k hk t => ?_)
    rw [gRw_num hB m (i + 1)]
    refine foW_cg (B ^ m) t (fun j hj u => ?_)
    have eg : dgY B (m + 1) i g (k * B ^ m + j) = dgY B m (i + 1) (upP g i k) j := by
      funext p
      unfold dgY upP
      by_cases c1 : p < i
      · rw [if_pos c1, if_pos (by omega), if_neg (by omega)]
      rw [if_neg c1]
      by_cases c2 : p = i
      · subst c2
        rw [if_pos (by omega), if_pos (by omega), if_pos rfl, show p + (m + 1) - 1 - p = m by omega, Nat.mul_comm, Nat.mul_add_div pm, Nat.div_eq_of_lt hj, Nat.add_zero, Nat.mod_eq_of_lt hk]
      · by_cases c3 : p < i + (m + 1)
        · rw [if_pos c3, if_neg (by omega), if_pos (by omega), show i + (m + 1) - 1 - p = i + 1 + m - 1 - p by omega]
          obtain ⟨q, hq⟩ : ∃ q, m = (i + 1 + m - 1 - p) + (q + 1) := ⟨p - i - 1, by omega⟩
          generalize i + 1 + m - 1 - p = z at hq
          have ep : k * B ^ m = B ^ z * (B * (k * B ^ q)) := by
            rw [hq, Nat.pow_add, Nat.pow_succ]
            rw [Nat.mul_left_comm k, Nat.mul_comm (B ^ q) B, Nat.mul_left_comm k B]
          rw [ep, Nat.mul_add_div (Nat.pow_pos hB), Nat.mul_add_mod]
        · rw [if_neg c3, if_neg (by omega), if_neg (by omega), if_neg c2]
    rw [eg]
-- what a way puts into a barn: feet, the kind (6: none), whether the kinds are one
def ftP (a : Nat → Nat) (g : Nat → Nat) (b : Nat) : Nat → Nat
  | 0 => 0
  | k + 1 => ftP a g b k + (if g k = b then a k else 0)
def kdP (kd : Nat → Nat) (g : Nat → Nat) (b : Nat) : Nat → Nat
  | 0 => 6
  | k + 1 => if g k = b then kd k else kdP kd g b k
def soP (kd : Nat → Nat) (g : Nat → Nat) (b : Nat) : Nat → Bool
  | 0 => true
  | k + 1 => soP kd g b k && (!(decide (g k = b)) || (decide (kdP kd g b k = 6) || decide (kdP kd g b k = kd k)))
/-- a load can go where it goes -/
def stP (a kd rm : Nat → Nat) (g : Nat → Nat) (i : Nat) : Bool := (decide (ftP a g (g i) i = 0) || decide (kdP kd g (g i) i = kd i)) && decide (ftP a g (g i) i + a i ≤ rm (g i))
def okP (a kd rm : Nat → Nat) (g : Nat → Nat) : Nat → Bool
  | 0 => true
  | i + 1 => okP a kd rm g i && stP a kd rm g i
def usP (a : Nat → Nat) (g : Nat → Nat) : Nat → Nat
  | 0 => 0
  | i + 1 => if ftP a g (g i) i = 0 then usP a g i + 1 else usP a g i
theorem ftP_cg {a g g' : Nat → Nat} {b : Nat} : ∀ k, (∀ j, j < k → g j = g' j) → ftP a g b k = ftP a g' b k
  | 0, _ => rfl
  | k + 1, h => by
    unfold ftP
    rw [ftP_cg k (fun j hj => h j (by omega)), h k (by omega)]
theorem kdP_cg {kd g g' : Nat → Nat} {b : Nat} : ∀ k, (∀ j, j < k → g j = g' j) → kdP kd g b k = kdP kd g' b k
  | 0, _ => rfl
  | k + 1, h => by
    unfold kdP
    rw [kdP_cg k (fun j hj => h j (by omega)), h k (by omega)]
theorem stP_cg {a kd rm g g' : Nat → Nat} {i : Nat} (h : ∀ j, j < i + 1 → g j = g' j) : stP a kd rm g i = stP a kd rm g' i := by
  unfold stP
  rw [← h i (by omega), ftP_cg i (fun j hj => h j (by omega)), kdP_cg i (fun j hj => h j (by omega))]
theorem okP_cg {a kd rm g g' : Nat → Nat} : ∀ i, (∀ j, j < i → g j = g' j) → okP a kd rm g i = okP a kd rm g' i
  | 0, _ => rfl
  | i + 1, h => by
    unfold okP
    rw [okP_cg i (fun j hj => h j (by omega)), stP_cg h]
theorem usP_cg {a g g' : Nat → Nat} : ∀ i, (∀ j, j < i → g j = g' j) → usP a g i = usP a g' i
  | 0, _ => rfl
  | i + 1, h => by
    unfold usP
    rw [usP_cg i (fun j hj => h j (by omega)), ← h i (by omega), ftP_cg i (fun j hj => h j (by omega))]
theorem kd_ft {a kd g : Nat → Nat} {b : Nat} : ∀ k, (∀ j, j < k → 0 < a j ∧ kd j ≠ 6) → (ftP a g b k = 0 ↔ kdP kd g b k = 6)
  | 0, _ => ⟨fun _ => rfl, fun _ => rfl⟩
  | k + 1, h => by
    have ih := kd_ft (a := a) (kd := kd) (g := g) (b := b) k (fun j hj => h j (by omega))
    have hk := h k (by omega)
    unfold ftP kdP
    by_cases e : g k = b
    · rw [if_pos e, if_pos e]
      refine ⟨fun z => by omega, fun z => absurd z hk.2⟩
    · rw [if_neg e, if_neg e, Nat.add_zero]
      exact ih
/-- barn by barn is load by load -/
theorem ok_all {a kd rm g : Nat → Nat} {B : Nat} : ∀ i, (∀ j, j < i → 0 < a j ∧ kd j ≠ 6) → (∀ j, j < i → g j < B) → (okP a kd rm g i = true ↔ ∀ b, b < B → soP kd g b i = true ∧ (ftP a g b i ≤ rm b))
  | 0, _, _ => ⟨fun _ b _ => ⟨rfl, Nat.zero_le _⟩, fun _ => rfl⟩
  | i + 1, ha, hg => by
    have ih := ok_all (a := a) (kd := kd) (rm := rm) (g := g) (B := B) i (fun j hj => ha j (by omega)) (fun j hj => hg j (by omega))
    have kf := kd_ft (a := a) (kd := kd) (g := g) (b := g i) i (fun j hj => ha j (by omega))
    have eo : okP a kd rm g (i + 1) = (okP a kd rm g i && stP a kd rm g i) := rfl
    rw [eo, Bool.and_eq_true, ih]
    have es : stP a kd rm g i = true ↔ (kdP kd g (g i) i = 6 ∨ kdP kd g (g i) i = kd i) ∧ ftP a g (g i) i + a i ≤ rm (g i) := by
      unfold stP
      rw [Bool.and_eq_true, Bool.or_eq_true, decide_eq_true_iff, decide_eq_true_iff, decide_eq_true_iff, kf]
    rw [es]
    have eso : ∀ b, soP kd g b (i + 1) = true ↔ soP kd g b i = true ∧ (g i = b → kdP kd g b i = 6 ∨ kdP kd g b i = kd i) := fun b => by
      show (soP kd g b i && (!(decide (g i = b)) || (decide (kdP kd g b i = 6) || decide (kdP kd g b i = kd i)))) = true ↔ _
      rw [Bool.and_eq_true, Bool.or_eq_true, Bool.or_eq_true, Bool.not_eq_true', decide_eq_false_iff_not, decide_eq_true_iff, decide_eq_true_iff]
      refine ⟨fun ⟨h1, h2⟩ => ⟨h1, fun e => ?_⟩, fun ⟨h1, h2⟩ => ⟨h1, ?_⟩⟩
      · rcases h2 with h2 | h2
        · exact absurd e h2
        · exact h2
      · by_cases e : g i = b
        · exact Or.inr (h2 e)
        · exact Or.inl e
    have eft : ∀ b, ftP a g b (i + 1) = ftP a g b i + (if g i = b then a i else 0) := fun b => rfl
    refine ⟨fun ⟨h1, h2, h3⟩ b hb => ⟨(eso b).mpr ⟨(h1 b hb).1, fun e => by rw [← e]; exact h2⟩, ?_⟩, fun h => ⟨fun b hb => ⟨((eso b).mp (h b hb).1).1, ?_⟩, ?_, ?_⟩⟩
    · rw [eft]
      by_cases e : g i = b
      · rw [if_pos e, ← e]
        exact h3
      · rw [if_neg e]
        exact (h1 b hb).2
    · have y := (h b hb).2
      rw [eft] at y
      omega
    · exact ((eso (g i)).mp (h (g i) (hg i (by omega))).1).2 rfl
    · have y := (h (g i) (hg i (by omega))).2
      rw [eft, if_pos rfl] at y
      exact y
/-- barns that are used -/
def ctP (kd g : Nat → Nat) (n : Nat) : Nat → Nat
  | 0 => 0
  | b + 1 => ctP kd g n b + (if kdP kd g b n = 6 then 0 else 1)
theorem ctP_0 {kd g : Nat → Nat} : ∀ B, ctP kd g 0 B = 0
  | 0 => rfl
  | B + 1 => by
    show ctP kd g 0 B + (if (6 : Nat) = 6 then 0 else 1) = 0
    rw [ctP_0 B, if_pos rfl]
theorem ctP_s {a kd g : Nat → Nat} {i : Nat} (ha : ∀ j, j < i + 1 → 0 < a j ∧ kd j ≠ 6) : ∀ B, ctP kd g (i + 1) B = ctP kd g i B + (if g i < B ∧ ftP a g (g i) i = 0 then 1 else 0)
  | 0 => by
    rw [if_neg (fun h => absurd h.1 (Nat.not_lt_zero _))]
    rfl
  | B + 1 => by
    have ih := ctP_s (a := a) (kd := kd) (g := g) ha B
    have kf := kd_ft (a := a) (kd := kd) (g := g) (b := g i) i (fun j hj => ha j (by omega))
    have e1 : ctP kd g (i + 1) (B + 1) = ctP kd g (i + 1) B + (if kdP kd g B (i + 1) = 6 then 0 else 1) := rfl
    have e2 : ctP kd g i (B + 1) = ctP kd g i B + (if kdP kd g B i = 6 then 0 else 1) := rfl
    have e3 : kdP kd g B (i + 1) = if g i = B then kd i else kdP kd g B i := rfl
    rw [e1, e2, ih, e3]
    by_cases c : g i = B
    · rw [if_pos c, if_neg (ha i (by omega)).2]
      rw [c] at kf
      rw [c, if_neg (fun h => absurd h.1 (Nat.lt_irrefl _))]
      by_cases z : ftP a g B i = 0
      · rw [if_pos (kf.mp z), if_pos ⟨by omega, z⟩]
      · rw [if_neg (fun h => z (kf.mpr h)), if_neg (fun h => z h.2)]
    · rw [if_neg c]
      by_cases z : g i < B ∧ ftP a g (g i) i = 0
      · rw [if_pos z, if_pos (show g i < B + 1 ∧ ftP a g (g i) i = 0 from ⟨by omega, z.2⟩)]
        omega
      · rw [if_neg z, if_neg (show ¬ (g i < B + 1 ∧ ftP a g (g i) i = 0) from fun h => z ⟨by omega, h.2⟩)]
        omega
theorem us_ct {a kd g : Nat → Nat} {B : Nat} : ∀ n, (∀ j, j < n → 0 < a j ∧ kd j ≠ 6) → (∀ j, j < n → g j < B) → usP a g n = ctP kd g n B
  | 0, _, _ => (ctP_0 B).symm
  | n + 1, ha, hg => by
    rw [ctP_s ha B, ← us_ct n (fun j hj => ha j (by omega)) (fun j hj => hg j (by omega))]
    have gn := hg n (by omega)
    show (if ftP a g (g n) n = 0 then usP a g n + 1 else usP a g n) = _
    by_cases z : ftP a g (g n) n = 0
    · rw [if_pos z, if_pos (show g n < B ∧ ftP a g (g n) n = 0 from ⟨gn, z⟩)]
    · rw [if_neg z, if_neg (show ¬ (g n < B ∧ ftP a g (g n) n = 0) from fun h => z h.2), Nat.add_zero]
/-- what stands: the fewest (-1: none), the way -/
abbrev Pac : Type := Int × (Nat → Nat)
def plf (u : Nat) (g : Nat → Nat) (x : Pac) : Pac := if x.1 = -1 ∨ (u : Int) < x.1 then ((u : Int), g) else x
/-- the search of the class -/
def pRn (a kd rm : Nat → Nat) (B : Nat) : Nat → Nat → (Nat → Nat) → Pac → Pac
  | 0, i, g, x => plf (usP a g i) g x
  | m + 1, i, g, x => foW (fun k x => if stP a kd rm (upP g i k) i = true then pRn a kd rm B m (i + 1) (upP g i k) x else x) B x
def paF (a kd rm : Nat → Nat) (n : Nat) (g : Nat → Nat) (x : Pac) : Pac := if okP a kd rm g n = true then plf (usP a g n) g x else x
theorem pRn_all {a kd rm : Nat → Nat} {B n : Nat} : ∀ (m i : Nat) (g : Nat → Nat) (x : Pac), i + m = n → (okP a kd rm g i = true → pRn a kd rm B m i g x = gRw (paF a kd rm n) B m i g x) ∧ (okP a kd rm g i = false → gRw (paF a kd rm n) B m i g x = x)
  | 0, i, g, x, h => by
    have h : i = n := h
    subst h
    refine ⟨fun k => ?_, fun k => ?_⟩
    · show plf _ _ _ = (if okP a kd rm g i = true then plf (usP a g i) g x else x)
      rw [if_pos k]
    · show (if okP a kd rm g i = true then plf (usP a g i) g x else x) = x
      rw [if_neg (by rw [k]; decide)]
  | m + 1, i, g, x, h => by
    have pre : ∀ k, okP a kd rm (upP g i k) (i + 1) = (okP a kd rm g i && stP a kd rm (upP g i k) i) := fun k => by
      show (okP a kd rm (upP g i k) i && stP a kd rm (upP g i k) i) = _
      rw [okP_cg (g := upP g i k) (g' := g) i (fun j hj => if_neg (by omega))]
    refine ⟨fun k => ?_, fun k => ?_⟩
    · show foW _ B x = foW _ B x
      refine foW_cg B x (fun j hj y => ?_)
      have p := pre j
      rw [k, Bool.true_and] at p
      have ih := pRn_all (a := a) (kd := kd) (rm := rm) (B := B) (n := n) m (i + 1) (upP g i j) y (by omega)
      show (if stP a kd rm (upP g i j) i = true then pRn a kd rm B m (i + 1) (upP g i j) y else y) = _
      cases q : stP a kd rm (upP g i j) i with
      | true =>
        rw [if_pos rfl]
        exact ih.1 (by rw [p, q])
      | false =>
        rw [if_neg (by decide)]
        exact (ih.2 (by rw [p, q])).symm
    · show foW _ B x = x
      refine foW_id B (fun j hj => ?_)
      have p := pre j
      rw [k, Bool.false_and] at p
      exact (pRn_all (a := a) (kd := kd) (rm := rm) (B := B) (n := n) m (i + 1) (upP g i j) x (by omega)).2 p
theorem usP_up {a g : Nat → Nat} {i k : Nat} : usP a (upP g i k) (i + 1) = (if ftP a g k i = 0 then usP a g i + 1 else usP a g i) := by
  have e : upP g i k i = k := if_pos rfl
  show (if ftP a (upP g i k) (upP g i k i) i = 0 then usP a (upP g i k) i + 1 else usP a (upP g i k) i) = _
  rw [e, ftP_cg (g := upP g i k) (g' := g) i (fun j hj => if_neg (by omega)), usP_cg (g := upP g i k) (g' := g) i (fun j hj => if_neg (by omega))]
/-- what can't be fewer changes nothing -/
theorem pRn_id {a kd rm : Nat → Nat} {B : Nat} : ∀ (m i : Nat) (g : Nat → Nat) (x : Pac), x.1 ≠ -1 → x.1 ≤ (usP a g i : Int) → pRn a kd rm B m i g x = x
  | 0, i, g, x, h1, h2 => by
    show (if x.1 = -1 ∨ ((usP a g i : Nat) : Int) < x.1 then _ else x) = x
    refine if_neg (fun h => ?_)
    rcases h with h | h
    · exact h1 h
    · omega
  | m + 1, i, g, x, h1, h2 => by
    show foW _ B x = x
    refine foW_id B (fun k hk => ?_)
    show (if stP a kd rm (upP g i k) i = true then pRn a kd rm B m (i + 1) (upP g i k) x else x) = x
    split
    · refine pRn_id m (i + 1) _ x h1 ?_
      rw [usP_up]
      split <;> omega
    · rfl

