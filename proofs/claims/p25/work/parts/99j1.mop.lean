-- ===== the most that one reaper cuts: all ways, one after the other =====
def foN {α : Type} (f : Nat → α → α) : Nat → α → α
  | 0, a => a
  | k + 1, a => f k (foN f k a)
theorem foN_add {α : Type} (f : Nat → α → α) (p : Nat) : ∀ q (a : α), foN f (p + q) a = foN (fun j => f (p + j)) q (foN f p a)
  | 0, _ => rfl
  | q + 1, a => by
    show f (p + q) (foN f (p + q) a) = f (p + q) (foN (fun j => f (p + j)) q (foN f p a))
    rw [foN_add f p q a]
theorem foN_mul {α : Type} (f : Nat → α → α) (b : Nat) : ∀ k (a : α), foN f (k * b) a = foN (fun i s => foN (fun j => f (i * b + j)) b s) k a
  | 0, a => by
    rw [Nat.zero_mul]
    rfl
  | k + 1, a => by
    rw [Nat.succ_mul, foN_add, foN_mul f b k a]
    rfl
theorem foN_cg {α : Type} {f g : Nat → α → α} : ∀ k (a : α), (∀ j, j < k → ∀ s, f j s = g j s) → foN f k a = foN g k a
  | 0, _, _ => rfl
  | k + 1, a, h => by
    show f k (foN f k a) = g k (foN g k a)
    rw [foN_cg k a (fun j hj => h j (by omega)), h k (by omega)]
theorem foN_id {α : Type} {f : Nat → α → α} {a : α} : ∀ k, (∀ j, j < k → f j a = a) → foN f k a = a
  | 0, _ => rfl
  | k + 1, h => by
    show f k (foN f k a) = a
    rw [foN_id k (fun j hj => h j (by omega)), h k (by omega)]
/-- what stands: the greatest sum (-1: none), its way -/
abbrev Mac : Type := Int × (Nat → Nat)
def upN (g : Nat → Nat) (i v : Nat) : Nat → Nat := fun x => if x = i then v else g x
/-- an hour: a cut (d = thing + 1) or none (0), then it passes -/
def mvV (Q : Tld) (L : Lws) (r bn : Nat) (w : Rw) (d : Nat) : Nat := if d = 0 then 0 else if cuOK Q L w (d - 1) r bn = true then cuL Q L w (d - 1) r else 0
def mvW (Q : Tld) (L : Lws) (r bn : Nat) (w : Rw) (d : Nat) : Rw := ptR Q L 1 (if d = 0 then w else cuR Q L w (d - 1) r bn)
def mlf (s : Nat) (g : Nat → Nat) (a : Mac) : Mac := if a.1 < (s : Int) then ((s : Int), g) else a
/-- all ways of the hours that are left, in their order -/
def mRn (Q : Tld) (L : Lws) (r bn B : Nat) : Nat → Nat → Rw → Nat → (Nat → Nat) → Mac → Mac
  | 0, _, _, s, g, a => mlf s g a
  | m + 1, i, w, s, g, a => foN (fun k => mRn Q L r bn B m (i + 1) (mvW Q L r bn w k) (s + mvV Q L r bn w k) (upN g i k)) B a
/-- no way brings more than x -/
def mBd (Q : Tld) (L : Lws) (r bn B : Nat) : Nat → Rw → Nat → Int → Prop
  | 0, _, s, x => (s : Int) ≤ x
  | m + 1, w, s, x => ∀ k, k < B → mBd Q L r bn B m (mvW Q L r bn w k) (s + mvV Q L r bn w k) x
theorem mBd_mono {Q : Tld} {L : Lws} {r bn B : Nat} {x y : Int} (h : x ≤ y) : ∀ (m : Nat) (w : Rw) (s : Nat), mBd Q L r bn B m w s x → mBd Q L r bn B m w s y
  | 0, _, _, b => Int.le_trans b h
  | m + 1, _, _, b => fun k hk => mBd_mono h m _ _ (b k hk)
theorem mRn_id {Q : Tld} {L : Lws} {r bn B : Nat} : ∀ (m i : Nat) (w : Rw) (s : Nat) (g : Nat → Nat) (a : Mac), mBd Q L r bn B m w s a.1 → mRn Q L r bn B m i w s g a = a
  | 0, _, _, s, g, a, b => if_neg (show ¬ a.1 < (s : Int) from Int.not_lt.mpr b)
  | m + 1, i, w, s, g, a, b => foN_id B (fun k hk => mRn_id m (i + 1) _ _ _ a (b k hk))
theorem foN_ge {f : Nat → Mac → Mac} (h : ∀ k a, a.1 ≤ (f k a).1) : ∀ n a, a.1 ≤ (foN f n a).1
  | 0, _ => Int.le_refl _
  | n + 1, a => Int.le_trans (foN_ge h n a) (h n _)
theorem mRn_le {Q : Tld} {L : Lws} {r bn B : Nat} : ∀ (m i : Nat) (w : Rw) (s : Nat) (g : Nat → Nat) (a : Mac), a.1 ≤ (mRn Q L r bn B m i w s g a).1
  | 0, _, _, s, g, a => by
    show a.1 ≤ (if a.1 < (s : Int) then ((s : Int), g) else a).1
    split
    · rename_i c
      exact Int.le_of_lt c
    · exact Int.le_refl _
  | m + 1, i, w, s, g, a => by
    exact foN_ge (fun k a => mRn_le m (i + 1) _ _ _ a) B a
theorem foN_le {Q : Tld} {L : Lws} {r bn B m i : Nat} {w : Rw} {s : Nat} {g : Nat → Nat} (a : Mac) : ∀ (p q : Nat), p ≤ q → (foN (fun k => mRn Q L r bn B m (i + 1) (mvW Q L r bn w k) (s + mvV Q L r bn w k) (upN g i k)) p a).1 ≤ (foN (fun k => mRn Q L r bn B m (i + 1) (mvW Q L r bn w k) (s + mvV Q L r bn w k) (upN g i k)) q a).1
  | p, 0, h => by
    rw [Nat.le_zero.mp h]
    exact Int.le_refl _
  | p, q + 1, h => by
    by_cases e : p = q + 1
    · rw [e]
      exact Int.le_refl _
    · exact Int.le_trans (foN_le a p q (by omega)) (mRn_le m (i + 1) _ _ _ _)
theorem mRn_bd {Q : Tld} {L : Lws} {r bn B : Nat} : ∀ (m i : Nat) (w : Rw) (s : Nat) (g : Nat → Nat) (a : Mac), mBd Q L r bn B m w s (mRn Q L r bn B m i w s g a).1
  | 0, _, _, s, g, a => by
    show (s : Int) ≤ (if a.1 < (s : Int) then ((s : Int), g) else a).1
    split
    · exact Int.le_refl _
    · rename_i c
      exact Int.not_lt.mp c
  | m + 1, i, w, s, g, a => fun k hk => by
    have y := mRn_bd (Q := Q) (L := L) (r := r) (bn := bn) (B := B) m (i + 1) (mvW Q L r bn w k) (s + mvV Q L r bn w k) (upN g i k) (foN (fun k => mRn Q L r bn B m (i + 1) (mvW Q L r bn w k) (s + mvV Q L r bn w k) (upN g i k)) k a)
    exact mBd_mono (foN_le a (k + 1) B hk) m _ _ y
/-- a cut that can't be done brings what none brings -/
theorem mv_no {Q : Tld} {L : Lws} {r bn : Nat} {w : Rw} {k : Nat} (h : cuOK Q L w (k - 1) r bn = false) : mvV Q L r bn w k = 0 ∧ mvW Q L r bn w k = mvW Q L r bn w 0 := by
  unfold mvV mvW cuR
  rw [h]
  refine ⟨?_, ?_⟩
  · split <;> rfl
  · split <;> rfl
/-- it changes nothing where the way without a cut has been looked at -/
theorem mRn_skip {Q : Tld} {L : Lws} {r bn B m i : Nat} {w : Rw} {s : Nat} {g : Nat → Nat} {a : Mac} {k : Nat} (hk : 0 < k) (h : cuOK Q L w (k - 1) r bn = false) : mRn Q L r bn B m (i + 1) (mvW Q L r bn w k) (s + mvV Q L r bn w k) (upN g i k) (foN (fun k => mRn Q L r bn B m (i + 1) (mvW Q L r bn w k) (s + mvV Q L r bn w k) (upN g i k)) k a) = foN (fun k => mRn Q L r bn B m (i + 1) (mvW Q L r bn w k) (s + mvV Q L r bn w k) (upN g i k)) k a := by
  obtain ⟨e1, e2⟩ := mv_no h
  have z := mRn_bd (Q := Q) (L := L) (r := r) (bn := bn) (B := B) m (i + 1) (mvW Q L r bn w 0) (s + mvV Q L r bn w 0) (upN g i 0) a
  have e0 : mvV Q L r bn w 0 = 0 := rfl
  rw [e0] at z
  rw [e1, e2]
  refine mRn_id m (i + 1) _ _ _ _ (mBd_mono ?_ m _ _ z)
  have y := foN_le (Q := Q) (L := L) (r := r) (bn := bn) (B := B) (m := m) (i := i) (w := w) (s := s) (g := g) a 1 k hk
  rw [show foN (fun k => mRn Q L r bn B m (i + 1) (mvW Q L r bn w k) (s + mvV Q L r bn w k) (upN g i k)) 1 a = mRn Q L r bn B m (i + 1) (mvW Q L r bn w 0) (s + mvV Q L r bn w 0) (upN g i 0) a from rfl, e0] at y
  exact y
/-- what the hours left can bring at most -/
theorem mBd_reach {Q : Tld} {L : Lws} {r bn B : Nat} : ∀ (m : Nat) (w : Rw) (s : Nat), mBd Q L r bn B m w s ((s + m * qC Q r : Nat) : Int)
  | 0, _, s => by
    show (s : Int) ≤ ((s + 0 * qC Q r : Nat) : Int)
    omega
  | m + 1, w, s => fun k hk => by
    have v : mvV Q L r bn w k ≤ qC Q r := by
      unfold mvV
      split
      · exact Nat.zero_le _
      · split
        · unfold cuL
          split <;> omega
        · exact Nat.zero_le _
    refine mBd_mono ?_ m _ _ (mBd_reach m (mvW Q L r bn w k) (s + mvV Q L r bn w k))
    rw [Nat.succ_mul]
    omega
-- the reference: a way is a number, the first hour its highest digit
def mrun (Q : Tld) (L : Lws) (r bn : Nat) (g : Nat → Nat) : Nat → Nat → Rw → Nat → Nat
  | 0, _, _, s => s
  | m + 1, i, w, s => mrun Q L r bn g m (i + 1) (mvW Q L r bn w (g i)) (s + mvV Q L r bn w (g i))
/-- the digits of j behind the first i -/
def dgX (B m i : Nat) (g : Nat → Nat) (j : Nat) : Nat → Nat := fun p => if p < i then g p else if p < i + m then j / B ^ (i + m - 1 - p) % B else g p
theorem mRn_num {Q : Tld} {L : Lws} {r bn B : Nat} (hB : 0 < B) : ∀ (m i : Nat) (w : Rw) (s : Nat) (g : Nat → Nat) (a : Mac), mRn Q L r bn B m i w s g a = foN (fun j => mlf (mrun Q L r bn (dgX B m i g j) m i w s) (dgX B m i g j)) (B ^ m) a
  | 0, i, w, s, g, a => by
    have e : dgX B 0 i g 0 = g := by
      funext p
      unfold dgX
      split
      · rfl
      · rw [if_neg (by omega)]
    show mlf s g a = mlf (mrun Q L r bn (dgX B 0 i g 0) 0 i w s) (dgX B 0 i g 0) a
    rw [e]
    rfl
  | m + 1, i, w, s, g, a => by
    have pm : 0 < B ^ m := Nat.pow_pos hB
    rw [Nat.pow_succ, Nat.mul_comm, foN_mul]
    show foN (fun k => mRn Q L r bn B m (i + 1) (mvW Q L r bn w k) (s + mvV Q L r bn w k) (upN g i k)) B a = _
    refine foN_cg B a (fun k hk t => ?_)
    rw [mRn_num hB m (i + 1)]
    refine foN_cg (B ^ m) t (fun j hj u => ?_)
    have eg : dgX B (m + 1) i g (k * B ^ m + j) = dgX B m (i + 1) (upN g i k) j := by
      funext p
      unfold dgX upN
      by_cases c1 : p < i
      · rw [if_pos c1, if_pos (by omega), if_neg (by omega)]
      rw [if_neg c1]
      by_cases c2 : p = i
      · subst c2
        rw [if_pos (by omega), if_pos (by omega), if_pos rfl, show p + (m + 1) - 1 - p = m by omega, Nat.mul_comm, Nat.mul_add_div pm, Nat.div_eq_of_lt hj, Nat.add_zero, Nat.mod_eq_of_lt hk]
      · by_cases c3 : p < i + (m + 1)
        · rw [if_pos c3, if_neg (by omega), if_pos (by omega), show i + (m + 1) - 1 - p = i + 1 + m - 1 - p by omega]
          obtain ⟨q, hq⟩ : ∃ q, m = (i + 1 + m - 1 - p) + (q + 1) := ⟨p - i - 1, by omega⟩
          generalize i + 1 + m - 1 - p = z at hq
          have ep : k * B ^ m = B ^ z * (B * (k * B ^ q)) := by
            rw [hq, Nat.pow_add, Nat.pow_succ]
            rw [Nat.mul_left_comm k, Nat.mul_comm (B ^ q) B, Nat.mul_left_comm k B]
          rw [ep, Nat.mul_add_div (Nat.pow_pos hB), Nat.mul_add_mod]
        · rw [if_neg c3, if_neg (by omega), if_neg (by omega), if_neg c2]
    rw [eg]
    have ek : dgX B m (i + 1) (upN g i k) j i = k := by
      unfold dgX upN
      rw [if_pos (by omega), if_pos rfl]
    have er : mrun Q L r bn (dgX B m (i + 1) (upN g i k) j) (m + 1) i w s = mrun Q L r bn (dgX B m (i + 1) (upN g i k) j) m (i + 1) (mvW Q L r bn w k) (s + mvV Q L r bn w k) := by
      show mrun Q L r bn _ m (i + 1) (mvW Q L r bn w (dgX B m (i + 1) (upN g i k) j i)) (s + mvV Q L r bn w (dgX B m (i + 1) (upN g i k) j i)) = _
      rw [ek]
    rw [er]

