-- ===== the reference reads a text: its states =====
def S4 (I0 I : XI) (T b : Nat) : Prop := TF I0 I ∧ I 67 19 = 0 ∧ I 67 28 = 4 ∧ ∃ at_ o c : Nat, I 67 14 = nI T ∧ I 67 15 = nI at_ ∧ I 67 22 = nI 0 ∧ I 67 25 = nI 0 ∧ I 67 37 = nI o ∧ I 67 30 = nI c ∧ I 67 21 = nI 0 ∧ (at_ ≤ T ∧ (I 67 17 = 1 → (I 67 18).toInt ≤ 31)) ∧ o + (if I 67 17 = 0 then 0 else 1) + (T - at_) ≤ b ∧ DNc (I 89) (I 90) (I 84) (I 85) c o ∧ c ≤ 24
def BAD (I0 I : XI) : Prop := TF I0 I ∧ 0 < I 67 19
def A2 (I0 I : XI) (T : Nat) : Prop := ∃ G, Sh1 G ∧ top78 G ∧ opN G ≤ 8 ∧ ST I0 I G T 1 310 ∧ I 67 28 = 2
def mu (I : XI) (T : Nat) : Nat := 4 * rm I T + (if I 67 28 = 0 ∨ I 67 28 = 2 then 1 else 0)
theorem ER.bad {I0 I I' : XI} (h : TF I0 I) (e : ER I I') (hw : I 67 19 = 0) : BAD I0 I' := ⟨e.tf h, e.2.2.2 (Or.inl hw)⟩
theorem pos_ne {x : Int32} (h : 0 < x) : ¬ x = 0 := fun z => by
  subst z
  exact absurd h (by decide)
theorem mu_lt {I I' : XI} {T : Nat} (h : rm I' T < rm I T) : mu I' T < mu I T := by
  unfold mu
  split <;> split <;> omega
theorem ST_st {I0 I : XI} {G : TG} {T x b : Nat} {v : Int32} (h : ST I0 I G T x b) : ST I0 (uI I 67 28 v) G T x b := by
  obtain ⟨tf, hw, at_, n, w, o, c, op, e1, e2, e3, e4, e5, e6, e7, c1⟩ := h
  exact ⟨tf.u (p := 67) rfl (fun _ => by omega), hw, at_, n, w, o, c, op, e1, e2, e3, e4, e5, e6, e7, c1⟩
-- ===== numbers of clauses =====
theorem ST_83 {I0 I : XI} {G : TG} {T x b i : Nat} {v : Int32} (h : ST I0 I G T x b) : ST I0 (uI I 83 i v) G T x b := by
  obtain ⟨tf, hw, at_, n, w, o, c, op, e1, e2, e3, e4, e5, e6, e7, c1⟩ := h
  exact ⟨tf.u (p := 83) rfl (fun z => by cases z), hw, at_, n, w, o, c, op, e1, e2, e3, e4, e5, e6, e7, c1⟩
theorem ST_nx {I0 I I' : XI} {G : TG} {T x b : Nat} (hT : T ≤ 300) (h : ST I0 I G T x b) (h0 : I 67 17 ≠ 0) (q : NX I I' T) : ST I0 I' G T x b := ⟨EQT.tf h.1 q.1, by rw [q.1.2 19 (by omega)]; exact h.2.1, TX_next hT (TX_b h.2.2 (by omega)) h0 q⟩
-- ===== what goes on =====
/-- a clause is over: where its orders are over (or it has none that count) -/
def CL (I0 I : XI) (T b : Nat) : Prop := TF I0 I ∧ I 67 19 = 0 ∧ ∃ at_ o c : Nat, I 67 14 = nI T ∧ I 67 15 = nI at_ ∧ I 67 25 = nI 0 ∧ I 67 37 = nI o ∧ I 67 30 = nI c ∧ I 67 21 = nI 0 ∧ (at_ ≤ T ∧ (I 67 17 = 1 → (I 67 18).toInt ≤ 31)) ∧ o + (if I 67 17 = 0 then 0 else 1) + (T - at_) ≤ b ∧ DNc (I 89) (I 90) (I 84) (I 85) c o ∧ c < 24 ∧ ((I 84 c).toInt ≤ 4 → ∃ h, PGc (I 89) (I 90) (I 85) c o h)
