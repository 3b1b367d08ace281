-- ===== the reference reads a text: one step after another =====
theorem pg_emit {no nv na : Nat → Int32} {c o h h' : Nat} {y v : Int32} (p : PGc no nv na c o h) (s : stOK y v h h') : PGc (upd no o y) (upd nv o v) na c (o + 1) h' := by
  obtain ⟨a, m, e, rfl, p⟩ := p
  refine ⟨a, m + 1, e, by omega, h, Pg_up p (fun i hi => ⟨pk_un (by omega), pk_un (by omega)⟩), ?_⟩
  rw [pk_us, pk_us]
  exact s
theorem dn_emit {no nv nw na : Nat → Int32} {c o : Nat} {y v : Int32} (d : DNc no nv nw na c o) : DNc (upd no o y) (upd nv o v) nw na c (o + 1) := by
  intro j hj h4
  obtain ⟨a, m, h, e, hl, p, e2⟩ := d j hj h4
  refine ⟨a, m, h, e, by omega, Pg_up p (fun i hi => ⟨pk_un (by omega), pk_un (by omega)⟩), ?_⟩
  rw [pk_un (by omega)]
  exact e2
/-- all is well so far: no fault -/
def ST (I0 I : XI) (G : TG) (T x b : Nat) : Prop := TF I0 I ∧ I 67 19 = 0 ∧ TX I G T x b
theorem TF.em {I0 I : XI} (h : TF I0 I) (o : Nat) (y v : Int32) : TF I0 (emI I o y v) := ((h.u (p := 89) rfl (fun z => by cases z)).u (p := 90) rfl (fun z => by cases z)).u (p := 67) rfl (fun _ => by omega)
theorem TX_b {I : XI} {G : TG} {T x b b' : Nat} (h : TX I G T x b) (hb : b ≤ b') : TX I G T x b' := by
  obtain ⟨at_, n, w, o, c, op, e1, e2, e3, e4, e5, e6, e7, c1, c2, c3, c4, c5⟩ := h
  exact ⟨at_, n, w, o, c, op, e1, e2, e3, e4, e5, e6, e7, c1, c2, c3, Nat.le_trans c4 hb, c5⟩
theorem ST_b {I0 I : XI} {G : TG} {T x b b' : Nat} (h : ST I0 I G T x b) (hb : b ≤ b') : ST I0 I G T x b' := ⟨h.1, h.2.1, TX_b h.2.2 hb⟩
theorem nI_small {a b : Nat} (h : nI a = nI b) (ha : a < 1000) (hb : b < 1000) : a = b := (nI_eq (by omega) (by omega)).mp h
-- a token more
theorem TX_next {I I' : XI} {G : TG} {T x b : Nat} (hT : T ≤ 300) (h : TX I G T x (b + 1)) (hs : I 67 17 ≠ 0) (q : NX I I' T) : TX I' G T x b := by
  obtain ⟨at_, n, w, o, c, op, e1, e2, e3, e4, e5, e6, e7, c1, c2, c3, c4, c5, c6, c7⟩ := h
  obtain ⟨q, a, a', h1, h2, h3, h4, h5, h6⟩ := q
  have ea : at_ = a := nI_small (e2.symm.trans h1) (by omega) (by omega)
  subst ea
  refine ⟨a', n, w, o, c, op, by rw [q.2 14 (by omega)]; exact e1, h2, by rw [q.2 22 (by omega)]; exact e3, by rw [q.2 25 (by omega)]; exact e4, by rw [q.2 37 (by omega)]; exact e5, by rw [q.2 30 (by omega)]; exact e6, by rw [q.2 21 (by omega)]; exact e7, ?_⟩
  rw [q.1 79 (by decide), q.1 80 (by decide), q.1 81 (by decide), q.1 82 (by decide), q.1 84 (by decide), q.1 85 (by decide), q.1 89 (by decide), q.1 90 (by decide)]
  refine ⟨c1, c2, ⟨h4, h6⟩, ?_, c5, c6, c7⟩
  rw [if_neg hs] at c4
  rcases h5 with z | z
  · rw [if_pos z]
    omega
  · split <;> omega
/-- how much of the text is left -/
def rm (I : XI) (T : Nat) : Nat := (if I 67 17 = 0 then 0 else 1) + (T - (I 67 15).toNatClampNeg)
theorem rm_of {I I' : XI} {T : Nat} (h1 : I' 67 17 = I 67 17) (h2 : I' 67 15 = I 67 15) : rm I' T = rm I T := by
  unfold rm
  rw [h1, h2]
theorem rm_nx {I I' : XI} {T : Nat} (hT : T ≤ 300) (h0 : I 67 17 ≠ 0) (q : NX I I' T) : rm I' T < rm I T := by
  obtain ⟨q, a, a', h1, h2, h3, h4, h5, h6⟩ := q
  unfold rm
  rw [if_neg h0, h1, h2, nI_clamp (by omega), nI_clamp (by omega)]
  rcases h5 with z | z
  · rw [if_pos z]
    omega
  · split <;> omega
/-- what stays when orders are made and frames end -/
def KP (I I' : XI) : Prop := I' 67 17 = I 67 17 ∧ I' 67 18 = I 67 18 ∧ I' 67 28 = I 67 28 ∧ I' 67 15 = I 67 15
theorem KP.rf {I : XI} : KP I I := ⟨rfl, rfl, rfl, rfl⟩
theorem KP.tr {I I' I'' : XI} (h : KP I I') (g : KP I' I'') : KP I I'' := ⟨g.1.trans h.1, g.2.1.trans h.2.1, g.2.2.1.trans h.2.2.1, g.2.2.2.trans h.2.2.2⟩
theorem Rep_top {fr cmp wt wf : Nat → Int32} : ∀ {G : TG} {n w1 : Nat}, Rep fr cmp wt wf G n (w1 + 1) → ∃ n', wf w1 = nI n' ∧ n' ≤ n
  | [], n, w1, h => by
    have := h.2
    omega
  | (k, []) :: G, n, w1, h => by
    obtain ⟨n1, w0, h1, _, _, h4, h5⟩ := h
    have e : w1 + 1 = w0 := h4
    rw [← e] at h5
    obtain ⟨n', a, b⟩ := Rep_top h5
    exact ⟨n', a, by omega⟩
  | (k, x :: a) :: G, n, w1, h => by
    obtain ⟨n1, w0, h1, _, _, ⟨w2, e, _, h4, _⟩, _⟩ := h
    have : w1 = w2 := by omega
    subst this
    exact ⟨n, h4, Nat.le_refl _⟩
/-- where what is left is below r and not below q, nothing is left -/
theorem OPS_nil {q r : Nat} (hqr : r ≤ q) {a : List Int32} (ho : OPS q a) (h : ∀ y, y ∈ a → rkN y < r) : a = [] := by
  cases a with
  | nil => rfl
  | cons x a =>
    have h1 := h x List.mem_cons_self
    have h2 := ho.2.1
    omega
/-- minus and part are over with what they stand before -/
def top78 : TG → Prop
  | [] => True
  | f :: _ => f.1 ≠ 7 ∧ f.1 ≠ 8
