-- ===== the reference reads a text: all of it =====
theorem qq_text {t o c : Nat} (ht : t < 4) (hc : c ≤ 24) (ho : o ≤ 310) {Is I4 I5 I6 : XI} (e71 : I4 71 = upd (Is 71) t (nI c)) (e7 : ∀ p, nmem p [72, 73, 77, 78, 84, 85, 89, 90] = true → I4 p = Is p) (hi : ∀ t', (Is 71 t').toInt ≤ 24) (hq : QQ Is) (dn : DNc (Is 89) (Is 90) (Is 84) (Is 85) c o) (h1 : P1 t I4 I5 c) (h2 : P2 t I5 I6 o) (I7 : XI) (e : ∀ p, p ≠ 68 → I7 p = I6 p) : QQ I7 := by
  intro t' j ht' hj hw
  have f71 : I7 71 = upd (Is 71) t (nI c) := by rw [e 71 (by decide), h2.1 71 (by decide) (by decide), h1.1 71 (by decide)]; exact e71
  have f72 : I7 72 = I5 72 := by rw [e 72 (by decide), h2.1 72 (by decide) (by decide)]
  have f73 : I7 73 = I5 73 := by rw [e 73 (by decide), h2.1 73 (by decide) (by decide)]
  have f77 : I7 77 = I6 77 := e 77 (by decide)
  have f78 : I7 78 = I6 78 := e 78 (by decide)
  rw [f71] at hj
  rw [f72] at hw
  rw [f73]
  by_cases z : t' = t
  · subst z
    rw [pk_us, nI_toInt (by omega)] at hj
    have hj : j < c := by omega
    have g := h1.2.2 j hj
    rw [g.1, e7 84 (by decide)] at hw
    obtain ⟨a, m, hh, y1, y2, y3, y4⟩ := dn j hj hw
    rw [g.2, e7 85 (by decide), y1, nI_add]
    refine ⟨400 * t' + a, nI_toInt (by omega), by omega, ?_⟩
    have ord : ∀ i, i < o → I7 77 (400 * t' + i) = Is 89 i ∧ I7 78 (400 * t' + i) = Is 90 i := fun i hi => by
      have g := h2.2.2 i hi
      rw [f77, f78, g.1, g.2, h1.1 89 (by decide), h1.1 90 (by decide), e7 89 (by decide), e7 90 (by decide)]
      exact ⟨rfl, rfl⟩
    refine stL_more (1 + m) 1601 _ _ (Pg_stL (base := 400 * t') (lim := 400 * t' + 400) (n := 1) y3 (fun i hi => ord i (by omega)) (by omega) ?_) (by omega)
    refine ⟨by omega, Or.inl ?_⟩
    rw [(ord (a + m) y2).1]
    exact y4
  · rw [pk_un z] at hj
    have h24 := hi t'
    have g := h1.2.1 (24 * t' + j) (by omega)
    rw [g.1, e7 72 (by decide)] at hw
    rw [g.2, e7 73 (by decide)]
    obtain ⟨f, hf, hl, hs⟩ := hq t' j ht' hj hw
    refine ⟨f, hf, hl, stL_keep (lo := 400 * t') (fun i h1i h2i => ?_) _ _ _ hl hs⟩
    have g := h2.2.1 i (by omega)
    rw [f77, f78, g.1, g.2, h1.1 77 (by decide), h1.1 78 (by decide), e7 77 (by decide), e7 78 (by decide)]
    exact ⟨rfl, rfl⟩
def TXM : List Nat := [67, 68, 69, 70, 71, 72, 73, 74, 75, 76, 77, 78, 79, 80, 81, 82, 83, 84, 85, 86, 87, 88, 89, 90, 91, 92, 93, 94, 95, 96, 97, 98]
theorem fr_u {ms : List Nat} {p : Nat} (h : nmem p ms = true) {I0 I : XI} {k : Nat} {v : Int32} (hf : frO ms I0 I) : frO ms I0 (uI I p k v) := by
  intro q hq
  rw [uI_ne (fun e => by subst e; rw [h] at hq; cases hq)]
  exact hf q hq
theorem qq_u {I : XI} {p k : Nat} {v : Int32} (hp : nmem p QPl = false) (h : QQ I) : QQ (uI I p k v) := qq_ok I (uI I p k v) (fun q hq => uI_ne (fun z => by
  subst z
  rw [nmem_of hq] at hp
  cases hp)) h
def txI (I : XI) : XI := uI (uI I 67 14 (I 67 3)) 67 3 0
def txS (I : XI) : XI := uI (uI (uI (uI (uI (uI (uI (uI (uI I 67 15 0) 67 19 0) 67 20 (-1)) 67 21 0) 67 22 0) 67 25 0) 67 28 4) 67 30 0) 67 37 0
theorem iv_txI {I : XI} (h : ivO CF [] I) : ivO CF [] (txI I) := iv_put (iv_put h (by rw [cell_674.2.2.1]; exact inI_fr _)) (by rw [cell_674.2.2.2.1]; exact ⟨by decide, by decide⟩)
theorem qq_txI {I : XI} (h : QQ I) : QQ (txI I) := qq_u (by decide) (qq_u (by decide) h)
theorem fr_txI {Ib I : XI} (t : TF (txI Ib) I) : frO TXM Ib I := fr_tr (ns := TXP) (by decide) (fr_u (by decide) (fr_u (by decide) (fun _ _ => rfl))) t.1
theorem mu_le (I : XI) (T : Nat) : mu I T ≤ 4 * (T + 1) + 1 := by
  unfold mu rm
  split <;> split <;> omega
