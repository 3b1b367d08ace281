-- ===== the reference reads a text: all of it, exactly =====
theorem txI_70 (Ib : XI) : txI Ib 70 = Ib 70 := by
  unfold txI
  rw [uI_ne (by decide), uI_ne (by decide)]
theorem tk_txI (Ib : XI) (T : Nat) : tkB (txI Ib) T = tkS (Ib 70) T := by
  show tkS (txI Ib 70) T = _
  rw [txI_70]
/-- the clauses are copied, with their numbers -/
def P1x (t : Nat) (I4 I : XI) (k : Nat) : Prop := P1 t I4 I k ∧ (∀ j, (j < 24 * t ∨ 24 * t + k ≤ j) → I 74 j = I4 74 j ∧ I 75 j = I4 75 j ∧ I 76 j = I4 76 j) ∧ ∀ j, j < k → I 74 (24 * t + j) = I4 86 j ∧ I 75 (24 * t + j) = I4 87 j ∧ I 76 (24 * t + j) = I4 88 j
theorem P1x.s {t k : Nat} {I4 I : XI} (h : P1x t I4 I k) : P1x t I4 (uI (uI (uI (uI (uI I 72 (24 * t + k) (I 84 k)) 73 (24 * t + k) (nI (400 * t) + I 85 k)) 74 (24 * t + k) (I 86 k)) 75 (24 * t + k) (I 87 k)) 76 (24 * t + k) (I 88 k)) (k + 1) := by
  obtain ⟨h0, h1, h2⟩ := h
  have n86 : I 86 = I4 86 := h0.1 86 (by decide)
  have n87 : I 87 = I4 87 := h0.1 87 (by decide)
  have n88 : I 88 = I4 88 := h0.1 88 (by decide)
  have q74 : ∀ j, uI (uI (uI (uI (uI I 72 (24 * t + k) (I 84 k)) 73 (24 * t + k) (nI (400 * t) + I 85 k)) 74 (24 * t + k) (I 86 k)) 75 (24 * t + k) (I 87 k)) 76 (24 * t + k) (I 88 k) 74 j = upd (I 74) (24 * t + k) (I4 86 k) j := fun j => by rw [n86]; rfl
  have q75 : ∀ j, uI (uI (uI (uI (uI I 72 (24 * t + k) (I 84 k)) 73 (24 * t + k) (nI (400 * t) + I 85 k)) 74 (24 * t + k) (I 86 k)) 75 (24 * t + k) (I 87 k)) 76 (24 * t + k) (I 88 k) 75 j = upd (I 75) (24 * t + k) (I4 87 k) j := fun j => by rw [n87]; rfl
  have q76 : ∀ j, uI (uI (uI (uI (uI I 72 (24 * t + k) (I 84 k)) 73 (24 * t + k) (nI (400 * t) + I 85 k)) 74 (24 * t + k) (I 86 k)) 75 (24 * t + k) (I 87 k)) 76 (24 * t + k) (I 88 k) 76 j = upd (I 76) (24 * t + k) (I4 88 k) j := fun j => by rw [n88]; rfl
  refine ⟨h0.s, fun j hj => ?_, fun j hj => ?_⟩
  · rw [q74, q75, q76, pk_un (by omega), pk_un (by omega), pk_un (by omega)]
    exact h1 j (by omega)
  · rw [q74, q75, q76]
    by_cases z : j = k
    · subst z
      rw [pk_us, pk_us, pk_us]
      exact ⟨rfl, rfl, rfl⟩
    · rw [pk_un (by omega), pk_un (by omega), pk_un (by omega)]
      exact h2 j (by omega)
set_option maxRecDepth 100000 in
set_option maxHeartbeats 2000000 in
theorem ue_cp1 (l : Launch) (d : Nat) (ru ta : Nat) (rs : List XO) (J : XJ) (Rp : XR) (t o c : Nat) (ht : t < 4) (ho : o ≤ 310) (hc : c ≤ 24) (I4 : XI) (e30 : I4 67 30 = nI c) (e37 : I4 67 37 = nI o) (hR : ∀ I5 I', P1x t I4 I5 c → P2 t I5 I' o → Rp (some (.int (nI t))) (shH ru ta rs) (uI I' 68 3 (I' 68 3 + 1)) J) : ∀ (m k n : Nat) (I : XI), k + m = c → m + 350 < n → P1x t I4 I k → txr l d ru ta rs J Rp n 211 (some (.int (nI t))) (some (.int (nI k))) I := by
  intro m
  induction m with
  | zero =>
    intro k n I hk hn h
    obtain ⟨n, rfl⟩ : ∃ n', n = n' + 1 := ⟨n - 1, by omega⟩
    have ek : k = c := by omega
    subst ek
    have e : I 67 30 = nI k := by rw [h.1.1 67 (by decide)]; exact e30
    have f37 : I 67 37 = nI o := by rw [h.1.1 67 (by decide)]; exact e37
    refine xrun_step fun K hK => ?_
    refine And.intro (fun _ => ?_) (fun z => absurd ?_ z)
    · exact hK 318 [some (.ref 67), some (.int (nI t)), some (.int (nI 0))] [] (shH ru ta rs) I J 0 0 (tx_cp2 l d ru ta rs J Rp t o ht ho I f37 (fun I' h' => hR I I' h h') o 0 n I (by omega) (by omega) ⟨fun _ _ _ => rfl, fun _ _ => ⟨rfl, rfl⟩, fun j hj => absurd hj (Nat.not_lt_zero j)⟩)
    · show I 67 30 ≤ nI k
      rw [e]
      exact Int32.le_refl _
  | succ m ih =>
    intro k n I hk hn h
    obtain ⟨n, rfl⟩ : ∃ n', n = n' + 1 := ⟨n - 1, by omega⟩
    have e : I 67 30 = nI c := by rw [h.1.1 67 (by decide)]; exact e30
    have e24 : (24 : Int32) * nI t + nI k = nI (24 * t + k) := by rw [show (24 : Int32) = nI 24 from rfl, nI_mul, nI_add]
    have e400 : (400 : Int32) * nI t = nI (400 * t) := by rw [show (400 : Int32) = nI 400 from rfl, nI_mul]
    have vk : vp_in (nI k) 24 := vp_in_nI (by omega) (by omega)
    have vi : vp_in ((24 : Int32) * nI t + nI k) 96 := by rw [e24]; exact vp_in_nI (by omega) (by omega)
    refine xrun_step fun K hK => ?_
    refine And.intro (fun z => absurd z ?_) (fun _ => ?_)
    · show ¬ I 67 30 ≤ nI k
      rw [e]
      exact nI_ge (by omega) (by omega)
    · refine And.intro vk (And.intro vi (And.intro vk (And.intro vi (And.intro vk (And.intro vi (And.intro vk (And.intro vi (And.intro vk (And.intro vi ?_)))))))))
      refine hK 211 [some (.ref 67), some (.int (nI t)), some (.int (nI k + 1))] [] (shH ru ta rs) (uI (uI (uI (uI (uI I 72 ((24 : Int32) * nI t + nI k).toNatClampNeg (I 84 (nI k).toNatClampNeg)) 73 ((24 : Int32) * nI t + nI k).toNatClampNeg ((400 : Int32) * nI t + I 85 (nI k).toNatClampNeg)) 74 ((24 : Int32) * nI t + nI k).toNatClampNeg (I 86 (nI k).toNatClampNeg)) 75 ((24 : Int32) * nI t + nI k).toNatClampNeg (I 87 (nI k).toNatClampNeg)) 76 ((24 : Int32) * nI t + nI k).toNatClampNeg (I 88 (nI k).toNatClampNeg)) J 0 0 ?_
      rw [e24, e400, nI_1, nI_clamp (by omega), nI_clamp (by omega)]
      exact ih (k + 1) n _ (by omega) (by omega) h.s
/-- what the reference keeps of a text that was read; the other texts stay -/
def RTx (t : Nat) (Ib I' : XI) (ws : List Nat) (E : List Odr) (A : Adr) : Prop := (ws.length ≤ 24 ∧ E.length ≤ 400 ∧ A.length = ws.length) ∧ I' 71 t = nI ws.length ∧ (∀ i, i < ws.length → I' 72 (24 * t + i) = nI (ws.getD i 0) ∧ I' 73 (24 * t + i) = nI (400 * t + (A.getD i (0, [])).1) ∧ NU3 (A.getD i (0, [])).2 (I' 74 (24 * t + i)) (I' 75 (24 * t + i)) (I' 76 (24 * t + i))) ∧ (∀ i, i < E.length → I' 77 (400 * t + i) = nI (E.getD i (0, 0)).1 ∧ ((E.getD i (0, 0)).1 = 402 ∨ I' 78 (400 * t + i) = nI (E.getD i (0, 0)).2))
def RTo (t : Nat) (Ib I' : XI) : Prop := (∀ i, i ≠ t → I' 71 i = Ib 71 i) ∧ (∀ j, (j < 24 * t ∨ 24 * t + 24 ≤ j) → I' 72 j = Ib 72 j ∧ I' 73 j = Ib 73 j ∧ I' 74 j = Ib 74 j ∧ I' 75 j = Ib 75 j ∧ I' 76 j = Ib 76 j) ∧ ∀ j, (j < 400 * t ∨ 400 * t + 400 ≤ j) → I' 77 j = Ib 77 j ∧ I' 78 j = Ib 78 j
def TXo (Ib : XI) (T t : Nat) (r : Int32) (I' : XI) : Prop := I' 67 3 = 0 ∧ I' 70 = Ib 70 ∧ ((r = -1 ∧ (∃ f p, Ends (tkS (Ib 70) T) (4, [], 0, [], 0) (f, p) ∧ 1 ≤ f ∧ I' 67 4 = nI f ∧ I' 67 5 = nI p) ∧ I' 68 3 = nI t ∧ ∀ q, 70 < q → q < 79 → I' q = Ib q) ∨ (r = nI t ∧ Ends (tkS (Ib 70) T) (4, [], 0, [], 0) (0, 0) ∧ I' 67 4 = 0 ∧ I' 67 5 = -1 ∧ I' 68 3 = nI (t + 1) ∧ RTo t Ib I' ∧ ∃ K k ws j E A, Ex (tkS (Ib 70) T) ((4, [], 0, [], 0), [], [], []) (0, 0) ((4, K, k, ws, j), [], E, A) ∧ RTx t Ib I' ws E A))
abbrev TXR2 (ru ta : Nat) (rs : List XO) (Ib : XI) (T t : Nat) (Rp : XR) : Prop := ∀ (r : Int32) (I' : XI) (J' : XJ), inI (-1, 3) r.toInt → ivO CF [] I' → QQ I' → frO TXM Ib I' → ((∀ k, k ≠ 3 → I' 68 k = Ib 68 k) ∧ I' 69 = Ib 69) → TXo Ib T t r I' → Rp (some (.int r)) (shH ru ta rs) I' J'
/-- a fault was found -/
def BADe (Ib I : XI) (T : Nat) : Prop := BAD (txI Ib) I ∧ ∃ f p, Ends (tkS (Ib 70) T) (4, [], 0, [], 0) (f, p) ∧ 1 ≤ f ∧ I 67 19 = nI f ∧ I 67 20 = nI p
set_option maxRecDepth 100000 in
theorem ue_bad167 (l : Launch) (d : Nat) (ru ta : Nat) (rs : List XO) (J : XJ) (Rp : XR) (Ib : XI) (T t : Nat) (e68 : Ib 68 3 = nI t) (hi : ivO CF [] Ib) (hq : QQ Ib) (hR : TXR2 ru ta rs Ib T t Rp) (I : XI) (h : BADe Ib I T) (n : Nat) (o1 o2 : Option Value) : txr l d ru ta rs J Rp (n + 1) 167 o1 o2 I := by
  obtain ⟨h, f, p, y1, y2, y3, y4⟩ := h
  refine xrun_step fun K hK => ?_
  refine And.intro (fun z => absurd z (pos_nle h.2)) (fun _ => ?_)
  have g68 : I 68 = Ib 68 := h.1.1 68 (by decide)
  have g69 : I 69 = Ib 69 := h.1.1 69 (by decide)
  have g70 : I 70 = Ib 70 := (h.1.1 70 (by decide)).trans (txI_70 Ib)
  have g3 : I 67 3 = 0 := h.1.2 3 (by omega)
  refine hR (-1) (uI (uI I 67 4 (I 67 19)) 67 5 (I 67 20)) J ⟨by decide, by decide⟩ ?_ ?_ ?_ ⟨fun k _ => by rw [uI_ne (by decide), uI_ne (by decide), g68], by rw [uI_ne (by decide), uI_ne (by decide), g69]⟩ ⟨g3, g70, Or.inl ⟨rfl, ⟨f, p, y1, y2, y3, y4⟩, ?_, fun q a b => ?_⟩⟩
  · exact iv_put (iv_put (iv_TF (iv_txI hi) h.1) (by rw [cell_674.1]; exact inI_fr _)) (by rw [cell_674.2.1]; exact inI_fr _)
  · exact qq_u (by decide) (qq_u (by decide) (qq_TF (qq_txI hq) h.1))
  · exact fr_u (by decide) (fr_u (by decide) (fr_txI h.1))
  · rw [uI_ne (by decide), uI_ne (by decide), g68]
    exact e68
  · rw [uI_ne (by omega), uI_ne (by omega)]
    have y : q = 71 ∨ q = 72 ∨ q = 73 ∨ q = 74 ∨ q = 75 ∨ q = 76 ∨ q = 77 ∨ q = 78 := by omega
    rcases y with rfl | rfl | rfl | rfl | rfl | rfl | rfl | rfl
    all_goals exact h.1.1 _ (by decide)
set_option maxRecDepth 100000 in
set_option maxHeartbeats 2000000 in
theorem ue_good167 (l : Launch) (d : Nat) (ru ta : Nat) (rs : List XO) (J : XJ) (Rp : XR) (Ib : XI) (hi : ivO CF [] Ib) (hq : QQ Ib) (t T : Nat) (hR : TXR2 ru ta rs Ib T t Rp) (ht : t < 4) (e68 : Ib 68 3 = nI t) (I : XI) (h : S4 (txI Ib) I T 310) (h20 : I 67 20 = -1) (hE : Ends (tkS (Ib 70) T) (4, [], 0, [], 0) (0, 0)) (K0 : List Nat) (k0 : Nat) (ws : List Nat) (j0 : Nat) (E : List Odr) (A : Adr) (hX : Ex (tkS (Ib 70) T) ((4, [], 0, [], 0), [], [], []) (0, 0) ((4, K0, k0, ws, j0), [], E, A)) (x4 : XT4 (txI Ib) I T ws j0) (oe : OSe I E) (oa : OSa I A ws) (n : Nat) (hn : 400 < n) : txr l d ru ta rs J Rp (n + 1) 167 none none I := by
  obtain ⟨tf, hw, hst, at_, o, c, e1, e2, e3, e4, e5, e6, e7, c3, c4, c6, c7⟩ := h
  have g68 : I 68 = Ib 68 := tf.1 68 (by decide)
  have g70 : I 70 = Ib 70 := (tf.1 70 (by decide)).trans (txI_70 Ib)
  have g3 : I 67 3 = 0 := tf.2 3 (by omega)
  have f68 : I 68 3 = nI t := by rw [g68]; exact e68
  have vt : vp_in (I 68 3) 4 := by rw [f68]; exact vp_in_nI ht (by omega)
  have hiI := iv_TF (iv_txI hi) tf
  have hqI := qq_TF (qq_txI hq) tf
  refine xrun_step fun K hK => ?_
  refine And.intro (fun _ => ?_) (fun z => absurd ?_ z)
  · refine And.intro (vp_b (by decide)) (And.intro vt ?_)
    refine hK 211 [some (.ref 67), some (.int (I 68 3)), some (.int (nI 0))] [] (shH ru ta rs) (uI (uI (uI I 67 4 (I 67 19)) 67 5 (I 67 20)) 71 (I 68 3).toNatClampNeg (I 67 30)) J 0 0 ?_
    rw [f68, nI_clamp (by omega), e6]
    refine ue_cp1 l d ru ta rs J Rp t o c ht (by omega) c7 (uI (uI (uI I 67 4 (I 67 19)) 67 5 (I 67 20)) 71 t (nI c)) e6 e5 (fun I5 I' h1x h2 => ?_) c 0 n _ (by omega) (by omega) ⟨⟨fun _ _ => rfl, fun _ _ => ⟨rfl, rfl⟩, fun j hj => absurd hj (Nat.not_lt_zero j)⟩, fun _ _ => ⟨rfl, rfl, rfl⟩, fun j hj => absurd hj (Nat.not_lt_zero j)⟩
    have h1 := h1x.1
    have z68 : I' 68 3 = nI t := by rw [h2.1 68 (by decide) (by decide), h1.1 68 (by decide)]; exact f68
    have fr4 : frO TXM Ib (uI (uI (uI I 67 4 (I 67 19)) 67 5 (I 67 20)) 71 t (nI c)) := fr_u (by decide) (fr_u (by decide) (fr_u (by decide) (fr_txI tf)))
    have fr5 : frO TXM Ib I5 := fr_tr (ns := [72, 73, 74, 75, 76]) (by decide) fr4 h1.1
    have fr6 : frO TXM Ib I' := fr_tr (ns := [77, 78]) (by decide) fr5 (fun p hp => h2.1 p (fun z => by subst z; cases hp) (fun z => by subst z; cases hp))
    have iv4 : ivO CF [] (uI (uI (uI I 67 4 (I 67 19)) 67 5 (I 67 20)) 71 t (nI c)) := iv_put (iv_put (iv_put hiI (by rw [cell_674.1]; exact inI_fr _)) (by rw [cell_674.2.1]; exact inI_fr _)) (by
      rw [cell_71, nI_toInt (by omega)]
      exact ⟨by dsimp only; omega, by dsimp only; omega⟩)
    have iv5 : ivO CF [] I5 := iv_frl iv4 (fun p hp => h1.1 p (by
      cases z : nmem p [72, 73, 74, 75, 76] with
      | false => rfl
      | true =>
        rw [nmem_of (nsub_el (a := [72, 73, 74, 75, 76]) (b := FRL) (by decide) (nmem_el z))] at hp
        cases hp))
    have iv6 : ivO CF [] I' := iv_frl iv5 (fun p hp => h2.1 p (fun z => by subst z; cases hp) (fun z => by subst z; cases hp))
    have g69 : I 69 = Ib 69 := tf.1 69 (by decide)
    have k67 : ∀ k, I' 67 k = (uI (uI (uI I 67 4 (I 67 19)) 67 5 (I 67 20)) 71 t (nI c)) 67 k := fun k => by rw [h2.1 67 (by decide) (by decide), h1.1 67 (by decide)]
    have k70 : I' 70 = Ib 70 := by rw [h2.1 70 (by decide) (by decide), h1.1 70 (by decide), uI_ne (by decide), uI_ne (by decide), uI_ne (by decide), g70]
    refine hR (nI t) (uI I' 68 3 (I' 68 3 + 1)) J ?_ ?_ ?_ (fr_u (by decide) fr6) ⟨?_, ?_⟩ ⟨?_, ?_, Or.inr ⟨rfl, hE, ?_, ?_, ?_, ?_, K0, k0, ws, j0, E, A, hX, ?_⟩⟩
    · rw [nI_toInt (by omega)]
      exact ⟨by dsimp only; omega, by dsimp only; omega⟩
    · refine iv_put iv6 ?_
      rw [cell_674.2.2.2.2, z68, nI_1, nI_toInt (by omega)]
      exact ⟨by dsimp only; omega, by dsimp only; omega⟩
    · refine qq_text ht c7 (by omega) (Is := I) (I4 := uI (uI (uI I 67 4 (I 67 19)) 67 5 (I 67 20)) 71 t (nI c)) (I5 := I5) (I6 := I') ?_ (fun p hp => ?_) (fun t' => ?_) hqI c6 h1 h2 _ (fun p hp => uI_ne hp)
      · rw [uI_eq, uI_ne (by decide), uI_ne (by decide)]
      · have y : ∀ q, nmem q [72, 73, 77, 78, 84, 85, 89, 90] = false → p ≠ q := fun q hq z => by
          subst z
          rw [hq] at hp
          cases hp
        rw [uI_ne (y 71 rfl), uI_ne (y 67 rfl), uI_ne (y 67 rfl)]
      · have y : inI (0, 24) (I 71 t').toInt := by
          rw [← cell_71 t']
          exact hiI 71 t' rfl
        exact y.2
    · intro k hk
      rw [uI_atC, if_neg hk, h2.1 68 (by decide) (by decide), h1.1 68 (by decide), uI_ne (by decide), uI_ne (by decide), uI_ne (by decide), g68]
    · rw [uI_ne (by decide), h2.1 69 (by decide) (by decide), h1.1 69 (by decide), uI_ne (by decide), uI_ne (by decide), uI_ne (by decide), g69]
    · rw [uI_ne (by decide), k67]
      exact g3
    · rw [uI_ne (by decide), k70]
    · rw [uI_ne (by decide), k67]
      exact hw
    · rw [uI_ne (by decide), k67]
      exact h20
    · show I' 68 3 + 1 = _
      rw [z68, nI_1]
    · -- the other texts
      have b : ∀ p, p = 71 ∨ p = 72 ∨ p = 73 ∨ p = 74 ∨ p = 75 ∨ p = 76 ∨ p = 77 ∨ p = 78 → I p = Ib p := fun p hp => by
        rcases hp with rfl | rfl | rfl | rfl | rfl | rfl | rfl | rfl
        all_goals exact (tf.1 _ (by decide)).trans (by first | rfl | (unfold txI; simp [uI]))
      have r7 : ∀ p, p = 72 ∨ p = 73 ∨ p = 74 ∨ p = 75 ∨ p = 76 → uI I' 68 3 (I' 68 3 + 1) p = I5 p := fun p hp => by rw [uI_ne (by omega), h2.1 p (by omega) (by omega)]
      refine ⟨fun i hi => ?_, fun j hj => ?_, fun j hj => ?_⟩
      · rw [uI_ne (by decide), h2.1 71 (by decide) (by decide), h1.1 71 (by decide), uI_atC, if_neg hi, uI_ne (by decide), uI_ne (by decide), b 71 (by omega)]
      · have y := h1.2.1 j (by omega)
        have y2 := h1x.2.1 j (by omega)
        rw [r7 72 (by omega), r7 73 (by omega), r7 74 (by omega), r7 75 (by omega), r7 76 (by omega), y.1, y.2, y2.1, y2.2.1, y2.2.2, ← b 72 (by omega), ← b 73 (by omega), ← b 74 (by omega), ← b 75 (by omega), ← b 76 (by omega)]
        exact ⟨rfl, rfl, rfl, rfl, rfl⟩
      · have y := h2.2.1 j (by omega)
        rw [uI_ne (show 77 ≠ 68 by decide), uI_ne (show 78 ≠ 68 by decide), y.1, y.2, h1.1 77 (by decide), h1.1 78 (by decide), ← b 77 (by omega), ← b 78 (by omega)]
        exact ⟨rfl, rfl⟩
    · -- this text
      obtain ⟨_, xw, x30, x24, _⟩ := x4
      have ecl : c = ws.length := nI_small (e6.symm.trans x30) (by omega) (by omega)
      have eol : o = E.length := oe.len e5 (by omega)
      have r7 : ∀ p, p = 72 ∨ p = 73 ∨ p = 74 ∨ p = 75 ∨ p = 76 → uI I' 68 3 (I' 68 3 + 1) p = I5 p := fun p hp => by rw [uI_ne (by omega), h2.1 p (by omega) (by omega)]
      refine ⟨⟨x24, oe.1, oa.1⟩, ?_, fun i hi => ?_, fun i hi => ?_⟩
      · rw [uI_ne (by decide), h2.1 71 (by decide) (by decide), h1.1 71 (by decide), uI_atC, if_pos rfl, ecl]
      · have y := h1.2.2 i (by omega)
        have y2 := h1x.2.2 i (by omega)
        have w := oa.2 i hi
        rw [r7 72 (by omega), r7 73 (by omega), r7 74 (by omega), r7 75 (by omega), r7 76 (by omega), y.1, y.2, y2.1, y2.2.1, y2.2.2]
        refine ⟨(xw i hi).1, ?_, w.2⟩
        show nI (400 * t) + I 85 i = _
        rw [w.1, nI_add]
      · have y := h2.2.2 i (by omega)
        rw [uI_ne (show 77 ≠ 68 by decide), uI_ne (show 78 ≠ 68 by decide), y.1, y.2, h1.1 89 (by decide), h1.1 90 (by decide)]
        exact oe.2.2 i hi
  · show I 67 19 ≤ 0
    rw [hw]
    exact Int32.le_refl _
set_option maxRecDepth 100000 in
theorem ue_bad74 (l : Launch) (d : Nat) (ru ta : Nat) (rs : List XO) (J : XJ) (Rp : XR) (Ib : XI) (T t : Nat) (e68 : Ib 68 3 = nI t) (hi : ivO CF [] Ib) (hq : QQ Ib) (hR : TXR2 ru ta rs Ib T t Rp) (I : XI) (h : BADe Ib I T) (n : Nat) (o1 o2 : Option Value) : txr l d ru ta rs J Rp (n + 1 + 1) 74 o1 o2 I := by
  refine xrun_step fun K hK => ?_
  refine And.intro (fun _ => ?_) (fun z => absurd z (pos_ne h.1.2))
  exact hK 167 [some (.ref 67), o1, o2] [] (shH ru ta rs) I J 0 0 (ue_bad167 l d ru ta rs J Rp Ib T t e68 hi hq hR I h n o1 o2)
set_option maxRecDepth 100000 in
set_option maxHeartbeats 2000000 in
theorem ue_step74 (l : Launch) (d T : Nat) (hT : T ≤ 300) (ru ta : Nat) (rs : List XO) (J : XJ) (Rp : XR) (I0 : XI) (hs : shO CF (shH ru ta rs)) (hi : ivO CF [] I0) (hq : QQ I0) (I : XI) (s : MS) (X : Wdr) (h : GX I0 I T s X) (n : Nat) (x167 : S4 I0 I T 310 → I 67 20 = -1 → mstep (tkB I0 T) s = .inr (0, 0) → txr l d ru ta rs J Rp n 167 none none I) (nxt : ∀ (I' : XI) (J' : XJ), NXTe I0 I I' T s X → txr l d ru ta rs J' Rp n 74 none none I') : txr l d ru ta rs J Rp (n + 1) 74 none none I := by
  refine xrun_step fun K hK => ?_
  have nx : ∀ (I' : XI) (J' : XJ), NXTe I0 I I' T s X → K 74 [some (.ref 67), none, none] [] (shH ru ta rs) I' J' 0 0 := fun I' J' b => hK 74 [some (.ref 67), none, none] [] (shH ru ta rs) I' J' 0 0 (nxt I' J' b)
  obtain ⟨m, Kf, k, ws, j⟩ := s
  match m, h, nx, x167 with
  | 0, h, nx, x167 =>
    obtain ⟨⟨G, y1, y2, y3, y4, hst, _⟩, _⟩ := id h
    have hw : I 67 19 = 0 := y4.2.1
    refine And.intro (fun z => absurd hw z) (fun _ => ?_)
    refine And.intro (fun _ => ?_) (fun z => absurd (hst.symm.trans z) (by decide))
    refine And.intro (fun _ => ?_) (fun z => absurd hst z)
    exact us_asks l T hT ru ta rs I0 hs hi hq (d + 3) I J _ Kf k ws j X h (fun I' J' b => nx I' J' b)
  | 1, h, nx, x167 =>
    obtain ⟨⟨G, y1, y2, y3, y4, hst, _⟩, _⟩ := id h
    have hw : I 67 19 = 0 := y4.2.1
    refine And.intro (fun z => absurd hw z) (fun _ => ?_)
    refine And.intro (fun _ => ?_) (fun z => absurd (hst.symm.trans z) (by decide))
    refine And.intro (fun z => absurd (hst.symm.trans z) (by decide)) (fun _ => ?_)
    refine And.intro (fun _ => ?_) (fun z => absurd hst z)
    exact us_begins l T hT ru ta rs I0 hs hi hq (d + 2) I J _ Kf k ws j X h (fun I' J' b => nx I' J' b)
  | 2, h, nx, x167 =>
    obtain ⟨⟨G, y1, y2, y3, y4, y5, hst, _⟩, _⟩ := id h
    have hw : I 67 19 = 0 := y5.2.1
    refine And.intro (fun z => absurd hw z) (fun _ => ?_)
    refine And.intro (fun _ => ?_) (fun z => absurd (hst.symm.trans z) (by decide))
    refine And.intro (fun z => absurd (hst.symm.trans z) (by decide)) (fun _ => ?_)
    refine And.intro (fun z => absurd (hst.symm.trans z) (by decide)) (fun _ => ?_)
    refine And.intro (fun _ => ?_) (fun z => absurd hst z)
    exact us_goesOn l T hT ru ta rs I0 hs hi hq d I J _ Kf k ws j X h (fun I' J' b => nx I' J' b)
  | 3, h, nx, x167 =>
    obtain ⟨⟨a, y1, y2, y3, hst, _⟩, _⟩ := id h
    have hw : I 67 19 = 0 := y3.2.1
    refine And.intro (fun z => absurd hw z) (fun _ => ?_)
    refine And.intro (fun _ => ?_) (fun z => absurd (hst.symm.trans z) (by decide))
    refine And.intro (fun z => absurd (hst.symm.trans z) (by decide)) (fun _ => ?_)
    refine And.intro (fun z => absurd (hst.symm.trans z) (by decide)) (fun _ => ?_)
    refine And.intro (fun z => absurd (hst.symm.trans z) (by decide)) (fun _ => ?_)
    refine And.intro (fun _ => ?_) (fun z => absurd hst z)
    exact us_asksOn l T hT ru ta rs I0 hs hi hq d I J _ Kf k ws j X h (fun I' J' b => nx I' J' b)
  | m + 4, h, nx, x167 =>
    have h' : S4 I0 I T 310 ∧ XT4 I0 I T ws j ∧ X.1 = [] ∧ OSe I X.2.1 ∧ OSa I X.2.2 ws := h
    obtain ⟨h, hx, _, oe, oa⟩ := h'
    have hw : I 67 19 = 0 := h.2.1
    have hst : I 67 28 = 4 := h.2.2.1
    refine And.intro (fun z => absurd hw z) (fun _ => ?_)
    refine And.intro (fun z => absurd hst z) (fun _ => ?_)
    refine And.intro (fun h17 => ?_) (fun h17 => ?_)
    · refine hK 167 [some (.ref 67), none, none] [] (shH ru ta rs) I J 0 0 (x167 h hx.2.2.2.2 ?_)
      have z : (tkB I0 T j).1 = 0 := (tkR_s hx.1.2.2 (tkB_ok hT j)).1.mp h17
      exact s4_fine (K := Kf) (k := k) (ws := ws) z
    · refine And.intro (fun z => absurd (hst.symm.trans z) (by decide)) (fun _ => ?_)
      refine And.intro (fun z => absurd (hst.symm.trans z) (by decide)) (fun _ => ?_)
      refine And.intro (fun z => absurd (hst.symm.trans z) (by decide)) (fun _ => ?_)
      refine And.intro (fun z => absurd (hst.symm.trans z) (by decide)) (fun _ => ?_)
      exact us_clause l T hT ru ta rs I0 (d + 1) I J _ Kf k ws j h hx h17 X oe oa (fun I' J' b => nx I' J' b)
theorem ue_next {Ib I I' : XI} {T : Nat} {s : MS} {X : Wdr} (r : Rx (tkB (txI Ib) T) ((4, [], 0, [], 0), [], [], []) (s, X)) (b : NXTe (txI Ib) I I' T s X) : BADe Ib I' T ∨ ∃ s' X', GX (txI Ib) I' T s' X' ∧ Rx (tkB (txI Ib) T) ((4, [], 0, [], 0), [], [], []) (s', X') ∧ mu I' T < mu I T := by
  rcases b with ⟨f, p, y1, y2, y3, y4, y5⟩ | ⟨s', y1, y2, y3⟩
  · refine Or.inl ⟨y3, f, p, ?_, y2, y4, y5⟩
    have e := r.rch.ends (Ends.now y1)
    rw [tk_txI] at e
    exact e
  · exact Or.inr ⟨s', _, y2, r.tr (Rx.one y1 rfl), y3⟩
theorem s4_not (tk : Nat → TK) {m : Nat} {K : List Nat} {k : Nat} {ws : List Nat} {j : Nat} (hm : m < 4) (h : mstep tk (m, K, k, ws, j) = .inr (0, 0)) : False := by
  have ne : ∀ {f i : Nat}, 1 ≤ f → (Sum.inr (ft tk f i) : MR) ≠ .inr (0, 0) := fun hf z => by
    have e := congrArg Prod.fst (Sum.inr.inj z)
    have e : _ = 0 := e
    unfold ft at e
    dsimp only at e
    omega
  have dn : ∀ (L : List (Nat × Nat × Nat)) (i : Nat) (r : Nat × Nat), deS tk L i = .inr r → 1 ≤ r.1 := by
    intro L
    induction L with
    | nil =>
      intro i r z
      cases z
    | cons q L ih =>
      intro i r z
      obtain ⟨lo, hi, w⟩ := q
      unfold deS at z
      split at z
      · split at z
        · split at z
          · cases z
          · split at z
            · exact ih _ _ z
            · rw [← Sum.inr.inj z]
              exact Nat.le_refl 1
        · rw [← Sum.inr.inj z]
          show 1 ≤ 2
          omega
      · rw [← Sum.inr.inj z]
        exact Nat.le_refl 1
  match m, hm with
  | 0, _ =>
    replace h : y0m tk K k ws j = .inr (0, 0) := h
    unfold y0m at h
    repeat' split at h
    all_goals first | exact ne (by decide) h | cases h
  | 1, _ =>
    replace h : y1m tk K k ws j = .inr (0, 0) := h
    unfold y1m yPm at h
    repeat' split at h
    all_goals first | exact ne (by decide) h | cases h
    all_goals exact absurd (dn _ _ _ (by assumption)) (by decide)
  | 2, _ =>
    replace h : y2m tk K k ws j = .inr (0, 0) := h
    unfold y2m at h
    repeat' split at h
    all_goals first | exact ne (by decide) h | cases h
  | 3, _ =>
    replace h : y3m tk K k ws j = .inr (0, 0) := h
    unfold y3m at h
    repeat' split at h
    all_goals first | exact ne (by decide) h | cases h
theorem mst_4 {tk : Nat → TK} {s s' : MS} (h : mstep tk s = .inl s') : s'.1 ≤ 4 := by
  obtain ⟨m, K, k, ws, j⟩ := s
  unfold mstep at h
  split at h
  · unfold y0m at h
    repeat' split at h
    all_goals (cases h <;> exact Nat.le_of_ble_eq_true rfl)
  · unfold y1m yPm at h
    repeat' split at h
    all_goals (cases h <;> exact Nat.le_of_ble_eq_true rfl)
  · unfold y2m at h
    repeat' split at h
    all_goals (cases h <;> exact Nat.le_of_ble_eq_true rfl)
  · unfold y3m at h
    repeat' split at h
    all_goals (cases h <;> exact Nat.le_of_ble_eq_true rfl)
  · unfold y4m at h
    repeat' split at h
    all_goals (cases h <;> exact Nat.le_of_ble_eq_true rfl)
theorem rx_4 {tk : Nat → TK} {y : MS × Wdr} (h : Rx tk ((4, [], 0, [], 0), [], [], []) y) : y.1.1 ≤ 4 := by
  obtain ⟨n, h⟩ := h
  have : ∀ (n : Nat) (x : MS × Wdr), x.1.1 ≤ 4 → xit tk n x = .inl y → y.1.1 ≤ 4 := by
    intro n
    induction n with
    | zero =>
      intro x hx h
      have e : x = y := Sum.inl.inj h
      rw [← e]
      exact hx
    | succ n ih =>
      intro x hx h
      unfold xit xstep at h
      split at h
      · rename_i t e
        split at e
        · rename_i s' e'
          have e := Sum.inl.inj e
          refine ih t ?_ h
          rw [← e]
          exact mst_4 e'
        · cases e
      · cases h
  exact this n _ (Nat.le_refl _) h
theorem ue_loop (l : Launch) (d T : Nat) (hT : T ≤ 300) (ru ta : Nat) (rs : List XO) (Rp : XR) (hs : shO CF (shH ru ta rs)) (Ib : XI) (hi : ivO CF [] Ib) (hq : QQ Ib) (t : Nat) (hR : TXR2 ru ta rs Ib T t Rp) (ht : t < 4) (e68 : Ib 68 3 = nI t) : ∀ (m n : Nat) (I : XI) (J : XJ) (s : MS) (X : Wdr), s.1 ≤ 4 → GX (txI Ib) I T s X → Rx (tkB (txI Ib) T) ((4, [], 0, [], 0), [], [], []) (s, X) → mu I T ≤ m → m + 410 < n → txr l d ru ta rs J Rp n 74 none none I := by
  have fin : ∀ (I : XI) (J : XJ) (s : MS) (X : Wdr) (n : Nat), s.1 ≤ 4 → GX (txI Ib) I T s X → Rx (tkB (txI Ib) T) ((4, [], 0, [], 0), [], [], []) (s, X) → 400 < n → S4 (txI Ib) I T 310 → I 67 20 = -1 → mstep (tkB (txI Ib) T) s = .inr (0, 0) → txr l d ru ta rs J Rp (n + 1) 167 none none I := fun I J s X n h4 h r hn s4 h20 e => by
    have e0 := r.rch.ends (Ends.now e)
    have ex : Ex (tkB (txI Ib) T) ((4, [], 0, [], 0), [], [], []) (0, 0) (s, X) := ⟨r, e⟩
    rw [tk_txI] at e0 ex
    obtain ⟨m, K, k, ws, j⟩ := s
    obtain ⟨D, E, A⟩ := X
    have em : m = 4 := by
      rcases Nat.lt_or_ge m 4 with z | z
      · exact (s4_not _ z e).elim
      · have h4 : m ≤ 4 := h4
        omega
    subst em
    obtain ⟨g1, g2, g3, g4, g5⟩ := h
    have g3 : D = [] := g3
    subst g3
    exact ue_good167 l d ru ta rs J Rp Ib hi hq t T hR ht e68 I s4 h20 e0 K k ws j E A ex g2 g4 g5 n hn
  have m4 : ∀ (s s' : MS), s.1 ≤ 4 → mstep (tkB (txI Ib) T) s = .inl s' → s'.1 ≤ 4 := fun s s' _ h => mst_4 h
  intro m
  induction m with
  | zero =>
    intro n I J s X h4 h r hm hn
    obtain ⟨n, rfl⟩ : ∃ n', n = n' + 1 + 1 + 1 := ⟨n - 3, by omega⟩
    refine ue_step74 l d T hT ru ta rs J Rp (txI Ib) hs (iv_txI hi) (qq_txI hq) I s X h (n + 1 + 1) (fun s4 h20 e => fin I J s X (n + 1) h4 h r (by omega) s4 h20 e) (fun I' J' b => ?_)
    rcases ue_next r b with b | ⟨s', _, _, _, b⟩
    · exact ue_bad74 l d ru ta rs J' Rp Ib T t e68 hi hq hR I' b n none none
    · omega
  | succ m ih =>
    intro n I J s X h4 h r hm hn
    obtain ⟨n, rfl⟩ : ∃ n', n = n' + 1 + 1 + 1 := ⟨n - 3, by omega⟩
    refine ue_step74 l d T hT ru ta rs J Rp (txI Ib) hs (iv_txI hi) (qq_txI hq) I s X h (n + 1 + 1) (fun s4 h20 e => fin I J s X (n + 1) h4 h r (by omega) s4 h20 e) (fun I' J' b => ?_)
    have h4' : ∀ s', mstep (tkB (txI Ib) T) s = .inl s' → s'.1 ≤ 4 := fun s' e => m4 s s' h4 e
    rcases b with b | ⟨s', y1, y2, y3⟩
    · rcases ue_next (I := I) r (Or.inl b) with b | ⟨s', X', g, r', b⟩
      · exact ue_bad74 l d ru ta rs J' Rp Ib T t e68 hi hq hR I' b n none none
      · exact ih (n + 1 + 1) I' J' s' X' (rx_4 r') g r' (by omega) (by omega)
    · exact ih (n + 1 + 1) I' J' s' _ (h4' s' y1) y2 (r.tr (Rx.one y1 rfl)) (by omega) (by omega)
set_option maxRecDepth 100000 in
set_option maxHeartbeats 2000000 in
theorem ue_text (l : Launch) (d : Nat) (ru ta : Nat) (rs : List XO) (hs : shO CF (shH ru ta rs)) (I : XI) (J : XJ) (Rp : XR) (hi : ivO CF [] I) (hq : QQ I) (T t : Nat) (eT : I 67 3 = nI T) (hT : T ≤ 300) (et : I 68 3 = nI t) (ht : t ≤ 4) (h4 : t = 4 → Rp (some (.int (-1))) (shH ru ta rs) I J) (hR : t < 4 → TXR2 ru ta rs I T t Rp) : xm l (d + 10) 0 0 mX12_text [.ref 67] (shH ru ta rs) I J Rp := by
  refine xm_ofK 1700 (X := xxX12) (t := tX12_text) (stop := [74, 167, 211, 318]) (ini := false) xx12 pl12 rfl kX12_text (fun h => by cases h) (Nat.le_of_ble_eq_true rfl) (fun K hK => ?_)
  refine And.intro (vp_b (by decide)) (And.intro (fun hne => ?_) (fun heq => ?_))
  · have ht4 : t < 4 := by
      rcases Nat.lt_or_ge t 4 with z | z
      · exact z
      · exfalso
        refine hne ?_
        show I 68 3 = nI 4
        rw [et, show t = 4 by omega]
    show xm l (d + 9) 0 0 mX12_next [.ref 67] (shH ru ta rs) (txS (txI I)) J _
    have tfS : TF (txI I) (txS (txI I)) := ((((((((TF.rf.u (p := 67) rfl (fun _ => by omega)).u (p := 67) rfl (fun _ => by omega)).u (p := 67) rfl (fun _ => by omega)).u (p := 67) rfl (fun _ => by omega)).u (p := 67) rfl (fun _ => by omega)).u (p := 67) rfl (fun _ => by omega)).u (p := 67) rfl (fun _ => by omega)).u (p := 67) rfl (fun _ => by omega)).u (p := 67) rfl (fun _ => by omega)
    refine ux_next l (d + 5) T ru ta rs (txS (txI I)) J _ 0 hT eT rfl (by omega) (fun I2 qe => ?_)
    have nrt : RTK I2 (lexS (txI I 70) T 0) := nrt_of (I0 := txI I) tfS hT (show txS (txI I) 67 15 = nI 0 from rfl) (Nat.zero_le T) qe 0 (by omega) rfl
    have q := NXe.nx (I := txS (txI I)) (show txS (txI I) 67 15 = nI 0 from rfl) (Nat.zero_le T) qe
    obtain ⟨q, a, a', h1, h2, h3, h4, h5, h6⟩ := q
    have s4 : S4 (txI I) I2 T 310 := by
      refine ⟨EQT.tf tfS q, by rw [q.2 19 (by omega)]; rfl, by rw [q.2 28 (by omega)]; rfl, a', 0, 0, by rw [q.2 14 (by omega)]; exact eT, h2, by rw [q.2 22 (by omega)]; rfl, by rw [q.2 25 (by omega)]; rfl, by rw [q.2 37 (by omega)]; rfl, by rw [q.2 30 (by omega)]; rfl, by rw [q.2 21 (by omega)]; rfl, ⟨h4, h6⟩, ?_, fun j hj => absurd hj (Nat.not_lt_zero j), by omega⟩
      split <;> omega
    have x4 : XT4 (txI I) I2 T [] 0 := ⟨nrt, fun x hx => absurd hx (Nat.not_lt_zero x), by rw [q.2 30 (by omega)]; rfl, by decide, by rw [q.2 20 (by omega)]; rfl⟩
    exact hK 74 [some (.ref 67), none, none] [] (shH ru ta rs) I2 J 0 0 (ue_loop l d T hT ru ta rs Rp hs I hi hq t (hR ht4) ht4 et 1205 1700 I2 J (4, [], 0, [], 0) ([], [], []) (by decide) ⟨s4, x4, rfl, ⟨by simp, by rw [q.2 37 (by omega)]; rfl, fun i hi => absurd hi (Nat.not_lt_zero i)⟩, rfl, fun i hi => absurd hi (Nat.not_lt_zero i)⟩ (Rx.rf _) (Nat.le_trans (mu_le I2 T) (by omega)) (by omega))
  · have heq : I 68 3 = nI 4 := heq
    exact h4 (nI_small (et.symm.trans heq) (by omega) (by omega))
