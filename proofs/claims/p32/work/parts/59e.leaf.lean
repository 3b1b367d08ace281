-- ===== the reader: its small methods =====
def SGN : List Nat := [60, 62, 61, 35, 43, 45, 42, 47, 40, 41, 59, 300, 301]
def tkOK (q : TK) : Prop := q.1 ≤ 4 ∧ (q.1 = 1 → q.2.1 < 32) ∧ (q.1 = 2 → q.2.1 ≤ 10000) ∧ (q.1 = 3 → q.2.1 ∈ SGN) ∧ q.2.2.1 ≤ 300
theorem lexC_s3 {B : Nat → Int32} {T i : Nat} : (lexC B T i).1 = 3 → (lexC B T i).2.1 ∈ SGN := by
  unfold lexC
  cases h0 : Nat.ble T i with
  | true => exact fun z => by cases z
  | false =>
    cases h1 : bLt (B i) with
    | true =>
      dsimp only
      cases h2 : kW (lts B T i) wT 0 with
      | some k => exact fun z => by cases z
      | none => exact fun z => by cases z
    | false =>
      cases h2 : bDg (B i) with
      | true => exact fun z => by cases z
      | false =>
        cases h3 : (decide (B i = 60) || decide (B i = 62)) && (Nat.blt (i + 1) T && decide (B (i + 1) = 61)) with
        | true =>
          dsimp only
          cases h4 : decide (B i = 60) with
          | true => exact fun _ => by decide
          | false => exact fun _ => by decide
        | false =>
          dsimp only
          cases h4 : sgL.contains (B i) with
          | true =>
            have y : ∀ z, z ∈ sgL → z.toNatClampNeg ∈ SGN := by decide
            exact fun _ => y (B i) (by simpa using h4)
          | false => exact fun z => by cases z
theorem tkS_ok {B : Nat → Int32} {T : Nat} (hT : T ≤ 300) (j : Nat) : tkOK (tkS B T j) := by
  have a := lexS_b (B := B) (pos_le B T j)
  exact ⟨a.2.2.2.1, a.2.2.2.2.2.1, a.2.2.2.2.2.2, lexC_s3, Nat.le_trans a.2.2.2.2.1 hT⟩
theorem tk_five {q : TK} (h : q.1 ≤ 4) : q.1 = 0 ∨ q.1 = 1 ∨ q.1 = 2 ∨ q.1 = 3 ∨ q.1 = 4 := by omega
theorem cw_inj {a b : Nat} (ha : a < 32) (hb : b < 32) (h : cw a = cw b) : a = b := by
  have y : ((List.range 32).all fun a => (List.range 32).all fun b => match Nat.beq (cw a) (cw b) with
    | true => Nat.beq a b
    | false => true) = true := by decide +kernel
  have z := List.all_eq_true.mp (List.all_eq_true.mp y a (List.mem_range.mpr ha)) b (List.mem_range.mpr hb)
  rw [h, show Nat.beq (cw b) (cw b) = true by simp] at z
  exact Nat.eq_of_beq_eq_true z
theorem sgC_ge {v : Nat} (h : v ∈ SGN) : 35 ≤ sgC v ∧ sgC v ≤ 257 := by
  have y : ∀ z, z ∈ SGN → 35 ≤ sgC z ∧ sgC z ≤ 257 := by decide
  exact y v h
theorem sgC_inj {a b : Nat} (ha : a ∈ SGN) (hb : b ∈ SGN) (h : sgC a = sgC b) : a = b := by
  have y : ∀ z, z ∈ SGN → ∀ w, w ∈ SGN → sgC z = sgC w → z = w := by decide
  exact y a ha b hb h
theorem tkC_el {s v : Int32} {q : TK} (h : tkC s v q) (ok : tkOK q) : (q.1 = 0 ∧ s = 0) ∨ (q.1 = 1 ∧ s = 3 ∧ v = nI (cw q.2.1)) ∨ (q.1 = 2 ∧ s = 2 ∧ v = nI q.2.1) ∨ (q.1 = 3 ∧ s = nI (sgC q.2.1)) ∨ (q.1 = 4 ∧ (s = 1 ∨ (s = 3 ∧ v = -1))) := by
  obtain ⟨a, b, c, d⟩ := q
  unfold tkC at h
  rcases tk_five ok.1 with e | e | e | e | e
  · have e : a = 0 := e
    subst e
    exact Or.inl ⟨rfl, h⟩
  · have e : a = 1 := e
    subst e
    exact Or.inr (Or.inl ⟨rfl, h⟩)
  · have e : a = 2 := e
    subst e
    exact Or.inr (Or.inr (Or.inl ⟨rfl, h⟩))
  · have e : a = 3 := e
    subst e
    exact Or.inr (Or.inr (Or.inr (Or.inl ⟨rfl, h⟩)))
  · have e : a = 4 := e
    subst e
    exact Or.inr (Or.inr (Or.inr (Or.inr ⟨rfl, h⟩)))
theorem tkC_end {s v : Int32} {q : TK} (h : tkC s v q) (ok : tkOK q) : s = 0 ↔ q.1 = 0 := by
  rcases tkC_el h ok with ⟨e, z⟩ | ⟨e, z, _⟩ | ⟨e, z, _⟩ | ⟨e, z⟩ | ⟨e, z | ⟨z, _⟩⟩
  · exact ⟨fun _ => e, fun _ => z⟩
  · rw [z, e]; decide
  · rw [z, e]; decide
  · have y := sgC_ge (ok.2.2.2.1 e)
    rw [z, e]
    exact ⟨fun w => absurd w (nI_ne0 (by omega) (by omega)), fun w => by cases w⟩
  · rw [z, e]; decide
  · rw [z, e]; decide
theorem tkC_num {s v : Int32} {q : TK} (h : tkC s v q) (ok : tkOK q) : s = 2 ↔ q.1 = 2 := by
  rcases tkC_el h ok with ⟨e, z⟩ | ⟨e, z, _⟩ | ⟨e, z, _⟩ | ⟨e, z⟩ | ⟨e, z | ⟨z, _⟩⟩
  · rw [z, e]; decide
  · rw [z, e]; decide
  · exact ⟨fun _ => e, fun _ => z⟩
  · have y := sgC_ge (ok.2.2.2.1 e)
    rw [z, e]
    refine ⟨fun w => ?_, fun w => by cases w⟩
    have w : nI (sgC q.2.1) = nI 2 := w
    have := (nI_eq (by omega) (by omega)).mp w
    omega
  · rw [z, e]; decide
  · rw [z, e]; decide
theorem tkC_val {s v : Int32} {q : TK} (h : tkC s v q) (ok : tkOK q) (e : q.1 = 2) : v = nI q.2.1 := by
  rcases tkC_el h ok with ⟨z, _⟩ | ⟨z, _⟩ | ⟨_, _, z⟩ | ⟨z, _⟩ | ⟨z, _⟩
  · omega
  · omega
  · exact z
  · omega
  · omega
theorem tkC_wd {s v : Int32} {q : TK} (h : tkC s v q) (ok : tkOK q) {w : Nat} (hw : w < 32) : (s = 3 ∧ v = nI (cw w)) ↔ isWd q w = true := by
  rcases tkC_el h ok with ⟨e, z⟩ | ⟨e, z, y⟩ | ⟨e, z, _⟩ | ⟨e, z⟩ | ⟨e, z | ⟨z, y⟩⟩
  · exact ⟨fun g => absurd (z.symm.trans g.1) (by decide), fun g => by have := (wd_1 g).1; omega⟩
  · constructor
    · rintro ⟨_, g⟩
      rw [y] at g
      have h1 := cw_lt (k := q.2.1)
      have h2 := cw_lt (k := w)
      exact wd_of e (cw_inj (ok.2.1 e) hw ((nI_eq (by omega) (by omega)).mp g))
    · intro g
      exact ⟨z, by rw [y, (wd_1 g).2]⟩
  · exact ⟨fun g => absurd (z.symm.trans g.1) (by decide), fun g => by have := (wd_1 g).1; omega⟩
  · refine ⟨fun g => ?_, fun g => by have := (wd_1 g).1; omega⟩
    have y := sgC_ge (ok.2.2.2.1 e)
    have w : nI (sgC q.2.1) = nI 3 := z.symm.trans g.1
    have := (nI_eq (by omega) (by omega)).mp w
    omega
  · exact ⟨fun g => absurd (z.symm.trans g.1) (by decide), fun g => by have := (wd_1 g).1; omega⟩
  · refine ⟨fun g => ?_, fun g => by have := (wd_1 g).1; omega⟩
    exfalso
    have g2 := g.2
    rw [y] at g2
    have h2 := cw_lt (k := w)
    have := nI_pos' (n := cw w) (by omega)
    rw [← g2] at this
    exact absurd this (by decide)
theorem tkC_sg {s v : Int32} {q : TK} (h : tkC s v q) (ok : tkOK q) {w : Nat} (hw : w ∈ SGN) : s = nI (sgC w) ↔ isSg q w = true := by
  have gw := sgC_ge hw
  have no : ∀ m : Nat, m < 35 → ¬ nI m = nI (sgC w) := fun m hm z => by
    have := (nI_eq (by omega) (by omega)).mp z
    omega
  rcases tkC_el h ok with ⟨e, z⟩ | ⟨e, z, y⟩ | ⟨e, z, _⟩ | ⟨e, z⟩ | ⟨e, z | ⟨z, y⟩⟩
  · exact ⟨fun g => absurd (z.symm.trans g) (no 0 (by omega)), fun g => by have := (sg_1 g).1; omega⟩
  · exact ⟨fun g => absurd (z.symm.trans g) (no 3 (by omega)), fun g => by have := (sg_1 g).1; omega⟩
  · exact ⟨fun g => absurd (z.symm.trans g) (no 2 (by omega)), fun g => by have := (sg_1 g).1; omega⟩
  · have gq := sgC_ge (ok.2.2.2.1 e)
    constructor
    · intro g
      rw [z] at g
      exact sg_of e (sgC_inj (ok.2.2.2.1 e) hw ((nI_eq (by omega) (by omega)).mp g))
    · intro g
      rw [z, (sg_1 g).2]
  · exact ⟨fun g => absurd (z.symm.trans g) (no 1 (by omega)), fun g => by have := (sg_1 g).1; omega⟩
  · exact ⟨fun g => absurd (z.symm.trans g) (no 3 (by omega)), fun g => by have := (sg_1 g).1; omega⟩
-- where a text is written
def TSP (ta : Nat) : Prop := ta = 18 ∨ ta = 47 ∨ ta = 52 ∨ ta = 57 ∨ ta = 62
def FE (ta : Nat) (I I' : XI) : Prop := (∀ p, p ≠ 35 → p ≠ ta → p ≠ ta + 1 → I' p = I p) ∧ (∀ k, k ≠ 3 → k ≠ 4 → k ≠ 5 → k ≠ 7 → k ≠ 8 → I' 35 k = I 35 k) ∧ ∀ k, k ≠ 1 → I' ta k = I ta k
def FS (ta : Nat) (I I' : XI) : Prop := FE ta I I' ∧ I' 35 7 = I 35 7 ∧ I' 35 8 = I 35 8
theorem FE.rf {ta : Nat} {I : XI} : FE ta I I := ⟨fun _ _ _ _ => rfl, fun _ _ _ _ _ _ => rfl, fun _ _ => rfl⟩
theorem FE.tr {ta : Nat} {I I' I'' : XI} (h : FE ta I I') (g : FE ta I' I'') : FE ta I I'' := ⟨fun p a b c => (g.1 p a b c).trans (h.1 p a b c), fun k a b c d e => (g.2.1 k a b c d e).trans (h.2.1 k a b c d e), fun k a => (g.2.2 k a).trans (h.2.2 k a)⟩
theorem FS.rf {ta : Nat} {I : XI} : FS ta I I := ⟨FE.rf, rfl, rfl⟩
theorem FS.tr {ta : Nat} {I I' I'' : XI} (h : FS ta I I') (g : FS ta I' I'') : FS ta I I'' := ⟨h.1.tr g.1, g.2.1.trans h.2.1, g.2.2.trans h.2.2⟩
/-- the tokens stand in the rows -/
def EV (I : XI) (tk : Nat → TK) (N : Nat) : Prop := I 30 5 = nI N ∧ ∀ j, j < N → tkC (I 32 j) (I 33 j) (tk j) ∧ I 34 j = nI (tk j).2.2.1
/-- the tokens themselves -/
def TKN (tk : Nat → TK) (N : Nat) : Prop := 1 ≤ N ∧ N ≤ 301 ∧ (tk (N - 1)).1 = 0 ∧ (∀ j, j + 1 < N → (tk j).1 ≠ 0) ∧ ∀ j, tkOK (tk j)
def ATt (ta : Nat) (I : XI) (j c : Nat) : Prop := I 35 3 = nI j ∧ I 35 4 = I 32 j ∧ I 35 5 = I 33 j ∧ I ta 1 = nI c
theorem TSP.ne {ta : Nat} (h : TSP ta) : ta ≠ 35 ∧ ta ≠ 30 ∧ ta ≠ 32 ∧ ta ≠ 33 ∧ ta ≠ 34 ∧ ta + 1 ≠ 35 ∧ ta + 1 ≠ 30 ∧ ta + 1 ≠ 32 ∧ ta + 1 ≠ 33 ∧ ta + 1 ≠ 34 ∧ ta < 63 := by
  unfold TSP at h
  omega
theorem FE.row {ta : Nat} {I I' : XI} (ht : TSP ta) (h : FE ta I I') : I' 30 = I 30 ∧ I' 32 = I 32 ∧ I' 33 = I 33 ∧ I' 34 = I 34 := by
  have n := ht.ne
  exact ⟨h.1 30 (by decide) (by omega) (by omega), h.1 32 (by decide) (by omega) (by omega), h.1 33 (by decide) (by omega) (by omega), h.1 34 (by decide) (by omega) (by omega)⟩
theorem EV.fe {ta : Nat} {I I' : XI} {tk : Nat → TK} {N : Nat} (ht : TSP ta) (h : EV I tk N) (f : FE ta I I') : EV I' tk N := by
  obtain ⟨a, b, c, d⟩ := f.row ht
  unfold EV
  rw [a, b, c, d]
  exact h
theorem ATt.tk {ta : Nat} {I : XI} {j c N : Nat} {tk : Nat → TK} (h : ATt ta I j c) (e : EV I tk N) (hj : j < N) : tkC (I 35 4) (I 35 5) (tk j) := by
  rw [h.2.1, h.2.2.1]
  exact (e.2 j hj).1
theorem TKN.nx {tk : Nat → TK} {N j : Nat} (h : TKN tk N) (hj : j < N) (h0 : (tk j).1 ≠ 0) : j + 1 < N := by
  rcases Nat.lt_or_ge (j + 1) N with z | z
  · exact z
  · exfalso
    rw [show j = N - 1 by omega] at h0
    exact h0 h.2.2.1
def avI (I : XI) (i : Nat) : XI := uI (uI (uI I 35 3 (nI i)) 35 4 (I 32 i)) 35 5 (I 33 i)
theorem avI_fs {ta : Nat} {I : XI} {i : Nat} (ht : TSP ta) : FS ta I (avI I i) := by
  have n := ht.ne
  have e : ∀ k, k ≠ 3 → k ≠ 4 → k ≠ 5 → avI I i 35 k = I 35 k := fun k a b c => by
    unfold avI
    rw [uI_atC, if_neg c, uI_atC, if_neg b, uI_atC, if_neg a]
  refine ⟨⟨fun p a _ _ => ?_, fun k a b c _ _ => e k a b c, fun k _ => ?_⟩, e 7 (by decide) (by decide) (by decide), e 8 (by decide) (by decide) (by decide)⟩
  · unfold avI
    rw [uI_ne a, uI_ne a, uI_ne a]
  · unfold avI
    rw [uI_ne n.1, uI_ne n.1, uI_ne n.1]
theorem avI_at {ta : Nat} {I : XI} {i c : Nat} (ht : TSP ta) (h : I ta 1 = nI c) : ATt ta (avI I i) i c := by
  have n := ht.ne
  refine ⟨rfl, rfl, rfl, ?_⟩
  unfold avI
  rw [uI_ne n.1, uI_ne n.1, uI_ne n.1]
  exact h
def FI (I : XI) (f j : Nat) : XI := uI (uI I 35 7 (nI f)) 35 8 (I 34 j)
theorem FI_fe {ta : Nat} {I : XI} {f j : Nat} (ht : TSP ta) : FE ta I (FI I f j) := by
  have n := ht.ne
  refine ⟨fun p a _ _ => ?_, fun k _ _ _ a b => ?_, fun k _ => ?_⟩
  · unfold FI
    rw [uI_ne a, uI_ne a]
  · unfold FI
    rw [uI_atC, if_neg b, uI_atC, if_neg a]
  · unfold FI
    rw [uI_ne n.1, uI_ne n.1]
/-- not so: the fault, and the machine ends so too -/
def NOR (ta : Nat) (tk : Nat → TK) (I : XI) (s : MS) (I' : XI) : Prop := ∃ f p c', FE ta I I' ∧ I' 35 7 = nI f ∧ I' 35 8 = nI p ∧ c' ≤ 300 ∧ I' ta 1 = nI c' ∧ Ends tk s (f, p) ∧ 1 ≤ f
theorem NOR.pre {ta : Nat} {tk : Nat → TK} {I I1 I' : XI} {s s1 : MS} (f : FE ta I I1) (r : Rch tk s s1) (h : NOR ta tk I1 s1 I') : NOR ta tk I s I' := by
  obtain ⟨a, p, c, h1, h2⟩ := h
  exact ⟨a, p, c, f.tr h1, h2.1, h2.2.1, h2.2.2.1, h2.2.2.2.1, r.ends h2.2.2.2.2.1, h2.2.2.2.2.2⟩
theorem NOR.fi {ta : Nat} {tk : Nat → TK} {I : XI} {s : MS} {f j c N : Nat} (ht : TSP ta) (ev : EV I tk N) (hj : j < N) (hc : c ≤ 300) (h1 : I ta 1 = nI c) (h : Ends tk s (ft tk f j)) (hf : 1 ≤ f := by decide) : NOR ta tk I s (FI I f j) := by
  have n := ht.ne
  refine ⟨f, (tk j).2.2.1, c, FI_fe ht, rfl, (ev.2 j hj).2, hc, ?_, h, hf⟩
  unfold FI
  rw [uI_ne n.1, uI_ne n.1]
  exact h1
section LEAF
variable (l : Launch) (ru_ ta : Nat) (rs : List XO) (I : XI) (J : XJ) (Rp : XR)
set_option maxRecDepth 100000 in
theorem rd_advance (n : Nat) (hn : 1 ≤ n) (i N : Nat) (hN : N ≤ 301) (hi : i < N) (e : I 35 3 + 1 = nI i) (eN : I 30 5 = nI N) (hR : Rp none (shH ru_ ta rs) (avI I i) J) : xm l n 0 0 mX5_advance [.ref 35] (shH ru_ ta rs) I J Rp := by
  obtain ⟨n, rfl⟩ : ∃ n', n = n' + 1 := ⟨n - 1, by omega⟩
  have hv : vp_in (I 35 3 + 1) 301 := by rw [e]; exact vp_in_nI (by omega) (by omega)
  refine xm_ofK 0 (X := xxX5) (t := tX5_advance) (stop := []) (ini := false) xx5 pl5 rfl kX5_advance (fun h => by cases h) (Nat.le_of_ble_eq_true rfl) (fun K hK => ?_)
  refine And.intro (fun h => absurd (show I 35 3 + 1 < 0 from h) (by rw [e]; exact nI_pos (by omega))) (fun _ => ?_)
  refine And.intro (fun h => absurd (show I 30 5 ≤ I 35 3 + 1 from h) (by rw [e, eN]; exact nI_ge hi (by omega))) (fun _ => ?_)
  refine And.intro (fun h => absurd (show nI 301 ≤ I 35 3 + 1 from h) (by rw [e]; exact nI_ge (by omega) (by omega))) (fun _ => ?_)
  refine And.intro (fun h => absurd h (by decide)) (fun _ => And.intro hv ?_)
  refine And.intro (fun h => absurd h (by decide)) (fun _ => And.intro hv ?_)
  show Rp none (shH ru_ ta rs) (uI (uI (uI I 35 3 (I 35 3 + 1)) 35 4 (I 32 (I 35 3 + 1).toNatClampNeg)) 35 5 (I 33 (I 35 3 + 1).toNatClampNeg)) J
  rw [e, nI_clamp (by omega)]
  exact hR
set_option maxRecDepth 100000 in
theorem rd_fail (n : Nat) (hn : 1 ≤ n) (f j : Nat) (hj : j < 301) (e : I 35 3 = nI j) (hR : Rp (some (.int 0)) (shH ru_ ta rs) (FI I f j) J) : xm l n 0 0 mX5_fail [.ref 35, .int (nI f)] (shH ru_ ta rs) I J Rp := by
  obtain ⟨n, rfl⟩ : ∃ n', n = n' + 1 := ⟨n - 1, by omega⟩
  have hv : vp_in (I 35 3) 301 := by rw [e]; exact vp_in_nI (by omega) (by omega)
  refine xm_ofK 0 (X := xxX5) (t := tX5_fail) (stop := []) (ini := false) xx5 pl5 rfl kX5_fail (fun h => by cases h) (Nat.le_of_ble_eq_true rfl) (fun K hK => ?_)
  refine And.intro (fun h => absurd (show I 35 3 < 0 from h) (by rw [e]; exact nI_pos (by omega))) (fun _ => ?_)
  refine And.intro (fun h => absurd (show nI 301 ≤ I 35 3 from h) (by rw [e]; exact nI_ge (by omega) (by omega))) (fun _ => And.intro hv ?_)
  refine And.intro (Or.inl rfl) ?_
  show Rp (some (.int 0)) (shH ru_ ta rs) (uI (uI I 35 7 (nI f)) 35 8 (I 34 (I 35 3).toNatClampNeg)) J
  rw [e, nI_clamp (by omega)]
  exact hR
set_option maxRecDepth 100000 in
theorem rd_isWord (n : Nat) (hn : 1 ≤ n) (w : Int32) (h1 : I 35 4 = 3 ∧ I 35 5 = w → Rp (some (.int 1)) (shH ru_ ta rs) I J) (h0 : ¬ (I 35 4 = 3 ∧ I 35 5 = w) → Rp (some (.int 0)) (shH ru_ ta rs) I J) : xm l n 0 0 mX5_isWord [.ref 35, .int w] (shH ru_ ta rs) I J Rp := by
  obtain ⟨n, rfl⟩ : ∃ n', n = n' + 1 := ⟨n - 1, by omega⟩
  refine xm_ofK 0 (X := xxX5) (t := tX5_isWord) (stop := []) (ini := false) xx5 pl5 rfl kX5_isWord (fun h => by cases h) (Nat.le_of_ble_eq_true rfl) (fun K hK => ?_)
  refine And.intro (fun h => And.intro (Or.inl rfl) (h0 fun z => h z.1)) (fun h => ?_)
  exact And.intro (fun g => And.intro (Or.inl rfl) (h0 fun z => g z.2)) (fun g => And.intro (Or.inr rfl) (h1 ⟨h, g⟩))
set_option maxRecDepth 100000 in
theorem rd_sign (n : Nat) (hn : 2 ≤ n) (s : Int32) (i N : Nat) (hN : N ≤ 301) (hi : i < N) (e : I 35 3 = nI i) (eN : I 30 5 = nI N) (h1 : I 35 4 = s → i + 1 < N) (hS : I 35 4 = s → Rp (some (.int 1)) (shH ru_ ta rs) (avI I (i + 1)) J) (hF : ¬ I 35 4 = s → Rp (some (.int 0)) (shH ru_ ta rs) (FI I 1 i) J) : xm l n 0 0 mX5_sign [.ref 35, .int s] (shH ru_ ta rs) I J Rp := by
  obtain ⟨n, rfl⟩ : ∃ n', n = n' + 1 := ⟨n - 1, by omega⟩
  refine xm_ofK 0 (X := xxX5) (t := tX5_sign) (stop := []) (ini := false) xx5 pl5 rfl kX5_sign (fun h => by cases h) (Nat.le_of_ble_eq_true rfl) (fun K hK => ?_)
  refine And.intro (fun h => ?_) (fun h => ?_)
  · refine rd_advance l ru_ ta rs I J _ n (by omega) (i + 1) N hN (h1 h) (by rw [e, nI_1]) eN ?_
    exact And.intro (Or.inr rfl) (hS h)
  · refine rd_fail l ru_ ta rs I J _ n (by omega) 1 i (by omega) e ?_
    exact And.intro (Or.inl rfl) (hF h)
set_option maxRecDepth 100000 in
theorem rd_word (n : Nat) (hn : 2 ≤ n) (w : Int32) (i N : Nat) (hN : N ≤ 301) (hi : i < N) (e : I 35 3 = nI i) (eN : I 30 5 = nI N) (h1 : I 35 4 = 3 ∧ I 35 5 = w → i + 1 < N) (hS : I 35 4 = 3 ∧ I 35 5 = w → Rp (some (.int 1)) (shH ru_ ta rs) (avI I (i + 1)) J) (hF : ¬ (I 35 4 = 3 ∧ I 35 5 = w) → Rp (some (.int 0)) (shH ru_ ta rs) (FI I 1 i) J) : xm l n 0 0 mX5_word [.ref 35, .int w] (shH ru_ ta rs) I J Rp := by
  obtain ⟨n, rfl⟩ : ∃ n', n = n' + 1 := ⟨n - 1, by omega⟩
  refine xm_ofK 0 (X := xxX5) (t := tX5_word) (stop := []) (ini := false) xx5 pl5 rfl kX5_word (fun h => by cases h) (Nat.le_of_ble_eq_true rfl) (fun K hK => ?_)
  refine rd_isWord l ru_ ta rs I J _ n (by omega) w (fun g => ?_) (fun g => ?_)
  · refine And.intro (fun _ => ?_) (fun h => absurd h (by decide))
    refine rd_advance l ru_ ta rs I J _ n (by omega) (i + 1) N hN (h1 g) (by rw [e, nI_1]) eN ?_
    exact And.intro (Or.inr rfl) (hS g)
  · refine And.intro (fun h => absurd rfl h) (fun _ => ?_)
    refine rd_fail l ru_ ta rs I J _ n (by omega) 1 i (by omega) e ?_
    exact And.intro (Or.inl rfl) (hF g)
set_option maxRecDepth 100000 in
theorem rd_number (n : Nat) (hn : 2 ≤ n) (lo hi : Int32) (i N : Nat) (hN : N ≤ 301) (hii : i < N) (e : I 35 3 = nI i) (eN : I 30 5 = nI N) (h1 : I 35 4 = 2 → i + 1 < N) (hS : I 35 4 = 2 → ¬ I 35 5 < lo → I 35 5 ≤ hi → Rp (some (.int 1)) (shH ru_ ta rs) (avI I (i + 1)) J) (hO : I 35 4 = 2 → I 35 5 < lo ∨ ¬ I 35 5 ≤ hi → Rp (some (.int 0)) (shH ru_ ta rs) (FI I 2 i) J) (hF : ¬ I 35 4 = 2 → Rp (some (.int 0)) (shH ru_ ta rs) (FI I 1 i) J) : xm l n 0 0 mX5_number [.ref 35, .int lo, .int hi] (shH ru_ ta rs) I J Rp := by
  obtain ⟨n, rfl⟩ : ∃ n', n = n' + 1 := ⟨n - 1, by omega⟩
  refine xm_ofK 0 (X := xxX5) (t := tX5_number) (stop := []) (ini := false) xx5 pl5 rfl kX5_number (fun h => by cases h) (Nat.le_of_ble_eq_true rfl) (fun K hK => ?_)
  refine And.intro (fun h => ?_) (fun h => ?_)
  · refine And.intro (fun g => ?_) (fun g => And.intro (fun g2 => ?_) (fun g2 => ?_))
    · refine rd_fail l ru_ ta rs I J _ n (by omega) 2 i (by omega) e ?_
      exact And.intro (Or.inl rfl) (hO h (Or.inl g))
    · refine rd_advance l ru_ ta rs I J _ n (by omega) (i + 1) N hN (h1 h) (by rw [e, nI_1]) eN ?_
      exact And.intro (Or.inr rfl) (hS h g g2)
    · refine rd_fail l ru_ ta rs I J _ n (by omega) 2 i (by omega) e ?_
      exact And.intro (Or.inl rfl) (hO h (Or.inr g2))
  · refine rd_fail l ru_ ta rs I J _ n (by omega) 1 i (by omega) e ?_
    exact And.intro (Or.inl rfl) (hF h)
/-- an order more, where there is room -/
def EM (ta : Nat) (I I' : XI) (c : Nat) (o v : Int32) : Prop := (∀ p, p ≠ ta → p ≠ ta + 1 → I' p = I p) ∧ (∀ k, k ≠ 1 → I' ta k = I ta k) ∧ I' ta 1 = nI (if c < 300 then c + 1 else c) ∧ (c < 300 → I' (ta + 1) = upd (I (ta + 1)) c (o * 10000 + v))
theorem EM.fs {ta : Nat} {I I' : XI} {c : Nat} {o v : Int32} (ht : TSP ta) (h : EM ta I I' c o v) : FS ta I I' := by
  have n := ht.ne
  have e : I' 35 = I 35 := h.1 35 (by omega) (by omega)
  exact ⟨⟨fun p _ b d => h.1 p b d, fun k _ _ _ _ _ => by rw [e], h.2.1⟩, by rw [e], by rw [e]⟩
theorem EM.at {ta : Nat} {I I' : XI} {c j : Nat} {o v : Int32} (ht : TSP ta) (h : EM ta I I' c o v) (a : ATt ta I j c) : ATt ta I' j (if c < 300 then c + 1 else c) := by
  have n := ht.ne
  have e : I' 35 = I 35 := h.1 35 (by omega) (by omega)
  have e2 : I' 32 = I 32 := h.1 32 (by omega) (by omega)
  have e3 : I' 33 = I 33 := h.1 33 (by omega) (by omega)
  unfold ATt
  rw [e, e2, e3]
  exact ⟨a.1, a.2.1, a.2.2.1, h.2.2.1⟩
theorem NOR.em {ta : Nat} {tk : Nat → TK} {I I1 : XI} {s : MS} (ht : TSP ta) (h : NOR ta tk I s I1) : ∃ c, c ≤ 300 ∧ I1 ta 1 = nI c ∧ ∀ (o v : Int32) (I' : XI), EM ta I1 I' c o v → NOR ta tk I s I' := by
  obtain ⟨f, p, c, h1, h2, h3, h4, h5, h6⟩ := h
  have n := ht.ne
  refine ⟨c, h4, h5, fun o v I' e => ⟨f, p, (if c < 300 then c + 1 else c), h1.tr (e.fs ht).1, by rw [(e.fs ht).2.1]; exact h2, by rw [(e.fs ht).2.2]; exact h3, ?_, e.2.2.1, h6⟩⟩
  split <;> omega
set_option maxRecDepth 100000 in
theorem rd_emit (ht : TSP ta) (n : Nat) (hn : 1 ≤ n) (c : Nat) (hc : c ≤ 300) (o v : Int32) (e : I ta 1 = nI c) (hR : ∀ I', EM ta I I' c o v → Rp none (shH ru_ ta rs) I' J) : xm l n 0 0 mX8_emit [.ref ta, .int o, .int v] (shH ru_ ta rs) I J Rp := by
  obtain ⟨n, rfl⟩ : ∃ n', n = n' + 1 := ⟨n - 1, by omega⟩
  have big : 300 ≤ c → EM ta I I c o v := fun z => ⟨fun _ _ _ => rfl, fun _ _ => rfl, by rw [if_neg (by omega)]; exact e, fun y => by omega⟩
  have small : c < 300 → EM ta I (uI (uI I (ta + 1) c (o * 10000 + v)) ta 1 (nI (c + 1))) c o v := fun z => by
    refine ⟨fun p a b => by rw [uI_ne a, uI_ne b], fun k hk => ?_, ?_, fun _ => ?_⟩
    · rw [uI_atC, if_neg hk, uI_ne (by omega)]
    · rw [uI_atC, if_pos rfl, if_pos z]
    · rw [uI_ne (by omega), uI_eq]
  have key : (c < 300 → vp_in (I ta 1) 300 ∧ Rp none (shH ru_ ta rs) (uI (uI I (ta + 1) (I ta 1).toNatClampNeg (o * 10000 + v)) ta 1 (I ta 1 + 1)) J) := fun z => by
    rw [e, nI_clamp (by omega), nI_1]
    exact ⟨vp_in_nI z (by omega), hR _ (small z)⟩
  have ge : ¬ nI 300 ≤ I ta 1 → c < 300 := fun z => by
    rcases Nat.lt_or_ge c 300 with y | y
    · exact y
    · exact absurd (by rw [e]; exact nI_le y (by omega)) z
  have le : nI 300 ≤ I ta 1 → 300 ≤ c := fun z => by
    rcases Nat.lt_or_ge c 300 with y | y
    · exact absurd z (by rw [e]; exact nI_ge y (by omega))
    · exact y
  unfold TSP at ht
  rcases ht with rfl | rfl | rfl | rfl | rfl
  · refine xm_ofK 0 (X := xxX8) (t := tX8_emit) (stop := []) (ini := false) xx8 pl8 rfl kX8_emit (fun h => by cases h) (Nat.le_of_ble_eq_true rfl) (fun K hK => ?_)
    exact And.intro (fun h => hR I (big (le h))) (fun h => And.intro (key (ge h)).1 (key (ge h)).2)
  · refine xm_ofK 0 (X := xxX8) (t := tX8_emit) (stop := []) (ini := false) xx8 pl8 rfl kX8_emit (fun h => by cases h) (Nat.le_of_ble_eq_true rfl) (fun K hK => ?_)
    exact And.intro (fun h => hR I (big (le h))) (fun h => And.intro (key (ge h)).1 (key (ge h)).2)
  · refine xm_ofK 0 (X := xxX8) (t := tX8_emit) (stop := []) (ini := false) xx8 pl8 rfl kX8_emit (fun h => by cases h) (Nat.le_of_ble_eq_true rfl) (fun K hK => ?_)
    exact And.intro (fun h => hR I (big (le h))) (fun h => And.intro (key (ge h)).1 (key (ge h)).2)
  · refine xm_ofK 0 (X := xxX8) (t := tX8_emit) (stop := []) (ini := false) xx8 pl8 rfl kX8_emit (fun h => by cases h) (Nat.le_of_ble_eq_true rfl) (fun K hK => ?_)
    exact And.intro (fun h => hR I (big (le h))) (fun h => And.intro (key (ge h)).1 (key (ge h)).2)
  · refine xm_ofK 0 (X := xxX8) (t := tX8_emit) (stop := []) (ini := false) xx8 pl8 rfl kX8_emit (fun h => by cases h) (Nat.le_of_ble_eq_true rfl) (fun K hK => ?_)
    exact And.intro (fun h => hR I (big (le h))) (fun h => And.intro (key (ge h)).1 (key (ge h)).2)
end LEAF
