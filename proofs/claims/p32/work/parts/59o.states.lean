-- ===== the reference reads a text: its states, exactly =====
abbrev tkB (I0 : XI) (T : Nat) : Nat → TK := tkS (I0 70) T
def WDS (I : XI) (ws : List Nat) : Prop := ∀ x, x < ws.length → I 84 x = nI (ws.getD x 0) ∧ ws.getD x 0 < 100
def XTm (I0 I : XI) (T k : Nat) (ws : List Nat) (j : Nat) : Prop := RTK I (tkB I0 T j) ∧ (I 67 31 = nI k ∧ k < 5) ∧ WDS I ws ∧ ∃ c, I 67 30 = nI c ∧ (c + 1 = ws.length ∧ ws.length ≤ 24) ∧ I 67 20 = -1
def XT4 (I0 I : XI) (T : Nat) (ws : List Nat) (j : Nat) : Prop := RTK I (tkB I0 T j) ∧ WDS I ws ∧ I 67 30 = nI ws.length ∧ ws.length ≤ 24 ∧ I 67 20 = -1
/-- the clauses so far: where their orders begin, their numbers -/
def OSa (I : XI) (A : Adr) (ws : List Nat) : Prop := A.length = ws.length ∧ ∀ i, i < ws.length → I 85 i = nI (A.getD i (0, [])).1 ∧ (0 < (A.getD i (0, [])).2.length → I 86 i = nI ((A.getD i (0, [])).2.getD 0 0)) ∧ (1 < (A.getD i (0, [])).2.length → I 87 i = nI ((A.getD i (0, [])).2.getD 1 0)) ∧ (2 < (A.getD i (0, [])).2.length → I 88 i = nI ((A.getD i (0, [])).2.getD 2 0))
theorem OSa.eq {I I' : XI} {A : Adr} {ws : List Nat} (h : OSa I A ws) (e : C5 I' = C5 I) : OSa I' A ws := by
  have e85 : I' 85 = I 85 := congrArg (fun x => x.2.1) e
  have e86 : I' 86 = I 86 := congrArg (fun x => x.2.2.1) e
  have e87 : I' 87 = I 87 := congrArg (fun x => x.2.2.2.1) e
  have e88 : I' 88 = I 88 := congrArg (fun x => x.2.2.2.2) e
  unfold OSa at h ⊢
  rw [e85, e86, e87, e88]
  exact h
def GX (I0 I : XI) (T : Nat) (s : MS) (X : Wdr) : Prop := match s.1 with
  | 0 => (∃ G, KS G = s.2.1 ∧ Sh0 G ∧ opN G ≤ 8 ∧ ST I0 I G T 0 310 ∧ I 67 28 = 0 ∧ OSf I G X.1) ∧ XTm I0 I T s.2.2.1 s.2.2.2.1 s.2.2.2.2 ∧ OSe I X.2.1 ∧ OSa I X.2.2 s.2.2.2.1
  | 1 => (∃ G, KS G = s.2.1 ∧ Sh1 G ∧ opN G ≤ 8 ∧ ST I0 I G T 0 310 ∧ I 67 28 = 1 ∧ OSf I G X.1) ∧ XTm I0 I T s.2.2.1 s.2.2.2.1 s.2.2.2.2 ∧ OSe I X.2.1 ∧ OSa I X.2.2 s.2.2.2.1
  | 2 => (∃ G, KS G = s.2.1 ∧ Sh1 G ∧ top78 G ∧ opN G ≤ 8 ∧ ST I0 I G T 1 310 ∧ I 67 28 = 2 ∧ OSf I G X.1) ∧ XTm I0 I T s.2.2.1 s.2.2.2.1 s.2.2.2.2 ∧ OSe I X.2.1 ∧ OSa I X.2.2 s.2.2.2.1
  | 3 => (∃ a, s.2.1 = [2] ∧ OPS 1 a ∧ ST I0 I [(2, a)] T 1 310 ∧ I 67 28 = 3 ∧ OSf I [(2, a)] X.1) ∧ XTm I0 I T s.2.2.1 s.2.2.2.1 s.2.2.2.2 ∧ OSe I X.2.1 ∧ OSa I X.2.2 s.2.2.2.1
  | _ => S4 I0 I T 310 ∧ XT4 I0 I T s.2.2.2.1 s.2.2.2.2 ∧ X.1 = [] ∧ OSe I X.2.1 ∧ OSa I X.2.2 s.2.2.2.1
def NXTe (I0 I I' : XI) (T : Nat) (s : MS) (X : Wdr) : Prop := (∃ f p, mstep (tkB I0 T) s = .inr (f, p) ∧ 1 ≤ f ∧ BAD I0 I' ∧ I' 67 19 = nI f ∧ I' 67 20 = nI p) ∨ ∃ s', mstep (tkB I0 T) s = .inl s' ∧ GX I0 I' T s' (xeff (tkB I0 T) s X) ∧ mu I' T < mu I T
theorem RTK.kq {I I' : XI} {q : TK} (h : KQ I I') (r : RTK I q) : RTK I' q := ⟨h.1.2.2.trans r.1, (congrArg Prod.fst h.2.1).trans r.2.1, by rw [h.1.1, h.1.2.1]; exact r.2.2⟩
theorem XTm.kq {I0 I I' : XI} {T k j : Nat} {ws : List Nat} (h : KQ I I') (x : XTm I0 I T k ws j) : XTm I0 I' T k ws j := by
  obtain ⟨x1, x2, x3, c, x4, x5, x6⟩ := x
  exact ⟨x1.kq h, ⟨h.2.2.2.1.trans x2.1, x2.2⟩, fun y hy => by rw [C5_84 h.2.2.2.2]; exact x3 y hy, c, h.2.2.1.trans x4, x5, (congrArg Prod.snd h.2.1).trans x6⟩
theorem tkB_pos (I0 : XI) (T j : Nat) : (tkB I0 T j).2.2.2 = pos (I0 70) T (j + 1) := rfl
theorem NRT.tk {I0 I I' : XI} {T j : Nat} (hT : T ≤ 300) (n : NRT I0 T I I') (r : RTK I (tkB I0 T j)) : RTK I' (tkB I0 T (j + 1)) := by
  have e := r.1
  rw [tkB_pos] at e
  have b := pos_le (I0 70) T (j + 1)
  exact n _ (by omega) e
theorem XTm.nk {I0 I I' : XI} {T k j : Nat} {ws : List Nat} (hT : T ≤ 300) (h : NK I0 T I I') (x : XTm I0 I T k ws j) : XTm I0 I' T k ws (j + 1) := by
  obtain ⟨x1, x2, x3, c, x4, x5, x6⟩ := x
  exact ⟨h.2.tk hT x1, ⟨h.1.2.1.trans x2.1, x2.2⟩, fun y hy => by rw [C5_84 h.1.2.2]; exact x3 y hy, c, (congrArg Prod.fst h.1.1).trans x4, x5, (congrArg Prod.snd h.1.1).trans x6⟩
theorem RTK.st {I : XI} {v : Int32} {q : TK} (r : RTK I q) : RTK (uI I 67 28 v) q := by
  obtain ⟨a, b, c⟩ := r
  exact ⟨a, b, c⟩
theorem XTm.st {I0 I : XI} {T k j : Nat} {ws : List Nat} {v : Int32} (x : XTm I0 I T k ws j) : XTm I0 (uI I 67 28 v) T k ws j := by
  obtain ⟨x1, x2, x3, x4⟩ := x
  exact ⟨x1.st, x2, x3, x4⟩
-- what a token of the reference is
theorem tkR_el {s v : Int32} {q : TK} (h : tkR s v q) (ok : tkOK q) : (q.1 = 0 ∧ s = 0) ∨ (q.1 = 1 ∧ s = 1 ∧ v = nI q.2.1) ∨ (q.1 = 2 ∧ s = 2 ∧ ((q.2.1 < 10000 ∧ v = nI q.2.1) ∨ (q.2.1 = 10000 ∧ nI 10000 ≤ v))) ∨ (q.1 = 3 ∧ s = 3 ∧ v = nI q.2.1) ∨ (q.1 = 4 ∧ (s = 4 ∨ (s = 3 ∧ v = 44))) := by
  obtain ⟨a, b, c, d⟩ := q
  unfold tkR at h
  rcases tk_five ok.1 with e | e | e | e | e
  · have e : a = 0 := e
    subst e
    exact Or.inl ⟨rfl, h⟩
  · have e : a = 1 := e
    subst e
    exact Or.inr (Or.inl ⟨rfl, h⟩)
  · have e : a = 2 := e
    subst e
    exact Or.inr (Or.inr (Or.inl ⟨rfl, h⟩))
  · have e : a = 3 := e
    subst e
    exact Or.inr (Or.inr (Or.inr (Or.inl ⟨rfl, h⟩)))
  · have e : a = 4 := e
    subst e
    exact Or.inr (Or.inr (Or.inr (Or.inr ⟨rfl, h⟩)))
theorem tkR_s {s v : Int32} {q : TK} (h : tkR s v q) (ok : tkOK q) : (s = 0 ↔ q.1 = 0) ∧ (s = 1 ↔ q.1 = 1) ∧ (s = 2 ↔ q.1 = 2) ∧ (q.1 = 3 → s = 3) := by
  rcases tkR_el h ok with ⟨e, z⟩ | ⟨e, z, _⟩ | ⟨e, z, _⟩ | ⟨e, z, _⟩ | ⟨e, z | ⟨z, _⟩⟩
  · rw [z, e]; decide
  · rw [z, e]; decide
  · rw [z, e]; decide
  · rw [z, e]; decide
  · rw [z, e]; decide
  · rw [z, e]; decide
theorem SGN_b {v : Nat} (h : v ∈ SGN) : v ≤ 301 ∧ v ≠ 44 := by
  have y : ∀ z, z ∈ SGN → z ≤ 301 ∧ z ≠ 44 := by decide
  exact y v h
theorem tkR_wd {s v : Int32} {q : TK} (h : tkR s v q) (ok : tkOK q) {w : Nat} (hw : w < 32) : (s = 1 ∧ v = nI w) ↔ isWd q w = true := by
  have t := tkR_s h ok
  constructor
  · rintro ⟨a, b⟩
    have e := t.2.1.mp a
    rcases tkR_el h ok with ⟨z, _⟩ | ⟨_, _, y⟩ | ⟨z, _⟩ | ⟨z, _⟩ | ⟨z, _⟩
    · omega
    · rw [y] at b
      exact wd_of e ((nI_eq (by have := ok.2.1 e; omega) (by omega)).mp b)
    · omega
    · omega
    · omega
  · intro g
    have e := wd_1 g
    rcases tkR_el h ok with ⟨z, _⟩ | ⟨_, x, y⟩ | ⟨z, _⟩ | ⟨z, _⟩ | ⟨z, _⟩
    · omega
    · exact ⟨x, by rw [y, e.2]⟩
    · omega
    · omega
    · omega
theorem tkR_sg {s v : Int32} {q : TK} (h : tkR s v q) (ok : tkOK q) {w : Nat} (hw : w ∈ SGN) : (s = 3 ∧ v = nI w) ↔ isSg q w = true := by
  have bw := SGN_b hw
  constructor
  · rintro ⟨a, b⟩
    rcases tkR_el h ok with ⟨_, z⟩ | ⟨_, z, _⟩ | ⟨_, z, _⟩ | ⟨e, _, y⟩ | ⟨_, z | ⟨_, y⟩⟩
    · exact absurd (z.symm.trans a) (by decide)
    · exact absurd (z.symm.trans a) (by decide)
    · exact absurd (z.symm.trans a) (by decide)
    · rw [y] at b
      have bq := SGN_b (ok.2.2.2.1 e)
      exact sg_of e ((nI_eq (by omega) (by omega)).mp b)
    · exact absurd (z.symm.trans a) (by decide)
    · rw [y] at b
      exact absurd ((nI_eq (a := 44) (b := w) (by omega) (by omega)).mp b).symm bw.2
  · intro g
    have e := sg_1 g
    rcases tkR_el h ok with ⟨z, _⟩ | ⟨z, _⟩ | ⟨z, _⟩ | ⟨_, x, y⟩ | ⟨z, _⟩
    · omega
    · omega
    · omega
    · exact ⟨x, by rw [y, e.2]⟩
    · omega
theorem tkR_rg {s v : Int32} {q : TK} (h : tkR s v q) (ok : tkOK q) (e : q.1 = 2) {lo hi : Nat} (h1 : lo < 10000) (h2 : hi < 10000) : (nI lo ≤ v ∧ v ≤ nI hi) ↔ (lo ≤ q.2.1 ∧ q.2.1 ≤ hi) := by
  rcases tkR_el h ok with ⟨z, _⟩ | ⟨z, _⟩ | ⟨_, _, ⟨a, b⟩ | ⟨a, b⟩⟩ | ⟨z, _⟩ | ⟨z, _⟩
  · omega
  · omega
  · rw [b, nI_leI (by omega) (by omega), nI_leI (by omega) (by omega)]
  · constructor
    · rintro ⟨_, y⟩
      have := Int32.le_trans b y
      rw [nI_leI (by omega) (by omega)] at this
      omega
    · rintro ⟨_, y⟩
      omega
  · omega
  · omega
theorem tkB_ok {I0 : XI} {T : Nat} (hT : T ≤ 300) (j : Nat) : tkOK (tkB I0 T j) := tkS_ok hT j
/-- a fault, told at the token -/
theorem fer_no {I0 I Ib I' : XI} {T f j : Nat} {s : MS} {X : Wdr} (tf : TF I0 I) (hw : I 67 19 = 0) (r : RTK I (tkB I0 T j)) (e : FER I I' (nI f)) (hf : 1 ≤ f) (hm : mstep (tkB I0 T) s = .inr (ft (tkB I0 T) f j)) : NXTe I0 Ib I' T s X := by
  have y := e.2.1 hw
  exact Or.inl ⟨f, (tkB I0 T j).2.2.1, hm, hf, e.1.bad tf hw, y.1, by rw [y.2]; exact r.2.1⟩
set_option maxRecDepth 100000 in
set_option maxHeartbeats 1000000 in
theorem us_asks (l : Launch) (T : Nat) (hT : T ≤ 300) (ru ta : Nat) (rs : List XO) (I0 : XI) (hs : shO CF (shH ru ta rs)) (hi : ivO CF [] I0) (hq : QQ I0) (d : Nat) (I : XI) (J : XJ) (Rp : XR) (K : List Nat) (k : Nat) (ws : List Nat) (j : Nat) (X : Wdr) (h : GX I0 I T (0, K, k, ws, j) X) (hR : ∀ (I' : XI) (J' : XJ), NXTe I0 I I' T (0, K, k, ws, j) X → Rp none (shH ru ta rs) I' J') : xm l (d + 6) 0 0 mX12_asks [.ref 67] (shH ru ta rs) I J Rp := by
  obtain ⟨⟨G, hK, h0, hop, h, hst, of⟩, hx, oe, oa⟩ := h
  have oa : OSa I X.2.2 ws := oa
  have hK : KS G = K := hK
  subst hK
  have hx : XTm I0 I T k ws j := hx
  have hn := Sh0_n h0
  have r := hx.1
  have hwd := tkR_wd r.2.2 (tkB_ok hT j) (w := 21) (by omega)
  refine xm_ofK 0 (X := xxX12) (t := tX12_asks) (stop := []) (ini := false) xx12 pl12 rfl kX12_asks (fun h => by cases h) (Nat.le_of_ble_eq_true rfl) (fun K hK => ?_)
  refine tx_isWord l (d + 4) 21 ru ta rs I J _ (fun g1 g2 => ?_) (fun ng => ?_)
  · have z := hwd.mp ⟨g1, g2⟩
    refine And.intro (fun h => absurd h (by decide)) (fun _ => ?_)
    refine us_opensSign l T hT ru ta rs I0 hs hi hq d G 310 (by omega) (by omega) hop 3 (Or.inl rfl) I J _ h (by rw [g1]; decide) (fun I' e h8 => ?_) (fun I' J' s1 p1 e1 r1 nk ot => ?_)
    · exact hR I' J (fer_no h.1 h.2.1 r e (by decide) (s0_deep z (by rw [opK_S]; omega)))
    · exact hR I' J' (Or.inr ⟨_, s0_not z (by rw [opK_S]; omega), ⟨⟨(3, []) :: G, rfl, Or.inr ⟨rfl, rfl, h0⟩, by simp [opN]; omega, s1, by rw [e1]; exact hst, ⟨⟨rfl, fun y hy => by cases hy⟩, fun z => by omega, fun z => by omega, (ot _ _ of oe).1⟩⟩, hx.nk hT nk, (ot _ _ of oe).2, oa.eq nk.1.2.2⟩, mu_lt r1⟩)
  · refine And.intro (fun _ => ?_) (fun h => absurd rfl h)
    obtain ⟨tf, hw, at_, n, w, o, c, op, e1, e2, e3, e4, e5, e6, e7, c1, c2, c3, c4, c5, c6, c7⟩ := h
    have hl := Rep_len c1
    refine tx_opensFrame l (d + 4) n (by omega) (nI 4) ru ta rs I J _ e3 ?_
    have nz : isWd (tkB I0 T j) 21 = false := bF Iff.rfl (fun y => ng (hwd.mpr y))
    have hx2 : XTm I0 (uI (ofI I n (nI 4)) 67 28 1) T k ws j := hx.kq ⟨⟨rfl, rfl, rfl⟩, rfl, rfl, rfl, rfl⟩
    refine hR (uI (ofI I n (nI 4)) 67 28 1) J (Or.inr ⟨_, s0_go nz, ⟨⟨(4, []) :: G, rfl, Or.inr (Or.inl ⟨Or.inl rfl, trivial, h0⟩), by simpa [opN] using hop, ?_, rfl, ⟨⟨rfl, fun y hy => by cases hy⟩, fun z => by omega, fun z => by omega, of.eq rfl rfl⟩⟩, hx2, oe.eq rfl rfl rfl, oa.eq rfl⟩, ?_⟩)
    · refine ⟨((tf.u (p := 79) rfl (fun z => by cases z)).u (p := 67) rfl (fun _ => by omega)).u (p := 67) rfl (fun _ => by omega), hw, at_, n + 1, w, o, c, op, e1, e2, rfl, e4, e5, e6, e7, ⟨⟨n, w, rfl, pk_us, fun z => by omega, rfl, Rep_up c1 (fun i hi => pk_un (by omega)) (fun _ _ => rfl) (fun _ _ => ⟨rfl, rfl⟩)⟩, by simpa [opN] using c2, c3, ?_, ?_, c6, c7⟩⟩
      · have : wtN ((4, []) :: G) = wtN G := by simp [wtN]
        show o + w + wtN ((4, []) :: G) + (if I 67 17 = 0 then 0 else 1) + (T - at_) ≤ 310
        omega
      · have : rN ((4, []) :: G) = rN G := by simp [rN]
        rw [this]
        exact c5
    · have r : rm (uI (ofI I n (nI 4)) 67 28 1) T = rm I T := rm_of rfl rfl
      unfold mu
      rw [r, if_neg (show ¬ (uI (ofI I n (nI 4)) 67 28 1 67 28 = 0 ∨ uI (ofI I n (nI 4)) 67 28 1 67 28 = 2) by
        show ¬ ((1 : Int32) = 0 ∨ (1 : Int32) = 2)
        decide), if_pos (Or.inl hst)]
      omega
-- ===== numbers of clauses =====
set_option maxRecDepth 100000 in
theorem ux_number (l : Launch) (T : Nat) (hT : T ≤ 300) (ru ta : Nat) (rs : List XO) (d : Nat) (lo hi_ : Int32) (I : XI) (J : XJ) (Rp : XR) (a : Nat) (e14 : I 67 14 = nI T) (e15 : I 67 15 = nI a) (ha : a ≤ T) (hA : ¬ 0 < I 67 19 → I 67 17 = 2 → lo ≤ I 67 18 ∧ I 67 18 ≤ hi_ → ∀ I', NXe I I' T a → Rp (some (.int (I 67 18))) (shH ru ta rs) I' J) (hB : ¬ 0 < I 67 19 → I 67 17 = 2 → ¬ (lo ≤ I 67 18 ∧ I 67 18 ≤ hi_) → ∀ I', FER I I' 2 → Rp (some (.int lo)) (shH ru ta rs) I' J) (hC : (0 < I 67 19 ∨ ¬ I 67 17 = 2) → ∀ I', FER I I' 1 → Rp (some (.int lo)) (shH ru ta rs) I' J) : xm l (d + 5) 0 0 mX12_number [.ref 67, .int lo, .int hi_] (shH ru ta rs) I J Rp := by
  refine xm_ofK 0 (X := xxX12) (t := tX12_number) (stop := []) (ini := false) xx12 pl12 rfl kX12_number (fun h => by cases h) (Nat.le_of_ble_eq_true rfl) (fun K hK => ?_)
  refine And.intro (fun h1 => ?_) (fun h1 => And.intro (fun h2 => ?_) (fun h2 => ?_))
  · exact ux_errs l (d + 3) 1 (by decide) ru ta rs I J _ (fun I' e => hC (Or.inl h1) I' e)
  · refine tx_in l (d + 3) (I 67 18) lo hi_ _ _ _ _ (fun u1 u2 => ?_) (fun u => ?_)
    · refine And.intro (fun _ => ?_) (fun h => absurd h (by decide))
      exact ux_next l d T ru ta rs I J _ a hT e14 e15 ha (fun I' q => hA h1 h2 ⟨u1, u2⟩ I' q)
    · refine And.intro (fun h => absurd rfl h) (fun _ => ?_)
      exact ux_errs l (d + 3) 2 (by decide) ru ta rs I J _ (fun I' e => hB h1 h2 u I' e)
  · exact ux_errs l (d + 3) 1 (by decide) ru ta rs I J _ (fun I' e => hC (Or.inr h2) I' e)
set_option maxRecDepth 100000 in
set_option maxHeartbeats 1000000 in
theorem ux_mayName (l : Launch) (d n k : Nat) (hn : n ≤ 10) (hk : k < 5) (sh : List XO) (I : XI) (J : XJ) (Rp : XR) (h1 : myN n k = true → Rp (some (.int 1)) sh I J) (h0 : myN n k = false → Rp (some (.int 0)) sh I J) : xm l (d + 1) 0 0 mX12_mayName [.int (nI n), .int (nI k)] sh I J Rp := by
  have b1 : myN n k = true → ((1 : Int32) = 0 ∨ (1 : Int32) = 1) ∧ Rp (some (.int 1)) sh I J := fun z => ⟨Or.inr rfl, h1 z⟩
  have b0 : myN n k = false → ((0 : Int32) = 0 ∨ (0 : Int32) = 1) ∧ Rp (some (.int 0)) sh I J := fun z => ⟨Or.inl rfl, h0 z⟩
  have kk : ∀ i, i < 5 → nI k = nI i → k = i := fun i hi h => nI_small h (by omega) (by omega)
  have kn : ∀ i, i < 5 → ¬ nI k = nI i → k ≠ i := fun i hi h z => h (by rw [z])
  have en : ∀ i, i < 100 → nI n = nI i → n = i := fun i hi h => nI_small h (by omega) (by omega)
  refine xm_ofK 0 (X := xxX12) (t := tX12_mayName) (stop := []) (ini := false) xx12 pl12 rfl kX12_mayName (fun h => by cases h) (Nat.le_of_ble_eq_true rfl) (fun K hK => ?_)
  refine And.intro (fun h => ?_) (fun n0 => And.intro (fun h => ?_) (fun n1 => And.intro (fun h => ?_) (fun n2 => And.intro (fun h => ?_) (fun n3 => And.intro (fun h => ?_) (fun n4 => And.intro (fun h => ?_) (fun n5 => And.intro (fun h => ?_) (fun n6 => And.intro (fun h => ?_) (fun n7 => And.intro (fun h => ?_) (fun n8 => ?_)))))))))
  · have e := en 0 (by omega) h
    subst e
    exact b1 rfl
  · have e := en 1 (by omega) h
    subst e
    exact b1 rfl
  · have e := en 2 (by omega) h
    subst e
    exact And.intro (fun h => b1 (by rw [kk 0 (by omega) h]; rfl)) (fun m0 => And.intro (fun h => b1 (by rw [kk 1 (by omega) h]; rfl)) (fun m1 => And.intro (fun m4 => b0 (by
      show (Nat.beq k 0 || Nat.beq k 1 || Nat.beq k 4) = false
      rw [beqf (kn 0 (by omega) m0), beqf (kn 1 (by omega) m1), beqf (kn 4 (by omega) m4)]
      all_goals rfl)) (fun h => b1 (by rw [kk 4 (by omega) h]; rfl))))
  · have e := en 3 (by omega) h
    subst e
    exact And.intro (fun h => b1 (by rw [kk 0 (by omega) h]; rfl)) (fun m0 => And.intro (fun h => b1 (by rw [kk 1 (by omega) h]; rfl)) (fun m1 => And.intro (fun m4 => b0 (by
      show (Nat.beq k 0 || Nat.beq k 1 || Nat.beq k 4) = false
      rw [beqf (kn 0 (by omega) m0), beqf (kn 1 (by omega) m1), beqf (kn 4 (by omega) m4)]
      all_goals rfl)) (fun h => b1 (by rw [kk 4 (by omega) h]; rfl))))
  · have e := en 4 (by omega) h
    subst e
    exact And.intro (fun h => b1 (by rw [kk 0 (by omega) h]; rfl)) (fun m0 => And.intro (fun h => b1 (by rw [kk 3 (by omega) h]; rfl)) (fun m3 => And.intro (fun m4 => b0 (by
      show (Nat.beq k 0 || Nat.beq k 3 || Nat.beq k 4) = false
      rw [beqf (kn 0 (by omega) m0), beqf (kn 3 (by omega) m3), beqf (kn 4 (by omega) m4)]
      all_goals rfl)) (fun h => b1 (by rw [kk 4 (by omega) h]; rfl))))
  · have e := en 5 (by omega) h
    subst e
    exact And.intro (fun h => b1 (by rw [kk 0 (by omega) h]; rfl)) (fun m0 => And.intro (fun m1 => b0 (by
      show (Nat.beq k 0 || Nat.beq k 1) = false
      rw [beqf (kn 0 (by omega) m0), beqf (kn 1 (by omega) m1)]
      all_goals rfl)) (fun h => b1 (by rw [kk 1 (by omega) h]; rfl)))
  · have e := en 6 (by omega) h
    subst e
    exact And.intro (fun h => b1 (by rw [kk 2 (by omega) h]; rfl)) (fun m2 => And.intro (fun m3 => b0 (by
      show (Nat.beq k 2 || Nat.beq k 3) = false
      rw [beqf (kn 2 (by omega) m2), beqf (kn 3 (by omega) m3)]
      all_goals rfl)) (fun h => b1 (by rw [kk 3 (by omega) h]; rfl)))
  · have e := en 7 (by omega) h
    subst e
    exact And.intro (fun h => b1 (by rw [kk 2 (by omega) h]; rfl)) (fun m2 => And.intro (fun m3 => b0 (by
      show (Nat.beq k 2 || Nat.beq k 3) = false
      rw [beqf (kn 2 (by omega) m2), beqf (kn 3 (by omega) m3)]
      all_goals rfl)) (fun h => b1 (by rw [kk 3 (by omega) h]; rfl)))
  · have e := en 8 (by omega) h
    subst e
    exact And.intro (fun m2 => b0 (by
      show (Nat.beq k 2) = false
      rw [beqf (kn 2 (by omega) m2)]
      all_goals rfl)) (fun h => b1 (by rw [kk 2 (by omega) h]; rfl))
  · have e : n = 9 ∨ n = 10 := by
      have f : ∀ i, i < 9 → ¬ n = i := fun i hi z => by
        subst z
        have y : n = 0 ∨ n = 1 ∨ n = 2 ∨ n = 3 ∨ n = 4 ∨ n = 5 ∨ n = 6 ∨ n = 7 ∨ n = 8 := by omega
        rcases y with rfl | rfl | rfl | rfl | rfl | rfl | rfl | rfl | rfl
        · exact n0 rfl
        · exact n1 rfl
        · exact n2 rfl
        · exact n3 rfl
        · exact n4 rfl
        · exact n5 rfl
        · exact n6 rfl
        · exact n7 rfl
        · exact n8 rfl
      have f0 := f 0 (by omega)
      have f1 := f 1 (by omega)
      have f2 := f 2 (by omega)
      have f3 := f 3 (by omega)
      have f4 := f 4 (by omega)
      have f5 := f 5 (by omega)
      have f6 := f 6 (by omega)
      have f7 := f 7 (by omega)
      have f8 := f 8 (by omega)
      omega
    rcases e with rfl | rfl
    · exact And.intro (fun m4 => b0 (by
      show (Nat.beq k 4) = false
      rw [beqf (kn 4 (by omega) m4)]
      all_goals rfl)) (fun h => b1 (by rw [kk 4 (by omega) h]; rfl))
    · exact And.intro (fun m4 => b0 (by
      show (Nat.beq k 4) = false
      rw [beqf (kn 4 (by omega) m4)]
      all_goals rfl)) (fun h => b1 (by rw [kk 4 (by omega) h]; rfl))
set_option maxRecDepth 100000 in
set_option maxHeartbeats 1000000 in
theorem ux_nameNow (l : Launch) (d : Nat) (ru ta : Nat) (rs : List XO) (I : XI) (J : XJ) (Rp : XR) (q : TK) (hq : tkR (I 67 17) (I 67 18) q) (ok : tkOK q) (hR : Rp (some (.int (if q.1 = 1 then oI (nmO q.2.1) else -1))) (shH ru ta rs) I J) : xm l (d + 1) 0 0 mX12_nameNow [.ref 67] (shH ru ta rs) I J Rp := by
  have ts := tkR_s hq ok
  refine xm_ofK 0 (X := xxX12) (t := tX12_nameNow) (stop := []) (ini := false) xx12 pl12 rfl kX12_nameNow (fun h => by cases h) (Nat.le_of_ble_eq_true rfl) (fun K hK => ?_)
  refine And.intro (fun h1 => ?_) (fun h1 => ?_)
  · have e1 := ts.2.1.mp h1
    have hw := ok.2.1 e1
    have ev : I 67 18 = nI q.2.1 := by
      rcases tkR_el hq ok with ⟨z, _⟩ | ⟨_, _, y⟩ | ⟨z, _⟩ | ⟨z, _⟩ | ⟨z, _⟩
      · omega
      · exact y
      · omega
      · omega
      · omega
    rw [if_pos e1] at hR
    generalize q.2.1 = w at hR hw ev
    have nx : ∀ i, i < 100 → I 67 18 = nI i → w = i := fun i hi h => nI_small (ev.symm.trans h) (by omega) (by omega)
    have ne : ∀ i, i < 100 → ¬ I 67 18 = nI i → w ≠ i := fun i hi h z => h (by rw [ev, z])
    refine And.intro (fun h => ?_) (fun n13 => And.intro (fun h => ?_) (fun n14 => And.intro (fun h => ?_) (fun n23 => ?_)))
    · rw [nx 13 (by omega) h] at hR
      exact hR
    · rw [nx 14 (by omega) h] at hR
      exact hR
    · rw [nx 23 (by omega) h] at hR
      exact hR
    · have m13 := ne 13 (by omega) n13
      have m14 := ne 14 (by omega) n14
      have m23 := ne 23 (by omega) n23
      refine And.intro (fun h24 => ?_) (fun h24 => ?_)
      · have h24 : nI 24 ≤ I 67 18 := h24
        rw [ev, nI_leI (by omega) (by omega)] at h24
        have b24 : Nat.blt w 24 = false := by
          cases z : Nat.blt w 24 with
          | false => rfl
          | true => exact absurd (Nat.blt_eq.mp z) (by omega)
        refine And.intro (fun h26 => ?_) (fun h26 => ?_)
        · have h26 : nI 26 ≤ I 67 18 := h26
          rw [ev, nI_leI (by omega) (by omega)] at h26
          have b26 : Nat.blt w 26 = false := by
            cases z : Nat.blt w 26 with
            | false => rfl
            | true => exact absurd (Nat.blt_eq.mp z) (by omega)
          show Rp (some (.int (I 67 18 - nI 26 + nI 5))) (shH ru ta rs) I J
          rw [ev, nI_subI (by omega) (by omega), nI_add]
          unfold nmO at hR
          rw [beqf m13, beqf m14, beqf m23, b24, b26] at hR
          rw [show w - 26 + 5 = w - 21 by omega]
          exact hR
        · have h26 : ¬ nI 26 ≤ I 67 18 := h26
          rw [ev, nI_leI (by omega) (by omega)] at h26
          have b26 : Nat.blt w 26 = true := Nat.blt_eq.mpr (by omega)
          show Rp (some (.int (I 67 18 - nI 24 + nI 2))) (shH ru ta rs) I J
          rw [ev, nI_subI (by omega) (by omega), nI_add]
          unfold nmO at hR
          rw [beqf m13, beqf m14, beqf m23, b24, b26] at hR
          rw [show w - 24 + 2 = w - 22 by omega]
          exact hR
      · have h24 : ¬ nI 24 ≤ I 67 18 := h24
        rw [ev, nI_leI (by omega) (by omega)] at h24
        have b24 : Nat.blt w 24 = true := Nat.blt_eq.mpr (by omega)
        unfold nmO at hR
        rw [beqf m13, beqf m14, beqf m23, b24] at hR
        exact hR
  · rw [if_neg (fun z => h1 (ts.2.1.mpr z))] at hR
    exact hR
