-- ===== the reference reads a text: what its rows say =====
def rkN (x : Int32) : Nat := if x = 407 then 1 else if x = 406 then 2 else if x = 43 ∨ x = 45 then 3 else 4
def isBin (x : Int32) : Prop := ¬ (x = 408 ∨ x = 400 ∨ x = 401 ∨ x = 402 ∨ x = 403 ∨ x = 405)
theorem rkN_le (x : Int32) : 1 ≤ rkN x ∧ rkN x ≤ 4 := by
  unfold rkN
  split
  · omega
  · split
    · omega
    · split <;> omega
/-- frames, the top first: kind, what waits in it (the last first) -/
abbrev TG : Type := List (Nat × List Int32)
def RepO (wt wf : Nat → Int32) (n : Nat) : List Int32 → Nat → Nat → Prop
  | [], w, w0 => w = w0
  | x :: a, w, w0 => ∃ w1, w = w1 + 1 ∧ wt w1 = x ∧ wf w1 = nI n ∧ RepO wt wf n a w1 w0
def Rep (fr cmp wt wf : Nat → Int32) : TG → Nat → Nat → Prop
  | [], n, w => n = 0 ∧ w = 0
  | (k, a) :: G, n, w => ∃ n1 w0, n = n1 + 1 ∧ fr n1 = nI k ∧ (k = 5 → isBin (cmp n)) ∧ RepO wt wf n a w w0 ∧ Rep fr cmp wt wf G n1 w0
theorem RepO_len {wt wf : Nat → Int32} {n : Nat} : ∀ {a : List Int32} {w w0 : Nat}, RepO wt wf n a w w0 → w = w0 + a.length
  | [], w, w0, h => h
  | x :: a, w, w0, h => by
    obtain ⟨w1, h1, _, _, h2⟩ := h
    have := RepO_len h2
    simp only [List.length_cons]
    omega
theorem RepO_up {wt wf wt' wf' : Nat → Int32} {n : Nat} : ∀ {a : List Int32} {w w0 : Nat}, RepO wt wf n a w w0 → (∀ i, i < w → wt' i = wt i ∧ wf' i = wf i) → RepO wt' wf' n a w w0
  | [], w, w0, h, _ => h
  | x :: a, w, w0, h, e => by
    obtain ⟨w1, h1, h2, h3, h4⟩ := h
    exact ⟨w1, h1, by rw [(e w1 (by omega)).1]; exact h2, by rw [(e w1 (by omega)).2]; exact h3, RepO_up h4 (fun i hi => e i (by omega))⟩
def wN : TG → Nat
  | [] => 0
  | f :: G => f.2.length + wN G
theorem Rep_len {fr cmp wt wf : Nat → Int32} : ∀ {G : TG} {n w : Nat}, Rep fr cmp wt wf G n w → n = G.length ∧ w = wN G
  | [], n, w, h => h
  | (k, a) :: G, n, w, h => by
    obtain ⟨n1, w0, h1, _, _, h2, h3⟩ := h
    have := RepO_len h2
    have := Rep_len h3
    simp only [List.length_cons, wN]
    omega
theorem Rep_up {fr cmp wt wf fr' cmp' wt' wf' : Nat → Int32} : ∀ {G : TG} {n w : Nat}, Rep fr cmp wt wf G n w → (∀ i, i < n → fr' i = fr i) → (∀ i, i ≤ n → cmp' i = cmp i) → (∀ i, i < w → wt' i = wt i ∧ wf' i = wf i) → Rep fr' cmp' wt' wf' G n w
  | [], n, w, h, _, _, _ => h
  | (k, a) :: G, n, w, h, e1, e2, e3 => by
    obtain ⟨n1, w0, h1, h2, h3, h4, h5⟩ := h
    have hl := RepO_len h4
    exact ⟨n1, w0, h1, by rw [e1 n1 (by omega)]; exact h2, by rw [e2 n (Nat.le_refl _)]; exact h3, RepO_up h4 e3, Rep_up h5 (fun i hi => e1 i (by omega)) (fun i hi => e2 i (by omega)) (fun i hi => e3 i (by omega))⟩
def opN : TG → Nat
  | [] => 0
  | f :: G => (if f.1 = 3 ∨ f.1 = 6 ∨ f.1 = 7 ∨ f.1 = 8 then 1 else 0) + opN G
def wtN : TG → Nat
  | [] => 0
  | f :: G => (if f.1 = 3 ∨ f.1 = 5 ∨ f.1 = 7 ∨ f.1 = 8 then 1 else 0) + wtN G
def rN : TG → Nat
  | [] => 0
  | f :: G => (if f.1 = 5 then 1 else 0) + rN G
-- what waits: ranks fall from the last to the first
def OPS (r : Nat) : List Int32 → Prop
  | [] => True
  | x :: a => isBin x ∧ r ≤ rkN x ∧ (∀ y, y ∈ a → rkN y < rkN x) ∧ OPS r a
theorem OPS_len {r : Nat} (hr : 1 ≤ r) : ∀ {a : List Int32} {m : Nat}, OPS r a → (∀ y, y ∈ a → rkN y ≤ m) → a.length ≤ m
  | [], m, _, _ => Nat.zero_le _
  | x :: a, m, h, e => by
    have h1 := e x List.mem_cons_self
    have h2 := OPS_len hr h.2.2.2 (m := m - 1) (fun y hy => by
      have := h.2.2.1 y hy
      omega)
    have := h.2.1
    simp only [List.length_cons]
    omega
theorem OPS_4 {r : Nat} (hr : 1 ≤ r) {a : List Int32} (h : OPS r a) : a.length ≤ 4 := OPS_len hr h (fun y _ => (rkN_le y).2)
theorem OPS_mono {r r' : Nat} (hr : r' ≤ r) : ∀ {a : List Int32}, OPS r a → OPS r' a
  | [], _ => trivial
  | _ :: _, h => ⟨h.1, Nat.le_trans hr h.2.1, h.2.2.1, OPS_mono hr h.2.2.2⟩
def Sh0 : TG → Prop
  | [] => False
  | (k, a) :: G => (k = 2 ∧ G = [] ∧ OPS 1 a) ∨ (k = 3 ∧ a = [] ∧ Sh0 G)
def Sh1 : TG → Prop
  | [] => False
  | (k, a) :: G => (k = 1 ∧ G = [] ∧ OPS 3 a) ∨ ((k = 4 ∨ k = 5) ∧ OPS 3 a ∧ Sh0 G) ∨ (k = 6 ∧ OPS 3 a ∧ Sh1 G) ∨ ((k = 7 ∨ k = 8) ∧ a = [] ∧ Sh1 G)
theorem Sh0_n : ∀ {G : TG}, Sh0 G → G.length = opN G + 1 ∧ wN G ≤ 4 * G.length ∧ rN G = 0
  | [], h => h.elim
  | (k, a) :: G, h => by
    rcases h with ⟨rfl, rfl, h⟩ | ⟨rfl, rfl, h⟩
    · have := OPS_4 (Nat.le_refl _) h
      simp [opN, wN, rN]
      omega
    · have := Sh0_n h
      simp [opN, wN, rN]
      omega
theorem Sh1_n : ∀ {G : TG}, Sh1 G → G.length ≤ opN G + 2 ∧ wN G ≤ 4 * G.length ∧ rN G ≤ 1 ∧ 1 ≤ G.length
  | [], h => h.elim
  | (k, a) :: G, h => by
    rcases h with ⟨rfl, rfl, h⟩ | ⟨hk, ho, h⟩ | ⟨rfl, ho, h⟩ | ⟨hk, rfl, h⟩
    · have := OPS_4 (by omega) h
      simp [opN, wN, rN]
      omega
    · have h1 := OPS_4 (by omega) ho
      have h2 := Sh0_n h
      rcases hk with rfl | rfl <;> simp [opN, wN, rN] <;> omega
    · have h1 := OPS_4 (by omega) ho
      have h2 := Sh1_n h
      simp [opN, wN, rN]
      omega
    · have h2 := Sh1_n h
      rcases hk with rfl | rfl <;> simp [opN, wN, rN] <;> omega
-- the orders made since the clause began run from no number in the pile to h
def stOK (x v : Int32) (h0 h : Nat) : Prop := ((x = 400 ∨ (x = 401 ∧ 0 ≤ v.toInt ∧ v.toInt ≤ 10)) ∧ h0 < 200 ∧ h = h0 + 1) ∨ ((x = 402 ∨ x = 403 ∨ x = 405) ∧ 1 ≤ h0 ∧ h = h0) ∨ (isBin x ∧ 2 ≤ h0 ∧ h = h0 - 1)
def Pg (no nv : Nat → Int32) (a : Nat) : Nat → Nat → Prop
  | 0, h => h = 0
  | m + 1, h => ∃ h0, Pg no nv a m h0 ∧ stOK (no (a + m)) (nv (a + m)) h0 h
theorem Pg_up {no nv no' nv' : Nat → Int32} {a : Nat} : ∀ {m h : Nat}, Pg no nv a m h → (∀ i, i < a + m → no' i = no i ∧ nv' i = nv i) → Pg no' nv' a m h
  | 0, h, p, _ => p
  | m + 1, h, p, e => by
    obtain ⟨h0, p0, s⟩ := p
    refine ⟨h0, Pg_up p0 (fun i hi => e i (by omega)), ?_⟩
    rw [(e (a + m) (by omega)).1, (e (a + m) (by omega)).2]
    exact s
theorem Pg_stL {I : XI} {no nv : Nat → Int32} {a base lim : Nat} : ∀ {m h n : Nat}, Pg no nv a m h → (∀ i, i < a + m → I 77 (base + i) = no i ∧ I 78 (base + i) = nv i) → base + (a + m) ≤ lim → stL I lim n (base + (a + m)) h → stL I lim (n + m) (base + a) 0
  | 0, h, n, p, _, _, s => by
    have p : h = 0 := p
    subst p
    exact s
  | m + 1, h, n, p, e, hb, s => by
    obtain ⟨h0, p0, q⟩ := p
    rw [show n + (m + 1) = (n + 1) + m by omega]
    refine Pg_stL p0 (fun i hi => e i (by omega)) (by omega) ?_
    have e1 := e (a + m) (by omega)
    refine ⟨by omega, ?_⟩
    rw [show base + (a + (m + 1)) = base + (a + m) + 1 by omega] at s
    rw [e1.1, e1.2]
    rcases q with ⟨q1, q2, rfl⟩ | ⟨q1, q2, rfl⟩ | ⟨q1, q2, rfl⟩
    · exact Or.inr (Or.inl ⟨q1, q2, s⟩)
    · exact Or.inr (Or.inr (Or.inl ⟨q1, q2, s⟩))
    · exact Or.inr (Or.inr (Or.inr ⟨q1, q2, s⟩))
theorem stL_more {I : XI} {lim : Nat} : ∀ (n m k h : Nat), stL I lim n k h → n ≤ m → stL I lim m k h
  | 0, _, _, _, z, _ => z.elim
  | n + 1, 0, _, _, _, hm => by omega
  | n + 1, m + 1, k, h, z, hm => by
    unfold stL at z ⊢
    refine ⟨z.1, ?_⟩
    rcases z.2 with y | y | y | y
    · exact Or.inl y
    · exact Or.inr (Or.inl ⟨y.1, y.2.1, stL_more n m _ _ y.2.2 (by omega)⟩)
    · exact Or.inr (Or.inr (Or.inl ⟨y.1, y.2.1, stL_more n m _ _ y.2.2 (by omega)⟩))
    · exact Or.inr (Or.inr (Or.inr ⟨y.1, y.2.1, stL_more n m _ _ y.2.2 (by omega)⟩))
def PGc (no nv na : Nat → Int32) (c o h : Nat) : Prop := ∃ a m, na c = nI a ∧ o = a + m ∧ Pg no nv a m h
def DNc (no nv nw na : Nat → Int32) (c o : Nat) : Prop := ∀ j, j < c → (nw j).toInt ≤ 4 → ∃ a m h, na j = nI a ∧ a + m < o ∧ Pg no nv a m h ∧ no (a + m) = 408
def CORE (at_ n w o c op : Nat) (sort tok : Int32) (fr cmp wt wf nw na no nv : Nat → Int32) (G : TG) (T x b : Nat) : Prop :=
  Rep fr cmp wt wf G n w ∧ op = opN G ∧ (at_ ≤ T ∧ (sort = 1 → tok.toInt ≤ 31)) ∧ o + w + wtN G + (if sort = 0 then 0 else 1) + (T - at_) ≤ b ∧ PGc no nv na c o (w + rN G + x) ∧ DNc no nv nw na c o ∧ c < 24
/-- while a text is read: T its length; the frames; x: is there a number more in the pile than waits; b: what can still be made -/
def TX (I : XI) (G : TG) (T x b : Nat) : Prop := ∃ at_ n w o c op : Nat, I 67 14 = nI T ∧ I 67 15 = nI at_ ∧ I 67 22 = nI n ∧ I 67 25 = nI w ∧ I 67 37 = nI o ∧ I 67 30 = nI c ∧ I 67 21 = nI op ∧ CORE at_ n w o c op (I 67 17) (I 67 18) (I 79) (I 80) (I 81) (I 82) (I 84) (I 85) (I 89) (I 90) G T x b
def TXP : List Nat := [67, 79, 80, 81, 82, 83, 84, 85, 86, 87, 88, 89, 90]
/-- nothing else is changed -/
def TF (I0 I : XI) : Prop := (∀ p, nmem p TXP = false → I p = I0 p) ∧ ∀ k, k < 15 → I 67 k = I0 67 k
theorem TF.rf {I : XI} : TF I I := ⟨fun _ _ => rfl, fun _ _ => rfl⟩
theorem TF.tr {I I' I'' : XI} (h : TF I I') (g : TF I' I'') : TF I I'' := ⟨fun p hp => (g.1 p hp).trans (h.1 p hp), fun k hk => (g.2 k hk).trans (h.2 k hk)⟩
theorem TF.u {I0 I : XI} {p k : Nat} {v : Int32} (h : TF I0 I) (hp : nmem p TXP = true) (hk : p = 67 → 15 ≤ k) : TF I0 (uI I p k v) := by
  refine ⟨fun q hq => ?_, fun j hj => ?_⟩
  · rw [uI_ne (fun e => by subst e; rw [hp] at hq; cases hq)]
    exact h.1 q hq
  · rw [uI_atA, if_neg (fun z => by
      have := hk z.1.symm
      omega)]
    exact h.2 j hj
-- ===== leaves =====
set_option maxRecDepth 100000 in
theorem tx_isSign (l : Launch) (d : Nat) (s : Int32) (ru ta : Nat) (rs : List XO) (I : XI) (J : XJ) (Rp : XR) (h1 : I 67 17 = 3 → I 67 18 = s → Rp (some (.int 1)) (shH ru ta rs) I J) (h0 : ¬ (I 67 17 = 3 ∧ I 67 18 = s) → Rp (some (.int 0)) (shH ru ta rs) I J) : xm l (d + 1) 0 0 mX12_isSign [.ref 67, .int s] (shH ru ta rs) I J Rp := by
  refine xm_ofK 0 (X := xxX12) (t := tX12_isSign) (stop := []) (ini := false) xx12 pl12 rfl kX12_isSign (fun h => by cases h) (Nat.le_of_ble_eq_true rfl) (fun K hK => ?_)
  refine And.intro (fun h => And.intro (Or.inl rfl) (h0 fun z => h z.1)) (fun h => ?_)
  exact And.intro (fun g => And.intro (Or.inl rfl) (h0 fun z => g z.2)) (fun g => And.intro (Or.inr rfl) (h1 h g))
set_option maxRecDepth 100000 in
theorem tx_isWord (l : Launch) (d : Nat) (s : Int32) (ru ta : Nat) (rs : List XO) (I : XI) (J : XJ) (Rp : XR) (h1 : I 67 17 = 1 → I 67 18 = s → Rp (some (.int 1)) (shH ru ta rs) I J) (h0 : ¬ (I 67 17 = 1 ∧ I 67 18 = s) → Rp (some (.int 0)) (shH ru ta rs) I J) : xm l (d + 1) 0 0 mX12_isWord [.ref 67, .int s] (shH ru ta rs) I J Rp := by
  refine xm_ofK 0 (X := xxX12) (t := tX12_isWord) (stop := []) (ini := false) xx12 pl12 rfl kX12_isWord (fun h => by cases h) (Nat.le_of_ble_eq_true rfl) (fun K hK => ?_)
  refine And.intro (fun h => And.intro (Or.inl rfl) (h0 fun z => h z.1)) (fun h => ?_)
  exact And.intro (fun g => And.intro (Or.inl rfl) (h0 fun z => g z.2)) (fun g => And.intro (Or.inr rfl) (h1 h g))
/-- a fault: only what tells it is changed, and there is one behind it -/
def ER (I I' : XI) : Prop := I' 67 19 ≠ 0 ∧ (∀ p, p ≠ 67 → I' p = I p) ∧ (∀ k, k ≠ 19 → k ≠ 20 → I' 67 k = I 67 k) ∧ (I 67 19 = 0 ∨ 0 < I 67 19 → 0 < I' 67 19)
theorem ER.tf {I0 I I' : XI} (h : TF I0 I) (e : ER I I') : TF I0 I' := ⟨fun p hp => by rw [e.2.1 p (fun z => by subst z; cases hp)]; exact h.1 p hp, fun k hk => by rw [e.2.2.1 k (by omega) (by omega)]; exact h.2 k hk⟩
theorem ER.rf {I : XI} (h : I 67 19 ≠ 0) : ER I I := ⟨h, fun _ _ => rfl, fun _ _ _ => rfl, fun z => z.resolve_left h⟩
theorem ER.tr {I I' I'' : XI} (h : ER I I') (g : ER I' I'') : ER I I'' := ⟨g.1, fun p hp => (g.2.1 p hp).trans (h.2.1 p hp), fun k h1 h2 => (g.2.2.1 k h1 h2).trans (h.2.2.1 k h1 h2), fun z => g.2.2.2 (Or.inr (h.2.2.2 z))⟩
def emI (I : XI) (o : Nat) (y v : Int32) : XI := uI (uI (uI I 89 o y) 90 o v) 67 37 (nI (o + 1))
set_option maxRecDepth 100000 in
theorem tx_emits (l : Launch) (d o : Nat) (ho : o < 400) (y v : Int32) (ru ta : Nat) (rs : List XO) (I : XI) (J : XJ) (Rp : XR) (e : I 67 37 = nI o) (hR : Rp none (shH ru ta rs) (emI I o y v) J) : xm l (d + 1) 0 0 mX12_emits [.ref 67, .int y, .int v] (shH ru ta rs) I J Rp := by
  have hv : vp_in (I 67 37) 400 := by rw [e]; exact vp_in_nI ho (by omega)
  refine xm_ofK 0 (X := xxX12) (t := tX12_emits) (stop := []) (ini := false) xx12 pl12 rfl kX12_emits (fun h => by cases h) (Nat.le_of_ble_eq_true rfl) (fun K hK => ?_)
  refine And.intro hv (And.intro hv ?_)
  show Rp none (shH ru ta rs) (uI (uI (uI I 89 (I 67 37).toNatClampNeg y) 90 (I 67 37).toNatClampNeg v) 67 37 (I 67 37 + 1)) J
  rw [e, nI_clamp (by omega), nI_1]
  exact hR
def ofI (I : XI) (n : Nat) (k : Int32) : XI := uI (uI I 79 n k) 67 22 (nI (n + 1))
set_option maxRecDepth 100000 in
theorem tx_opensFrame (l : Launch) (d n : Nat) (hn : n < 40) (k : Int32) (ru ta : Nat) (rs : List XO) (I : XI) (J : XJ) (Rp : XR) (e : I 67 22 = nI n) (hR : Rp none (shH ru ta rs) (ofI I n k) J) : xm l (d + 1) 0 0 mX12_opensFrame [.ref 67, .int k] (shH ru ta rs) I J Rp := by
  have hv : vp_in (I 67 22) 40 := by rw [e]; exact vp_in_nI hn (by omega)
  refine xm_ofK 0 (X := xxX12) (t := tX12_opensFrame) (stop := []) (ini := false) xx12 pl12 rfl kX12_opensFrame (fun h => by cases h) (Nat.le_of_ble_eq_true rfl) (fun K hK => ?_)
  refine And.intro hv ?_
  show Rp none (shH ru ta rs) (uI (uI I 79 (I 67 22).toNatClampNeg k) 67 22 (I 67 22 + 1)) J
  rw [e, nI_clamp (by omega), nI_1]
  exact hR
set_option maxRecDepth 100000 in
theorem tx_top (l : Launch) (d n : Nat) (hn : n < 40) (ru ta : Nat) (rs : List XO) (I : XI) (J : XJ) (Rp : XR) (e : I 67 22 = nI (n + 1)) (hR : Rp (some (.int (I 79 n))) (shH ru ta rs) I J) : xm l (d + 1) 0 0 mX12_top [.ref 67] (shH ru ta rs) I J Rp := by
  have e1 : I 67 22 - nI 1 = nI n := by rw [e]; exact nI_pred n
  have hv : vp_in (I 67 22 - nI 1) 40 := by rw [e1]; exact vp_in_nI hn (by omega)
  refine xm_ofK 0 (X := xxX12) (t := tX12_top) (stop := []) (ini := false) xx12 pl12 rfl kX12_top (fun h => by cases h) (Nat.le_of_ble_eq_true rfl) (fun K hK => ?_)
  refine And.intro hv ?_
  show Rp (some (.int (I 79 (I 67 22 - nI 1).toNatClampNeg))) (shH ru ta rs) I J
  rw [e1, nI_clamp (by omega)]
  exact hR
set_option maxRecDepth 100000 in
theorem tx_rank (l : Launch) (d : Nat) (x : Int32) (sh : List XO) (I : XI) (J : XJ) (Rp : XR) (hR : Rp (some (.int (nI (rkN x)))) sh I J) : xm l (d + 1) 0 0 mX12_rank [.int x] sh I J Rp := by
  refine xm_ofK 0 (X := xxX12) (t := tX12_rank) (stop := []) (ini := false) xx12 pl12 rfl kX12_rank (fun h => by cases h) (Nat.le_of_ble_eq_true rfl) (fun K hK => ?_)
  unfold rkN at hR
  refine And.intro (fun h => ?_) (fun h => ?_)
  · have h : ¬ x = 407 := h
    rw [if_neg h] at hR
    refine And.intro (fun h => ?_) (fun h => ?_)
    · have h : ¬ x = 406 := h
      rw [if_neg h] at hR
      refine And.intro (fun h => ?_) (fun h => ?_)
      · have h : x = 43 := h
        rw [if_pos (Or.inl h)] at hR
        exact hR
      · have h : ¬ x = 43 := h
        refine And.intro (fun g => ?_) (fun g => ?_)
        · have g : ¬ x = 45 := g
          rw [if_neg (fun z => z.elim h g)] at hR
          exact hR
        · have g : x = 45 := g
          rw [if_pos (Or.inr g)] at hR
          exact hR
    · have h : x = 406 := h
      subst h
      exact hR
  · have h : x = 407 := h
    subst h
    exact hR
def isLet (x : Int32) : Prop := (97 ≤ x ∧ x ≤ 122) ∨ (65 ≤ x ∧ x ≤ 90)
set_option maxRecDepth 100000 in
theorem tx_isLetter (l : Launch) (d : Nat) (x : Int32) (sh : List XO) (I : XI) (J : XJ) (Rp : XR) (h1 : isLet x → Rp (some (.int 1)) sh I J) (h0 : ¬ isLet x → Rp (some (.int 0)) sh I J) : xm l (d + 2) 0 0 mX12_isLetter [.int x] sh I J Rp := by
  refine xm_ofK 0 (X := xxX12) (t := tX12_isLetter) (stop := []) (ini := false) xx12 pl12 rfl kX12_isLetter (fun h => by cases h) (Nat.le_of_ble_eq_true rfl) (fun K hK => ?_)
  by_cases c1 : 97 ≤ x ∧ x ≤ 122
  · refine m_in_t l d x 97 122 _ _ _ _ c1.1 c1.2 ?_
    exact And.intro (fun _ => And.intro (Or.inr rfl) (h1 (Or.inl c1))) (fun h => absurd h (by decide))
  · refine m_in_f l d x 97 122 _ _ _ _ c1 ?_
    refine And.intro (fun h => absurd rfl h) (fun _ => ?_)
    by_cases c2 : 65 ≤ x ∧ x ≤ 90
    · refine m_in_t l d x 65 90 _ _ _ _ c2.1 c2.2 ?_
      exact And.intro (fun h => absurd h (by decide)) (fun _ => And.intro (Or.inr rfl) (h1 (Or.inr c2)))
    · refine m_in_f l d x 65 90 _ _ _ _ c2 ?_
      exact And.intro (fun _ => And.intro (Or.inl rfl) (h0 fun z => z.elim c1 c2)) (fun h => absurd rfl h)

