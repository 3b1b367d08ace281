section
-- ===== what is told, a world, the laws: numbers; the reference's laws =====
/-- counts; heights, kinds, owners; reaches, rooms -/
abbrev Tld : Type := (Nat × Nat × Nat) × (Nat → Nat) × (Nat → Nat) × (Nat → Nat) × (Nat → Nat) × (Nat → Nat)
abbrev qT (Q : Tld) : Nat := Q.1.1
abbrev qR (Q : Tld) : Nat := Q.1.2.1
abbrev qB (Q : Tld) : Nat := Q.1.2.2
abbrev qH (Q : Tld) : Nat → Nat := Q.2.1
abbrev qK (Q : Tld) : Nat → Nat := Q.2.2.1
abbrev qO (Q : Tld) : Nat → Nat := Q.2.2.2.1
abbrev qC (Q : Tld) : Nat → Nat := Q.2.2.2.2.1
abbrev qM (Q : Tld) : Nat → Nat := Q.2.2.2.2.2
def TOK (Q : Tld) : Prop := qT Q ≤ 8 ∧ qR Q ≤ 4 ∧ qB Q ≤ 4 ∧ (∀ t, t < qT Q → 1 ≤ qH Q t ∧ qH Q t ≤ 99 ∧ qK Q t ≤ 5 ∧ qO Q t ≤ 4) ∧ (∀ r, r < qR Q → 1 ≤ qC Q r ∧ qC Q r ≤ 99) ∧ ∀ b, b < qB Q → 1 ≤ qM Q b ∧ qM Q b ≤ 999
/-- cells of a world, as the reference lays them -/
abbrev Wrl : Type := Nat → Nat
def WOK (W : Wrl) : Prop := (∀ t, t < 8 → W t ≤ 100) ∧ (∀ r, r < 4 → W (8 + r) ≤ 1 ∧ W (12 + r) ≤ 1) ∧ (∀ b, b < 12 → W (16 + b) ≤ 5 ∧ W (28 + b) ≤ 999 ∧ W (40 + b) ≤ 99 ∧ W (52 + b) ≤ 3) ∧ W 64 ≤ 9 ∧ W 65 ≤ 999 ∧ W 66 ≤ 9 ∧ W 68 < 30313
abbrev Lws : Type := Nat → Option (List Odr)
/-- what a law says with these names -/
def wth (nm : Nat → Nat) (e : List Odr) : Int := (smE (fun n => (nm n : Int)) e []).headD 0
def lgOf (L : Lws) (nm : Nat → Nat) : Nat := match L 0 with
  | none => nm 2 * nm 3 * (1 + (if nm 4 < 5 then 5 - nm 4 else nm 4 - 5)) / 200
  | some e => (hld (wth nm e) 0 999).toNat
def grOf (L : Lws) (nm : Nat → Nat) : Nat := match L 1 with
  | none => 10
  | some e => (hld (wth nm e) 0 100).toNat
def spOf (L : Lws) (nm : Nat → Nat) : Nat := match L 2 with
  | none => 1
  | some e => (hld (wth nm e) 0 999).toNat
def seOf (L : Lws) (nm : Nat → Nat) : Nat := match L 3 with
  | none => nm 7
  | some e => (hld (wth nm e) 0 9999).toNat
def maOf (L : Lws) (nm : Nat → Nat) : Bool := match L 4 with
  | none => true
  | some e => !(decide (wth nm e = 0))
theorem hld_to {v : Int} {G : Nat} : ((hld v 0 G).toNat : Int) = hld v 0 G ∧ (hld v 0 G).toNat ≤ G := by
  have b : 0 ≤ hld v 0 G ∧ hld v 0 G ≤ G := by
    unfold hld
    split
    · exact ⟨by omega, by omega⟩
    · split
      · exact ⟨by omega, by omega⟩
      · exact ⟨by omega, by omega⟩
  exact ⟨by omega, by omega⟩
/-- names of a thing, of a bale -/
def nmT (Q : Tld) (W : Wrl) (t s : Nat) : Nat → Nat
  | 0 => W 65
  | 1 => qK Q t
  | 2 => qH Q t
  | 3 => W t
  | 4 => W 64
  | 5 => W 66
  | 9 => qO Q t
  | 10 => s
  | _ => 0
def blN (W : Wrl) (barn : Nat) : Nat → Nat
  | 0 => 0
  | b + 1 => blN W barn b + (if 0 < W (28 + b) ∧ W (52 + b) = barn then 1 else 0)
theorem blN_le (W : Wrl) (barn : Nat) : ∀ b, blN W barn b ≤ b
  | 0 => Nat.le_refl _
  | b + 1 => by
    have := blN_le W barn b
    unfold blN
    split <;> omega
def nmL (W : Wrl) (b : Nat) : Nat → Nat
  | 0 => W 65
  | 1 => W (16 + b)
  | 4 => W 64
  | 6 => W (40 + b)
  | 7 => W (28 + b)
  | 8 => blN W (W (52 + b)) 12
  | _ => 0
theorem sm1_ok {kk : Nat} {o : Odr} {t u : List Bool} {p : List Int} {nm : Nat → Int} (hu : tyo kk o t = some u) (hV : VT t p) (h64 : t.length ≤ 64) (hn : ∀ n, n ≤ 10 → myN n kk = true → inM (nm n)) : VT u (sm1 nm o p) ∧ u.length ≤ 64 := by
  rcases tyo_el hu with ⟨ho, h1, h2, h3⟩ | ⟨ho, h1, h2, h3, h4⟩ | ⟨ho, v, h1, h2⟩ | ⟨ho, h0, v, h1, h2⟩ | ⟨ho, v, h1, h2⟩ | hbin
  · have e : sm1 nm o p = (o.2 : Int) :: p := by
      unfold sm1
      rw [ho]
      rfl
    rw [e, h3]
    exact ⟨⟨⟨by omega, by omega⟩, hV⟩, by rw [List.length_cons]; omega⟩
  · have e : sm1 nm o p = nm o.2 :: p := by
      unfold sm1
      rw [ho]
      rfl
    rw [e, h4]
    exact ⟨⟨hn o.2 h3 h2, hV⟩, by rw [List.length_cons]; omega⟩
  · subst h1
    obtain ⟨z0, q, rfl, hVq⟩ := VT_1 hV
    have hin : inM z0 := hVq.1
    have e : sm1 nm o (z0 :: q) = -z0 :: q := by
      unfold sm1
      rw [ho]
      rfl
    rw [e, h2]
    exact ⟨⟨⟨by have := hin.1; have := hin.2; omega, by have := hin.1; have := hin.2; omega⟩, hVq.2⟩, h64⟩
  · subst h1
    obtain ⟨z0, q, rfl, hVq⟩ := VT_1 hV
    have hin : inM z0 := hVq.1
    have e : sm1 nm o (z0 :: q) = (z0 * (o.2 : Int)).tdiv 100 :: q := by
      unfold sm1
      rw [ho]
      rfl
    rw [e, h2]
    exact ⟨⟨part_in hin h0, hVq.2⟩, h64⟩
  · subst h1
    obtain ⟨z0, q, rfl, hVq⟩ := VT_1 hV
    have hin : z0 = 0 ∨ z0 = 1 := hVq.1
    have e : sm1 nm o (z0 :: q) = (1 - z0) :: q := by
      unfold sm1
      rw [ho]
      rfl
    rw [e, h2]
    exact ⟨⟨by rcases hin with e | e <;> rw [e] <;> simp, hVq.2⟩, h64⟩
  · obtain ⟨hop, y0, x0, q, rfl, hsm, hxi, hyi, hVu⟩ := bin_el (nm := nm) hbin hV h64
    rw [hsm]
    exact hVu
theorem smE_ok {kk : Nat} {nm : Nat → Int} (hn : ∀ n, n ≤ 10 → myN n kk = true → inM (nm n)) : ∀ (e : List Odr) (t u : List Bool) (p : List Int), tyE kk e t = some u → VT t p → t.length ≤ 64 → VT u (smE nm e p)
  | [], t, u, p, h, hV, _ => by
    have e : t = u := Option.some.inj h
    rw [← e]
    exact hV
  | o :: e, t, u, p, h, hV, h64 => by
    unfold tyE at h
    split at h
    · rename_i t' ht
      have y := sm1_ok (nm := nm) ht hV h64 hn
      exact smE_ok hn e t' u _ h y.1 y.2
    · cases h
theorem wth_eq {kk : Nat} {nm : Nat → Nat} {e : List Odr} {b : Bool} (hT : tyE kk e [] = some [b]) (hn : ∀ n, n ≤ 10 → myN n kk = true → nm n ≤ 1000000) : smE (fun n => (nm n : Int)) e [] = [wth nm e] ∧ (b = true → wth nm e = 0 ∨ wth nm e = 1) := by
  have y := smE_ok (nm := fun n => (nm n : Int)) (fun n h1 h2 => ⟨by omega, by have := hn n h1 h2; omega⟩) e [] [b] [] hT trivial (by simp)
  obtain ⟨x, q, hx, hV⟩ := VT_1 y
  have hq : q = [] := by
    have z := hV.2
    cases q with
    | nil => rfl
    | cons _ _ => exact z.elim
  have hw : wth nm e = x := by
    unfold wth
    rw [hx]
    rfl
  refine ⟨by rw [hw, hx, hq], fun hb => ?_⟩
  subst hb
  rw [hw]
  exact hV.1
/-- the names that a law may use are so -/
def NMR (r : Nat → Int32) (kk : Nat) (nm : Nat → Nat) : Prop := ∀ n, n ≤ 10 → myN n kk = true → r n = nI (nm n) ∧ nm n ≤ 1000000
theorem NMR.nm {r : Nat → Int32} {kk : Nat} {nm : Nat → Nat} (h : NMR r kk nm) : NMr r kk (fun n => (nm n : Int)) := fun n h1 h2 => by
  have y := h n h1 h2
  show (r n).toInt = (nm n : Int) ∧ inM (nm n : Int)
  exact ⟨by rw [y.1, nI_toInt (by omega)], ⟨by omega, by omega⟩⟩
-- the reference: where the orders of a law begin
def ofL (I : XI) (c w : Nat) : Nat → Int32
  | 0 => -1
  | k + 1 => if I 72 (c + k) = nI w then I 73 (c + k) else ofL I c w k
def FOR (I : XI) (w : Nat) (r : Int32) : Prop := (I 68 4 = -1 ∧ r = -1) ∨ ∃ t N, t < 4 ∧ I 68 4 = nI t ∧ N ≤ 24 ∧ I 71 t = nI N ∧ r = ofL I (24 * t) w N
set_option maxRecDepth 100000 in
set_option maxHeartbeats 4000000 in
theorem ex_orders_loop (l : Launch) (d t N w : Nat) (hw : w < 5) (ht : t < 4) (ru ta : Nat) (rs : List XO) (I : XI) (J : XJ) (Rp : XR) (h4 : I 68 4 = nI t) (hN : I 71 t = nI N) (hN2 : N ≤ 24) (hR : Rp (some (.int (ofL I (24 * t) w N))) (shH ru ta rs) I J) : ∀ (m k n : Nat) (o : Option Value), N = k + m → m < n → xrun xxX12 (some .int) false false (shH ru ta rs).length 0 0 none l d tX12_ordersOf [4, 64] Rp (2 * n) 4 [some (.ref 67), some (.int (nI w)), some (.int (ofL I (24 * t) w k)), some (.int (nI k)), o] [] (shH ru ta rs) I J 0 0 := by
  have v4 : vp_in (I 68 4) 4 := vp_k (N := 4) h4 ht (by omega)
  have c4 : (I 68 4).toNatClampNeg = t := by rw [h4, nI_clamp (by omega)]
  have n4 : ¬ I 68 4 = -1 := by
    rw [h4]
    have : ∀ t, t < 4 → ¬ nI t = -1 := by decide
    exact this t ht
  intro m
  induction m with
  | zero =>
    intro k n o hk hn
    obtain ⟨n, rfl⟩ : ∃ n', n = n' + 1 := ⟨n - 1, by omega⟩
    rw [show 2 * (n + 1) = 2 * n + 1 + 1 by omega]
    have hk : N = k := by omega
    subst hk
    refine xrun_step fun K hK => ?_
    refine And.intro (vp_b (by decide)) ?_
    refine And.intro (fun z => absurd z n4) (fun _ => ?_)
    refine And.intro (vp_b (by decide)) ?_
    refine And.intro v4 ?_
    refine And.intro (fun _ => hR) (fun z => absurd ?_ z)
    show I 71 (I 68 4).toNatClampNeg ≤ nI N
    rw [c4, hN]
    exact nI_le (by omega) (by omega)
  | succ m ih =>
    intro k n o hk hn
    obtain ⟨n, rfl⟩ : ∃ n', n = n' + 1 := ⟨n - 1, by omega⟩
    rw [show 2 * (n + 1) = 2 * n + 1 + 1 by omega]
    refine xrun_step fun K hK => ?_
    refine And.intro (vp_b (by decide)) ?_
    refine And.intro (fun z => absurd z n4) (fun _ => ?_)
    refine And.intro (vp_b (by decide)) ?_
    refine And.intro v4 ?_
    have hlt : ¬ I 71 (I 68 4).toNatClampNeg ≤ nI k := by
      rw [c4, hN, Int32.le_iff_toInt_le, nI_toInt (by omega), nI_toInt (by omega)]
      omega
    refine And.intro (fun z => absurd z hlt) (fun _ => ?_)
    have ei : nI 24 * I 68 4 + nI k = nI (24 * t + k) := by
      rw [h4, show nI 24 * nI t = nI (24 * t) from (Int32.ofNat_mul 24 t).symm, nI_add]
    have vi : vp_in (nI 24 * I 68 4 + nI k) 96 := vp_k (N := 96) ei (by omega) (by omega)
    have ci : (nI 24 * I 68 4 + nI k).toNatClampNeg = 24 * t + k := by rw [ei, nI_clamp (by omega)]
    have go : ∀ r', r' = ofL I (24 * t) w (k + 1) → xrun xxX12 (some .int) false false (shH ru ta rs).length 0 0 none l d tX12_ordersOf [4, 64] Rp (2 * n + 1) 64 [some (.ref 67), some (.int (nI w)), some (.int (ofL I (24 * t) w k)), some (.int (nI k)), some (.int (nI 24 * I 68 4 + nI k))] [.int r'] (shH ru ta rs) I J 0 0 := by
      intro r' hr'
      refine xrun_step fun K hK => ?_
      refine hK 4 [some (.ref 67), some (.int (nI w)), some (.int r'), some (.int (nI k + 1)), some (.int (nI 24 * I 68 4 + nI k))] [] (shH ru ta rs) I J 0 0 ?_
      rw [nI_1, hr']
      exact ih (k + 1) n _ (by omega) (by omega)
    refine And.intro (vp_b (by decide)) ?_
    refine And.intro vi ?_
    refine And.intro (fun he => ?_) (fun he => ?_)
    · refine hK _ _ _ _ _ _ _ _ (go _ ?_)
      have he2 : ¬ I 72 (24 * t + k) = nI w := by
        rw [← ci]
        exact he
      exact (if_neg he2).symm
    · refine And.intro vi ?_
      refine hK _ _ _ _ _ _ _ _ (go _ ?_)
      have he2 : I 72 (24 * t + k) = nI w := by
        rw [← ci]
        exact he
      show I 73 (nI 24 * I 68 4 + nI k).toNatClampNeg = _
      rw [ci]
      exact (if_pos he2).symm
set_option maxRecDepth 100000 in
theorem ex_orders (l : Launch) (d w : Nat) (hw : w < 5) (ru ta : Nat) (rs : List XO) (I : XI) (J : XJ) (Rp : XR) (r : Int32) (h : FOR I w r) (hR : Rp (some (.int r)) (shH ru ta rs) I J) : xm l (d + 1) 0 0 mX12_ordersOf [.ref 67, .int (nI w)] (shH ru ta rs) I J Rp := by
  refine xm_ofK 52 (X := xxX12) (t := tX12_ordersOf) (stop := [4, 64]) (ini := false) xx12 pl12 rfl kX12_ordersOf (fun h => by cases h) (Nat.le_of_ble_eq_true rfl) (fun K hK => ?_)
  rcases h with ⟨h4, e⟩ | ⟨t, N, ht, h4, h24, hN, e⟩
  · subst e
    refine hK 4 [some (.ref 67), some (.int (nI w)), some (.int (-1)), some (.int (nI 0)), none] [] _ _ _ _ _ ?_
    refine xrun_step fun K hK => ?_
    refine And.intro (vp_b (by decide)) ?_
    exact And.intro (fun _ => hR) (fun z => absurd h4 z)
  · subst e
    exact hK 4 [some (.ref 67), some (.int (nI w)), some (.int (-1)), some (.int (nI 0)), none] [] _ _ _ _ _ (ex_orders_loop l d t N w hw ht ru ta rs I J Rp h4 hN h24 hR N 0 26 none (by omega) (by omega))
/-- the laws of the text that rules, in the reference -/
def LRw (I : XI) (w : Nat) (r : Int32) (o : Option (List Odr)) : Prop := match o with
  | none => r = -1
  | some e => ∃ f, r = nI f ∧ OR7 I f e ∧ f + e.length < 1600 ∧ e.length ≤ 400 ∧ tyE w e [] = some [Nat.beq w 4]
def LR (I : XI) (L : Lws) : Prop := ∀ w, w < 5 → ∃ r, FOR I w r ∧ LRw I w r (L w)
theorem OR7.keep {I I' : XI} (h77 : I' 77 = I 77) (h78 : I' 78 = I 78) : ∀ {e : List Odr} {k : Nat}, OR7 I k e → OR7 I' k e
  | [], k, h => by
    unfold OR7 at h ⊢
    rw [h77]
    exact h
  | o :: e, k, h => by
    unfold OR7 at h ⊢
    rw [h77, h78]
    exact ⟨h.1, h.2.1, OR7.keep h77 h78 h.2.2⟩
theorem LRw.keep {I I' : XI} {w : Nat} {r : Int32} {o : Option (List Odr)} (h77 : I' 77 = I 77) (h78 : I' 78 = I 78) (h : LRw I w r o) : LRw I' w r o := by
  cases o with
  | none => exact h
  | some e =>
    obtain ⟨f, a, b, c⟩ := h
    exact ⟨f, a, OR7.keep h77 h78 b, c⟩
set_option maxRecDepth 100000 in
theorem ex_held (l : Launch) (d G : Nat) (hG : G < 10000) (v : Int64) (sh : List XO) (I : XI) (J : XJ) (Rp : XR) (hR : Rp (some (.int (nI (hld v.toInt 0 G).toNat))) sh I J) : xm l (d + 1) 0 0 mX12_held [.long v, .int (nI 0), .int (nI G)] sh I J Rp := by
  refine xm_ofK 0 (X := xxX12) (t := tX12_held) (stop := []) (ini := false) xx12 pl12 rfl kX12_held (fun h => by cases h) (Nat.le_of_ble_eq_true rfl) (fun K hK => ?_)
  have e0 : (nI 0).toInt64.toInt = 0 := nI_i64 (by omega)
  have eG : (nI G).toInt64.toInt = (G : Int) := nI_i64 (by omega)
  refine And.intro (fun (h1 : 0 ≤ lg_cmp v (nI 0).toInt64) => And.intro (fun (h2 : lg_cmp v (nI G).toInt64 ≤ 0) => ?_) (fun (h2 : ¬ lg_cmp v (nI G).toInt64 ≤ 0) => ?_)) (fun (h1 : ¬ 0 ≤ lg_cmp v (nI 0).toInt64) => ?_)
  · have h1 := lc_ge.mp h1
    have h2 := lc_le.mp h2
    rw [e0] at h1
    rw [eG] at h2
    have e : v.toInt32 = nI (hld v.toInt 0 G).toNat := by
      have y : hld v.toInt 0 G = v.toInt := by
        unfold hld
        rw [if_neg (by omega), if_neg (by omega)]
      rw [y]
      apply Int32.toInt_inj.mp
      rw [nI_toInt (by omega), Int64.toInt_toInt32, Int.bmod_eq_of_le (by omega) (by omega)]
      omega
    rw [← e] at hR
    exact hR
  · have h2 : ¬ v.toInt ≤ (nI G).toInt64.toInt := fun z => h2 (lc_le.mpr z)
    rw [eG] at h2
    have e : nI G = nI (hld v.toInt 0 G).toNat := by
      have y : hld v.toInt 0 G = G := by
        unfold hld
        rw [if_neg (by omega), if_pos (by omega)]
      rw [y]
      rfl
    rw [← e] at hR
    exact hR
  · have h1 : ¬ (nI 0).toInt64.toInt ≤ v.toInt := fun z => h1 (lc_ge.mpr z)
    rw [e0] at h1
    have e : nI 0 = nI (hld v.toInt 0 G).toNat := by
      have y : hld v.toInt 0 G = 0 := by
        unfold hld
        rw [if_pos (by omega)]
      rw [y]
      rfl
    rw [← e] at hR
    exact hR
-- what is told, and the world w, in the reference
def TDr (I : XI) (Q : Tld) : Prop := I 68 0 = nI (qT Q) ∧ I 68 1 = nI (qR Q) ∧ I 68 2 = nI (qB Q) ∧ (∀ t, t < qT Q → I 68 (10 + t) = nI (qH Q t) ∧ I 68 (18 + t) = nI (qK Q t) ∧ I 68 (26 + t) = nI (qO Q t)) ∧ (∀ r, r < qR Q → I 68 (34 + r) = nI (qC Q r)) ∧ ∀ b, b < qB Q → I 68 (38 + b) = nI (qM Q b)
def RM (W : Wrl) (P : Int32) (r : Nat → Int32) : Prop := (∀ k, k < 69 → k ≠ 67 → r k = nI (W k)) ∧ r 67 = P
/-- a state of the reference: what is told, its laws, the world that is laid -/
def SRm (I : XI) (Q : Tld) (L : Lws) (W : Wrl) (P : Int32) : Prop := (TDr I Q ∧ TOK Q) ∧ LR I L ∧ RM W P (I 93) ∧ WOK W
theorem ix_c {a b : Nat} (h : a + b < 2 ^ 31) : (nI a + nI b).toNatClampNeg = a + b := by rw [nI_add, nI_clamp h]
theorem vx_2 {a b N : Nat} (h : a + b < N) (hN : N < 2 ^ 31) : vp_in (nI a + nI b) N := vp_k (nI_add a b) h hN
theorem TDr.keep {I I' : XI} {Q : Tld} (e : I' 68 = I 68) (h : TDr I Q) : TDr I' Q := by
  unfold TDr at h ⊢
  rw [e]
  exact h
theorem ofL.keep {I I' : XI} {c w : Nat} (e72 : I' 72 = I 72) (e73 : I' 73 = I 73) : ∀ k, ofL I' c w k = ofL I c w k
  | 0 => rfl
  | k + 1 => by
    unfold ofL
    rw [e72, e73, ofL.keep e72 e73 k]
theorem LR.keep {I I' : XI} {L : Lws} (e68 : I' 68 4 = I 68 4) (e71 : I' 71 = I 71) (e72 : I' 72 = I 72) (e73 : I' 73 = I 73) (e77 : I' 77 = I 77) (e78 : I' 78 = I 78) (h : LR I L) : LR I' L := fun w hw => by
  obtain ⟨r, h1, h2⟩ := h w hw
  refine ⟨r, ?_, h2.keep e77 e78⟩
  unfold FOR at h1 ⊢
  rw [e68, e71]
  rcases h1 with h1 | ⟨t, N, a, b, c, g, e⟩
  · exact Or.inl h1
  · exact Or.inr ⟨t, N, a, b, c, g, by rw [e, ofL.keep e72 e73]⟩
theorem SRm.keep {I I' : XI} {Q : Tld} {L : Lws} {W : Wrl} {P : Int32} (f : ∀ q, q ≠ 91 → I' q = I q) (h : SRm I Q L W P) : SRm I' Q L W P :=
  ⟨⟨h.1.1.keep (f 68 (by decide)), h.1.2⟩, h.2.1.keep (congrFun (f 68 (by decide)) 4) (f 71 (by decide)) (f 72 (by decide)) (f 73 (by decide)) (f 77 (by decide)) (f 78 (by decide)), by rw [f 93 (by decide)]; exact h.2.2.1, h.2.2.2⟩
set_option maxRecDepth 100000 in
set_option maxHeartbeats 4000000 in
theorem ex_namesT (l : Launch) (d : Nat) (ru ta : Nat) (rs : List XO) (I : XI) (J : XJ) (Rp : XR) (Q : Tld) (L : Lws) (W : Wrl) (P : Int32) (h : SRm I Q L W P) (t : Nat) (ht : t < qT Q) (hR : ∀ I' : XI, (∀ q, q ≠ 91 → I' q = I q) → (∀ n s, n < 6 → I' 91 n = nI (nmT Q W t s n)) → Rp none (shH ru ta rs) I' J) : xm l (d + 1) 0 0 mX12_namesOfThing [.ref 67, .int (nI t)] (shH ru ta rs) I J Rp := by
  obtain ⟨⟨⟨a1, a2, a3, a4, a5, a6⟩, b1, b2, b3, b4, b5, b6⟩, hL, hW, hO⟩ := h
  refine xm_ofK 0 (X := xxX12) (t := tX12_namesOfThing) (stop := []) (ini := false) xx12 pl12 rfl kX12_namesOfThing (fun h => by cases h) (Nat.le_of_ble_eq_true rfl) (fun K hK => ?_)
  refine And.intro (show vp_in (nI 65) 69 from vp_b (by decide)) ?_
  refine And.intro (show vp_in (nI 0) 11 from vp_b (by decide)) ?_
  refine And.intro (show vp_in (nI 18 + nI t) 2200 from vx_2 (by omega) (by omega)) ?_
  refine And.intro (show vp_in (nI 1) 11 from vp_b (by decide)) ?_
  refine And.intro (show vp_in (nI 10 + nI t) 2200 from vx_2 (by omega) (by omega)) ?_
  refine And.intro (show vp_in (nI 2) 11 from vp_b (by decide)) ?_
  refine And.intro (show vp_in (nI 0 + nI t) 69 from vx_2 (by omega) (by omega)) ?_
  refine And.intro (show vp_in (nI 3) 11 from vp_b (by decide)) ?_
  refine And.intro (show vp_in (nI 64) 69 from vp_b (by decide)) ?_
  refine And.intro (show vp_in (nI 4) 11 from vp_b (by decide)) ?_
  refine And.intro (show vp_in (nI 66) 69 from vp_b (by decide)) ?_
  refine And.intro (show vp_in (nI 5) 11 from vp_b (by decide)) ?_
  refine hR (uI (uI (uI (uI (uI (uI I 91 0 (I 93 65)) 91 1 (I 68 (nI 18 + nI t).toNatClampNeg)) 91 2 (I 68 (nI 10 + nI t).toNatClampNeg)) 91 3 (I 93 (nI 0 + nI t).toNatClampNeg)) 91 4 (I 93 64)) 91 5 (I 93 66)) (fun q hq => by rw [uI_ne hq, uI_ne hq, uI_ne hq, uI_ne hq, uI_ne hq, uI_ne hq]) (fun n s hn => ?_)
  rw [ix_c (by omega), ix_c (by omega), ix_c (by omega), Nat.zero_add, (a4 t ht).2.1, (a4 t ht).1, hW.1 65 (by decide) (by decide), hW.1 t (by omega) (by omega), hW.1 64 (by decide) (by decide), hW.1 66 (by decide) (by decide)]
  have hc : n = 0 ∨ n = 1 ∨ n = 2 ∨ n = 3 ∨ n = 4 ∨ n = 5 := by omega
  rcases hc with rfl | rfl | rfl | rfl | rfl | rfl
  · rfl
  · rfl
  · rfl
  · rfl
  · rfl
  · rfl
/-- which names which law may use -/
theorem myN_T {n kk : Nat} (h : n ≤ 10) (hk : kk = 0 ∨ kk = 1) (hm : myN n kk = true) : n < 6 := by
  have y : ∀ n, n < 11 → ∀ kk, kk < 2 → myN n kk = true → n < 6 := by decide
  exact y n (by omega) kk (by omega) hm
theorem myN_M {n : Nat} (h : n ≤ 10) (hm : myN n 4 = true) : n < 6 ∨ n = 9 ∨ n = 10 := by
  have y : ∀ n, n < 11 → myN n 4 = true → n < 6 ∨ n = 9 ∨ n = 10 := by decide
  exact y n (by omega) hm
theorem myN_B {n kk : Nat} (h : n ≤ 10) (hk : kk = 2 ∨ kk = 3) (hm : myN n kk = true) : n = 0 ∨ n = 1 ∨ n = 4 ∨ n = 6 ∨ n = 7 ∨ n = 8 := by
  have y2 : ∀ n, n < 11 → myN n 2 = true → n = 0 ∨ n = 1 ∨ n = 4 ∨ n = 6 ∨ n = 7 ∨ n = 8 := by decide
  have y3 : ∀ n, n < 11 → myN n 3 = true → n = 0 ∨ n = 1 ∨ n = 4 ∨ n = 6 ∨ n = 7 ∨ n = 8 := by decide
  rcases hk with rfl | rfl
  · exact y2 n (by omega) hm
  · exact y3 n (by omega) hm
theorem nmT_b {Q : Tld} {W : Wrl} {t s n : Nat} (hQ : TOK Q) (hW : WOK W) (ht : t < qT Q) (hs : s ≤ 999) : nmT Q W t s n ≤ 1000000 := by
  obtain ⟨b1, b2, b3, b4, b5, b6⟩ := hQ
  obtain ⟨c1, c2, c3, c4, c5, c6, c7⟩ := hW
  have := b4 t ht
  have := c1 t (by omega)
  unfold nmT
  split <;> omega
theorem nmL_b {W : Wrl} {b n : Nat} (hW : WOK W) (hb : b < 12) : nmL W b n ≤ 1000000 := by
  obtain ⟨c1, c2, c3, c4, c5, c6, c7⟩ := hW
  have := c3 b hb
  have := blN_le W (W (52 + b)) 12
  unfold nmL
  split <;> omega
set_option maxRecDepth 100000 in
/-- what a law says, held -/
theorem ex_says_w (l : Launch) (d w f : Nat) (ru ta : Nat) (rs : List XO) (I : XI) (J : XJ) (Rp : XR) (e : List Odr) (hO : OR7 I f e) (hk : f + e.length < 1600) (hl : e.length ≤ 400) (hT : tyE w e [] = some [Nat.beq w 4]) (nm : Nat → Nat) (hn : NMR (I 91) w nm) (hR : ∀ (r : Int64) (J' : XJ), r.toInt = wth nm e → (∀ q, q ≠ 92 → J' q = J q) → Rp (some (.long r)) (shH ru ta rs) I J') : xm l (d + 3) 0 0 mX12_saysOf [.ref 67, .int (nI f)] (shH ru ta rs) I J Rp :=
  ex_says l d f w ru ta rs I J Rp _ hn.nm e _ (wth nm e) hO hT hk hl (wth_eq hT (fun n h1 h2 => (hn n h1 h2).2)).1 hR
theorem nI_neg1 {f : Nat} (h : f < 1600) : ¬ nI f = -1 := fun z => by
  have y := congrArg Int32.toInt z
  rw [nI_toInt (by omega), show (-1 : Int32).toInt = -1 by decide] at y
  omega
set_option maxRecDepth 100000 in
set_option maxHeartbeats 4000000 in
theorem ex_grows (l : Launch) (d : Nat) (ru ta : Nat) (rs : List XO) (I : XI) (J : XJ) (Rp : XR) (Q : Tld) (L : Lws) (W : Wrl) (P : Int32) (h : SRm I Q L W P) (t : Nat) (ht : t < qT Q) (hR : ∀ (I' : XI) (J' : XJ), (∀ q, q ≠ 91 → I' q = I q) → Rp (some (.int (nI (grOf L (nmT Q W t 0))))) (shH ru ta rs) I' J') : xm l (d + 9) 0 0 mX12_growsOf [.ref 67, .int (nI t)] (shH ru ta rs) I J Rp := by
  refine xm_ofK 3 (X := xxX12) (t := tX12_growsOf) (stop := []) (ini := false) xx12 pl12 rfl kX12_growsOf (fun h => by cases h) (Nat.le_of_ble_eq_true rfl) (fun K hK => ?_)
  obtain ⟨r, h1, h2⟩ := h.2.1 1 (by decide)
  refine ex_orders l (d + 7) 1 (by decide) ru ta rs I J _ r h1 ?_
  refine ex_namesT l (d + 7) ru ta rs I J _ Q L W P h t ht (fun I1 f1 n1 => ?_)
  have h2 : LRw I1 1 r (L 1) := h2.keep (f1 77 (by decide)) (f1 78 (by decide))
  unfold grOf at hR
  cases e : L 1 with
  | none =>
    rw [e] at h2 hR
    have h2 : r = -1 := h2
    refine And.intro (fun z => absurd h2 z) (fun _ => ?_)
    exact hR I1 J f1
  | some es =>
    rw [e] at h2 hR
    obtain ⟨f, e1, hO, hk, hl, hT⟩ := h2
    subst e1
    have hf : ¬ nI f = -1 := nI_neg1 (by omega)
    refine And.intro (fun _ => ?_) (fun z => absurd z hf)
    refine ex_says_w l (d + 5) 1 f ru ta rs I1 J _ es hO hk hl hT (nmT Q W t 0) (fun n g1 g2 => ⟨n1 n 0 (myN_T g1 (Or.inr rfl) g2), nmT_b h.1.2 h.2.2.2 ht (by omega)⟩) (fun v J' hv _ => ?_)
    refine ex_held l (d + 7) 100 (by decide) v _ _ _ _ ?_
    rw [hv]
    exact hR I1 J' f1
set_option maxRecDepth 100000 in
set_option maxHeartbeats 4000000 in
theorem ex_long (l : Launch) (d : Nat) (ru ta : Nat) (rs : List XO) (I : XI) (J : XJ) (Rp : XR) (Q : Tld) (L : Lws) (W : Wrl) (P : Int32) (h : SRm I Q L W P) (t : Nat) (ht : t < qT Q) (hR : ∀ (I' : XI) (J' : XJ), (∀ q, q ≠ 91 → I' q = I q) → Rp (some (.int (nI (lgOf L (nmT Q W t 0))))) (shH ru ta rs) I' J') : xm l (d + 9) 0 0 mX12_longOf [.ref 67, .int (nI t)] (shH ru ta rs) I J Rp := by
  have hw64 : W 64 ≤ 9 := h.2.2.2.2.2.2.1
  have hq := h.1.2.2.2.2.1 t ht
  have ht8 : qT Q ≤ 8 := h.1.2.1
  have hg : W t ≤ 100 := h.2.2.2.1 t (by omega)
  refine xm_ofK 3 (X := xxX12) (t := tX12_longOf) (stop := [43, 84]) (ini := false) xx12 pl12 rfl kX12_longOf (fun h => by cases h) (Nat.le_of_ble_eq_true rfl) (fun K hK => ?_)
  obtain ⟨r, h1, h2⟩ := h.2.1 0 (by decide)
  refine ex_orders l (d + 7) 0 (by decide) ru ta rs I J _ r h1 ?_
  refine ex_namesT l (d + 7) ru ta rs I J _ Q L W P h t ht (fun I1 f1 n1 => ?_)
  have h2 : LRw I1 0 r (L 0) := h2.keep (f1 77 (by decide)) (f1 78 (by decide))
  have s1 : SRm I1 Q L W P := h.keep f1
  have e64 : I1 93 64 = nI (W 64) := s1.2.2.1.1 64 (by decide) (by decide)
  have e93 : I1 93 t = nI (W t) := s1.2.2.1.1 t (by omega) (by omega)
  have e10 : I1 68 (10 + t) = nI (qH Q t) := (s1.1.1.2.2.2.1 t ht).1
  -- what is behind it is held
  have h84 : ∀ (v : Int64) (J' : XJ) (a : Value), nI (hld v.toInt 0 (999 : Nat)).toNat = nI (lgOf L (nmT Q W t 0)) → xrun xxX12 (some .int) false false (shH ru ta rs).length 0 0 none l (d + 8) tX12_longOf [43, 84] Rp 2 84 [some (.ref 67), some (.int (nI t)), some (.int r), some a] [.long v] (shH ru ta rs) I1 J' 0 0 := by
    intro v J' a hv
    refine xrun_step fun K hK => ?_
    refine ex_held l (d + 7) 999 (by decide) v _ _ _ _ ?_
    rw [hv]
    exact hR I1 J' f1
  have h43 : ∀ (a : Nat), a = (if W 64 < 5 then 5 - W 64 else W 64 - 5) → xrun xxX12 (some .int) false false (shH ru ta rs).length 0 0 none l (d + 8) tX12_longOf [43, 84] Rp 3 43 [some (.ref 67), some (.int (nI t)), some (.int r), none] [.int (nI a)] (shH ru ta rs) I1 J 0 0 := by
    intro a ha
    refine xrun_step fun K hK => ?_
    cases e : L 0 with
    | none =>
      rw [e] at h2
      have h2 : r = -1 := h2
      refine And.intro (fun z => absurd h2 z) (fun _ => ?_)
      refine And.intro (show vp_in (nI 10 + nI t) 2200 from vx_2 (by omega) (by omega)) ?_
      refine And.intro (show vp_in (nI 0 + nI t) 69 from vx_2 (by omega) (by omega)) ?_
      refine And.intro (show ¬ ((200 : Int32) = 0) by decide) ?_
      refine hK 84 [some (.ref 67), some (.int (nI t)), some (.int r), some (.int (nI a))] [.long (I1 68 (nI 10 + nI t).toNatClampNeg * I1 93 (nI 0 + nI t).toNatClampNeg * (nI 1 + nI a) / nI 200).toInt64] _ _ _ _ _ ?_
      refine h84 _ J (.int (nI a)) ?_
      have ha5 : a ≤ 5 := by
        rw [ha]
        split <;> omega
      have hm1 : qH Q t * W t ≤ 99 * 100 := Nat.mul_le_mul hq.2.1 hg
      have hm2 : qH Q t * W t * (1 + a) ≤ 99 * 100 * 6 := Nat.mul_le_mul hm1 (by omega)
      have ev : I1 68 (nI 10 + nI t).toNatClampNeg * I1 93 (nI 0 + nI t).toNatClampNeg * (nI 1 + nI a) / nI 200 = nI (qH Q t * W t * (1 + a) / 200) := by
        rw [ix_c (by omega), ix_c (by omega), Nat.zero_add, e10, e93, nI_mul, nI_add, nI_mul]
        apply Int32.toInt_inj.mp
        rw [Int32.toInt_div_of_ne_right _ _ (by decide), nI_toInt (by omega), nI_toInt (by omega), nI_toInt (by omega)]
        rw [Int.tdiv_eq_ediv_of_nonneg (by omega)]
        omega
      rw [ev, nI_i64 (by omega)]
      have ex : lgOf L (nmT Q W t 0) = qH Q t * W t * (1 + a) / 200 := by
        simp only [lgOf, e]
        rw [ha]
        rfl
      rw [ex]
      have hx : qH Q t * W t * (1 + a) / 200 ≤ 999 := by omega
      generalize qH Q t * W t * (1 + a) / 200 = y at hx
      unfold hld
      rw [if_neg (by omega), if_neg (by omega)]
      rfl
    | some es =>
      rw [e] at h2
      obtain ⟨f, e1, hO, hk, hl, hT⟩ := h2
      subst e1
      have hf : ¬ nI f = -1 := nI_neg1 (by omega)
      refine And.intro (fun _ => ?_) (fun z => absurd z hf)
      refine ex_says_w l (d + 5) 0 f ru ta rs I1 J _ es hO hk hl hT (nmT Q W t 0) (fun n g1 g2 => ⟨n1 n 0 (myN_T g1 (Or.inl rfl) g2), nmT_b h.1.2 h.2.2.2 ht (by omega)⟩) (fun v J' hv _ => ?_)
      refine hK 84 _ _ _ _ _ _ _ (h84 v J' (.int (nI a)) ?_)
      rw [hv]
      simp only [lgOf, e]
      rfl
  refine And.intro (vp_b (by decide)) ?_
  refine And.intro (fun (z : nI 5 ≤ I1 93 64) => ?_) (fun (z : ¬ nI 5 ≤ I1 93 64) => ?_)
  · rw [e64, Int32.le_iff_toInt_le, nI_toInt (by omega), nI_toInt (by omega)] at z
    refine And.intro (vp_b (by decide)) ?_
    refine hK 43 [some (.ref 67), some (.int (nI t)), some (.int r), none] [.int (I1 93 64 - nI 5)] _ _ _ _ _ ?_
    rw [e64, nI_subI (by omega) (by omega)]
    exact h43 _ (by rw [if_neg (by omega)])
  · rw [e64, Int32.le_iff_toInt_le, nI_toInt (by omega), nI_toInt (by omega)] at z
    refine And.intro (vp_b (by decide)) ?_
    refine hK 43 [some (.ref 67), some (.int (nI t)), some (.int r), none] [.int (nI 5 - I1 93 64)] _ _ _ _ _ ?_
    rw [e64, nI_subI (by omega) (by omega)]
    exact h43 _ (by rw [if_pos (by omega)])
set_option maxRecDepth 100000 in
set_option maxHeartbeats 4000000 in
theorem ex_may (l : Launch) (d : Nat) (ru ta : Nat) (rs : List XO) (I : XI) (J : XJ) (Rp : XR) (Q : Tld) (L : Lws) (W : Wrl) (P : Int32) (h : SRm I Q L W P) (t s : Nat) (ht : t < qT Q) (hs : s ≤ 999) (hR : ∀ (r : Int32) (I' : XI) (J' : XJ), r = (if maOf L (nmT Q W t s) then 1 else 0) → (∀ q, q ≠ 91 → I' q = I q) → Rp (some (.int r)) (shH ru ta rs) I' J') : xm l (d + 9) 0 0 mX12_mayCut [.ref 67, .int (nI t), .int (nI s)] (shH ru ta rs) I J Rp := by
  have ht8 : qT Q ≤ 8 := h.1.2.1
  refine xm_ofK 3 (X := xxX12) (t := tX12_mayCut) (stop := []) (ini := false) xx12 pl12 rfl kX12_mayCut (fun h => by cases h) (Nat.le_of_ble_eq_true rfl) (fun K hK => ?_)
  obtain ⟨r, h1, h2⟩ := h.2.1 4 (by decide)
  refine ex_orders l (d + 7) 4 (by decide) ru ta rs I J _ r h1 ?_
  refine ex_namesT l (d + 7) ru ta rs I J _ Q L W P h t ht (fun I1 f1 n1 => ?_)
  have s1 : SRm I1 Q L W P := h.keep f1
  have e26 : I1 68 (26 + t) = nI (qO Q t) := (s1.1.1.2.2.2.1 t ht).2.2
  refine And.intro (show vp_in (nI 26 + nI t) 2200 from vx_2 (by omega) (by omega)) ?_
  refine And.intro (vp_b (by decide)) ?_
  refine And.intro (vp_b (by decide)) ?_
  have ec : (nI 26 + nI t).toNatClampNeg = 26 + t := ix_c (by omega)
  have f2 : ∀ q, q ≠ 91 → (uI (uI I1 91 9 (I1 68 (nI 26 + nI t).toNatClampNeg)) 91 10 (nI s)) q = I q := fun q hq => by rw [uI_ne hq, uI_ne hq, f1 q hq]
  have n2 : ∀ n, n < 6 ∨ n = 9 ∨ n = 10 → (uI (uI I1 91 9 (I1 68 (nI 26 + nI t).toNatClampNeg)) 91 10 (nI s)) 91 n = nI (nmT Q W t s n) := by
    intro n hn
    rw [uI_atA, uI_atA]
    rcases hn with hn | rfl | rfl
    · rw [if_neg (by omega), if_neg (by omega)]
      exact n1 n s hn
    · rw [if_neg (by omega), if_pos ⟨rfl, rfl⟩, ec, e26]
      rfl
    · rw [if_pos ⟨rfl, rfl⟩]
      rfl
  generalize hI2 : (uI (uI I1 91 9 (I1 68 (nI 26 + nI t).toNatClampNeg)) 91 10 (nI s)) = I2 at f2 n2
  have h2 : LRw I2 4 r (L 4) := h2.keep (f2 77 (by decide)) (f2 78 (by decide))
  unfold maOf at hR
  cases e : L 4 with
  | none =>
    rw [e] at h2 hR
    have h2 : r = -1 := h2
    refine And.intro (fun _ => ?_) (fun z => absurd h2 z)
    refine And.intro (Or.inr rfl) ?_
    exact hR 1 _ J rfl (by rw [← hI2] at f2; exact f2)
  | some es =>
    rw [e] at h2 hR
    obtain ⟨f, e1, hO, hk, hl, hT⟩ := h2
    subst e1
    have hf : ¬ nI f = -1 := nI_neg1 (by omega)
    have nn : NMR (I2 91) 4 (nmT Q W t s) := fun n g1 g2 => ⟨n2 n (myN_M g1 g2), nmT_b h.1.2 h.2.2.2 ht hs⟩
    subst hI2
    refine And.intro (fun z => absurd z hf) (fun _ => ?_)
    refine ex_says_w l (d + 5) 4 f ru ta rs _ J _ es hO hk hl hT (nmT Q W t s) nn (fun v J' hv _ => ?_)
    refine And.intro (fun (z : lg_cmp v 0 = 0) => ?_) (fun (z : ¬ lg_cmp v 0 = 0) => ?_)
    · have z := (lc_eq.mp z).trans i64_0
      rw [hv] at z
      refine And.intro (Or.inl rfl) ?_
      exact hR 0 _ J' (by simp [z]) f2
    · have z : ¬ v.toInt = 0 := fun y => z (lc_eq.mpr (y.trans i64_0.symm))
      rw [hv] at z
      refine And.intro (Or.inr rfl) ?_
      exact hR 1 _ J' (by simp [z]) f2
end
section
-- ===== the class: its laws =====
/-- what is told, in the class -/
def TDc (I : XI) (Q : Tld) : Prop := I 12 5 = nI (qT Q) ∧ I 12 6 = nI (qR Q) ∧ I 12 7 = nI (qB Q) ∧ (∀ t, t < qT Q → I 13 t = nI (qH Q t) ∧ I 14 t = nI (qK Q t) ∧ I 15 t = nI (qO Q t)) ∧ (∀ r, r < qR Q → I 16 r = nI (qC Q r)) ∧ ∀ b, b < qB Q → I 17 b = nI (qM Q b)
/-- a law of the class's text -/
def LCw (I : XI) (ru w : Nat) (o : Option (List Odr)) : Prop := match o with
  | none => I (ru + 3) w ≤ I (ru + 2) w
  | some e => ∃ st, I (ru + 2) w = nI st ∧ I (ru + 3) w = nI (st + e.length) ∧ st + e.length ≤ 300 ∧ Cds (I (ru + 1)) st e ∧ tyE w e [] = some [Nat.beq w 4] ∧ 0 < e.length
def LC (I : XI) (ru : Nat) (L : Lws) : Prop := ∀ w, w < 5 → LCw I ru w (L w)
/-- what the class knows beside worlds -/
def CE (I : XI) (ru : Nat) (Q : Tld) (L : Lws) : Prop := TDc I Q ∧ TOK Q ∧ LC I ru L ∧ TSP ru
theorem LCw.keep {I I' : XI} {ru w : Nat} {o : Option (List Odr)} (e1 : I' (ru + 1) = I (ru + 1)) (e2 : I' (ru + 2) = I (ru + 2)) (e3 : I' (ru + 3) = I (ru + 3)) (h : LCw I ru w o) : LCw I' ru w o := by
  unfold LCw at h ⊢
  rw [e1, e2, e3]
  exact h
theorem CE.keep {I I' : XI} {ru : Nat} {Q : Tld} {L : Lws} (f : ∀ q, (11 < q ∧ q < 18) ∨ (18 ≤ q ∧ q < 23) ∨ (46 < q ∧ q < 67) → I' q = I q) (h : CE I ru Q L) : CE I' ru Q L := by
  obtain ⟨h1, h2, h3, h4⟩ := h
  refine ⟨?_, h2, fun w hw => ?_, h4⟩
  · unfold TDc at h1 ⊢
    rw [f 12 (by omega), f 13 (by omega), f 14 (by omega), f 15 (by omega), f 16 (by omega), f 17 (by omega)]
    exact h1
  · unfold TSP at h4
    exact (h3 w hw).keep (f _ (by omega)) (f _ (by omega)) (f _ (by omega))
theorem CE.k24 {I I' : XI} {ru : Nat} {Q : Tld} {L : Lws} (f : ∀ q, q ≠ 24 → I' q = I q) (h : CE I ru Q L) : CE I' ru Q L := h.keep (fun q hq => f q (by omega))
set_option maxRecDepth 100000 in
theorem cx_hasLaw (l : Launch) (d : Nat) (ru ta : Nat) (rs : List XO) (I : XI) (J : XJ) (Rp : XR) (w : Nat) (hw : w < 5) (hr : TSP ru) (L : Lws) (hL : LC I ru L) (h1 : ∀ e, L w = some e → Rp (some (.int 1)) (shH ru ta rs) I J) (h0 : L w = none → Rp (some (.int 0)) (shH ru ta rs) I J) : xm l (d + 1) 0 0 mX8_hasLaw [.ref ru, .int (nI w)] (shH ru ta rs) I J Rp := by
  have g0 : ¬ nI w < 0 := nI_nlt (b := 0) (by omega) (by omega)
  have g5 : ¬ nI 5 ≤ nI w := by
    rw [Int32.le_iff_toInt_le, nI_toInt (by omega), nI_toInt (by omega)]
    omega
  have v5 : vp_in (nI w) 5 := vp_in_nI hw (by omega)
  have cw : (nI w).toNatClampNeg = w := nI_clamp (by omega)
  have hl := hL w hw
  have key : (I (ru + 3) w ≤ I (ru + 2) w ∧ L w = none) ∨ (¬ I (ru + 3) w ≤ I (ru + 2) w ∧ ∃ e, L w = some e) := by
    cases e : L w with
    | none =>
      rw [e] at hl
      exact Or.inl ⟨hl, rfl⟩
    | some es =>
      rw [e] at hl
      obtain ⟨st, e2, e3, h3, _, _, hp⟩ := hl
      refine Or.inr ⟨?_, es, rfl⟩
      rw [e2, e3, Int32.le_iff_toInt_le, nI_toInt (by omega), nI_toInt (by omega)]
      omega
  rcases hr with rfl | rfl | rfl | rfl | rfl
  all_goals
    refine xm_ofK 0 (X := xxX8) (t := tX8_hasLaw) (stop := []) (ini := false) xx8 pl8 rfl kX8_hasLaw (fun h => by cases h) (Nat.le_of_ble_eq_true rfl) (fun K hK => ?_)
    refine And.intro (fun z => absurd z g0) (fun _ => ?_)
    refine And.intro (fun z => absurd z g5) (fun _ => ?_)
    refine And.intro v5 ?_
    refine And.intro v5 ?_
    rcases key with ⟨k1, k2⟩ | ⟨k1, e, k2⟩
    · rw [← cw] at k1
      refine And.intro (fun _ => ?_) (fun z => absurd k1 z)
      exact And.intro (Or.inl rfl) (h0 k2)
    · rw [← cw] at k1
      refine And.intro (fun z => absurd z k1) (fun _ => ?_)
      exact And.intro (Or.inr rfl) (h1 e k2)
/-- the class's names of a thing -/
def NT (r : Nat → Int32) (nm : Nat → Nat) : Prop := r 1 = nI (nm 0) ∧ r 2 = nI (nm 1) ∧ r 3 = nI (nm 2) ∧ r 4 = nI (nm 3)
set_option maxRecDepth 100000 in
theorem cx_descT (l : Launch) (d : Nat) (ru ta : Nat) (rs : List XO) (I : XI) (J : XJ) (Rp : XR) (Q : Tld) (L : Lws) (h : CE I ru Q L) (t : Nat) (ht : t < qT Q) (g dy : Int32) (hR : ∀ I' : XI, (∀ q, q ≠ 24 → I' q = I q) → (I' 24 1 = dy ∧ I' 24 2 = nI (qK Q t) ∧ I' 24 3 = nI (qH Q t) ∧ I' 24 4 = g ∧ I' 24 9 = nI (qO Q t)) → Rp none (shH ru ta rs) I' J) : xm l (d + 1) 0 0 mX2_describeThing [.ref 23, .int (nI t), .int g, .int dy] (shH ru ta rs) I J Rp := by
  have ht8 : t < 8 := Nat.lt_of_lt_of_le ht h.2.1.1
  have ct : (nI t).toNatClampNeg = t := nI_clamp (by omega)
  have vt : vp_in (nI t) 8 := vp_in_nI ht8 (by omega)
  obtain ⟨e13, e14, e15⟩ := h.1.2.2.2.1 t ht
  refine xm_ofK 0 (X := xxX2) (t := tX2_describeThing) (stop := []) (ini := false) xx2 pl2 rfl kX2_describeThing (fun h => by cases h) (Nat.le_of_ble_eq_true rfl) (fun K hK => ?_)
  refine And.intro (fun z => absurd z (nI_nlt (b := 0) (by omega) (by omega))) (fun _ => ?_)
  refine And.intro (fun (z : nI 8 ≤ nI t) => absurd z (by rw [Int32.le_iff_toInt_le, nI_toInt (by omega), nI_toInt (by omega)]; omega)) (fun _ => ?_)
  refine And.intro vt (And.intro (show vp_in (nI 2) 11 from vp_b (by decide)) ?_)
  refine And.intro vt (And.intro (show vp_in (nI 3) 11 from vp_b (by decide)) ?_)
  refine And.intro vt (And.intro (show vp_in (nI 9) 11 from vp_b (by decide)) ?_)
  refine And.intro (show vp_in (nI 4) 11 from vp_b (by decide)) ?_
  refine And.intro (show vp_in (nI 1) 11 from vp_b (by decide)) ?_
  refine hR (uI (uI (uI (uI (uI I 24 2 (I 14 (nI t).toNatClampNeg)) 24 3 (I 13 (nI t).toNatClampNeg)) 24 9 (I 15 (nI t).toNatClampNeg)) 24 4 g) 24 1 dy) (fun q hq => by rw [uI_ne hq, uI_ne hq, uI_ne hq, uI_ne hq, uI_ne hq]) ?_
  rw [ct, e13, e14, e15]
  exact ⟨rfl, rfl, rfl, rfl, rfl⟩
theorem wth_run {w G : Nat} {e : List Odr} {nm : Nat → Nat} (hT : tyE w e [] = some [Nat.beq w 4]) (hn : ∀ n, n ≤ 10 → myN n w = true → nm n ≤ 1000000) : smE (fun n => (nm n : Int)) e [] = [wth nm e] := (wth_eq hT hn).1
set_option maxRecDepth 100000 in
/-- what a law says, from a state whose names are told -/
theorem cx_run (l : Launch) (d : Nat) (ru ta : Nat) (rs : List XO) (I : XI) (J : XJ) (Rp : XR) (w G : Nat) (hw : w < 5) (hG : G < 10000) (hr : TSP ru) (e : List Odr) (hL : LCw I ru w (some e)) (nm : Nat → Nat) (hn : ∀ n, n ≤ 10 → myN n w = true → I 24 (rnm n) = nI (nm n) ∧ nm n ≤ 1000000) (hR : ∀ J' : XJ, Rp (some (.int (nI (hld (wth nm e) 0 G).toNat))) (shH ru ta rs) I J') : xm l (d + 1) 0 0 mX2_run [.ref 23, .int (nI w), .int (nI G)] (shH ru ta rs) I J Rp := by
  obtain ⟨st, e2, e3, h3, hC, hT, _⟩ := hL
  exact ex_run l ta rs I Rp d ru hr w w G st e _ hw hG e2 e3 h3 hC hT (fun n => (nm n : Int)) (fun n h1 h2 => show (I 24 (rnm n)).toInt = (nm n : Int) ∧ inM (nm n : Int) from ⟨by rw [(hn n h1 h2).1, nI_toInt (by have := (hn n h1 h2).2; omega)], by omega, by have := (hn n h1 h2).2; omega⟩) _ (wth_run (G := 0) hT (fun n h1 h2 => (hn n h1 h2).2)) J (fun J' _ => hR J')
set_option maxRecDepth 100000 in
set_option maxHeartbeats 4000000 in
theorem cx_shadow (l : Launch) (d : Nat) (ru ta : Nat) (rs : List XO) (I : XI) (J : XJ) (Rp : XR) (Q : Tld) (L : Lws) (h : CE I ru Q L) (t : Nat) (ht : t < qT Q) (nm : Nat → Nat) (n1 : nm 1 = qK Q t) (n2 : nm 2 = qH Q t) (b0 : nm 0 ≤ 999) (b3 : nm 3 ≤ 100) (b4 : nm 4 ≤ 9) (b5 : nm 5 ≤ 9) (hR : ∀ (I' : XI) (J' : XJ), (∀ q, q ≠ 24 → I' q = I q) → Rp (some (.int (nI (lgOf L nm)))) (shH ru ta rs) I' J') : xm l (d + 3) 0 0 mX2_shadow [.ref 23, .int (nI t), .int (nI (nm 3)), .int (nI (nm 4)), .int (nI (nm 0)), .int (nI (nm 5))] (shH ru ta rs) I J Rp := by
  have q := h.2.1.2.2.2.1 t ht
  have hr0 := h.2.2.2
  unfold TSP at hr0
  rcases hr0 with rfl | rfl | rfl | rfl | rfl
  all_goals
    refine xm_ofK 0 (X := xxX2) (t := tX2_shadow) (stop := []) (ini := false) xx2 pl2 rfl kX2_shadow (fun h => by cases h) (Nat.le_of_ble_eq_true rfl) (fun K hK => ?_)
    refine cx_descT l (d + 1) _ ta rs I J _ Q L h t ht (nI (nm 3)) (nI (nm 0)) (fun I1 f1 r1 => ?_)
    have h1 := h.k24 f1
    refine cx_hasLaw l (d + 1) _ ta rs I1 J _ 0 (by decide) h.2.2.2 L h1.2.2.1 (fun e he => ?_) (fun he => ?_)
    · refine And.intro (fun _ => ?_) (fun z => absurd z (by decide))
      refine And.intro (show vp_in (nI 0) 11 from vp_b (by decide)) ?_
      refine And.intro (show vp_in (nI 5) 11 from vp_b (by decide)) ?_
      have hl := h1.2.2.1 0 (by decide)
      rw [he] at hl
      have f2 : ∀ q, q ≠ 24 → (uI (uI I1 24 0 (nI (nm 4))) 24 5 (nI (nm 5))) q = I q := fun q hq => by rw [uI_ne hq, uI_ne hq, f1 q hq]
      refine cx_run l (d + 1) _ ta rs (uI (uI I1 24 0 (nI (nm 4))) 24 5 (nI (nm 5))) J _ 0 999 (by decide) (by decide) h.2.2.2 e ?_ nm (fun n g1 g2 => ?_) (fun J' => ?_)
      · exact hl.keep (by rw [uI_ne (by decide), uI_ne (by decide)]) (by rw [uI_ne (by decide), uI_ne (by decide)]) (by rw [uI_ne (by decide), uI_ne (by decide)])
      · have hn := myN_T g1 (Or.inl rfl) g2
        rw [uI_atC, uI_atC]
        have hc : n = 0 ∨ n = 1 ∨ n = 2 ∨ n = 3 ∨ n = 4 ∨ n = 5 := by omega
        rcases hc with rfl | rfl | rfl | rfl | rfl | rfl
        · exact ⟨r1.1, by omega⟩
        · exact ⟨by rw [n1]; exact r1.2.1, by omega⟩
        · exact ⟨by rw [n2]; exact r1.2.2.1, by omega⟩
        · exact ⟨r1.2.2.2.1, by omega⟩
        · exact ⟨rfl, by omega⟩
        · exact ⟨rfl, by omega⟩
      · have e2 : lgOf L nm = (hld (wth nm e) 0 999).toNat := by
          simp only [lgOf, he]
        rw [e2] at hR
        exact hR _ J' f2
    · refine And.intro (fun z => absurd rfl z) (fun _ => ?_)
      refine And.intro (show vp_in (nI 3) 11 from vp_b (by decide)) ?_
      refine And.intro (show ¬ ((nI 200) = 0) by decide) ?_
      have e2 : lgOf L nm = nm 2 * nm 3 * (1 + (if nm 4 < 5 then 5 - nm 4 else nm 4 - 5)) / 200 := by
        simp only [lgOf, he]
      have ea : (if 0 ≤ nI (nm 4) - nI 5 then nI (nm 4) - nI 5 else 0 - (nI (nm 4) - nI 5)) = nI (if nm 4 < 5 then 5 - nm 4 else nm 4 - 5) := by
        have y : ∀ k, k < 10 → (if 0 ≤ nI k - nI 5 then nI k - nI 5 else 0 - (nI k - nI 5)) = nI (if k < 5 then 5 - k else k - 5) := by decide
        exact y (nm 4) (by omega)
      have ha : (if nm 4 < 5 then 5 - nm 4 else nm 4 - 5) ≤ 5 := by split <;> omega
      have hm1 : qH Q t * nm 3 ≤ 99 * 100 := Nat.mul_le_mul q.2.1 b3
      have ev : I1 24 3 * nI (nm 3) * (nI 1 + (if 0 ≤ nI (nm 4) - nI 5 then nI (nm 4) - nI 5 else 0 - (nI (nm 4) - nI 5))) / nI 200 = nI (lgOf L nm) := by
        rw [e2, ea, r1.2.2.1, n2]
        generalize (if nm 4 < 5 then 5 - nm 4 else nm 4 - 5) = a at ha
        have hm2 : qH Q t * nm 3 * (1 + a) ≤ 99 * 100 * 6 := Nat.mul_le_mul hm1 (by omega)
        rw [nI_mul, nI_add, nI_mul]
        apply Int32.toInt_inj.mp
        rw [Int32.toInt_div_of_ne_right _ _ (by decide), nI_toInt (by omega), nI_toInt (by omega), nI_toInt (by omega)]
        rw [Int.tdiv_eq_ediv_of_nonneg (by omega)]
        omega
      have fin := hR I1 J f1
      rw [← ev] at fin
      exact fin
set_option maxRecDepth 100000 in
set_option maxHeartbeats 4000000 in
theorem cx_growth (l : Launch) (d : Nat) (ru ta : Nat) (rs : List XO) (I : XI) (J : XJ) (Rp : XR) (Q : Tld) (L : Lws) (h : CE I ru Q L) (t : Nat) (ht : t < qT Q) (nm : Nat → Nat) (n1 : nm 1 = qK Q t) (n2 : nm 2 = qH Q t) (n4 : I 24 0 = nI (nm 4) ∨ True) (b0 : nm 0 ≤ 999) (b3 : nm 3 ≤ 100) (b5 : nm 5 ≤ 9) (hR : ∀ (I' : XI) (J' : XJ), (∀ q, q ≠ 24 → I' q = I q) → Rp (some (.int (nI (grOf L nm)))) (shH ru ta rs) I' J') : xm l (d + 3) 0 0 mX2_growth [.ref 23, .int (nI t), .int (nI (nm 3)), .int (nI (nm 0)), .int (nI (nm 5))] (shH ru ta rs) I J Rp := by
  have q := h.2.1.2.2.2.1 t ht
  have hr0 := h.2.2.2
  unfold TSP at hr0
  rcases hr0 with rfl | rfl | rfl | rfl | rfl
  all_goals
    refine xm_ofK 0 (X := xxX2) (t := tX2_growth) (stop := []) (ini := false) xx2 pl2 rfl kX2_growth (fun h => by cases h) (Nat.le_of_ble_eq_true rfl) (fun K hK => ?_)
    refine cx_hasLaw l (d + 1) _ ta rs I J _ 1 (by decide) h.2.2.2 L h.2.2.1 (fun e he => ?_) (fun he => ?_)
    · refine And.intro (fun _ => ?_) (fun z => absurd z (by decide))
      refine cx_descT l (d + 1) _ ta rs I J _ Q L h t ht (nI (nm 3)) (nI (nm 0)) (fun I1 f1 r1 => ?_)
      have h1 := h.k24 f1
      refine And.intro (show vp_in (nI 5) 11 from vp_b (by decide)) ?_
      have hl := h1.2.2.1 1 (by decide)
      rw [he] at hl
      have f2 : ∀ q, q ≠ 24 → (uI I1 24 5 (nI (nm 5))) q = I q := fun q hq => by rw [uI_ne hq, f1 q hq]
      refine cx_run l (d + 1) _ ta rs (uI I1 24 5 (nI (nm 5))) J _ 1 100 (by decide) (by decide) h.2.2.2 e ?_ nm (fun n g1 g2 => ?_) (fun J' => ?_)
      · exact hl.keep (by rw [uI_ne (by decide)]) (by rw [uI_ne (by decide)]) (by rw [uI_ne (by decide)])
      · have hn : n = 0 ∨ n = 1 ∨ n = 2 ∨ n = 3 ∨ n = 5 := by
          have y : ∀ n, n < 11 → myN n 1 = true → n = 0 ∨ n = 1 ∨ n = 2 ∨ n = 3 ∨ n = 5 := by decide
          exact y n (by omega) g2
        rw [uI_atC]
        rcases hn with rfl | rfl | rfl | rfl | rfl
        · exact ⟨r1.1, by omega⟩
        · exact ⟨by rw [n1]; exact r1.2.1, by omega⟩
        · exact ⟨by rw [n2]; exact r1.2.2.1, by omega⟩
        · exact ⟨r1.2.2.2.1, by omega⟩
        · exact ⟨rfl, by omega⟩
      · have e2 : grOf L nm = (hld (wth nm e) 0 100).toNat := by
          simp only [grOf, he]
        rw [e2] at hR
        exact hR _ J' f2
    · refine And.intro (fun z => absurd rfl z) (fun _ => ?_)
      have e2 : grOf L nm = 10 := by
        simp only [grOf, he]
      rw [e2] at hR
      exact hR I J (fun _ _ => rfl)
set_option maxRecDepth 100000 in
set_option maxHeartbeats 4000000 in
theorem cx_allows (l : Launch) (d : Nat) (ru ta : Nat) (rs : List XO) (I : XI) (J : XJ) (Rp : XR) (Q : Tld) (L : Lws) (h : CE I ru Q L) (t : Nat) (ht : t < qT Q) (nm : Nat → Nat) (n1 : nm 1 = qK Q t) (n2 : nm 2 = qH Q t) (n9 : nm 9 = qO Q t) (b0 : nm 0 ≤ 999) (b3 : nm 3 ≤ 100) (b4 : nm 4 ≤ 9) (b10 : nm 10 ≤ 999) (hR : ∀ (r : Int32) (I' : XI) (J' : XJ), r = (if maOf L nm then 1 else 0) → (∀ q, q ≠ 24 → I' q = I q) → Rp (some (.int r)) (shH ru ta rs) I' J') : xm l (d + 3) 0 0 mX2_allows [.ref 23, .int (nI t), .int (nI (nm 3)), .int (nI (nm 4)), .int (nI (nm 0)), .int (nI (nm 10))] (shH ru ta rs) I J Rp := by
  have q := h.2.1.2.2.2.1 t ht
  have hr0 := h.2.2.2
  unfold TSP at hr0
  rcases hr0 with rfl | rfl | rfl | rfl | rfl
  all_goals
    refine xm_ofK 0 (X := xxX2) (t := tX2_allows) (stop := []) (ini := false) xx2 pl2 rfl kX2_allows (fun h => by cases h) (Nat.le_of_ble_eq_true rfl) (fun K hK => ?_)
    refine cx_hasLaw l (d + 1) _ ta rs I J _ 4 (by decide) h.2.2.2 L h.2.2.1 (fun e he => ?_) (fun he => ?_)
    · refine And.intro (fun _ => ?_) (fun z => absurd z (by decide))
      refine cx_descT l (d + 1) _ ta rs I J _ Q L h t ht (nI (nm 3)) (nI (nm 0)) (fun I1 f1 r1 => ?_)
      have h1 := h.k24 f1
      refine And.intro (show vp_in (nI 0) 11 from vp_b (by decide)) ?_
      refine And.intro (show vp_in (nI 10) 11 from vp_b (by decide)) ?_
      have hl := h1.2.2.1 4 (by decide)
      rw [he] at hl
      have hT := hl
      have f2 : ∀ q, q ≠ 24 → (uI (uI I1 24 0 (nI (nm 4))) 24 10 (nI (nm 10))) q = I q := fun q hq => by rw [uI_ne hq, uI_ne hq, f1 q hq]
      have nn : ∀ n, n ≤ 10 → myN n 4 = true → (uI (uI I1 24 0 (nI (nm 4))) 24 10 (nI (nm 10))) 24 (rnm n) = nI (nm n) ∧ nm n ≤ 1000000 := fun n g1 g2 => by
        have hn : n = 0 ∨ n = 1 ∨ n = 2 ∨ n = 3 ∨ n = 4 ∨ n = 9 ∨ n = 10 := by
          have y : ∀ n, n < 11 → myN n 4 = true → n = 0 ∨ n = 1 ∨ n = 2 ∨ n = 3 ∨ n = 4 ∨ n = 9 ∨ n = 10 := by decide
          exact y n (by omega) g2
        rw [uI_atC, uI_atC]
        rcases hn with rfl | rfl | rfl | rfl | rfl | rfl | rfl
        · exact ⟨r1.1, by omega⟩
        · exact ⟨by rw [n1]; exact r1.2.1, by omega⟩
        · exact ⟨by rw [n2]; exact r1.2.2.1, by omega⟩
        · exact ⟨r1.2.2.2.1, by omega⟩
        · exact ⟨rfl, by omega⟩
        · exact ⟨by rw [n9]; exact r1.2.2.2.2, by omega⟩
        · exact ⟨rfl, by omega⟩
      have b01 : wth nm e = 0 ∨ wth nm e = 1 := by
        obtain ⟨st, _, _, _, _, hT, _⟩ := hT
        exact (wth_eq hT (fun n g1 g2 => (nn n g1 g2).2)).2 rfl
      refine cx_run l (d + 1) _ ta rs (uI (uI I1 24 0 (nI (nm 4))) 24 10 (nI (nm 10))) J _ 4 1 (by decide) (by decide) h.2.2.2 e ?_ nm nn (fun J' => ?_)
      · exact hl.keep (by rw [uI_ne (by decide), uI_ne (by decide)]) (by rw [uI_ne (by decide), uI_ne (by decide)]) (by rw [uI_ne (by decide), uI_ne (by decide)])
      · have e2 : maOf L nm = !(decide (wth nm e = 0)) := by
          simp only [maOf, he]
        rcases b01 with b | b
        · have ev : nI (hld (wth nm e) 0 (1 : Nat)).toNat = nI 0 := by rw [b]; rfl
          rw [e2, b] at hR
          have hc : ¬ nI (hld (wth nm e) 0 (1 : Nat)).toNat = nI 1 := by
            rw [ev]
            decide
          refine And.intro (fun _ => ?_) (fun z => absurd z hc)
          refine And.intro (Or.inl rfl) ?_
          exact hR _ _ J' rfl f2
        · have ev : nI (hld (wth nm e) 0 (1 : Nat)).toNat = nI 1 := by rw [b]; rfl
          rw [e2, b] at hR
          refine And.intro (fun z => absurd ev z) (fun _ => ?_)
          refine And.intro (Or.inr rfl) ?_
          exact hR _ _ J' rfl f2
    · refine And.intro (fun z => absurd rfl z) (fun _ => ?_)
      have e2 : maOf L nm = true := by
        simp only [maOf, he]
      rw [e2] at hR
      refine And.intro (Or.inr rfl) ?_
      exact hR _ I J rfl (fun _ _ => rfl)
set_option maxRecDepth 100000 in
theorem cx_descB (l : Launch) (d : Nat) (ru ta : Nat) (rs : List XO) (I : XI) (J : XJ) (Rp : XR) (a b c e : Int32) (hR : ∀ I' : XI, (∀ q, q ≠ 24 → I' q = I q) → (I' 24 2 = a ∧ I' 24 7 = b ∧ I' 24 6 = c ∧ I' 24 8 = e) → Rp none (shH ru ta rs) I' J) : xm l (d + 1) 0 0 mX2_describe [.ref 23, .int a, .int b, .int c, .int e] (shH ru ta rs) I J Rp := by
  refine xm_ofK 0 (X := xxX2) (t := tX2_describe) (stop := []) (ini := false) xx2 pl2 rfl kX2_describe (fun h => by cases h) (Nat.le_of_ble_eq_true rfl) (fun K hK => ?_)
  refine And.intro (show vp_in (nI 2) 11 from vp_b (by decide)) ?_
  refine And.intro (show vp_in (nI 7) 11 from vp_b (by decide)) ?_
  refine And.intro (show vp_in (nI 6) 11 from vp_b (by decide)) ?_
  refine And.intro (show vp_in (nI 8) 11 from vp_b (by decide)) ?_
  exact hR (uI (uI (uI (uI I 24 2 a) 24 7 b) 24 6 c) 24 8 e) (fun q hq => by rw [uI_ne hq, uI_ne hq, uI_ne hq, uI_ne hq]) ⟨rfl, rfl, rfl, rfl⟩
/-- the names of a bale, but day and hour -/
def NB4 (r : Nat → Int32) (nm : Nat → Nat) : Prop := r 2 = nI (nm 1) ∧ r 7 = nI (nm 7) ∧ r 6 = nI (nm 6) ∧ r 8 = nI (nm 8)
set_option maxRecDepth 100000 in
set_option maxHeartbeats 4000000 in
theorem cx_spoiling (l : Launch) (d : Nat) (ru ta : Nat) (rs : List XO) (I : XI) (J : XJ) (Rp : XR) (Q : Tld) (L : Lws) (h : CE I ru Q L) (nm : Nat → Nat) (hn : NB4 (I 24) nm) (bn : ∀ n, nm n ≤ 1000) (hR : ∀ (I' : XI) (J' : XJ), (∀ q, q ≠ 24 → I' q = I q) → Rp (some (.int (nI (spOf L nm)))) (shH ru ta rs) I' J') : xm l (d + 3) 0 0 mX2_spoiling [.ref 23, .int (nI (nm 0))] (shH ru ta rs) I J Rp := by
  have hr0 := h.2.2.2
  unfold TSP at hr0
  rcases hr0 with rfl | rfl | rfl | rfl | rfl
  all_goals
    refine xm_ofK 1 (X := xxX2) (t := tX2_spoiling) (stop := [30]) (ini := false) xx2 pl2 rfl kX2_spoiling (fun h => by cases h) (Nat.le_of_ble_eq_true rfl) (fun K hK => ?_)
    refine And.intro (show vp_in (nI 1) 11 from vp_b (by decide)) ?_
    have f1 : ∀ q, q ≠ 24 → (uI I 24 1 (nI (nm 0))) q = I q := fun q hq => uI_ne hq
    have h1 := h.k24 f1
    refine cx_hasLaw l (d + 1) _ ta rs (uI I 24 1 (nI (nm 0))) J _ 2 (by decide) h.2.2.2 L h1.2.2.1 (fun e he => ?_) (fun he => ?_)
    · refine And.intro (fun z => absurd z (by decide)) (fun _ => ?_)
      have hl := h1.2.2.1 2 (by decide)
      rw [he] at hl
      refine cx_run l (d + 1) _ ta rs (uI I 24 1 (nI (nm 0))) J _ 2 999 (by decide) (by decide) h.2.2.2 e hl nm (fun n g1 g2 => ?_) (fun J' => ?_)
      · have hc : n = 0 ∨ n = 1 ∨ n = 6 ∨ n = 7 ∨ n = 8 := by
          have y : ∀ n, n < 11 → myN n 2 = true → n = 0 ∨ n = 1 ∨ n = 6 ∨ n = 7 ∨ n = 8 := by decide
          exact y n (by omega) g2
        have := bn n
        rw [uI_atC]
        rcases hc with rfl | rfl | rfl | rfl | rfl
        · exact ⟨rfl, by omega⟩
        · exact ⟨hn.1, by omega⟩
        · exact ⟨hn.2.2.1, by omega⟩
        · exact ⟨hn.2.1, by omega⟩
        · exact ⟨hn.2.2.2, by omega⟩
      · have e2 : spOf L nm = (hld (wth nm e) 0 999).toNat := by
          simp only [spOf, he]
        rw [e2] at hR
        refine hK 30 [some (.ref 23), some (.int (nI (nm 0)))] [.int (nI (hld (wth nm e) 0 (999 : Nat)).toNat)] _ _ J' 0 0 ?_
        refine xrun_step fun K hK => ?_
        exact hR _ J' f1
    · refine And.intro (fun _ => ?_) (fun z => absurd rfl z)
      have e2 : spOf L nm = 1 := by
        simp only [spOf, he]
      rw [e2] at hR
      refine hK 30 [some (.ref 23), some (.int (nI (nm 0)))] [.int (nI 1)] _ _ J 0 0 ?_
      refine xrun_step fun K hK => ?_
      exact hR _ J f1
set_option maxRecDepth 100000 in
set_option maxHeartbeats 4000000 in
theorem cx_price (l : Launch) (d : Nat) (ru ta : Nat) (rs : List XO) (I : XI) (J : XJ) (Rp : XR) (Q : Tld) (L : Lws) (h : CE I ru Q L) (nm : Nat → Nat) (hn : I 24 2 = nI (nm 1) ∧ I 24 7 = nI (nm 7) ∧ I 24 6 = nI (nm 6)) (bn : ∀ n, nm n ≤ 1000) (hR : ∀ (I' : XI) (J' : XJ), (∀ q, q ≠ 24 → I' q = I q) → Rp (some (.int (nI (seOf L nm)))) (shH ru ta rs) I' J') : xm l (d + 3) 0 0 mX2_price [.ref 23, .int (nI (nm 0)), .int (nI (nm 4))] (shH ru ta rs) I J Rp := by
  have hr0 := h.2.2.2
  unfold TSP at hr0
  rcases hr0 with rfl | rfl | rfl | rfl | rfl
  all_goals
    refine xm_ofK 1 (X := xxX2) (t := tX2_price) (stop := [43]) (ini := false) xx2 pl2 rfl kX2_price (fun h => by cases h) (Nat.le_of_ble_eq_true rfl) (fun K hK => ?_)
    refine And.intro (show vp_in (nI 1) 11 from vp_b (by decide)) ?_
    refine And.intro (show vp_in (nI 0) 11 from vp_b (by decide)) ?_
    have f1 : ∀ q, q ≠ 24 → (uI (uI I 24 1 (nI (nm 0))) 24 0 (nI (nm 4))) q = I q := fun q hq => by rw [uI_ne hq, uI_ne hq]
    have h1 := h.k24 f1
    refine cx_hasLaw l (d + 1) _ ta rs (uI (uI I 24 1 (nI (nm 0))) 24 0 (nI (nm 4))) J _ 3 (by decide) h.2.2.2 L h1.2.2.1 (fun e he => ?_) (fun he => ?_)
    · refine And.intro (fun z => absurd z (by decide)) (fun _ => ?_)
      have hl := h1.2.2.1 3 (by decide)
      rw [he] at hl
      refine cx_run l (d + 1) _ ta rs (uI (uI I 24 1 (nI (nm 0))) 24 0 (nI (nm 4))) J _ 3 9999 (by decide) (by decide) h.2.2.2 e hl nm (fun n g1 g2 => ?_) (fun J' => ?_)
      · have hc : n = 0 ∨ n = 1 ∨ n = 4 ∨ n = 6 ∨ n = 7 := by
          have y : ∀ n, n < 11 → myN n 3 = true → n = 0 ∨ n = 1 ∨ n = 4 ∨ n = 6 ∨ n = 7 := by decide
          exact y n (by omega) g2
        have := bn n
        rw [uI_atC, uI_atC]
        rcases hc with rfl | rfl | rfl | rfl | rfl
        · exact ⟨rfl, by omega⟩
        · exact ⟨hn.1, by omega⟩
        · exact ⟨rfl, by omega⟩
        · exact ⟨hn.2.2, by omega⟩
        · exact ⟨hn.2.1, by omega⟩
      · have e2 : seOf L nm = (hld (wth nm e) 0 9999).toNat := by
          simp only [seOf, he]
        rw [e2] at hR
        refine hK 43 [some (.ref 23), some (.int (nI (nm 0))), some (.int (nI (nm 4)))] [.int (nI (hld (wth nm e) 0 (9999 : Nat)).toNat)] _ _ J' 0 0 ?_
        refine xrun_step fun K hK => ?_
        exact hR _ J' f1
    · refine And.intro (fun _ => ?_) (fun z => absurd rfl z)
      have e2 : seOf L nm = nm 7 := by
        simp only [seOf, he]
      rw [e2, ← hn.2.1] at hR
      refine And.intro (show vp_in (nI 7) 11 from vp_b (by decide)) ?_
      refine hK 43 [some (.ref 23), some (.int (nI (nm 0))), some (.int (nI (nm 4)))] [.int (I 24 7)] _ _ J 0 0 ?_
      refine xrun_step fun K hK => ?_
      exact hR _ J f1
end
section
-- ===== worlds as rows; what the reference does with them =====
abbrev Rw : Type := Nat → Int32
def nW (w : Rw) : Wrl := fun k => (w k).toNatClampNeg
/-- the greatest that each cell may be -/
def bdW (k : Nat) : Nat := if k < 8 then 100 else if k < 16 then 1 else if k < 28 then 5 else if k < 40 then 999 else if k < 52 then 99 else if k < 64 then 3 else if k = 64 then 9 else if k = 65 then 999 else if k = 66 then 9 else 30312
def okC (k : Nat) (x : Int32) : Prop := ∃ n, x = nI n ∧ n ≤ bdW k
/-- the cells of a world are in their ranges -/
def WR (w : Rw) : Prop := ∀ k, k < 69 → k ≠ 67 → okC k (w k)
theorem bdW_le (k : Nat) : bdW k ≤ 30312 := by
  unfold bdW
  repeat' split
  all_goals omega
theorem okC.nw {k : Nat} {w : Rw} (h : okC k (w k)) : w k = nI (nW w k) ∧ nW w k ≤ bdW k := by
  obtain ⟨n, e, hn⟩ := h
  have := bdW_le k
  have z : nW w k = n := by
    unfold nW
    rw [e]
    exact nI_clamp (by omega)
  rw [z]
  exact ⟨e, hn⟩
theorem WR.c {w : Rw} (h : WR w) {k : Nat} (hk : k < 69) (h67 : k ≠ 67) : w k = nI (nW w k) := (h k hk h67).nw.1
theorem WR.b {w : Rw} (h : WR w) {k : Nat} (hk : k < 69) (h67 : k ≠ 67) : nW w k ≤ bdW k := (h k hk h67).nw.2
theorem WR.rm {w : Rw} (h : WR w) : RM (nW w) (w 67) w := ⟨fun k hk h67 => h.c hk h67, rfl⟩
theorem bd_1 {k : Nat} (h : k < 8) : bdW k = 100 := by unfold bdW; rw [if_pos h]
theorem bd_2 {k : Nat} (h : 8 ≤ k) (h2 : k < 16) : bdW k = 1 := by unfold bdW; rw [if_neg (by omega), if_pos h2]
theorem bd_3 {k : Nat} (h : 16 ≤ k) (h2 : k < 28) : bdW k = 5 := by unfold bdW; rw [if_neg (by omega), if_neg (by omega), if_pos h2]
theorem bd_4 {k : Nat} (h : 28 ≤ k) (h2 : k < 40) : bdW k = 999 := by unfold bdW; rw [if_neg (by omega), if_neg (by omega), if_neg (by omega), if_pos h2]
theorem bd_5 {k : Nat} (h : 40 ≤ k) (h2 : k < 52) : bdW k = 99 := by unfold bdW; rw [if_neg (by omega), if_neg (by omega), if_neg (by omega), if_neg (by omega), if_pos h2]
theorem bd_6 {k : Nat} (h : 52 ≤ k) (h2 : k < 64) : bdW k = 3 := by unfold bdW; rw [if_neg (by omega), if_neg (by omega), if_neg (by omega), if_neg (by omega), if_neg (by omega), if_pos h2]
theorem WR.wok {w : Rw} (h : WR w) : WOK (nW w) := by
  have b : ∀ k, k < 69 → k ≠ 67 → nW w k ≤ bdW k := fun k a c => h.b a c
  refine ⟨fun t ht => ?_, fun r hr => ⟨?_, ?_⟩, fun c hc => ⟨?_, ?_, ?_, ?_⟩, ?_, ?_, ?_, ?_⟩
  · rw [← bd_1 ht]; exact b t (by omega) (by omega)
  · rw [← bd_2 (k := 8 + r) (by omega) (by omega)]; exact b _ (by omega) (by omega)
  · rw [← bd_2 (k := 12 + r) (by omega) (by omega)]; exact b _ (by omega) (by omega)
  · rw [← bd_3 (k := 16 + c) (by omega) (by omega)]; exact b _ (by omega) (by omega)
  · rw [← bd_4 (k := 28 + c) (by omega) (by omega)]; exact b _ (by omega) (by omega)
  · rw [← bd_5 (k := 40 + c) (by omega) (by omega)]; exact b _ (by omega) (by omega)
  · rw [← bd_6 (k := 52 + c) (by omega) (by omega)]; exact b _ (by omega) (by omega)
  · exact b 64 (by decide) (by decide)
  · exact b 65 (by decide) (by decide)
  · exact b 66 (by decide) (by decide)
  · have := b 68 (by decide) (by decide)
    have e : bdW 68 = 30312 := by decide
    omega
def RE (I : XI) (Q : Tld) (L : Lws) : Prop := (TDr I Q ∧ TOK Q) ∧ LR I L
def F93 (I I' : XI) : Prop := ∀ q, q ≠ 91 → q ≠ 93 → I' q = I q
theorem F93.rf {I : XI} : F93 I I := fun _ _ _ => rfl
theorem F93.tr {I I1 I2 : XI} (h : F93 I I1) (g : F93 I1 I2) : F93 I I2 := fun q a b => (g q a b).trans (h q a b)
theorem F93.u {I I1 : XI} {k : Nat} {v : Int32} (h : F93 I I1) : F93 I (uI I1 93 k v) := fun q a b => (uI_ne b).trans (h q a b)
theorem F93.n {I I1 : XI} (h : ∀ q, q ≠ 91 → I1 q = I q) : F93 I I1 := fun q a _ => h q a
theorem RE.keep {I I' : XI} {Q : Tld} {L : Lws} (f : F93 I I') (h : RE I Q L) : RE I' Q L :=
  ⟨⟨h.1.1.keep (f 68 (by decide) (by decide)), h.1.2⟩, h.2.keep (congrFun (f 68 (by decide) (by decide)) 4) (f 71 (by decide) (by decide)) (f 72 (by decide) (by decide)) (f 73 (by decide) (by decide)) (f 77 (by decide) (by decide)) (f 78 (by decide) (by decide))⟩
theorem RE.srm {I : XI} {Q : Tld} {L : Lws} (h : RE I Q L) (g : WR (I 93)) : SRm I Q L (nW (I 93)) (I 93 67) := ⟨h.1, h.2, g.rm, g.wok⟩
-- what the laws say of a row
def lgR (Q : Tld) (L : Lws) (w : Rw) (t : Nat) : Nat := lgOf L (nmT Q (nW w) t 0)
def grR (Q : Tld) (L : Lws) (w : Rw) (t : Nat) : Nat := grOf L (nmT Q (nW w) t 0)
def maR (Q : Tld) (L : Lws) (w : Rw) (t s : Nat) : Bool := maOf L (nmT Q (nW w) t s)
def spR (L : Lws) (w : Rw) (b : Nat) : Nat := spOf L (nmL (nW w) b)
def seR (L : Lws) (w : Rw) (b : Nat) : Nat := seOf L (nmL (nW w) b)
theorem lgR_le {Q : Tld} {L : Lws} {w : Rw} {t : Nat} (hQ : TOK Q) (hw : WR w) (ht : t < qT Q) : lgR Q L w t ≤ 999 := by
  unfold lgR lgOf
  have q := hQ.2.2.2.1 t ht
  have g : nW w t ≤ 100 := hw.wok.1 t (by have := hQ.1; omega)
  have h9 : nW w 64 ≤ 9 := hw.wok.2.2.2.1
  split
  · have e2 : nmT Q (nW w) t 0 2 = qH Q t := rfl
    have e3 : nmT Q (nW w) t 0 3 = nW w t := rfl
    have e4 : nmT Q (nW w) t 0 4 = nW w 64 := rfl
    rw [e2, e3, e4]
    have ha : (if nW w 64 < 5 then 5 - nW w 64 else nW w 64 - 5) ≤ 5 := by split <;> omega
    generalize (if nW w 64 < 5 then 5 - nW w 64 else nW w 64 - 5) = a at ha
    have hm1 : qH Q t * nW w t ≤ 99 * 100 := Nat.mul_le_mul q.2.1 g
    have hm2 : qH Q t * nW w t * (1 + a) ≤ 99 * 100 * 6 := Nat.mul_le_mul hm1 (by omega)
    omega
  · exact (hld_to (G := 999)).2
theorem grR_le {Q : Tld} {L : Lws} {w : Rw} {t : Nat} : grR Q L w t ≤ 100 := by
  unfold grR grOf
  split
  · omega
  · exact (hld_to (G := 100)).2
theorem spR_le {L : Lws} {w : Rw} {b : Nat} : spR L w b ≤ 999 := by
  unfold spR spOf
  split
  · omega
  · exact (hld_to (G := 999)).2
theorem seR_le {L : Lws} {w : Rw} {b : Nat} (hw : WR w) (hb : b < 12) : seR L w b ≤ 9999 := by
  unfold seR seOf
  have := (hw.wok.2.2.1 b hb).2.1
  split
  · show nW w (28 + b) ≤ 9999
    omega
  · exact (hld_to (G := 9999)).2
-- sums, bales
def feR (w : Rw) (bn : Int32) : Nat → Int32
  | 0 => nI 0
  | k + 1 => feR w bn k + (if w (52 + k) = bn then w (28 + k) else nI 0)
def faR (w : Rw) : Nat → Int32
  | 0 => nI 0
  | k + 1 => faR w k + w (28 + k)
def frN (w : Rw) : Nat → Nat → Nat
  | 0, k => k
  | m + 1, k => if w (28 + k) = 0 then k else frN w m (k + 1)
/-- the lowest bale that is none; 12: none of them -/
def frB (w : Rw) : Nat := frN w 12 0
theorem frN_le (w : Rw) : ∀ m k, frN w m k ≤ k + m
  | 0, k => Nat.le_refl _
  | m + 1, k => by
    unfold frN
    split
    · omega
    · have := frN_le w m (k + 1)
      omega
theorem frB_le (w : Rw) : frB w ≤ 12 := by
  have := frN_le w 12 0
  unfold frB
  omega
theorem frN_z (w : Rw) : ∀ m k, frN w m k < k + m → w (28 + frN w m k) = 0
  | 0, k, h => absurd h (Nat.lt_irrefl _)
  | m + 1, k, h => by
    unfold frN at h ⊢
    split
    · assumption
    · rename_i e
      rw [if_neg e] at h
      exact frN_z w m (k + 1) (by omega)
theorem frB_z {w : Rw} (h : frB w < 12) : w (28 + frB w) = 0 := frN_z w 12 0 (by unfold frB at h; omega)
/-- a bale's number, or NONE -/
def bI (b : Nat) : Int32 := if b = 12 then -1 else nI b
theorem bI_12 : bI 12 = -1 := rfl
theorem bI_b {b : Nat} (h : b < 12) : bI b = nI b := if_neg (by omega)
theorem bI_n {b : Nat} (h : b ≤ 12) : bI b = -1 ↔ b = 12 := by
  have y : ∀ b, b < 13 → (bI b = -1 ↔ b = 12) := by decide
  exact y b (by omega)
def baI (w : Rw) (b : Nat) (kd len bn : Int32) : Rw := upd (upd (upd (upd w (16 + b) kd) (28 + b) len) (40 + b) (nI 0)) (52 + b) bn
def shR (w : Rw) (b : Nat) (x : Int32) : Rw := if 0 < w (28 + b) - x then upd w (28 + b) (w (28 + b) - x) else baI (upd w (28 + b) (w (28 + b) - x)) b (nI 0) (nI 0) (nI 0)
def ltR (x y : Int32) : Int32 := if x < y then x else y
def isR (Q : Tld) (w : Rw) (bn : Nat) (len : Int32) : Bool := decide (feR w (nI bn) 12 + len ≤ nI (qM Q bn))
/-- the darkest bale of a barn (of all: NONE), the lowest of like ones; 12: none -/
def dkN (w : Rw) (bn : Int32) : Nat → Nat
  | 0 => 12
  | k + 1 => if 0 < w (28 + k) ∧ (bn = -1 ∨ w (52 + k) = bn) ∧ (dkN w bn k = 12 ∨ w (40 + dkN w bn k) < w (40 + k)) then k else dkN w bn k
theorem dkN_le (w : Rw) (bn : Int32) : ∀ k, k ≤ 12 → dkN w bn k ≤ 12 ∧ (dkN w bn k = 12 ∨ dkN w bn k < k)
  | 0, _ => ⟨Nat.le_refl _, Or.inl rfl⟩
  | k + 1, h => by
    have := dkN_le w bn k (by omega)
    unfold dkN
    split
    · omega
    · omega
/-- feet used: so many rounds at most -/
def usN (bn : Int32) : Nat → Rw → Int32 → Rw
  | 0, w, _ => w
  | n + 1, w, x => if 0 < x then usN bn n (shR w (dkN w bn 12) (ltR x (w (28 + dkN w bn 12)))) (x - ltR x (w (28 + dkN w bn 12))) else w
/-- the rounds are enough, each finds a bale -/
def usG (bn : Int32) : Nat → Rw → Int32 → Prop
  | 0, _, x => ¬ 0 < x
  | n + 1, w, x => 0 < x → dkN w bn 12 < 12 ∧ 0 < w (28 + dkN w bn 12) ∧ usG bn n (shR w (dkN w bn 12) (ltR x (w (28 + dkN w bn 12)))) (x - ltR x (w (28 + dkN w bn 12)))
def seW (L : Lws) (w : Rw) (b : Nat) : Rw := baI (upd w 67 (w 67 + nI (seR L w b))) b (nI 0) (nI 0) (nI 0)
-- draws
def drv (w : Rw) (m : Int32) : Int32 := w 68 - w 68 / m * m
def dr (w : Rw) : Rw := upd w 68 (w 68 * nI 287 + nI 191 - (w 68 * nI 287 + nI 191) / nI 30313 * nI 30313)
-- days
def dw0 (w : Rw) : Rw := upd (dr (upd (upd w 64 (nI 0)) 65 (w 65 + nI 1))) 66 (drv w (nI 10))
def gwN (Q : Tld) (L : Lws) : Nat → Rw → Nat → Rw
  | 0, w, _ => w
  | m + 1, w, t => if w 66 < nI 8 then gwN Q L m (upd w t (ltR (nI 100) (w t + nI (grR Q L w t)))) (t + 1) else w
def spN (L : Lws) : Nat → Rw → Nat → Rw
  | 0, w, _ => w
  | m + 1, w, b => if 0 < w (28 + b) then spN L m (shR (upd w (40 + b) (ltR (nI 99) (w (40 + b) + nI 1))) b (nI (spR L w b))) (b + 1) else spN L m w (b + 1)
def dayR (Q : Tld) (L : Lws) (w : Rw) : Rw := spN L 12 (gwN Q L (qT Q) (dw0 w) 0) 0
def hr0 (w : Rw) : Rw := upd (upd (upd (upd (upd w 64 (w 64 + nI 1)) 12 (nI 0)) 13 (nI 0)) 14 (nI 0)) 15 (nI 0)
def hrR (Q : Tld) (L : Lws) (w : Rw) : Rw := if w 64 + nI 1 = nI 10 then dayR Q L (hr0 w) else hr0 w
def cnP (w : Rw) : Bool := decide (w 65 < nI 999) || decide (w 64 < nI 9)
def ptR (Q : Tld) (L : Lws) : Nat → Rw → Rw
  | 0, w => w
  | n + 1, w => if cnP w then ptR Q L n (hrR Q L w) else w
-- a cut: the bale (12: it can't be), the row
def cuOK (Q : Tld) (L : Lws) (w : Rw) (t r bn : Nat) : Bool := !(decide (w (8 + r) = nI 1)) && !(decide (w (12 + r) = nI 1)) && maR Q L w t (lgR Q L w t) && !(decide (lgR Q L w t = 0)) && !(decide (frB w = 12)) && isR Q w bn (ltR (nI (lgR Q L w t)) (nI (qC Q r)))
def cuG (Q : Tld) (L : Lws) (w : Rw) (t r bn : Nat) : Rw := baI w (frB w) (nI (qK Q t)) (ltR (nI (lgR Q L w t)) (nI (qC Q r))) (nI bn)
def cuW (Q : Tld) (L : Lws) (w : Rw) (t r bn : Nat) : Rw := upd (upd (cuG Q L w t r bn) t (cuG Q L w t r bn t - cuG Q L w t r bn t * ltR (nI (lgR Q L w t)) (nI (qC Q r)) / nI (lgR Q L w t))) (12 + r) (nI 1)
def cuB (Q : Tld) (L : Lws) (w : Rw) (t r bn : Nat) : Nat := if cuOK Q L w t r bn then frB w else 12
def cuR (Q : Tld) (L : Lws) (w : Rw) (t r bn : Nat) : Rw := if cuOK Q L w t r bn then cuW Q L w t r bn else w
def laOK (Q : Tld) (w : Rw) (r bn : Nat) : Bool := !(decide (w (8 + r) = nI 1)) && !(decide (frB w = 12)) && isR Q w bn (nI (qC Q r))
def laW (Q : Tld) (w : Rw) (r bn : Nat) : Rw := upd (baI w (frB w) (nI 5) (nI (qC Q r)) (nI bn)) (8 + r) (nI 1)
-- what happens in a decade
def dN (w : Rw) (m : Nat) : Nat := (drv w (nI m)).toNatClampNeg
def hp0 (Q : Tld) (L : Lws) (w : Rw) : Rw := cuR Q L (dr (dr (dr w))) (dN w (qT Q)) (dN (dr w) (qR Q)) (dN (dr (dr w)) (qB Q))
def hp1 (L : Lws) (w : Rw) : Rw := if 0 < dr w (28 + dN w 12) then seW L (dr w) (dN w 12) else dr w
def hp2 (w : Rw) : Rw := if 0 < dr (dr w) (28 + dN w 12) then shR (dr (dr w)) (dN w 12) (nI 1 + drv (dr w) (nI 20)) else dr (dr w)
def hpR (Q : Tld) (L : Lws) (w : Rw) : Rw := if dN w 6 = 0 then hp0 Q L (dr w) else if dN w 6 = 1 then hp1 L (dr w) else if dN w 6 = 2 then hp2 (dr w) else ptR Q L 1 (dr w)
def hpN (Q : Tld) (L : Lws) : Nat → Rw → Rw
  | 0, w => w
  | n + 1, w => hpN Q L n (hpR Q L w)
/-- the world that is laid -/
def wLay (I : XI) : Rw := fun k => if k < 69 then I 68 (60 + k) else I 93 k
def kep (I : XI) : Rw := fun j => if 60 ≤ j ∧ j < 129 then I 93 (j - 60) else I 68 j
theorem upd_s {f : Nat → Int32} {k : Nat} {v : Int32} : upd f k v k = v := by simp [upd]
theorem upd_n {f : Nat → Int32} {k j : Nat} {v : Int32} (h : j ≠ k) : upd f k v j = f j := by simp [upd, h]
theorem drv_t {w : Rw} {m : Nat} (hx : ∃ n, w 68 = nI n ∧ n < 30313) (h0 : 0 < m) (hm : m < 1000) : ∃ n, drv w (nI m) = nI n ∧ n < m ∧ dN w m = n := by
  obtain ⟨x, e, hx⟩ := hx
  have h1 : x / m ≤ x := Nat.div_le_self _ _
  have h2 : x / m * m ≤ x := Nat.div_mul_le_self _ _
  have e1 : drv w (nI m) = nI (x % m) := by
    unfold drv
    rw [e]
    have ed : nI x / nI m = nI (x / m) := by
      apply Int32.toInt_inj.mp
      have hne : nI m ≠ -1 := fun z => by
        have z := congrArg Int32.toInt z
        rw [nI_toInt (by omega), show (-1 : Int32).toInt = -1 by decide] at z
        omega
      rw [Int32.toInt_div_of_ne_right _ _ hne, nI_toInt (by omega), nI_toInt (by omega), nI_toInt (by omega), Int.tdiv_eq_ediv_of_nonneg (by omega)]
      omega
    rw [ed, nI_mul, nI_subI h2 (by omega)]
    congr 1
    have := Nat.div_add_mod x m
    rw [Nat.mul_comm] at this
    omega
  refine ⟨x % m, e1, Nat.mod_lt _ h0, ?_⟩
  unfold dN
  rw [e1]
  have := Nat.mod_lt x h0
  exact nI_clamp (by omega)
theorem dr_x {w : Rw} (hx : ∃ n, w 68 = nI n ∧ n < 30313) : ∃ n, dr w 68 = nI n ∧ n < 30313 := by
  obtain ⟨x, e, hx⟩ := hx
  have y := drv_t (w := fun _ => nI ((x * 287 + 191) % 30313)) (m := 1) ⟨_, rfl, Nat.mod_lt _ (by decide)⟩ (by decide) (by decide)
  refine ⟨(x * 287 + 191) % 30313, ?_, Nat.mod_lt _ (by decide)⟩
  show upd w 68 _ 68 = _
  rw [upd_s, e, nI_mul, nI_add]
  have ed : nI (x * 287 + 191) / nI 30313 = nI ((x * 287 + 191) / 30313) := by
    apply Int32.toInt_inj.mp
    rw [Int32.toInt_div_of_ne_right _ _ (by decide), nI_toInt (by omega), nI_toInt (by omega), nI_toInt (by omega), Int.tdiv_eq_ediv_of_nonneg (by omega)]
    omega
  rw [ed, nI_mul, nI_subI (by omega) (by omega)]
  congr 1
  omega
end
section
-- ===== the ranges are kept =====
theorem uI_rd {I : XI} {p k : Nat} {v : Int32} : uI I p k v p k = v := by
  rw [uI_eq]
  exact upd_s
theorem hld_id {y G : Nat} (h : y ≤ G) : (hld (y : Int) 0 G).toNat = y := by
  unfold hld
  rw [if_neg (by omega), if_neg (by omega)]
  rfl
theorem nW_lt (w : Rw) (k : Nat) : nW w k < 2 ^ 31 := by
  have := Int32.toInt_lt (w k)
  unfold nW
  unfold Int32.toNatClampNeg
  omega
theorem nlt {a b : Nat} (ha : a < 2 ^ 31) (hb : b < 2 ^ 31) : nI a < nI b ↔ a < b := by
  rw [Int32.lt_iff_toInt_lt, nI_toInt ha, nI_toInt hb]
  omega
theorem nle {a b : Nat} (ha : a < 2 ^ 31) (hb : b < 2 ^ 31) : nI a ≤ nI b ↔ a ≤ b := by
  rw [Int32.le_iff_toInt_le, nI_toInt ha, nI_toInt hb]
  omega
theorem npos {a : Nat} (ha : a < 2 ^ 31) : (0 : Int32) < nI a ↔ 0 < a := nlt (a := 0) (by omega) ha
theorem neq0 {a : Nat} (ha : a < 2 ^ 31) : nI a = 0 ↔ a = 0 := by
  constructor
  · intro z
    have z := congrArg Int32.toInt z
    rw [nI_toInt ha, show (0 : Int32).toInt = 0 from rfl] at z
    omega
  · intro z
    rw [z]
    rfl
theorem nsub_neg {a b : Nat} (h : a ≤ b) (hb : b < 2 ^ 31) : ¬ (0 : Int32) < nI a - nI b := by
  rw [Int32.lt_iff_toInt_lt, show (0 : Int32).toInt = 0 from rfl, i32_sub (by rw [nI_toInt (by omega), nI_toInt hb]; omega) (by rw [nI_toInt (by omega), nI_toInt hb]; omega), nI_toInt (by omega), nI_toInt hb]
  omega
theorem ndiv {a b : Nat} (ha : a < 2 ^ 31) (h0 : 0 < b) (hb : b < 2 ^ 31) : nI a / nI b = nI (a / b) := by
  have h1 : a / b ≤ a := Nat.div_le_self _ _
  apply Int32.toInt_inj.mp
  have hne : nI b ≠ -1 := fun z => by
    have z := congrArg Int32.toInt z
    rw [nI_toInt hb, show (-1 : Int32).toInt = -1 by decide] at z
    omega
  rw [Int32.toInt_div_of_ne_right _ _ hne, nI_toInt ha, nI_toInt hb, nI_toInt (by omega), Int.tdiv_eq_ediv_of_nonneg (by omega)]
  exact (Int.natCast_ediv a b).symm
theorem WR.u {w : Rw} (h : WR w) {i : Nat} {v : Int32} (hv : i < 69 → i ≠ 67 → okC i v) : WR (upd w i v) := by
  intro k hk h67
  by_cases e : k = i
  · subst e
    rw [upd_s]
    exact hv hk h67
  · rw [upd_n e]
    exact h k hk h67
theorem okC.mk {k n : Nat} (h : n ≤ bdW k) : okC k (nI n) := ⟨n, rfl, h⟩
/-- in range, but perhaps the length of bale b -/
def WRx (b : Nat) (w : Rw) : Prop := ∀ k, k < 69 → k ≠ 67 → k ≠ 28 + b → okC k (w k)
theorem WR.x {w : Rw} {b : Nat} (h : WR w) : WRx b w := fun k a c _ => h k a c
theorem WRx.ba {w : Rw} {b kd len bn : Nat} (h : WRx b w) (hb : b < 12) (h1 : kd ≤ 5) (h2 : len ≤ 999) (h3 : bn ≤ 3) : WR (baI w b (nI kd) (nI len) (nI bn)) := by
  intro k hk h67
  unfold baI
  by_cases e1 : k = 52 + b
  · subst e1
    rw [upd_s]
    exact okC.mk (by rw [bd_6 (by omega) (by omega)]; exact h3)
  · rw [upd_n e1]
    by_cases e2 : k = 40 + b
    · subst e2
      rw [upd_s]
      exact okC.mk (by omega)
    · rw [upd_n e2]
      by_cases e3 : k = 28 + b
      · subst e3
        rw [upd_s]
        exact okC.mk (by rw [bd_4 (by omega) (by omega)]; exact h2)
      · rw [upd_n e3]
        by_cases e4 : k = 16 + b
        · subst e4
          rw [upd_s]
          exact okC.mk (by rw [bd_3 (by omega) (by omega)]; exact h1)
        · rw [upd_n e4]
          exact h k hk h67 e3
theorem WR.x28 {w : Rw} {b : Nat} {v : Int32} (h : WR w) : WRx b (upd w (28 + b) v) := fun k a c e => by
  rw [upd_n e]
  exact h k a c
theorem WR.len {w : Rw} (h : WR w) {b : Nat} (hb : b < 12) : ∃ a, w (28 + b) = nI a ∧ a ≤ 999 := by
  obtain ⟨a, e, ha⟩ := h (28 + b) (by omega) (by omega)
  rw [bd_4 (by omega) (by omega)] at ha
  exact ⟨a, e, ha⟩
/-- a bale is less by y: what becomes of the row -/
theorem shR_eq {w : Rw} {b a y : Nat} (e : w (28 + b) = nI a) (ha : a ≤ 999) (hy : y ≤ 9999) : shR w b (nI y) = if y < a then upd w (28 + b) (nI (a - y)) else baI (upd w (28 + b) (nI a - nI y)) b (nI 0) (nI 0) (nI 0) := by
  unfold shR
  rw [e]
  by_cases c : y < a
  · rw [if_pos c, nI_subI (by omega) (by omega), if_pos ((npos (by omega)).mpr (by omega))]
  · rw [if_neg c, if_neg (nsub_neg (by omega) (by omega))]
theorem WR.sh {w : Rw} (h : WR w) {b y : Nat} (hb : b < 12) (hy : y ≤ 9999) : WR (shR w b (nI y)) := by
  obtain ⟨a, e, ha⟩ := h.len hb
  rw [shR_eq e ha hy]
  split
  · exact h.u (fun _ _ => okC.mk (by rw [bd_4 (by omega) (by omega)]; omega))
  · exact (h.x28).ba hb (by omega) (by omega) (by omega)
theorem WR.x68 {w : Rw} (h : WR w) : ∃ n, w 68 = nI n ∧ n < 30313 := by
  obtain ⟨n, e, hn⟩ := h 68 (by decide) (by decide)
  have z : bdW 68 = 30312 := by decide
  exact ⟨n, e, by omega⟩
theorem WR.d {w : Rw} (h : WR w) : WR (dr w) := by
  obtain ⟨n, e, hn⟩ := dr_x h.x68
  intro k hk h67
  by_cases z : k = 68
  · subst z
    have y : bdW 68 = 30312 := by decide
    exact ⟨n, e, by omega⟩
  · show okC k (upd w 68 _ k)
    rw [upd_n z]
    exact h k hk h67
theorem WR.dv {w : Rw} (h : WR w) {m : Nat} (h0 : 0 < m) (hm : m < 1000) : drv w (nI m) = nI (dN w m) ∧ dN w m < m := by
  obtain ⟨n, a, b, c⟩ := drv_t h.x68 h0 hm
  rw [c]
  exact ⟨a, b⟩
theorem WR.se {L : Lws} {w : Rw} (h : WR w) {b : Nat} (hb : b < 12) : WR (seW L w b) := (WR.x (h.u (fun _ z => absurd rfl z))).ba hb (by omega) (by omega) (by omega)
theorem ltR_n {a b : Nat} (ha : a < 2 ^ 31) (hb : b < 2 ^ 31) : ltR (nI a) (nI b) = nI (if a < b then a else b) := by
  unfold ltR
  by_cases c : a < b
  · rw [if_pos ((nlt ha hb).mpr c), if_pos c]
  · rw [if_neg (fun z => c ((nlt ha hb).mp z)), if_neg c]
theorem WR.gw {Q : Tld} {L : Lws} (hQ : qT Q ≤ 8) : ∀ (m : Nat) (w : Rw) (t : Nat), t + m ≤ 8 → WR w → WR (gwN Q L m w t)
  | 0, w, t, _, h => h
  | m + 1, w, t, ht, h => by
    unfold gwN
    split
    · refine WR.gw hQ m _ (t + 1) (by omega) (h.u (fun _ _ => ?_))
      have g := (h t (by omega) (by omega)).nw
      rw [bd_1 (by omega)] at g
      have r := grR_le (Q := Q) (L := L) (w := w) (t := t)
      rw [g.1, nI_add, ltR_n (by omega) (by omega)]
      refine okC.mk ?_
      rw [bd_1 (by omega)]
      split <;> omega
    · exact h
theorem WR.sp {L : Lws} : ∀ (m : Nat) (w : Rw) (b : Nat), b + m ≤ 12 → WR w → WR (spN L m w b)
  | 0, w, b, _, h => h
  | m + 1, w, b, hb, h => by
    unfold spN
    split
    · have g := (h (40 + b) (by omega) (by omega)).nw
      rw [bd_5 (by omega) (by omega)] at g
      have r := spR_le (L := L) (w := w) (b := b)
      refine WR.sp m _ (b + 1) (by omega) (WR.sh (h.u (fun _ _ => ?_)) (by omega) (by omega))
      rw [g.1, nI_add, ltR_n (by omega) (by omega)]
      refine okC.mk ?_
      rw [bd_5 (by omega) (by omega)]
      split <;> omega
    · exact WR.sp m w (b + 1) (by omega) h
theorem WR.h0r {w : Rw} (h : WR w) (h9 : w 64 < nI 9) : WR (hr0 w) := by
  unfold hr0
  have z : ∀ k, 8 ≤ k → k < 16 → okC k (nI 0) := fun k _ _ => okC.mk (Nat.zero_le _)
  refine WR.u (WR.u (WR.u (WR.u (h.u (fun _ _ => ?_)) (fun _ _ => z _ (by decide) (by decide))) (fun _ _ => z _ (by decide) (by decide))) (fun _ _ => z _ (by decide) (by decide))) (fun _ _ => z _ (by decide) (by decide))
  have g := (h 64 (by decide) (by decide)).nw
  have b9 : bdW 64 = 9 := by decide
  rw [g.1] at h9
  have c := (nlt (by omega) (by omega)).mp h9
  rw [g.1, nI_add]
  exact okC.mk (by omega)
theorem WR.dw {w : Rw} (h : ∀ k, k < 69 → k ≠ 67 → k ≠ 64 → okC k (w k)) (h65 : w 65 < nI 999) : WR (dw0 w) := by
  have h68 : ∃ n, w 68 = nI n ∧ n < 30313 := by
    obtain ⟨n, e, hn⟩ := h 68 (by decide) (by decide) (by decide)
    have z : bdW 68 = 30312 := by decide
    exact ⟨n, e, by omega⟩
  have w0 : WR (upd (upd w 64 (nI 0)) 65 (w 65 + nI 1)) := by
    intro k hk h67
    by_cases e : k = 65
    · subst e
      rw [upd_s]
      obtain ⟨n, e, hn⟩ := h 65 (by decide) (by decide) (by decide)
      have b9 : bdW 65 = 999 := by decide
      rw [e] at h65 ⊢
      have c := (nlt (by omega) (by omega)).mp h65
      rw [nI_add]
      exact okC.mk (by omega)
    · rw [upd_n e]
      by_cases e2 : k = 64
      · subst e2
        rw [upd_s]
        exact okC.mk (Nat.zero_le _)
      · rw [upd_n e2]
        exact h k hk h67 e2
  unfold dw0
  refine WR.u w0.d (fun _ _ => ?_)
  obtain ⟨n, a, b, c⟩ := drv_t (m := 10) h68 (by decide) (by decide)
  rw [a]
  have b9 : bdW 66 = 9 := by decide
  exact okC.mk (by omega)
/-- as an hour has passed, the tenth: all is in range but the hour -/
theorem WR.h0x {w : Rw} (h : WR w) (hc : cnP w = true) (e : w 64 + nI 1 = nI 10) : (∀ k, k < 69 → k ≠ 67 → k ≠ 64 → okC k (hr0 w k)) ∧ hr0 w 65 < nI 999 := by
  have g := (h 64 (by decide) (by decide)).nw
  have b9 : bdW 64 = 9 := by decide
  unfold cnP at hc
  rw [Bool.or_eq_true] at hc
  rw [g.1, nI_add] at e
  have e9 : nW w 64 + 1 = 10 := nI_small e (by omega) (by omega)
  refine ⟨fun k hk h67 h64 => ?_, ?_⟩
  · unfold hr0
    by_cases e15 : k = 15
    · subst e15; exact okC.mk (Nat.zero_le _)
    by_cases e14 : k = 14
    · subst e14; exact okC.mk (Nat.zero_le _)
    by_cases e13 : k = 13
    · subst e13; exact okC.mk (Nat.zero_le _)
    by_cases e12 : k = 12
    · subst e12; exact okC.mk (Nat.zero_le _)
    rw [upd_n e15, upd_n e14, upd_n e13, upd_n e12, upd_n h64]
    exact h k hk h67
  · show w 65 < nI 999
    rcases hc with hc | hc
    · exact of_decide_eq_true hc
    · exfalso
      have y := of_decide_eq_true hc
      rw [g.1] at y
      have := (nlt (by omega) (by omega)).mp y
      omega
theorem WR.w0 {w : Rw} (h : WR w) (hc : cnP w = true) (e : w 64 + nI 1 = nI 10) : WR (dw0 (hr0 w)) := WR.dw (h.h0x hc e).1 (h.h0x hc e).2
theorem WR.day {Q : Tld} {L : Lws} (hQ : qT Q ≤ 8) {w : Rw} (h : WR (dw0 w)) : WR (dayR Q L w) := by
  unfold dayR
  exact WR.sp 12 _ 0 (by omega) (WR.gw hQ _ _ 0 (by omega) h)
theorem WR.hr {Q : Tld} {L : Lws} (hQ : qT Q ≤ 8) {w : Rw} (h : WR w) (hc : cnP w = true) : WR (hrR Q L w) := by
  have g := (h 64 (by decide) (by decide)).nw
  have b9 : bdW 64 = 9 := by decide
  unfold hrR
  split
  · exact WR.day hQ (h.w0 hc (by assumption))
  · rename_i e
    refine h.h0r ?_
    rw [g.1]
    refine (nlt (by omega) (by omega)).mpr ?_
    have ne : nW w 64 + 1 ≠ 10 := fun z => e (by rw [g.1, nI_add, z])
    omega
theorem WR.pt {Q : Tld} {L : Lws} (hQ : qT Q ≤ 8) : ∀ (n : Nat) (w : Rw), WR w → WR (ptR Q L n w)
  | 0, w, h => h
  | n + 1, w, h => by
    unfold ptR
    split
    · exact WR.pt hQ n _ (h.hr hQ (by assumption))
    · exact h
theorem cuOK_el {Q : Tld} {L : Lws} {w : Rw} {t r bn : Nat} (h : cuOK Q L w t r bn = true) : ¬ w (8 + r) = nI 1 ∧ ¬ w (12 + r) = nI 1 ∧ maR Q L w t (lgR Q L w t) = true ∧ ¬ lgR Q L w t = 0 ∧ ¬ frB w = 12 ∧ isR Q w bn (ltR (nI (lgR Q L w t)) (nI (qC Q r))) = true := by
  unfold cuOK at h
  simp only [Bool.and_eq_true, Bool.not_eq_true', decide_eq_false_iff_not] at h
  obtain ⟨⟨⟨⟨⟨a, b⟩, c⟩, d⟩, e⟩, f⟩ := h
  exact ⟨a, b, c, d, e, f⟩
/-- as long as the shadow, the reach at most -/
def cuL (Q : Tld) (L : Lws) (w : Rw) (t r : Nat) : Nat := if lgR Q L w t < qC Q r then lgR Q L w t else qC Q r
theorem cuL_eq {Q : Tld} {L : Lws} {w : Rw} {t r : Nat} (hQ : TOK Q) (hw : WR w) (ht : t < qT Q) (hr : r < qR Q) : ltR (nI (lgR Q L w t)) (nI (qC Q r)) = nI (cuL Q L w t r) ∧ cuL Q L w t r ≤ 99 ∧ cuL Q L w t r ≤ lgR Q L w t := by
  have a := lgR_le (L := L) hQ hw ht
  have b := hQ.2.2.2.2.1 r hr
  unfold cuL
  refine ⟨ltR_n (by omega) (by omega), ?_, ?_⟩ <;> split <;> omega
theorem cuG_t {Q : Tld} {L : Lws} {w : Rw} {t r bn : Nat} (ht : t < 16) : cuG Q L w t r bn t = w t := by
  unfold cuG baI
  rw [upd_n (by omega), upd_n (by omega), upd_n (by omega), upd_n (by omega)]
theorem cut_g {g n s : Nat} (hg : g ≤ 100) (hn : n ≤ s) (hs : 0 < s) (hs2 : s ≤ 999) : nI g - nI g * nI n / nI s = nI (g - g * n / s) ∧ g * n / s ≤ g := by
  have h1 : g * n ≤ 100 * 999 := Nat.mul_le_mul hg (by omega)
  have h2 : g * n / s ≤ g := by
    have : g * n / s ≤ g * s / s := Nat.div_le_div_right (Nat.mul_le_mul_left g hn)
    rw [Nat.mul_div_cancel _ hs] at this
    exact this
  rw [nI_mul, ndiv (by omega) hs (by omega), nI_subI h2 (by omega)]
  exact ⟨rfl, h2⟩
theorem WR.cW {Q : Tld} {L : Lws} {w : Rw} {t r bn : Nat} (hQ : TOK Q) (h : WR w) (ht : t < qT Q) (hr : r < qR Q) (hb : bn < qB Q) (hc : cuOK Q L w t r bn = true) : WR (cuW Q L w t r bn) := by
  obtain ⟨c1, c2, c3, c4, c5, c6⟩ := cuOK_el hc
  obtain ⟨l1, l2, l3⟩ := cuL_eq (L := L) hQ h ht hr
  have fb := frB_le w
  have q := hQ.2.2.2.1 t ht
  have ls := lgR_le (L := L) hQ h ht
  have t8 := hQ.1
  have r4 := hQ.2.1
  have b4 := hQ.2.2.1
  have g := (h t (by omega) (by omega)).nw
  rw [bd_1 (by omega)] at g
  unfold cuW
  have wG : WR (cuG Q L w t r bn) := by
    unfold cuG
    rw [l1]
    exact h.x.ba (by omega) q.2.2.1 (by omega) (by omega)
  refine WR.u (wG.u (fun _ _ => ?_)) (fun _ _ => okC.mk (by rw [bd_2 (by omega) (by omega)]; omega))
  rw [cuG_t (by omega), g.1, l1, (cut_g g.2 l3 (by omega) ls).1]
  exact okC.mk (by rw [bd_1 (by omega)]; exact Nat.le_trans (Nat.sub_le _ _) g.2)
theorem WR.cu {Q : Tld} {L : Lws} {w : Rw} {t r bn : Nat} (hQ : TOK Q) (h : WR w) (ht : t < qT Q) (hr : r < qR Q) (hb : bn < qB Q) : WR (cuR Q L w t r bn) := by
  unfold cuR
  split
  · exact h.cW hQ ht hr hb (by assumption)
  · exact h
theorem laOK_el {Q : Tld} {w : Rw} {r bn : Nat} (h : laOK Q w r bn = true) : ¬ w (8 + r) = nI 1 ∧ ¬ frB w = 12 ∧ isR Q w bn (nI (qC Q r)) = true := by
  unfold laOK at h
  simp only [Bool.and_eq_true, Bool.not_eq_true', decide_eq_false_iff_not] at h
  obtain ⟨⟨a, b⟩, c⟩ := h
  exact ⟨a, b, c⟩
theorem WR.la {Q : Tld} {w : Rw} {r bn : Nat} (hQ : TOK Q) (h : WR w) (hr : r < qR Q) (hb : bn < qB Q) (hc : laOK Q w r bn = true) : WR (laW Q w r bn) := by
  obtain ⟨c1, c2, c3⟩ := laOK_el hc
  have fb := frB_le w
  have r4 := hQ.2.1
  have b4 := hQ.2.2.1
  have q := hQ.2.2.2.2.1 r hr
  unfold laW
  exact WR.u (h.x.ba (by omega) (by omega) (by omega) (by omega)) (fun _ _ => okC.mk (by rw [bd_2 (by omega) (by omega)]; omega))
theorem WR.hp {Q : Tld} {L : Lws} {w : Rw} (hQ : TOK Q) (h : WR w) (t0 : 0 < qT Q) (r0 : 0 < qR Q) (b0 : 0 < qB Q) : WR (hpR Q L w) := by
  have t8 := hQ.1
  have r4 := hQ.2.1
  have b4 := hQ.2.2.1
  have w1 := h.d
  unfold hpR
  split
  · unfold hp0
    exact w1.d.d.d.cu hQ (w1.dv t0 (by omega)).2 (w1.d.dv r0 (by omega)).2 (w1.d.d.dv b0 (by omega)).2
  · split
    · unfold hp1
      have n12 := (w1.dv (m := 12) (by decide) (by decide)).2
      split
      · exact w1.d.se n12
      · exact w1.d
    · split
      · unfold hp2
        have n12 := (w1.dv (m := 12) (by decide) (by decide)).2
        have n20 := w1.d.dv (m := 20) (by decide) (by decide)
        split
        · rw [n20.1, nI_add]
          exact w1.d.d.sh n12 (by omega)
        · exact w1.d.d
      · exact w1.pt t8 1
theorem WR.hN {Q : Tld} {L : Lws} (hQ : TOK Q) (t0 : 0 < qT Q) (r0 : 0 < qR Q) (b0 : 0 < qB Q) : ∀ (n : Nat) (w : Rw), WR w → WR (hpN Q L n w)
  | 0, w, h => h
  | n + 1, w, h => WR.hN hQ t0 r0 b0 n _ (h.hp hQ t0 r0 b0)
-- feet used
theorem dkN_s (w : Rw) (bn : Int32) : ∀ k, k ≤ 12 → dkN w bn k < 12 → 0 < w (28 + dkN w bn k) ∧ (bn = -1 ∨ w (52 + dkN w bn k) = bn)
  | 0, _, h => absurd h (Nat.lt_irrefl _)
  | k + 1, hk, h => by
    unfold dkN at h ⊢
    split
    · rename_i c
      exact ⟨c.1, c.2.1⟩
    · rename_i c
      rw [if_neg c] at h
      exact dkN_s w bn k (by omega) h
theorem dkN_n (w : Rw) (bn : Int32) : ∀ k, k ≤ 12 → dkN w bn k = 12 → ∀ j, j < k → ¬ (0 < w (28 + j) ∧ (bn = -1 ∨ w (52 + j) = bn))
  | 0, _, _, j, hj => absurd hj (Nat.not_lt_zero _)
  | k + 1, hk, h, j, hj => by
    unfold dkN at h
    split at h
    · omega
    · rename_i c
      intro z
      by_cases e : j = k
      · subst e
        exact c ⟨z.1, z.2, Or.inl h⟩
      · exact dkN_n w bn k (by omega) h j (by omega) z
def smF (f : Nat → Nat) : Nat → Nat
  | 0 => 0
  | k + 1 => smF f k + f k
theorem smF_cut {f g : Nat → Nat} {b : Nat} (h : ∀ j, j ≠ b → g j = f j) (hb : g b = 0) : ∀ k, smF f k = smF g k + (if b < k then f b else 0)
  | 0 => rfl
  | k + 1 => by
    have ih := smF_cut h hb k
    unfold smF
    by_cases e : k = b
    · subst e
      rw [ih, hb, if_neg (Nat.lt_irrefl _), if_pos (Nat.lt_succ_self _)]
    · rw [ih, h k e]
      by_cases z : b < k
      · rw [if_pos z, if_pos (by omega)]
        omega
      · rw [if_neg z, if_neg (by omega)]
        omega
theorem smF_0 {f : Nat → Nat} : ∀ {k : Nat}, (∀ j, j < k → f j = 0) → smF f k = 0
  | 0, _ => rfl
  | k + 1, h => by
    unfold smF
    rw [smF_0 (fun j hj => h j (by omega)), h k (Nat.lt_succ_self _)]
theorem smF_le {f : Nat → Nat} {c : Nat} (h : ∀ j, f j ≤ c) : ∀ k, smF f k ≤ k * c
  | 0 => Nat.zero_le _
  | k + 1 => by
    have := smF_le h k
    have := h k
    unfold smF
    rw [Nat.succ_mul]
    omega
theorem smF_eq {f g : Nat → Nat} : ∀ {k : Nat}, (∀ j, j < k → f j = g j) → smF f k = smF g k
  | 0, _ => rfl
  | k + 1, h => by
    unfold smF
    rw [smF_eq (fun j hj => h j (by omega)), h k (Nat.lt_succ_self _)]
/-- feet that bale j has in the barn; is it one -/
def fjN (w : Rw) (bn : Int32) (j : Nat) : Nat := if bn = -1 ∨ w (52 + j) = bn then nW w (28 + j) else 0
def cjN (w : Rw) (bn : Int32) (j : Nat) : Nat := if fjN w bn j = 0 then 0 else 1
theorem fjN_le {w : Rw} (hw : WR w) {bn : Int32} {j : Nat} (hj : j < 12) : fjN w bn j ≤ 999 := by
  have := (hw.wok.2.2.1 j hj).2.1
  unfold fjN
  split <;> omega
theorem feR_n {w : Rw} (hw : WR w) {bn : Int32} (hb : bn ≠ -1) : ∀ k, k ≤ 12 → feR w bn k = nI (smF (fjN w bn) k)
  | 0, _ => rfl
  | k + 1, hk => by
    show feR w bn k + _ = nI (smF (fjN w bn) k + fjN w bn k)
    rw [feR_n hw hb k (by omega), ← nI_add]
    congr 1
    unfold fjN
    by_cases c : w (52 + k) = bn
    · rw [if_pos c, if_pos (Or.inr c)]
      exact hw.c (by omega) (by omega)
    · rw [if_neg c, if_neg (fun z => z.elim hb c)]
theorem faR_n {w : Rw} (hw : WR w) : ∀ k, k ≤ 12 → faR w k = nI (smF (fjN w (-1)) k)
  | 0, _ => rfl
  | k + 1, hk => by
    show faR w k + _ = nI (smF (fjN w (-1)) k + fjN w (-1) k)
    rw [faR_n hw k (by omega), ← nI_add]
    congr 1
    unfold fjN
    rw [if_pos (Or.inl rfl)]
    exact hw.c (by omega) (by omega)
theorem usG_0 (bn : Int32) : ∀ (n : Nat) (w : Rw), usG bn n w (nI 0)
  | 0, w => by
    show ¬ (0 : Int32) < nI 0
    decide
  | n + 1, w => fun z => absurd z (by decide)
theorem sm_le {w : Rw} (hw : WR w) (bn : Int32) : smF (fjN w bn) 12 ≤ 12 * 999 := by
  have e : smF (fjN w bn) 12 = smF (fun j => if j < 12 then fjN w bn j else 0) 12 := smF_eq (fun j hj => by rw [if_pos hj])
  rw [e]
  exact smF_le (fun j => by
    by_cases h : j < 12
    · rw [if_pos h]
      exact fjN_le hw h
    · rw [if_neg h]
      omega) 12
/-- so many rounds are enough, where there are so many feet -/
theorem us_ok (bn : Int32) : ∀ (n : Nat) (w : Rw) (x : Nat), WR w → smF (cjN w bn) 12 ≤ n → x ≤ smF (fjN w bn) 12 → usG bn n w (nI x) := by
  intro n
  induction n with
  | zero =>
    intro w x hw hc hx
    have h0 : ∀ j, j < 12 → fjN w bn j = 0 := fun j hj => by
      cases e : fjN w bn j with
      | zero => rfl
      | succ m =>
        exfalso
        have key : ∀ k, k ≤ 12 → j < k → 1 ≤ smF (cjN w bn) k := by
          intro k
          induction k with
          | zero => intro _ h; omega
          | succ k ih =>
            intro h1 h2
            unfold smF
            by_cases z : j = k
            · subst z
              have : cjN w bn j = 1 := by
                unfold cjN
                rw [e, if_neg (by omega)]
              omega
            · have := ih (by omega) (by omega)
              omega
        have := key 12 (Nat.le_refl _) hj
        omega
    have : smF (fjN w bn) 12 = 0 := smF_0 h0
    have hx0 : x = 0 := by omega
    subst hx0
    exact usG_0 bn 0 w
  | succ n ih =>
    intro w x hw hc hx
    have sl := sm_le hw bn
    intro hpos
    have hx0 : 0 < x := (npos (by omega)).mp hpos
    have hd : dkN w bn 12 < 12 := by
      rcases Nat.lt_or_ge (dkN w bn 12) 12 with z | z
      · exact z
      · exfalso
        have e12 : dkN w bn 12 = 12 := by
          have := (dkN_le w bn 12 (Nat.le_refl _)).1
          omega
        have hn := dkN_n w bn 12 (Nat.le_refl _) e12
        have : smF (fjN w bn) 12 = 0 := smF_0 (fun j hj => by
          unfold fjN
          by_cases c : bn = -1 ∨ w (52 + j) = bn
          · rw [if_pos c]
            have y : ¬ 0 < w (28 + j) := fun z => hn j hj ⟨z, c⟩
            rw [hw.c (show 28 + j < 69 by omega) (by omega), npos (nW_lt w _)] at y
            omega
          · rw [if_neg c])
        omega
    have hs := dkN_s w bn 12 (Nat.le_refl _) hd
    generalize dkN w bn 12 = b at hd hs
    obtain ⟨a, ea, ha⟩ := hw.len hd
    have hb0 : 0 < a := by
      have := hs.1
      rw [ea] at this
      exact (npos (by omega)).mp this
    have na : nW w (28 + b) = a := by
      unfold nW
      rw [ea]
      exact nI_clamp (by omega)
    have fb : fjN w bn b = a := by
      unfold fjN
      rw [if_pos hs.2, na]
    refine ⟨hd, hs.1, ?_⟩
    rw [ea, ltR_n (by omega) (by omega)]
    by_cases c : x < a
    · rw [if_pos c, nI_subI (Nat.le_refl _) (by omega), Nat.sub_self]
      exact usG_0 bn n _
    · rw [if_neg c, nI_subI (by omega) (by omega), shR_eq ea ha (by omega), if_neg (Nat.lt_irrefl _)]
      have hW : WR (baI (upd w (28 + b) (nI a - nI a)) b (nI 0) (nI 0) (nI 0)) := (hw.x28).ba hd (by omega) (by omega) (by omega)
      have v28 : baI (upd w (28 + b) (nI a - nI a)) b (nI 0) (nI 0) (nI 0) (28 + b) = nI 0 := by
        unfold baI
        rw [upd_n (by omega), upd_n (by omega), upd_s]
      have vo : ∀ j, j ≠ b → j < 12 → baI (upd w (28 + b) (nI a - nI a)) b (nI 0) (nI 0) (nI 0) (28 + j) = w (28 + j) ∧ baI (upd w (28 + b) (nI a - nI a)) b (nI 0) (nI 0) (nI 0) (52 + j) = w (52 + j) := fun j hj h12 => by
        unfold baI
        refine ⟨?_, ?_⟩
        · rw [upd_n (by omega), upd_n (by omega), upd_n (by omega), upd_n (by omega), upd_n (by omega)]
        · rw [upd_n (by omega), upd_n (by omega), upd_n (by omega), upd_n (by omega), upd_n (by omega)]
      generalize baI (upd w (28 + b) (nI a - nI a)) b (nI 0) (nI 0) (nI 0) = w' at hW v28 vo
      have g0 : fjN w' bn b = 0 := by
        unfold fjN nW
        rw [v28]
        split <;> rfl
      have go : ∀ j, j ≠ b → j < 12 → fjN w' bn j = fjN w bn j := fun j hj h12 => by
        unfold fjN nW
        rw [(vo j hj h12).1, (vo j hj h12).2]
      have e1 : smF (fjN w bn) 12 = smF (fjN w' bn) 12 + a := by
        have y := smF_cut (f := fun j => if j < 12 then fjN w bn j else 0) (g := fun j => if j < 12 then fjN w' bn j else 0) (b := b) (fun j hj => by
          by_cases h : j < 12
          · show (if j < 12 then _ else _) = (if j < 12 then _ else _)
            rw [if_pos h, if_pos h]
            exact go j hj h
          · show (if j < 12 then _ else _) = (if j < 12 then _ else _)
            rw [if_neg h, if_neg h]) (by show (if b < 12 then _ else _) = _; rw [if_pos hd]; exact g0) 12
        rw [if_pos hd] at y
        rw [smF_eq (f := fjN w bn) (g := fun j => if j < 12 then fjN w bn j else 0) (fun j hj => by rw [if_pos hj]), smF_eq (f := fjN w' bn) (g := fun j => if j < 12 then fjN w' bn j else 0) (fun j hj => by rw [if_pos hj]), y]
        show _ + (if b < 12 then _ else _) = _
        rw [if_pos hd, fb]
      have cb : cjN w bn b = 1 := by
        unfold cjN
        rw [fb, if_neg (by omega)]
      have cg0 : cjN w' bn b = 0 := by
        unfold cjN
        rw [g0, if_pos rfl]
      have e2 : smF (cjN w bn) 12 = smF (cjN w' bn) 12 + 1 := by
        have y := smF_cut (f := fun j => if j < 12 then cjN w bn j else 0) (g := fun j => if j < 12 then cjN w' bn j else 0) (b := b) (fun j hj => by
          by_cases h : j < 12
          · show (if j < 12 then _ else _) = (if j < 12 then _ else _)
            rw [if_pos h, if_pos h]
            unfold cjN
            rw [go j hj h]
          · show (if j < 12 then _ else _) = (if j < 12 then _ else _)
            rw [if_neg h, if_neg h]) (by show (if b < 12 then _ else _) = _; rw [if_pos hd]; exact cg0) 12
        rw [if_pos hd] at y
        rw [smF_eq (f := cjN w bn) (g := fun j => if j < 12 then cjN w bn j else 0) (fun j hj => by rw [if_pos hj]), smF_eq (f := cjN w' bn) (g := fun j => if j < 12 then cjN w' bn j else 0) (fun j hj => by rw [if_pos hj]), y]
        show _ + (if b < 12 then _ else _) = _
        rw [if_pos hd, cb]
      exact ih w' (x - a) hW (by omega) (by omega)
theorem us_12 {bn : Int32} {w : Rw} {x : Nat} (hw : WR w) (hx : x ≤ smF (fjN w bn) 12) : usG bn 12 w (nI x) := us_ok bn 12 w x hw (by
  have y := smF_le (f := cjN w bn) (c := 1) (fun j => by
    unfold cjN
    split <;> omega) 12
  omega) hx
end
section
-- ===== the reference: worlds, exactly =====
set_option maxRecDepth 100000 in
set_option maxHeartbeats 2000000 in
theorem rx_feetIn_loop (l : Launch) (d : Nat) (ru ta : Nat) (rs : List XO) (I : XI) (J : XJ) (Rp : XR) (bn : Int32) (hR : Rp (some (.int (feR (I 93) bn 12))) (shH ru ta rs) I J) : ∀ (m k n : Nat), k + m = 12 → m < n → xrun xxX12 (some .int) false false (shH ru ta rs).length 0 0 none l d tX12_feetIn [4] Rp n 4 [some (.ref 67), some (.int bn), some (.int (feR (I 93) bn k)), some (.int (nI k))] [] (shH ru ta rs) I J 0 0 := by
  intro m
  induction m with
  | zero =>
    intro k n hk hn
    obtain ⟨n, rfl⟩ : ∃ n', n = n' + 1 := ⟨n - 1, by omega⟩
    have hk : k = 12 := by omega
    refine xrun_step fun K hK => ?_
    refine And.intro (fun _ => ?_) (fun z => absurd (show nI 12 ≤ nI k from by subst hk; exact Int32.le_refl _) z)
    subst hk
    exact hR
  | succ m ih =>
    intro k n hk hn
    obtain ⟨n, rfl⟩ : ∃ n', n = n' + 1 := ⟨n - 1, by omega⟩
    have ix0 : ((nI 52) + (nI k)).toNatClampNeg = 52 + k := by rw [show (nI 52) + (nI k) = nI (52 + k) by simp only [nI_add, nI_mul, Nat.zero_add]]; exact nI_clamp (by omega)
    have ix1 : ((nI 28) + (nI k)).toNatClampNeg = 28 + k := by rw [show (nI 28) + (nI k) = nI (28 + k) by simp only [nI_add, nI_mul, Nat.zero_add]]; exact nI_clamp (by omega)
    refine xrun_step fun K hK => ?_
    refine And.intro (fun z => absurd (show nI 12 ≤ nI k from z) (nI_ge (by omega) (by omega))) (fun _ => ?_)
    refine And.intro (show vp_in ((nI 52) + (nI k)) 69 from vx_2 (by omega) (by omega)) ?_
    refine And.intro (fun (h21 : ¬ (I 93 ((nI 52) + (nI k)).toNatClampNeg = bn)) => ?_) (fun (h21 : I 93 ((nI 52) + (nI k)).toNatClampNeg = bn) => ?_)
    · replace h21 : ¬ (I 93 (52 + k) = bn) := by simpa only [ix0, ix1, uI_rd] using h21
      refine hK 4 [some (.ref 67), some (.int bn), some (.int ((feR (I 93) bn k) + (nI 0))), some (.int ((nI k) + 1))] [] (shH ru ta rs) I J 0 0 ?_
      rw [nI_1]
      have e : feR (I 93) bn (k + 1) = feR (I 93) bn k + (if I 93 (52 + k) = bn then I 93 (28 + k) else nI 0) := rfl
      rw [if_neg h21] at e
      rw [← e]
      exact ih (k + 1) n (by omega) (by omega)
    · replace h21 : I 93 (52 + k) = bn := by simpa only [ix0, ix1, uI_rd] using h21
      refine And.intro (show vp_in ((nI 28) + (nI k)) 69 from vx_2 (by omega) (by omega)) ?_
      refine hK 4 [some (.ref 67), some (.int bn), some (.int ((feR (I 93) bn k) + (I 93 ((nI 28) + (nI k)).toNatClampNeg))), some (.int ((nI k) + 1))] [] (shH ru ta rs) I J 0 0 ?_
      simp only [ix0, ix1, uI_rd]
      rw [nI_1]
      have e : feR (I 93) bn (k + 1) = feR (I 93) bn k + (if I 93 (52 + k) = bn then I 93 (28 + k) else nI 0) := rfl
      rw [if_pos h21] at e
      rw [← e]
      exact ih (k + 1) n (by omega) (by omega)
set_option maxRecDepth 100000 in
theorem rx_feetIn (l : Launch) (d : Nat) (ru ta : Nat) (rs : List XO) (I : XI) (J : XJ) (Rp : XR) (bn : Int32) (hR : Rp (some (.int (feR (I 93) bn 12))) (shH ru ta rs) I J) : xm l (d + 1) 0 0 mX12_feetIn [.ref 67, .int bn] (shH ru ta rs) I J Rp := by
  refine xm_ofK 14 (X := xxX12) (t := tX12_feetIn) (stop := [4]) (ini := false) xx12 pl12 rfl kX12_feetIn (fun h => by cases h) (Nat.le_of_ble_eq_true rfl) (fun K hK => ?_)
  exact hK 4 [some (.ref 67), some (.int bn), some (.int (nI 0)), some (.int (nI 0))] [] _ _ _ _ _ (rx_feetIn_loop l d ru ta rs I J Rp bn hR 12 0 14 (by omega) (by omega))
set_option maxRecDepth 100000 in
set_option maxHeartbeats 2000000 in
theorem rx_feetAll_loop (l : Launch) (d : Nat) (ru ta : Nat) (rs : List XO) (I : XI) (J : XJ) (Rp : XR)  (hR : Rp (some (.int (faR (I 93) 12))) (shH ru ta rs) I J) : ∀ (m k n : Nat), k + m = 12 → m < n → xrun xxX12 (some .int) false false (shH ru ta rs).length 0 0 none l d tX12_feetInAll [4] Rp n 4 [some (.ref 67), some (.int (faR (I 93) k)), some (.int (nI k))] [] (shH ru ta rs) I J 0 0 := by
  intro m
  induction m with
  | zero =>
    intro k n hk hn
    obtain ⟨n, rfl⟩ : ∃ n', n = n' + 1 := ⟨n - 1, by omega⟩
    have hk : k = 12 := by omega
    refine xrun_step fun K hK => ?_
    refine And.intro (fun _ => ?_) (fun z => absurd (show nI 12 ≤ nI k from by subst hk; exact Int32.le_refl _) z)
    subst hk
    exact hR
  | succ m ih =>
    intro k n hk hn
    obtain ⟨n, rfl⟩ : ∃ n', n = n' + 1 := ⟨n - 1, by omega⟩
    have ix0 : ((nI 28) + (nI k)).toNatClampNeg = 28 + k := by rw [show (nI 28) + (nI k) = nI (28 + k) by simp only [nI_add, nI_mul, Nat.zero_add]]; exact nI_clamp (by omega)
    refine xrun_step fun K hK => ?_
    refine And.intro (fun z => absurd (show nI 12 ≤ nI k from z) (nI_ge (by omega) (by omega))) (fun _ => ?_)
    refine And.intro (show vp_in ((nI 28) + (nI k)) 69 from vx_2 (by omega) (by omega)) ?_
    refine hK 4 [some (.ref 67), some (.int ((faR (I 93) k) + (I 93 ((nI 28) + (nI k)).toNatClampNeg))), some (.int ((nI k) + 1))] [] (shH ru ta rs) I J 0 0 ?_
    simp only [ix0, uI_rd]
    rw [nI_1]
    exact ih (k + 1) n (by omega) (by omega)
set_option maxRecDepth 100000 in
theorem rx_feetAll (l : Launch) (d : Nat) (ru ta : Nat) (rs : List XO) (I : XI) (J : XJ) (Rp : XR) (hR : Rp (some (.int (faR (I 93) 12))) (shH ru ta rs) I J) : xm l (d + 1) 0 0 mX12_feetInAll [.ref 67] (shH ru ta rs) I J Rp := by
  refine xm_ofK 14 (X := xxX12) (t := tX12_feetInAll) (stop := [4]) (ini := false) xx12 pl12 rfl kX12_feetInAll (fun h => by cases h) (Nat.le_of_ble_eq_true rfl) (fun K hK => ?_)
  exact hK 4 [some (.ref 67), some (.int (nI 0)), some (.int (nI 0))] [] _ _ _ _ _ (rx_feetAll_loop l d ru ta rs I J Rp hR 12 0 14 (by omega) (by omega))
set_option maxRecDepth 100000 in
set_option maxHeartbeats 2000000 in
theorem rx_free_loop (l : Launch) (d : Nat) (ru ta : Nat) (rs : List XO) (I : XI) (J : XJ) (Rp : XR)   : ∀ (m k n : Nat), k + m = 12 → m < n → Rp (some (.int (bI (frN (I 93) m k)))) (shH ru ta rs) I J → xrun xxX12 (some .int) false false (shH ru ta rs).length 0 0 none l d tX12_freeBale [2] Rp n 2 [some (.ref 67), some (.int (nI k))] [] (shH ru ta rs) I J 0 0 := by
  intro m
  induction m with
  | zero =>
    intro k n hk hn hI
    obtain ⟨n, rfl⟩ : ∃ n', n = n' + 1 := ⟨n - 1, by omega⟩
    have hk : k = 12 := by omega
    refine xrun_step fun K hK => ?_
    refine And.intro (fun _ => ?_) (fun z => absurd (show nI 12 ≤ nI k from by subst hk; exact Int32.le_refl _) z)
    subst hk
    exact hI
  | succ m ih =>
    intro k n hk hn hI
    obtain ⟨n, rfl⟩ : ∃ n', n = n' + 1 := ⟨n - 1, by omega⟩
    have ix0 : ((nI 28) + (nI k)).toNatClampNeg = 28 + k := by rw [show (nI 28) + (nI k) = nI (28 + k) by simp only [nI_add, nI_mul, Nat.zero_add]]; exact nI_clamp (by omega)
    refine xrun_step fun K hK => ?_
    refine And.intro (fun z => absurd (show nI 12 ≤ nI k from z) (nI_ge (by omega) (by omega))) (fun _ => ?_)
    refine And.intro (show vp_in ((nI 28) + (nI k)) 69 from vx_2 (by omega) (by omega)) ?_
    refine And.intro (fun (h17 : ¬ (I 93 ((nI 28) + (nI k)).toNatClampNeg = 0)) => ?_) (fun (h17 : I 93 ((nI 28) + (nI k)).toNatClampNeg = 0) => ?_)
    · replace h17 : ¬ (I 93 (28 + k) = 0) := by simpa only [ix0, uI_rd] using h17
      refine hK 2 [some (.ref 67), some (.int ((nI k) + 1))] [] (shH ru ta rs) I J 0 0 ?_
      rw [nI_1]
      unfold frN at hI
      rw [if_neg h17] at hI
      exact ih (k + 1) n (by omega) (by omega) hI
    · replace h17 : I 93 (28 + k) = 0 := by simpa only [ix0, uI_rd] using h17
      unfold frN at hI
      rw [if_pos h17, bI_b (by omega)] at hI
      exact hI
set_option maxRecDepth 100000 in
theorem rx_free (l : Launch) (d : Nat) (ru ta : Nat) (rs : List XO) (I : XI) (J : XJ) (Rp : XR) (hR : Rp (some (.int (bI (frB (I 93))))) (shH ru ta rs) I J) : xm l (d + 1) 0 0 mX12_freeBale [.ref 67] (shH ru ta rs) I J Rp := by
  refine xm_ofK 14 (X := xxX12) (t := tX12_freeBale) (stop := [2]) (ini := false) xx12 pl12 rfl kX12_freeBale (fun h => by cases h) (Nat.le_of_ble_eq_true rfl) (fun K hK => ?_)
  exact hK 2 [some (.ref 67), some (.int (nI 0))] [] _ _ _ _ _ (rx_free_loop l d ru ta rs I J Rp 12 0 14 (by omega) (by omega) hR)
set_option maxRecDepth 100000 in
set_option maxHeartbeats 4000000 in
theorem rx_bales (l : Launch) (d : Nat) (ru ta : Nat) (rs : List XO) (I : XI) (J : XJ) (Rp : XR) (b : Nat) (hb : b < 12) (kd len bn : Int32) (hR : ∀ I', F93 I I' → I' 93 = baI (I 93) b kd len bn → Rp none (shH ru ta rs) I' J) : xm l (d + 1) 0 0 mX12_bales [.ref 67, .int (nI b), .int kd, .int len, .int bn] (shH ru ta rs) I J Rp := by
  have ix0 : ((nI 16) + (nI b)).toNatClampNeg = 16 + b := by rw [show (nI 16) + (nI b) = nI (16 + b) by simp only [nI_add, nI_mul, Nat.zero_add]]; exact nI_clamp (by omega)
  have ix1 : ((nI 28) + (nI b)).toNatClampNeg = 28 + b := by rw [show (nI 28) + (nI b) = nI (28 + b) by simp only [nI_add, nI_mul, Nat.zero_add]]; exact nI_clamp (by omega)
  have ix2 : ((nI 40) + (nI b)).toNatClampNeg = 40 + b := by rw [show (nI 40) + (nI b) = nI (40 + b) by simp only [nI_add, nI_mul, Nat.zero_add]]; exact nI_clamp (by omega)
  have ix3 : ((nI 52) + (nI b)).toNatClampNeg = 52 + b := by rw [show (nI 52) + (nI b) = nI (52 + b) by simp only [nI_add, nI_mul, Nat.zero_add]]; exact nI_clamp (by omega)
  refine xm_ofK 0 (X := xxX12) (t := tX12_bales) (stop := []) (ini := false) xx12 pl12 rfl kX12_bales (fun h => by cases h) (Nat.le_of_ble_eq_true rfl) (fun K hK => ?_)
  refine And.intro (show vp_in ((nI 16) + (nI b)) 69 from vx_2 (by omega) (by omega)) ?_
  refine And.intro (show vp_in ((nI 28) + (nI b)) 69 from vx_2 (by omega) (by omega)) ?_
  refine And.intro (show vp_in ((nI 40) + (nI b)) 69 from vx_2 (by omega) (by omega)) ?_
  refine And.intro (show vp_in ((nI 52) + (nI b)) 69 from vx_2 (by omega) (by omega)) ?_
  refine hR (uI (uI (uI (uI I 93 ((nI 16) + (nI b)).toNatClampNeg kd) 93 ((nI 28) + (nI b)).toNatClampNeg len) 93 ((nI 40) + (nI b)).toNatClampNeg (nI 0)) 93 ((nI 52) + (nI b)).toNatClampNeg bn) F93.rf.u.u.u.u ?_
  simp only [ix0, ix1, ix2, ix3, uI_rd, uI_eq]
  rfl
set_option maxRecDepth 100000 in
set_option maxHeartbeats 4000000 in
theorem rx_short (l : Launch) (d : Nat) (ru ta : Nat) (rs : List XO) (I : XI) (J : XJ) (Rp : XR) (b : Nat) (hb : b < 12) (y : Int32) (hR : ∀ I', F93 I I' → I' 93 = shR (I 93) b y → Rp none (shH ru ta rs) I' J) : xm l (d + 2) 0 0 mX12_shortens [.ref 67, .int (nI b), .int y] (shH ru ta rs) I J Rp := by
  have ix0 : ((nI 28) + (nI b)).toNatClampNeg = 28 + b := by rw [show (nI 28) + (nI b) = nI (28 + b) by simp only [nI_add, nI_mul, Nat.zero_add]]; exact nI_clamp (by omega)
  refine xm_ofK 0 (X := xxX12) (t := tX12_shortens) (stop := []) (ini := false) xx12 pl12 rfl kX12_shortens (fun h => by cases h) (Nat.le_of_ble_eq_true rfl) (fun K hK => ?_)
  refine And.intro (show vp_in ((nI 28) + (nI b)) 69 from vx_2 (by omega) (by omega)) ?_
  refine And.intro (show vp_in ((nI 28) + (nI b)) 69 from vx_2 (by omega) (by omega)) ?_
  refine And.intro (show vp_in ((nI 28) + (nI b)) 69 from vx_2 (by omega) (by omega)) ?_
  refine And.intro (fun (h22 : 0 < (uI I 93 ((nI 28) + (nI b)).toNatClampNeg ((I 93 ((nI 28) + (nI b)).toNatClampNeg) - y)) 93 ((nI 28) + (nI b)).toNatClampNeg) => ?_) (fun (h22 : ¬ (0 < (uI I 93 ((nI 28) + (nI b)).toNatClampNeg ((I 93 ((nI 28) + (nI b)).toNatClampNeg) - y)) 93 ((nI 28) + (nI b)).toNatClampNeg)) => ?_)
  · replace h22 : 0 < (I 93 (28 + b)) - y := by simpa only [ix0, uI_rd] using h22
    refine hR (uI I 93 ((nI 28) + (nI b)).toNatClampNeg ((I 93 ((nI 28) + (nI b)).toNatClampNeg) - y)) F93.rf.u ?_
    simp only [ix0, uI_rd, uI_eq]
    unfold shR
    rw [if_pos h22]
  · replace h22 : ¬ (0 < (I 93 (28 + b)) - y) := by simpa only [ix0, uI_rd] using h22
    refine rx_bales l d ru ta rs (uI I 93 ((nI 28) + (nI b)).toNatClampNeg ((I 93 ((nI 28) + (nI b)).toNatClampNeg) - y)) J _ b (by omega) _ _ _ (fun Ib30 f30 e30 => ?_)
    refine hR Ib30 (F93.tr F93.rf.u f30) ?_
    rw [e30]
    simp only [ix0, uI_rd, uI_eq]
    unfold shR
    rw [if_neg h22]
    rfl
set_option maxRecDepth 100000 in
set_option maxHeartbeats 4000000 in
theorem rx_isRoom (l : Launch) (d : Nat) (ru ta : Nat) (rs : List XO) (I : XI) (J : XJ) (Rp : XR) (Q : Tld) (h : TDr I Q) (bn : Nat) (hb : bn < qB Q) (hB : qB Q ≤ 4) (len : Int32) (h1 : isR Q (I 93) bn len = true → Rp (some (.int 1)) (shH ru ta rs) I J) (h0 : isR Q (I 93) bn len = false → Rp (some (.int 0)) (shH ru ta rs) I J) : xm l (d + 2) 0 0 mX12_isRoom [.ref 67, .int (nI bn), .int len] (shH ru ta rs) I J Rp := by
  have hm := h.2.2.2.2.2 bn hb
  have ix0 : ((nI 38) + (nI bn)).toNatClampNeg = 38 + bn := by rw [show (nI 38) + (nI bn) = nI (38 + bn) by simp only [nI_add, nI_mul, Nat.zero_add]]; exact nI_clamp (by omega)
  refine xm_ofK 0 (X := xxX12) (t := tX12_isRoom) (stop := []) (ini := false) xx12 pl12 rfl kX12_isRoom (fun h => by cases h) (Nat.le_of_ble_eq_true rfl) (fun K hK => ?_)
  refine rx_feetIn l d ru ta rs I J _ _ ?_
  refine And.intro (show vp_in ((nI 38) + (nI bn)) 2200 from vx_2 (by omega) (by omega)) ?_
  refine And.intro (fun (h16 : I 68 ((nI 38) + (nI bn)).toNatClampNeg < (feR (I 93) (nI bn) 12) + len) => ?_) (fun (h16 : ¬ (I 68 ((nI 38) + (nI bn)).toNatClampNeg < (feR (I 93) (nI bn) 12) + len)) => ?_)
  · replace h16 : I 68 (38 + bn) < (feR (I 93) (nI bn) 12) + len := by simpa only [ix0, uI_rd] using h16
    refine And.intro (Or.inl rfl) ?_
    refine h0 ?_
    unfold isR
    rw [← hm]
    exact decide_eq_false (Int32.not_le.mpr h16)
  · replace h16 : ¬ (I 68 (38 + bn) < (feR (I 93) (nI bn) 12) + len) := by simpa only [ix0, uI_rd] using h16
    refine And.intro (Or.inr rfl) ?_
    refine h1 ?_
    unfold isR
    rw [← hm]
    exact decide_eq_true (Int32.not_lt.mp h16)
theorem nW_pos {w : Rw} (h : WR w) {k : Nat} (hk : k < 69) (h67 : k ≠ 67) : 0 < w k ↔ 0 < nW w k := by
  have e := h.c hk h67
  have b : nW w k < 2 ^ 31 := by
    have y : (nI (nW w k)).toNatClampNeg = nW w k := by
      rw [← e]
      rfl
    have := Int32.toInt_lt (w k)
    unfold nW
    unfold Int32.toNatClampNeg
    omega
  rw [e]
  constructor
  · intro z
    have z := Int32.lt_iff_toInt_lt.mp z
    rw [show (0 : Int32).toInt = 0 from rfl, nI_toInt b] at z
    omega
  · intro z
    rw [Int32.lt_iff_toInt_lt, show (0 : Int32).toInt = 0 from rfl, nI_toInt b]
    omega
theorem nW_eq {w : Rw} (h : WR w) {i j : Nat} (hi : i < 69) (h67 : i ≠ 67) (hj : j < 69) (j67 : j ≠ 67) : w i = w j ↔ nW w i = nW w j := by
  constructor
  · intro z
    unfold nW
    rw [z]
  · intro z
    rw [h.c hi h67, h.c hj j67, z]
set_option maxRecDepth 100000 in
set_option maxHeartbeats 2000000 in
theorem rx_balesIn_loop (l : Launch) (d : Nat) (ru ta : Nat) (rs : List XO) (I : XI) (J : XJ) (Rp : XR) (hw : WR (I 93)) (c : Nat) (hc : c < 64) (hR : Rp (some (.int (nI (blN (nW (I 93)) (nW (I 93) c) 12)))) (shH ru ta rs) I J) : ∀ (m k n : Nat), k + m = 12 → m < n → xrun xxX12 (some .int) false false (shH ru ta rs).length 0 0 none l d tX12_balesIn [4] Rp n 4 [some (.ref 67), some (.int (I 93 c)), some (.int (nI (blN (nW (I 93)) (nW (I 93) c) k))), some (.int (nI k))] [] (shH ru ta rs) I J 0 0 := by
  intro m
  induction m with
  | zero =>
    intro k n hk hn
    obtain ⟨n, rfl⟩ : ∃ n', n = n' + 1 := ⟨n - 1, by omega⟩
    have hk : k = 12 := by omega
    refine xrun_step fun K hK => ?_
    refine And.intro (fun _ => ?_) (fun z => absurd (show nI 12 ≤ nI k from by subst hk; exact Int32.le_refl _) z)
    subst hk
    exact hR
  | succ m ih =>
    intro k n hk hn
    obtain ⟨n, rfl⟩ : ∃ n', n = n' + 1 := ⟨n - 1, by omega⟩
    have ix0 : ((nI 28) + (nI k)).toNatClampNeg = 28 + k := by rw [show (nI 28) + (nI k) = nI (28 + k) by simp only [nI_add, nI_mul, Nat.zero_add]]; exact nI_clamp (by omega)
    have ix1 : ((nI 52) + (nI k)).toNatClampNeg = 52 + k := by rw [show (nI 52) + (nI k) = nI (52 + k) by simp only [nI_add, nI_mul, Nat.zero_add]]; exact nI_clamp (by omega)
    refine xrun_step fun K hK => ?_
    refine And.intro (fun z => absurd (show nI 12 ≤ nI k from z) (nI_ge (by omega) (by omega))) (fun _ => ?_)
    refine And.intro (show vp_in ((nI 28) + (nI k)) 69 from vx_2 (by omega) (by omega)) ?_
    refine And.intro (fun (h20 : I 93 ((nI 28) + (nI k)).toNatClampNeg ≤ 0) => ?_) (fun (h20 : ¬ (I 93 ((nI 28) + (nI k)).toNatClampNeg ≤ 0)) => ?_)
    · replace h20 : I 93 (28 + k) ≤ 0 := by simpa only [ix0, ix1, uI_rd] using h20
      replace h20 : ¬ 0 < I 93 (28 + k) := Int32.not_lt.mpr h20
      refine hK 4 [some (.ref 67), some (.int (I 93 c)), some (.int ((nI (blN (nW (I 93)) (nW (I 93) c) k)) + (nI 0))), some (.int ((nI k) + 1))] [] (shH ru ta rs) I J 0 0 ?_
      have e : blN (nW (I 93)) (nW (I 93) c) (k + 1) = blN (nW (I 93)) (nW (I 93) c) k + 0 := by
        show blN (nW (I 93)) (nW (I 93) c) k + (if 0 < nW (I 93) (28 + k) ∧ nW (I 93) (52 + k) = nW (I 93) c then 1 else 0) = _
        rw [if_neg (fun z => h20 ((nW_pos hw (by omega) (by omega)).mpr z.1))]
      rw [nI_add, nI_1, ← e]
      exact ih (k + 1) n (by omega) (by omega)
    · replace h20 : ¬ (I 93 (28 + k) ≤ 0) := by simpa only [ix0, ix1, uI_rd] using h20
      replace h20 : 0 < I 93 (28 + k) := Int32.not_le.mp h20
      refine And.intro (show vp_in ((nI 52) + (nI k)) 69 from vx_2 (by omega) (by omega)) ?_
      refine And.intro (fun (h33 : ¬ (I 93 ((nI 52) + (nI k)).toNatClampNeg = I 93 c)) => ?_) (fun (h33 : I 93 ((nI 52) + (nI k)).toNatClampNeg = I 93 c) => ?_)
      · replace h33 : ¬ (I 93 (52 + k) = I 93 c) := by simpa only [ix0, ix1, uI_rd] using h33
        refine hK 4 [some (.ref 67), some (.int (I 93 c)), some (.int ((nI (blN (nW (I 93)) (nW (I 93) c) k)) + (nI 0))), some (.int ((nI k) + 1))] [] (shH ru ta rs) I J 0 0 ?_
        have e : blN (nW (I 93)) (nW (I 93) c) (k + 1) = blN (nW (I 93)) (nW (I 93) c) k + 0 := by
          show blN (nW (I 93)) (nW (I 93) c) k + (if 0 < nW (I 93) (28 + k) ∧ nW (I 93) (52 + k) = nW (I 93) c then 1 else 0) = _
          rw [if_neg (fun z => h33 ((nW_eq hw (by omega) (by omega) (by omega) (by omega)).mpr z.2))]
        rw [nI_add, nI_1, ← e]
        exact ih (k + 1) n (by omega) (by omega)
      · replace h33 : I 93 (52 + k) = I 93 c := by simpa only [ix0, ix1, uI_rd] using h33
        refine hK 4 [some (.ref 67), some (.int (I 93 c)), some (.int ((nI (blN (nW (I 93)) (nW (I 93) c) k)) + (nI 1))), some (.int ((nI k) + 1))] [] (shH ru ta rs) I J 0 0 ?_
        have e : blN (nW (I 93)) (nW (I 93) c) (k + 1) = blN (nW (I 93)) (nW (I 93) c) k + 1 := by
          show blN (nW (I 93)) (nW (I 93) c) k + (if 0 < nW (I 93) (28 + k) ∧ nW (I 93) (52 + k) = nW (I 93) c then 1 else 0) = _
          rw [if_pos ⟨(nW_pos hw (by omega) (by omega)).mp h20, (nW_eq hw (by omega) (by omega) (by omega) (by omega)).mp h33⟩]
        rw [nI_add, nI_1, ← e]
        exact ih (k + 1) n (by omega) (by omega)
set_option maxRecDepth 100000 in
theorem rx_balesIn (l : Launch) (d : Nat) (ru ta : Nat) (rs : List XO) (I : XI) (J : XJ) (Rp : XR) (hw : WR (I 93)) (c : Nat) (hc : c < 64) (hR : Rp (some (.int (nI (blN (nW (I 93)) (nW (I 93) c) 12)))) (shH ru ta rs) I J) : xm l (d + 1) 0 0 mX12_balesIn [.ref 67, .int (I 93 c)] (shH ru ta rs) I J Rp := by
  refine xm_ofK 14 (X := xxX12) (t := tX12_balesIn) (stop := [4]) (ini := false) xx12 pl12 rfl kX12_balesIn (fun h => by cases h) (Nat.le_of_ble_eq_true rfl) (fun K hK => ?_)
  exact hK 4 [some (.ref 67), some (.int (I 93 c)), some (.int (nI 0)), some (.int (nI 0))] [] _ _ _ _ _ (rx_balesIn_loop l d ru ta rs I J Rp hw c hc hR 12 0 14 (by omega) (by omega))
set_option maxRecDepth 100000 in
set_option maxHeartbeats 4000000 in
theorem rx_namesB (l : Launch) (d : Nat) (ru ta : Nat) (rs : List XO) (I : XI) (J : XJ) (Rp : XR) (hw : WR (I 93)) (b : Nat) (hb : b < 12) (hR : ∀ I' : XI, (∀ q, q ≠ 91 → I' q = I q) → (∀ n, n = 0 ∨ n = 1 ∨ n = 4 ∨ n = 6 ∨ n = 7 ∨ n = 8 → I' 91 n = nI (nmL (nW (I 93)) b n)) → Rp none (shH ru ta rs) I' J) : xm l (d + 2) 0 0 mX12_namesOfBale [.ref 67, .int (nI b)] (shH ru ta rs) I J Rp := by
  have ix52 : (nI 52 + nI b).toNatClampNeg = 52 + b := ix_c (by omega)
  have ix0 : ((nI 16) + (nI b)).toNatClampNeg = 16 + b := by rw [show (nI 16) + (nI b) = nI (16 + b) by simp only [nI_add, nI_mul, Nat.zero_add]]; exact nI_clamp (by omega)
  have ix1 : ((nI 40) + (nI b)).toNatClampNeg = 40 + b := by rw [show (nI 40) + (nI b) = nI (40 + b) by simp only [nI_add, nI_mul, Nat.zero_add]]; exact nI_clamp (by omega)
  have ix2 : ((nI 28) + (nI b)).toNatClampNeg = 28 + b := by rw [show (nI 28) + (nI b) = nI (28 + b) by simp only [nI_add, nI_mul, Nat.zero_add]]; exact nI_clamp (by omega)
  refine xm_ofK 0 (X := xxX12) (t := tX12_namesOfBale) (stop := []) (ini := false) xx12 pl12 rfl kX12_namesOfBale (fun h => by cases h) (Nat.le_of_ble_eq_true rfl) (fun K hK => ?_)
  refine And.intro (show vp_in (nI 65) 69 from vp_b (by decide)) ?_
  refine And.intro (show vp_in (nI 0) 11 from vp_b (by decide)) ?_
  refine And.intro (show vp_in ((nI 16) + (nI b)) 69 from vx_2 (by omega) (by omega)) ?_
  refine And.intro (show vp_in (nI 1) 11 from vp_b (by decide)) ?_
  refine And.intro (show vp_in (nI 64) 69 from vp_b (by decide)) ?_
  refine And.intro (show vp_in (nI 4) 11 from vp_b (by decide)) ?_
  refine And.intro (show vp_in ((nI 40) + (nI b)) 69 from vx_2 (by omega) (by omega)) ?_
  refine And.intro (show vp_in (nI 6) 11 from vp_b (by decide)) ?_
  refine And.intro (show vp_in ((nI 28) + (nI b)) 69 from vx_2 (by omega) (by omega)) ?_
  refine And.intro (show vp_in (nI 7) 11 from vp_b (by decide)) ?_
  refine And.intro (show vp_in ((nI 52) + (nI b)) 69 from vx_2 (by omega) (by omega)) ?_
  refine (show xm l (d + 1) 0 0 mX12_balesIn [.ref 67, .int (I 93 (nI 52 + nI b).toNatClampNeg)] (shH ru ta rs) (uI (uI (uI (uI (uI I 91 0 (I 93 65)) 91 1 (I 93 ((nI 16) + (nI b)).toNatClampNeg)) 91 4 (I 93 64)) 91 6 (I 93 ((nI 40) + (nI b)).toNatClampNeg)) 91 7 (I 93 ((nI 28) + (nI b)).toNatClampNeg)) J _ from ?_)
  rw [ix52]
  refine rx_balesIn l d ru ta rs (uI (uI (uI (uI (uI I 91 0 (I 93 65)) 91 1 (I 93 ((nI 16) + (nI b)).toNatClampNeg)) 91 4 (I 93 64)) 91 6 (I 93 ((nI 40) + (nI b)).toNatClampNeg)) 91 7 (I 93 ((nI 28) + (nI b)).toNatClampNeg)) J _ hw (52 + b) (by omega) ?_
  refine And.intro (show vp_in (nI 8) 11 from vp_b (by decide)) ?_
  refine hR (uI (uI (uI (uI (uI (uI I 91 0 (I 93 65)) 91 1 (I 93 ((nI 16) + (nI b)).toNatClampNeg)) 91 4 (I 93 64)) 91 6 (I 93 ((nI 40) + (nI b)).toNatClampNeg)) 91 7 (I 93 ((nI 28) + (nI b)).toNatClampNeg)) 91 8 (nI (blN (nW (I 93)) (nW (I 93) (52 + b)) 12))) (fun q hq => by rw [uI_ne hq, uI_ne hq, uI_ne hq, uI_ne hq, uI_ne hq, uI_ne hq]) (fun n hn => ?_)
  simp only [ix0, ix1, ix2, uI_rd]
  rw [hw.c (show 65 < 69 by decide) (by decide), hw.c (show 16 + b < 69 by omega) (by omega), hw.c (show 64 < 69 by decide) (by decide), hw.c (show 40 + b < 69 by omega) (by omega), hw.c (show 28 + b < 69 by omega) (by omega)]
  rcases hn with rfl | rfl | rfl | rfl | rfl | rfl
  · rfl
  · rfl
  · rfl
  · rfl
  · rfl
  · rfl
set_option maxRecDepth 100000 in
set_option maxHeartbeats 4000000 in
theorem rx_spoils (l : Launch) (d : Nat) (ru ta : Nat) (rs : List XO) (I : XI) (J : XJ) (Rp : XR) (Q : Tld) (L : Lws) (h : RE I Q L) (hw : WR (I 93)) (b : Nat) (hb : b < 12) (hR : ∀ (I' : XI) (J' : XJ), (∀ q, q ≠ 91 → I' q = I q) → Rp (some (.int (nI (spR L (I 93) b)))) (shH ru ta rs) I' J') : xm l (d + 9) 0 0 mX12_spoilsOf [.ref 67, .int (nI b)] (shH ru ta rs) I J Rp := by
  refine xm_ofK 3 (X := xxX12) (t := tX12_spoilsOf) (stop := []) (ini := false) xx12 pl12 rfl kX12_spoilsOf (fun h => by cases h) (Nat.le_of_ble_eq_true rfl) (fun K hK => ?_)
  obtain ⟨r, h1, h2⟩ := h.2 2 (by decide)
  refine ex_orders l (d + 7) 2 (by decide) ru ta rs I J _ r h1 ?_
  refine rx_namesB l (d + 6) ru ta rs I J _ hw b hb (fun I1 f1 n1 => ?_)
  have h2 : LRw I1 2 r (L 2) := h2.keep (f1 77 (by decide)) (f1 78 (by decide))
  unfold spR spOf at hR
  cases e : L 2 with
  | none =>
    rw [e] at h2 hR
    have h2 : r = -1 := h2
    refine And.intro (fun z => absurd h2 z) (fun _ => ?_)
    exact hR I1 J f1
  | some es =>
    rw [e] at h2 hR
    obtain ⟨f, e1, hO, hk, hl, hT⟩ := h2
    subst e1
    have hf : ¬ nI f = -1 := nI_neg1 (by omega)
    refine And.intro (fun _ => ?_) (fun z => absurd z hf)
    refine ex_says_w l (d + 5) 2 f ru ta rs I1 J _ es hO hk hl hT (nmL (nW (I 93)) b) (fun n g1 g2 => ⟨n1 n (myN_B g1 (Or.inl rfl) g2), nmL_b hw.wok hb⟩) (fun v J' hv _ => ?_)
    refine ex_held l (d + 7) 999 (by decide) v _ _ _ _ ?_
    rw [hv]
    exact hR I1 J' f1
theorem seR_v {L : Lws} {w : Rw} {b : Nat} : seR L w b = match L 3 with
  | none => nW w (28 + b)
  | some e => (hld (wth (nmL (nW w) b) e) 0 (9999 : Nat)).toNat := rfl
set_option maxRecDepth 100000 in
set_option maxHeartbeats 4000000 in
theorem rx_sells (l : Launch) (d : Nat) (ru ta : Nat) (rs : List XO) (I : XI) (J : XJ) (Rp : XR) (Q : Tld) (L : Lws) (h : RE I Q L) (hw : WR (I 93)) (b : Nat) (hb : b < 12) (hR : ∀ (I' : XI) (J' : XJ), (∀ q, q ≠ 91 → I' q = I q) → Rp (some (.int (nI (seR L (I 93) b)))) (shH ru ta rs) I' J') : xm l (d + 9) 0 0 mX12_sellsOf [.ref 67, .int (nI b)] (shH ru ta rs) I J Rp := by
  refine xm_ofK 3 (X := xxX12) (t := tX12_sellsOf) (stop := []) (ini := false) xx12 pl12 rfl kX12_sellsOf (fun h => by cases h) (Nat.le_of_ble_eq_true rfl) (fun K hK => ?_)
  obtain ⟨r, h1, h2⟩ := h.2 3 (by decide)
  refine ex_orders l (d + 7) 3 (by decide) ru ta rs I J _ r h1 ?_
  refine rx_namesB l (d + 6) ru ta rs I J _ hw b hb (fun I1 f1 n1 => ?_)
  have h2 : LRw I1 3 r (L 3) := h2.keep (f1 77 (by decide)) (f1 78 (by decide))
  have ix28 : (nI 28 + nI b).toNatClampNeg = 28 + b := ix_c (by omega)
  have b9 : nW (I 93) (28 + b) ≤ 999 := (hw.wok.2.2.1 b hb).2.1
  have key := seR_v (L := L) (w := I 93) (b := b)
  cases e : L 3 with
  | none =>
    rw [e] at h2 key
    have h2 : r = -1 := h2
    refine And.intro (fun z => absurd h2 z) (fun _ => ?_)
    refine And.intro (show vp_in (nI 28 + nI b) 69 from vx_2 (by omega) (by omega)) ?_
    refine ex_held l (d + 7) 9999 (by decide) (I1 93 (nI 28 + nI b).toNatClampNeg).toInt64 _ _ _ _ ?_
    have ev : nI (hld (I1 93 (nI 28 + nI b).toNatClampNeg).toInt64.toInt 0 (9999 : Nat)).toNat = nI (seR L (I 93) b) := by
      rw [ix28, f1 93 (by decide), key, hw.c (show 28 + b < 69 by omega) (by omega), nI_i64 (by omega), hld_id (by omega)]
    have fin := hR I1 J f1
    rw [← ev] at fin
    exact fin
  | some es =>
    rw [e] at h2 key
    obtain ⟨f, e1, hO, hk, hl, hT⟩ := h2
    subst e1
    have hf : ¬ nI f = -1 := nI_neg1 (by omega)
    refine And.intro (fun _ => ?_) (fun z => absurd z hf)
    refine ex_says_w l (d + 5) 3 f ru ta rs I1 J _ es hO hk hl hT (nmL (nW (I 93)) b) (fun n g1 g2 => ⟨n1 n (myN_B g1 (Or.inr rfl) g2), nmL_b hw.wok hb⟩) (fun v J' hv _ => ?_)
    refine ex_held l (d + 7) 9999 (by decide) v _ _ _ _ ?_
    have ev : nI (hld v.toInt 0 (9999 : Nat)).toNat = nI (seR L (I 93) b) := by
      rw [hv, key]
    have fin := hR I1 J' f1
    rw [← ev] at fin
    exact fin
set_option maxRecDepth 100000 in
set_option maxHeartbeats 4000000 in
theorem rx_draw (l : Launch) (d : Nat) (ru ta : Nat) (rs : List XO) (I : XI) (J : XJ) (Rp : XR) (m : Nat) (h0 : 0 < m) (hm : m < 1000) (hR : ∀ I', F93 I I' → I' 93 = dr (I 93) → Rp (some (.int (drv (I 93) (nI m)))) (shH ru ta rs) I' J) : xm l (d + 1) 0 0 mX12_draw [.ref 67, .int (nI m)] (shH ru ta rs) I J Rp := by
  have nz : ¬ nI m = 0 := fun z => by
    have z := congrArg Int32.toInt z
    rw [nI_toInt (by omega), show (0 : Int32).toInt = 0 from rfl] at z
    omega
  refine xm_ofK 0 (X := xxX12) (t := tX12_draw) (stop := []) (ini := false) xx12 pl12 rfl kX12_draw (fun h => by cases h) (Nat.le_of_ble_eq_true rfl) (fun K hK => ?_)
  refine And.intro (show vp_in (nI 68) 69 from vp_b (by decide)) ?_
  refine And.intro (show ¬ (nI m = 0) from nz) ?_
  refine And.intro (show vp_in (nI 68) 69 from vp_b (by decide)) ?_
  refine And.intro (show ¬ (nI 30313 = 0) from by decide) ?_
  refine And.intro (show vp_in (nI 68) 69 from vp_b (by decide)) ?_
  exact hR (uI I 93 68 ((((I 93 68) * (nI 287)) + (nI 191)) - (((I 93 68) * (nI 287)) + (nI 191)) / (nI 30313) * (nI 30313))) F93.rf.u uI_eq
set_option maxRecDepth 100000 in
set_option maxHeartbeats 4000000 in
theorem rx_canPass (l : Launch) (d : Nat) (ru ta : Nat) (rs : List XO) (I : XI) (J : XJ) (Rp : XR) (h1 : cnP (I 93) = true → Rp (some (.int 1)) (shH ru ta rs) I J) (h0 : cnP (I 93) = false → Rp (some (.int 0)) (shH ru ta rs) I J) : xm l (d + 1) 0 0 mX12_canPass [.ref 67] (shH ru ta rs) I J Rp := by
  refine xm_ofK 0 (X := xxX12) (t := tX12_canPass) (stop := []) (ini := false) xx12 pl12 rfl kX12_canPass (fun h => by cases h) (Nat.le_of_ble_eq_true rfl) (fun K hK => ?_)
  refine And.intro (show vp_in (nI 65) 69 from vp_b (by decide)) ?_
  refine And.intro (fun (h10 : I 93 65 < nI 999) => ?_) (fun (h10 : ¬ (I 93 65 < nI 999)) => ?_)
  · refine And.intro (Or.inr rfl) ?_
    exact h1 (by unfold cnP; rw [decide_eq_true h10]; rfl)
  · refine And.intro (show vp_in (nI 64) 69 from vp_b (by decide)) ?_
    refine And.intro (fun (h22 : nI 9 ≤ I 93 64) => ?_) (fun (h22 : ¬ (nI 9 ≤ I 93 64)) => ?_)
    · refine And.intro (Or.inl rfl) ?_
      exact h0 (by unfold cnP; rw [decide_eq_false h10, decide_eq_false (Int32.not_lt.mpr h22)]; rfl)
    · refine And.intro (Or.inr rfl) ?_
      exact h1 (by unfold cnP; rw [decide_eq_true (Int32.not_le.mp h22), Bool.or_true])
theorem wLay_s {I I1 : XI} {k : Nat} (hk : k < 69) (hf : F93 I I1) (h : I1 93 = fun j => if j < k then I 68 (60 + j) else I 93 j) : uI I1 93 k (I1 68 (60 + k)) 93 = fun j => if j < k + 1 then I 68 (60 + j) else I 93 j := by
  rw [uI_eq, h, hf 68 (by decide) (by decide)]
  funext j
  unfold upd
  by_cases e : j = k
  · subst e
    rw [if_pos rfl, if_pos (by omega)]
  · rw [if_neg e]
    dsimp only
    by_cases z : j < k
    · rw [if_pos z, if_pos (by omega)]
    · rw [if_neg z, if_neg (by omega)]
set_option maxRecDepth 100000 in
set_option maxHeartbeats 2000000 in
theorem rx_lays_loop (l : Launch) (d : Nat) (ru ta : Nat) (rs : List XO) (I : XI) (J : XJ) (Rp : XR)  (hR : ∀ I', F93 I I' → I' 93 = wLay I → Rp none (shH ru ta rs) I' J) : ∀ (m k n : Nat) (I1 : XI), k + m = 69 → m < n → (F93 I I1 ∧ I1 93 = fun j => if j < k then I 68 (60 + j) else I 93 j) → xrun xxX12 none false false (shH ru ta rs).length 0 0 none l d tX12_laysNow [2] Rp n 2 [some (.ref 67), some (.int (nI k))] [] (shH ru ta rs) I1 J 0 0 := by
  intro m
  induction m with
  | zero =>
    intro k n I1 hk hn hI
    obtain ⟨n, rfl⟩ : ∃ n', n = n' + 1 := ⟨n - 1, by omega⟩
    have hk : k = 69 := by omega
    refine xrun_step fun K hK => ?_
    refine And.intro (fun _ => ?_) (fun z => absurd (show nI 69 ≤ nI k from by subst hk; exact Int32.le_refl _) z)
    subst hk
    exact hR I1 hI.1 hI.2
  | succ m ih =>
    intro k n I1 hk hn hI
    obtain ⟨n, rfl⟩ : ∃ n', n = n' + 1 := ⟨n - 1, by omega⟩
    have ix0 : (nI k).toNatClampNeg = k := nI_clamp (by omega)
    have ix1 : ((nI 60) + (nI k)).toNatClampNeg = 60 + k := by rw [show (nI 60) + (nI k) = nI (60 + k) by simp only [nI_add, nI_mul, Nat.zero_add]]; exact nI_clamp (by omega)
    refine xrun_step fun K hK => ?_
    refine And.intro (fun z => absurd (show nI 69 ≤ nI k from z) (nI_ge (by omega) (by omega))) (fun _ => ?_)
    refine And.intro (show vp_in ((nI 60) + (nI k)) 2200 from vx_2 (by omega) (by omega)) ?_
    refine And.intro (show vp_in (nI k) 69 from vp_in_nI (by omega) (by omega)) ?_
    refine hK 2 [some (.ref 67), some (.int ((nI k) + 1))] [] (shH ru ta rs) (uI I1 93 (nI k).toNatClampNeg (I1 68 ((nI 60) + (nI k)).toNatClampNeg)) J 0 0 ?_
    simp only [ix0, ix1, uI_rd]
    rw [nI_1]
    exact ih (k + 1) n _ (by omega) (by omega) ⟨hI.1.u, wLay_s (by omega) hI.1 hI.2⟩
set_option maxRecDepth 100000 in
theorem rx_lays (l : Launch) (d : Nat) (ru ta : Nat) (rs : List XO) (I : XI) (J : XJ) (Rp : XR) (hR : ∀ I', F93 I I' → I' 93 = wLay I → Rp none (shH ru ta rs) I' J) : xm l (d + 1) 0 0 mX12_laysNow [.ref 67] (shH ru ta rs) I J Rp := by
  refine xm_ofK 71 (X := xxX12) (t := tX12_laysNow) (stop := [2]) (ini := false) xx12 pl12 rfl kX12_laysNow (fun h => by cases h) (Nat.le_of_ble_eq_true rfl) (fun K hK => ?_)
  exact hK 2 [some (.ref 67), some (.int (nI 0))] [] _ _ _ _ _ (rx_lays_loop l d ru ta rs I J Rp hR 69 0 71 I (by omega) (by omega) ⟨F93.rf, by funext j; rw [if_neg (by omega)]⟩)
theorem kep_s {I I1 : XI} {k : Nat} (hk : k < 69) (hf : ∀ q, q ≠ 68 → I1 q = I q) (h : I1 68 = fun j => if 60 ≤ j ∧ j < 60 + k then I 93 (j - 60) else I 68 j) : (∀ q, q ≠ 68 → uI I1 68 (60 + k) (I1 93 k) q = I q) ∧ uI I1 68 (60 + k) (I1 93 k) 68 = fun j => if 60 ≤ j ∧ j < 60 + (k + 1) then I 93 (j - 60) else I 68 j := by
  refine ⟨fun q hq => (uI_ne hq).trans (hf q hq), ?_⟩
  rw [uI_eq, h, hf 93 (by decide)]
  funext j
  unfold upd
  by_cases e : j = 60 + k
  · subst e
    rw [if_pos rfl, if_pos (by omega), show 60 + k - 60 = k by omega]
  · rw [if_neg e]
    dsimp only
    by_cases z : 60 ≤ j ∧ j < 60 + k
    · rw [if_pos z, if_pos (by omega)]
    · rw [if_neg z, if_neg (by omega)]
set_option maxRecDepth 100000 in
set_option maxHeartbeats 2000000 in
theorem rx_keeps_loop (l : Launch) (d : Nat) (ru ta : Nat) (rs : List XO) (I : XI) (J : XJ) (Rp : XR)  (hR : ∀ I', (∀ q, q ≠ 68 → I' q = I q) → I' 68 = kep I → Rp none (shH ru ta rs) I' J) : ∀ (m k n : Nat) (I1 : XI), k + m = 69 → m < n → ((∀ q, q ≠ 68 → I1 q = I q) ∧ I1 68 = fun j => if 60 ≤ j ∧ j < 60 + k then I 93 (j - 60) else I 68 j) → xrun xxX12 none false false (shH ru ta rs).length 0 0 none l d tX12_keepsNow [2] Rp n 2 [some (.ref 67), some (.int (nI k))] [] (shH ru ta rs) I1 J 0 0 := by
  intro m
  induction m with
  | zero =>
    intro k n I1 hk hn hI
    obtain ⟨n, rfl⟩ : ∃ n', n = n' + 1 := ⟨n - 1, by omega⟩
    have hk : k = 69 := by omega
    refine xrun_step fun K hK => ?_
    refine And.intro (fun _ => ?_) (fun z => absurd (show nI 69 ≤ nI k from by subst hk; exact Int32.le_refl _) z)
    subst hk
    exact hR I1 hI.1 hI.2
  | succ m ih =>
    intro k n I1 hk hn hI
    obtain ⟨n, rfl⟩ : ∃ n', n = n' + 1 := ⟨n - 1, by omega⟩
    have ix0 : ((nI 60) + (nI k)).toNatClampNeg = 60 + k := by rw [show (nI 60) + (nI k) = nI (60 + k) by simp only [nI_add, nI_mul, Nat.zero_add]]; exact nI_clamp (by omega)
    have ix1 : (nI k).toNatClampNeg = k := nI_clamp (by omega)
    refine xrun_step fun K hK => ?_
    refine And.intro (fun z => absurd (show nI 69 ≤ nI k from z) (nI_ge (by omega) (by omega))) (fun _ => ?_)
    refine And.intro (show vp_in (nI k) 69 from vp_in_nI (by omega) (by omega)) ?_
    refine And.intro (show vp_in ((nI 60) + (nI k)) 2200 from vx_2 (by omega) (by omega)) ?_
    refine hK 2 [some (.ref 67), some (.int ((nI k) + 1))] [] (shH ru ta rs) (uI I1 68 ((nI 60) + (nI k)).toNatClampNeg (I1 93 (nI k).toNatClampNeg)) J 0 0 ?_
    simp only [ix0, ix1, uI_rd]
    rw [nI_1]
    exact ih (k + 1) n _ (by omega) (by omega) (kep_s (by omega) hI.1 hI.2)
set_option maxRecDepth 100000 in
theorem rx_keeps (l : Launch) (d : Nat) (ru ta : Nat) (rs : List XO) (I : XI) (J : XJ) (Rp : XR) (hR : ∀ I', (∀ q, q ≠ 68 → I' q = I q) → I' 68 = kep I → Rp none (shH ru ta rs) I' J) : xm l (d + 1) 0 0 mX12_keepsNow [.ref 67] (shH ru ta rs) I J Rp := by
  refine xm_ofK 71 (X := xxX12) (t := tX12_keepsNow) (stop := [2]) (ini := false) xx12 pl12 rfl kX12_keepsNow (fun h => by cases h) (Nat.le_of_ble_eq_true rfl) (fun K hK => ?_)
  exact hK 2 [some (.ref 67), some (.int (nI 0))] [] _ _ _ _ _ (rx_keeps_loop l d ru ta rs I J Rp hR 69 0 71 I (by omega) (by omega) ⟨fun _ _ => rfl, by funext j; rw [if_neg (by omega)]⟩)
end
