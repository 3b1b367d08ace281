-- ===== what is told, a world, the laws: numbers; the reference's laws =====
/-- counts; heights, kinds, owners; reaches, rooms -/
abbrev Tld : Type := (Nat × Nat × Nat) × (Nat → Nat) × (Nat → Nat) × (Nat → Nat) × (Nat → Nat) × (Nat → Nat)
abbrev qT (Q : Tld) : Nat := Q.1.1
abbrev qR (Q : Tld) : Nat := Q.1.2.1
abbrev qB (Q : Tld) : Nat := Q.1.2.2
abbrev qH (Q : Tld) : Nat → Nat := Q.2.1
abbrev qK (Q : Tld) : Nat → Nat := Q.2.2.1
abbrev qO (Q : Tld) : Nat → Nat := Q.2.2.2.1
abbrev qC (Q : Tld) : Nat → Nat := Q.2.2.2.2.1
abbrev qM (Q : Tld) : Nat → Nat := Q.2.2.2.2.2
def TOK (Q : Tld) : Prop := qT Q ≤ 8 ∧ qR Q ≤ 4 ∧ qB Q ≤ 4 ∧ (∀ t, t < qT Q → 1 ≤ qH Q t ∧ qH Q t ≤ 99 ∧ qK Q t ≤ 5 ∧ qO Q t ≤ 4) ∧ (∀ r, r < qR Q → 1 ≤ qC Q r ∧ qC Q r ≤ 99) ∧ ∀ b, b < qB Q → 1 ≤ qM Q b ∧ qM Q b ≤ 999
/-- cells of a world, as the reference lays them -/
abbrev Wrl : Type := Nat → Nat
def WOK (W : Wrl) : Prop := (∀ t, t < 8 → W t ≤ 100) ∧ (∀ r, r < 4 → W (8 + r) ≤ 1 ∧ W (12 + r) ≤ 1) ∧ (∀ b, b < 12 → W (16 + b) ≤ 5 ∧ W (28 + b) ≤ 999 ∧ W (40 + b) ≤ 99 ∧ W (52 + b) ≤ 3) ∧ W 64 ≤ 9 ∧ W 65 ≤ 999 ∧ W 66 ≤ 9 ∧ W 68 < 30313
abbrev Lws : Type := Nat → Option (List Odr)
/-- what a law says with these names -/
def wth (nm : Nat → Nat) (e : List Odr) : Int := (smE (fun n => (nm n : Int)) e []).headD 0
def lgOf (L : Lws) (nm : Nat → Nat) : Nat := match L 0 with
  | none => nm 2 * nm 3 * (1 + (if nm 4 < 5 then 5 - nm 4 else nm 4 - 5)) / 200
  | some e => (hld (wth nm e) 0 999).toNat
def grOf (L : Lws) (nm : Nat → Nat) : Nat := match L 1 with
  | none => 10
  | some e => (hld (wth nm e) 0 100).toNat
def spOf (L : Lws) (nm : Nat → Nat) : Nat := match L 2 with
  | none => 1
  | some e => (hld (wth nm e) 0 999).toNat
def seOf (L : Lws) (nm : Nat → Nat) : Nat := match L 3 with
  | none => nm 7
  | some e => (hld (wth nm e) 0 9999).toNat
def maOf (L : Lws) (nm : Nat → Nat) : Bool := match L 4 with
  | none => true
  | some e => !(decide (wth nm e = 0))
theorem hld_to {v : Int} {G : Nat} : ((hld v 0 G).toNat : Int) = hld v 0 G ∧ (hld v 0 G).toNat ≤ G := by
  have b : 0 ≤ hld v 0 G ∧ hld v 0 G ≤ G := by
    unfold hld
    split
    · exact ⟨by omega, by omega⟩
    · split
      · exact ⟨by omega, by omega⟩
      · exact ⟨by omega, by omega⟩
  exact ⟨by omega, by omega⟩
/-- names of a thing, of a bale -/
def nmT (Q : Tld) (W : Wrl) (t s : Nat) : Nat → Nat
  | 0 => W 65
  | 1 => qK Q t
  | 2 => qH Q t
  | 3 => W t
  | 4 => W 64
  | 5 => W 66
  | 9 => qO Q t
  | 10 => s
  | _ => 0
def blN (W : Wrl) (barn : Nat) : Nat → Nat
  | 0 => 0
  | b + 1 => blN W barn b + (if 0 < W (28 + b) ∧ W (52 + b) = barn then 1 else 0)
theorem blN_le (W : Wrl) (barn : Nat) : ∀ b, blN W barn b ≤ b
  | 0 => Nat.le_refl _
  | b + 1 => by
    have := blN_le W barn b
    unfold blN
    split <;> omega
def nmL (W : Wrl) (b : Nat) : Nat → Nat
  | 0 => W 65
  | 1 => W (16 + b)
  | 4 => W 64
  | 6 => W (40 + b)
  | 7 => W (28 + b)
  | 8 => blN W (W (52 + b)) 12
  | _ => 0
theorem sm1_ok {kk : Nat} {o : Odr} {t u : List Bool} {p : List Int} {nm : Nat → Int} (hu : tyo kk o t = some u) (hV : VT t p) (h64 : t.length ≤ 64) (hn : ∀ n, n ≤ 10 → myN n kk = true → inM (nm n)) : VT u (sm1 nm o p) ∧ u.length ≤ 64 := by
  rcases tyo_el hu with ⟨ho, h1, h2, h3⟩ | ⟨ho, h1, h2, h3, h4⟩ | ⟨ho, v, h1, h2⟩ | ⟨ho, h0, v, h1, h2⟩ | ⟨ho, v, h1, h2⟩ | hbin
  · have e : sm1 nm o p = (o.2 : Int) :: p := by
      unfold sm1
      rw [ho]
      rfl
    rw [e, h3]
    exact ⟨⟨⟨by omega, by omega⟩, hV⟩, by rw [List.length_cons]; omega⟩
  · have e : sm1 nm o p = nm o.2 :: p := by
      unfold sm1
      rw [ho]
      rfl
    rw [e, h4]
    exact ⟨⟨hn o.2 h3 h2, hV⟩, by rw [List.length_cons]; omega⟩
  · subst h1
    obtain ⟨z0, q, rfl, hVq⟩ := VT_1 hV
    have hin : inM z0 := hVq.1
    have e : sm1 nm o (z0 :: q) = -z0 :: q := by
      unfold sm1
      rw [ho]
      rfl
    rw [e, h2]
    exact ⟨⟨⟨by have := hin.1; have := hin.2; omega, by have := hin.1; have := hin.2; omega⟩, hVq.2⟩, h64⟩
  · subst h1
    obtain ⟨z0, q, rfl, hVq⟩ := VT_1 hV
    have hin : inM z0 := hVq.1
    have e : sm1 nm o (z0 :: q) = (z0 * (o.2 : Int)).tdiv 100 :: q := by
      unfold sm1
      rw [ho]
      rfl
    rw [e, h2]
    exact ⟨⟨part_in hin h0, hVq.2⟩, h64⟩
  · subst h1
    obtain ⟨z0, q, rfl, hVq⟩ := VT_1 hV
    have hin : z0 = 0 ∨ z0 = 1 := hVq.1
    have e : sm1 nm o (z0 :: q) = (1 - z0) :: q := by
      unfold sm1
      rw [ho]
      rfl
    rw [e, h2]
    exact ⟨⟨by rcases hin with e | e <;> rw [e] <;> simp, hVq.2⟩, h64⟩
  · obtain ⟨hop, y0, x0, q, rfl, hsm, hxi, hyi, hVu⟩ := bin_el (nm := nm) hbin hV h64
    rw [hsm]
    exact hVu
theorem smE_ok {kk : Nat} {nm : Nat → Int} (hn : ∀ n, n ≤ 10 → myN n kk = true → inM (nm n)) : ∀ (e : List Odr) (t u : List Bool) (p : List Int), tyE kk e t = some u → VT t p → t.length ≤ 64 → VT u (smE nm e p)
  | [], t, u, p, h, hV, _ => by
    have e : t = u := Option.some.inj h
    rw [← e]
    exact hV
  | o :: e, t, u, p, h, hV, h64 => by
    unfold tyE at h
    split at h
    · rename_i t' ht
      have y := sm1_ok (nm := nm) ht hV h64 hn
      exact smE_ok hn e t' u _ h y.1 y.2
    · cases h
theorem wth_eq {kk : Nat} {nm : Nat → Nat} {e : List Odr} {b : Bool} (hT : tyE kk e [] = some [b]) (hn : ∀ n, n ≤ 10 → myN n kk = true → nm n ≤ 1000000) : smE (fun n => (nm n : Int)) e [] = [wth nm e] ∧ (b = true → wth nm e = 0 ∨ wth nm e = 1) := by
  have y := smE_ok (nm := fun n => (nm n : Int)) (fun n h1 h2 => ⟨by omega, by have := hn n h1 h2; omega⟩) e [] [b] [] hT trivial (by simp)
  obtain ⟨x, q, hx, hV⟩ := VT_1 y
  have hq : q = [] := by
    have z := hV.2
    cases q with
    | nil => rfl
    | cons _ _ => exact z.elim
  have hw : wth nm e = x := by
    unfold wth
    rw [hx]
    rfl
  refine ⟨by rw [hw, hx, hq], fun hb => ?_⟩
  subst hb
  rw [hw]
  exact hV.1
/-- the names that a law may use are so -/
def NMR (r : Nat → Int32) (kk : Nat) (nm : Nat → Nat) : Prop := ∀ n, n ≤ 10 → myN n kk = true → r n = nI (nm n) ∧ nm n ≤ 1000000
theorem NMR.nm {r : Nat → Int32} {kk : Nat} {nm : Nat → Nat} (h : NMR r kk nm) : NMr r kk (fun n => (nm n : Int)) := fun n h1 h2 => by
  have y := h n h1 h2
  show (r n).toInt = (nm n : Int) ∧ inM (nm n : Int)
  exact ⟨by rw [y.1, nI_toInt (by omega)], ⟨by omega, by omega⟩⟩
-- the reference: where the orders of a law begin
def ofL (I : XI) (c w : Nat) : Nat → Int32
  | 0 => -1
  | k + 1 => if I 72 (c + k) = nI w then I 73 (c + k) else ofL I c w k
def FOR (I : XI) (w : Nat) (r : Int32) : Prop := (I 68 4 = -1 ∧ r = -1) ∨ ∃ t N, t < 4 ∧ I 68 4 = nI t ∧ N ≤ 24 ∧ I 71 t = nI N ∧ r = ofL I (24 * t) w N
set_option maxRecDepth 100000 in
set_option maxHeartbeats 4000000 in
theorem ex_orders_loop (l : Launch) (d t N w : Nat) (hw : w < 5) (ht : t < 4) (ru ta : Nat) (rs : List XO) (I : XI) (J : XJ) (Rp : XR) (h4 : I 68 4 = nI t) (hN : I 71 t = nI N) (hN2 : N ≤ 24) (hR : Rp (some (.int (ofL I (24 * t) w N))) (shH ru ta rs) I J) : ∀ (m k n : Nat) (o : Option Value), N = k + m → m < n → xrun xxX12 (some .int) false false (shH ru ta rs).length 0 0 none l d tX12_ordersOf [4, 64] Rp (2 * n) 4 [some (.ref 67), some (.int (nI w)), some (.int (ofL I (24 * t) w k)), some (.int (nI k)), o] [] (shH ru ta rs) I J 0 0 := by
  have v4 : vp_in (I 68 4) 4 := vp_k (N := 4) h4 ht (by omega)
  have c4 : (I 68 4).toNatClampNeg = t := by rw [h4, nI_clamp (by omega)]
  have n4 : ¬ I 68 4 = -1 := by
    rw [h4]
    have : ∀ t, t < 4 → ¬ nI t = -1 := by decide
    exact this t ht
  intro m
  induction m with
  | zero =>
    intro k n o hk hn
    obtain ⟨n, rfl⟩ : ∃ n', n = n' + 1 := ⟨n - 1, by omega⟩
    rw [show 2 * (n + 1) = 2 * n + 1 + 1 by omega]
    have hk : N = k := by omega
    subst hk
    refine xrun_step fun K hK => ?_
    refine And.intro (vp_b (by decide)) ?_
    refine And.intro (fun z => absurd z n4) (fun _ => ?_)
    refine And.intro (vp_b (by decide)) ?_
    refine And.intro v4 ?_
    refine And.intro (fun _ => hR) (fun z => absurd ?_ z)
    show I 71 (I 68 4).toNatClampNeg ≤ nI N
    rw [c4, hN]
    exact nI_le (by omega) (by omega)
  | succ m ih =>
    intro k n o hk hn
    obtain ⟨n, rfl⟩ : ∃ n', n = n' + 1 := ⟨n - 1, by omega⟩
    rw [show 2 * (n + 1) = 2 * n + 1 + 1 by omega]
    refine xrun_step fun K hK => ?_
    refine And.intro (vp_b (by decide)) ?_
    refine And.intro (fun z => absurd z n4) (fun _ => ?_)
    refine And.intro (vp_b (by decide)) ?_
    refine And.intro v4 ?_
    have hlt : ¬ I 71 (I 68 4).toNatClampNeg ≤ nI k := by
      rw [c4, hN, Int32.le_iff_toInt_le, nI_toInt (by omega), nI_toInt (by omega)]
      omega
    refine And.intro (fun z => absurd z hlt) (fun _ => ?_)
    have ei : nI 24 * I 68 4 + nI k = nI (24 * t + k) := by
      rw [h4, show nI 24 * nI t = nI (24 * t) from (Int32.ofNat_mul 24 t).symm, nI_add]
    have vi : vp_in (nI 24 * I 68 4 + nI k) 96 := vp_k (N := 96) ei (by omega) (by omega)
    have ci : (nI 24 * I 68 4 + nI k).toNatClampNeg = 24 * t + k := by rw [ei, nI_clamp (by omega)]
    have go : ∀ r', r' = ofL I (24 * t) w (k + 1) → xrun xxX12 (some .int) false false (shH ru ta rs).length 0 0 none l d tX12_ordersOf [4, 64] Rp (2 * n + 1) 64 [some (.ref 67), some (.int (nI w)), some (.int (ofL I (24 * t) w k)), some (.int (nI k)), some (.int (nI 24 * I 68 4 + nI k))] [.int r'] (shH ru ta rs) I J 0 0 := by
      intro r' hr'
      refine xrun_step fun K hK => ?_
      refine hK 4 [some (.ref 67), some (.int (nI w)), some (.int r'), some (.int (nI k + 1)), some (.int (nI 24 * I 68 4 + nI k))] [] (shH ru ta rs) I J 0 0 ?_
      rw [nI_1, hr']
      exact ih (k + 1) n _ (by omega) (by omega)
    refine And.intro (vp_b (by decide)) ?_
    refine And.intro vi ?_
    refine And.intro (fun he => ?_) (fun he => ?_)
    · refine hK _ _ _ _ _ _ _ _ (go _ ?_)
      have he2 : ¬ I 72 (24 * t + k) = nI w := by
        rw [← ci]
        exact he
      exact (if_neg he2).symm
    · refine And.intro vi ?_
      refine hK _ _ _ _ _ _ _ _ (go _ ?_)
      have he2 : I 72 (24 * t + k) = nI w := by
        rw [← ci]
        exact he
      show I 73 (nI 24 * I 68 4 + nI k).toNatClampNeg = _
      rw [ci]
      exact (if_pos he2).symm
set_option maxRecDepth 100000 in
theorem ex_orders (l : Launch) (d w : Nat) (hw : w < 5) (ru ta : Nat) (rs : List XO) (I : XI) (J : XJ) (Rp : XR) (r : Int32) (h : FOR I w r) (hR : Rp (some (.int r)) (shH ru ta rs) I J) : xm l (d + 1) 0 0 mX12_ordersOf [.ref 67, .int (nI w)] (shH ru ta rs) I J Rp := by
  refine xm_ofK 52 (X := xxX12) (t := tX12_ordersOf) (stop := [4, 64]) (ini := false) xx12 pl12 rfl kX12_ordersOf (fun h => by cases h) (Nat.le_of_ble_eq_true rfl) (fun K hK => ?_)
  rcases h with ⟨h4, e⟩ | ⟨t, N, ht, h4, h24, hN, e⟩
  · subst e
    refine hK 4 [some (.ref 67), some (.int (nI w)), some (.int (-1)), some (.int (nI 0)), none] [] _ _ _ _ _ ?_
    refine xrun_step fun K hK => ?_
    refine And.intro (vp_b (by decide)) ?_
    exact And.intro (fun _ => hR) (fun z => absurd h4 z)
  · subst e
    exact hK 4 [some (.ref 67), some (.int (nI w)), some (.int (-1)), some (.int (nI 0)), none] [] _ _ _ _ _ (ex_orders_loop l d t N w hw ht ru ta rs I J Rp h4 hN h24 hR N 0 26 none (by omega) (by omega))
/-- the laws of the text that rules, in the reference -/
def LRw (I : XI) (w : Nat) (r : Int32) (o : Option (List Odr)) : Prop := match o with
  | none => r = -1
  | some e => ∃ f, r = nI f ∧ OR7 I f e ∧ f + e.length < 1600 ∧ e.length ≤ 400 ∧ tyE w e [] = some [Nat.beq w 4]
def LR (I : XI) (L : Lws) : Prop := ∀ w, w < 5 → ∃ r, FOR I w r ∧ LRw I w r (L w)
theorem OR7.keep {I I' : XI} (h77 : I' 77 = I 77) (h78 : I' 78 = I 78) : ∀ {e : List Odr} {k : Nat}, OR7 I k e → OR7 I' k e
  | [], k, h => by
    unfold OR7 at h ⊢
    rw [h77]
    exact h
  | o :: e, k, h => by
    unfold OR7 at h ⊢
    rw [h77, h78]
    exact ⟨h.1, h.2.1, OR7.keep h77 h78 h.2.2⟩
theorem LRw.keep {I I' : XI} {w : Nat} {r : Int32} {o : Option (List Odr)} (h77 : I' 77 = I 77) (h78 : I' 78 = I 78) (h : LRw I w r o) : LRw I' w r o := by
  cases o with
  | none => exact h
  | some e =>
    obtain ⟨f, a, b, c⟩ := h
    exact ⟨f, a, OR7.keep h77 h78 b, c⟩
set_option maxRecDepth 100000 in
theorem ex_held (l : Launch) (d G : Nat) (hG : G < 10000) (v : Int64) (sh : List XO) (I : XI) (J : XJ) (Rp : XR) (hR : Rp (some (.int (nI (hld v.toInt 0 G).toNat))) sh I J) : xm l (d + 1) 0 0 mX12_held [.long v, .int (nI 0), .int (nI G)] sh I J Rp := by
  refine xm_ofK 0 (X := xxX12) (t := tX12_held) (stop := []) (ini := false) xx12 pl12 rfl kX12_held (fun h => by cases h) (Nat.le_of_ble_eq_true rfl) (fun K hK => ?_)
  have e0 : (nI 0).toInt64.toInt = 0 := nI_i64 (by omega)
  have eG : (nI G).toInt64.toInt = (G : Int) := nI_i64 (by omega)
  refine And.intro (fun (h1 : 0 ≤ lg_cmp v (nI 0).toInt64) => And.intro (fun (h2 : lg_cmp v (nI G).toInt64 ≤ 0) => ?_) (fun (h2 : ¬ lg_cmp v (nI G).toInt64 ≤ 0) => ?_)) (fun (h1 : ¬ 0 ≤ lg_cmp v (nI 0).toInt64) => ?_)
  · have h1 := lc_ge.mp h1
    have h2 := lc_le.mp h2
    rw [e0] at h1
    rw [eG] at h2
    have e : v.toInt32 = nI (hld v.toInt 0 G).toNat := by
      have y : hld v.toInt 0 G = v.toInt := by
        unfold hld
        rw [if_neg (by omega), if_neg (by omega)]
      rw [y]
      apply Int32.toInt_inj.mp
      rw [nI_toInt (by omega), Int64.toInt_toInt32, Int.bmod_eq_of_le (by omega) (by omega)]
      omega
    rw [← e] at hR
    exact hR
  · have h2 : ¬ v.toInt ≤ (nI G).toInt64.toInt := fun z => h2 (lc_le.mpr z)
    rw [eG] at h2
    have e : nI G = nI (hld v.toInt 0 G).toNat := by
      have y : hld v.toInt 0 G = G := by
        unfold hld
        rw [if_neg (by omega), if_pos (by omega)]
      rw [y]
      rfl
    rw [← e] at hR
    exact hR
  · have h1 : ¬ (nI 0).toInt64.toInt ≤ v.toInt := fun z => h1 (lc_ge.mpr z)
    rw [e0] at h1
    have e : nI 0 = nI (hld v.toInt 0 G).toNat := by
      have y : hld v.toInt 0 G = 0 := by
        unfold hld
        rw [if_pos (by omega)]
      rw [y]
      rfl
    rw [← e] at hR
    exact hR
-- what is told, and the world w, in the reference
def TDr (I : XI) (Q : Tld) : Prop := I 68 0 = nI (qT Q) ∧ I 68 1 = nI (qR Q) ∧ I 68 2 = nI (qB Q) ∧ (∀ t, t < qT Q → I 68 (10 + t) = nI (qH Q t) ∧ I 68 (18 + t) = nI (qK Q t) ∧ I 68 (26 + t) = nI (qO Q t)) ∧ (∀ r, r < qR Q → I 68 (34 + r) = nI (qC Q r)) ∧ ∀ b, b < qB Q → I 68 (38 + b) = nI (qM Q b)
def RM (W : Wrl) (P : Int32) (r : Nat → Int32) : Prop := (∀ k, k < 69 → k ≠ 67 → r k = nI (W k)) ∧ r 67 = P
/-- a state of the reference: what is told, its laws, the world that is laid -/
def SRm (I : XI) (Q : Tld) (L : Lws) (W : Wrl) (P : Int32) : Prop := (TDr I Q ∧ TOK Q) ∧ LR I L ∧ RM W P (I 93) ∧ WOK W
theorem ix_c {a b : Nat} (h : a + b < 2 ^ 31) : (nI a + nI b).toNatClampNeg = a + b := by rw [nI_add, nI_clamp h]
theorem vx_2 {a b N : Nat} (h : a + b < N) (hN : N < 2 ^ 31) : vp_in (nI a + nI b) N := vp_k (nI_add a b) h hN
theorem TDr.keep {I I' : XI} {Q : Tld} (e : I' 68 = I 68) (h : TDr I Q) : TDr I' Q := by
  unfold TDr at h ⊢
  rw [e]
  exact h
theorem ofL.keep {I I' : XI} {c w : Nat} (e72 : I' 72 = I 72) (e73 : I' 73 = I 73) : ∀ k, ofL I' c w k = ofL I c w k
  | 0 => rfl
  | k + 1 => by
    unfold ofL
    rw [e72, e73, ofL.keep e72 e73 k]
theorem LR.keep {I I' : XI} {L : Lws} (e68 : I' 68 4 = I 68 4) (e71 : I' 71 = I 71) (e72 : I' 72 = I 72) (e73 : I' 73 = I 73) (e77 : I' 77 = I 77) (e78 : I' 78 = I 78) (h : LR I L) : LR I' L := fun w hw => by
  obtain ⟨r, h1, h2⟩ := h w hw
  refine ⟨r, ?_, h2.keep e77 e78⟩
  unfold FOR at h1 ⊢
  rw [e68, e71]
  rcases h1 with h1 | ⟨t, N, a, b, c, g, e⟩
  · exact Or.inl h1
  · exact Or.inr ⟨t, N, a, b, c, g, by rw [e, ofL.keep e72 e73]⟩
theorem SRm.keep {I I' : XI} {Q : Tld} {L : Lws} {W : Wrl} {P : Int32} (f : ∀ q, q ≠ 91 → I' q = I q) (h : SRm I Q L W P) : SRm I' Q L W P :=
  ⟨⟨h.1.1.keep (f 68 (by decide)), h.1.2⟩, h.2.1.keep (congrFun (f 68 (by decide)) 4) (f 71 (by decide)) (f 72 (by decide)) (f 73 (by decide)) (f 77 (by decide)) (f 78 (by decide)), by rw [f 93 (by decide)]; exact h.2.2.1, h.2.2.2⟩
set_option maxRecDepth 100000 in
set_option maxHeartbeats 4000000 in
theorem ex_namesT (l : Launch) (d : Nat) (ru ta : Nat) (rs : List XO) (I : XI) (J : XJ) (Rp : XR) (Q : Tld) (L : Lws) (W : Wrl) (P : Int32) (h : SRm I Q L W P) (t : Nat) (ht : t < qT Q) (hR : ∀ I' : XI, (∀ q, q ≠ 91 → I' q = I q) → (∀ n s, n < 6 → I' 91 n = nI (nmT Q W t s n)) → Rp none (shH ru ta rs) I' J) : xm l (d + 1) 0 0 mX12_namesOfThing [.ref 67, .int (nI t)] (shH ru ta rs) I J Rp := by
  obtain ⟨⟨⟨a1, a2, a3, a4, a5, a6⟩, b1, b2, b3, b4, b5, b6⟩, hL, hW, hO⟩ := h
  refine xm_ofK 0 (X := xxX12) (t := tX12_namesOfThing) (stop := []) (ini := false) xx12 pl12 rfl kX12_namesOfThing (fun h => by cases h) (Nat.le_of_ble_eq_true rfl) (fun K hK => ?_)
  refine And.intro (show vp_in (nI 65) 69 from vp_b (by decide)) ?_
  refine And.intro (show vp_in (nI 0) 11 from vp_b (by decide)) ?_
  refine And.intro (show vp_in (nI 18 + nI t) 2200 from vx_2 (by omega) (by omega)) ?_
  refine And.intro (show vp_in (nI 1) 11 from vp_b (by decide)) ?_
  refine And.intro (show vp_in (nI 10 + nI t) 2200 from vx_2 (by omega) (by omega)) ?_
  refine And.intro (show vp_in (nI 2) 11 from vp_b (by decide)) ?_
  refine And.intro (show vp_in (nI 0 + nI t) 69 from vx_2 (by omega) (by omega)) ?_
  refine And.intro (show vp_in (nI 3) 11 from vp_b (by decide)) ?_
  refine And.intro (show vp_in (nI 64) 69 from vp_b (by decide)) ?_
  refine And.intro (show vp_in (nI 4) 11 from vp_b (by decide)) ?_
  refine And.intro (show vp_in (nI 66) 69 from vp_b (by decide)) ?_
  refine And.intro (show vp_in (nI 5) 11 from vp_b (by decide)) ?_
  refine hR (uI (uI (uI (uI (uI (uI I 91 0 (I 93 65)) 91 1 (I 68 (nI 18 + nI t).toNatClampNeg)) 91 2 (I 68 (nI 10 + nI t).toNatClampNeg)) 91 3 (I 93 (nI 0 + nI t).toNatClampNeg)) 91 4 (I 93 64)) 91 5 (I 93 66)) (fun q hq => by rw [uI_ne hq, uI_ne hq, uI_ne hq, uI_ne hq, uI_ne hq, uI_ne hq]) (fun n s hn => ?_)
  rw [ix_c (by omega), ix_c (by omega), ix_c (by omega), Nat.zero_add, (a4 t ht).2.1, (a4 t ht).1, hW.1 65 (by decide) (by decide), hW.1 t (by omega) (by omega), hW.1 64 (by decide) (by decide), hW.1 66 (by decide) (by decide)]
  have hc : n = 0 ∨ n = 1 ∨ n = 2 ∨ n = 3 ∨ n = 4 ∨ n = 5 := by omega
  rcases hc with rfl | rfl | rfl | rfl | rfl | rfl
  · rfl
  · rfl
  · rfl
  · rfl
  · rfl
  · rfl
/-- which names which law may use -/
theorem myN_T {n kk : Nat} (h : n ≤ 10) (hk : kk = 0 ∨ kk = 1) (hm : myN n kk = true) : n < 6 := by
  have y : ∀ n, n < 11 → ∀ kk, kk < 2 → myN n kk = true → n < 6 := by decide
  exact y n (by omega) kk (by omega) hm
theorem myN_M {n : Nat} (h : n ≤ 10) (hm : myN n 4 = true) : n < 6 ∨ n = 9 ∨ n = 10 := by
  have y : ∀ n, n < 11 → myN n 4 = true → n < 6 ∨ n = 9 ∨ n = 10 := by decide
  exact y n (by omega) hm
theorem myN_B {n kk : Nat} (h : n ≤ 10) (hk : kk = 2 ∨ kk = 3) (hm : myN n kk = true) : n = 0 ∨ n = 1 ∨ n = 4 ∨ n = 6 ∨ n = 7 ∨ n = 8 := by
  have y2 : ∀ n, n < 11 → myN n 2 = true → n = 0 ∨ n = 1 ∨ n = 4 ∨ n = 6 ∨ n = 7 ∨ n = 8 := by decide
  have y3 : ∀ n, n < 11 → myN n 3 = true → n = 0 ∨ n = 1 ∨ n = 4 ∨ n = 6 ∨ n = 7 ∨ n = 8 := by decide
  rcases hk with rfl | rfl
  · exact y2 n (by omega) hm
  · exact y3 n (by omega) hm
theorem nmT_b {Q : Tld} {W : Wrl} {t s n : Nat} (hQ : TOK Q) (hW : WOK W) (ht : t < qT Q) (hs : s ≤ 999) : nmT Q W t s n ≤ 1000000 := by
  obtain ⟨b1, b2, b3, b4, b5, b6⟩ := hQ
  obtain ⟨c1, c2, c3, c4, c5, c6, c7⟩ := hW
  have := b4 t ht
  have := c1 t (by omega)
  unfold nmT
  split <;> omega
theorem nmL_b {W : Wrl} {b n : Nat} (hW : WOK W) (hb : b < 12) : nmL W b n ≤ 1000000 := by
  obtain ⟨c1, c2, c3, c4, c5, c6, c7⟩ := hW
  have := c3 b hb
  have := blN_le W (W (52 + b)) 12
  unfold nmL
  split <;> omega
set_option maxRecDepth 100000 in
/-- what a law says, held -/
theorem ex_says_w (l : Launch) (d w f : Nat) (ru ta : Nat) (rs : List XO) (I : XI) (J : XJ) (Rp : XR) (e : List Odr) (hO : OR7 I f e) (hk : f + e.length < 1600) (hl : e.length ≤ 400) (hT : tyE w e [] = some [Nat.beq w 4]) (nm : Nat → Nat) (hn : NMR (I 91) w nm) (hR : ∀ (r : Int64) (J' : XJ), r.toInt = wth nm e → (∀ q, q ≠ 92 → J' q = J q) → Rp (some (.long r)) (shH ru ta rs) I J') : xm l (d + 3) 0 0 mX12_saysOf [.ref 67, .int (nI f)] (shH ru ta rs) I J Rp :=
  ex_says l d f w ru ta rs I J Rp _ hn.nm e _ (wth nm e) hO hT hk hl (wth_eq hT (fun n h1 h2 => (hn n h1 h2).2)).1 hR
theorem nI_neg1 {f : Nat} (h : f < 1600) : ¬ nI f = -1 := fun z => by
  have y := congrArg Int32.toInt z
  rw [nI_toInt (by omega), show (-1 : Int32).toInt = -1 by decide] at y
  omega
set_option maxRecDepth 100000 in
set_option maxHeartbeats 4000000 in
theorem ex_grows (l : Launch) (d : Nat) (ru ta : Nat) (rs : List XO) (I : XI) (J : XJ) (Rp : XR) (Q : Tld) (L : Lws) (W : Wrl) (P : Int32) (h : SRm I Q L W P) (t : Nat) (ht : t < qT Q) (hR : ∀ (I' : XI) (J' : XJ), (∀ q, q ≠ 91 → I' q = I q) → Rp (some (.int (nI (grOf L (nmT Q W t 0))))) (shH ru ta rs) I' J') : xm l (d + 9) 0 0 mX12_growsOf [.ref 67, .int (nI t)] (shH ru ta rs) I J Rp := by
  refine xm_ofK 3 (X := xxX12) (t := tX12_growsOf) (stop := []) (ini := false) xx12 pl12 rfl kX12_growsOf (fun h => by cases h) (Nat.le_of_ble_eq_true rfl) (fun K hK => ?_)
  obtain ⟨r, h1, h2⟩ := h.2.1 1 (by decide)
  refine ex_orders l (d + 7) 1 (by decide) ru ta rs I J _ r h1 ?_
  refine ex_namesT l (d + 7) ru ta rs I J _ Q L W P h t ht (fun I1 f1 n1 => ?_)
  have h2 : LRw I1 1 r (L 1) := h2.keep (f1 77 (by decide)) (f1 78 (by decide))
  unfold grOf at hR
  cases e : L 1 with
  | none =>
    rw [e] at h2 hR
    have h2 : r = -1 := h2
    refine And.intro (fun z => absurd h2 z) (fun _ => ?_)
    exact hR I1 J f1
  | some es =>
    rw [e] at h2 hR
    obtain ⟨f, e1, hO, hk, hl, hT⟩ := h2
    subst e1
    have hf : ¬ nI f = -1 := nI_neg1 (by omega)
    refine And.intro (fun _ => ?_) (fun z => absurd z hf)
    refine ex_says_w l (d + 5) 1 f ru ta rs I1 J _ es hO hk hl hT (nmT Q W t 0) (fun n g1 g2 => ⟨n1 n 0 (myN_T g1 (Or.inr rfl) g2), nmT_b h.1.2 h.2.2.2 ht (by omega)⟩) (fun v J' hv _ => ?_)
    refine ex_held l (d + 7) 100 (by decide) v _ _ _ _ ?_
    rw [hv]
    exact hR I1 J' f1
set_option maxRecDepth 100000 in
set_option maxHeartbeats 4000000 in
theorem ex_long (l : Launch) (d : Nat) (ru ta : Nat) (rs : List XO) (I : XI) (J : XJ) (Rp : XR) (Q : Tld) (L : Lws) (W : Wrl) (P : Int32) (h : SRm I Q L W P) (t : Nat) (ht : t < qT Q) (hR : ∀ (I' : XI) (J' : XJ), (∀ q, q ≠ 91 → I' q = I q) → Rp (some (.int (nI (lgOf L (nmT Q W t 0))))) (shH ru ta rs) I' J') : xm l (d + 9) 0 0 mX12_longOf [.ref 67, .int (nI t)] (shH ru ta rs) I J Rp := by
  have hw64 : W 64 ≤ 9 := h.2.2.2.2.2.2.1
  have hq := h.1.2.2.2.2.1 t ht
  have ht8 : qT Q ≤ 8 := h.1.2.1
  have hg : W t ≤ 100 := h.2.2.2.1 t (by omega)
  refine xm_ofK 3 (X := xxX12) (t := tX12_longOf) (stop := [43, 84]) (ini := false) xx12 pl12 rfl kX12_longOf (fun h => by cases h) (Nat.le_of_ble_eq_true rfl) (fun K hK => ?_)
  obtain ⟨r, h1, h2⟩ := h.2.1 0 (by decide)
  refine ex_orders l (d + 7) 0 (by decide) ru ta rs I J _ r h1 ?_
  refine ex_namesT l (d + 7) ru ta rs I J _ Q L W P h t ht (fun I1 f1 n1 => ?_)
  have h2 : LRw I1 0 r (L 0) := h2.keep (f1 77 (by decide)) (f1 78 (by decide))
  have s1 : SRm I1 Q L W P := h.keep f1
  have e64 : I1 93 64 = nI (W 64) := s1.2.2.1.1 64 (by decide) (by decide)
  have e93 : I1 93 t = nI (W t) := s1.2.2.1.1 t (by omega) (by omega)
  have e10 : I1 68 (10 + t) = nI (qH Q t) := (s1.1.1.2.2.2.1 t ht).1
  -- what is behind it is held
  have h84 : ∀ (v : Int64) (J' : XJ) (a : Value), nI (hld v.toInt 0 (999 : Nat)).toNat = nI (lgOf L (nmT Q W t 0)) → xrun xxX12 (some .int) false false (shH ru ta rs).length 0 0 none l (d + 8) tX12_longOf [43, 84] Rp 2 84 [some (.ref 67), some (.int (nI t)), some (.int r), some a] [.long v] (shH ru ta rs) I1 J' 0 0 := by
    intro v J' a hv
    refine xrun_step fun K hK => ?_
    refine ex_held l (d + 7) 999 (by decide) v _ _ _ _ ?_
    rw [hv]
    exact hR I1 J' f1
  have h43 : ∀ (a : Nat), a = (if W 64 < 5 then 5 - W 64 else W 64 - 5) → xrun xxX12 (some .int) false false (shH ru ta rs).length 0 0 none l (d + 8) tX12_longOf [43, 84] Rp 3 43 [some (.ref 67), some (.int (nI t)), some (.int r), none] [.int (nI a)] (shH ru ta rs) I1 J 0 0 := by
    intro a ha
    refine xrun_step fun K hK => ?_
    cases e : L 0 with
    | none =>
      rw [e] at h2
      have h2 : r = -1 := h2
      refine And.intro (fun z => absurd h2 z) (fun _ => ?_)
      refine And.intro (show vp_in (nI 10 + nI t) 2200 from vx_2 (by omega) (by omega)) ?_
      refine And.intro (show vp_in (nI 0 + nI t) 69 from vx_2 (by omega) (by omega)) ?_
      refine And.intro (show ¬ ((200 : Int32) = 0) by decide) ?_
      refine hK 84 [some (.ref 67), some (.int (nI t)), some (.int r), some (.int (nI a))] [.long (I1 68 (nI 10 + nI t).toNatClampNeg * I1 93 (nI 0 + nI t).toNatClampNeg * (nI 1 + nI a) / nI 200).toInt64] _ _ _ _ _ ?_
      refine h84 _ J (.int (nI a)) ?_
      have ha5 : a ≤ 5 := by
        rw [ha]
        split <;> omega
      have hm1 : qH Q t * W t ≤ 99 * 100 := Nat.mul_le_mul hq.2.1 hg
      have hm2 : qH Q t * W t * (1 + a) ≤ 99 * 100 * 6 := Nat.mul_le_mul hm1 (by omega)
      have ev : I1 68 (nI 10 + nI t).toNatClampNeg * I1 93 (nI 0 + nI t).toNatClampNeg * (nI 1 + nI a) / nI 200 = nI (qH Q t * W t * (1 + a) / 200) := by
        rw [ix_c (by omega), ix_c (by omega), Nat.zero_add, e10, e93, nI_mul, nI_add, nI_mul]
        apply Int32.toInt_inj.mp
        rw [Int32.toInt_div_of_ne_right _ _ (by decide), nI_toInt (by omega), nI_toInt (by omega), nI_toInt (by omega)]
        rw [Int.tdiv_eq_ediv_of_nonneg (by omega)]
        omega
      rw [ev, nI_i64 (by omega)]
      have ex : lgOf L (nmT Q W t 0) = qH Q t * W t * (1 + a) / 200 := by
        simp only [lgOf, e]
        rw [ha]
        rfl
      rw [ex]
      have hx : qH Q t * W t * (1 + a) / 200 ≤ 999 := by omega
      generalize qH Q t * W t * (1 + a) / 200 = y at hx
      unfold hld
      rw [if_neg (by omega), if_neg (by omega)]
      rfl
    | some es =>
      rw [e] at h2
      obtain ⟨f, e1, hO, hk, hl, hT⟩ := h2
      subst e1
      have hf : ¬ nI f = -1 := nI_neg1 (by omega)
      refine And.intro (fun _ => ?_) (fun z => absurd z hf)
      refine ex_says_w l (d + 5) 0 f ru ta rs I1 J _ es hO hk hl hT (nmT Q W t 0) (fun n g1 g2 => ⟨n1 n 0 (myN_T g1 (Or.inl rfl) g2), nmT_b h.1.2 h.2.2.2 ht (by omega)⟩) (fun v J' hv _ => ?_)
      refine hK 84 _ _ _ _ _ _ _ (h84 v J' (.int (nI a)) ?_)
      rw [hv]
      simp only [lgOf, e]
      rfl
  refine And.intro (vp_b (by decide)) ?_
  refine And.intro (fun (z : nI 5 ≤ I1 93 64) => ?_) (fun (z : ¬ nI 5 ≤ I1 93 64) => ?_)
  · rw [e64, Int32.le_iff_toInt_le, nI_toInt (by omega), nI_toInt (by omega)] at z
    refine And.intro (vp_b (by decide)) ?_
    refine hK 43 [some (.ref 67), some (.int (nI t)), some (.int r), none] [.int (I1 93 64 - nI 5)] _ _ _ _ _ ?_
    rw [e64, nI_subI (by omega) (by omega)]
    exact h43 _ (by rw [if_neg (by omega)])
  · rw [e64, Int32.le_iff_toInt_le, nI_toInt (by omega), nI_toInt (by omega)] at z
    refine And.intro (vp_b (by decide)) ?_
    refine hK 43 [some (.ref 67), some (.int (nI t)), some (.int r), none] [.int (nI 5 - I1 93 64)] _ _ _ _ _ ?_
    rw [e64, nI_subI (by omega) (by omega)]
    exact h43 _ (by rw [if_pos (by omega)])
set_option maxRecDepth 100000 in
set_option maxHeartbeats 4000000 in
theorem ex_may (l : Launch) (d : Nat) (ru ta : Nat) (rs : List XO) (I : XI) (J : XJ) (Rp : XR) (Q : Tld) (L : Lws) (W : Wrl) (P : Int32) (h : SRm I Q L W P) (t s : Nat) (ht : t < qT Q) (hs : s ≤ 999) (hR : ∀ (r : Int32) (I' : XI) (J' : XJ), r = (if maOf L (nmT Q W t s) then 1 else 0) → (∀ q, q ≠ 91 → I' q = I q) → Rp (some (.int r)) (shH ru ta rs) I' J') : xm l (d + 9) 0 0 mX12_mayCut [.ref 67, .int (nI t), .int (nI s)] (shH ru ta rs) I J Rp := by
  have ht8 : qT Q ≤ 8 := h.1.2.1
  refine xm_ofK 3 (X := xxX12) (t := tX12_mayCut) (stop := []) (ini := false) xx12 pl12 rfl kX12_mayCut (fun h => by cases h) (Nat.le_of_ble_eq_true rfl) (fun K hK => ?_)
  obtain ⟨r, h1, h2⟩ := h.2.1 4 (by decide)
  refine ex_orders l (d + 7) 4 (by decide) ru ta rs I J _ r h1 ?_
  refine ex_namesT l (d + 7) ru ta rs I J _ Q L W P h t ht (fun I1 f1 n1 => ?_)
  have s1 : SRm I1 Q L W P := h.keep f1
  have e26 : I1 68 (26 + t) = nI (qO Q t) := (s1.1.1.2.2.2.1 t ht).2.2
  refine And.intro (show vp_in (nI 26 + nI t) 2200 from vx_2 (by omega) (by omega)) ?_
  refine And.intro (vp_b (by decide)) ?_
  refine And.intro (vp_b (by decide)) ?_
  have ec : (nI 26 + nI t).toNatClampNeg = 26 + t := ix_c (by omega)
  have f2 : ∀ q, q ≠ 91 → (uI (uI I1 91 9 (I1 68 (nI 26 + nI t).toNatClampNeg)) 91 10 (nI s)) q = I q := fun q hq => by rw [uI_ne hq, uI_ne hq, f1 q hq]
  have n2 : ∀ n, n < 6 ∨ n = 9 ∨ n = 10 → (uI (uI I1 91 9 (I1 68 (nI 26 + nI t).toNatClampNeg)) 91 10 (nI s)) 91 n = nI (nmT Q W t s n) := by
    intro n hn
    rw [uI_atA, uI_atA]
    rcases hn with hn | rfl | rfl
    · rw [if_neg (by omega), if_neg (by omega)]
      exact n1 n s hn
    · rw [if_neg (by omega), if_pos ⟨rfl, rfl⟩, ec, e26]
      rfl
    · rw [if_pos ⟨rfl, rfl⟩]
      rfl
  generalize hI2 : (uI (uI I1 91 9 (I1 68 (nI 26 + nI t).toNatClampNeg)) 91 10 (nI s)) = I2 at f2 n2
  have h2 : LRw I2 4 r (L 4) := h2.keep (f2 77 (by decide)) (f2 78 (by decide))
  unfold maOf at hR
  cases e : L 4 with
  | none =>
    rw [e] at h2 hR
    have h2 : r = -1 := h2
    refine And.intro (fun _ => ?_) (fun z => absurd h2 z)
    refine And.intro (Or.inr rfl) ?_
    exact hR 1 _ J rfl (by rw [← hI2] at f2; exact f2)
  | some es =>
    rw [e] at h2 hR
    obtain ⟨f, e1, hO, hk, hl, hT⟩ := h2
    subst e1
    have hf : ¬ nI f = -1 := nI_neg1 (by omega)
    have nn : NMR (I2 91) 4 (nmT Q W t s) := fun n g1 g2 => ⟨n2 n (myN_M g1 g2), nmT_b h.1.2 h.2.2.2 ht hs⟩
    subst hI2
    refine And.intro (fun z => absurd z hf) (fun _ => ?_)
    refine ex_says_w l (d + 5) 4 f ru ta rs _ J _ es hO hk hl hT (nmT Q W t s) nn (fun v J' hv _ => ?_)
    refine And.intro (fun (z : lg_cmp v 0 = 0) => ?_) (fun (z : ¬ lg_cmp v 0 = 0) => ?_)
    · have z := (lc_eq.mp z).trans i64_0
      rw [hv] at z
      refine And.intro (Or.inl rfl) ?_
      exact hR 0 _ J' (by simp [z]) f2
    · have z : ¬ v.toInt = 0 := fun y => z (lc_eq.mpr (y.trans i64_0.symm))
      rw [hv] at z
      refine And.intro (Or.inr rfl) ?_
      exact hR 1 _ J' (by simp [z]) f2
