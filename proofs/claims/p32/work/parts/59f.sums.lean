-- ===== the reader: what sums are made of =====
def naL (k : Nat) : Nat := [63, 62, 454, 199, 1567].getD k 0
/-- so: the machine comes there too -/
def OKR (ta N : Nat) (tk : Nat → TK) (I : XI) (j c : Nat) (s : MS) (t : Nat → MS) (R : MS → MS → List Odr → Prop) (P : Nat → Prop) (I' : XI) : Prop := ∃ j' c', FS ta I I' ∧ ATt ta I' j' c' ∧ j' < N ∧ c + 1 ≤ c' ∧ j + c' ≤ j' + c ∧ (Rch tk s (t j') ∧ ∃ e, Cem ta I I' c c' e ∧ R s (t j') e) ∧ P j'
theorem OKR.pre {ta N : Nat} {tk : Nat → TK} {I I1 I' : XI} {j c : Nat} {s : MS} {t : Nat → MS} {R R' : MS → MS → List Odr → Prop} {P : Nat → Prop} (f : FS ta I I1) (q : I1 (ta + 1) = I (ta + 1)) (hR : ∀ a b e, R a b e → R' a b e) (h : OKR ta N tk I1 j c s t R P I') : OKR ta N tk I j c s t R' P I' := by
  obtain ⟨j', c', h1, h2, h3, h4, h5, ⟨h6, e, ce, rr⟩, h7⟩ := h
  exact ⟨j', c', f.tr h1, h2, h3, h4, h5, ⟨h6, e, ce.base q, hR _ _ _ rr⟩, h7⟩
theorem avI_row {ta i : Nat} {I : XI} (ht : TSP ta) : avI I i (ta + 1) = I (ta + 1) := by
  have := ht.ne
  unfold avI
  rw [uI_ne (by omega), uI_ne (by omega), uI_ne (by omega)]
theorem Cem.em {ta : Nat} {I I' : XI} {c : Nat} {o v : Int32} {q : Odr} (h : EM ta I I' c o v) (hc : c < 300) (hq : ccd q = o * 10000 + v) : Cem ta I I' c (c + 1) [q] := by
  have e := h.2.2.2 hc
  refine ⟨fun i hi => ?_, rfl, ?_, trivial⟩
  · rw [e]
    simp only [upd, if_neg (show ¬ i = c by omega)]
  · rw [e, hq]
    simp [upd]
def nmB (k v : Nat) : Int32 := (nI (naL k) >>> (nI (cw v - 13) &&& 31)) &&& 1
theorem nm_tab : ((List.range 5).all fun k => (List.range 32).all fun v => match nmO v with
  | some n => (Nat.ble 13 (cw v) && Nat.ble (cw v) 23) && (decide (nmB k v = 0) == !(myN n k))
  | none => !(Nat.ble 13 (cw v) && Nat.ble (cw v) 23)) = true := by decide +kernel
theorem nm_some {k v n : Nat} (hk : k < 5) (hv : v < 32) (h : nmO v = some n) : (13 ≤ cw v ∧ cw v ≤ 23) ∧ (nmB k v = 0 ↔ myN n k = false) := by
  have y := List.all_eq_true.mp (List.all_eq_true.mp nm_tab k (List.mem_range.mpr hk)) v (List.mem_range.mpr hv)
  rw [h] at y
  have y : ((Nat.ble 13 (cw v) && Nat.ble (cw v) 23) && (decide (nmB k v = 0) == !(myN n k))) = true := y
  rw [Bool.and_eq_true, Bool.and_eq_true] at y
  refine ⟨⟨Nat.le_of_ble_eq_true y.1.1, Nat.le_of_ble_eq_true y.1.2⟩, ?_⟩
  have z := eq_of_beq y.2
  cases e : myN n k with
  | true =>
    rw [e] at z
    exact ⟨fun w => absurd w (of_decide_eq_false z), fun w => by cases w⟩
  | false =>
    rw [e] at z
    exact ⟨fun _ => rfl, fun _ => of_decide_eq_true z⟩
theorem nm_none {v : Nat} (hv : v < 32) (h : nmO v = none) : ¬ (13 ≤ cw v ∧ cw v ≤ 23) := by
  have y := List.all_eq_true.mp (List.all_eq_true.mp nm_tab 0 (List.mem_range.mpr (by omega))) v (List.mem_range.mpr hv)
  rw [h] at y
  have y : (!(Nat.ble 13 (cw v) && Nat.ble (cw v) 23)) = true := y
  intro z
  rw [Nat.ble_eq.mpr z.1, Nat.ble_eq.mpr z.2] at y
  cases y
theorem nI_subI {a b : Nat} (h : b ≤ a) (ha : a < 2 ^ 31) : nI a - nI b = nI (a - b) := by
  apply Int32.toInt_inj.mp
  rw [i32_sub (by rw [nI_toInt (by omega), nI_toInt (by omega)]; omega) (by rw [nI_toInt (by omega), nI_toInt (by omega)]; omega), nI_toInt (by omega), nI_toInt (by omega), nI_toInt (by omega)]
  omega
def Qo (tk : Nat → TK) (k m : Nat) (s t : MS) (e : List Odr) : Prop := Q1 tk s t e ∧ Typ k (2 * m + 1) false e
def Qp (tk : Nat → TK) (k m : Nat) (s t : MS) (e : List Odr) : Prop := Qs tk 4 s t e ∧ Typ k (2 * m + 2) false e
def Qu (tk : Nat → TK) (k m : Nat) (s t : MS) (e : List Odr) : Prop := Qs tk 3 s t e ∧ Typ k (2 * m + 3) false e
section READ
variable (l : Launch) (ru_ ta : Nat) (rs : List XO) (tk : Nat → TK) (N : Nat) (k : Nat) (ws : List Nat)
def CN (l : Launch) (ru_ ta : Nat) (rs : List XO) (tk : Nat → TK) (N : Nat) (k : Nat) (ws : List Nat) (M : XM) (up : Nat) (t : List Nat → Nat → MS) (R : MS → MS → List Odr → Prop) (Q : List Nat → Prop) (P : Nat → Prop) (m n : Nat) : Prop := ∀ (δ j c : Nat) (K : List Nat) (I : XI) (J : XJ) (Rp : XR), δ + m = 8 → opK K + up = δ → Q K → EV I tk N → ATt ta I (j + up) c → j + up < N → c ≤ j → I 35 2 = nI (naL k) → (up = 1 → (tk j).1 = 1 ∧ (tk j).2.1 = 22) → (∀ I', OKR ta N tk I j c (1, K, k, ws, j) (t K) R P I' → Rp (some (.int 1)) (shH ru_ ta rs) I' J) → (∀ I', NOR ta tk I (1, K, k, ws, j) I' → Rp (some (.int 0)) (shH ru_ ta rs) I' J) → xm l n 0 0 M [.ref 35, .int (nI δ)] (shH ru_ ta rs) I J Rp
abbrev C1 (l : Launch) (ru_ ta : Nat) (rs : List XO) (tk : Nat → TK) (N : Nat) (k : Nat) (ws : List Nat) (m n : Nat) : Prop := CN l ru_ ta rs tk N k ws mX5_one 0 (fun K j' => (2, cl78 K, k, ws, j')) (Qo tk k m) (fun _ => True) (fun _ => True) m n
abbrev CP (l : Launch) (ru_ ta : Nat) (rs : List XO) (tk : Nat → TK) (N : Nat) (k : Nat) (ws : List Nat) (m n : Nat) : Prop := CN l ru_ ta rs tk N k ws mX5_part 1 (fun K j' => (2, cl78 K, k, ws, j')) (Qo tk k m) (fun _ => True) (fun _ => True) m n
abbrev C2 (l : Launch) (ru_ ta : Nat) (rs : List XO) (tk : Nat → TK) (N : Nat) (k : Nat) (ws : List Nat) (m n : Nat) : Prop := CN l ru_ ta rs tk N k ws mX5_product 0 (fun K j' => (2, K, k, ws, j')) (Qp tk k m) (fun K => cl78 K = K) (fun j' => isSg (tk j') 42 = false ∧ isSg (tk j') 47 = false) m n
abbrev C3 (l : Launch) (ru_ ta : Nat) (rs : List XO) (tk : Nat → TK) (N : Nat) (k : Nat) (ws : List Nat) (m n : Nat) : Prop := CN l ru_ ta rs tk N k ws mX5_sum 0 (fun K j' => (2, K, k, ws, j')) (Qu tk k m) (fun K => cl78 K = K) (fun j' => isOp (tk j') = false) m n
variable {l ru_ ta rs tk N k ws}
theorem end_sg {tk : Nat → TK} {N j s : Nat} (h : TKN tk N) (hj : j < N) (h3 : 300 ≤ j) : isSg (tk j) s = false := by
  have e : j = N - 1 := by have := h.2.1; omega
  cases z : isSg (tk j) s with
  | false => rfl
  | true =>
    have := (sg_1 z).1
    rw [e, h.2.2.1] at this
    cases this
theorem rch78 {K : List Nat} {s : MS} {j2 : Nat} (hK : cl78 K = K) (h : Rch tk s (2, cl78 K, k, ws, j2)) : Rch tk s (2, K, k, ws, j2) := by
  rw [hK] at h
  exact h
theorem q178 {K : List Nat} {s : MS} {j2 : Nat} {e : List Odr} (hK : cl78 K = K) (h : Q1 tk s (2, cl78 K, k, ws, j2) e) : Q1 tk s (2, K, k, ws, j2) e := by
  rw [hK] at h
  exact h
theorem op_1 {q : TK} (h : isSg q 42 = true ∨ isSg q 47 = true ∨ isSg q 43 = true ∨ isSg q 45 = true) : isOp q = true ∧ q.1 ≠ 0 := by
  refine ⟨?_, fun z => ?_⟩
  · unfold isOp
    rcases h with e | e | e | e <;> rw [e] <;> simp
  · rcases h with e | e | e | e <;> have := (sg_1 e).1 <;> omega
theorem op_0 {q : TK} (h : isSg q 42 = false ∧ isSg q 47 = false) (g : isSg q 43 = false ∧ isSg q 45 = false) : isOp q = false := by
  unfold isOp
  rw [h.1, h.2, g.1, g.2]
  rfl
/-- where a sum stands that has begun -/
def BG (ta N : Nat) (tk : Nat → TK) (I : XI) (j c : Nat) (s : MS) (t : Nat → MS) (R : MS → MS → List Odr → Prop) (I' : XI) (j' c' : Nat) : Prop := FS ta I I' ∧ ATt ta I' j' c' ∧ j' < N ∧ c + 1 ≤ c' ∧ j + c' ≤ j' + c ∧ (Rch tk s (t j') ∧ ∃ e, Cem ta I I' c c' e ∧ R s (t j') e)
set_option maxRecDepth 100000 in
set_option maxHeartbeats 1000000 in
theorem rd_product_fail (n δ j S i : Nat) (hs : 0 < S) (K : List Nat) (I I' : XI) (J : XJ) (Rp : XR) (o4 : Option Value) (hF : ∀ I', NOR ta tk I (1, K, k, ws, j) I' → Rp (some (.int 0)) (shH ru_ ta rs) I' J) (h : NOR ta tk I (1, K, k, ws, j) I') : xrun xxX5 (some .boolean) false false (shH ru_ ta rs).length 0 0 none l n tX5_product [8, 55] Rp S 8 [some (.ref 35), some (.int (nI δ)), some (.int 0), some (.int (nI i)), o4] [] (shH ru_ ta rs) I' J 0 0 := by
  obtain ⟨S, rfl⟩ : ∃ n', S = n' + 1 := ⟨S - 1, by omega⟩
  refine xrun_step fun K hK => ?_
  exact And.intro (fun _ => And.intro (Or.inl rfl) (hF I' h)) (fun _ => And.intro (fun _ => And.intro (Or.inl rfl) (hF I' h)) (fun z => absurd rfl z))
set_option maxRecDepth 100000 in
set_option maxHeartbeats 1000000 in
theorem rd_product_op (ht : TSP ta) (hk : TKN tk N) {m n : Nat} (hn : 2 ≤ n) (hC : C1 l ru_ ta rs tk N k ws m n) (δ j c : Nat) (K : List Nat) (I : XI) (J : XJ) (Rp : XR) (hδ : δ + m = 8) (hop : opK K = δ) (hK : cl78 K = K) (hev : EV I tk N) (hc : c ≤ j) (ha : I 35 2 = nI (naL k)) (hF : ∀ I', NOR ta tk I (1, K, k, ws, j) I' → Rp (some (.int 0)) (shH ru_ ta rs) I' J) (S i j' c' : Nat) (I' : XI) (o : Int32) (h : BG ta N tk I j c (1, K, k, ws, j) (fun j' => (2, K, k, ws, j')) (Qp tk k m) I' j' c') (hS : 0 < S) (ho : isOp (tk j') = true ∧ (tk j').1 ≠ 0) (hcd : ccd ((tk j').2.1, 0) = o * 10000 + 0 ∧ rkn (tk j').2.1 = 4 ∧ ∀ k t, tyo k ((tk j').2.1, 0) (false :: false :: t) = some (false :: t)) (go : ∀ (j2 c2 : Nat) (I2 : XI), BG ta N tk I j c (1, K, k, ws, j) (fun j' => (2, K, k, ws, j')) (Qp tk k m) I2 j2 c2 → j' + 1 ≤ j2 → (True) → xrun xxX5 (some .boolean) false false (shH ru_ ta rs).length 0 0 none l n tX5_product [8, 55] Rp S 8 [some (.ref 35), some (.int (nI δ)), some (.int 1), some (.int (nI (i + 1))), some (.int o)] [] (shH ru_ ta rs) I2 J 0 0) : xrun xxX5 (some .boolean) false false (shH ru_ ta rs).length 0 0 none l n tX5_product [8, 55] Rp (S + 1) 55 [some (.ref 35), some (.int (nI δ)), some (.int 1), some (.int (nI i)), some (.int o)] [] (shH ru_ ta rs) I' J 0 0 := by
  obtain ⟨h1, h2, h3, h4, h5, h6, e0, ce0, rr0, ty0⟩ := h
  have hN := hk.2.1
  have ev' := hev.fe ht h1.1
  have hlt := hk.nx h3 ho.2
  have f1 : FS ta I (avI I' (j' + 1)) := h1.tr (avI_fs ht)
  have r1 : Rch tk (1, K, k, ws, j) (1, K, k, ws, j' + 1) := h6.tr (Rch.step (s2_op ho.1) (Rch.rf _))
  refine xrun_step fun Kk hKk => ?_
  refine rd_advance l ru_ ta rs I' J _ n (by omega) (j' + 1) N hN hlt (by rw [h2.1, nI_1]) ev'.1 ?_
  refine hC δ (j' + 1) c' K (avI I' (j' + 1)) J _ hδ hop trivial (hev.fe ht f1.1) (avI_at ht h2.2.2.2) hlt (by omega) (by rw [f1.1.2.1 2 (by decide) (by decide) (by decide) (by decide) (by decide)]; exact ha) (fun z => absurd z (by decide)) (fun I2 ok => ?_) (fun I2 no => ?_)
  · obtain ⟨j2, c2, g1, g2, g3, g4, g5, ⟨g6, e1, ce1, rr1, ty1⟩, g7⟩ := ok
    have rr2 := Qs.op (K := K) rfl rr0 ho.1 hcd.2.1 (show 4 < 5 by omega) (Q1.rs (s := (1, K, k, ws, j' + 1)) hK (q178 hK rr1))
    have ce2 := ce0.tr (ce1.base (avI_row (i := j' + 1) (I := I') ht))
    obtain rfl | rfl | rfl | rfl | rfl := id ht
    all_goals
      refine rd_emit l ru_ _ rs I2 J _ ht n (by omega) c2 (by omega) o 0 g2.2.2.2 (fun I3 em => ?_)
      have e3 := em.at ht g2
      rw [if_pos (show c2 < 300 by omega)] at e3
      refine hKk 8 [some (.ref 35), some (.int (nI δ)), some (.int 1), some (.int (nI i + 1)), some (.int o)] [] (shH ru_ _ rs) I3 J 0 0 ?_
      rw [nI_1]
      refine go j2 (c2 + 1) I3 ⟨(f1.tr g1).tr (em.fs ht), e3, g3, by omega, by omega, r1.tr ?_, e0 ++ e1 ++ [((tk j').2.1, 0)], ce2.tr (Cem.em em (by omega) hcd.1), rr2, Typ.op ty0 ty1 (hcd.2.2 k)⟩ (by omega) trivial
      exact rch78 hK g6
  · have no' := NOR.pre f1.1 r1 no
    obtain ⟨c0, hc0, e0, hem⟩ := no'.em ht
    obtain rfl | rfl | rfl | rfl | rfl := id ht
    all_goals
      refine rd_emit l ru_ _ rs I2 J _ ht n (by omega) c0 hc0 o 0 e0 (fun I3 em => ?_)
      refine hKk 8 [some (.ref 35), some (.int (nI δ)), some (.int 0), some (.int (nI i + 1)), some (.int o)] [] (shH ru_ _ rs) I3 J 0 0 ?_
      rw [nI_1]
      exact rd_product_fail n δ j S (i + 1) hS K I I3 J Rp _ hF (hem o 0 I3 em)
set_option maxRecDepth 100000 in
set_option maxHeartbeats 1000000 in
theorem rd_product_loop (ht : TSP ta) (hk : TKN tk N) {m n : Nat} (hn : 2 ≤ n) (hC : C1 l ru_ ta rs tk N k ws m n) (δ j c : Nat) (K : List Nat) (I : XI) (J : XJ) (Rp : XR) (hδ : δ + m = 8) (hop : opK K = δ) (hK : cl78 K = K) (hev : EV I tk N) (hc : c ≤ j) (ha : I 35 2 = nI (naL k)) (hS : ∀ I', OKR ta N tk I j c (1, K, k, ws, j) (fun j' => (2, K, k, ws, j')) (Qp tk k m) (fun j' => isSg (tk j') 42 = false ∧ isSg (tk j') 47 = false) I' → Rp (some (.int 1)) (shH ru_ ta rs) I' J) (hF : ∀ I', NOR ta tk I (1, K, k, ws, j) I' → Rp (some (.int 0)) (shH ru_ ta rs) I' J) : ∀ (M i S j' c' : Nat) (I' : XI) (o4 : Option Value), N - j' ≤ M → 2 * M + 2 < S → i ≤ j' → BG ta N tk I j c (1, K, k, ws, j) (fun j' => (2, K, k, ws, j')) (Qp tk k m) I' j' c' → (True) → xrun xxX5 (some .boolean) false false (shH ru_ ta rs).length 0 0 none l n tX5_product [8, 55] Rp S 8 [some (.ref 35), some (.int (nI δ)), some (.int 1), some (.int (nI i)), o4] [] (shH ru_ ta rs) I' J 0 0 := by
  intro M
  induction M with
  | zero =>
    intro i S j' c' I' o4 hM _ _ h
    have := h.2.2.1
    omega
  | succ M ih =>
    intro i S j' c' I' o4 hM hS' hi h hp
    obtain ⟨S, rfl⟩ : ∃ n', S = n' + 2 := ⟨S - 2, by omega⟩
    have hN := hk.2.1
    have ev' := hev.fe ht h.1.1
    have tkj := h.2.1.tk ev' h.2.2.1
    have okj := hk.2.2.2.2 j'
    have out : (isSg (tk j') 42 = false ∧ isSg (tk j') 47 = false) → (((1 : Int32) = 0 ∨ (1 : Int32) = 1) ∧ Rp (some (.int 1)) (shH ru_ ta rs) I' J) := fun hq => ⟨Or.inr rfl, hS I' ⟨j', c', h.1, h.2.1, h.2.2.1, h.2.2.2.1, h.2.2.2.2.1, h.2.2.2.2.2, hq⟩⟩
    have cA : I' 35 4 = nI (sgC 42) ↔ isSg (tk j') 42 = true := tkC_sg tkj okj (by decide)
    have cB : I' 35 4 = nI (sgC 47) ↔ isSg (tk j') 47 = true := tkC_sg tkj okj (by decide)
    refine xrun_step fun Kk hKk => ?_
    have go : ∀ o : Int32, (isOp (tk j') = true ∧ (tk j').1 ≠ 0) → (ccd ((tk j').2.1, 0) = o * 10000 + 0 ∧ rkn (tk j').2.1 = 4 ∧ ∀ k t, tyo k ((tk j').2.1, 0) (false :: false :: t) = some (false :: t)) → Kk 55 [some (.ref 35), some (.int (nI δ)), some (.int 1), some (.int (nI i)), some (.int o)] [] (shH ru_ ta rs) I' J 0 0 := fun o ho hcd => by
      refine hKk 55 [some (.ref 35), some (.int (nI δ)), some (.int 1), some (.int (nI i)), some (.int o)] [] (shH ru_ ta rs) I' J 0 0 ?_
      refine rd_product_op ht hk hn hC δ j c K I J Rp hδ hop hK hev hc ha hF S i j' c' I' o h (by omega) ho hcd (fun j2 c2 I2 b hj hq => ?_)
      exact ih (i + 1) S j2 c2 I2 _ (by omega) (by omega) (by omega) b hq
    refine And.intro (fun h3 => ?_) (fun h3 => ?_)
    · have h3 : nI 300 ≤ nI i := h3
      have hj := h.2.2.1
      rw [nI_leI (by omega) (by omega)] at h3
      have x : ∀ s, isSg (tk j') s = false := fun s => end_sg hk hj (by omega)
      exact out ⟨x _, x _⟩
    · refine And.intro (fun z => absurd z (by decide)) (fun _ => ?_)
      refine And.intro (fun gA => ?_) (fun gA => And.intro (fun gB => ?_) (fun gB => ?_))
      · have tA : isSg (tk j') 42 = true := cA.mp gA
        exact And.intro (fun z => absurd gA z) (fun _ => go 7 (op_1 (Or.inl tA)) (op42 tA))
      · exact out ⟨bF Iff.rfl (fun z => gA (cA.mpr z)), bF Iff.rfl (fun z => gB (cB.mpr z))⟩
      · have tB : isSg (tk j') 47 = true := cB.mp gB
        exact And.intro (fun _ => go 8 (op_1 (Or.inr (Or.inl tB))) (op47 tB)) (fun z => absurd z gA)
set_option maxRecDepth 100000 in
set_option maxHeartbeats 1000000 in
theorem rd_product (ht : TSP ta) (hk : TKN tk N) {m n : Nat} (hn : 2 ≤ n) (hC : C1 l ru_ ta rs tk N k ws m n) : C2 l ru_ ta rs tk N k ws m (n + 1) := by
  intro δ j c K I J Rp hδ hop hK hev hat hj hc ha _ hS hF
  have hN := hk.2.1
  refine xm_ofK 700 (X := xxX5) (t := tX5_product) (stop := [8, 55]) (ini := false) xx5 pl5 rfl kX5_product (fun h => by cases h) (Nat.le_of_ble_eq_true rfl) (fun Kk hKk => ?_)
  refine hC δ j c K I J _ hδ hop trivial hev hat hj hc ha (fun z => absurd z (by decide)) (fun I2 ok => ?_) (fun I2 no => ?_)
  · obtain ⟨j2, c2, g1, g2, g3, g4, g5, ⟨g6, e1, ce1, rr1, ty1⟩, g7⟩ := ok
    refine hKk 8 [some (.ref 35), some (.int (nI δ)), some (.int 1), some (.int (nI 0)), none] [] (shH ru_ ta rs) I2 J 0 0 ?_
    refine rd_product_loop ht hk hn hC δ j c K I J Rp hδ hop hK hev hc ha hS hF 301 0 700 j2 c2 I2 none (by omega) (by omega) (by omega) ⟨g1, g2, g3, g4, g5, ?_, e1, ce1, Qs.mono (by omega) (Q1.rs (s := (1, K, k, ws, j)) hK (q178 hK rr1)), ty1.mono (by omega)⟩ trivial
    exact rch78 hK g6
  · exact hKk 8 [some (.ref 35), some (.int (nI δ)), some (.int 0), some (.int (nI 0)), none] [] (shH ru_ ta rs) I2 J 0 0 (rd_product_fail n δ j 700 0 (by omega) K I I2 J Rp none hF no)
set_option maxRecDepth 100000 in
set_option maxHeartbeats 1000000 in
theorem rd_sum_fail (n δ j S i : Nat) (hs : 0 < S) (K : List Nat) (I I' : XI) (J : XJ) (Rp : XR) (o4 : Option Value) (hF : ∀ I', NOR ta tk I (1, K, k, ws, j) I' → Rp (some (.int 0)) (shH ru_ ta rs) I' J) (h : NOR ta tk I (1, K, k, ws, j) I') : xrun xxX5 (some .boolean) false false (shH ru_ ta rs).length 0 0 none l n tX5_sum [8, 54] Rp S 8 [some (.ref 35), some (.int (nI δ)), some (.int 0), some (.int (nI i)), o4] [] (shH ru_ ta rs) I' J 0 0 := by
  obtain ⟨S, rfl⟩ : ∃ n', S = n' + 1 := ⟨S - 1, by omega⟩
  refine xrun_step fun K hK => ?_
  exact And.intro (fun _ => And.intro (Or.inl rfl) (hF I' h)) (fun _ => And.intro (fun _ => And.intro (Or.inl rfl) (hF I' h)) (fun z => absurd rfl z))
set_option maxRecDepth 100000 in
set_option maxHeartbeats 1000000 in
theorem rd_sum_op (ht : TSP ta) (hk : TKN tk N) {m n : Nat} (hn : 2 ≤ n) (hC : C2 l ru_ ta rs tk N k ws m n) (δ j c : Nat) (K : List Nat) (I : XI) (J : XJ) (Rp : XR) (hδ : δ + m = 8) (hop : opK K = δ) (hK : cl78 K = K) (hev : EV I tk N) (hc : c ≤ j) (ha : I 35 2 = nI (naL k)) (hF : ∀ I', NOR ta tk I (1, K, k, ws, j) I' → Rp (some (.int 0)) (shH ru_ ta rs) I' J) (S i j' c' : Nat) (I' : XI) (o : Int32) (h : BG ta N tk I j c (1, K, k, ws, j) (fun j' => (2, K, k, ws, j')) (Qu tk k m) I' j' c') (hS : 0 < S) (ho : isOp (tk j') = true ∧ (tk j').1 ≠ 0) (hcd : ccd ((tk j').2.1, 0) = o * 10000 + 0 ∧ rkn (tk j').2.1 = 3 ∧ ∀ k t, tyo k ((tk j').2.1, 0) (false :: false :: t) = some (false :: t)) (go : ∀ (j2 c2 : Nat) (I2 : XI), BG ta N tk I j c (1, K, k, ws, j) (fun j' => (2, K, k, ws, j')) (Qu tk k m) I2 j2 c2 → j' + 1 ≤ j2 → (isSg (tk j2) 42 = false ∧ isSg (tk j2) 47 = false) → xrun xxX5 (some .boolean) false false (shH ru_ ta rs).length 0 0 none l n tX5_sum [8, 54] Rp S 8 [some (.ref 35), some (.int (nI δ)), some (.int 1), some (.int (nI (i + 1))), some (.int o)] [] (shH ru_ ta rs) I2 J 0 0) : xrun xxX5 (some .boolean) false false (shH ru_ ta rs).length 0 0 none l n tX5_sum [8, 54] Rp (S + 1) 54 [some (.ref 35), some (.int (nI δ)), some (.int 1), some (.int (nI i)), some (.int o)] [] (shH ru_ ta rs) I' J 0 0 := by
  obtain ⟨h1, h2, h3, h4, h5, h6, e0, ce0, rr0, ty0⟩ := h
  have hN := hk.2.1
  have ev' := hev.fe ht h1.1
  have hlt := hk.nx h3 ho.2
  have f1 : FS ta I (avI I' (j' + 1)) := h1.tr (avI_fs ht)
  have r1 : Rch tk (1, K, k, ws, j) (1, K, k, ws, j' + 1) := h6.tr (Rch.step (s2_op ho.1) (Rch.rf _))
  refine xrun_step fun Kk hKk => ?_
  refine rd_advance l ru_ ta rs I' J _ n (by omega) (j' + 1) N hN hlt (by rw [h2.1, nI_1]) ev'.1 ?_
  refine hC δ (j' + 1) c' K (avI I' (j' + 1)) J _ hδ hop hK (hev.fe ht f1.1) (avI_at ht h2.2.2.2) hlt (by omega) (by rw [f1.1.2.1 2 (by decide) (by decide) (by decide) (by decide) (by decide)]; exact ha) (fun z => absurd z (by decide)) (fun I2 ok => ?_) (fun I2 no => ?_)
  · obtain ⟨j2, c2, g1, g2, g3, g4, g5, ⟨g6, e1, ce1, rr1, ty1⟩, g7⟩ := ok
    have rr2 := Qs.op (K := K) rfl rr0 ho.1 hcd.2.1 (show 3 < 4 by omega) rr1
    have ce2 := ce0.tr (ce1.base (avI_row (i := j' + 1) (I := I') ht))
    obtain rfl | rfl | rfl | rfl | rfl := id ht
    all_goals
      refine rd_emit l ru_ _ rs I2 J _ ht n (by omega) c2 (by omega) o 0 g2.2.2.2 (fun I3 em => ?_)
      have e3 := em.at ht g2
      rw [if_pos (show c2 < 300 by omega)] at e3
      refine hKk 8 [some (.ref 35), some (.int (nI δ)), some (.int 1), some (.int (nI i + 1)), some (.int o)] [] (shH ru_ _ rs) I3 J 0 0 ?_
      rw [nI_1]
      refine go j2 (c2 + 1) I3 ⟨(f1.tr g1).tr (em.fs ht), e3, g3, by omega, by omega, r1.tr ?_, e0 ++ e1 ++ [((tk j').2.1, 0)], ce2.tr (Cem.em em (by omega) hcd.1), rr2, Typ.op ty0 ty1 (hcd.2.2 k)⟩ (by omega) g7
      exact g6
  · have no' := NOR.pre f1.1 r1 no
    obtain ⟨c0, hc0, e0, hem⟩ := no'.em ht
    obtain rfl | rfl | rfl | rfl | rfl := id ht
    all_goals
      refine rd_emit l ru_ _ rs I2 J _ ht n (by omega) c0 hc0 o 0 e0 (fun I3 em => ?_)
      refine hKk 8 [some (.ref 35), some (.int (nI δ)), some (.int 0), some (.int (nI i + 1)), some (.int o)] [] (shH ru_ _ rs) I3 J 0 0 ?_
      rw [nI_1]
      exact rd_sum_fail n δ j S (i + 1) hS K I I3 J Rp _ hF (hem o 0 I3 em)
set_option maxRecDepth 100000 in
set_option maxHeartbeats 1000000 in
theorem rd_sum_loop (ht : TSP ta) (hk : TKN tk N) {m n : Nat} (hn : 2 ≤ n) (hC : C2 l ru_ ta rs tk N k ws m n) (δ j c : Nat) (K : List Nat) (I : XI) (J : XJ) (Rp : XR) (hδ : δ + m = 8) (hop : opK K = δ) (hK : cl78 K = K) (hev : EV I tk N) (hc : c ≤ j) (ha : I 35 2 = nI (naL k)) (hS : ∀ I', OKR ta N tk I j c (1, K, k, ws, j) (fun j' => (2, K, k, ws, j')) (Qu tk k m) (fun j' => isOp (tk j') = false) I' → Rp (some (.int 1)) (shH ru_ ta rs) I' J) (hF : ∀ I', NOR ta tk I (1, K, k, ws, j) I' → Rp (some (.int 0)) (shH ru_ ta rs) I' J) : ∀ (M i S j' c' : Nat) (I' : XI) (o4 : Option Value), N - j' ≤ M → 2 * M + 2 < S → i ≤ j' → BG ta N tk I j c (1, K, k, ws, j) (fun j' => (2, K, k, ws, j')) (Qu tk k m) I' j' c' → (isSg (tk j') 42 = false ∧ isSg (tk j') 47 = false) → xrun xxX5 (some .boolean) false false (shH ru_ ta rs).length 0 0 none l n tX5_sum [8, 54] Rp S 8 [some (.ref 35), some (.int (nI δ)), some (.int 1), some (.int (nI i)), o4] [] (shH ru_ ta rs) I' J 0 0 := by
  intro M
  induction M with
  | zero =>
    intro i S j' c' I' o4 hM _ _ h
    have := h.2.2.1
    omega
  | succ M ih =>
    intro i S j' c' I' o4 hM hS' hi h hp
    obtain ⟨S, rfl⟩ : ∃ n', S = n' + 2 := ⟨S - 2, by omega⟩
    have hN := hk.2.1
    have ev' := hev.fe ht h.1.1
    have tkj := h.2.1.tk ev' h.2.2.1
    have okj := hk.2.2.2.2 j'
    have out : (isSg (tk j') 43 = false ∧ isSg (tk j') 45 = false) → (((1 : Int32) = 0 ∨ (1 : Int32) = 1) ∧ Rp (some (.int 1)) (shH ru_ ta rs) I' J) := fun hq => ⟨Or.inr rfl, hS I' ⟨j', c', h.1, h.2.1, h.2.2.1, h.2.2.2.1, h.2.2.2.2.1, h.2.2.2.2.2, op_0 hp hq⟩⟩
    have cA : I' 35 4 = nI (sgC 43) ↔ isSg (tk j') 43 = true := tkC_sg tkj okj (by decide)
    have cB : I' 35 4 = nI (sgC 45) ↔ isSg (tk j') 45 = true := tkC_sg tkj okj (by decide)
    refine xrun_step fun Kk hKk => ?_
    have go : ∀ o : Int32, (isOp (tk j') = true ∧ (tk j').1 ≠ 0) → (ccd ((tk j').2.1, 0) = o * 10000 + 0 ∧ rkn (tk j').2.1 = 3 ∧ ∀ k t, tyo k ((tk j').2.1, 0) (false :: false :: t) = some (false :: t)) → Kk 54 [some (.ref 35), some (.int (nI δ)), some (.int 1), some (.int (nI i)), some (.int o)] [] (shH ru_ ta rs) I' J 0 0 := fun o ho hcd => by
      refine hKk 54 [some (.ref 35), some (.int (nI δ)), some (.int 1), some (.int (nI i)), some (.int o)] [] (shH ru_ ta rs) I' J 0 0 ?_
      refine rd_sum_op ht hk hn hC δ j c K I J Rp hδ hop hK hev hc ha hF S i j' c' I' o h (by omega) ho hcd (fun j2 c2 I2 b hj hq => ?_)
      exact ih (i + 1) S j2 c2 I2 _ (by omega) (by omega) (by omega) b hq
    refine And.intro (fun h3 => ?_) (fun h3 => ?_)
    · have h3 : nI 300 ≤ nI i := h3
      have hj := h.2.2.1
      rw [nI_leI (by omega) (by omega)] at h3
      have x : ∀ s, isSg (tk j') s = false := fun s => end_sg hk hj (by omega)
      exact out ⟨x _, x _⟩
    · refine And.intro (fun z => absurd z (by decide)) (fun _ => ?_)
      refine And.intro (fun gA => ?_) (fun gA => And.intro (fun gB => ?_) (fun gB => ?_))
      · have tA : isSg (tk j') 43 = true := cA.mp gA
        exact And.intro (fun z => absurd gA z) (fun _ => go 5 (op_1 (Or.inr (Or.inr (Or.inl tA)))) (op43 tA))
      · exact out ⟨bF Iff.rfl (fun z => gA (cA.mpr z)), bF Iff.rfl (fun z => gB (cB.mpr z))⟩
      · have tB : isSg (tk j') 45 = true := cB.mp gB
        exact And.intro (fun _ => go 6 (op_1 (Or.inr (Or.inr (Or.inr tB)))) (op45 tB)) (fun z => absurd z gA)
set_option maxRecDepth 100000 in
set_option maxHeartbeats 1000000 in
theorem rd_sum (ht : TSP ta) (hk : TKN tk N) {m n : Nat} (hn : 2 ≤ n) (hC : C2 l ru_ ta rs tk N k ws m n) : C3 l ru_ ta rs tk N k ws m (n + 1) := by
  intro δ j c K I J Rp hδ hop hK hev hat hj hc ha _ hS hF
  have hN := hk.2.1
  refine xm_ofK 700 (X := xxX5) (t := tX5_sum) (stop := [8, 54]) (ini := false) xx5 pl5 rfl kX5_sum (fun h => by cases h) (Nat.le_of_ble_eq_true rfl) (fun Kk hKk => ?_)
  refine hC δ j c K I J _ hδ hop hK hev hat hj hc ha (fun z => absurd z (by decide)) (fun I2 ok => ?_) (fun I2 no => ?_)
  · obtain ⟨j2, c2, g1, g2, g3, g4, g5, ⟨g6, e1, ce1, rr1, ty1⟩, g7⟩ := ok
    refine hKk 8 [some (.ref 35), some (.int (nI δ)), some (.int 1), some (.int (nI 0)), none] [] (shH ru_ ta rs) I2 J 0 0 ?_
    refine rd_sum_loop ht hk hn hC δ j c K I J Rp hδ hop hK hev hc ha hS hF 301 0 700 j2 c2 I2 none (by omega) (by omega) (by omega) ⟨g1, g2, g3, g4, g5, ?_, e1, ce1, rr1.mono (by omega), ty1.mono (by omega)⟩ g7
    exact g6
  · exact hKk 8 [some (.ref 35), some (.int (nI δ)), some (.int 0), some (.int (nI 0)), none] [] (shH ru_ ta rs) I2 J 0 0 (rd_sum_fail n δ j 700 0 (by omega) K I I2 J Rp none hF no)
end READ
