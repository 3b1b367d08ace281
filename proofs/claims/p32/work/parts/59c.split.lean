-- ===== the tape is split =====
def sgC (v : Nat) : Nat := if v = 300 then 256 else if v = 301 then 257 else v
def tkC (s v : Int32) (q : TK) : Prop := match q.1 with
  | 0 => s = 0
  | 1 => s = 3 ∧ v = nI (cw q.2.1)
  | 2 => s = 2 ∧ v = nI q.2.1
  | 3 => s = nI (sgC q.2.1)
  | _ => s = 1 ∨ (s = 3 ∧ v = -1)
def TA (I : XI) (B : Nat → Int32) (T N : Nat) : Prop := I 30 5 = nI N ∧ ∀ j, j < N → tkC (I 32 j) (I 33 j) (tkS B T j) ∧ I 34 j = nI (tkS B T j).2.2.1
def SPF (I I' : XI) : Prop := (∀ p, p ≠ 30 → p ≠ 32 → p ≠ 33 → p ≠ 34 → I' p = I p) ∧ ∀ k, k ≠ 5 → I' 30 k = I 30 k
def SP (B : Nat → Int32) (T : Nat) (I I' : XI) (c i : Nat) : Prop := TA I' B T c ∧ (c ≤ i ∧ i ≤ T) ∧ (∀ j, j < c → (tkS B T j).1 ≠ 0) ∧ ru bBl B T (pos B T c) = ru bBl B T i ∧ SPF I I'
theorem adI_32 {I : XI} {c : Nat} {s v p : Int32} (j : Nat) : adI I c s v p 32 j = if j = c then s else I 32 j := by
  unfold adI
  rw [uI_ne (by decide), uI_ne (by decide), uI_ne (by decide), uI_atC]
theorem adI_33 {I : XI} {c : Nat} {s v p : Int32} (j : Nat) : adI I c s v p 33 j = if j = c then v else I 33 j := by
  unfold adI
  rw [uI_ne (by decide), uI_ne (by decide), uI_atC, uI_ne (by decide)]
theorem adI_34 {I : XI} {c : Nat} {s v p : Int32} (j : Nat) : adI I c s v p 34 j = if j = c then p else I 34 j := by
  unfold adI
  rw [uI_ne (by decide), uI_atC, uI_ne (by decide), uI_ne (by decide)]
theorem adI_30 {I : XI} {c : Nat} {s v p : Int32} (k : Nat) : adI I c s v p 30 k = if k = 5 then nI (c + 1) else I 30 k := by
  unfold adI
  rw [uI_atC, uI_ne (by decide), uI_ne (by decide), uI_ne (by decide)]
theorem adI_ne {I : XI} {c : Nat} {s v p : Int32} (q : Nat) (h0 : q ≠ 30) (h1 : q ≠ 32) (h2 : q ≠ 33) (h3 : q ≠ 34) : adI I c s v p q = I q := by
  unfold adI
  rw [uI_ne h0, uI_ne h3, uI_ne h2, uI_ne h1]
theorem TA_add {I : XI} {B : Nat → Int32} {T c : Nat} {s v p : Int32} (h : TA I B T c) (hk : tkC s v (tkS B T c)) (hp : p = nI (tkS B T c).2.2.1) : TA (adI I c s v p) B T (c + 1) := by
  refine ⟨by rw [adI_30, if_pos rfl], fun j hj => ?_⟩
  rw [adI_32, adI_33, adI_34]
  by_cases e : j = c
  · rw [if_pos e, if_pos e, if_pos e, e]
    exact ⟨hk, hp⟩
  · rw [if_neg e, if_neg e, if_neg e]
    exact h.2 j (by omega)
theorem SPF_add {I I' : XI} {c : Nat} {s v p : Int32} (h : SPF I I') : SPF I (adI I' c s v p) := by
  refine ⟨fun q h0 h1 h2 h3 => ?_, fun k hk => ?_⟩
  · rw [adI_ne q h0 h1 h2 h3]
    exact h.1 q h0 h1 h2 h3
  · rw [adI_30, if_neg hk]
    exact h.2 k hk
theorem SP_add {B : Nat → Int32} {T : Nat} {I I' : XI} {c i nx : Nat} {s v p : Int32} (h : SP B T I I' c i) (hk : tkC s v (tkS B T c)) (hp : p = nI (tkS B T c).2.2.1) (h0 : (tkS B T c).1 ≠ 0) (hn : (tkS B T c).2.2.2 = nx) (h1 : i < nx) (h2 : nx ≤ T) : SP B T I (adI I' c s v p) (c + 1) nx := by
  obtain ⟨a1, a2, a3, a4, a5⟩ := h
  refine ⟨TA_add a1 hk hp, ⟨by omega, h2⟩, fun j hj => ?_, ?_, SPF_add a5⟩
  · by_cases e : j = c
    · rw [e]
      exact h0
    · exact a3 j (by omega)
  · rw [← hn]
    rfl
theorem SP_tk {B : Nat → Int32} {T : Nat} {I I' : XI} {c i : Nat} (h : SP B T I I' c i) (hb : bBl (B i) = false) : tkS B T c = lexC B T i := by
  show lexC B T (ru bBl B T (pos B T c)) = _
  rw [h.2.2.2.1, ru_f hb]
theorem bl_no {x : Int32} {f : Int32 → Bool} (h : f x = true) (h1 : f 32 = false) (h2 : f 10 = false) : bBl x = false := by
  refine bF (bBl_iff x) (fun z => ?_)
  rcases z with z | z
  · rw [z, h1] at h
    cases h
  · rw [z, h2] at h
    cases h
theorem ble_f {T i : Nat} (h : i < T) : Nat.ble T i = false := by
  cases e : Nat.ble T i with
  | true => exact absurd (Nat.le_of_ble_eq_true e) (by omega)
  | false => rfl
theorem lexC_lt {B : Nat → Int32} {T i : Nat} (h : i < T) (h1 : bLt (B i) = true) : lexC B T i = (match kW (lts B T i) wT 0 with
  | some k => (1, k, i, ru bLt B T i)
  | none => (4, 0, i, ru bLt B T i)) := by
  unfold lexC
  rw [ble_f h, h1]
  rfl
theorem lexC_dg {B : Nat → Int32} {T i : Nat} (h : i < T) (h1 : bDg (B i) = true) : lexC B T i = (2, nuS B T i 0, i, ru bDg B T i) := by
  unfold lexC
  rw [ble_f h, dg_lt h1, h1]
theorem lexC_le {B : Nat → Int32} {T i : Nat} (h : i < T) (h1 : bLt (B i) = false) (h2 : bDg (B i) = false) (h3 : ((decide (B i = 60) || decide (B i = 62)) && (Nat.blt (i + 1) T && decide (B (i + 1) = 61))) = true) : lexC B T i = (3, (match decide (B i = 60) with
  | true => 300
  | false => 301), i, i + 2) := by
  unfold lexC
  rw [ble_f h, h1, h2, h3]
  rfl
theorem lexC_sg {B : Nat → Int32} {T i : Nat} (h : i < T) (h1 : bLt (B i) = false) (h2 : bDg (B i) = false) (h3 : ((decide (B i = 60) || decide (B i = 62)) && (Nat.blt (i + 1) T && decide (B (i + 1) = 61))) = false) : lexC B T i = (match sgL.contains (B i) with
  | true => (3, (B i).toNatClampNeg, i, i + 1)
  | false => (4, 0, i, i + 1)) := by
  unfold lexC
  rw [ble_f h, h1, h2, h3]
  rfl
theorem lexC_end {B : Nat → Int32} {T i : Nat} (h : T ≤ i) : lexC B T i = (0, 0, T, T) := by
  unfold lexC
  rw [Nat.ble_eq.mpr h]
theorem mx_nI {i nx : Nat} (h : i + 1 ≤ nx) (hn : nx < 2 ^ 31) : (if nI nx < nI i + 1 then nI i + 1 else nI nx) = nI nx := by
  rw [nI_1]
  exact if_neg (nI_nlt h hn)
theorem sg_ix : ((List.range 256).all fun n => decide (((nI n).toUInt32 % 65536).toInt32 = nI n) && (decide ((jsIx (nI n)) < 0) == !(sgL.contains (nI n)))) = true := by decide +kernel
theorem sg_BR {c r : Int32} (h : BR c r) : sgL.contains c = sgL.contains r := by
  rcases h with ⟨_, e, _⟩ | ⟨a, b, _⟩
  · rw [e]
  · have y : ∀ z, z ∈ sgL → 0 ≤ z ∧ z < 128 := by decide
    have n1 : sgL.contains c = false := by
      cases e : sgL.contains c with
      | false => rfl
      | true =>
        have z := y c (by simpa using e)
        exact absurd z.2 (Int32.not_lt.mpr b)
    have n2 : sgL.contains r = false := by
      cases e : sgL.contains r with
      | false => rfl
      | true =>
        have z := y r (by simpa using e)
        exact absurd a (Int32.not_lt.mpr z.1)
    rw [n1, n2]
theorem BR_nI {c r : Int32} (h : BR c r) : ∃ n, n < 256 ∧ c = nI n := by
  have y : 0 ≤ c.toInt ∧ c.toInt ≤ 255 := by
    rcases h with ⟨a, e, b⟩ | ⟨_, b, d⟩
    · rw [← e] at a
      have a := Int32.le_iff_toInt_le.mp a
      have b := Int32.le_iff_toInt_le.mp b
      rw [show (0 : Int32).toInt = 0 by decide] at a
      rw [show (127 : Int32).toInt = 127 by decide] at b
      omega
    · have b := Int32.le_iff_toInt_le.mp b
      have d := Int32.le_iff_toInt_le.mp d
      rw [show (128 : Int32).toInt = 128 by decide] at b
      rw [show (255 : Int32).toInt = 255 by decide] at d
      omega
  refine ⟨c.toInt.toNat, by omega, ?_⟩
  apply Int32.toInt_inj.mp
  rw [nI_toInt (by omega)]
  omega
theorem sgL_nI {r : Int32} (h : sgL.contains r = true) : r = nI r.toNatClampNeg ∧ r.toNatClampNeg < 100 := by
  have y : ∀ z, z ∈ sgL → z = nI z.toNatClampNeg ∧ z.toNatClampNeg < 100 := by decide
  exact y r (by simpa using h)
section SPLIT
variable (l : Launch) (ru_ ta : Nat) (rs : List XO) (I : XI) (J : XJ) (Rp : XR) (B : Nat → Int32) (T : Nat)
abbrev spr (l : Launch) (ru_ ta : Nat) (rs : List XO) (J : XJ) (Rp : XR) (d N pc : Nat) (lc : List (Option Value)) (I : XI) : Prop := xrun xxX7 none false false (shH ru_ ta rs).length 0 0 none l (d + 6) tX7_split [7, 93, 131] Rp N pc lc [] (shH ru_ ta rs) I J 0 0
set_option maxRecDepth 100000 in
set_option maxHeartbeats 1000000 in
theorem sp_131 (d N c i : Nat) (hT : T ≤ 300) (I' : XI) (h : SP B T I I' c i) (hi : i < T) (hx : BR (I' 31 i) (B i)) (n1 : bLt (B i) = false) (n2 : bDg (B i) = false) (n3 : ((decide (B i = 60) || decide (B i = 62)) && (Nat.blt (i + 1) T && decide (B (i + 1) = 61))) = false) (go : ∀ (N' : Nat), N ≤ N' → ∀ (I'' : XI) (c' i' : Nat) (o2 o3 : Option Value), SP B T I I'' c' i' → i < i' → spr l ru_ ta rs J Rp d N' 7 [some (.ref 30), some (.int (nI i')), o2, o3] I'') : spr l ru_ ta rs J Rp d (N + 1) 131 [some (.ref 30), some (.int (nI i)), some (.int (I' 31 i)), some (.int (nI (i + 1)))] I' := by
  have bk : bBl (B i) = true → spr l ru_ ta rs J Rp d N 7 [some (.ref 30), some (.int (if nI (i + 1) < nI i + 1 then nI i + 1 else nI (i + 1))), some (.int (I' 31 i)), some (.int (nI (i + 1)))] I' := by
    intro hb
    rw [mx_nI (Nat.le_refl _) (by omega)]
    refine go N (Nat.le_refl _) I' c (i + 1) _ _ ⟨h.1, by have := h.2.1; omega, h.2.2.1, ?_, h.2.2.2.2⟩ (by omega)
    rw [h.2.2.2.1, ru_t hi hb]
  refine xrun_step fun K hK => ?_
  refine And.intro (fun g => ?_) (fun g => And.intro (fun g2 => ?_) (fun g2 => ?_))
  · exact hK 7 [some (.ref 30), some (.int (if nI (i + 1) < nI i + 1 then nI i + 1 else nI (i + 1))), some (.int (I' 31 i)), some (.int (nI (i + 1)))] [] (shH ru_ ta rs) I' J 0 0 (bk ((bBl_iff _).mpr (Or.inl ((BR_eq hx (by decide) (by decide)).mp g))))
  · exact hK 7 [some (.ref 30), some (.int (if nI (i + 1) < nI i + 1 then nI i + 1 else nI (i + 1))), some (.int (I' 31 i)), some (.int (nI (i + 1)))] [] (shH ru_ ta rs) I' J 0 0 (bk ((bBl_iff _).mpr (Or.inr ((BR_eq hx (by decide) (by decide)).mp g2))))
  · have hb : bBl (B i) = false := bF (bBl_iff _) (fun z => by
      rcases z with z | z
      · exact g ((BR_eq hx (by decide) (by decide)).mpr z)
      · exact g2 ((BR_eq hx (by decide) (by decide)).mpr z))
    have ek : tkS B T c = _ := (SP_tk h hb).trans (lexC_sg hi n1 n2 n3)
    obtain ⟨n, hn, en⟩ := BR_nI hx
    have y := List.all_eq_true.mp sg_ix n (List.mem_range.mpr hn)
    rw [Bool.and_eq_true] at y
    have e2c : ((I' 31 i).toUInt32 % 65536).toInt32 = I' 31 i := by rw [en]; exact of_decide_eq_true y.1
    have ejs : decide (jsIx (I' 31 i) < 0) = !(sgL.contains (B i)) := by
      rw [← sg_BR hx, en]
      exact eq_of_beq y.2
    show xm l (d + 6) 0 0 mJ0_indexOf_0f7a4 [.ref 900002, .int ((I' 31 i).toUInt32 % 65536).toInt32] (shH ru_ ta rs) I' J _
    rw [e2c]
    refine js_ix l (d + 2) (I' 31 i) _ _ _ _ ?_
    have hc := h.2.1
    refine And.intro (fun hlt => ?_) (fun hge => ?_)
    · have ns : sgL.contains (B i) = false := by
        rw [decide_eq_true hlt] at ejs
        cases e : sgL.contains (B i) with
        | false => rfl
        | true =>
          rw [e] at ejs
          cases ejs
      rw [ns] at ek
      refine tc_addToken l ru_ ta rs I' J _ (d + 5) c (by omega) 1 0 (nI i) h.1.1 ?_
      refine hK 7 [some (.ref 30), some (.int (if nI (i + 1) < nI i + 1 then nI i + 1 else nI (i + 1))), some (.int (I' 31 i)), some (.int (nI (i + 1)))] [] (shH ru_ ta rs) (adI I' c 1 0 (nI i)) J 0 0 ?_
      rw [mx_nI (Nat.le_refl _) (by omega)]
      exact go N (Nat.le_refl _) _ (c + 1) (i + 1) _ _ (SP_add h (by rw [ek]; exact Or.inl rfl) (by rw [ek]) (by rw [ek]; exact (show (4 : Nat) ≠ 0 by decide)) (by rw [ek]) (by omega) (by omega)) (by omega)
    · have ns : sgL.contains (B i) = true := by
        rw [decide_eq_false hge] at ejs
        cases e : sgL.contains (B i) with
        | true => rfl
        | false =>
          rw [e] at ejs
          cases ejs
      rw [ns] at ek
      have er := sgL_nI ns
      have ex : I' 31 i = nI (sgC (B i).toNatClampNeg) := by
        have e1 : sgC (B i).toNatClampNeg = (B i).toNatClampNeg := by
          unfold sgC
          rw [if_neg (by omega), if_neg (by omega)]
        rw [e1, ← er.1]
        rcases hx with ⟨_, e, _⟩ | ⟨a, _, _⟩
        · exact e
        · exfalso
          rw [er.1] at a
          exact nI_pos (by omega) a
      refine tc_addToken l ru_ ta rs I' J _ (d + 5) c (by omega) (I' 31 i) 0 (nI i) h.1.1 ?_
      refine hK 7 [some (.ref 30), some (.int (if nI (i + 1) < nI i + 1 then nI i + 1 else nI (i + 1))), some (.int (I' 31 i)), some (.int (nI (i + 1)))] [] (shH ru_ ta rs) (adI I' c (I' 31 i) 0 (nI i)) J 0 0 ?_
      rw [mx_nI (Nat.le_refl _) (by omega)]
      exact go N (Nat.le_refl _) _ (c + 1) (i + 1) _ _ (SP_add h (by rw [ek]; exact ex) (by rw [ek]) (by rw [ek]; exact (show (3 : Nat) ≠ 0 by decide)) (by rw [ek]) (by omega) (by omega)) (by omega)
set_option maxRecDepth 100000 in
set_option maxHeartbeats 1000000 in
theorem sp_93 (d N c i : Nat) (hT : T ≤ 300) (I' : XI) (h : SP B T I I' c i) (eT : I' 30 1 = nI T) (hi : i < T) (hB : ∀ i, i < T → BR (I' 31 i) (B i)) (hx : B i = 60 ∨ B i = 62) (go : ∀ (N' : Nat), N ≤ N' → ∀ (I'' : XI) (c' i' : Nat) (o2 o3 : Option Value), SP B T I I'' c' i' → i < i' → spr l ru_ ta rs J Rp d N' 7 [some (.ref 30), some (.int (nI i')), o2, o3] I'') : spr l ru_ ta rs J Rp d (N + 2) 93 [some (.ref 30), some (.int (nI i)), some (.int (I' 31 i)), some (.int (nI (i + 1)))] I' := by
  have n1 : bLt (B i) = false := by rcases hx with e | e <;> rw [e] <;> decide
  have n2 : bDg (B i) = false := by rcases hx with e | e <;> rw [e] <;> decide
  have nb : bBl (B i) = false := by rcases hx with e | e <;> rw [e] <;> decide
  have hc := h.2.1
  have t131 : ¬ (i + 1 < T ∧ B (i + 1) = 61) → spr l ru_ ta rs J Rp d (N + 1) 131 [some (.ref 30), some (.int (nI i)), some (.int (I' 31 i)), some (.int (nI (i + 1)))] I' := by
    intro hn
    refine sp_131 l ru_ ta rs I J Rp B T d N c i hT I' h hi (hB i hi) n1 n2 ?_ go
    have : (Nat.blt (i + 1) T && decide (B (i + 1) = 61)) = false := by
      cases e : (Nat.blt (i + 1) T && decide (B (i + 1) = 61)) with
      | false => rfl
      | true =>
        rw [Bool.and_eq_true] at e
        exact absurd ⟨Nat.blt_eq.mp e.1, of_decide_eq_true e.2⟩ hn
    rw [this, Bool.and_false]
  refine xrun_step fun K hK => ?_
  refine tc_byteAt l ru_ ta rs I' J _ T (d + 5) (i + 1) (by omega) hT eT (fun hlt => ?_) (fun hge => ?_)
  · have hbb := hB (i + 1) hlt
    refine And.intro (fun g => ?_) (fun g => ?_)
    · refine hK 131 [some (.ref 30), some (.int (nI i)), some (.int (I' 31 i)), some (.int (nI (i + 1)))] [] (shH ru_ ta rs) I' J 0 0 (t131 (fun z => g ((BR_eq hbb (by decide) (by decide)).mpr z.2)))
    · have e61 : B (i + 1) = 61 := (BR_eq hbb (by decide) (by decide)).mp g
      have h3 : ((decide (B i = 60) || decide (B i = 62)) && (Nat.blt (i + 1) T && decide (B (i + 1) = 61))) = true := by
        rw [e61, Bool.and_eq_true, Bool.and_eq_true]
        refine ⟨?_, Nat.blt_eq.mpr hlt, rfl⟩
        rcases hx with e | e <;> rw [e] <;> decide
      have ek : tkS B T c = _ := (SP_tk h nb).trans (lexC_le hi n1 n2 h3)
      have e2 : nI i + 2 = nI (i + 2) := nI_add i 2
      have fin : ∀ s : Int32, tkC s 0 (tkS B T c) → K 7 [some (.ref 30), some (.int (if nI i + 2 < nI i + 1 then nI i + 1 else nI i + 2)), some (.int (I' 31 i)), some (.int (nI i + 2))] [] (shH ru_ ta rs) (adI I' c s 0 (nI i)) J 0 0 := by
        intro s hs
        refine hK 7 [some (.ref 30), some (.int (if nI i + 2 < nI i + 1 then nI i + 1 else nI i + 2)), some (.int (I' 31 i)), some (.int (nI i + 2))] [] (shH ru_ ta rs) (adI I' c s 0 (nI i)) J 0 0 ?_
        rw [e2, mx_nI (by omega) (by omega)]
        exact go (N + 1) (by omega) _ (c + 1) (i + 2) _ _ (SP_add h hs (by rw [ek]) (by rw [ek]; exact (show (3 : Nat) ≠ 0 by decide)) (by rw [ek]) (by omega) (by omega)) (by omega)
      refine And.intro (fun g2 => ?_) (fun g2 => ?_)
      · refine tc_addToken l ru_ ta rs I' J _ (d + 5) c (by omega) 257 0 (nI i) h.1.1 ?_
        refine fin 257 ?_
        have n60 : ¬ B i = 60 := fun z => g2 ((BR_eq (hB i hi) (by decide) (by decide)).mpr z)
        rw [ek, decide_eq_false n60]
        rfl
      · refine tc_addToken l ru_ ta rs I' J _ (d + 5) c (by omega) 256 0 (nI i) h.1.1 ?_
        refine fin 256 ?_
        have e60 : B i = 60 := (BR_eq (hB i hi) (by decide) (by decide)).mp g2
        rw [ek, decide_eq_true e60]
        rfl
  · exact And.intro (fun _ => hK 131 [some (.ref 30), some (.int (nI i)), some (.int (I' 31 i)), some (.int (nI (i + 1)))] [] (shH ru_ ta rs) I' J 0 0 (t131 (fun z => by omega))) (fun z => absurd z (by decide))
set_option maxRecDepth 100000 in
set_option maxHeartbeats 2000000 in
theorem sp_7 (d : Nat) (hT : T ≤ 300) (eT : I 30 1 = nI T) (hB : ∀ i, i < T → BR (I 31 i) (B i)) (hR : ∀ (I' : XI) (N : Nat), 1 ≤ N → N ≤ 301 → TA I' B T N → (∀ j, j + 1 < N → (tkS B T j).1 ≠ 0) → (tkS B T (N - 1)).1 = 0 → SPF I I' → Rp none (shH ru_ ta rs) I' J) : ∀ (m i N c : Nat) (I' : XI) (o2 o3 : Option Value), T - i ≤ m → 3 * m + 5 < N → SP B T I I' c i → spr l ru_ ta rs J Rp d N 7 [some (.ref 30), some (.int (nI i)), o2, o3] I' := by
  have fin : ∀ (i N c : Nat) (I' : XI) (o2 o3 : Option Value), T ≤ i → 0 < N → SP B T I I' c i → spr l ru_ ta rs J Rp d N 7 [some (.ref 30), some (.int (nI i)), o2, o3] I' := by
    intro i N c I' o2 o3 hi hN h
    obtain ⟨N, rfl⟩ : ∃ n', N = n' + 1 := ⟨N - 1, by omega⟩
    have hc := h.2.1
    have e1 : I' 30 1 = nI T := by rw [h.2.2.2.2.2 1 (by decide)]; exact eT
    have ek : tkS B T c = (0, 0, T, T) := by
      show lexC B T (ru bBl B T (pos B T c)) = _
      rw [h.2.2.2.1, ru_e hi]
      exact lexC_end hi
    refine xrun_step fun K hK => ?_
    refine And.intro (fun _ => ?_) (fun z => absurd (show I' 30 1 ≤ nI i by rw [e1]; exact nI_le hi (by omega)) z)
    refine tc_addToken l ru_ ta rs I' J _ (d + 5) c (by omega) 0 0 (I' 30 1) h.1.1 ?_
    exact hR _ (c + 1) (by omega) (by omega) (TA_add h.1 (by rw [ek]; rfl) (by rw [ek]; exact e1)) (fun j hj => h.2.2.1 j (by omega)) (by rw [show c + 1 - 1 = c by omega, ek]) (SPF_add h.2.2.2.2)
  intro m
  induction m with
  | zero =>
    intro i N c I' o2 o3 hi hN h
    exact fin i N c I' o2 o3 (by omega) (by omega) h
  | succ m ih =>
    intro i N c I' o2 o3 him hN h
    rcases Nat.lt_or_ge i T with hi | hi
    · obtain ⟨N, rfl⟩ : ∃ n', N = n' + 3 := ⟨N - 3, by omega⟩
      have hc := h.2.1
      have e1 : I' 30 1 = nI T := by rw [h.2.2.2.2.2 1 (by decide)]; exact eT
      have hB' : ∀ i, i < T → BR (I' 31 i) (B i) := fun k hk => by rw [h.2.2.2.2.1 31 (by decide) (by decide) (by decide) (by decide)]; exact hB k hk
      have go : ∀ (N' : Nat), N ≤ N' → ∀ (I'' : XI) (c' i' : Nat) (o2 o3 : Option Value), SP B T I I'' c' i' → i < i' → spr l ru_ ta rs J Rp d N' 7 [some (.ref 30), some (.int (nI i')), o2, o3] I'' := fun N' hN' I'' c' i' o2 o3 h' hlt => ih i' N' c' I'' o2 o3 (by omega) (by omega) h'
      have hx := hB' i hi
      have en : nI i + 1 = nI (i + 1) := nI_1 i
      refine xrun_step fun K hK => ?_
      refine And.intro (fun z => absurd (show I' 30 1 ≤ nI i from z) (by rw [e1]; exact nI_ge hi (by omega))) (fun _ => ?_)
      refine tc_byteAt l ru_ ta rs I' J _ T (d + 5) i (by omega) hT e1 (fun _ => ?_) (fun z => absurd z (by omega))
      refine tc_isDigit l I' J _ (d + 5) (I' 31 i) _ (fun z => ?_) (fun z => ?_)
      · have hd := (BR_dg hx).mp z
        have hb : bBl (B i) = false := bl_no hd (by decide) (by decide)
        have hg := ru_gt hi hd
        have hl := ru_le (f := bDg) (B := B) (T := T) (i := i) (by omega)
        have ek : tkS B T c = _ := (SP_tk h hb).trans (lexC_dg hi hd)
        refine And.intro (fun z => absurd z (by decide)) (fun _ => ?_)
        refine tc_endOfDigits l ru_ ta rs I' J _ B T (d + 4) i (by omega) hT e1 hB' ?_
        refine tc_numberIn l ru_ ta rs I' J _ B T (d + 4) i (by omega) hT e1 hB' ?_
        refine tc_addToken l ru_ ta rs I' J _ (d + 5) c (by omega) 2 _ (nI i) h.1.1 ?_
        refine hK 7 [some (.ref 30), some (.int (if nI (ru bDg B T i) < nI i + 1 then nI i + 1 else nI (ru bDg B T i))), some (.int (I' 31 i)), some (.int (nI (ru bDg B T i)))] [] (shH ru_ ta rs) (adI I' c 2 (nI (nuS B T i 0)) (nI i)) J 0 0 ?_
        rw [mx_nI hg (by omega)]
        exact go (N + 2) (by omega) _ (c + 1) _ _ _ (SP_add h (by rw [ek]; exact ⟨rfl, rfl⟩) (by rw [ek]) (by rw [ek]; exact (show (2 : Nat) ≠ 0 by decide)) (by rw [ek]) (by omega) hl) (by omega)
      · have n2 : bDg (B i) = false := bF Iff.rfl (fun y => z ((BR_dg hx).mpr y))
        refine And.intro (fun _ => ?_) (fun z => absurd rfl z)
        refine tc_isLetter l I' J _ (d + 5) (I' 31 i) _ (fun z => ?_) (fun z => ?_)
        · have hd := (BR_lt hx).mp z
          have hb : bBl (B i) = false := bl_no hd (by decide) (by decide)
          have hg := ru_gt hi hd
          have hl := ru_le (f := bLt) (B := B) (T := T) (i := i) (by omega)
          have ek : tkS B T c = _ := (SP_tk h hb).trans (lexC_lt hi hd)
          refine And.intro (fun z => absurd z (by decide)) (fun _ => ?_)
          refine tc_endOfLetters l ru_ ta rs I' J _ B T (d + 4) i (by omega) hT e1 hB' ?_
          refine tc_wordIn l ru_ ta rs I' J _ B T d i (by omega) hT e1 hB' ?_
          refine tc_addToken l ru_ ta rs I' J _ (d + 5) c (by omega) 3 _ (nI i) h.1.1 ?_
          refine hK 7 [some (.ref 30), some (.int (if nI (ru bLt B T i) < nI i + 1 then nI i + 1 else nI (ru bLt B T i))), some (.int (I' 31 i)), some (.int (nI (ru bLt B T i)))] [] (shH ru_ ta rs) (adI I' c 3 (oI ((kW (lts B T i) wT 0).map cw)) (nI i)) J 0 0 ?_
          rw [mx_nI hg (by omega)]
          cases hk : kW (lts B T i) wT 0 with
          | some k =>
            rw [hk] at ek
            exact go (N + 2) (by omega) _ (c + 1) _ _ _ (SP_add h (by rw [ek]; exact ⟨rfl, rfl⟩) (by rw [ek]) (by rw [ek]; exact (show (1 : Nat) ≠ 0 by decide)) (by rw [ek]) (by omega) hl) (by omega)
          | none =>
            rw [hk] at ek
            exact go (N + 2) (by omega) _ (c + 1) _ _ _ (SP_add h (by rw [ek]; exact Or.inr ⟨rfl, rfl⟩) (by rw [ek]) (by rw [ek]; exact (show (4 : Nat) ≠ 0 by decide)) (by rw [ek]) (by omega) hl) (by omega)
        · have n1 : bLt (B i) = false := bF Iff.rfl (fun y => z ((BR_lt hx).mpr y))
          refine And.intro (fun _ => ?_) (fun z => absurd rfl z)
          have t93 : B i = 60 ∨ B i = 62 → K 93 [some (.ref 30), some (.int (nI i)), some (.int (I' 31 i)), some (.int (nI i + 1))] [] (shH ru_ ta rs) I' J 0 0 := by
            intro hx2
            refine hK 93 [some (.ref 30), some (.int (nI i)), some (.int (I' 31 i)), some (.int (nI i + 1))] [] (shH ru_ ta rs) I' J 0 0 ?_
            rw [en]
            exact sp_93 l ru_ ta rs I J Rp B T d N c i hT I' h e1 hi hB' hx2 go
          refine And.intro (fun g => ?_) (fun g => And.intro (fun g2 => ?_) (fun g2 => ?_))
          · exact t93 (Or.inl ((BR_eq hx (by decide) (by decide)).mp g))
          · refine hK 131 [some (.ref 30), some (.int (nI i)), some (.int (I' 31 i)), some (.int (nI i + 1))] [] (shH ru_ ta rs) I' J 0 0 ?_
            rw [en]
            have m1 : ¬ B i = 60 := fun y => g ((BR_eq hx (by decide) (by decide)).mpr y)
            have m2 : ¬ B i = 62 := fun y => g2 ((BR_eq hx (by decide) (by decide)).mpr y)
            refine sp_131 l ru_ ta rs I J Rp B T d (N + 1) c i hT I' h hi hx n1 n2 ?_ (fun N' hN' => go N' (by omega))
            rw [decide_eq_false m1, decide_eq_false m2]
            rfl
          · exact t93 (Or.inr ((BR_eq hx (by decide) (by decide)).mp g2))
    · exact fin i N c I' o2 o3 hi (by omega) h
set_option maxRecDepth 100000 in
theorem tc_split (d : Nat) (hT : T ≤ 300) (eT : I 30 1 = nI T) (hB : ∀ i, i < T → BR (I 31 i) (B i)) (hR : ∀ (I' : XI) (N : Nat), 1 ≤ N → N ≤ 301 → TA I' B T N → (∀ j, j + 1 < N → (tkS B T j).1 ≠ 0) → (tkS B T (N - 1)).1 = 0 → SPF I I' → Rp none (shH ru_ ta rs) I' J) : xm l (d + 7) 0 0 mX7_split [.ref 30] (shH ru_ ta rs) I J Rp := by
  refine xm_ofK 1000 (X := xxX7) (t := tX7_split) (stop := [7, 93, 131]) (ini := false) xx7 pl7 rfl kX7_split (fun h => by cases h) (Nat.le_of_ble_eq_true rfl) (fun K hK => ?_)
  refine hK 7 [some (.ref 30), some (.int (nI 0)), none, none] [] (shH ru_ ta rs) (uI I 30 5 0) J 0 0 ?_
  refine sp_7 l ru_ ta rs I J Rp B T d hT eT hB hR T 0 1000 0 (uI I 30 5 0) none none (by omega) (by omega) ⟨⟨?_, fun j hj => absurd hj (Nat.not_lt_zero j)⟩, ⟨Nat.le_refl _, Nat.zero_le _⟩, fun j hj => absurd hj (Nat.not_lt_zero j), rfl, ⟨fun p h0 _ _ _ => uI_ne h0, fun k hk => ?_⟩⟩
  · rw [uI_atC, if_pos rfl]
    rfl
  · rw [uI_atC, if_neg hk]
end SPLIT
