-- ===== packed: the class, from its call on =====
def lpN (N : Nat) : Nat → Nat → Nat
  | 0 => fun _ => 0
  | b + 1 => if N / 2 ^ b % 2 = 1 then upP (lpN N b) (pcN b N) b else lpN N b
theorem lpN_ok {N : Nat} : ∀ b j, j < pcN b N → lpN N b j < b ∧ N / 2 ^ (lpN N b j) % 2 = 1
  | 0, j, h => absurd h (Nat.not_lt_zero j)
  | b + 1, j, h => by
    rw [pcN_step] at h
    unfold lpN
    rcases bit_two N b with e | e
    · rw [e] at h
      rw [e, if_neg (by decide)]
      have y := lpN_ok (N := N) b j (by omega)
      exact ⟨by omega, y.2⟩
    · rw [e] at h
      rw [e, if_pos rfl]
      unfold upP
      by_cases c : j = pcN b N
      · rw [if_pos c]
        exact ⟨by omega, e⟩
      · rw [if_neg c]
        have y := lpN_ok (N := N) b j (by omega)
        exact ⟨by omega, y.2⟩
theorem lpN_st {N : Nat} : ∀ m b, pcN (b + m) N = pcN b N → lpN N (b + m) = lpN N b
  | 0, _, _ => rfl
  | m + 1, b, h => by
    have m1 := pcN_mono N m b
    have e := pcN_step (b + m) N
    have h : pcN (b + m + 1) N = pcN b N := h
    have z : N / 2 ^ (b + m) % 2 = 0 := by omega
    have y : lpN N (b + m + 1) = lpN N (b + m) := by
      show (if N / 2 ^ (b + m) % 2 = 1 then _ else _) = _
      rw [z, if_neg (by decide)]
    show lpN N (b + m + 1) = _
    rw [y]
    exact lpN_st m b (by omega)
def alB (w : Rw) (N : Nat) : Nat → Bool
  | 0 => true
  | b + 1 => alB w N b && (!(decide (N / 2 ^ b % 2 = 1)) || decide (0 < w (28 + b)))
theorem alB_no {w : Rw} {N : Nat} : ∀ m b, alB w N b = false → alB w N (b + m) = false
  | 0, _, h => h
  | m + 1, b, h => by
    show (alB w N (b + m) && _) = false
    rw [alB_no m b h]
    rfl
theorem alB_ok {w : Rw} {N : Nat} : ∀ n, alB w N n = true → ∀ b, b < n → N / 2 ^ b % 2 = 1 → 0 < w (28 + b)
  | 0, _, b, hb, _ => absurd hb (Nat.not_lt_zero b)
  | n + 1, h, b, hb, hbit => by
    have h : (alB w N n && (!(decide (N / 2 ^ n % 2 = 1)) || decide (0 < w (28 + n)))) = true := h
    rw [Bool.and_eq_true, Bool.or_eq_true, Bool.not_eq_true', decide_eq_false_iff_not, decide_eq_true_iff] at h
    by_cases c : b = n
    · rw [c] at hbit ⊢
      rcases h.2 with y | y
      · exact absurd hbit y
      · exact y
    · exact alB_ok n h.1 b (by omega) hbit
def paA (w : Rw) (N : Nat) : Nat → Nat := fun j => nW w (28 + lpN N 12 j)
def paK (w : Rw) (N : Nat) : Nat → Nat := fun j => nW w (16 + lpN N 12 j)
def paR (Q : Tld) (w : Rw) (N : Nat) : Pac := pRn (paA w N) (paK w N) (qM Q) (qB Q) (pcN 12 N) 0 (fun _ => 0) (-1, fun _ => 0)
theorem ldw_ok {w : Rw} (hw : WR w) {N : Nat} (h : alB w N 12 = true) : LdW w (lpN N 12) (paA w N) (paK w N) (pcN 12 N) := fun j hj => by
  obtain ⟨h1, h2⟩ := lpN_ok 12 j hj
  have pw := alB_ok 12 h _ h1 h2
  have e1 := (hw (28 + lpN N 12 j) (by omega) (by omega)).nw
  have e2 := (hw (16 + lpN N 12 j) (by omega) (by omega)).nw
  rw [bd_4 (by omega) (by omega)] at e1
  have b16 : bdW (16 + lpN N 12 j) = 5 := by
    unfold bdW
    rw [if_neg (by omega), if_neg (by omega), if_pos (by omega)]
  rw [b16] at e2
  refine ⟨h1, pw, e1.1, e2.1, ?_, e1.2, e2.2⟩
  have y := pw
  rw [e1.1] at y
  exact (npos (by have z : paA w N j ≤ 999 := e1.2; omega)).mp y
theorem pRn_b {a kd rm : Nat → Nat} {B : Nat} : ∀ (m i : Nat) (g : Nat → Nat) (x : Pac), -1 ≤ x.1 → -1 ≤ (pRn a kd rm B m i g x).1
  | 0, i, g, x, h => by
    show -1 ≤ (if x.1 = -1 ∨ ((usP a g i : Nat) : Int) < x.1 then (((usP a g i : Nat) : Int), g) else x).1
    split
    · show (-1 : Int) ≤ ((usP a g i : Nat) : Int)
      omega
    · exact h
  | m + 1, i, g, x, h => by
    show -1 ≤ (foW _ B x).1
    generalize B = n at *
    have gen : ∀ k, -1 ≤ (foW (fun k x => if stP a kd rm (upP g i k) i = true then pRn a kd rm n m (i + 1) (upP g i k) x else x) k x).1 := by
      intro k
      induction k with
      | zero => exact h
      | succ k ih =>
        show -1 ≤ (if stP a kd rm (upP g i k) i = true then pRn a kd rm n m (i + 1) (upP g i k) (foW _ k x) else (foW _ k x)).1
        split
        · exact pRn_b m (i + 1) _ _ ih
        · exact ih
    exact gen n
abbrev plo7 (l : Launch) (d : Nat) (ru ta : Nat) (rs : List XO) (J : XJ) (Rp : XR) (nn pc N b : Nat) (I : XI) : Prop := xrun xxX4 (some .boolean) false false (shH ru ta rs).length 0 0 none l d tX4_start [7, 59] Rp nn pc [some (.ref 41), some (.int (nI N)), some (.int (nI b))] [] (shH ru ta rs) I J 0 0
set_option maxRecDepth 100000 in
set_option maxHeartbeats 2000000 in
/-- the loads -/
theorem cd_pl_load (l : Launch) (d : Nat) (ru ta : Nat) (rs : List XO) (I : XI) (J : XJ) (Rp : XR) (N : Nat) (hN : N < 4096) (h6 : pcN 12 N ≤ 6) (n0 : Nat) (H : ∀ (nn : Nat) (I' : XI), n0 ≤ nn → (∀ q, q ≠ 41 → q ≠ 42 → I' q = I q) → (∀ k, k ≠ 2 → I' 41 k = I 41 k) → I' 41 2 = nI (pcN 12 N) → (∀ j, j < pcN 12 N → I' 42 j = nI (lpN N 12 j)) → plo7 l d ru ta rs J Rp nn 59 N 0 I') : ∀ (m b nn : Nat) (I1 : XI), b + m = 12 → n0 + m < nn → (∀ q, q ≠ 41 → q ≠ 42 → I1 q = I q) → (∀ k, k ≠ 2 → I1 41 k = I 41 k) → I1 41 2 = nI (pcN b N) → (∀ j, j < pcN b N → I1 42 j = nI (lpN N b j)) → plo7 l d ru ta rs J Rp nn 7 N b I1 := by
  intro m
  induction m with
  | zero =>
    intro b nn I1 hb hnn f f41 e2 e42
    obtain ⟨nn, rfl⟩ : ∃ n', nn = n' + 1 := ⟨nn - 1, by omega⟩
    have hb : b = 12 := by omega
    subst hb
    refine xrun_step fun K hK => ?_
    refine And.intro (fun _ => ?_) (fun z => absurd (Int32.le_refl _) z)
    exact hK 59 [some (.ref 41), some (.int (nI N)), some (.int (nI 0))] [] (shH ru ta rs) I1 J 0 0 (H nn I1 (by omega) f f41 e2 e42)
  | succ m ih =>
    intro b nn I1 hb hnn f f41 e2 e42
    obtain ⟨nn, rfl⟩ : ∃ n', nn = n' + 1 := ⟨nn - 1, by omega⟩
    have mn := pcN_mono N (m + 1) b
    rw [hb] at mn
    have bn := bit_nat N b (by omega) (by omega)
    refine xrun_step fun K hK => ?_
    refine And.intro (fun z => absurd (show nI 12 ≤ nI b from z) (nI_ge (by omega) (by omega))) (fun _ => ?_)
    refine And.intro (fun (z : nI 6 ≤ I1 41 2) => ?_) (fun (z : ¬ nI 6 ≤ I1 41 2) => ?_)
    · rw [e2, nle (by omega) (by omega)] at z
      have ep : pcN (b + (m + 1)) N = pcN b N := by rw [hb]; omega
      have el := lpN_st (m + 1) b ep
      rw [hb] at ep el
      exact hK 59 [some (.ref 41), some (.int (nI N)), some (.int (nI 0))] [] (shH ru ta rs) I1 J 0 0 (H nn I1 (by omega) f f41 (by rw [ep]; exact e2) (fun j hj => by rw [el]; exact e42 j (by omega)))
    · rw [e2, nle (by omega) (by omega)] at z
      refine And.intro (fun (u : ¬ (nI N >>> (nI b &&& 31)) &&& nI 1 = nI 1) => ?_) (fun (u : (nI N >>> (nI b &&& 31)) &&& nI 1 = nI 1) => ?_)
      · have e0 : N / 2 ^ b % 2 = 0 := by
          rcases bit_two N b with q | q
          · exact q
          · exact absurd (bn.trans (by rw [q])) u
        have ep : pcN (b + 1) N = pcN b N := by rw [pcN_step, e0, Nat.add_zero]
        have el : lpN N (b + 1) = lpN N b := by
          show (if N / 2 ^ b % 2 = 1 then _ else _) = _
          rw [e0, if_neg (by decide)]
        refine hK 7 [some (.ref 41), some (.int (nI N)), some (.int (nI b + 1))] [] (shH ru ta rs) I1 J 0 0 ?_
        rw [nI_1]
        refine ih (b + 1) nn I1 (by omega) (by omega) f f41 (by rw [ep]; exact e2) (fun j hj => ?_)
        rw [el]
        rw [ep] at hj
        exact e42 j hj
      · have e1 : N / 2 ^ b % 2 = 1 := by
          rcases bit_two N b with q | q
          · have y := bn.symm.trans u
            rw [q] at y
            exact absurd y (by decide)
          · exact q
        have ep : pcN (b + 1) N = pcN b N + 1 := by rw [pcN_step, e1]
        have el : lpN N (b + 1) = upP (lpN N b) (pcN b N) b := by
          show (if N / 2 ^ b % 2 = 1 then _ else _) = _
          rw [e1, if_pos rfl]
        have ix : (I1 41 2).toNatClampNeg = pcN b N := by rw [e2]; exact nI_clamp (by omega)
        refine And.intro (show vp_in (I1 41 2) 6 from by rw [e2]; exact vp_in_nI (by omega) (by omega)) ?_
        refine hK 7 [some (.ref 41), some (.int (nI N)), some (.int (nI b + 1))] [] (shH ru ta rs) (uI (uI I1 42 (I1 41 2).toNatClampNeg (nI b)) 41 2 ((uI I1 42 (I1 41 2).toNatClampNeg (nI b)) 41 2 + nI 1)) J 0 0 ?_
        rw [ix, uI_ne (show 41 ≠ 42 by decide), e2, nI_add, nI_1]
        refine ih (b + 1) nn _ (by omega) (by omega) (fun q h1 h2 => by rw [uI_ne h1, uI_ne h2]; exact f q h1 h2) (fun k hk => ?_) ?_ (fun j hj => ?_)
        · rw [uI_eq, upd_n hk, uI_ne (by decide)]
          exact f41 k hk
        · rw [uI_eq, upd_s, ep]
        · rw [uI_ne (by decide), uI_eq, el]
          unfold upP
          by_cases c : j = pcN b N
          · rw [c, upd_s, if_pos rfl]
          · rw [upd_n c, if_neg c]
            exact e42 j (by omega)
set_option maxRecDepth 100000 in
set_option maxHeartbeats 2000000 in
/-- the barns are empty -/
theorem cd_pl_feet (l : Launch) (d : Nat) (ru ta : Nat) (rs : List XO) (I : XI) (J : XJ) (Rp : XR) (N n0 : Nat) (H : ∀ (nn : Nat) (I' : XI), n0 ≤ nn → (∀ q, q ≠ 44 → I' q = I q) → (∀ b, b < 4 → I' 44 b = nI 0) → plo7 l d ru ta rs J Rp (nn + 1) 59 N 4 I') : ∀ (m b nn : Nat) (I1 : XI), b + m = 4 → n0 + m < nn → (∀ q, q ≠ 44 → I1 q = I q) → (∀ c, c < b → I1 44 c = nI 0) → plo7 l d ru ta rs J Rp nn 59 N b I1 := by
  intro m
  induction m with
  | zero =>
    intro b nn I1 hb hnn f e
    obtain ⟨nn, rfl⟩ : ∃ n', nn = n' + 1 := ⟨nn - 1, by omega⟩
    have hb : b = 4 := by omega
    subst hb
    exact H nn I1 (by omega) f e
  | succ m ih =>
    intro b nn I1 hb hnn f e
    obtain ⟨nn, rfl⟩ : ∃ n', nn = n' + 1 := ⟨nn - 1, by omega⟩
    have ib : (nI b).toNatClampNeg = b := nI_clamp (by omega)
    refine xrun_step fun K hK => ?_
    refine And.intro (fun z => absurd ((nle (by omega) (by omega)).mp (show nI 4 ≤ nI b from z)) (by omega)) (fun _ => ?_)
    refine And.intro (show vp_in (nI b) 4 from vp_in_nI (by omega) (by omega)) ?_
    refine hK 59 [some (.ref 41), some (.int (nI N)), some (.int (nI b + 1))] [] (shH ru ta rs) (uI I1 44 (nI b).toNatClampNeg (nI 0)) J 0 0 ?_
    rw [nI_1, ib]
    refine ih (b + 1) nn _ (by omega) (by omega) (fun q hq => by rw [uI_ne hq]; exact f q hq) (fun c hc => ?_)
    rw [uI_eq]
    by_cases k : c = b
    · rw [k, upd_s]
    · rw [upd_n k]
      exact e c (by omega)
def FP (I I' : XI) : Prop := (∀ q, (q < 41 ∨ 46 < q) → I' q = I q) ∧ (inI (0, 6) (I 41 2).toInt → inI (0, 6) (I' 41 2).toInt)
theorem FP.rf {I : XI} : FP I I := ⟨fun _ _ => rfl, fun h => h⟩
set_option maxRecDepth 100000 in
set_option maxHeartbeats 4000000 in
theorem cd_pstart (l : Launch) (d : Nat) (ru ta : Nat) (rs : List XO) (Q : Tld) (hQ : TOK Q) (w : Rw) (hw : WR w) (N : Nat) (hN : N < 4096) (h6 : pcN 12 N ≤ 6) (ha : alB w N 12 = true) (I : XI) (J : XJ) (Rp : XR) (ht : TDc I Q) (hr : RC (qT Q) w (I 27)) (h1 : ∀ I' : XI, FP I I' → (paR Q w N).1 ≠ -1 → I' 41 7 = kI (paR Q w N).1 → (∀ j, j < pcN 12 N → I' 46 j = nI ((paR Q w N).2 j)) → Rp (some (.int 1)) (shH ru ta rs) I' J) (h0 : ∀ I' : XI, FP I I' → (paR Q w N).1 = -1 → Rp (some (.int 0)) (shH ru ta rs) I' J) : xm l (d + 9) 0 0 mX4_start [.ref 41, .int (nI N)] (shH ru ta rs) I J Rp := by
  have pb := pRn_b (a := paA w N) (kd := paK w N) (rm := qM Q) (B := qB Q) (pcN 12 N) 0 (fun _ => 0) (-1, fun _ => 0) (Int.le_refl _)
  refine xm_ofK 40 (X := xxX4) (t := tX4_start) (stop := [7, 59]) (ini := false) xx4 pl4 rfl kX4_start (fun h => by cases h) (Nat.le_of_ble_eq_true rfl) (fun K hK => ?_)
  refine hK 7 [some (.ref 41), some (.int (nI N)), some (.int (nI 0))] [] (shH ru ta rs) (uI I 41 2 (nI 0)) J 0 0 ?_
  refine cd_pl_load l (d + 8) ru ta rs (uI I 41 2 (nI 0)) J Rp N hN h6 10 (fun nn I1 hnn f1 g1 e2 e42 => ?_) 12 0 40 (uI I 41 2 (nI 0)) rfl (by omega) (fun _ _ _ => rfl) (fun _ _ => rfl) (by rw [uI_rd]; rfl) (fun j hj => absurd hj (Nat.not_lt_zero j))
  refine cd_pl_feet l (d + 8) ru ta rs I1 J Rp N 4 (fun nn I2 hnn f2 e44 => ?_) 4 0 nn I1 rfl (by omega) (fun _ _ => rfl) (fun c hc => absurd hc (Nat.not_lt_zero c))
  have k2 : ∀ q, (q < 41 ∨ 46 < q) → I2 q = I q := fun q hq => by rw [f2 q (by omega), f1 q (by omega) (by omega), uI_ne (by omega)]
  have i6 : inI (0, 6) (nI (pcN 12 N)).toInt := by
    rw [nI_toInt (by omega)]
    exact ⟨by dsimp only; omega, by dsimp only; omega⟩
  refine xrun_step fun K2 hK2 => ?_
  refine And.intro (fun _ => ?_) (fun z => absurd (Int32.le_refl _) z)
  have y := ps_all l ru ta rs Q hQ w hw (lpN N 12) (paA w N) (paK w N) (pcN 12 N) h6 (ldw_ok hw ha) (pcN 12 N) (d + (6 - pcN 12 N)) 0 (fun _ => 0) (-1, fun _ => 0) (uI I2 41 7 (-1)) J
  rw [show d + (6 - pcN 12 N) + 2 + pcN 12 N = d + 8 by omega] at y
  have kp : ∀ q, q ≠ 41 → (uI I2 41 7 (-1)) q = I2 q := fun q hq => uI_ne hq
  have e12 : ∀ q, (q < 41 ∨ 46 < q) → (uI I2 41 7 (-1)) q = I q := fun q hq => by rw [kp q (by omega)]; exact k2 q hq
  refine y _ (Nat.zero_add _) (ht.keep (e12 12 (by decide)) (e12 13 (by decide)) (e12 14 (by decide)) (e12 15 (by decide)) (e12 16 (by decide)) (e12 17 (by decide))) (by rw [e12 27 (by decide)]; exact hr) ⟨?_, ⟨?_, Int.le_refl _, by decide⟩, fun j hj => ?_, fun b hb => ?_, fun b _ hz => absurd rfl hz, fun j hj => absurd hj (Nat.not_lt_zero j), fun hz => absurd rfl hz⟩ (fun I3 f3 g3 p3 => ?_)
  · rw [uI_eq, upd_n (by decide), f2 41 (by decide)]
    exact e2
  · rw [uI_rd]
    exact kI_n1.symm
  · rw [kp 42 (by decide), f2 42 (by decide)]
    exact e42 j hj
  · rw [kp 44 (by decide)]
    exact e44 b hb
  · have fp : FP I I3 := ⟨fun q hq => (f3 q (by omega)).trans (e12 q hq), fun _ => by rw [p3.1]; exact i6⟩
    have e7 : I3 41 7 = kI (paR Q w N).1 := p3.2.1.1
    have k1 := kI_1 (m := (paR Q w N).1) pb (by have := p3.2.1.2.2; exact Int.lt_of_le_of_lt this (by decide))
    refine And.intro (fun (z : I3 41 7 = -1) => ?_) (fun (z : ¬ I3 41 7 = -1) => ?_)
    · rw [e7, k1] at z
      exact And.intro (Or.inl rfl) (h0 I3 fp z)
    · rw [e7, k1] at z
      exact And.intro (Or.inr rfl) (h1 I3 fp z e7 (p3.2.2.2.2.2.2 z))
theorem bc_256 : (∀ r, r < 256 → bcX (nI r) = nI (pcN 12 r)) ∧ (∀ r, r < 256 → bcX (nI (256 + r)) = nI (pcN 12 (256 + r))) ∧ (∀ r, r < 256 → bcX (nI (512 + r)) = nI (pcN 12 (512 + r))) ∧ ∀ r, r < 256 → bcX (nI (768 + r)) = nI (pcN 12 (768 + r)) := by decide +kernel
theorem bc_1k : (∀ r, r < 256 → bcX (nI (1024 + r)) = nI (pcN 12 (1024 + r))) ∧ (∀ r, r < 256 → bcX (nI (1280 + r)) = nI (pcN 12 (1280 + r))) ∧ (∀ r, r < 256 → bcX (nI (1536 + r)) = nI (pcN 12 (1536 + r))) ∧ ∀ r, r < 256 → bcX (nI (1792 + r)) = nI (pcN 12 (1792 + r)) := by decide +kernel
theorem bc_2k : (∀ r, r < 256 → bcX (nI (2048 + r)) = nI (pcN 12 (2048 + r))) ∧ (∀ r, r < 256 → bcX (nI (2304 + r)) = nI (pcN 12 (2304 + r))) ∧ (∀ r, r < 256 → bcX (nI (2560 + r)) = nI (pcN 12 (2560 + r))) ∧ ∀ r, r < 256 → bcX (nI (2816 + r)) = nI (pcN 12 (2816 + r)) := by decide +kernel
theorem bc_3k : (∀ r, r < 256 → bcX (nI (3072 + r)) = nI (pcN 12 (3072 + r))) ∧ (∀ r, r < 256 → bcX (nI (3328 + r)) = nI (pcN 12 (3328 + r))) ∧ (∀ r, r < 256 → bcX (nI (3584 + r)) = nI (pcN 12 (3584 + r))) ∧ ∀ r, r < 256 → bcX (nI (3840 + r)) = nI (pcN 12 (3840 + r)) := by decide +kernel
theorem bc_all {N : Nat} (h : N < 4096) : bcX (nI N) = nI (pcN 12 N) := by
  have go : ∀ c r : Nat, N = c + r → bcX (nI (c + r)) = nI (pcN 12 (c + r)) → bcX (nI N) = nI (pcN 12 N) := fun c r e y => by
    rw [e]
    exact y
  by_cases c0 : N < 256
  · exact bc_256.1 N c0
  by_cases c1 : N < 512
  · exact go 256 (N - 256) (by omega) (bc_256.2.1 _ (by omega))
  by_cases c2 : N < 768
  · exact go 512 (N - 512) (by omega) (bc_256.2.2.1 _ (by omega))
  by_cases c3 : N < 1024
  · exact go 768 (N - 768) (by omega) (bc_256.2.2.2 _ (by omega))
  by_cases c4 : N < 1280
  · exact go 1024 (N - 1024) (by omega) (bc_1k.1 _ (by omega))
  by_cases c5 : N < 1536
  · exact go 1280 (N - 1280) (by omega) (bc_1k.2.1 _ (by omega))
  by_cases c6 : N < 1792
  · exact go 1536 (N - 1536) (by omega) (bc_1k.2.2.1 _ (by omega))
  by_cases c7 : N < 2048
  · exact go 1792 (N - 1792) (by omega) (bc_1k.2.2.2 _ (by omega))
  by_cases c8 : N < 2304
  · exact go 2048 (N - 2048) (by omega) (bc_2k.1 _ (by omega))
  by_cases c9 : N < 2560
  · exact go 2304 (N - 2304) (by omega) (bc_2k.2.1 _ (by omega))
  by_cases c10 : N < 2816
  · exact go 2560 (N - 2560) (by omega) (bc_2k.2.2.1 _ (by omega))
  by_cases c11 : N < 3072
  · exact go 2816 (N - 2816) (by omega) (bc_2k.2.2.2 _ (by omega))
  by_cases c12 : N < 3328
  · exact go 3072 (N - 3072) (by omega) (bc_3k.1 _ (by omega))
  by_cases c13 : N < 3584
  · exact go 3328 (N - 3328) (by omega) (bc_3k.2.1 _ (by omega))
  by_cases c14 : N < 3840
  · exact go 3584 (N - 3584) (by omega) (bc_3k.2.2.1 _ (by omega))
  · exact go 3840 (N - 3840) (by omega) (bc_3k.2.2.2 _ (by omega))
def paS (A : Ast) (x v : Int32) : Int32 := if (rIn x 1 4095 && decide (pcN 12 x.toNatClampNeg ≤ 6) && alB (oW A) x.toNatClampNeg 12 && decide (-1 ≤ v ∧ v ≤ nI (pcN 12 x.toNatClampNeg) - nI 1)) = true then (if (paR (oQ A) (oW A) x.toNatClampNeg).1 = -1 then -1 else if v = -1 then kI (paR (oQ A) (oW A) x.toNatClampNeg).1 else nI ((paR (oQ A) (oW A) x.toNatClampNeg).2 v.toNatClampNeg)) else -1
theorem v_p {v : Int32} {n : Nat} (hn : n < 100) (h1 : -1 ≤ v) (h2 : v ≤ nI n) (h : ¬ v = -1) : ∃ k, k ≤ n ∧ v = nI k ∧ v.toNatClampNeg = k := by
  have a := Int32.le_iff_toInt_le.mp h1
  have b := Int32.le_iff_toInt_le.mp h2
  rw [nI_toInt (by omega)] at b
  rw [show (-1 : Int32).toInt = -1 from rfl] at a
  have c : ¬ v < 0 := fun z => by
    have z := Int32.lt_iff_toInt_lt.mp z
    rw [show (0 : Int32).toInt = 0 from rfl] at z
    have e : v.toInt = (-1 : Int32).toInt := by rw [show (-1 : Int32).toInt = -1 from rfl]; omega
    exact h (Int32.toInt_inj.mp e)
  obtain ⟨k, ek, hk⟩ := nn_of c
  rw [ek, nI_toInt (by omega)] at b
  exact ⟨k, by omega, ek, by rw [ek, nI_clamp (by omega)]⟩
abbrev pkz (l : Launch) (d : Nat) (ru ta : Nat) (rs : List XO) (J : XJ) (Rp : XR) (nn N : Nat) (v : Int32) (b : Nat) (I : XI) : Prop := xrun xxX11 (some .int) false false (shH ru ta rs).length 0 0 none l d tX11_packed [24] Rp nn 24 [some (.ref 0), some (.int (nI N)), some (.int v), some (.int (nI b))] [] (shH ru ta rs) I J 0 0
set_option maxRecDepth 100000 in
set_option maxHeartbeats 4000000 in
theorem cd_pk_loop (l : Launch) (d : Nat) (ru ta : Nat) (rs : List XO) (I : XI) (J : XJ) (Rp : XR) (T : Nat) (w : Rw) (hr : RC T w (I 27)) (hw : WR w) (N : Nat) (hN : N < 4096) (v : Int32) (h0 : alB w N 12 = false → Rp (some (.int (-1))) (shH ru ta rs) I J) (n0 : Nat) (H : alB w N 12 = true → pkz l (d + 1) ru ta rs J Rp (n0 + 1) N v 12 I) : ∀ (m b : Nat), b + m = 12 → alB w N b = true → pkz l (d + 1) ru ta rs J Rp (n0 + m + 1) N v b I := by
  intro m
  induction m with
  | zero =>
    intro b hb ha
    have hb : b = 12 := by omega
    subst hb
    exact H ha
  | succ m ih =>
    intro b hb ha
    have bn := bit_nat N b (by omega) (by omega)
    have es : alB w N (b + 1) = (alB w N b && (!(decide (N / 2 ^ b % 2 = 1)) || decide (0 < w (28 + b)))) := rfl
    rw [ha, Bool.true_and] at es
    refine xrun_step fun K hK => ?_
    refine And.intro (fun z => absurd (show nI 12 ≤ nI b from z) (nI_ge (by omega) (by omega))) (fun _ => ?_)
    refine And.intro (fun (u : ¬ (nI N >>> (nI b &&& 31)) &&& nI 1 = nI 1) => ?_) (fun (u : (nI N >>> (nI b &&& 31)) &&& nI 1 = nI 1) => ?_)
    · have e0 : N / 2 ^ b % 2 = 0 := by
        rcases bit_two N b with q | q
        · exact q
        · exact absurd (bn.trans (by rw [q])) u
      refine hK 24 [some (.ref 0), some (.int (nI N)), some (.int v), some (.int (nI b + 1))] [] (shH ru ta rs) I J 0 0 ?_
      rw [nI_1]
      refine ih (b + 1) (by omega) ?_
      rw [es, e0]
      rfl
    · have e1 : N / 2 ^ b % 2 = 1 := by
        rcases bit_two N b with q | q
        · have y := bn.symm.trans u
          rw [q] at y
          exact absurd y (by decide)
        · exact q
      refine cw_hasBale l d ru ta rs I J _ T w hr hw (nI b) (fun b' hb' e hp => ?_) (fun hn => ?_)
      · have e := nI_inj e (by omega) (by omega)
        subst e
        refine And.intro (fun _ => ?_) (fun z => absurd (show (1 : Int32) = 0 from z) (by decide))
        refine hK 24 [some (.ref 0), some (.int (nI N)), some (.int v), some (.int (nI b + 1))] [] (shH ru ta rs) I J 0 0 ?_
        rw [nI_1]
        refine ih (b + 1) (by omega) ?_
        rw [es, decide_eq_true hp, Bool.or_true]
      · have hp := hn b (by omega) rfl
        refine And.intro (fun z => absurd rfl z) (fun _ => ?_)
        refine h0 ?_
        rw [show 12 = b + 1 + m by omega]
        refine alB_no m (b + 1) ?_
        rw [es, e1, decide_eq_false hp]
        rfl
set_option maxRecDepth 100000 in
set_option maxHeartbeats 4000000 in
theorem cd_packed (l : Launch) (d : Nat) (ru ta : Nat) (rs : List XO) (I : XI) (J : XJ) (Rp : XR) (L : Lws) (A : Ast) (hA : AOK A) (h : CA I ru L A) (x v : Int32) (hR : ∀ (I' : XI) (J' : XJ), FP I I' → Rp (some (.int (paS A x v))) (shH ru ta rs) I' J') : xm l (d + 10) 0 0 mX11_packed [.ref 0, .int x, .int v] (shH ru ta rs) I J Rp := by
  have none_ : (rIn x 1 4095 && decide (pcN 12 x.toNatClampNeg ≤ 6) && alB (oW A) x.toNatClampNeg 12 && decide (-1 ≤ v ∧ v ≤ nI (pcN 12 x.toNatClampNeg) - nI 1)) = false → ∀ I' : XI, FP I I' → Rp (some (.int (-1))) (shH ru ta rs) I' J := fun e I' f => by
    have z := hR I' J f
    unfold paS at z
    rw [e] at z
    exact z
  refine xm_ofK 20 (X := xxX11) (t := tX11_packed) (stop := [24]) (ini := false) xx11 pl11 rfl kX11_packed (fun h => by cases h) (Nat.le_of_ble_eq_true rfl) (fun K hK => ?_)
  refine cd_in l (d + 8) x 1 4095 _ _ _ _ (fun hx => ?_) (fun hx => ?_)
  · refine And.intro (fun z => absurd (show (1 : Int32) = 0 from z) (by decide)) (fun _ => ?_)
    obtain ⟨N, N1, N2, ex, ex2⟩ := rIn_t (by omega) (by omega) hx
    rw [ex2] at none_
    rw [hx, Bool.true_and] at none_
    have eS : paS A x v = (if (decide (pcN 12 N ≤ 6) && alB (oW A) N 12 && decide (-1 ≤ v ∧ v ≤ nI (pcN 12 N) - nI 1)) = true then (if (paR (oQ A) (oW A) N).1 = -1 then -1 else if v = -1 then kI (paR (oQ A) (oW A) N).1 else nI ((paR (oQ A) (oW A) N).2 v.toNatClampNeg)) else -1) := by
      unfold paS
      rw [hx, ex2, Bool.true_and]
    rw [eS] at hR
    clear eS
    subst ex
    have pcl : pcN 12 N ≤ 12 := by
      have gen : ∀ b, pcN b N ≤ b := by
        intro b
        induction b with
        | zero => exact Nat.le_refl _
        | succ b ih =>
          rw [pcN_step]
          omega
      exact gen 12
    refine j_bitCount l (d + 8) (nI N) _ _ _ _ ?_
    rw [bc_all (by omega)]
    refine And.intro (fun (z : nI (pcN 12 N) ≤ nI 6) => ?_) (fun (z : ¬ nI (pcN 12 N) ≤ nI 6) => ?_)
    · rw [nle (by omega) (by omega)] at z
      rw [decide_eq_true z, Bool.true_and] at none_ hR
      refine hK 24 [some (.ref 0), some (.int (nI N)), some (.int v), some (.int (nI 0))] [] (shH ru ta rs) I J 0 0 ?_
      refine cd_pk_loop l (d + 8) ru ta rs I J Rp (qT (oQ A)) (oW A) h.2.1 hA.2.1 N (by omega) v (fun ha => none_ (by rw [ha]; rfl) I FP.rf) 7 (fun ha => ?_) 12 0 rfl rfl
      rw [ha, Bool.true_and] at none_ hR
      refine xrun_step fun K2 hK2 => ?_
      refine And.intro (fun _ => ?_) (fun z => absurd (Int32.le_refl _) z)
      refine cd_pstart l d ru ta rs (oQ A) hA.1 (oW A) hA.2.1 N (by omega) z ha I J _ h.1.1 h.2.1 (fun I2 f2 p1 e7 e46 => ?_) (fun I2 f2 p0 => ?_)
      · refine And.intro (fun z => absurd (show (1 : Int32) = 0 from z) (by decide)) (fun _ => ?_)
        refine j_bitCount l (d + 8) (nI N) _ _ _ _ ?_
        rw [bc_all (by omega)]
        by_cases hv : -1 ≤ v ∧ v ≤ nI (pcN 12 N) - nI 1
        · refine c_within_t l (d + 8) v (-1) (nI (pcN 12 N) - nI 1) _ _ _ _ hv.1 hv.2 ?_
          refine And.intro (fun _ => ?_) (fun z => absurd (show (1 : Int32) = 0 from z) (by decide))
          have zz := hR I2 J f2
          rw [decide_eq_true hv, if_pos rfl, if_neg p1] at zz
          refine And.intro (fun (u : ¬ v = -1) => ?_) (fun (u : v = -1) => ?_)
          · rw [if_neg u] at zz
            have n1 : 1 ≤ pcN 12 N := pcN_pos (by omega) (by omega)
            rw [nI_subI n1 (by omega)] at hv
            obtain ⟨k, hk, ev, ev2⟩ := v_p (show pcN 12 N - 1 < 100 by omega) hv.1 hv.2 u
            rw [ev2] at zz
            subst ev
            have ik : (nI k).toNatClampNeg = k := nI_clamp (by omega)
            rw [← e46 k (by omega), ← ik] at zz
            refine xm_ofK 0 (X := xxX4) (t := tX4_barnAt) (stop := []) (ini := false) xx4 pl4 rfl kX4_barnAt (fun h => by cases h) (Nat.le_of_ble_eq_true rfl) (fun K2 hK2 => ?_)
            refine And.intro (fun q => absurd (show nI k < 0 from q) (nI_nn (by omega))) (fun _ => ?_)
            refine And.intro (fun q => absurd ((nle (by omega) (by omega)).mp (show nI 6 ≤ nI k from q)) (by omega)) (fun _ => ?_)
            refine And.intro (show vp_in (nI k) 6 from vp_in_nI (by omega) (by omega)) ?_
            exact zz
          · rw [if_pos u, ← e7] at zz
            exact zz
        · refine c_within_f l (d + 8) v (-1) (nI (pcN 12 N) - nI 1) _ _ _ _ hv ?_
          refine And.intro (fun z => absurd rfl z) (fun _ => ?_)
          exact none_ (decide_eq_false hv) I2 f2
      · refine And.intro (fun _ => ?_) (fun z => absurd rfl z)
        have zz := hR I2 J f2
        by_cases hv : -1 ≤ v ∧ v ≤ nI (pcN 12 N) - nI 1
        · rw [decide_eq_true hv, if_pos rfl, if_pos p0] at zz
          exact zz
        · exact none_ (decide_eq_false hv) I2 f2
    · rw [nle (by omega) (by omega)] at z
      exact none_ (by rw [decide_eq_false z]; rfl) I FP.rf
  · refine And.intro (fun _ => ?_) (fun z => absurd rfl z)
    exact none_ (by rw [hx]; rfl) I FP.rf

