-- ===== packed: the reference =====
def kdI (k : Nat) : Int32 := if k = 6 then -1 else nI k
theorem soP_no {kd g : Nat → Nat} {b : Nat} : ∀ m k, soP kd g b k = false → soP kd g b (k + m) = false
  | 0, _, h => h
  | m + 1, k, h => by
    show (soP kd g b (k + m) && _) = false
    rw [soP_no m k h]
    rfl
theorem kdP_le {kd g : Nat → Nat} {b n : Nat} (hk : ∀ j, j < n → kd j ≤ 5) : ∀ k, k ≤ n → kdP kd g b k ≤ 6
  | 0, _ => Nat.le_refl _
  | k + 1, h => by
    show (if g k = b then kd k else kdP kd g b k) ≤ 6
    split
    · have := hk k (by omega)
      omega
    · exact kdP_le hk k (by omega)
theorem ctP_le {kd g : Nat → Nat} {n : Nat} : ∀ b, ctP kd g n b ≤ b
  | 0 => Nat.le_refl _
  | b + 1 => by
    have ih := ctP_le (kd := kd) (g := g) (n := n) b
    unfold ctP
    split <;> omega
/-- what barnsBy looks at -/
def BBk (Q : Tld) (p a kd g : Nat → Nat) (n : Nat) (I : XI) : Prop := I 68 2 = nI (qB Q) ∧ (∀ b, b < qB Q → I 68 (38 + b) = nI (qM Q b)) ∧ ∀ j, j < n → I 96 j = nI (p j) ∧ I 97 j = nI (g j) ∧ I 68 (76 + p j) = nI (kd j) ∧ I 68 (88 + p j) = nI (a j) ∧ p j < 12 ∧ g j < qB Q ∧ kd j ≤ 5 ∧ 0 < a j ∧ a j ≤ 999
abbrev byz (l : Launch) (d : Nat) (ru ta : Nat) (rs : List XO) (I : XI) (J : XJ) (Rp : XR) (nn pc n c b : Nat) (o4 o5 o6 o7 : Option Value) : Prop := xrun xxX12 (some .int) false false (shH ru ta rs).length 0 0 none l d tX12_barnsBy [4, 23] Rp nn pc [some (.ref 67), some (.int (nI n)), some (.int (nI c)), some (.int (nI b)), o4, o5, o6, o7] [] (shH ru ta rs) I J 0 0
set_option maxRecDepth 100000 in
set_option maxHeartbeats 4000000 in
theorem rx_by_in (l : Launch) (d : Nat) (ru ta : Nat) (rs : List XO) (I : XI) (J : XJ) (Rp : XR) (Q : Tld) (hQ : TOK Q) (p a kd g : Nat → Nat) (n : Nat) (hn : n ≤ 6) (h : BBk Q p a kd g n I) (c b n0 : Nat) (hb : b < qB Q) (h0 : soP kd g b n = false → Rp (some (.int (-1))) (shH ru ta rs) I J) (H : soP kd g b n = true → ∀ o7 : Option Value, byz l d ru ta rs I J Rp n0 23 n c b (some (.int (nI (ftP a g b n)))) (some (.int (kdI (kdP kd g b n)))) (some (.int (nI n))) o7) : ∀ (m k : Nat) (o7 : Option Value), k + m = n → soP kd g b k = true → byz l d ru ta rs I J Rp (n0 + m) 23 n c b (some (.int (nI (ftP a g b k)))) (some (.int (kdI (kdP kd g b k)))) (some (.int (nI k))) o7 := by
  have b4 := hQ.2.2.1
  intro m
  induction m with
  | zero =>
    intro k o7 hk hs
    have hk : k = n := by omega
    subst hk
    exact H hs o7
  | succ m ih =>
    intro k o7 hk hs
    obtain ⟨q96, q97, q76, q88, p12, gB, k5, a0, a9⟩ := h.2.2 k (by omega)
    have ik : (nI k).toNatClampNeg = k := nI_clamp (by omega)
    have e97 : I 97 (nI k).toNatClampNeg = nI (g k) := by rw [ik]; exact q97
    have e96 : I 96 (nI k).toNatClampNeg = nI (p k) := by rw [ik]; exact q96
    have i76 : (nI 76 + I 96 (nI k).toNatClampNeg).toNatClampNeg = 76 + p k := by rw [e96]; exact ix_c (by omega)
    have i88 : (nI 88 + I 96 (nI k).toNatClampNeg).toNatClampNeg = 88 + p k := by rw [e96]; exact ix_c (by omega)
    have e76 : I 68 (nI 76 + I 96 (nI k).toNatClampNeg).toNatClampNeg = nI (kd k) := by rw [i76]; exact q76
    have e88 : I 68 (nI 88 + I 96 (nI k).toNatClampNeg).toNatClampNeg = nI (a k) := by rw [i88]; exact q88
    have v76 : vp_in (nI 76 + I 96 (nI k).toNatClampNeg) 2200 := by rw [e96]; exact vx_2 (by omega) (by omega)
    have v88 : vp_in (nI 88 + I 96 (nI k).toNatClampNeg) 2200 := by rw [e96]; exact vx_2 (by omega) (by omega)
    have vk : vp_in (nI k) 6 := vp_in_nI (by omega) (by omega)
    have es : soP kd g b (k + 1) = (soP kd g b k && (!(decide (g k = b)) || (decide (kdP kd g b k = 6) || decide (kdP kd g b k = kd k)))) := rfl
    rw [hs, Bool.true_and] at es
    have ef : ftP a g b (k + 1) = ftP a g b k + (if g k = b then a k else 0) := rfl
    have ekd : kdP kd g b (k + 1) = if g k = b then kd k else kdP kd g b k := rfl
    have kl := kdP_le (kd := kd) (g := g) (b := b) (n := n) (fun j hj => (h.2.2 j hj).2.2.2.2.2.2.1) k (by omega)
    refine xrun_step fun K hK => ?_
    refine And.intro (fun z => absurd ((nle (by omega) (by omega)).mp (show nI n ≤ nI k from z)) (by omega)) (fun _ => ?_)
    refine And.intro vk ?_
    refine And.intro (fun (z : ¬ I 97 (nI k).toNatClampNeg = nI b) => ?_) (fun (z : I 97 (nI k).toNatClampNeg = nI b) => ?_)
    · rw [e97] at z
      have ne : ¬ g k = b := fun q => z (by rw [q])
      have nx := ih (k + 1) o7 (by omega) (by rw [es, decide_eq_false ne]; rfl)
      rw [ef, ekd, if_neg ne, if_neg ne, Nat.add_zero] at nx
      refine hK 23 [some (.ref 67), some (.int (nI n)), some (.int (nI c)), some (.int (nI b)), some (.int (nI (ftP a g b k))), some (.int (kdI (kdP kd g b k))), some (.int (nI k + 1)), o7] [] (shH ru ta rs) I J 0 0 ?_
      rw [nI_1]
      exact nx
    · rw [e97] at z
      have eg : g k = b := nI_inj z (by omega) (by omega)
      rw [decide_eq_true eg] at es
      have yes : (kdP kd g b k = 6 ∨ kdP kd g b k = kd k) → K 23 [some (.ref 67), some (.int (nI n)), some (.int (nI c)), some (.int (nI b)), some (.int (nI (ftP a g b k) + I 68 (nI 88 + I 96 (nI k).toNatClampNeg).toNatClampNeg)), some (.int (I 68 (nI 76 + I 96 (nI k).toNatClampNeg).toNatClampNeg)), some (.int (nI k + 1)), some (.int (I 68 (nI 76 + I 96 (nI k).toNatClampNeg).toNatClampNeg))] [] (shH ru ta rs) I J 0 0 := fun y => by
        have st : soP kd g b (k + 1) = true := by
          rw [es]
          show (decide (kdP kd g b k = 6) || decide (kdP kd g b k = kd k)) = true
          rw [Bool.or_eq_true, decide_eq_true_iff, decide_eq_true_iff]
          exact y
        have nx := ih (k + 1) (some (.int (nI (kd k)))) (by omega) st
        have ek : kdI (kd k) = nI (kd k) := if_neg (by omega)
        rw [ef, ekd, if_pos eg, if_pos eg, ek] at nx
        refine hK 23 _ [] (shH ru ta rs) I J 0 0 ?_
        rw [e76, e88, nI_add, nI_1]
        exact nx
      refine And.intro vk ?_
      refine And.intro v76 ?_
      refine And.intro (fun (t : kdI (kdP kd g b k) = -1) => ?_) (fun (t : ¬ kdI (kdP kd g b k) = -1) => ?_)
      · have e6 : kdP kd g b k = 6 := by
          by_cases c6 : kdP kd g b k = 6
          · exact c6
          · unfold kdI at t
            rw [if_neg c6] at t
            exact absurd t (nI_ne1 (by omega))
        refine And.intro vk ?_
        refine And.intro v88 ?_
        exact yes (Or.inl e6)
      · have n6 : ¬ kdP kd g b k = 6 := fun q => t (if_pos q)
        have ekk : kdI (kdP kd g b k) = nI (kdP kd g b k) := if_neg n6
        refine And.intro (fun (u : kdI (kdP kd g b k) = I 68 (nI 76 + I 96 (nI k).toNatClampNeg).toNatClampNeg) => ?_) (fun (u : ¬ kdI (kdP kd g b k) = I 68 (nI 76 + I 96 (nI k).toNatClampNeg).toNatClampNeg) => ?_)
        · rw [ekk, e76] at u
          have e := nI_inj u (by omega) (by omega)
          refine And.intro vk ?_
          refine And.intro v88 ?_
          exact yes (Or.inr e)
        · rw [ekk, e76] at u
          refine h0 ?_
          rw [show n = k + 1 + m by omega]
          refine soP_no m (k + 1) ?_
          rw [es, decide_eq_false n6, decide_eq_false (fun q => u (by rw [q]))]
          rfl
set_option maxRecDepth 100000 in
set_option maxHeartbeats 4000000 in
theorem rx_by_out (l : Launch) (d : Nat) (ru ta : Nat) (rs : List XO) (I : XI) (J : XJ) (Rp : XR) (Q : Tld) (hQ : TOK Q) (p a kd g : Nat → Nat) (n : Nat) (hn : n ≤ 6) (h : BBk Q p a kd g n I) (h1 : okP a kd (qM Q) g n = true → Rp (some (.int (nI (usP a g n)))) (shH ru ta rs) I J) (h0 : okP a kd (qM Q) g n = false → Rp (some (.int (-1))) (shH ru ta rs) I J) : ∀ (m b : Nat) (o4 o5 o6 o7 : Option Value), b + m = qB Q → (∀ c, c < b → soP kd g c n = true ∧ ftP a g c n ≤ qM Q c) → byz l d ru ta rs I J Rp (m * (n + 2) + 1) 4 n (ctP kd g n b) b o4 o5 o6 o7 := by
  have b4 := hQ.2.2.1
  have ha : ∀ j, j < n → 0 < a j ∧ kd j ≠ 6 := fun j hj => by
    obtain ⟨_, _, _, _, _, _, k5, a0, _⟩ := h.2.2 j hj
    exact ⟨a0, by omega⟩
  have hg : ∀ j, j < n → g j < qB Q := fun j hj => (h.2.2 j hj).2.2.2.2.2.1
  have oa := ok_all (rm := qM Q) n ha hg
  have no : ∀ b, b < qB Q → ¬ (soP kd g b n = true ∧ ftP a g b n ≤ qM Q b) → okP a kd (qM Q) g n = false := fun b hb y => by
    cases e : okP a kd (qM Q) g n with
    | false => rfl
    | true => exact absurd (oa.mp e b hb) y
  intro m
  induction m with
  | zero =>
    intro b o4 o5 o6 o7 hb hc
    have hb : b = qB Q := by omega
    subst hb
    have ok : okP a kd (qM Q) g n = true := oa.mpr hc
    have eu := us_ct (a := a) (kd := kd) (g := g) (B := qB Q) n ha hg
    have y := h1 ok
    rw [eu] at y
    rw [Nat.zero_mul, Nat.zero_add]
    refine xrun_step (n := 0) fun K hK => ?_
    refine And.intro (show vp_in (nI 2) 2200 from vp_b (by decide)) ?_
    refine And.intro (fun _ => ?_) (fun z => absurd (show I 68 2 ≤ nI (qB Q) from by rw [h.1]; exact Int32.le_refl _) z)
    exact y
  | succ m ih =>
    intro b o4 o5 o6 o7 hb hc
    have bB : b < qB Q := by omega
    have eF : (m + 1) * (n + 2) + 1 = (m * (n + 2) + 1 + 1 + n) + 1 := by
      rw [Nat.succ_mul]
      generalize m * (n + 2) = z
      omega
    have fl := ftP_le (g := g) (b := b) (n := n) (fun j hj => (h.2.2 j hj).2.2.2.2.2.2.2.2) n (Nat.le_refl _)
    have rm9 := (hQ.2.2.2.2.2 b bB).2
    have cl := ctP_le (kd := kd) (g := g) (n := n) b
    have kl := kdP_le (kd := kd) (g := g) (b := b) (n := n) (fun j hj => (h.2.2 j hj).2.2.2.2.2.2.1) n (Nat.le_refl _)
    have i38 : (nI 38 + nI b).toNatClampNeg = 38 + b := ix_c (by omega)
    have e38 : I 68 (nI 38 + nI b).toNatClampNeg = nI (qM Q b) := by rw [i38]; exact h.2.1 b bB
    have ect : ctP kd g n (b + 1) = ctP kd g n b + (if kdP kd g b n = 6 then 0 else 1) := rfl
    have inn := rx_by_in l d ru ta rs I J Rp Q hQ p a kd g n hn h (ctP kd g n b) b (m * (n + 2) + 1 + 1) bB (fun s => h0 (no b bB (fun y => by rw [s] at y; exact absurd y.1 (by decide)))) (fun s o7 => by
      refine xrun_step fun K hK => ?_
      refine And.intro (fun _ => ?_) (fun z => absurd (Int32.le_refl _) z)
      refine And.intro (show vp_in (nI 38 + nI b) 2200 from vx_2 (by omega) (by omega)) ?_
      refine And.intro (fun (z : nI (ftP a g b n) ≤ I 68 (nI 38 + nI b).toNatClampNeg) => ?_) (fun (z : ¬ nI (ftP a g b n) ≤ I 68 (nI 38 + nI b).toNatClampNeg) => ?_)
      · rw [e38, nle (by omega) (by omega)] at z
        have nx := ih (b + 1) (some (.int (nI (ftP a g b n)))) (some (.int (kdI (kdP kd g b n)))) (some (.int (nI n))) o7 (by omega) (fun c hcb => by
          by_cases e : c = b
          · rw [e]
            exact ⟨s, z⟩
          · exact hc c (by omega))
        refine And.intro (fun (t : ¬ kdI (kdP kd g b n) = -1) => ?_) (fun (t : kdI (kdP kd g b n) = -1) => ?_)
        · have n6 : ¬ kdP kd g b n = 6 := fun q => t (if_pos q)
          rw [ect, if_neg n6] at nx
          refine hK 4 [some (.ref 67), some (.int (nI n)), some (.int (nI (ctP kd g n b) + nI 1)), some (.int (nI b + 1)), some (.int (nI (ftP a g b n))), some (.int (kdI (kdP kd g b n))), some (.int (nI n)), o7] [] (shH ru ta rs) I J 0 0 ?_
          rw [nI_add, nI_1]
          exact nx
        · have e6 : kdP kd g b n = 6 := by
            by_cases c6 : kdP kd g b n = 6
            · exact c6
            · unfold kdI at t
              rw [if_neg c6] at t
              exact absurd t (nI_ne1 (by omega))
          rw [ect, if_pos e6] at nx
          refine hK 4 [some (.ref 67), some (.int (nI n)), some (.int (nI (ctP kd g n b) + nI 0)), some (.int (nI b + 1)), some (.int (nI (ftP a g b n))), some (.int (kdI (kdP kd g b n))), some (.int (nI n)), o7] [] (shH ru ta rs) I J 0 0 ?_
          rw [nI_add, nI_1]
          exact nx
      · rw [e38, nle (by omega) (by omega)] at z
        exact h0 (no b bB (fun y => z y.2))) n 0 o7 (Nat.zero_add _) rfl
    rw [eF]
    refine xrun_step fun K hK => ?_
    refine And.intro (show vp_in (nI 2) 2200 from vp_b (by decide)) ?_
    refine And.intro (fun z => absurd (show I 68 2 ≤ nI b from z) (by rw [h.1]; exact nI_ge (by omega) (by omega))) (fun _ => ?_)
    exact hK 23 [some (.ref 67), some (.int (nI n)), some (.int (nI (ctP kd g n b))), some (.int (nI b)), some (.int (nI 0)), some (.int (-1)), some (.int (nI 0)), o7] [] (shH ru ta rs) I J 0 0 inn
set_option maxRecDepth 100000 in
theorem rx_barnsBy (l : Launch) (d : Nat) (ru ta : Nat) (rs : List XO) (I : XI) (J : XJ) (Rp : XR) (Q : Tld) (hQ : TOK Q) (p a kd g : Nat → Nat) (n : Nat) (hn : n ≤ 6) (h : BBk Q p a kd g n I) (h1 : okP a kd (qM Q) g n = true → Rp (some (.int (nI (usP a g n)))) (shH ru ta rs) I J) (h0 : okP a kd (qM Q) g n = false → Rp (some (.int (-1))) (shH ru ta rs) I J) : xm l (d + 1) 0 0 mX12_barnsBy [.ref 67, .int (nI n)] (shH ru ta rs) I J Rp := by
  refine xm_ofK (qB Q * (n + 2) + 1) (X := xxX12) (t := tX12_barnsBy) (stop := [4, 23]) (ini := false) xx12 pl12 rfl kX12_barnsBy (fun h => by cases h) (Nat.le_of_ble_eq_true rfl) (fun K hK => ?_)
  exact hK 4 [some (.ref 67), some (.int (nI n)), some (.int (nI 0)), some (.int (nI 0)), none, none, none, none] [] _ _ _ _ _ (rx_by_out l d ru ta rs I J Rp Q hQ p a kd g n hn h h1 h0 (qB Q) 0 none none none none (Nat.zero_add _) (fun c hc => absurd hc (Nat.not_lt_zero c)))
-- the calls of packed itself
abbrev pqz (l : Launch) (d : Nat) (ru ta : Nat) (rs : List XO) (I : XI) (J : XJ) (Rp : XR) (nn pc N : Nat) (v : Int32) (n ways : Nat) (a5 a6 a7 a8 a9 : Option Value) : Prop := xrun xxX12 (some .int) false false (shH ru ta rs).length 0 0 none l (d + 2) tX12_packed [44, 105, 121, 192] Rp nn pc [some (.ref 67), some (.int (nI N)), some (.int v), some (.int (nI n)), some (.int (nI ways)), a5, a6, a7, a8, a9] [] (shH ru ta rs) I J 0 0
/-- what the reference leaves -/
def FRp (I I' : XI) : Prop := (∀ q, q ≠ 96 → q ≠ 97 → q ≠ 98 → I' q = I q) ∧ ((∀ p, inI (0, 11) (I 96 p).toInt) → ∀ p, inI (0, 11) (I' 96 p).toInt)
theorem FRp.rf {I : XI} : FRp I I := ⟨fun _ _ _ _ => rfl, fun h => h⟩
theorem FRp.tr {I I1 I2 : XI} (h : FRp I I1) (g : FRp I1 I2) : FRp I I2 := ⟨fun q a b c => (g.1 q a b c).trans (h.1 q a b c), fun r => g.2 (h.2 r)⟩
theorem FRp.o {I I1 : XI} {k : Nat} (hk : k = 97 ∨ k = 98) (h : ∀ q, q ≠ k → I1 q = I q) : FRp I I1 := ⟨fun q _ b c => h q (by omega), fun r p => by rw [h 96 (by omega)]; exact r p⟩
def dgP (B n j : Nat) : Nat → Nat := dgY B n 0 (fun _ => 0) j
theorem dgP_p {B n j p : Nat} (hp : p < n) : dgP B n j p = j / B ^ (n - 1 - p) % B := by
  unfold dgP dgY
  rw [if_neg (Nat.not_lt_zero p), if_pos (by omega), Nat.zero_add]
theorem paR_num {Q : Tld} {w : Rw} {N : Nat} (h1 : 1 ≤ pcN 12 N) : paR Q w N = foW (fun j => paF (paA w N) (paK w N) (qM Q) (pcN 12 N) (dgP (qB Q) (pcN 12 N) j)) (qB Q ^ pcN 12 N) (-1, fun _ => 0) := by
  rcases Nat.eq_zero_or_pos (qB Q) with e | hB
  · unfold paR
    obtain ⟨m, hm⟩ : ∃ m, pcN 12 N = m + 1 := ⟨pcN 12 N - 1, by omega⟩
    rw [hm, e, Nat.pow_succ, Nat.mul_zero]
    rfl
  · unfold paR
    rw [(pRn_all (pcN 12 N) 0 _ _ (Nat.zero_add _)).1 rfl, gRw_num hB]
    rfl
set_option maxRecDepth 100000 in
set_option maxHeartbeats 2000000 in
/-- the way is laid -/
theorem md_pk_dig (l : Launch) (d : Nat) (ru ta : Nat) (rs : List XO) (I : XI) (J : XJ) (Rp : XR) (B n j N ways : Nat) (v : Int32) (a5 a9 : Option Value) (hB : 0 < B) (hB4 : B ≤ 4) (hn : n ≤ 6) (hj : j < 100000) (e68 : I 68 2 = nI B) (n0 : Nat) (H : ∀ (I' : XI) (left : Nat), (∀ q, q ≠ 97 → I' q = I q) → (∀ p, p < n → I' 97 p = nI (dgP B n j p)) → pqz l d ru ta rs I' J Rp (n0 + 1) 121 N v n ways a5 (some (.int (nI j))) (some (.int (nI left))) (some (.int (nI 0 - nI 1))) a9) : ∀ (K left : Nat) (I1 : XI), K ≤ n → left = j / B ^ (n - K) → (∀ q, q ≠ 97 → I1 q = I q) → (∀ p, K ≤ p → p < n → I1 97 p = nI (dgP B n j p)) → pqz l d ru ta rs I1 J Rp (n0 + K + 1) 121 N v n ways a5 (some (.int (nI j))) (some (.int (nI left))) (some (.int (nI K - nI 1))) a9 := by
  intro K
  induction K with
  | zero =>
    intro left I1 hK el f e1
    exact H I1 left f (fun p hp => e1 p (Nat.zero_le _) hp)
  | succ K ih =>
    intro left I1 hK el f e1
    have ek : nI (K + 1) - nI 1 = nI K := by
      have y := nI_subI (a := K + 1) (b := 1) (by omega) (by omega)
      rw [Nat.add_sub_cancel] at y
      exact y
    have lj : left ≤ j := by
      rw [el]
      exact Nat.div_le_self _ _
    have e0 : I1 68 2 = nI B := by rw [f 68 (by decide)]; exact e68
    have ik : (nI K).toNatClampNeg = K := nI_clamp (by omega)
    have nB : ¬ nI B = 0 := fun z => by
      have := nI_inj (b := 0) z (by omega) (by omega)
      omega
    have ev : nI left - nI left / I1 68 2 * I1 68 2 = nI (left % B) := by
      rw [e0]
      exact nmod (by omega) (by omega) (by omega)
    have hd : left % B = dgP B n j K := by
      rw [dgP_p (by omega), el, show n - 1 - K = n - (K + 1) by omega]
    have h2 : left / B = j / B ^ (n - K) := by
      rw [el, Nat.div_div_eq_div_mul, ← Nat.pow_succ, show Nat.succ (n - (K + 1)) = n - K by omega]
    have e0' : (uI I1 97 K (nI (left % B))) 68 2 = nI B := by rw [uI_ne (by decide)]; exact e0
    rw [ek]
    refine xrun_step fun KK hKK => ?_
    refine And.intro (fun z => absurd (show nI K < 0 from z) (nI_nn (by omega))) (fun _ => ?_)
    refine And.intro (show vp_in (nI 2) 2200 from vp_b (by decide)) ?_
    refine And.intro (show ¬ (I1 68 2 = 0) from by rw [e0]; exact nB) ?_
    refine And.intro (show vp_in (nI K) 6 from vp_in_nI (by omega) (by omega)) ?_
    refine And.intro (show vp_in (nI 2) 2200 from vp_b (by decide)) ?_
    refine (show ¬ ((uI I1 97 (nI K).toNatClampNeg (nI left - nI left / I1 68 2 * I1 68 2)) 68 2 = 0) ∧ KK 121 [some (.ref 67), some (.int (nI N)), some (.int v), some (.int (nI n)), some (.int (nI ways)), a5, some (.int (nI j)), some (.int (nI left / (uI I1 97 (nI K).toNatClampNeg (nI left - nI left / I1 68 2 * I1 68 2)) 68 2)), some (.int (nI K + (-1))), a9] [] (shH ru ta rs) (uI I1 97 (nI K).toNatClampNeg (nI left - nI left / I1 68 2 * I1 68 2)) J 0 0 from ?_)
    rw [ik, ev, e0', ndiv (by omega) (by omega) (by omega)]
    refine ⟨nB, ?_⟩
    refine hKK 121 _ [] (shH ru ta rs) _ J 0 0 ?_
    have em : nI K + (-1) = nI K - nI 1 := by
      rw [show (-1 : Int32) = - nI 1 from by decide, Int32.sub_eq_add_neg]
    rw [em]
    refine ih (left / B) _ (by omega) h2 (fun q hq => by rw [uI_ne hq]; exact f q hq) (fun p h1 h3 => ?_)
    rw [uI_eq]
    by_cases e : p = K
    · rw [e, upd_s, hd]
    · rw [upd_n e]
      exact e1 p (by omega) h3
set_option maxRecDepth 100000 in
set_option maxHeartbeats 2000000 in
/-- the way is noted -/
theorem md_pk_copy (l : Launch) (d : Nat) (ru ta : Nat) (rs : List XO) (I : XI) (J : XJ) (Rp : XR) (n j N ways : Nat) (v : Int32) (x5 x8 : Int32) (a7 : Option Value) (hn : n ≤ 6) (n0 : Nat) (H : ∀ (I' : XI) (a9 : Option Value), (∀ q, q ≠ 98 → I' q = I q) → (∀ p, p < n → I' 98 p = I 97 p) → pqz l d ru ta rs I' J Rp n0 105 N v n ways (some (.int x5)) (some (.int (nI (j + 1)))) a7 (some (.int x8)) a9) : ∀ (m k : Nat) (I1 : XI), k + m = n → (∀ q, q ≠ 98 → I1 q = I q) → (∀ p, p < k → I1 98 p = I 97 p) → pqz l d ru ta rs I1 J Rp (n0 + m + 1) 192 N v n ways (some (.int x5)) (some (.int (nI j))) a7 (some (.int x8)) (some (.int (nI k))) := by
  intro m
  induction m with
  | zero =>
    intro k I1 hk f e
    refine xrun_step fun K hK => ?_
    refine And.intro (fun _ => ?_) (fun z => absurd (show nI n ≤ nI k from by rw [show k = n by omega]; exact Int32.le_refl _) z)
    refine hK 105 [some (.ref 67), some (.int (nI N)), some (.int v), some (.int (nI n)), some (.int (nI ways)), some (.int x5), some (.int (nI j + 1)), a7, some (.int x8), some (.int (nI k))] [] (shH ru ta rs) I1 J 0 0 ?_
    rw [nI_1]
    exact H I1 _ f (fun p hp => e p (by omega))
  | succ m ih =>
    intro k I1 hk f e
    have ik : (nI k).toNatClampNeg = k := nI_clamp (by omega)
    refine xrun_step fun K hK => ?_
    refine And.intro (fun z => absurd ((nle (by omega) (by omega)).mp (show nI n ≤ nI k from z)) (by omega)) (fun _ => ?_)
    refine And.intro (show vp_in (nI k) 6 from vp_in_nI (by omega) (by omega)) ?_
    refine And.intro (show vp_in (nI k) 6 from vp_in_nI (by omega) (by omega)) ?_
    refine hK 192 [some (.ref 67), some (.int (nI N)), some (.int v), some (.int (nI n)), some (.int (nI ways)), some (.int x5), some (.int (nI j)), a7, some (.int x8), some (.int (nI k + 1))] [] (shH ru ta rs) (uI I1 98 (nI k).toNatClampNeg (I1 97 (nI k).toNatClampNeg)) J 0 0 ?_
    rw [nI_1, ik]
    refine ih (k + 1) _ (by omega) (fun q hq => by rw [uI_ne hq]; exact f q hq) (fun p hp => ?_)
    rw [uI_eq]
    by_cases c : p = k
    · rw [c, upd_s, f 97 (by decide)]
    · rw [upd_n c]
      exact e p (by omega)
set_option maxRecDepth 100000 in
set_option maxHeartbeats 4000000 in
theorem md_pk_loop (l : Launch) (d : Nat) (ru ta : Nat) (rs : List XO) (I : XI) (J : XJ) (Rp : XR) (Q : Tld) (hQ : TOK Q) (p a kd : Nat → Nat) (n : Nat) (n1 : 1 ≤ n) (hn : n ≤ 6) (hb : ∀ (g : Nat → Nat) (I' : XI), (∀ q, q ≠ 97 → q ≠ 98 → I' q = I q) → (∀ j, j < n → I' 97 j = nI (g j) ∧ g j < qB Q) → BBk Q p a kd g n I') (e68 : I 68 2 = nI (qB Q)) (N W : Nat) (hW : W < 100000) (v : Int32) (hv : v = -1 ∨ ∃ k, k < n ∧ v = nI k) (V : Pac) (hR : ∀ I' : XI, FRp I I' → Rp (some (.int (if V.1 = -1 then -1 else if v = -1 then kI V.1 else nI (V.2 v.toNatClampNeg)))) (shH ru ta rs) I' J) : ∀ (m j nn : Nat) (I1 : XI) (x : Pac) (a7 a8 a9 : Option Value), j + m = W → (0 < m → 0 < qB Q) → 20 * m < nn → (∀ q, q ≠ 97 → q ≠ 98 → I1 q = I q) → -1 ≤ x.1 → x.1 ≤ 10 → (x.1 ≠ -1 → ∀ c, c < n → I1 98 c = nI (x.2 c)) → foW (fun i => paF a kd (qM Q) n (dgP (qB Q) n (j + i))) m x = V → pqz l d ru ta rs I1 J Rp nn 105 N v n W (some (.int (kI x.1))) (some (.int (nI j))) a7 a8 a9 := by
  have b4 := hQ.2.2.1
  intro m
  induction m with
  | zero =>
    intro j nn I1 x a7 a8 a9 hj hB hnn f x1 x2 e98 eV
    obtain ⟨nn, rfl⟩ : ∃ n', nn = n' + 1 := ⟨nn - 1, by omega⟩
    have eV : x = V := eV
    subst eV
    have hj : j = W := by omega
    subst hj
    have fr : FRp I I1 := ⟨fun q _ b c => f q b c, fun r p => by rw [f 96 (by decide) (by decide)]; exact r p⟩
    have z := hR I1 fr
    have k1 := kI_1 (m := x.1) x1 (by omega)
    refine xrun_step fun K hK => ?_
    refine And.intro (fun _ => ?_) (fun z => absurd (Int32.le_refl _) z)
    refine And.intro (fun (u : kI x.1 = -1) => ?_) (fun (u : ¬ kI x.1 = -1) => ?_)
    · have u2 := k1.mp u
      rw [if_pos u2] at z
      rw [u]
      exact z
    · have u2 : ¬ x.1 = -1 := fun q => u (k1.mpr q)
      rw [if_neg u2] at z
      refine And.intro (fun (t : ¬ v = -1) => ?_) (fun (t : v = -1) => ?_)
      · rw [if_neg t] at z
        rcases hv with e | ⟨k, hk, ek⟩
        · exact absurd e t
        subst ek
        have ik : (nI k).toNatClampNeg = k := nI_clamp (by omega)
        rw [ik, ← e98 u2 k hk] at z
        refine And.intro (show vp_in (nI k) 6 from vp_in_nI (by omega) (by omega)) ?_
        refine (show Rp (some (.int (I1 98 (nI k).toNatClampNeg))) (shH ru ta rs) I1 J from ?_)
        rw [ik]
        exact z
      · rw [if_pos t] at z
        exact z
  | succ m ih =>
    intro j nn I1 x a7 a8 a9 hj hB hnn f x1 x2 e98 eV
    have hB0 := hB (Nat.succ_pos m)
    obtain ⟨nn, rfl⟩ : ∃ n', nn = n' + n + 1 + n + 1 + 1 := ⟨nn - (n + 1 + n + 1 + 1), by omega⟩
    have eV2 : foW (fun i => paF a kd (qM Q) n (dgP (qB Q) n (j + 1 + i))) m (paF a kd (qM Q) n (dgP (qB Q) n j) x) = V := by
      rw [← eV, Nat.add_comm m 1, foW_add]
      refine foW_cg m _ (fun i _ s => ?_)
      rw [show j + 1 + i = j + (1 + i) by omega]
    have e68' : I1 68 2 = nI (qB Q) := by rw [f 68 (by decide) (by decide)]; exact e68
    have ul := usP_le (a := a) (g := dgP (qB Q) n j) n
    have lt := kI_lt (m := x.1) (v := usP a (dgP (qB Q) n j) n) x1 (by omega) (by omega)
    have k1 := kI_1 (m := x.1) x1 (by omega)
    have dl : ∀ c, c < n → dgP (qB Q) n j c < qB Q := fun c hc => by
      rw [dgP_p hc]
      exact Nat.mod_lt _ hB0
    have dig := md_pk_dig l d ru ta rs I1 J Rp (qB Q) n j N W v (some (.int (kI x.1))) a9 hB0 b4 hn (by omega) e68' (nn + n + 1) (fun I2 left f2 e97 => by
      have g2 : ∀ q, q ≠ 97 → q ≠ 98 → I2 q = I q := fun q a b => (f2 q a).trans (f q a b)
      have bk := hb (dgP (qB Q) n j) I2 g2 (fun c hc => ⟨e97 c hc, dl c hc⟩)
      have e98' : ∀ c, I2 98 c = I1 98 c := fun c => by rw [f2 98 (by decide)]
      have skip : paF a kd (qM Q) n (dgP (qB Q) n j) x = x → ∀ a8 : Option Value, pqz l d ru ta rs I2 J Rp (nn + n + 1) 105 N v n W (some (.int (kI x.1))) (some (.int (nI (j + 1)))) (some (.int (nI left))) a8 a9 := fun e a8 => by
        rw [e] at eV2
        exact ih (j + 1) (nn + n + 1) I2 x _ a8 a9 (by omega) (fun _ => hB0) (by omega) g2 x1 x2 (fun q c hc => by rw [e98']; exact e98 q c hc) eV2
      refine xrun_step fun K hK => ?_
      refine And.intro (fun _ => ?_) (fun z => absurd (show nI 0 - nI 1 < 0 from by decide) z)
      refine rx_barnsBy l (d + 1) ru ta rs I2 J _ Q hQ p a kd (dgP (qB Q) n j) n hn bk (fun ok => ?_) (fun no => ?_)
      · have epf : paF a kd (qM Q) n (dgP (qB Q) n j) x = plf (usP a (dgP (qB Q) n j) n) (dgP (qB Q) n j) x := if_pos ok
        refine And.intro (fun y => absurd (show nI (usP a (dgP (qB Q) n j) n) = -1 from y) (nI_ne1 (by omega))) (fun _ => ?_)
        have take : (x.1 = -1 ∨ ((usP a (dgP (qB Q) n j) n : Nat) : Int) < x.1) → K 192 [some (.ref 67), some (.int (nI N)), some (.int v), some (.int (nI n)), some (.int (nI W)), some (.int (nI (usP a (dgP (qB Q) n j) n))), some (.int (nI j)), some (.int (nI left)), some (.int (nI (usP a (dgP (qB Q) n j) n))), some (.int (nI 0))] [] (shH ru ta rs) I2 J 0 0 := fun c => by
          have e : plf (usP a (dgP (qB Q) n j) n) (dgP (qB Q) n j) x = (((usP a (dgP (qB Q) n j) n : Nat) : Int), dgP (qB Q) n j) := if_pos c
          rw [epf, e] at eV2
          refine hK 192 _ [] (shH ru ta rs) I2 J 0 0 ?_
          refine md_pk_copy l d ru ta rs I2 J Rp n j N W v _ _ _ hn nn (fun I3 a9 f3 e3 => ?_) n 0 I2 (Nat.zero_add _) (fun _ _ => rfl) (fun c hc => absurd hc (Nat.not_lt_zero c))
          have nx := ih (j + 1) nn I3 (((usP a (dgP (qB Q) n j) n : Nat) : Int), dgP (qB Q) n j) (some (.int (nI left))) (some (.int (nI (usP a (dgP (qB Q) n j) n)))) a9 (by omega) (fun _ => hB0) (by omega) (fun q a b => (f3 q b).trans (g2 q a b)) (by show (-1 : Int) ≤ ((usP a (dgP (qB Q) n j) n : Nat) : Int); omega) (by show ((usP a (dgP (qB Q) n j) n : Nat) : Int) ≤ 10; omega) (fun _ c hc => by rw [e3 c hc]; exact e97 c hc) eV2
          rw [kI_nat] at nx
          exact nx
        refine And.intro (fun (u : kI x.1 = -1) => take (Or.inl (k1.mp u))) (fun (u : ¬ kI x.1 = -1) => ?_)
        have u2 : ¬ x.1 = -1 := fun q => u (k1.mpr q)
        refine And.intro (fun (t : kI x.1 ≤ nI (usP a (dgP (qB Q) n j) n)) => ?_) (fun (t : ¬ kI x.1 ≤ nI (usP a (dgP (qB Q) n j) n)) => ?_)
        · rw [lt.2] at t
          refine hK 105 [some (.ref 67), some (.int (nI N)), some (.int v), some (.int (nI n)), some (.int (nI W)), some (.int (kI x.1)), some (.int (nI j + 1)), some (.int (nI left)), some (.int (nI (usP a (dgP (qB Q) n j) n))), a9] [] (shH ru ta rs) I2 J 0 0 ?_
          rw [nI_1]
          refine skip ?_ _
          rw [epf]
          refine if_neg (fun h => ?_)
          rcases h with h | h
          · exact u2 h
          · omega
        · rw [lt.2] at t
          exact take (Or.inr (by omega))
      · refine And.intro (fun _ => ?_) (fun y => absurd (show (-1 : Int32) = -1 from rfl) y)
        refine hK 105 [some (.ref 67), some (.int (nI N)), some (.int v), some (.int (nI n)), some (.int (nI W)), some (.int (kI x.1)), some (.int (nI j + 1)), some (.int (nI left)), some (.int (-1)), a9] [] (shH ru ta rs) I2 J 0 0 ?_
        rw [nI_1]
        exact skip (if_neg (by rw [no]; decide)) _) n j I1 (Nat.le_refl _) (by rw [Nat.sub_self, Nat.pow_zero, Nat.div_one]) (fun _ _ => rfl) (fun c h1 h2 => absurd h2 (by omega))
    refine xrun_step fun K hK => ?_
    refine And.intro (fun z => absurd ((nle (by omega) (by omega)).mp (show nI W ≤ nI j from z)) (by omega)) (fun _ => ?_)
    refine hK 121 [some (.ref 67), some (.int (nI N)), some (.int v), some (.int (nI n)), some (.int (nI W)), some (.int (kI x.1)), some (.int (nI j)), some (.int (nI j)), some (.int (nI n - nI 1)), a9] [] (shH ru ta rs) I1 J 0 0 ?_
    rw [show nn + n + 1 + n + 1 = nn + n + 1 + n + 1 from rfl]
    exact dig
set_option maxRecDepth 100000 in
set_option maxHeartbeats 4000000 in
/-- the loads are read -/
theorem md_pk_load (l : Launch) (d : Nat) (ru ta : Nat) (rs : List XO) (I : XI) (J : XJ) (Rp : XR) (B : Nat) (hB4 : B ≤ 4) (w : Rw) (e88 : ∀ k, k < 12 → I 68 (88 + k) = w (28 + k)) (e68 : I 68 2 = nI B) (N : Nat) (hN : N < 4096) (h6 : pcN 12 N ≤ 6) (v : Int32) (h0 : alB w N 12 = false → ∀ I' : XI, FRp I I' → Rp (some (.int (-1))) (shH ru ta rs) I' J) (n0 : Nat) (H : alB w N 12 = true → ∀ I' : XI, FRp I I' → (∀ q, q ≠ 96 → I' q = I q) → (∀ j, j < pcN 12 N → I' 96 j = nI (lpN N 12 j)) → pqz l d ru ta rs I' J Rp n0 105 N v (pcN 12 N) (B ^ pcN 12 N) (some (.int (-1))) (some (.int (nI 0))) none none none) : ∀ (m b : Nat) (I1 : XI), b + m = 12 → alB w N b = true → (∀ q, q ≠ 96 → I1 q = I q) → FRp I I1 → (∀ j, j < pcN b N → I1 96 j = nI (lpN N b j)) → pqz l d ru ta rs I1 J Rp (n0 + m + 1) 44 N v (pcN b N) (B ^ pcN b N) (some (.int (nI b))) none none none none := by
  intro m
  induction m with
  | zero =>
    intro b I1 hb ha f fr e96
    have hb : b = 12 := by omega
    subst hb
    refine xrun_step fun K hK => ?_
    refine And.intro (fun _ => ?_) (fun z => absurd (Int32.le_refl _) z)
    exact hK 105 [some (.ref 67), some (.int (nI N)), some (.int v), some (.int (nI (pcN 12 N))), some (.int (nI (B ^ pcN 12 N))), some (.int (-1)), some (.int (nI 0)), none, none, none] [] (shH ru ta rs) I1 J 0 0 (H ha I1 fr f e96)
  | succ m ih =>
    intro b I1 hb ha f fr e96
    have mn := pcN_mono N m (b + 1)
    rw [show b + 1 + m = 12 by omega] at mn
    have es : alB w N (b + 1) = (alB w N b && (!(decide (N / 2 ^ b % 2 = 1)) || decide (0 < w (28 + b)))) := rfl
    rw [ha, Bool.true_and] at es
    have st := pcN_step b N
    refine xrun_step fun K hK => ?_
    refine And.intro (fun z => absurd (show nI 12 ≤ nI b from z) (nI_ge (by omega) (by omega))) (fun _ => ?_)
    refine m_has_n l (d + 1) N b (by omega) (by omega) _ rfl _ _ _ _ (fun e1 => ?_) (fun e1 => ?_)
    · refine And.intro (fun z => absurd (show (1 : Int32) = 0 from z) (by decide)) (fun _ => ?_)
      rw [e1] at st
      have el : lpN N (b + 1) = upP (lpN N b) (pcN b N) b := by
        show (if N / 2 ^ b % 2 = 1 then _ else _) = _
        rw [e1, if_pos rfl]
      refine md_isBale l d ru ta rs I1 J _ w (fun k hk => by rw [f 68 (by decide)]; exact e88 k hk) (nI b) (fun b' hb' e hp => ?_) (fun hn => ?_)
      · have e := nI_inj e (by omega) (by omega)
        subst e
        have ip : (nI (pcN b N)).toNatClampNeg = pcN b N := nI_clamp (by omega)
        refine And.intro (fun _ => ?_) (fun z => absurd (show (1 : Int32) = 0 from z) (by decide))
        refine And.intro (show vp_in (nI (pcN b N)) 6 from vp_in_nI (by omega) (by omega)) ?_
        refine And.intro (show vp_in (nI 2) 2200 from vp_b (by decide)) ?_
        have f2 : ∀ q, q ≠ 96 → (uI I1 96 (pcN b N) (nI b)) q = I q := fun q hq => by rw [uI_ne hq]; exact f q hq
        have nx := ih (b + 1) (uI I1 96 (pcN b N) (nI b)) (by omega) (by rw [es, decide_eq_true hp, Bool.or_true]) f2 (fr.tr ⟨fun q a _ _ => uI_ne a, fun r p => by
          rw [uI_eq]
          by_cases c : p = pcN b N
          · rw [c, upd_s, nI_toInt (by omega)]
            exact ⟨by dsimp only; omega, by dsimp only; omega⟩
          · rw [upd_n c]
            exact r p⟩) (fun j hj => by
          rw [uI_eq, el]
          unfold upP
          by_cases c : j = pcN b N
          · rw [c, upd_s, if_pos rfl]
          · rw [upd_n c, if_neg c]
            exact e96 j (by omega))
        refine hK 44 [some (.ref 67), some (.int (nI N)), some (.int v), some (.int (nI (pcN b N) + 1)), some (.int (nI (B ^ pcN b N) * (uI I1 96 (nI (pcN b N)).toNatClampNeg (nI b)) 68 2)), some (.int (nI b + 1)), none, none, none, none] [] (shH ru ta rs) (uI I1 96 (nI (pcN b N)).toNatClampNeg (nI b)) J 0 0 ?_
        rw [ip, f2 68 (by decide), e68, nI_mul, ← Nat.pow_succ, nI_1, nI_1]
        rw [st] at nx
        exact nx
      · have hp : ¬ 0 < w (28 + b) := fun q => by
          rw [vIn_n (by omega) (show b < 12 by omega), nI_clamp (by omega), decide_eq_true q] at hn
          cases hn
        refine And.intro (fun z => absurd rfl z) (fun _ => ?_)
        refine h0 ?_ I1 fr
        rw [show 12 = b + 1 + m by omega]
        refine alB_no m (b + 1) ?_
        rw [es, e1, decide_eq_false hp]
        rfl
    · have e0 : N / 2 ^ b % 2 = 0 := by
        rcases bit_two N b with q | q
        · exact q
        · exact absurd q e1
      rw [e0] at st
      have el : lpN N (b + 1) = lpN N b := by
        show (if N / 2 ^ b % 2 = 1 then _ else _) = _
        rw [e0, if_neg (by decide)]
      refine And.intro (fun _ => ?_) (fun z => absurd rfl z)
      have nx := ih (b + 1) I1 (by omega) (by rw [es, e0]; rfl) f fr (fun j hj => by rw [el]; exact e96 j (by omega))
      rw [st, Nat.add_zero] at nx
      refine hK 44 [some (.ref 67), some (.int (nI N)), some (.int v), some (.int (nI (pcN b N))), some (.int (nI (B ^ pcN b N))), some (.int (nI b + 1)), none, none, none, none] [] (shH ru ta rs) I1 J 0 0 ?_
      rw [nI_1]
      exact nx
set_option maxRecDepth 100000 in
set_option maxHeartbeats 4000000 in
theorem md_packed (l : Launch) (d : Nat) (ru ta : Nat) (rs : List XO) (I : XI) (J : XJ) (Rp : XR) (L : Lws) (A : Ast) (hA : AOK A) (h : MA I L A) (x v : Int32) (hR : ∀ (I' : XI) (J' : XJ), FRp I I' → Rp (some (.int (paS A x v))) (shH ru ta rs) I' J') : xm l (d + 3) 0 0 mX12_packed [.ref 67, .int x, .int v] (shH ru ta rs) I J Rp := by
  have h0 := h
  obtain ⟨hre, hlay, hs⟩ := h
  have b4 := hA.1.2.2.1
  have eB : I 68 2 = nI (qB (oQ A)) := hre.1.1.2.2.1
  have e88 : ∀ k, k < 12 → I 68 (88 + k) = oW A (28 + k) := fun k hk => by
    rw [← h0.w (k := 28 + k) (by omega), show 60 + (28 + k) = 88 + k by omega]
  have none_ : (rIn x 1 4095 && decide (pcN 12 x.toNatClampNeg ≤ 6) && alB (oW A) x.toNatClampNeg 12 && decide (-1 ≤ v ∧ v ≤ nI (pcN 12 x.toNatClampNeg) - nI 1)) = false → ∀ I' : XI, FRp I I' → Rp (some (.int (-1))) (shH ru ta rs) I' J := fun e I' f => by
    have z := hR I' J f
    unfold paS at z
    rw [e] at z
    exact z
  refine xm_ofK 100000 (X := xxX12) (t := tX12_packed) (stop := [44, 105, 121, 192]) (ini := false) xx12 pl12 rfl kX12_packed (fun h => by cases h) (Nat.le_of_ble_eq_true rfl) (fun K hK => ?_)
  refine md_inR l (d + 1) x 1 4095 _ _ _ _ (fun hx => ?_) (fun hx => ?_)
  · refine And.intro (fun z => absurd (show (1 : Int32) = 0 from z) (by decide)) (fun _ => ?_)
    obtain ⟨N, N1, N2, ex, ex2⟩ := rIn_t (by omega) (by omega) hx
    rw [ex2] at none_
    rw [hx, Bool.true_and] at none_
    have eS : paS A x v = (if (decide (pcN 12 N ≤ 6) && alB (oW A) N 12 && decide (-1 ≤ v ∧ v ≤ nI (pcN 12 N) - nI 1)) = true then (if (paR (oQ A) (oW A) N).1 = -1 then -1 else if v = -1 then kI (paR (oQ A) (oW A) N).1 else nI ((paR (oQ A) (oW A) N).2 v.toNatClampNeg)) else -1) := by
      unfold paS
      rw [hx, ex2, Bool.true_and]
    rw [eS] at hR
    clear eS
    subst ex
    have pcl : pcN 12 N ≤ 12 := by
      have gen : ∀ b, pcN b N ≤ b := by
        intro b
        induction b with
        | zero => exact Nat.le_refl _
        | succ b ih =>
          rw [pcN_step]
          omega
      exact gen 12
    have n1 : 1 ≤ pcN 12 N := pcN_pos (by omega) (by omega)
    refine hm_manyF l (d + 1) N (by omega) _ _ _ _ ?_
    refine And.intro (fun (z : nI 6 < nI (pcN 12 N)) => ?_) (fun (z : ¬ nI 6 < nI (pcN 12 N)) => ?_)
    · rw [nlt (by omega) (by omega)] at z
      exact none_ (by rw [decide_eq_false (by omega)]; rfl) I FRp.rf
    · rw [nlt (by omega) (by omega)] at z
      rw [decide_eq_true (show pcN 12 N ≤ 6 by omega), Bool.true_and] at none_ hR
      refine hm_manyF l (d + 1) N (by omega) _ _ _ _ ?_
      refine md_in l (d + 1) v (-1) (nI (pcN 12 N) - nI 1) _ _ _ _ (fun hv => ?_) (fun hv => ?_)
      · refine And.intro (fun _ => ?_) (fun z => absurd (show (1 : Int32) = 0 from z) (by decide))
        rw [decide_eq_true hv, Bool.and_true] at none_ hR
        have hv2 : v = -1 ∨ ∃ k, k < pcN 12 N ∧ v = nI k := by
          by_cases u : v = -1
          · exact Or.inl u
          · rw [nI_subI n1 (by omega)] at hv
            obtain ⟨k, hk, ev, _⟩ := v_p (show pcN 12 N - 1 < 100 by omega) hv.1 hv.2 u
            exact Or.inr ⟨k, by omega, ev⟩
        have pw : qB (oQ A) ^ pcN 12 N ≤ 4096 := by
          have a : qB (oQ A) ^ pcN 12 N ≤ 4 ^ pcN 12 N := Nat.pow_le_pow_left b4 _
          have b : 4 ^ pcN 12 N ≤ 4 ^ 6 := Nat.pow_le_pow_right (by decide) (by omega)
          have c : 4 ^ 6 = 4096 := by decide
          omega
        have ld := md_pk_load l d ru ta rs I J Rp (qB (oQ A)) b4 (oW A) e88 eB N (by omega) (by omega) v (fun ha => none_ ha) (100000 - 13) (fun ha I1 fr1 f1 e96 => by
          rw [ha, if_pos rfl] at hR
          have lw := ldw_ok hA.2.1 ha
          have lp := md_pk_loop l d ru ta rs I1 J Rp (oQ A) hA.1 (lpN N 12) (paA (oW A) N) (paK (oW A) N) (pcN 12 N) n1 (by omega) (fun g I2 f2 e97 => ⟨by rw [f2 68 (by decide) (by decide), f1 68 (by decide)]; exact eB, fun b hb => by rw [f2 68 (by decide) (by decide), f1 68 (by decide)]; exact hre.1.1.2.2.2.2.2 b hb, fun j hj => by
            obtain ⟨p12, pwj, paj, pkj, a0, a9, k5⟩ := lw j hj
            refine ⟨by rw [f2 96 (by decide) (by decide)]; exact e96 j hj, (e97 j hj).1, ?_, ?_, p12, (e97 j hj).2, k5, a0, a9⟩
            · rw [f2 68 (by decide) (by decide), f1 68 (by decide), show 76 + lpN N 12 j = 60 + (16 + lpN N 12 j) by omega, h0.w (by omega)]
              exact pkj
            · rw [f2 68 (by decide) (by decide), f1 68 (by decide), e88 _ p12]
              exact paj⟩) (by rw [f1 68 (by decide)]; exact eB) N (qB (oQ A) ^ pcN 12 N) (by omega) v hv2 (paR (oQ A) (oW A) N) (fun I2 fr2 => hR I2 J (fr1.tr fr2)) (qB (oQ A) ^ pcN 12 N) 0 (100000 - 13) I1 (-1, fun _ => 0) none none none (Nat.zero_add _) (fun hp => by
              rcases Nat.eq_zero_or_pos (qB (oQ A)) with e | q
              · rw [e] at hp
                obtain ⟨m, hm⟩ : ∃ m, pcN 12 N = m + 1 := ⟨pcN 12 N - 1, by omega⟩
                rw [hm, Nat.pow_succ, Nat.mul_zero] at hp
                exact absurd hp (Nat.lt_irrefl 0)
              · exact q) (by omega) (fun _ _ _ => rfl) (Int.le_refl _) (by decide) (fun q => absurd rfl q) (by
            rw [paR_num n1]
            refine foW_cg _ _ (fun i _ s => ?_)
            rw [Nat.zero_add])
          rw [kI_n1] at lp
          exact lp) 12 0 I rfl rfl (fun _ _ => rfl) FRp.rf (fun j hj => absurd hj (Nat.not_lt_zero j))
        exact hK 44 [some (.ref 67), some (.int (nI N)), some (.int v), some (.int (nI 0)), some (.int (nI 1)), some (.int (nI 0)), none, none, none, none] [] (shH ru ta rs) I J 0 0 ld
      · refine And.intro (fun z => absurd rfl z) (fun _ => ?_)
        exact none_ (by rw [decide_eq_false hv]; exact Bool.and_false _) I FRp.rf
  · refine And.intro (fun _ => ?_) (fun z => absurd rfl z)
    exact none_ (by rw [hx]; rfl) I FRp.rf
-- what both leave
theorem cell_96 (k : Nat) : cellI CF 96 k = (0, 11) := by
  unfold cellI
  split
  · rename_i q e
    exfalso
    have hm := List.mem_of_find?_eq_some e
    have hq := List.find?_some e
    simp only [Bool.and_eq_true] at hq
    have e1 := Nat.eq_of_beq_eq_true hq.1
    have y : ∀ q, q ∈ CFc → Nat.beq q.1 96 = false := by decide +kernel
    have z := y q hm
    rw [e1] at z
    cases z
  · split
    · rename_i r e
      have y := xlk_mem e
      have z : ∀ q, q ∈ CFr → q.1 = 96 → q.2 = ((0 : Int), (11 : Int)) := by decide +kernel
      exact z _ y rfl
    · rename_i e
      exact absurd e (by decide)
theorem frC_pk : ∀ p, p = 42 ∨ p = 43 ∨ p = 44 ∨ p = 45 ∨ p = 46 ∨ p = 97 ∨ p = 98 → ∀ j, cellI CF p j = fr := by
  intro p hp j
  rcases hp with rfl | rfl | rfl | rfl | rfl | rfl | rfl
  all_goals exact cell_frC (by decide +kernel) (by decide +kernel)
theorem cell_41 : cellI CF 41 2 = (0, 6) := by decide +kernel
theorem cell_41n {k : Nat} (hk : k ≠ 2) : cellI CF 41 k = fr := by
  unfold cellI
  split
  · rename_i q e
    exfalso
    have hm := List.mem_of_find?_eq_some e
    have hq := List.find?_some e
    simp only [Bool.and_eq_true] at hq
    have e1 := Nat.eq_of_beq_eq_true hq.1
    have e2 := Nat.eq_of_beq_eq_true hq.2
    have y : ∀ q, q ∈ CFc → q.1 = 41 → q.2.1 = 2 := by decide +kernel
    have z := y q hm e1
    rw [z] at e2
    have n41 : nrm 41 k = k := rfl
    rw [n41] at e2
    exact hk e2.symm
  · split
    · rename_i r e
      have y := xlk_mem e
      have z : ∀ q, q ∈ CFr → q.1 = 41 → False := by decide +kernel
      exact absurd rfl (fun q => z _ y q)
    · rfl
theorem lin2.srcp {I I1 I2 : XI} {TX : Nat → Txt} {H Hi : Hlf} {ta : Nat} {rs : List XO} (hta : ta ∈ txP) (hi : ivO CF [] I) (hq : QQ I) (hg : GRx I TX H Hi) (tp : TPr I) (fl : FLr I) (f1 : FP I I1) (f2 : FRp I1 I2) : lin2 (shH (ruO (hvR H)) ta rs) I2 := by
  have k : ∀ q, (q < 41 ∨ 46 < q) → q ≠ 96 → q ≠ 97 → q ≠ 98 → I2 q = I q := fun q a b c e => (f2.1 q b c e).trans (f1.1 q a)
  have r41 : inI (0, 6) (I2 41 2).toInt := by
    rw [f2.1 41 (by decide) (by decide) (by decide)]
    refine f1.2 ?_
    have y := hi 41 2 rfl
    rw [cell_41] at y
    exact y
  have r96 : ∀ p, inI (0, 11) (I2 96 p).toInt := f2.2 (fun p => by
    have y := hi 96 p rfl
    rw [cell_96 p] at y
    rw [f1.1 96 (by decide)]
    exact y)
  refine lin2.ask hta hg tp fl (P1 := [41, 42, 43, 44, 45, 46]) (P2 := [96, 97, 98]) (I1 := I1) (I2 := I2) (fun q hq => ?_) (fun q hq => ?_) (by decide) (by decide) (fun p j hp => ?_) (qq_keep hq (k 71 (by decide) (by decide) (by decide) (by decide)) (k 72 (by decide) (by decide) (by decide) (by decide)) (k 73 (by decide) (by decide) (by decide) (by decide)) (k 77 (by decide) (by decide) (by decide) (by decide)) (k 78 (by decide) (by decide) (by decide) (by decide)))
  · have n1 : q ≠ 41 := fun e => by subst e; exact absurd hq (by decide)
    have n2 : q ≠ 42 := fun e => by subst e; exact absurd hq (by decide)
    have n3 : q ≠ 43 := fun e => by subst e; exact absurd hq (by decide)
    have n4 : q ≠ 44 := fun e => by subst e; exact absurd hq (by decide)
    have n5 : q ≠ 45 := fun e => by subst e; exact absurd hq (by decide)
    have n6 : q ≠ 46 := fun e => by subst e; exact absurd hq (by decide)
    exact f1.1 q (by omega)
  · exact f2.1 q (fun e => by subst e; exact absurd hq (by decide)) (fun e => by subst e; exact absurd hq (by decide)) (fun e => by subst e; exact absurd hq (by decide))
  · by_cases e41 : p = 41
    · subst e41
      by_cases e2 : j = 2
      · subst e2
        rw [cell_41]
        exact r41
      · rw [cell_41n e2]
        exact inI_fr _
    by_cases e96 : p = 96
    · subst e96
      rw [cell_96 j]
      exact r96 j
    by_cases c : p = 42 ∨ p = 43 ∨ p = 44 ∨ p = 45 ∨ p = 46 ∨ p = 97 ∨ p = 98
    · rw [frC_pk p c j]
      exact inI_fr _
    · rw [k p (by omega) e96 (by omega) (by omega)]
      exact hi p j rfl
theorem MA.fp {I I1 : XI} {L : Lws} {A : Ast} (h : MA I L A) (f : FP I I1) : MA I1 L A := by
  have g : ∀ q, 46 < q → I1 q = I q := fun q hq => f.1 q (by omega)
  have e := g 68 (by decide)
  refine ⟨⟨⟨h.1.1.1.keep e, h.1.1.2⟩, h.1.2.keep (congrFun e 4) (g 71 (by decide)) (g 72 (by decide)) (g 73 (by decide)) (g 77 (by decide)) (g 78 (by decide))⟩, ?_, h.2.2.c (congrFun e 5) (fun j _ _ => congrFun e j)⟩
  rw [← h.2.1]
  exact wLay_cg (fun j _ _ => congrFun e j) (g 93 (by decide))

