section DEED
variable {l : Launch} {ru_ ta : Nat} {rs : List XO} {tk : Nat → TK} {N : Nat}
set_option maxRecDepth 100000 in
set_option maxHeartbeats 2000000 in
theorem rd_deed_loop (ht : TSP ta) (hk : TKN tk N) {n : Nat} (hn : 2 ≤ n) (v j0 c : Nat) (hv : 5 ≤ v ∧ v ≤ 13) (I : XI) (J : XJ) (Rp : XR) (hev : EV I tk N) (q : Nat) (hq24 : q < 24) (e5 : I ta 5 = nI (q + 1)) (hS : ∀ (I' : XI) (j' : Nat), FD ta I I' → (I' 35 7 = I 35 7 ∧ I' 35 8 = I 35 8) → ATt ta I' j' c → j' < N → j0 ≤ j' → deS tk (fmS v) j0 = .inl j' → ND ta q (deN tk (fmS v) j0) I I' → Rp (some (.int 1)) (shH ru_ ta rs) I' J) (hF : ∀ (I' : XI) (f p : Nat), FD ta I I' → I' 35 7 = nI f → I' 35 8 = nI p → 1 ≤ f → deS tk (fmS v) j0 = .inr (f, p) → Rp (some (.int 0)) (shH ru_ ta rs) I' J) : ∀ (m i j S : Nat) (I' : XI) (o3 : Option Value), i + m = 3 → i < (fmS v).length → m < S → FD ta I I' → (I' 35 7 = I 35 7 ∧ I' 35 8 = I 35 8) → ATt ta I' j c → j < N → j0 ≤ j → deS tk (fmS v) j0 = deS tk ((fmS v).drop i) j → NB ta q tk v j0 I I' i j → der l ru_ ta rs J Rp n S 2 [some (.ref 35), some (.int (nI v)), some (.int (nI i)), o3] I' := by
  have hN := hk.2.1
  intro m
  induction m with
  | zero =>
    intro i j S I' o3 hi hl
    have y := List.all_eq_true.mp deT_len (v - 5) (List.mem_range.mpr (by omega))
    rw [show v - 5 + 5 = v by omega, Bool.and_eq_true] at y
    have := Nat.le_of_ble_eq_true y.2
    omega
  | succ m ih =>
    intro i j S I' o3 hi hl hS' f e78 at1 hj hjj hq nb
    obtain ⟨S, rfl⟩ : ∃ n', S = n' + 1 := ⟨S - 1, by omega⟩
    obtain ⟨qq, hqi⟩ : ∃ qq, (fmS v)[i]? = some qq := ⟨(fmS v)[i], by simp [hl]⟩
    obtain ⟨lo, hi_, w⟩ := qq
    have y := List.all_eq_true.mp (List.all_eq_true.mp deT_all (v - 5) (List.mem_range.mpr (by omega))) i (List.mem_range.mpr (by omega))
    rw [show v - 5 + 5 = v by omega] at y
    unfold deT at y
    rw [hqi] at y
    dsimp only at y
    rw [Bool.and_eq_true, Bool.and_eq_true, Bool.and_eq_true, Bool.and_eq_true, Bool.and_eq_true] at y
    obtain ⟨⟨⟨⟨⟨y1, y2⟩, y3⟩, y4⟩, y5⟩, y6⟩ := y
    have y1 := of_decide_eq_true y1
    have y2 := of_decide_eq_true y2
    have y4 := of_decide_eq_true y4
    have y5 := Nat.le_of_ble_eq_true y5
    have y6 := Nat.le_of_ble_eq_true y6
    rw [y4] at hq
    have ef : (nI v - nI 5) * nI 9 + nI i * nI 3 = nI (9 * (v - 5) + 3 * i) := by
      rw [nI_subI hv.1 (by omega), nI_mul, nI_mul, nI_add]
      congr 1
      omega
    have q0 : ¬ (nI v - nI 5) * nI 9 + nI i * nI 3 < 0 := by rw [ef]; exact nI_pos (by omega)
    have q1 : (nI v - nI 5) * nI 9 + nI i * nI 3 + nI 2 < nI 81 := by rw [ef, nI_add]; exact nI_lt (by omega) (by omega)
    have p0 : vp_in ((nI v - nI 5) * nI 9 + nI i * nI 3) 81 := by rw [ef]; exact vp_in_nI (by omega) (by omega)
    have p1 : vp_in ((nI v - nI 5) * nI 9 + nI i * nI 3 + nI 1) 81 := by rw [ef, nI_add]; exact vp_in_nI (by omega) (by omega)
    have p2 : vp_in ((nI v - nI 5) * nI 9 + nI i * nI 3 + nI 2) 81 := by rw [ef, nI_add]; exact vp_in_nI (by omega) (by omega)
    have z0 : FL.getD ((nI v - nI 5) * nI 9 + nI i * nI 3).toNatClampNeg 0 = nI lo := by rw [ef, nI_clamp (by omega)]; exact y1
    have z1 : FL.getD ((nI v - nI 5) * nI 9 + nI i * nI 3 + nI 1).toNatClampNeg 0 = nI hi_ := by rw [ef, nI_add, nI_clamp (by omega)]; exact y2
    have z2 : FL.getD ((nI v - nI 5) * nI 9 + nI i * nI 3 + nI 2).toNatClampNeg 0 = FL.getD (9 * (v - 5) + 3 * i + 2) 0 := by rw [ef, nI_add, nI_clamp (by omega)]
    -- behind setNumber
    have main : ∀ (I1 : XI), I1 = uI I' (ta + 4) (4 * q + 1 + i) (I' 35 5) → FD ta I I1 ∧ (I1 35 7 = I 35 7 ∧ I1 35 8 = I 35 8) ∧ ATt ta I1 j c ∧ EV I1 tk N ∧ (NB ta q tk v j0 I I1 i j ∧ ((tk j).1 = 2 → I1 (ta + 4) (4 * q + 1 + i) = nI (tk j).2.1)) := fun I1 hI1 => by
      have ht2 := ht
      unfold TSP at ht2
      have h1 : ∀ p, p ≠ ta + 4 → I1 p = I' p := fun p hp => by rw [hI1, uI_ne hp]
      have e35 : I1 35 = I' 35 := h1 35 (by omega)
      have f1 : FD ta I I1 := f.tr ⟨fun p _ b => h1 p b, by rw [e35]⟩
      have nb1 := nb.set hI1
      refine ⟨f1, by rw [e35]; exact e78, ?_, f1.ev ht hev, nb1.1, fun g => by rw [nb1.2]; exact tkC_val (at1.tk (f.ev ht hev) hj) (hk.2.2.2.2 j) g⟩
      unfold ATt
      rw [e35, h1 32 (by omega), h1 33 (by omega), h1 ta (by omega)]
      exact at1
    have e5' : I' ta 5 = nI (q + 1) := by
      have ht2 := ht
      unfold TSP at ht2
      rw [f.1 ta (by omega) (by omega)]
      exact e5
    refine xrun_step fun Kk hKk => ?_
    refine And.intro (fun h => absurd (show nI 3 ≤ nI i from h) (nI_ge (by omega) (by omega))) (fun _ => ?_)
    refine And.intro (fun h => absurd h q0) (fun _ => ?_)
    refine And.intro (fun _ => ?_) (fun h => absurd q1 h)
    have num : ∀ (I1 : XI) (Rq : XR), FD ta I I1 → (I1 35 7 = I 35 7 ∧ I1 35 8 = I 35 8) → ATt ta I1 j c → EV I1 tk N → ((tk j).1 = 2 → lo ≤ (tk j).2.1 ∧ (tk j).2.1 ≤ hi_ → j + 1 < N → FD ta I (avI I1 (j + 1)) → ATt ta (avI I1 (j + 1)) (j + 1) c → Rq (some (.int 1)) (shH ru_ ta rs) (avI I1 (j + 1)) J) → (∀ f', 1 ≤ f' → deS tk (fmS v) j0 = .inr (ft tk f' j) → Rq (some (.int 0)) (shH ru_ ta rs) (FI I1 f' j) J) → xm l n 0 0 mX5_number [.ref 35, .int (nI lo), .int (nI hi_)] (shH ru_ ta rs) I1 J Rq := fun I1 Rq f1 _ at2 ev1 hA hB => by
      have tkj := at2.tk ev1 hj
      have okj := hk.2.2.2.2 j
      have hnum := tkC_num tkj okj
      have nx : I1 35 4 = 2 → j + 1 < N := fun g => hk.nx hj (by rw [hnum.mp g]; decide)
      refine rd_number l ru_ ta rs I1 J _ n hn (nI lo) (nI hi_) j N hN hj at2.1 ev1.1 nx (fun g1 g2 g3 => ?_) (fun g1 g2 => ?_) (fun g => ?_)
      · have qv := tkC_val tkj okj (hnum.mp g1)
        have hv' := okj.2.2.1 (hnum.mp g1)
        rw [qv] at g2 g3
        rw [nI_ltI (by omega) (by omega)] at g2
        rw [nI_leI (by omega) (by omega)] at g3
        exact hA (hnum.mp g1) ⟨by omega, g3⟩ (nx g1) (f1.tr FD.av) (avI_at ht at2.2.2.2)
      · have qv := tkC_val tkj okj (hnum.mp g1)
        have hv' := okj.2.2.1 (hnum.mp g1)
        refine hB 2 (by decide) (hq.trans (de_out (hnum.mp g1) (fun z => ?_)))
        rw [qv] at g2
        rw [nI_ltI (by omega) (by omega), nI_leI (by omega) (by omega)] at g2
        omega
      · exact hB 1 (by decide) (hq.trans (de_no (fun z => g (hnum.mpr z))))
    have k0 : ∀ (I1 : XI), ATt ta I1 j c → EV I1 tk N → FD ta I I1 → ∀ f', 1 ≤ f' → deS tk (fmS v) j0 = .inr (ft tk f' j) → ((0 : Int32) = 0 ∨ (0 : Int32) = 1) ∧ Rp (some (.int 0)) (shH ru_ ta rs) (FI I1 f' j) J := fun I1 _ ev1 f1 f' h1 h2 => ⟨Or.inl rfl, hF _ f' _ (f1.tr FD.fi) rfl (ev1.2 j hj).2 h1 h2⟩
    cases hw99 : Nat.beq w 99 with
    | true =>
      have ew : w = 99 := Nat.eq_of_beq_eq_true hw99
      subst ew
      rw [hw99] at y3
      have y3 : FL.getD (9 * (v - 5) + 3 * i + 2) 0 = 0 := of_decide_eq_true y3
      rw [y3] at z2
      have fin : ∀ (I1 : XI), NB ta q tk v j0 I I1 i j → ((tk j).1 = 2 → I1 (ta + 4) (4 * q + 1 + i) = nI (tk j).2.1) → FD ta I I1 → (I1 35 7 = I 35 7 ∧ I1 35 8 = I 35 8) → (tk j).1 = 2 → lo ≤ (tk j).2.1 ∧ (tk j).2.1 ≤ hi_ → j + 1 < N → FD ta I (avI I1 (j + 1)) → ATt ta (avI I1 (j + 1)) (j + 1) c → ((1 : Int32) = 0 ∨ (1 : Int32) = 1) ∧ Rp (some (.int 1)) (shH ru_ ta rs) (avI I1 (j + 1)) J := fun I1 nb1 hx1 _ e1 g1 g2 g3 g4 g5 => ⟨Or.inr rfl, hS _ (j + 1) g4 e1 g5 g3 (by omega) (hq.trans (de_last g1 g2)) (nb1.last y4 (hx1 g1) (avI_r4 ht))⟩
      obtain rfl | rfl | rfl | rfl | rfl := id ht
      all_goals
        refine rd_setNumber l ru_ _ rs I' J _ ht n (by omega) q i hq24 (by omega) e5' _ (fun I1 h1 => ?_)
        obtain ⟨f1, e1, at2, ev1, nb1, hx1⟩ := main I1 h1
        refine And.intro p0 (And.intro p1 ?_)
        refine (show xm l n 0 0 mX5_number [.ref 35, .int (FL.getD ((nI v - nI 5) * nI 9 + nI i * nI 3).toNatClampNeg 0), .int (FL.getD ((nI v - nI 5) * nI 9 + nI i * nI 3 + nI 1).toNatClampNeg 0)] _ I1 J _ from ?_)
        rw [z0, z1]
        refine num I1 _ f1 e1 at2 ev1 (fun g1 g2 g3 g4 g5 => ?_) (fun f' g1 g2 => ?_)
        · refine And.intro (fun _ => And.intro p2 ?_) (fun h => absurd h (by decide))
          exact And.intro (fun h => absurd z2 h) (fun _ => fin I1 nb1 hx1 f1 e1 g1 g2 g3 g4 g5)
        · exact And.intro (fun h => absurd rfl h) (fun _ => k0 I1 at2 ev1 f1 f' g1 g2)
    | false =>
      have ew : w ≠ 99 := fun z => by
        rw [z] at hw99
        cases hw99
      rw [hw99] at y3
      dsimp only at y3
      rw [Bool.and_eq_true, Bool.and_eq_true, Bool.and_eq_true] at y3
      obtain ⟨⟨⟨u1, u2⟩, u3⟩, u4⟩ := y3
      have u1 := of_decide_eq_true u1
      have u2 : 0 < cw w := Nat.blt_eq.mp u2
      have u3 : w < 32 := Nat.blt_eq.mp u3
      have u4 : i + 1 < (fmS v).length := Nat.blt_eq.mp u4
      have hcw := cw_lt (k := w)
      rw [u1] at z2
      have wrd : ∀ (I1 : XI) (Rq : XR), FD ta I (avI I1 (j + 1)) → ATt ta (avI I1 (j + 1)) (j + 1) c → j + 1 < N → (tk j).1 = 2 → lo ≤ (tk j).2.1 ∧ (tk j).2.1 ≤ hi_ → (I1 35 7 = I 35 7 ∧ I1 35 8 = I 35 8) → (∀ I3, FD ta I I3 → (I3 35 7 = I 35 7 ∧ I3 35 8 = I 35 8) → ATt ta I3 (j + 2) c → j + 2 < N → deS tk (fmS v) j0 = deS tk ((fmS v).drop (i + 1)) (j + 2) → I3 (ta + 4) = I1 (ta + 4) → Rq (some (.int 1)) (shH ru_ ta rs) I3 J) → (∀ I3, FD ta I I3 → I3 35 7 = nI 1 → I3 35 8 = nI (tk (j + 1)).2.2.1 → deS tk (fmS v) j0 = .inr (ft tk 1 (j + 1)) → Rq (some (.int 0)) (shH ru_ ta rs) I3 J) → xm l n 0 0 mX5_word [.ref 35, .int (nI (cw w))] (shH ru_ ta rs) (avI I1 (j + 1)) J Rq := fun I1 Rq f2 at3 hlt g1 g2 e1 hA hB => by
        have ev3 := f2.ev ht hev
        have tk3 := at3.tk ev3 hlt
        have hwd := tkC_wd tk3 (hk.2.2.2.2 (j + 1)) u3
        have nx : isWd (tk (j + 1)) w = true → j + 2 < N := fun z => hk.nx hlt (by rw [(wd_1 z).1]; decide)
        refine rd_word l ru_ ta rs (avI I1 (j + 1)) J _ n hn (nI (cw w)) (j + 1) N hN hlt at3.1 ev3.1 (fun g => nx (hwd.mp g)) (fun g => ?_) (fun g => ?_)
        · exact hA _ (f2.tr FD.av) e1 (avI_at ht at3.2.2.2) (nx (hwd.mp g)) (hq.trans (de_word g1 g2 ew (hwd.mp g))) ((avI_r4 ht).trans (avI_r4 ht))
        · exact hB _ (f2.tr FD.fi) rfl (ev3.2 (j + 1) hlt).2 (hq.trans (de_odd g1 g2 ew (bF Iff.rfl (fun z => g (hwd.mpr z)))))
      have nx : ∀ (I3 : XI), FD ta I I3 → (I3 35 7 = I 35 7 ∧ I3 35 8 = I 35 8) → ATt ta I3 (j + 2) c → j + 2 < N → deS tk (fmS v) j0 = deS tk ((fmS v).drop (i + 1)) (j + 2) → NB ta q tk v j0 I I3 (i + 1) (j + 2) → Kk 2 [some (.ref 35), some (.int (nI v)), some (.int (nI i + 1)), some (.int ((nI v - nI 5) * nI 9 + nI i * nI 3))] [] (shH ru_ ta rs) I3 J 0 0 := fun I3 q1 q2 q3 q4 q5 q6 => by
        refine hKk 2 [some (.ref 35), some (.int (nI v)), some (.int (nI i + 1)), some (.int ((nI v - nI 5) * nI 9 + nI i * nI 3))] [] (shH ru_ ta rs) I3 J 0 0 ?_
        rw [nI_1]
        exact ih (i + 1) (j + 2) S I3 _ (by omega) u4 (by omega) q1 q2 q3 q4 (by omega) q5 q6
      have no : ∀ (I3 : XI), FD ta I I3 → I3 35 7 = nI 1 → I3 35 8 = nI (tk (j + 1)).2.2.1 → deS tk (fmS v) j0 = .inr (ft tk 1 (j + 1)) → ((0 : Int32) = 0 ∨ (0 : Int32) = 1) ∧ Rp (some (.int 0)) (shH ru_ ta rs) I3 J := fun I3 q1 q2 q3 q4 => ⟨Or.inl rfl, hF I3 1 _ q1 q2 q3 (by decide) q4⟩
      have nz : ¬ FL.getD ((nI v - nI 5) * nI 9 + nI i * nI 3 + nI 2).toNatClampNeg 0 = 0 := by
        rw [z2]
        exact nI_ne0 u2 (by omega)
      obtain rfl | rfl | rfl | rfl | rfl := id ht
      all_goals
        refine rd_setNumber l ru_ _ rs I' J _ ht n (by omega) q i hq24 (by omega) e5' _ (fun I1 h1 => ?_)
        obtain ⟨f1, e1, at2, ev1, nb1, hx1⟩ := main I1 h1
        refine And.intro p0 (And.intro p1 ?_)
        refine (show xm l n 0 0 mX5_number [.ref 35, .int (FL.getD ((nI v - nI 5) * nI 9 + nI i * nI 3).toNatClampNeg 0), .int (FL.getD ((nI v - nI 5) * nI 9 + nI i * nI 3 + nI 1).toNatClampNeg 0)] _ I1 J _ from ?_)
        rw [z0, z1]
        refine num I1 _ f1 e1 at2 ev1 (fun g1 g2 g3 g4 g5 => ?_) (fun f' g1 g2 => ?_)
        · refine And.intro (fun _ => And.intro p2 ?_) (fun h => absurd h (by decide))
          refine And.intro (fun _ => And.intro p2 ?_) (fun h => absurd h nz)
          refine (show xm l n 0 0 mX5_word [.ref 35, .int (FL.getD ((nI v - nI 5) * nI 9 + nI i * nI 3 + nI 2).toNatClampNeg 0)] _ (avI I1 (j + 1)) J _ from ?_)
          rw [z2]
          refine wrd I1 _ g4 g5 g3 g1 g2 e1 (fun I3 q1 q2 q3 q4 q5 q6 => ?_) (fun I3 q1 q2 q3 q4 => ?_)
          · exact And.intro (fun _ => nx I3 q1 q2 q3 q4 q5 (nb1.next (I' := I') y4 ew (hx1 g1) q6)) (fun h => absurd h (by decide))
          · exact And.intro (fun h => absurd rfl h) (fun _ => no I3 q1 q2 q3 q4)
        · exact And.intro (fun h => absurd rfl h) (fun _ => k0 I1 at2 ev1 f1 f' g1 g2)
end DEED
