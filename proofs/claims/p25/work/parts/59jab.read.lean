section CLAUSE
variable {l : Launch} {ru_ ta : Nat} {rs : List XO} {tk : Nat → TK} {N : Nat}
set_option maxRecDepth 100000 in
set_option maxHeartbeats 1000000 in
/-- behind the law: it is closed, then its end -/
theorem rd_law_137 (ht : TSP ta) (hk : TKN tk N) {n : Nat} (hn : 2 ≤ n) (J : XJ) (Rp : XR) (ws : List Nat) (w j0 c0 : Nat) (hw : w < 5) (hlen : ws.length < 24) (s0 : MS) (I I3 : XI) (f3 : FC ta I I3) (e78 : I3 35 7 = I 35 7 ∧ I3 35 8 = I 35 8) (ev3 : EV I3 tk N) (e5 : I3 ta 5 = nI (ws.length + 1)) (hl : ∀ x, x < 5 → x ≠ w → (x ∈ ws ↔ I3 (ta + 2) x < I3 (ta + 3) x)) (hst : I3 (ta + 2) w = nI c0) (hc0 : c0 ≤ j0) (hnw : w ∉ ws) (ac : AC4 ta I I3 ws.length (nI w)) (row1 : I3 (ta + 1) = I (ta + 1)) (r23 : ∀ x, x < 5 → x ≠ w → I3 (ta + 2) x = I (ta + 2) x ∧ I3 (ta + 3) x = I (ta + 3) x) (hS : ∀ I', COK ta N tk I j0 c0 ws s0 I' → Rp (some (.int 1)) (shH ru_ ta rs) I' J) (hF : ∀ I', CNO ta tk I s0 I' → Rp (some (.int 0)) (shH ru_ ta rs) I' J) (S : Nat) (num : Int32) : (∀ (I4 : XI) (j4 c4 : Nat) (s1 : MS), FS ta I3 I4 → ATt ta I4 j4 c4 → j4 < N → c0 + 1 ≤ c4 → c4 ≤ j4 → j0 + 1 ≤ j4 → Rch tk s0 s1 → (isSg (tk j4) 59 = true → mstep tk s1 = .inl (4, [], w, ws ++ [w], j4 + 1)) → (isSg (tk j4) 59 = false → mstep tk s1 = .inr (ft tk 1 j4)) → (∀ e, Cem ta I3 I4 c0 c4 e → Typ w 22 (Nat.beq w 4) e → (isSg (tk j4) 59 = true → ∀ (E : List Odr) (A : Adr), Rx tk (s0, [], E, A) ((4, [], w, ws ++ [w], j4 + 1), [], E ++ e ++ [(408, 0)], A ++ [(E.length, [])])) → clr l ru_ ta rs J Rp n (S + 1) 137 [some (.ref 35), some (.int num), some (.int (nI w)), some (.int 1)] I4)) ∧ (∀ (I4 : XI) (s1 : MS), NOR ta tk I3 s1 I4 → Rch tk s0 s1 → clr l ru_ ta rs J Rp n (S + 1) 137 [some (.ref 35), some (.int num), some (.int (nI w)), some (.int 0)] I4) := by
  have hN := hk.2.1
  have ht2 := ht
  unfold TSP at ht2
  constructor
  · intro I4 j4 c4 s1 f4 at4 hj4 hcc hc4 hjj r1 hA hB e ce tye hX
    have ev4 := ev3.fe ht f4.1
    have f5 : FC ta I (clsI I4 ta w) := (f3.tr f4.1.fc).tr ⟨fun p _ _ _ _ d _ => uI_ne d, by
      unfold clsI
      rw [uI_ne (by omega)]⟩
    have e35 : clsI I4 ta w 35 = I4 35 := by unfold clsI; rw [uI_ne (by omega)]
    have eta : clsI I4 ta w ta = I4 ta := by unfold clsI; rw [uI_ne (by omega)]
    have e32 : clsI I4 ta w 32 = I4 32 := by unfold clsI; rw [uI_ne (by omega)]
    have e33 : clsI I4 ta w 33 = I4 33 := by unfold clsI; rw [uI_ne (by omega)]
    have ev5 : EV (clsI I4 ta w) tk N := f5.ev ht ((show FC ta I3 I from ⟨fun p a b c d e f => (f3.1 p a b c d e f).symm, f3.2.symm⟩).ev ht ev3)
    have at5 : ATt ta (clsI I4 ta w) j4 c4 := by
      unfold ATt
      rw [e35, eta, e32, e33]
      exact at4
    have tk5 := at5.tk ev5 hj4
    have hsg := tkC_sg tk5 (hk.2.2.2.2 j4) (w := 59) (by decide)
    have nx : isSg (tk j4) 59 = true → j4 + 1 < N := fun z => hk.nx hj4 (by rw [(sg_1 z).1]; decide)
    have r2 : ∀ x, clsI I4 ta w (ta + 2) x = I3 (ta + 2) x := fun x => by
      unfold clsI
      rw [uI_ne (by omega), f4.1.1 (ta + 2) (by omega) (by omega) (by omega)]
    have r3 : ∀ x, clsI I4 ta w (ta + 3) x = if x = w then nI c4 else I3 (ta + 3) x := fun x => by
      unfold clsI
      rw [uI_atC, at4.2.2.2, f4.1.1 (ta + 3) (by omega) (by omega) (by omega)]
    have law : ∀ x, x < 5 → (x ∈ ws ++ [w] ↔ clsI I4 ta w (ta + 2) x < clsI I4 ta w (ta + 3) x) := fun x hx => by
      rw [r2, r3]
      by_cases e : x = w
      · rw [if_pos e, e, hst]
        exact ⟨fun _ => nI_lt (by omega) (by omega), fun _ => List.mem_append_right _ (List.mem_singleton.mpr rfl)⟩
      · rw [if_neg e, ← hl x hx e]
        constructor
        · intro z
          rcases List.mem_append.mp z with z | z
          · exact z
          · exact absurd (List.mem_singleton.mp z) e
        · exact fun z => List.mem_append_left _ z
    have cta : clsI I4 ta w ta 5 = nI (ws.length + 1) := by rw [eta, f4.1.2.2 5 (by decide)]; exact e5
    have c78 : clsI I4 ta w 35 7 = I 35 7 ∧ clsI I4 ta w 35 8 = I 35 8 := by
      rw [e35]
      exact ⟨f4.2.1.trans e78.1, f4.2.2.trans e78.2⟩
    have fin : isSg (tk j4) 59 = true → COK ta N tk I j0 c0 ws s0 (avI (clsI I4 ta w) (j4 + 1)) := fun z => by
      have g := avI_fs (I := clsI I4 ta w) (i := j4 + 1) ht
      refine ⟨j4 + 1, c4, w, f5.tr g.1.fc, ⟨g.2.1.trans c78.1, g.2.2.trans c78.2⟩, ⟨avI_at ht at5.2.2.2, ?_, fun x hx => ?_⟩, nx z, by omega, by omega, r1.tr (Rch.step (hA z) (Rch.rf _)), fun E A hg => ?_⟩
      · rw [g.1.2.2 5 (by decide), cta, List.length_append]
        rfl
      · rw [g.1.1 (ta + 2) (by omega) (by omega) (by omega), g.1.1 (ta + 3) (by omega) (by omega) (by omega)]
        exact law x hx
      · have s2 : ∀ x, avI (clsI I4 ta w) (j4 + 1) (ta + 2) x = I3 (ta + 2) x := fun x => by
          rw [g.1.1 (ta + 2) (by omega) (by omega) (by omega)]
          exact r2 x
        have s3 : ∀ x, avI (clsI I4 ta w) (j4 + 1) (ta + 3) x = if x = w then nI c4 else I3 (ta + 3) x := fun x => by
          rw [g.1.1 (ta + 3) (by omega) (by omega) (by omega)]
          exact r3 x
        have s4 : avI (clsI I4 ta w) (j4 + 1) (ta + 4) = I3 (ta + 4) := by
          rw [avI_r4 ht]
          unfold clsI
          rw [uI_ne (by omega), f4.1.1 (ta + 4) (by omega) (by omega) (by omega)]
        have s1' : avI (clsI I4 ta w) (j4 + 1) (ta + 1) = I4 (ta + 1) := by
          rw [avI_row ht]
          unfold clsI
          rw [uI_ne (by omega)]
        refine ⟨E ++ (e ++ [(408, 0)]), A ++ [(E.length, [])], hg.snoc (fun x hx => by rw [s4]; exact ac.2 x hx) (fun x hx => by rw [s1', ce.1 x hx, row1]) (by rw [ce.2.1]; omega) (fun x hx hx4 => ?_) ⟨by omega, by rw [s4]; exact ac.1, fun _ => ⟨c0, e, E, [], by rw [s2]; exact hst, by rw [s3, if_pos rfl, ce.2.1], by rw [ce.2.1]; exact Nat.le_refl _, by rw [s1']; exact ce.2.2, tye, by simp [List.append_assoc], rfl⟩, fun hw4 => by omega⟩, ?_⟩
        · have hne : x ≠ w := fun z => hnw (by rw [← z]; exact hx)
          rw [s2, s3, if_neg hne]
          exact r23 x (by omega) hne
        · have y := hX z E A
          rw [List.append_assoc] at y
          exact y
    have fail : isSg (tk j4) 59 = false → CNO ta tk I s0 (FI (clsI I4 ta w) 1 j4) := fun z => by
      have g := FI_fe (ta := ta) (I := clsI I4 ta w) (f := 1) (j := j4) ht
      have eta2 : FI (clsI I4 ta w) 1 j4 ta = I4 ta := by unfold FI; rw [uI_ne (by omega), uI_ne (by omega), eta]
      refine ⟨1, (tk j4).2.2.1, c4, ws.length + 1, f5.tr g.fc, ⟨rfl, (ev5.2 j4 hj4).2, by decide⟩, ⟨by omega, by rw [eta2]; exact at4.2.2.2⟩, ⟨by omega, ?_⟩, r1.ends (Ends.now (hB z))⟩
      rw [eta2, f4.1.2.2 5 (by decide)]
      exact e5
    have key : ∀ (Rq : XR), (isSg (tk j4) 59 = true → Rq (some (.int 1)) (shH ru_ ta rs) (avI (clsI I4 ta w) (j4 + 1)) J) → (isSg (tk j4) 59 = false → Rq (some (.int 0)) (shH ru_ ta rs) (FI (clsI I4 ta w) 1 j4) J) → xm l n 0 0 mX5_sign [.ref 35, .int 59] (shH ru_ ta rs) (clsI I4 ta w) J Rq := fun Rq h1 h2 => rd_sign l ru_ ta rs (clsI I4 ta w) J Rq n hn 59 j4 N hN hj4 at5.1 ev5.1 (fun z => nx (hsg.mp z)) (fun z => h1 (hsg.mp z)) (fun z => h2 (bF Iff.rfl (fun y => z (hsg.mpr y))))
    obtain rfl | rfl | rfl | rfl | rfl := id ht
    all_goals
      refine xrun_step fun Kk hKk => ?_
      refine rd_closeLaw l ru_ _ rs I4 J _ ht n (by omega) w hw ?_
      refine And.intro (fun h => absurd h (by decide)) (fun _ => ?_)
      refine key _ (fun z => ?_) (fun z => ?_)
      · exact And.intro (fun h => absurd h (by decide)) (fun _ => And.intro (Or.inr rfl) (hS _ (fin z)))
      · exact And.intro (fun _ => And.intro (Or.inl rfl) (hF _ (fail z))) (fun h => absurd rfl h)
  · intro I4 s1 h r1
    obtain ⟨f, p, c', h1, h2, h3, h4, h5, h6, h7⟩ := h
    have e35 : clsI I4 ta w 35 = I4 35 := by unfold clsI; rw [uI_ne (by omega)]
    have eta : clsI I4 ta w ta = I4 ta := by unfold clsI; rw [uI_ne (by omega)]
    have fin : CNO ta tk I s0 (clsI I4 ta w) := by
      refine ⟨f, p, c', ws.length + 1, (f3.tr h1.fc).tr ⟨fun p _ _ _ _ d _ => uI_ne d, by rw [e35]⟩, ⟨by rw [e35]; exact h2, by rw [e35]; exact h3, h7⟩, ⟨h4, by rw [eta]; exact h5⟩, ⟨by omega, ?_⟩, r1.ends h6⟩
      rw [eta, h1.2.2 5 (by decide)]
      exact e5
    obtain rfl | rfl | rfl | rfl | rfl := id ht
    all_goals
      refine xrun_step fun Kk hKk => ?_
      refine rd_closeLaw l ru_ _ rs I4 J _ ht n (by omega) w hw ?_
      exact And.intro (fun _ => And.intro (Or.inl rfl) (hF _ fin)) (fun h => absurd rfl h)
end CLAUSE
