section RUN
variable (l : Launch) (ta : Nat) (rs : List XO) (I : XI) (Rp : XR) (d : Nat)
set_option maxRecDepth 100000 in
set_option maxHeartbeats 16000000 in
theorem rn_loop (ru : Nat) (hru : TSP ru) (kk w G S : Nat) (hw : w < 5) (hG : G < 10000) (hS : I (ru + 3) w = nI S) (h300 : S ≤ 300) (nm : Nat → Int) (hnm : NMc (I 24) kk nm) (J0 : XJ) (x : Int) (hR : ∀ J' : XJ, (∀ q, q ≠ 25 → J' q = J0 q) → Rp (some (.int (nI (hld x 0 G).toNat))) (shH ru ta rs) I J') : ∀ (e : List Odr) (c : Nat) (t : List Bool) (b : Bool) (p : List Int) (o5 o6 o7 o9 o11 : Option Value) (J : XJ), Cds (I (ru + 1)) c e → c + e.length = S → tyE kk e t = some [b] → VT t p → PLr (J 25) p → (∀ q, q ≠ 25 → J q = J0 q) → t.length ≤ 64 → smE nm e p = [x] → rnr l ru ta rs I Rp d (4 * e.length + 1) 24 (rnL (nI w) (nI G) p.length c o5 o6 o7 o9 o11) J := by
  intro e
  induction e with
  | nil =>
    intro c t b p o5 o6 o7 o9 o11 J hC hc hT hV hP hJ h64 hx
    have hc : c = S := by simpa using hc
    subst hc
    have hx : p = [x] := hx
    subst hx
    have vw : vp_in (nI w) 5 := vp_in_nI hw (by omega)
    have cw : (nI w).toNatClampNeg = w := nI_clamp (by omega)
    have g0 : ¬ nI c < nI 0 := nI_nlt (by omega) (by omega)
    have gS : I (ru + 3) (nI w).toNatClampNeg ≤ nI c := by
      rw [cw, hS]
      exact nI_le (Nat.le_refl _) (by omega)
    have ev : (J 25 0).toInt = x := hP.1
    have hr := cl_hld (J 25 0) G hG
    rw [ev] at hr
    have fin := hR J hJ
    rw [← hr] at fin
    rcases hru with rfl | rfl | rfl | rfl | rfl
    all_goals
      refine xrun_step fun K hK => ?_
      refine And.intro (fun z => absurd z g0) (fun _ => ?_)
      refine And.intro vw ?_
      refine And.intro (fun _ => ?_) (fun z => absurd gS z)
      refine And.intro (fun z => absurd (show nI 1 ≤ nI 0 from z) (by decide)) (fun _ => ?_)
      refine And.intro (vp_b (by decide)) ?_
      exact fin
  | cons o1 e ih =>
    intro c t b p o5 o6 o7 o9 o11 J hC hc hT hV hP hJ h64 hx
    have hlen : t.length = p.length := hV.len
    simp only [List.length_cons] at hc
    have hc1 : I (ru + 1) c = nI (10000 * opa o1 + opb o1) := by rw [hC.1, ccd_ab]
    obtain ⟨u, hu, hT2⟩ : ∃ u, tyo kk o1 t = some u ∧ tyE kk e u = some [b] := by
      unfold tyE at hT
      split at hT
      · rename_i u hu
        exact ⟨u, hu, hT⟩
      · cases hT
    have hx2 : smE nm e (sm1 nm o1 p) = [x] := hx
    rw [show 4 * (o1 :: e).length + 1 = 4 * e.length + 1 + 1 + 1 + 1 + 1 by simp only [List.length_cons]; omega]
    -- behind one order
    have nxt : ∀ (p' : List Int) (top' : Nat) (v : Int64) (o5 o6 o7 o9 o11 : Option Value) (q : List Int) (y : Int), sm1 nm o1 p = p' → p' = y :: q → top' = p'.length → VT u p' → u.length ≤ 64 → PLr (J 25) q → v.toInt = y → rnr l ru ta rs I Rp d (4 * e.length + 1) 24 (rnL (nI w) (nI G) top' (c + 1) o5 o6 o7 o9 o11) (uJ J 25 (top' - 1) v) := by
      intro p' top' v o5 o6 o7 o9 o11 q y h1 h2 h3 h4 h5 h6 h7
      subst h3
      refine ih (c + 1) u b p' o5 o6 o7 o9 o11 _ hC.2 (by omega) hT2 h4 ?_ (fun q' hq' => (uJ_ne hq').trans (hJ q' hq')) h5 (by rw [← h1]; exact hx2)
      rw [uJ_eq, h2]
      exact h6.put (by simp) h7
    have big : inM 10000 := ⟨by omega, by omega⟩
    rcases tyo_el hu with ⟨ho, h1, h2, h3⟩ | ⟨ho, h1, h2, h3, h4⟩ | ⟨ho, v, h1, h2⟩ | ⟨ho, h0, v, h1, h2⟩ | ⟨ho, v, h1, h2⟩ | hbin
    · -- a number
      have ea : opa o1 = 0 := by unfold opa; rw [ho]; rfl
      have eb : opb o1 = o1.2 := by unfold opb; rw [ho]; rfl
      have hi : inM (o1.2 : Int) := ⟨by omega, by omega⟩
      refine rn_24 l ta rs I Rp d ru hru (nI G) w p.length c S 0 o1.2 o5 o6 o7 o9 o11 _ J hw (by omega) hS (by omega) h300 (by rw [hc1, ea, eb]) (by omega) h2 (fun x y R L hx hy hR hL => ?_)
      subst hx hy
      refine rn_op0 l ta rs I Rp d ru (nI w) (nI G) p.length c o1.2 R L o11 _ J h2 (fun v hv => ?_)
      refine rn_449 l ta rs I Rp d ru (nI w) (nI G) p.length (p.length + 1) c 0 v _ _ _ _ J (by omega) (Or.inl ⟨by omega, rfl⟩) (by omega) (by omega) (by omega) (fun z hz => ?_)
      refine nxt ((o1.2 : Int) :: p) (p.length + 1) z _ _ _ _ _ p _ ?_ rfl (by simp) (by rw [h3]; exact ⟨hi, hV⟩) (by rw [h3, List.length_cons]; omega) hP (by rw [hz, hv, bnd_id hi])
      unfold sm1
      rw [ho]
      rfl
    · -- a name
      have ea : opa o1 = 1 := by unfold opa; rw [ho]; rfl
      have eb : opb o1 = rnm o1.2 := by unfold opb; rw [ho]; rfl
      have hm := hnm o1.2 h3 h2
      have hb := rnm_le h3
      refine rn_24 l ta rs I Rp d ru hru (nI G) w p.length c S 1 (rnm o1.2) o5 o6 o7 o9 o11 _ J hw (by omega) hS (by omega) h300 (by rw [hc1, ea, eb]) (by omega) (by omega) (fun x y R L hx hy hR hL => ?_)
      subst hx hy
      refine rn_op1 l ta rs I Rp d ru (nI w) (nI G) p.length c (rnm o1.2) R L o11 _ J hb (fun v hv => ?_)
      refine rn_449 l ta rs I Rp d ru (nI w) (nI G) p.length (p.length + 1) c 1 v _ _ _ _ J (by omega) (Or.inl ⟨by omega, rfl⟩) (by omega) (by omega) (by omega) (fun z hz => ?_)
      refine nxt (nm o1.2 :: p) (p.length + 1) z _ _ _ _ _ p _ ?_ rfl (by simp) (by rw [h4]; exact ⟨hm.2, hV⟩) (by rw [h4, List.length_cons]; omega) hP (by rw [hz, hv, hm.1, bnd_id hm.2])
      unfold sm1
      rw [ho]
      rfl
    · -- minus
      subst h1
      obtain ⟨z0, q, rfl, hVq⟩ := VT_1 hV
      have ea : opa o1 = 2 := by unfold opa; rw [ho]; rfl
      have eb : opb o1 = 0 := by unfold opb; rw [ho]; rfl
      have hq := hP.top
      have hin : inM z0 := hVq.1
      have hl2 : 1 ≤ (z0 :: q).length := by simp
      simp only [List.length_cons] at h64
      have hl3 : (z0 :: q).length ≤ 64 := by
        rw [← hlen, List.length_cons]
        omega
      refine rn_24 l ta rs I Rp d ru hru (nI G) w (z0 :: q).length c S 2 0 o5 o6 o7 o9 o11 _ J hw hl3 hS (by omega) h300 (by rw [hc1, ea, eb]) (by omega) (by omega) (fun x y R L hx hy hR hL => ?_)
      subst hx hy
      have hR := hR hl2
      have hR2 : R.toInt = z0 := by rw [hR]; exact hq
      refine rn_op2 l ta rs I Rp d ru (nI w) (nI G) (z0 :: q).length c 0 R L o11 _ J (by rw [hR2]; exact hin) (fun v hv => ?_)
      refine rn_449 l ta rs I Rp d ru (nI w) (nI G) (z0 :: q).length (z0 :: q).length c 2 v _ _ _ _ J (by omega) (Or.inr (Or.inl ⟨by omega, by omega, rfl⟩)) hl2 hl3 (by omega) (fun z hz => ?_)
      have hval : inM (-z0) := ⟨by have := hin.1; have := hin.2; omega, by have := hin.1; have := hin.2; omega⟩
      refine nxt (-z0 :: q) (z0 :: q).length z _ _ _ _ _ q _ ?_ rfl (by simp) (by rw [h2]; exact ⟨hval, hVq.2⟩) (by rw [h2, List.length_cons]; omega) hP.2 (by rw [hz, hv, hR2, bnd_id hval])
      unfold sm1
      rw [ho]
      rfl
    · -- part
      subst h1
      obtain ⟨z0, q, rfl, hVq⟩ := VT_1 hV
      have ea : opa o1 = 3 := by unfold opa; rw [ho]; rfl
      have eb : opb o1 = o1.2 := by unfold opb; rw [ho]; rfl
      have hq := hP.top
      have hin : inM z0 := hVq.1
      have hl2 : 1 ≤ (z0 :: q).length := by simp
      simp only [List.length_cons] at h64
      have hl3 : (z0 :: q).length ≤ 64 := by
        rw [← hlen, List.length_cons]
        omega
      refine rn_24 l ta rs I Rp d ru hru (nI G) w (z0 :: q).length c S 3 o1.2 o5 o6 o7 o9 o11 _ J hw hl3 hS (by omega) h300 (by rw [hc1, ea, eb]) (by omega) (by omega) (fun x y R L hx hy hR hL => ?_)
      subst hx hy
      have hR := hR hl2
      have hR2 : R.toInt = z0 := by rw [hR]; exact hq
      refine rn_op3 l ta rs I Rp d ru (nI w) (nI G) (z0 :: q).length c o1.2 R L o11 _ J (by rw [hR2]; exact hin) h0 (fun v hv => ?_)
      refine rn_449 l ta rs I Rp d ru (nI w) (nI G) (z0 :: q).length (z0 :: q).length c 3 v _ _ _ _ J (by omega) (Or.inr (Or.inl ⟨by omega, by omega, rfl⟩)) hl2 hl3 (by omega) (fun z hz => ?_)
      have hval : inM ((z0 * (o1.2 : Int)).tdiv 100) := part_in hin h0
      refine nxt ((z0 * (o1.2 : Int)).tdiv 100 :: q) (z0 :: q).length z _ _ _ _ _ q _ ?_ rfl (by simp) (by rw [h2]; exact ⟨hval, hVq.2⟩) (by rw [h2, List.length_cons]; omega) hP.2 (by rw [hz, hv, hR2, bnd_id hval])
      unfold sm1
      rw [ho]
      rfl
    · -- not
      subst h1
      obtain ⟨z0, q, rfl, hVq⟩ := VT_1 hV
      have ea : opa o1 = 4 := by unfold opa; rw [ho]; rfl
      have eb : opb o1 = 0 := by unfold opb; rw [ho]; rfl
      have hq := hP.top
      have hin : z0 = 0 ∨ z0 = 1 := hVq.1
      have hl2 : 1 ≤ (z0 :: q).length := by simp
      simp only [List.length_cons] at h64
      have hl3 : (z0 :: q).length ≤ 64 := by
        rw [← hlen, List.length_cons]
        omega
      refine rn_24 l ta rs I Rp d ru hru (nI G) w (z0 :: q).length c S 4 0 o5 o6 o7 o9 o11 _ J hw hl3 hS (by omega) h300 (by rw [hc1, ea, eb]) (by omega) (by omega) (fun x y R L hx hy hR hL => ?_)
      subst hx hy
      have hR := hR hl2
      have hR2 : R.toInt = z0 := by rw [hR]; exact hq
      refine rn_op4 l ta rs I Rp d ru (nI w) (nI G) (z0 :: q).length c 0 R L o11 _ J (by rw [hR2]; exact VT_b01 hin) (fun v hv => ?_)
      refine rn_449 l ta rs I Rp d ru (nI w) (nI G) (z0 :: q).length (z0 :: q).length c 4 v _ _ _ _ J (by omega) (Or.inr (Or.inl ⟨by omega, by omega, rfl⟩)) hl2 hl3 (by omega) (fun z hz => ?_)
      have hval : inM (1 - z0) := by rcases hin with e | e <;> rw [e] <;> exact ⟨by omega, by omega⟩
      refine nxt ((1 - z0) :: q) (z0 :: q).length z _ _ _ _ _ q _ ?_ rfl (by simp) (by rw [h2]; exact ⟨by rcases hin with e | e <;> rw [e] <;> simp, hVq.2⟩) (by rw [h2, List.length_cons]; omega) hP.2 (by rw [hz, hv, hR2, bnd_id hval])
      unfold sm1
      rw [ho]
      rfl
    · -- two become one
      obtain ⟨hop, y0, x0, q, rfl, hsm, hxi, hyi, hVu⟩ := bin_el (nm := nm) hbin hV h64
      have hl2 : 2 ≤ (y0 :: x0 :: q).length := by simp
      have hl3 : (y0 :: x0 :: q).length ≤ 64 := by
        rw [← hlen]
        exact h64
      have hw2 : (y0 :: x0 :: q).length = (wrk o1.1 x0 y0 :: q).length + 1 := by simp
      have eb : opb o1 = 0 := by
        unfold op2 at hop
        unfold opb
        rw [if_neg (by omega), if_neg (by omega), if_neg (by omega)]
      have hqy := hP.top
      have hqx := hP.snd
      have hWi : inM (wrk o1.1 x0 y0) := by
        rcases hbin with ⟨h, _⟩ | ⟨h, _⟩ | ⟨h, v, e1, e2⟩
        · exact wrk_num h hxi
        · exact VT_b01 (wrk_b01 h)
        · subst e1
          have hy : y0 = 0 ∨ y0 = 1 := hV.1
          have hx : x0 = 0 ∨ x0 = 1 := hV.2.1
          rcases h with h | h <;> rw [h]
          · exact VT_b01 (wrk_and hx hy)
          · exact VT_b01 (wrk_or hx hy)
      -- which of them
      have go : ∀ m : Nat, opa o1 = m → 5 ≤ m → m ≤ 16 → (∀ (R L : Int64) (o11 : Option Value) (n : Nat), R.toInt = y0 → L.toInt = x0 → (∀ v : Int64, bnd v.toInt = wrk o1.1 x0 y0 → rnr l ru ta rs I Rp d n 449 [some (.ref 23), some (.int (nI w)), some (.int (nI G)), some (.int (nI (y0 :: x0 :: q).length)), some (.int (nI c)), some (.int (nI m)), some (.int (nI 0)), some (.long R), none, some (.long L), none, some (.long v), none] J) → rnr l ru ta rs I Rp d (n + 1) 125 [some (.ref 23), some (.int (nI w)), some (.int (nI G)), some (.int (nI (y0 :: x0 :: q).length)), some (.int (nI c)), some (.int (nI m)), some (.int (nI 0)), some (.long R), none, some (.long L), none, o11, none] J) → rnr l ru ta rs I Rp d (4 * e.length + 1 + 1 + 1 + 1 + 1) 24 (rnL (nI w) (nI G) (y0 :: x0 :: q).length c o5 o6 o7 o9 o11) J := by
        intro m em hm5 hm16 hstep
        refine rn_24 l ta rs I Rp d ru hru (nI G) w (y0 :: x0 :: q).length c S m 0 o5 o6 o7 o9 o11 _ J hw hl3 hS (by omega) h300 (by rw [hc1, em, eb]) hm16 (by omega) (fun x y R L hx hy hR hL => ?_)
        subst hx hy
        have hR2 : R.toInt = y0 := by rw [hR (by omega)]; exact hqy
        have hL2 : L.toInt = x0 := by rw [hL hl2]; exact hqx
        refine hstep R L o11 _ hR2 hL2 (fun v hv => ?_)
        refine rn_449 l ta rs I Rp d ru (nI w) (nI G) (y0 :: x0 :: q).length (wrk o1.1 x0 y0 :: q).length c m v _ _ _ _ J hm16 (Or.inr (Or.inr ⟨hm5, hw2⟩)) (by simp) (by omega) (by omega) (fun z hz => ?_)
        exact nxt (wrk o1.1 x0 y0 :: q) _ z _ _ _ _ _ q _ hsm rfl rfl hVu.1 hVu.2 hP.2.2 (hz.trans hv)
      have b01 : opa o1 = 15 ∨ opa o1 = 16 → (y0 = 0 ∨ y0 = 1) ∧ (x0 = 0 ∨ x0 = 1) := by
        intro ha
        rcases hbin with ⟨h, _⟩ | ⟨h, _⟩ | ⟨h, v, e1, e2⟩
        · exfalso
          unfold opa at ha
          rcases h with h | h | h | h <;> rw [h] at ha <;> exact absurd ha (by decide)
        · exfalso
          unfold opa at ha
          rcases h with h | h | h | h | h | h <;> rw [h] at ha <;> exact absurd ha (by decide)
        · subst e1
          exact ⟨hV.1, hV.2.1⟩
      rcases hop with h | h | h | h | h | h | h | h | h | h | h | h
      · exact go 5 (by unfold opa; rw [h]; rfl) (by omega) (by omega) (fun R L o11 n hR hL hn => rn_op5 l ta rs I Rp d ru (nI w) (nI G) _ c 0 R L o11 n J (by rw [hR]; exact hyi) (by rw [hL]; exact hxi) (fun v hv => hn v (by rw [h, hv, hR, hL]; rfl)))
      · exact go 6 (by unfold opa; rw [h]; rfl) (by omega) (by omega) (fun R L o11 n hR hL hn => rn_op6 l ta rs I Rp d ru (nI w) (nI G) _ c 0 R L o11 n J (by rw [hR]; exact hyi) (by rw [hL]; exact hxi) (fun v hv => hn v (by rw [h, hv, hR, hL]; rfl)))
      · exact go 7 (by unfold opa; rw [h]; rfl) (by omega) (by omega) (fun R L o11 n hR hL hn => rn_op7 l ta rs I Rp d ru (nI w) (nI G) _ c 0 R L o11 n J (by rw [hR]; exact hyi) (by rw [hL]; exact hxi) (fun v hv => hn v (by rw [h, hv, hR, hL]; rfl)))
      · exact go 8 (by unfold opa; rw [h]; rfl) (by omega) (by omega) (fun R L o11 n hR hL hn => rn_op8 l ta rs I Rp d ru (nI w) (nI G) _ c 0 R L o11 n J (by rw [hR]; exact hyi) (by rw [hL]; exact hxi) (fun v hv => hn v (by rw [hv, hR, hL, ← h]; exact bnd_id hWi)))
      · exact go 9 (by unfold opa; rw [h]; rfl) (by omega) (by omega) (fun R L o11 n hR hL hn => rn_op9 l ta rs I Rp d ru (nI w) (nI G) _ c 0 R L o11 n J  (fun v hv => hn v (by rw [hv, hR, hL, ← h]; exact bnd_id hWi)))
      · exact go 11 (by unfold opa; rw [h]; rfl) (by omega) (by omega) (fun R L o11 n hR hL hn => rn_op11 l ta rs I Rp d ru (nI w) (nI G) _ c 0 R L o11 n J  (fun v hv => hn v (by rw [hv, hR, hL, ← h]; exact bnd_id hWi)))
      · exact go 13 (by unfold opa; rw [h]; rfl) (by omega) (by omega) (fun R L o11 n hR hL hn => rn_op13 l ta rs I Rp d ru (nI w) (nI G) _ c 0 R L o11 n J  (fun v hv => hn v (by rw [hv, hR, hL, ← h]; exact bnd_id hWi)))
      · exact go 14 (by unfold opa; rw [h]; rfl) (by omega) (by omega) (fun R L o11 n hR hL hn => rn_op14 l ta rs I Rp d ru (nI w) (nI G) _ c 0 R L o11 n J  (fun v hv => hn v (by rw [hv, hR, hL, ← h]; exact bnd_id hWi)))
      · exact go 10 (by unfold opa; rw [h]; rfl) (by omega) (by omega) (fun R L o11 n hR hL hn => rn_op10 l ta rs I Rp d ru (nI w) (nI G) _ c 0 R L o11 n J  (fun v hv => hn v (by rw [hv, hR, hL, ← h]; exact bnd_id hWi)))
      · exact go 12 (by unfold opa; rw [h]; rfl) (by omega) (by omega) (fun R L o11 n hR hL hn => rn_op12 l ta rs I Rp d ru (nI w) (nI G) _ c 0 R L o11 n J  (fun v hv => hn v (by rw [hv, hR, hL, ← h]; exact bnd_id hWi)))
      · exact go 15 (by unfold opa; rw [h]; rfl) (by omega) (by omega) (fun R L o11 n hR hL hn => rn_op15 l ta rs I Rp d ru (nI w) (nI G) _ c 0 R L o11 n J (by rw [hR]; exact (b01 (by unfold opa; rw [h]; decide)).1) (by rw [hL]; exact (b01 (by unfold opa; rw [h]; decide)).2) (fun v hv => hn v (by rw [hv, hR, hL, ← h]; exact bnd_id hWi)))
      · exact go 16 (by unfold opa; rw [h]; rfl) (by omega) (by omega) (fun R L o11 n hR hL hn => rn_op16 l ta rs I Rp d ru (nI w) (nI G) _ c 0 R L o11 n J (by rw [hR]; exact (b01 (by unfold opa; rw [h]; decide)).1) (by rw [hL]; exact (b01 (by unfold opa; rw [h]; decide)).2) (fun v hv => hn v (by rw [hv, hR, hL, ← h]; exact bnd_id hWi)))
end RUN
