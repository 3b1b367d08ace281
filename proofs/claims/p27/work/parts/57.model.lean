def ck_X12_namesOfThing_0 : AK := (1, [.inr (.inl [67]), .inl (.ofNat 0, .ofNat 7)], [91], false, [([(.ofNat 0, .ofNat 7)], .inr (.inr 9), [])], [])
def cg_X12_namesOfThing_0 : List (Nat × AK) := []
def ca_X12_namesOfThing_0 : List (Nat × AA) := []
set_option maxRecDepth 100000 in
theorem cc_X12_namesOfThing_0 : aChk QPl CF ck_X12_namesOfThing_0 cg_X12_namesOfThing_0 xxX12 mX12_namesOfThing tX12_namesOfThing ca_X12_namesOfThing_0 [] 1 = true := by decide +kernel
theorem cx_X12_namesOfThing_0 : ctsO QQ CF xxX12 cg_X12_namesOfThing_0 := ctsO_nil
theorem ct_X12_namesOfThing_0 : ctrO QQ CF ck_X12_namesOfThing_0 mX12_namesOfThing := chk_ok (Q := QQ) (QP := QPl) (C := CF) (c := ck_X12_namesOfThing_0) (G := cg_X12_namesOfThing_0) (X := xxX12) (M := mX12_namesOfThing) (t := tX12_namesOfThing) (anns := ca_X12_namesOfThing_0) 1 xx12 pl12 rfl kX12_namesOfThing qq_ok cx_X12_namesOfThing_0 cc_X12_namesOfThing_0
def ck_X12_balesIn_0 : AK := (1, [.inr (.inl [67]), .inl fr], [], false, [([fr], .inl fr, [])], [])
def cg_X12_balesIn_0 : List (Nat × AK) := []
def ca_X12_balesIn_0 : List (Nat × AA) := [(4, [(.ofNat 0, .ofNat 0), fr, fr, (.ofNat 0, .ofNat 12)], [.inr (.inl [67]), .inl (1, .ofNat 0), .inl (2, .ofNat 0), .inl (3, .ofNat 0)], [], [], [(0, 2, 0), (0, 3, 0)], (.ofNat 12, [.ofNat 0, .ofNat 0, .ofNat 0, .negSucc 0]))]
set_option maxRecDepth 100000 in
theorem cc_X12_balesIn_0 : aChk QPl CF ck_X12_balesIn_0 cg_X12_balesIn_0 xxX12 mX12_balesIn tX12_balesIn ca_X12_balesIn_0 [] 13 = true := by decide +kernel
theorem cx_X12_balesIn_0 : ctsO QQ CF xxX12 cg_X12_balesIn_0 := ctsO_nil
theorem ct_X12_balesIn_0 : ctrO QQ CF ck_X12_balesIn_0 mX12_balesIn := chk_ok (Q := QQ) (QP := QPl) (C := CF) (c := ck_X12_balesIn_0) (G := cg_X12_balesIn_0) (X := xxX12) (M := mX12_balesIn) (t := tX12_balesIn) (anns := ca_X12_balesIn_0) 13 xx12 pl12 rfl kX12_balesIn qq_ok cx_X12_balesIn_0 cc_X12_balesIn_0
def ck_X12_namesOfBale_0 : AK := (2, [.inr (.inl [67]), .inl (.ofNat 0, .ofNat 11)], [91], false, [([(.ofNat 0, .ofNat 11)], .inr (.inr 9), [])], [])
def cg_X12_namesOfBale_0 : List (Nat × AK) := [(359, ck_X12_balesIn_0)]
def ca_X12_namesOfBale_0 : List (Nat × AA) := []
set_option maxRecDepth 100000 in
theorem cc_X12_namesOfBale_0 : aChk QPl CF ck_X12_namesOfBale_0 cg_X12_namesOfBale_0 xxX12 mX12_namesOfBale tX12_namesOfBale ca_X12_namesOfBale_0 [] 1 = true := by decide +kernel
theorem cx_X12_namesOfBale_0 : ctsO QQ CF xxX12 cg_X12_namesOfBale_0 := ctsO_cons rfl ct_X12_balesIn_0 (ctsO_nil)
theorem ct_X12_namesOfBale_0 : ctrO QQ CF ck_X12_namesOfBale_0 mX12_namesOfBale := chk_ok (Q := QQ) (QP := QPl) (C := CF) (c := ck_X12_namesOfBale_0) (G := cg_X12_namesOfBale_0) (X := xxX12) (M := mX12_namesOfBale) (t := tX12_namesOfBale) (anns := ca_X12_namesOfBale_0) 1 xx12 pl12 rfl kX12_namesOfBale qq_ok cx_X12_namesOfBale_0 cc_X12_namesOfBale_0
def ck_X12_draw_0 : AK := (1, [.inr (.inl [67]), .inl (.ofNat 10, .ofNat 10)], [93], false, [([(.ofNat 10, .ofNat 10)], .inl (.negSucc 8, .ofNat 9), [(93, 68, (.negSucc 30311, .ofNat 30312)), (93, 64, (.ofNat 0, .ofNat 0))])], [(93, 68, fr), (93, 64, (.ofNat 0, .ofNat 0))])
def cg_X12_draw_0 : List (Nat × AK) := []
def ca_X12_draw_0 : List (Nat × AA) := []
set_option maxRecDepth 100000 in
theorem cc_X12_draw_0 : aChk QPl CF ck_X12_draw_0 cg_X12_draw_0 xxX12 mX12_draw tX12_draw ca_X12_draw_0 [] 1 = true := by decide +kernel
theorem cx_X12_draw_0 : ctsO QQ CF xxX12 cg_X12_draw_0 := ctsO_nil
theorem ct_X12_draw_0 : ctrO QQ CF ck_X12_draw_0 mX12_draw := chk_ok (Q := QQ) (QP := QPl) (C := CF) (c := ck_X12_draw_0) (G := cg_X12_draw_0) (X := xxX12) (M := mX12_draw) (t := tX12_draw) (anns := ca_X12_draw_0) 1 xx12 pl12 rfl kX12_draw qq_ok cx_X12_draw_0 cc_X12_draw_0
def ck_X12_growsOf_0 : AK := (9, [.inr (.inl [67]), .inl (.ofNat 0, .ofNat 7)], [91], false, [([(.ofNat 0, .ofNat 7)], .inl (.ofNat 0, .ofNat 100), [])], [])
set_option maxRecDepth 100000 in
set_option maxHeartbeats 1000000 in
theorem ct_X12_growsOf_0 : ctrO QQ CF ck_X12_growsOf_0 mX12_growsOf := by
  intro l d sh I J as Rp ha hce hs hi hq hR
  obtain ⟨x, rfl, hx⟩ := ag1i ha
  obtain ⟨ru, ta, rs, hru, hta, rfl⟩ := shX hs
  obtain ⟨t, rfl, t1, t2, _⟩ := nI_inI (a := 0) (b := 7) hx (by decide)
  have fin : ∀ (r : Int32) (I' : XI) (J' : XJ), ivO CF [] I' → frO [91] I I' → inI (0, 100) r.toInt → Rp (some (.int r)) (shH ru ta rs) I' J' := fun r I' J' b1 b2 b3 => hR _ _ I' J' hs (fun _ => rfl) b1 (qq_ok I I' (fun p hp => b2 p (qp91 p hp)) hq) b2 ⟨_, List.mem_cons_self, one_post ha ⟨r, rfl, b3⟩⟩
  show xm l (d + 8 + 1) 0 0 mX12_growsOf [.ref 67, .int (nI t)] (shH ru ta rs) I J Rp
  refine xm_ofK 3 (X := xxX12) (t := tX12_growsOf) (stop := []) (ini := false) xx12 pl12 rfl kX12_growsOf (fun h => by cases h) (Nat.le_of_ble_eq_true rfl) (fun K hK => ?_)
  refine hm_orders l (d + 7) 1 (by decide) ru ta rs I J _ hi hq (fun r hr => ?_)
  refine ct_X12_namesOfThing_0 l (d + 7) _ I J [.ref 67, .int (nI t)] _ ⟨List.mem_singleton.mpr rfl, hx, trivial⟩ (fun e he => by cases he) hs hi hq (fun v sh' I1 J1 a1 a2 a3 a4 a5 ⟨P, hP, hp⟩ => ?_)
  have e2 := a2 rfl
  subst e2
  have e3 := List.mem_singleton.mp hP
  subst e3
  have e4 : v = none := hp.2.1
  subst e4
  have hr1 : foO I1 r := foO_keep (a5 77 (by decide)) (a5 78 (by decide)) hr
  refine And.intro (fun hn => ?_) (fun _ => fin 10 I1 J1 a3 a5 ⟨by decide, by decide⟩)
  exact hm_says_fo l (d + 5) r hn ru ta rs I1 J1 _ hr1 (fun v J' => hm_held l (d + 7) v 0 100 (by decide) _ _ _ _ (fun q q1 q2 => fin q I1 J' a3 a5 ⟨q1, q2⟩))
def ck_X12_least_0 : AK := (1, [.inl (.ofNat 100, .ofNat 100), .inl fr], [], false, [([(.ofNat 100, .ofNat 100), (.ofNat 101, .ofNat 2147483647)], .inl (.ofNat 100, .ofNat 100), []), ([(.ofNat 100, .ofNat 100), (.negSucc 2147483647, .ofNat 100)], .inl (.negSucc 2147483647, .ofNat 100), [])], [])
def cg_X12_least_0 : List (Nat × AK) := []
def ca_X12_least_0 : List (Nat × AA) := []
set_option maxRecDepth 100000 in
theorem cc_X12_least_0 : aChk QPl CF ck_X12_least_0 cg_X12_least_0 xxX12 mX12_least tX12_least ca_X12_least_0 [] 1 = true := by decide +kernel
theorem cx_X12_least_0 : ctsO QQ CF xxX12 cg_X12_least_0 := ctsO_nil
theorem ct_X12_least_0 : ctrO QQ CF ck_X12_least_0 mX12_least := chk_ok (Q := QQ) (QP := QPl) (C := CF) (c := ck_X12_least_0) (G := cg_X12_least_0) (X := xxX12) (M := mX12_least) (t := tX12_least) (anns := ca_X12_least_0) 1 xx12 pl12 rfl kX12_least qq_ok cx_X12_least_0 cc_X12_least_0
def ck_X12_spoilsOf_0 : AK := (9, [.inr (.inl [67]), .inl (.ofNat 0, .ofNat 11)], [91], false, [([(.ofNat 0, .ofNat 11)], .inl (.ofNat 0, .ofNat 999), [])], [])
set_option maxRecDepth 100000 in
set_option maxHeartbeats 1000000 in
theorem ct_X12_spoilsOf_0 : ctrO QQ CF ck_X12_spoilsOf_0 mX12_spoilsOf := by
  intro l d sh I J as Rp ha hce hs hi hq hR
  obtain ⟨x, rfl, hx⟩ := ag1i ha
  obtain ⟨ru, ta, rs, hru, hta, rfl⟩ := shX hs
  obtain ⟨t, rfl, t1, t2, _⟩ := nI_inI (a := 0) (b := 11) hx (by decide)
  have fin : ∀ (r : Int32) (I' : XI) (J' : XJ), ivO CF [] I' → frO [91] I I' → inI (0, 999) r.toInt → Rp (some (.int r)) (shH ru ta rs) I' J' := fun r I' J' b1 b2 b3 => hR _ _ I' J' hs (fun _ => rfl) b1 (qq_ok I I' (fun p hp => b2 p (qp91 p hp)) hq) b2 ⟨_, List.mem_cons_self, one_post ha ⟨r, rfl, b3⟩⟩
  show xm l (d + 8 + 1) 0 0 mX12_spoilsOf [.ref 67, .int (nI t)] (shH ru ta rs) I J Rp
  refine xm_ofK 3 (X := xxX12) (t := tX12_spoilsOf) (stop := []) (ini := false) xx12 pl12 rfl kX12_spoilsOf (fun h => by cases h) (Nat.le_of_ble_eq_true rfl) (fun K hK => ?_)
  refine hm_orders l (d + 7) 2 (by decide) ru ta rs I J _ hi hq (fun r hr => ?_)
  refine ct_X12_namesOfBale_0 l (d + 6) _ I J [.ref 67, .int (nI t)] _ ⟨List.mem_singleton.mpr rfl, hx, trivial⟩ (fun e he => by cases he) hs hi hq (fun v sh' I1 J1 a1 a2 a3 a4 a5 ⟨P, hP, hp⟩ => ?_)
  have e2 := a2 rfl
  subst e2
  have e3 := List.mem_singleton.mp hP
  subst e3
  have e4 : v = none := hp.2.1
  subst e4
  have hr1 : foO I1 r := foO_keep (a5 77 (by decide)) (a5 78 (by decide)) hr
  refine And.intro (fun hn => ?_) (fun _ => fin 1 I1 J1 a3 a5 ⟨by decide, by decide⟩)
  exact hm_says_fo l (d + 5) r hn ru ta rs I1 J1 _ hr1 (fun v J' => hm_held l (d + 7) v 0 999 (by decide) _ _ _ _ (fun q q1 q2 => fin q I1 J' a3 a5 ⟨q1, q2⟩))
def ck_X12_least_1 : AK := (1, [.inl (.ofNat 99, .ofNat 99), .inl fr], [], false, [([(.ofNat 99, .ofNat 99), (.ofNat 100, .ofNat 2147483647)], .inl (.ofNat 99, .ofNat 99), []), ([(.ofNat 99, .ofNat 99), (.negSucc 2147483647, .ofNat 99)], .inl (.negSucc 2147483647, .ofNat 99), [])], [])
def cg_X12_least_1 : List (Nat × AK) := []
def ca_X12_least_1 : List (Nat × AA) := []
set_option maxRecDepth 100000 in
theorem cc_X12_least_1 : aChk QPl CF ck_X12_least_1 cg_X12_least_1 xxX12 mX12_least tX12_least ca_X12_least_1 [] 1 = true := by decide +kernel
theorem cx_X12_least_1 : ctsO QQ CF xxX12 cg_X12_least_1 := ctsO_nil
theorem ct_X12_least_1 : ctrO QQ CF ck_X12_least_1 mX12_least := chk_ok (Q := QQ) (QP := QPl) (C := CF) (c := ck_X12_least_1) (G := cg_X12_least_1) (X := xxX12) (M := mX12_least) (t := tX12_least) (anns := ca_X12_least_1) 1 xx12 pl12 rfl kX12_least qq_ok cx_X12_least_1 cc_X12_least_1
def ck_X12_shortens_0 : AK := (2, [.inr (.inl [67]), .inl (.ofNat 0, .ofNat 11), .inl (.ofNat 0, .ofNat 999)], [93], false, [([(.ofNat 0, .ofNat 11), (.ofNat 0, .ofNat 999)], .inr (.inr 9), [(93, 68, fr), (93, 64, (.ofNat 0, .ofNat 0))])], [(93, 68, fr), (93, 64, (.ofNat 0, .ofNat 0))])
set_option maxRecDepth 100000 in
set_option maxHeartbeats 1000000 in
theorem ct_X12_shortens_0 : ctrO QQ CF ck_X12_shortens_0 mX12_shortens := by
  intro l d sh I J as Rp ha hce hs hi hq hR
  obtain ⟨x, y, rfl, hx, hy⟩ := ag1ii ha
  obtain ⟨ru, ta, rs, hru, hta, rfl⟩ := shX hs
  obtain ⟨b, rfl, _, hb, _⟩ := nI_inI (a := 0) (b := 11) hx (by decide)
  have hL := lens_of hi
  have hy1 : 0 ≤ y.toInt := hy.1
  have hy2 : y.toInt ≤ 999 := hy.2
  have go : ∀ I2, lens I2 → outW I I2 → Rp none (shH ru ta rs) I2 J := by
    intro I2 h1 h2
    refine hR none _ I2 J hs (fun _ => rfl) (iv_out hi h1 h2) (qq_ok I I2 (fun p hp => h2.1 p (fun z => ?_)) hq) (fun p hp => h2.1 p (fun z => ?_)) ⟨_, List.mem_cons_self, fun i r z w1 w2 => agO_in ha w2 w1, rfl, fun e he => ?_⟩
    · subst z
      exact absurd hp (by decide)
    · subst z
      exact absurd hp (by decide)
    · rcases List.mem_cons.mp he with rfl | he
      · have y := hce _ List.mem_cons_self
        show inI _ (I2 93 68).toInt
        rw [h2.2 68 (by omega)]
        exact y
      · rw [List.mem_singleton.mp he]
        have y := hce _ (List.mem_cons_of_mem _ List.mem_cons_self)
        show inI _ (I2 93 64).toInt
        rw [h2.2 64 (by omega)]
        exact y
  exact hm_shortens l d b (by omega) y ru ta rs I J Rp (fun g => (fun u => go _ u.1 u.2) (sh_upd1 (by omega) hL hy1 hy2 g)) (fun g => (fun u => go _ u.1 u.2) (sh_upd2 (by omega) hL hy1 hy2 g))
def ck_X12_dayBegins_0 : AK := (10, [.inr (.inl [67])], [91, 93], false, [([], .inr (.inr 9), [(93, 68, fr), (93, 64, (.ofNat 0, .ofNat 0))])], [(93, 68, fr), (93, 64, fr)])
def cg_X12_dayBegins_0 : List (Nat × AK) := [(393, ck_X12_draw_0), (396, ck_X12_growsOf_0), (399, ck_X12_spoilsOf_0), (387, ck_X12_shortens_0), (378, ck_X12_least_0), (378, ck_X12_least_1)]
def ca_X12_dayBegins_0 : List (Nat × AA) := [(34, [(.ofNat 0, .ofNat 0), (.ofNat 0, .ofNat 8), (.negSucc 8, .ofNat 9), (.ofNat 0, .ofNat 0), (.negSucc 30311, .ofNat 30312)], [.inr (.inl [67]), .inl (1, .ofNat 0), .inr (.inr 0)], [], [(93, 66, 2, .ofNat 0), (93, 64, 3, .ofNat 0), (93, 68, 4, .ofNat 0)], [(0, 1, 0), (2, 93, 66), (2, 93, 64), (2, 93, 68)], (.ofNat 21, [.ofNat 0, .negSucc 0, .ofNat 0, .ofNat 0, .ofNat 0])), (91, [(.ofNat 0, .ofNat 0), (.ofNat 0, .ofNat 12), (.ofNat 0, .ofNat 8), (.ofNat 0, .ofNat 0), fr], [.inr (.inl [67]), .inl (1, .ofNat 0), .inr (.inr 0)], [], [(68, 0, 2, .ofNat 0), (93, 64, 3, .ofNat 0), (93, 68, 4, .ofNat 0)], [(0, 1, 0), (2, 68, 0), (2, 93, 64), (2, 93, 68)], (.ofNat 12, [.ofNat 0, .negSucc 0, .ofNat 0, .ofNat 0, .ofNat 0]))]
set_option maxRecDepth 100000 in
theorem cc_X12_dayBegins_0 : aChk QPl CF ck_X12_dayBegins_0 cg_X12_dayBegins_0 xxX12 mX12_dayBegins tX12_dayBegins ca_X12_dayBegins_0 [] 22 = true := by decide +kernel
theorem cx_X12_dayBegins_0 : ctsO QQ CF xxX12 cg_X12_dayBegins_0 := ctsO_cons rfl ct_X12_draw_0 (ctsO_cons rfl ct_X12_growsOf_0 (ctsO_cons rfl ct_X12_spoilsOf_0 (ctsO_cons rfl ct_X12_shortens_0 (ctsO_cons rfl ct_X12_least_0 (ctsO_cons rfl ct_X12_least_1 (ctsO_nil))))))
theorem ct_X12_dayBegins_0 : ctrO QQ CF ck_X12_dayBegins_0 mX12_dayBegins := chk_ok (Q := QQ) (QP := QPl) (C := CF) (c := ck_X12_dayBegins_0) (G := cg_X12_dayBegins_0) (X := xxX12) (M := mX12_dayBegins) (t := tX12_dayBegins) (anns := ca_X12_dayBegins_0) 22 xx12 pl12 rfl kX12_dayBegins qq_ok cx_X12_dayBegins_0 cc_X12_dayBegins_0
def ck_X12_hourPasses_0 : AK := (11, [.inr (.inl [67])], [91, 93], false, [([], .inr (.inr 9), [(93, 68, fr)])], [(93, 68, fr)])
def cg_X12_hourPasses_0 : List (Nat × AK) := [(402, ck_X12_dayBegins_0)]
def ca_X12_hourPasses_0 : List (Nat × AA) := [(13, [(.ofNat 0, .ofNat 0), (.ofNat 0, .ofNat 4)], [.inr (.inl [67]), .inl (1, .ofNat 0)], [], [], [(0, 1, 0)], (.ofNat 4, [.ofNat 0, .negSucc 0]))]
set_option maxRecDepth 100000 in
theorem cc_X12_hourPasses_0 : aChk QPl CF ck_X12_hourPasses_0 cg_X12_hourPasses_0 xxX12 mX12_hourPasses tX12_hourPasses ca_X12_hourPasses_0 [] 5 = true := by decide +kernel
theorem cx_X12_hourPasses_0 : ctsO QQ CF xxX12 cg_X12_hourPasses_0 := ctsO_cons rfl ct_X12_dayBegins_0 (ctsO_nil)
theorem ct_X12_hourPasses_0 : ctrO QQ CF ck_X12_hourPasses_0 mX12_hourPasses := chk_ok (Q := QQ) (QP := QPl) (C := CF) (c := ck_X12_hourPasses_0) (G := cg_X12_hourPasses_0) (X := xxX12) (M := mX12_hourPasses) (t := tX12_hourPasses) (anns := ca_X12_hourPasses_0) 5 xx12 pl12 rfl kX12_hourPasses qq_ok cx_X12_hourPasses_0 cc_X12_hourPasses_0
def ck_X12_canPass_0 : AK := (1, [.inr (.inl [67])], [], false, [([], .inl (.ofNat 1, .ofNat 1), []), ([], .inl (.ofNat 0, .ofNat 0), [])], [])
def cg_X12_canPass_0 : List (Nat × AK) := []
def ca_X12_canPass_0 : List (Nat × AA) := []
set_option maxRecDepth 100000 in
theorem cc_X12_canPass_0 : aChk QPl CF ck_X12_canPass_0 cg_X12_canPass_0 xxX12 mX12_canPass tX12_canPass ca_X12_canPass_0 [] 1 = true := by decide +kernel
theorem cx_X12_canPass_0 : ctsO QQ CF xxX12 cg_X12_canPass_0 := ctsO_nil
theorem ct_X12_canPass_0 : ctrO QQ CF ck_X12_canPass_0 mX12_canPass := chk_ok (Q := QQ) (QP := QPl) (C := CF) (c := ck_X12_canPass_0) (G := cg_X12_canPass_0) (X := xxX12) (M := mX12_canPass) (t := tX12_canPass) (anns := ca_X12_canPass_0) 1 xx12 pl12 rfl kX12_canPass qq_ok cx_X12_canPass_0 cc_X12_canPass_0
def ck_X12_laysNow_0 : AK := (1, [.inr (.inl [67])], [93], false, [([], .inr (.inr 9), [])], [])
def cg_X12_laysNow_0 : List (Nat × AK) := []
def ca_X12_laysNow_0_2 : Nat × AA := (2, [(.ofNat 0, .ofNat 0), (.ofNat 0, .ofNat 69)], [.inr (.inl [67]), .inl (1, .ofNat 0)], [], [], [(0, 1, 0)], (.ofNat 69, [.ofNat 0, .negSucc 0]))
def ca_X12_laysNow_0 : List (Nat × AA) := [ca_X12_laysNow_0_2]
set_option maxRecDepth 100000 in
theorem cc_X12_laysNow_0 : aChk QPl CF ck_X12_laysNow_0 cg_X12_laysNow_0 xxX12 mX12_laysNow tX12_laysNow ca_X12_laysNow_0 [2] 70 = true := by decide +kernel
theorem cx_X12_laysNow_0 : ctsO QQ CF xxX12 cg_X12_laysNow_0 := ctsO_nil
set_option maxRecDepth 100000 in
theorem ce_X12_laysNow_0_2 : ((List.range 70).all fun k => aN CF ck_X12_laysNow_0.2.2.1 ck_X12_laysNow_0.2.2.2.1 cg_X12_laysNow_0 (ck_X12_laysNow_0.1 - 1) ck_X12_laysNow_0.2.2.2.2.1 xxX12 mX12_laysNow.2.2.2 tX12_laysNow (ca_X12_laysNow_0.map fun q => q.1) (kkA CF ((aInts ck_X12_laysNow_0.2.1).length + 1) ca_X12_laysNow_0 (some ca_X12_laysNow_0_2.2.2.2.2.2.2)) 2 (enS ca_X12_laysNow_0_2.2 1 ((Int.ofNat 0 : Int) + (k : Int)))) = true := by decide +kernel
theorem seg_X12_laysNow_0 : ∀ q, q ∈ ca_X12_laysNow_0 → nmem q.1 [2] = true → ∀ (l : Launch) (d : Nat) (sh : List XO) (I : XI) (as : List Value) (Rp : XR), agO ck_X12_laysNow_0.2.1 as → (∀ I2, frO ck_X12_laysNow_0.2.2.1 I I2 → QQ I2) → outO QQ CF ck_X12_laysNow_0.2.2.1 ck_X12_laysNow_0.2.2.2.1 sh I ck_X12_laysNow_0.2.2.2.2.1 as Rp → segO CF ck_X12_laysNow_0.2.2.1 ck_X12_laysNow_0.2.2.2.1 sh I xxX12 mX12_laysNow.2.2.2 (!(Nat.beq 0 0)) sh.length 0 0 l (d + (ck_X12_laysNow_0.1 - 1)) tX12_laysNow (ca_X12_laysNow_0.map fun q => q.1) Rp as ca_X12_laysNow_0 (aInts ck_X12_laysNow_0.2.1).length q := by
  intro q hq hz l d sh0 I0 as Rp ha hQ hO
  simp only [ca_X12_laysNow_0, List.mem_cons, List.not_mem_nil, or_false] at hq
  rcases hq with rfl
  · exact seg_enum hQ cx_X12_laysNow_0 hO 1 69 (Int.ofNat 0 : Int) rfl (fun k hk => List.all_eq_true.mp ce_X12_laysNow_0_2 k (List.mem_range.mpr (by omega)))
theorem ct_X12_laysNow_0 : ctrO QQ CF ck_X12_laysNow_0 mX12_laysNow := chk_okS (Q := QQ) (QP := QPl) (C := CF) (c := ck_X12_laysNow_0) (G := cg_X12_laysNow_0) (X := xxX12) (M := mX12_laysNow) (t := tX12_laysNow) (anns := ca_X12_laysNow_0) [2] 70 xx12 pl12 rfl kX12_laysNow qq_ok cx_X12_laysNow_0 seg_X12_laysNow_0 cc_X12_laysNow_0
def ck_X12_in_0 : AK := (1, [.inl fr, .inl (.ofNat 0, .ofNat 0), .inl (.negSucc 0, .ofNat 3)], [], false, [([(.ofNat 0, .ofNat 3), (.ofNat 0, .ofNat 0), (.ofNat 0, .ofNat 3)], .inl (.ofNat 1, .ofNat 1), []), ([fr, (.ofNat 0, .ofNat 0), (.negSucc 0, .ofNat 3)], .inl (.ofNat 0, .ofNat 0), [])], [])
def cg_X12_in_0 : List (Nat × AK) := []
def ca_X12_in_0 : List (Nat × AA) := []
set_option maxRecDepth 100000 in
theorem cc_X12_in_0 : aChk QPl CF ck_X12_in_0 cg_X12_in_0 xxX12 mX12_in tX12_in ca_X12_in_0 [] 1 = true := by decide +kernel
theorem cx_X12_in_0 : ctsO QQ CF xxX12 cg_X12_in_0 := ctsO_nil
theorem ct_X12_in_0 : ctrO QQ CF ck_X12_in_0 mX12_in := chk_ok (Q := QQ) (QP := QPl) (C := CF) (c := ck_X12_in_0) (G := cg_X12_in_0) (X := xxX12) (M := mX12_in) (t := tX12_in) (anns := ca_X12_in_0) 1 xx12 pl12 rfl kX12_in qq_ok cx_X12_in_0 cc_X12_in_0
def ck_X12_isBarn_0 : AK := (2, [.inr (.inl [67]), .inl fr], [], false, [([(.ofNat 0, .ofNat 3)], .inl (.ofNat 1, .ofNat 1), []), ([fr], .inl (.ofNat 0, .ofNat 0), [])], [])
def cg_X12_isBarn_0 : List (Nat × AK) := [(116, ck_X12_in_0)]
def ca_X12_isBarn_0 : List (Nat × AA) := []
set_option maxRecDepth 100000 in
theorem cc_X12_isBarn_0 : aChk QPl CF ck_X12_isBarn_0 cg_X12_isBarn_0 xxX12 mX12_isBarn tX12_isBarn ca_X12_isBarn_0 [] 1 = true := by decide +kernel
theorem cx_X12_isBarn_0 : ctsO QQ CF xxX12 cg_X12_isBarn_0 := ctsO_cons rfl ct_X12_in_0 (ctsO_nil)
theorem ct_X12_isBarn_0 : ctrO QQ CF ck_X12_isBarn_0 mX12_isBarn := chk_ok (Q := QQ) (QP := QPl) (C := CF) (c := ck_X12_isBarn_0) (G := cg_X12_isBarn_0) (X := xxX12) (M := mX12_isBarn) (t := tX12_isBarn) (anns := ca_X12_isBarn_0) 1 xx12 pl12 rfl kX12_isBarn qq_ok cx_X12_isBarn_0 cc_X12_isBarn_0
def ck_X12_barnsBy_0 : AK := (1, [.inr (.inl [67]), .inl (.ofNat 0, .ofNat 6)], [], false, [([(.ofNat 0, .ofNat 6)], .inl fr, []), ([(.ofNat 0, .ofNat 6)], .inl (.negSucc 0, .negSucc 0), [])], [])
def cg_X12_barnsBy_0 : List (Nat × AK) := []
def ca_X12_barnsBy_0 : List (Nat × AA) := [(4, [(.ofNat 0, .ofNat 0), (.ofNat 0, .ofNat 6), fr, (.ofNat 0, .ofNat 4)], [.inr (.inl [67]), .inl (1, .ofNat 0), .inl (2, .ofNat 0), .inl (3, .ofNat 0), .inr (.inr 0), .inr (.inr 0), .inr (.inr 0), .inr (.inr 0)], [], [], [(0, 2, 0), (0, 3, 0)], (.ofNat 39, [.ofNat 0, .ofNat 0, .ofNat 0, .negSucc 7])), (23, [(.ofNat 0, .ofNat 0), (.ofNat 0, .ofNat 6), fr, (.ofNat 0, .ofNat 3), fr, fr, (.ofNat 0, .ofNat 6), (.ofNat 1, .ofNat 4)], [.inr (.inl [67]), .inl (1, .ofNat 0), .inl (2, .ofNat 0), .inl (3, .ofNat 0), .inl (4, .ofNat 0), .inl (5, .ofNat 0), .inl (6, .ofNat 0), .inr (.inr 0)], [], [(68, 2, 7, .ofNat 0)], [(0, 2, 0), (0, 3, 0), (0, 4, 0), (0, 5, 0), (0, 6, 0), (2, 68, 2)], (.ofNat 38, [.ofNat 0, .ofNat 0, .ofNat 0, .negSucc 7, .ofNat 0, .ofNat 0, .negSucc 0, .ofNat 0]))]
set_option maxRecDepth 100000 in
theorem cc_X12_barnsBy_0 : aChk QPl CF ck_X12_barnsBy_0 cg_X12_barnsBy_0 xxX12 mX12_barnsBy tX12_barnsBy ca_X12_barnsBy_0 [] 40 = true := by decide +kernel
theorem cx_X12_barnsBy_0 : ctsO QQ CF xxX12 cg_X12_barnsBy_0 := ctsO_nil
theorem ct_X12_barnsBy_0 : ctrO QQ CF ck_X12_barnsBy_0 mX12_barnsBy := chk_ok (Q := QQ) (QP := QPl) (C := CF) (c := ck_X12_barnsBy_0) (G := cg_X12_barnsBy_0) (X := xxX12) (M := mX12_barnsBy) (t := tX12_barnsBy) (anns := ca_X12_barnsBy_0) 40 xx12 pl12 rfl kX12_barnsBy qq_ok cx_X12_barnsBy_0 cc_X12_barnsBy_0
def ck_X12_in_1 : AK := (1, [.inl fr, .inl (.ofNat 0, .ofNat 0), .inl (.ofNat 11, .ofNat 11)], [], false, [([(.ofNat 0, .ofNat 11), (.ofNat 0, .ofNat 0), (.ofNat 11, .ofNat 11)], .inl (.ofNat 1, .ofNat 1), []), ([fr, (.ofNat 0, .ofNat 0), (.ofNat 11, .ofNat 11)], .inl (.ofNat 0, .ofNat 0), [])], [])
def cg_X12_in_1 : List (Nat × AK) := []
def ca_X12_in_1 : List (Nat × AA) := []
set_option maxRecDepth 100000 in
theorem cc_X12_in_1 : aChk QPl CF ck_X12_in_1 cg_X12_in_1 xxX12 mX12_in tX12_in ca_X12_in_1 [] 1 = true := by decide +kernel
theorem cx_X12_in_1 : ctsO QQ CF xxX12 cg_X12_in_1 := ctsO_nil
theorem ct_X12_in_1 : ctrO QQ CF ck_X12_in_1 mX12_in := chk_ok (Q := QQ) (QP := QPl) (C := CF) (c := ck_X12_in_1) (G := cg_X12_in_1) (X := xxX12) (M := mX12_in) (t := tX12_in) (anns := ca_X12_in_1) 1 xx12 pl12 rfl kX12_in qq_ok cx_X12_in_1 cc_X12_in_1
def ck_X12_isBale_0 : AK := (2, [.inr (.inl [67]), .inl fr], [], false, [([(.ofNat 0, .ofNat 11)], .inl (.ofNat 1, .ofNat 1), []), ([fr], .inl (.ofNat 0, .ofNat 0), [])], [])
def cg_X12_isBale_0 : List (Nat × AK) := [(116, ck_X12_in_1)]
def ca_X12_isBale_0 : List (Nat × AA) := []
set_option maxRecDepth 100000 in
theorem cc_X12_isBale_0 : aChk QPl CF ck_X12_isBale_0 cg_X12_isBale_0 xxX12 mX12_isBale tX12_isBale ca_X12_isBale_0 [] 1 = true := by decide +kernel
theorem cx_X12_isBale_0 : ctsO QQ CF xxX12 cg_X12_isBale_0 := ctsO_cons rfl ct_X12_in_1 (ctsO_nil)
theorem ct_X12_isBale_0 : ctrO QQ CF ck_X12_isBale_0 mX12_isBale := chk_ok (Q := QQ) (QP := QPl) (C := CF) (c := ck_X12_isBale_0) (G := cg_X12_isBale_0) (X := xxX12) (M := mX12_isBale) (t := tX12_isBale) (anns := ca_X12_isBale_0) 1 xx12 pl12 rfl kX12_isBale qq_ok cx_X12_isBale_0 cc_X12_isBale_0
def ck_X12_in_3 : AK := (1, [.inl fr, .inl (.ofNat 0, .ofNat 0), .inl (.ofNat 5, .ofNat 5)], [], false, [([(.ofNat 0, .ofNat 5), (.ofNat 0, .ofNat 0), (.ofNat 5, .ofNat 5)], .inl (.ofNat 1, .ofNat 1), []), ([fr, (.ofNat 0, .ofNat 0), (.ofNat 5, .ofNat 5)], .inl (.ofNat 0, .ofNat 0), [])], [])
def cg_X12_in_3 : List (Nat × AK) := []
def ca_X12_in_3 : List (Nat × AA) := []
set_option maxRecDepth 100000 in
theorem cc_X12_in_3 : aChk QPl CF ck_X12_in_3 cg_X12_in_3 xxX12 mX12_in tX12_in ca_X12_in_3 [] 1 = true := by decide +kernel
theorem cx_X12_in_3 : ctsO QQ CF xxX12 cg_X12_in_3 := ctsO_nil
theorem ct_X12_in_3 : ctrO QQ CF ck_X12_in_3 mX12_in := chk_ok (Q := QQ) (QP := QPl) (C := CF) (c := ck_X12_in_3) (G := cg_X12_in_3) (X := xxX12) (M := mX12_in) (t := tX12_in) (anns := ca_X12_in_3) 1 xx12 pl12 rfl kX12_in qq_ok cx_X12_in_3 cc_X12_in_3
def ck_X12_in_5 : AK := (1, [.inl fr, .inl (.ofNat 1, .ofNat 1), .inl (.ofNat 999, .ofNat 999)], [], false, [([(.ofNat 1, .ofNat 999), (.ofNat 1, .ofNat 1), (.ofNat 999, .ofNat 999)], .inl (.ofNat 1, .ofNat 1), []), ([fr, (.ofNat 1, .ofNat 1), (.ofNat 999, .ofNat 999)], .inl (.ofNat 0, .ofNat 0), [])], [])
def cg_X12_in_5 : List (Nat × AK) := []
def ca_X12_in_5 : List (Nat × AA) := []
set_option maxRecDepth 100000 in
theorem cc_X12_in_5 : aChk QPl CF ck_X12_in_5 cg_X12_in_5 xxX12 mX12_in tX12_in ca_X12_in_5 [] 1 = true := by decide +kernel
theorem cx_X12_in_5 : ctsO QQ CF xxX12 cg_X12_in_5 := ctsO_nil
theorem ct_X12_in_5 : ctrO QQ CF ck_X12_in_5 mX12_in := chk_ok (Q := QQ) (QP := QPl) (C := CF) (c := ck_X12_in_5) (G := cg_X12_in_5) (X := xxX12) (M := mX12_in) (t := tX12_in) (anns := ca_X12_in_5) 1 xx12 pl12 rfl kX12_in qq_ok cx_X12_in_5 cc_X12_in_5
def ck_X12_in_7 : AK := (1, [.inl fr, .inl (.ofNat 1, .ofNat 1), .inl (.ofNat 60, .ofNat 60)], [], false, [([(.ofNat 1, .ofNat 60), (.ofNat 1, .ofNat 1), (.ofNat 60, .ofNat 60)], .inl (.ofNat 1, .ofNat 1), []), ([fr, (.ofNat 1, .ofNat 1), (.ofNat 60, .ofNat 60)], .inl (.ofNat 0, .ofNat 0), [])], [])
def cg_X12_in_7 : List (Nat × AK) := []
def ca_X12_in_7 : List (Nat × AA) := []
set_option maxRecDepth 100000 in
theorem cc_X12_in_7 : aChk QPl CF ck_X12_in_7 cg_X12_in_7 xxX12 mX12_in tX12_in ca_X12_in_7 [] 1 = true := by decide +kernel
theorem cx_X12_in_7 : ctsO QQ CF xxX12 cg_X12_in_7 := ctsO_nil
theorem ct_X12_in_7 : ctrO QQ CF ck_X12_in_7 mX12_in := chk_ok (Q := QQ) (QP := QPl) (C := CF) (c := ck_X12_in_7) (G := cg_X12_in_7) (X := xxX12) (M := mX12_in) (t := tX12_in) (anns := ca_X12_in_7) 1 xx12 pl12 rfl kX12_in qq_ok cx_X12_in_7 cc_X12_in_7
def ck_X12_in_8 : AK := (1, [.inl fr, .inl (.ofNat 0, .ofNat 0), .inl (.negSucc 0, .ofNat 7)], [], false, [([(.ofNat 0, .ofNat 7), (.ofNat 0, .ofNat 0), (.ofNat 0, .ofNat 7)], .inl (.ofNat 1, .ofNat 1), []), ([fr, (.ofNat 0, .ofNat 0), (.negSucc 0, .ofNat 7)], .inl (.ofNat 0, .ofNat 0), [])], [])
def cg_X12_in_8 : List (Nat × AK) := []
def ca_X12_in_8 : List (Nat × AA) := []
set_option maxRecDepth 100000 in
theorem cc_X12_in_8 : aChk QPl CF ck_X12_in_8 cg_X12_in_8 xxX12 mX12_in tX12_in ca_X12_in_8 [] 1 = true := by decide +kernel
theorem cx_X12_in_8 : ctsO QQ CF xxX12 cg_X12_in_8 := ctsO_nil
theorem ct_X12_in_8 : ctrO QQ CF ck_X12_in_8 mX12_in := chk_ok (Q := QQ) (QP := QPl) (C := CF) (c := ck_X12_in_8) (G := cg_X12_in_8) (X := xxX12) (M := mX12_in) (t := tX12_in) (anns := ca_X12_in_8) 1 xx12 pl12 rfl kX12_in qq_ok cx_X12_in_8 cc_X12_in_8
def ck_X12_isThing_0 : AK := (2, [.inr (.inl [67]), .inl fr], [], false, [([(.ofNat 0, .ofNat 7)], .inl (.ofNat 1, .ofNat 1), []), ([fr], .inl (.ofNat 0, .ofNat 0), [])], [])
def cg_X12_isThing_0 : List (Nat × AK) := [(116, ck_X12_in_8)]
def ca_X12_isThing_0 : List (Nat × AA) := []
set_option maxRecDepth 100000 in
theorem cc_X12_isThing_0 : aChk QPl CF ck_X12_isThing_0 cg_X12_isThing_0 xxX12 mX12_isThing tX12_isThing ca_X12_isThing_0 [] 1 = true := by decide +kernel
theorem cx_X12_isThing_0 : ctsO QQ CF xxX12 cg_X12_isThing_0 := ctsO_cons rfl ct_X12_in_8 (ctsO_nil)
theorem ct_X12_isThing_0 : ctrO QQ CF ck_X12_isThing_0 mX12_isThing := chk_ok (Q := QQ) (QP := QPl) (C := CF) (c := ck_X12_isThing_0) (G := cg_X12_isThing_0) (X := xxX12) (M := mX12_isThing) (t := tX12_isThing) (anns := ca_X12_isThing_0) 1 xx12 pl12 rfl kX12_isThing qq_ok cx_X12_isThing_0 cc_X12_isThing_0
def ck_X12_isReaper_0 : AK := (2, [.inr (.inl [67]), .inl fr], [], false, [([(.ofNat 0, .ofNat 3)], .inl (.ofNat 1, .ofNat 1), []), ([fr], .inl (.ofNat 0, .ofNat 0), [])], [])
def cg_X12_isReaper_0 : List (Nat × AK) := [(116, ck_X12_in_0)]
def ca_X12_isReaper_0 : List (Nat × AA) := []
set_option maxRecDepth 100000 in
theorem cc_X12_isReaper_0 : aChk QPl CF ck_X12_isReaper_0 cg_X12_isReaper_0 xxX12 mX12_isReaper tX12_isReaper ca_X12_isReaper_0 [] 1 = true := by decide +kernel
theorem cx_X12_isReaper_0 : ctsO QQ CF xxX12 cg_X12_isReaper_0 := ctsO_cons rfl ct_X12_in_0 (ctsO_nil)
theorem ct_X12_isReaper_0 : ctrO QQ CF ck_X12_isReaper_0 mX12_isReaper := chk_ok (Q := QQ) (QP := QPl) (C := CF) (c := ck_X12_isReaper_0) (G := cg_X12_isReaper_0) (X := xxX12) (M := mX12_isReaper) (t := tX12_isReaper) (anns := ca_X12_isReaper_0) 1 xx12 pl12 rfl kX12_isReaper qq_ok cx_X12_isReaper_0 cc_X12_isReaper_0
def ck_X12_longOf_0 : AK := (9, [.inr (.inl [67]), .inl (.ofNat 0, .ofNat 7)], [91], false, [([(.ofNat 0, .ofNat 7)], .inl (.ofNat 0, .ofNat 999), [])], [])
set_option maxRecDepth 100000 in
set_option maxHeartbeats 1000000 in
theorem ct_X12_longOf_0 : ctrO QQ CF ck_X12_longOf_0 mX12_longOf := by
  intro l d sh I J as Rp ha hce hs hi hq hR
  obtain ⟨x, rfl, hx⟩ := ag1i ha
  obtain ⟨ru, ta, rs, hru, hta, rfl⟩ := shX hs
  obtain ⟨t, rfl, t1, t2, _⟩ := nI_inI (a := 0) (b := 7) hx (by decide)
  have fin : ∀ (r : Int32) (I' : XI) (J' : XJ), ivO CF [] I' → frO [91] I I' → inI (0, 999) r.toInt → Rp (some (.int r)) (shH ru ta rs) I' J' := fun r I' J' b1 b2 b3 => hR _ _ I' J' hs (fun _ => rfl) b1 (qq_ok I I' (fun p hp => b2 p (qp91 p hp)) hq) b2 ⟨_, List.mem_cons_self, one_post ha ⟨r, rfl, b3⟩⟩
  show xm l (d + 8 + 1) 0 0 mX12_longOf [.ref 67, .int (nI t)] (shH ru ta rs) I J Rp
  refine xm_ofK 3 (X := xxX12) (t := tX12_longOf) (stop := [43, 84]) (ini := false) xx12 pl12 rfl kX12_longOf (fun h => by cases h) (Nat.le_of_ble_eq_true rfl) (fun K hK => ?_)
  refine hm_orders l (d + 7) 0 (by decide) ru ta rs I J _ hi hq (fun r hr => ?_)
  refine ct_X12_namesOfThing_0 l (d + 7) _ I J [.ref 67, .int (nI t)] _ ⟨List.mem_singleton.mpr rfl, hx, trivial⟩ (fun e he => by cases he) hs hi hq (fun v sh' I1 J1 a1 a2 a3 a4 a5 ⟨P, hP, hp⟩ => ?_)
  have e2 := a2 rfl
  subst e2
  have e3 := List.mem_singleton.mp hP
  subst e3
  have e4 : v = none := hp.2.1
  subst e4
  have hr1 : foO I1 r := foO_keep (a5 77 (by decide)) (a5 78 (by decide)) hr
  have h84 : ∀ (v : Int64) (J' : XJ) (a : Value), xrun xxX12 (some .int) false false (shH ru ta rs).length 0 0 none l (d + 8) tX12_longOf [43, 84] Rp 2 84 [some (.ref 67), some (.int (nI t)), some (.int r), some a] [.long v] (shH ru ta rs) I1 J' 0 0 := by
    intro v J' a
    refine xrun_step fun K hK => ?_
    exact hm_held l (d + 7) v 0 999 (by decide) _ _ _ _ (fun q q1 q2 => fin q I1 J' a3 a5 ⟨q1, q2⟩)
  have h43 : ∀ (a : Int32), xrun xxX12 (some .int) false false (shH ru ta rs).length 0 0 none l (d + 8) tX12_longOf [43, 84] Rp 3 43 [some (.ref 67), some (.int (nI t)), some (.int r), none] [.int a] (shH ru ta rs) I1 J1 0 0 := by
    intro a
    refine xrun_step fun K hK => ?_
    refine And.intro (fun hn => ?_) (fun _ => ?_)
    · exact hm_says_fo l (d + 5) r hn ru ta rs I1 J1 _ hr1 (fun v J' => hK 84 _ _ _ _ _ _ _ (h84 v J' (.int a)))
    · refine And.intro (vp_k (N := 2200) (nI_add 10 t) (by omega) (by omega)) ?_
      refine And.intro (vp_k (N := 69) (nI_add 0 t) (by omega) (by omega)) ?_
      refine And.intro (show ¬ ((200 : Int32) = 0) by decide) ?_
      exact hK 84 _ _ _ _ _ _ _ (h84 _ J1 (.int a))
  refine And.intro (vp_b (by decide)) ?_
  refine And.intro (fun _ => ?_) (fun _ => ?_)
  · refine And.intro (vp_b (by decide)) ?_
    exact hK 43 _ _ _ _ _ _ _ (h43 _)
  · refine And.intro (vp_b (by decide)) ?_
    exact hK 43 _ _ _ _ _ _ _ (h43 _)
def ck_X12_freeBale_0 : AK := (1, [.inr (.inl [67])], [], false, [([], .inl (.ofNat 0, .ofNat 11), []), ([], .inl (.negSucc 0, .negSucc 0), [])], [])
def cg_X12_freeBale_0 : List (Nat × AK) := []
def ca_X12_freeBale_0 : List (Nat × AA) := [(2, [(.ofNat 0, .ofNat 0), (.ofNat 0, .ofNat 12)], [.inr (.inl [67]), .inl (1, .ofNat 0)], [], [], [(0, 1, 0)], (.ofNat 12, [.ofNat 0, .negSucc 0]))]
set_option maxRecDepth 100000 in
theorem cc_X12_freeBale_0 : aChk QPl CF ck_X12_freeBale_0 cg_X12_freeBale_0 xxX12 mX12_freeBale tX12_freeBale ca_X12_freeBale_0 [] 13 = true := by decide +kernel
theorem cx_X12_freeBale_0 : ctsO QQ CF xxX12 cg_X12_freeBale_0 := ctsO_nil
theorem ct_X12_freeBale_0 : ctrO QQ CF ck_X12_freeBale_0 mX12_freeBale := chk_ok (Q := QQ) (QP := QPl) (C := CF) (c := ck_X12_freeBale_0) (G := cg_X12_freeBale_0) (X := xxX12) (M := mX12_freeBale) (t := tX12_freeBale) (anns := ca_X12_freeBale_0) 13 xx12 pl12 rfl kX12_freeBale qq_ok cx_X12_freeBale_0 cc_X12_freeBale_0
def ck_X12_least_2 : AK := (1, [.inl (.ofNat 0, .ofNat 999), .inl (.ofNat 0, .ofNat 999)], [], false, [([(.ofNat 0, .ofNat 999), (.ofNat 0, .ofNat 999)], .inl (.ofNat 0, .ofNat 999), [])], [])
def cg_X12_least_2 : List (Nat × AK) := []
def ca_X12_least_2 : List (Nat × AA) := []
set_option maxRecDepth 100000 in
theorem cc_X12_least_2 : aChk QPl CF ck_X12_least_2 cg_X12_least_2 xxX12 mX12_least tX12_least ca_X12_least_2 [] 1 = true := by decide +kernel
theorem cx_X12_least_2 : ctsO QQ CF xxX12 cg_X12_least_2 := ctsO_nil
theorem ct_X12_least_2 : ctrO QQ CF ck_X12_least_2 mX12_least := chk_ok (Q := QQ) (QP := QPl) (C := CF) (c := ck_X12_least_2) (G := cg_X12_least_2) (X := xxX12) (M := mX12_least) (t := tX12_least) (anns := ca_X12_least_2) 1 xx12 pl12 rfl kX12_least qq_ok cx_X12_least_2 cc_X12_least_2
def ck_X12_mayCut_0 : AK := (9, [.inr (.inl [67]), .inl (.ofNat 0, .ofNat 7), .inl fr], [91], false, [([(.ofNat 0, .ofNat 7), fr], .inl (.ofNat 0, .ofNat 1), [])], [])
set_option maxRecDepth 100000 in
set_option maxHeartbeats 1000000 in
theorem ct_X12_mayCut_0 : ctrO QQ CF ck_X12_mayCut_0 mX12_mayCut := by
  intro l d sh I J as Rp ha hce hs hi hq hR
  obtain ⟨x, u, rfl, hx, _⟩ := ag1ii ha
  obtain ⟨ru, ta, rs, hru, hta, rfl⟩ := shX hs
  obtain ⟨t, rfl, t1, t2, _⟩ := nI_inI (a := 0) (b := 7) hx (by decide)
  have fin : ∀ (r : Int32) (I' : XI) (J' : XJ), ivO CF [] I' → frO [91] I I' → inI (0, 1) r.toInt → Rp (some (.int r)) (shH ru ta rs) I' J' := fun r I' J' b1 b2 b3 => hR _ _ I' J' hs (fun _ => rfl) b1 (qq_ok I I' (fun p hp => b2 p (qp91 p hp)) hq) b2 ⟨_, List.mem_cons_self, one_post ha ⟨r, rfl, b3⟩⟩
  show xm l (d + 8 + 1) 0 0 mX12_mayCut [.ref 67, .int (nI t), .int u] (shH ru ta rs) I J Rp
  refine xm_ofK 3 (X := xxX12) (t := tX12_mayCut) (stop := []) (ini := false) xx12 pl12 rfl kX12_mayCut (fun h => by cases h) (Nat.le_of_ble_eq_true rfl) (fun K hK => ?_)
  refine hm_orders l (d + 7) 4 (by decide) ru ta rs I J _ hi hq (fun r hr => ?_)
  refine ct_X12_namesOfThing_0 l (d + 7) _ I J [.ref 67, .int (nI t)] _ ⟨List.mem_singleton.mpr rfl, hx, trivial⟩ (fun e he => by cases he) hs hi hq (fun v sh' I1 J1 a1 a2 a3 a4 a5 ⟨P, hP, hp⟩ => ?_)
  have e2 := a2 rfl
  subst e2
  have e3 := List.mem_singleton.mp hP
  subst e3
  have e4 : v = none := hp.2.1
  subst e4
  have hr1 : foO I1 r := foO_keep (a5 77 (by decide)) (a5 78 (by decide)) hr
  refine And.intro (vp_k (N := 2200) (nI_add 26 t) (by omega) (by omega)) ?_
  refine And.intro (vp_b (by decide)) ?_
  refine And.intro (vp_b (by decide)) ?_
  have b3 : ∀ v w : Int32, ivO CF [] (uI (uI I1 91 9 v) 91 10 w) := by
    intro v w p k _
    by_cases hp : p = 91
    · subst hp
      exact noCell_ok (by decide +kernel) _
    · rw [uI_ne hp, uI_ne hp]
      exact a3 p k rfl
  have b5 : ∀ v w : Int32, frO [91] I (uI (uI I1 91 9 v) 91 10 w) := by
    intro v w p hp
    have hne : p ≠ 91 := fun z => by subst z; exact absurd hp (by decide)
    rw [uI_ne hne, uI_ne hne]
    exact a5 p hp
  refine And.intro (fun _ => ?_) (fun hn => ?_)
  · exact And.intro (Or.inr rfl) (fin 1 _ J1 (b3 _ _) (b5 _ _) ⟨by decide, by decide⟩)
  · refine hm_says_fo l (d + 5) r hn ru ta rs _ J1 _ (foO_keep (uI_ne (by decide)) (uI_ne (by decide)) (foO_keep (uI_ne (by decide)) (uI_ne (by decide)) hr1)) (fun v J' => ?_)
    refine And.intro (fun _ => ?_) (fun _ => ?_)
    · exact And.intro (Or.inl rfl) (fin 0 _ J' (b3 _ _) (b5 _ _) ⟨by decide, by decide⟩)
    · exact And.intro (Or.inr rfl) (fin 1 _ J' (b3 _ _) (b5 _ _) ⟨by decide, by decide⟩)
def ck_X12_feetIn_0 : AK := (1, [.inr (.inl [67]), .inl fr], [], false, [([fr], .inl fr, [])], [])
def cg_X12_feetIn_0 : List (Nat × AK) := []
def ca_X12_feetIn_0 : List (Nat × AA) := [(4, [(.ofNat 0, .ofNat 0), fr, fr, (.ofNat 0, .ofNat 12)], [.inr (.inl [67]), .inl (1, .ofNat 0), .inl (2, .ofNat 0), .inl (3, .ofNat 0)], [], [], [(0, 2, 0), (0, 3, 0)], (.ofNat 12, [.ofNat 0, .ofNat 0, .ofNat 0, .negSucc 0]))]
set_option maxRecDepth 100000 in
theorem cc_X12_feetIn_0 : aChk QPl CF ck_X12_feetIn_0 cg_X12_feetIn_0 xxX12 mX12_feetIn tX12_feetIn ca_X12_feetIn_0 [] 13 = true := by decide +kernel
theorem cx_X12_feetIn_0 : ctsO QQ CF xxX12 cg_X12_feetIn_0 := ctsO_nil
theorem ct_X12_feetIn_0 : ctrO QQ CF ck_X12_feetIn_0 mX12_feetIn := chk_ok (Q := QQ) (QP := QPl) (C := CF) (c := ck_X12_feetIn_0) (G := cg_X12_feetIn_0) (X := xxX12) (M := mX12_feetIn) (t := tX12_feetIn) (anns := ca_X12_feetIn_0) 13 xx12 pl12 rfl kX12_feetIn qq_ok cx_X12_feetIn_0 cc_X12_feetIn_0
def ck_X12_isRoom_0 : AK := (2, [.inr (.inl [67]), .inl (.ofNat 0, .ofNat 3), .inl (.ofNat 0, .ofNat 999)], [], false, [([(.ofNat 0, .ofNat 3), (.ofNat 0, .ofNat 999)], .inl (.ofNat 1, .ofNat 1), []), ([(.ofNat 0, .ofNat 3), (.ofNat 0, .ofNat 999)], .inl (.ofNat 0, .ofNat 0), [])], [])
def cg_X12_isRoom_0 : List (Nat × AK) := [(369, ck_X12_feetIn_0)]
def ca_X12_isRoom_0 : List (Nat × AA) := []
set_option maxRecDepth 100000 in
theorem cc_X12_isRoom_0 : aChk QPl CF ck_X12_isRoom_0 cg_X12_isRoom_0 xxX12 mX12_isRoom tX12_isRoom ca_X12_isRoom_0 [] 1 = true := by decide +kernel
theorem cx_X12_isRoom_0 : ctsO QQ CF xxX12 cg_X12_isRoom_0 := ctsO_cons rfl ct_X12_feetIn_0 (ctsO_nil)
theorem ct_X12_isRoom_0 : ctrO QQ CF ck_X12_isRoom_0 mX12_isRoom := chk_ok (Q := QQ) (QP := QPl) (C := CF) (c := ck_X12_isRoom_0) (G := cg_X12_isRoom_0) (X := xxX12) (M := mX12_isRoom) (t := tX12_isRoom) (anns := ca_X12_isRoom_0) 1 xx12 pl12 rfl kX12_isRoom qq_ok cx_X12_isRoom_0 cc_X12_isRoom_0
def ck_X12_bales_0 : AK := (1, [.inr (.inl [67]), .inl (.ofNat 0, .ofNat 11), .inl fr, .inl (.ofNat 0, .ofNat 999), .inl fr], [93], false, [([(.ofNat 0, .ofNat 11), fr, (.ofNat 0, .ofNat 999), fr], .inr (.inr 9), [(93, 68, fr), (93, 64, fr)])], [(93, 68, fr), (93, 64, fr)])
def cg_X12_bales_0 : List (Nat × AK) := []
def ca_X12_bales_0 : List (Nat × AA) := []
set_option maxRecDepth 100000 in
theorem cc_X12_bales_0 : aChk QPl CF ck_X12_bales_0 cg_X12_bales_0 xxX12 mX12_bales tX12_bales ca_X12_bales_0 [] 1 = true := by decide +kernel
theorem cx_X12_bales_0 : ctsO QQ CF xxX12 cg_X12_bales_0 := ctsO_nil
theorem ct_X12_bales_0 : ctrO QQ CF ck_X12_bales_0 mX12_bales := chk_ok (Q := QQ) (QP := QPl) (C := CF) (c := ck_X12_bales_0) (G := cg_X12_bales_0) (X := xxX12) (M := mX12_bales) (t := tX12_bales) (anns := ca_X12_bales_0) 1 xx12 pl12 rfl kX12_bales qq_ok cx_X12_bales_0 cc_X12_bales_0
def ck_X12_cutsNow_0 : AK := (10, [.inr (.inl [67]), .inl (.ofNat 0, .ofNat 7), .inl (.ofNat 0, .ofNat 3), .inl (.ofNat 0, .ofNat 3)], [91, 93], false, [([(.ofNat 0, .ofNat 7), (.ofNat 0, .ofNat 3), (.ofNat 0, .ofNat 3)], .inl (.negSucc 0, .negSucc 0), [(93, 68, fr)]), ([(.ofNat 0, .ofNat 7), (.ofNat 0, .ofNat 3), (.ofNat 0, .ofNat 3)], .inl (.ofNat 0, .ofNat 11), [(93, 68, fr)])], [(93, 68, fr)])
def cg_X12_cutsNow_0 : List (Nat × AK) := [(372, ck_X12_longOf_0), (375, ck_X12_freeBale_0), (378, ck_X12_least_2), (381, ck_X12_mayCut_0), (384, ck_X12_isRoom_0), (365, ck_X12_bales_0)]
def ca_X12_cutsNow_0_1 : Nat × AA := (1, [(.ofNat 0, .ofNat 0), (.ofNat 0, .ofNat 7), (.ofNat 0, .ofNat 3), (.ofNat 0, .ofNat 3)], [.inr (.inl [67]), .inl (1, .ofNat 0), .inl (2, .ofNat 0), .inl (3, .ofNat 0), .inr (.inr 0), .inr (.inr 0), .inr (.inr 0)], [.inr (.inl [67])], [], [], (.ofNat 0, [.ofNat 0, .ofNat 0, .ofNat 0, .ofNat 0]))
def ca_X12_cutsNow_0 : List (Nat × AA) := [ca_X12_cutsNow_0_1]
set_option maxRecDepth 100000 in
theorem cc_X12_cutsNow_0 : aChk QPl CF ck_X12_cutsNow_0 cg_X12_cutsNow_0 xxX12 mX12_cutsNow tX12_cutsNow ca_X12_cutsNow_0 [1] 1 = true := by decide +kernel
theorem cx_X12_cutsNow_0 : ctsO QQ CF xxX12 cg_X12_cutsNow_0 := ctsO_cons rfl ct_X12_longOf_0 (ctsO_cons rfl ct_X12_freeBale_0 (ctsO_cons rfl ct_X12_least_2 (ctsO_cons rfl ct_X12_mayCut_0 (ctsO_cons rfl ct_X12_isRoom_0 (ctsO_cons rfl ct_X12_bales_0 (ctsO_nil))))))
set_option maxRecDepth 100000 in
theorem ce_X12_cutsNow_0_1 : ((List.range 4).all fun k => aN CF ck_X12_cutsNow_0.2.2.1 ck_X12_cutsNow_0.2.2.2.1 cg_X12_cutsNow_0 (ck_X12_cutsNow_0.1 - 1) ck_X12_cutsNow_0.2.2.2.2.1 xxX12 mX12_cutsNow.2.2.2 tX12_cutsNow (ca_X12_cutsNow_0.map fun q => q.1) (kkA CF ((aInts ck_X12_cutsNow_0.2.1).length + 1) ca_X12_cutsNow_0 (some ca_X12_cutsNow_0_1.2.2.2.2.2.2)) 1 (enS ca_X12_cutsNow_0_1.2 2 ((Int.ofNat 0 : Int) + (k : Int)))) = true := by decide +kernel
theorem seg_X12_cutsNow_0 : ∀ q, q ∈ ca_X12_cutsNow_0 → nmem q.1 [1] = true → ∀ (l : Launch) (d : Nat) (sh : List XO) (I : XI) (as : List Value) (Rp : XR), agO ck_X12_cutsNow_0.2.1 as → (∀ I2, frO ck_X12_cutsNow_0.2.2.1 I I2 → QQ I2) → outO QQ CF ck_X12_cutsNow_0.2.2.1 ck_X12_cutsNow_0.2.2.2.1 sh I ck_X12_cutsNow_0.2.2.2.2.1 as Rp → segO CF ck_X12_cutsNow_0.2.2.1 ck_X12_cutsNow_0.2.2.2.1 sh I xxX12 mX12_cutsNow.2.2.2 (!(Nat.beq 0 0)) sh.length 0 0 l (d + (ck_X12_cutsNow_0.1 - 1)) tX12_cutsNow (ca_X12_cutsNow_0.map fun q => q.1) Rp as ca_X12_cutsNow_0 (aInts ck_X12_cutsNow_0.2.1).length q := by
  intro q hq hz l d sh0 I0 as Rp ha hQ hO
  simp only [ca_X12_cutsNow_0, List.mem_cons, List.not_mem_nil, or_false] at hq
  rcases hq with rfl
  · exact seg_enum hQ cx_X12_cutsNow_0 hO 2 3 (Int.ofNat 0 : Int) rfl (fun k hk => List.all_eq_true.mp ce_X12_cutsNow_0_1 k (List.mem_range.mpr (by omega)))
theorem ct_X12_cutsNow_0 : ctrO QQ CF ck_X12_cutsNow_0 mX12_cutsNow := chk_okS (Q := QQ) (QP := QPl) (C := CF) (c := ck_X12_cutsNow_0) (G := cg_X12_cutsNow_0) (X := xxX12) (M := mX12_cutsNow) (t := tX12_cutsNow) (anns := ca_X12_cutsNow_0) [1] 1 xx12 pl12 rfl kX12_cutsNow qq_ok cx_X12_cutsNow_0 seg_X12_cutsNow_0 cc_X12_cutsNow_0
def ck_X12_sellsOf_0 : AK := (9, [.inr (.inl [67]), .inl (.ofNat 0, .ofNat 11)], [91], false, [([(.ofNat 0, .ofNat 11)], .inl (.ofNat 0, .ofNat 9999), [])], [])
set_option maxRecDepth 100000 in
set_option maxHeartbeats 1000000 in
theorem ct_X12_sellsOf_0 : ctrO QQ CF ck_X12_sellsOf_0 mX12_sellsOf := by
  intro l d sh I J as Rp ha hce hs hi hq hR
  obtain ⟨x, rfl, hx⟩ := ag1i ha
  obtain ⟨ru, ta, rs, hru, hta, rfl⟩ := shX hs
  obtain ⟨t, rfl, t1, t2, _⟩ := nI_inI (a := 0) (b := 11) hx (by decide)
  have fin : ∀ (r : Int32) (I' : XI) (J' : XJ), ivO CF [] I' → frO [91] I I' → inI (0, 9999) r.toInt → Rp (some (.int r)) (shH ru ta rs) I' J' := fun r I' J' b1 b2 b3 => hR _ _ I' J' hs (fun _ => rfl) b1 (qq_ok I I' (fun p hp => b2 p (qp91 p hp)) hq) b2 ⟨_, List.mem_cons_self, one_post ha ⟨r, rfl, b3⟩⟩
  show xm l (d + 8 + 1) 0 0 mX12_sellsOf [.ref 67, .int (nI t)] (shH ru ta rs) I J Rp
  refine xm_ofK 2 (X := xxX12) (t := tX12_sellsOf) (stop := [34]) (ini := false) xx12 pl12 rfl kX12_sellsOf (fun h => by cases h) (Nat.le_of_ble_eq_true rfl) (fun K hK => ?_)
  refine hm_orders l (d + 7) 3 (by decide) ru ta rs I J _ hi hq (fun r hr => ?_)
  refine ct_X12_namesOfBale_0 l (d + 6) _ I J [.ref 67, .int (nI t)] _ ⟨List.mem_singleton.mpr rfl, hx, trivial⟩ (fun e he => by cases he) hs hi hq (fun v sh' I1 J1 a1 a2 a3 a4 a5 ⟨P, hP, hp⟩ => ?_)
  have e2 := a2 rfl
  subst e2
  have e3 := List.mem_singleton.mp hP
  subst e3
  have e4 : v = none := hp.2.1
  subst e4
  have hr1 : foO I1 r := foO_keep (a5 77 (by decide)) (a5 78 (by decide)) hr
  have h34 : ∀ (v : Int64) (J' : XJ), xrun xxX12 (some .int) false false (shH ru ta rs).length 0 0 none l (d + 8) tX12_sellsOf [34] Rp 2 34 [some (.ref 67), some (.int (nI t)), some (.int r)] [.long v] (shH ru ta rs) I1 J' 0 0 := by
    intro v J'
    refine xrun_step fun K hK => ?_
    exact hm_held l (d + 7) v 0 9999 (by decide) _ _ _ _ (fun q q1 q2 => fin q I1 J' a3 a5 ⟨q1, q2⟩)
  refine And.intro (fun hn => ?_) (fun _ => ?_)
  · exact hm_says_fo l (d + 5) r hn ru ta rs I1 J1 _ hr1 (fun v J' => hK 34 _ _ _ _ _ _ _ (h34 v J'))
  · refine And.intro (vp_k (N := 69) (nI_add 28 t) (by omega) (by omega)) ?_
    exact hK 34 _ _ _ _ _ _ _ (h34 _ J1)
def ck_X12_in_9 : AK := (1, [.inl fr, .inl (.ofNat 0, .ofNat 0), .inl (.ofNat 9999, .ofNat 9999)], [], false, [([(.ofNat 0, .ofNat 9999), (.ofNat 0, .ofNat 0), (.ofNat 9999, .ofNat 9999)], .inl (.ofNat 1, .ofNat 1), []), ([fr, (.ofNat 0, .ofNat 0), (.ofNat 9999, .ofNat 9999)], .inl (.ofNat 0, .ofNat 0), [])], [])
def cg_X12_in_9 : List (Nat × AK) := []
def ca_X12_in_9 : List (Nat × AA) := []
set_option maxRecDepth 100000 in
theorem cc_X12_in_9 : aChk QPl CF ck_X12_in_9 cg_X12_in_9 xxX12 mX12_in tX12_in ca_X12_in_9 [] 1 = true := by decide +kernel
theorem cx_X12_in_9 : ctsO QQ CF xxX12 cg_X12_in_9 := ctsO_nil
theorem ct_X12_in_9 : ctrO QQ CF ck_X12_in_9 mX12_in := chk_ok (Q := QQ) (QP := QPl) (C := CF) (c := ck_X12_in_9) (G := cg_X12_in_9) (X := xxX12) (M := mX12_in) (t := tX12_in) (anns := ca_X12_in_9) 1 xx12 pl12 rfl kX12_in qq_ok cx_X12_in_9 cc_X12_in_9
def ck_X12_in_12 : AK := (1, [.inl fr, .inl (.ofNat 0, .ofNat 0), .inl (.ofNat 1, .ofNat 1)], [], false, [([(.ofNat 0, .ofNat 1), (.ofNat 0, .ofNat 0), (.ofNat 1, .ofNat 1)], .inl (.ofNat 1, .ofNat 1), []), ([fr, (.ofNat 0, .ofNat 0), (.ofNat 1, .ofNat 1)], .inl (.ofNat 0, .ofNat 0), [])], [])
def cg_X12_in_12 : List (Nat × AK) := []
def ca_X12_in_12 : List (Nat × AA) := []
set_option maxRecDepth 100000 in
theorem cc_X12_in_12 : aChk QPl CF ck_X12_in_12 cg_X12_in_12 xxX12 mX12_in tX12_in ca_X12_in_12 [] 1 = true := by decide +kernel
theorem cx_X12_in_12 : ctsO QQ CF xxX12 cg_X12_in_12 := ctsO_nil
theorem ct_X12_in_12 : ctrO QQ CF ck_X12_in_12 mX12_in := chk_ok (Q := QQ) (QP := QPl) (C := CF) (c := ck_X12_in_12) (G := cg_X12_in_12) (X := xxX12) (M := mX12_in) (t := tX12_in) (anns := ca_X12_in_12) 1 xx12 pl12 rfl kX12_in qq_ok cx_X12_in_12 cc_X12_in_12
def ck_X12_passesThrough_1 : AK := (12, [.inr (.inl [67]), .inl fr], [91, 93], false, [([fr], .inr (.inr 9), [(93, 68, fr)])], [(93, 68, fr)])
def cg_X12_passesThrough_1 : List (Nat × AK) := [(417, ck_X12_canPass_0), (411, ck_X12_hourPasses_0)]
def ca_X12_passesThrough_1 : List (Nat × AA) := [(2, [(.ofNat 0, .ofNat 0), fr, (.ofNat 0, .ofNat 2147483647)], [.inr (.inl [67]), .inl (1, .ofNat 0), .inl (2, .ofNat 0)], [], [], [(0, 2, 0)], (.ofNat 2147483647, [.ofNat 0, .ofNat 0, .negSucc 0]))]
set_option maxRecDepth 100000 in
theorem cc_X12_passesThrough_1 : aChk QPl CF ck_X12_passesThrough_1 cg_X12_passesThrough_1 xxX12 mX12_passesThrough tX12_passesThrough ca_X12_passesThrough_1 [] 2147483648 = true := by decide +kernel
theorem cx_X12_passesThrough_1 : ctsO QQ CF xxX12 cg_X12_passesThrough_1 := ctsO_cons rfl ct_X12_canPass_0 (ctsO_cons rfl ct_X12_hourPasses_0 (ctsO_nil))
theorem ct_X12_passesThrough_1 : ctrO QQ CF ck_X12_passesThrough_1 mX12_passesThrough := chk_ok (Q := QQ) (QP := QPl) (C := CF) (c := ck_X12_passesThrough_1) (G := cg_X12_passesThrough_1) (X := xxX12) (M := mX12_passesThrough) (t := tX12_passesThrough) (anns := ca_X12_passesThrough_1) 2147483648 xx12 pl12 rfl kX12_passesThrough qq_ok cx_X12_passesThrough_1 cc_X12_passesThrough_1
def ck_X12_foretold_0 : AK := (13, [.inr (.inl [67]), .inl fr, .inl fr], [91, 93], false, [([(.ofNat 1, .ofNat 60), (.ofNat 0, .ofNat 7)], .inl fr, []), ([fr, fr], .inl (.negSucc 0, .negSucc 0), [])], [])
def cg_X12_foretold_0 : List (Nat × AK) := [(116, ck_X12_in_7), (421, ck_X12_isThing_0), (408, ck_X12_laysNow_0), (442, ck_X12_passesThrough_1)]
def ca_X12_foretold_0 : List (Nat × AA) := []
set_option maxRecDepth 100000 in
theorem cc_X12_foretold_0 : aChk QPl CF ck_X12_foretold_0 cg_X12_foretold_0 xxX12 mX12_foretold tX12_foretold ca_X12_foretold_0 [] 1 = true := by decide +kernel
theorem cx_X12_foretold_0 : ctsO QQ CF xxX12 cg_X12_foretold_0 := ctsO_cons rfl ct_X12_in_7 (ctsO_cons rfl ct_X12_isThing_0 (ctsO_cons rfl ct_X12_laysNow_0 (ctsO_cons rfl ct_X12_passesThrough_1 (ctsO_nil))))
theorem ct_X12_foretold_0 : ctrO QQ CF ck_X12_foretold_0 mX12_foretold := chk_ok (Q := QQ) (QP := QPl) (C := CF) (c := ck_X12_foretold_0) (G := cg_X12_foretold_0) (X := xxX12) (M := mX12_foretold) (t := tX12_foretold) (anns := ca_X12_foretold_0) 1 xx12 pl12 rfl kX12_foretold qq_ok cx_X12_foretold_0 cc_X12_foretold_0
def ck_X12_stored_0 : AK := (13, [.inr (.inl [67]), .inl fr, .inl fr], [91, 93], false, [([(.ofNat 1, .ofNat 60), (.ofNat 0, .ofNat 3)], .inl fr, []), ([fr, fr], .inl (.negSucc 0, .negSucc 0), [])], [])
def cg_X12_stored_0 : List (Nat × AK) := [(116, ck_X12_in_7), (427, ck_X12_isBarn_0), (408, ck_X12_laysNow_0), (442, ck_X12_passesThrough_1), (369, ck_X12_feetIn_0)]
def ca_X12_stored_0 : List (Nat × AA) := []
set_option maxRecDepth 100000 in
theorem cc_X12_stored_0 : aChk QPl CF ck_X12_stored_0 cg_X12_stored_0 xxX12 mX12_stored tX12_stored ca_X12_stored_0 [] 1 = true := by decide +kernel
theorem cx_X12_stored_0 : ctsO QQ CF xxX12 cg_X12_stored_0 := ctsO_cons rfl ct_X12_in_7 (ctsO_cons rfl ct_X12_isBarn_0 (ctsO_cons rfl ct_X12_laysNow_0 (ctsO_cons rfl ct_X12_passesThrough_1 (ctsO_cons rfl ct_X12_feetIn_0 (ctsO_nil)))))
theorem ct_X12_stored_0 : ctrO QQ CF ck_X12_stored_0 mX12_stored := chk_ok (Q := QQ) (QP := QPl) (C := CF) (c := ck_X12_stored_0) (G := cg_X12_stored_0) (X := xxX12) (M := mX12_stored) (t := tX12_stored) (anns := ca_X12_stored_0) 1 xx12 pl12 rfl kX12_stored qq_ok cx_X12_stored_0 cc_X12_stored_0
def ck_X12_in_13 : AK := (1, [.inl fr, .inl (.ofNat 1, .ofNat 1), .inl (.ofNat 4, .ofNat 4)], [], false, [([(.ofNat 1, .ofNat 4), (.ofNat 1, .ofNat 1), (.ofNat 4, .ofNat 4)], .inl (.ofNat 1, .ofNat 1), []), ([fr, (.ofNat 1, .ofNat 1), (.ofNat 4, .ofNat 4)], .inl (.ofNat 0, .ofNat 0), [])], [])
def cg_X12_in_13 : List (Nat × AK) := []
def ca_X12_in_13 : List (Nat × AA) := []
set_option maxRecDepth 100000 in
theorem cc_X12_in_13 : aChk QPl CF ck_X12_in_13 cg_X12_in_13 xxX12 mX12_in tX12_in ca_X12_in_13 [] 1 = true := by decide +kernel
theorem cx_X12_in_13 : ctsO QQ CF xxX12 cg_X12_in_13 := ctsO_nil
theorem ct_X12_in_13 : ctrO QQ CF ck_X12_in_13 mX12_in := chk_ok (Q := QQ) (QP := QPl) (C := CF) (c := ck_X12_in_13) (G := cg_X12_in_13) (X := xxX12) (M := mX12_in) (t := tX12_in) (anns := ca_X12_in_13) 1 xx12 pl12 rfl kX12_in qq_ok cx_X12_in_13 cc_X12_in_13
def ck_X12_in_14 : AK := (1, [.inl fr, .inl (.negSucc 0, .negSucc 0), .inl (.ofNat 0, .ofNat 3)], [], false, [([(.negSucc 0, .ofNat 3), (.negSucc 0, .negSucc 0), (.ofNat 0, .ofNat 3)], .inl (.ofNat 1, .ofNat 1), []), ([fr, (.negSucc 0, .negSucc 0), (.ofNat 0, .ofNat 3)], .inl (.ofNat 0, .ofNat 0), [])], [])
def cg_X12_in_14 : List (Nat × AK) := []
def ca_X12_in_14 : List (Nat × AA) := []
set_option maxRecDepth 100000 in
theorem cc_X12_in_14 : aChk QPl CF ck_X12_in_14 cg_X12_in_14 xxX12 mX12_in tX12_in ca_X12_in_14 [] 1 = true := by decide +kernel
theorem cx_X12_in_14 : ctsO QQ CF xxX12 cg_X12_in_14 := ctsO_nil
theorem ct_X12_in_14 : ctrO QQ CF ck_X12_in_14 mX12_in := chk_ok (Q := QQ) (QP := QPl) (C := CF) (c := ck_X12_in_14) (G := cg_X12_in_14) (X := xxX12) (M := mX12_in) (t := tX12_in) (anns := ca_X12_in_14) 1 xx12 pl12 rfl kX12_in qq_ok cx_X12_in_14 cc_X12_in_14
def ck_X12_broughtBy_2 : AK := (13, [.inr (.inl [67]), .inl (.ofNat 0, .ofNat 3), .inl (.ofNat 0, .ofNat 3), .inl (.ofNat 1, .ofNat 4)], [91, 93], false, [([(.ofNat 0, .ofNat 3), (.ofNat 0, .ofNat 3), (.ofNat 1, .ofNat 4)], .inl (.ofNat 0, .ofNat 0), []), ([(.ofNat 0, .ofNat 3), (.ofNat 0, .ofNat 3), (.ofNat 1, .ofNat 4)], .inl fr, [])], [])
def cg_X12_broughtBy_2 : List (Nat × AK) := [(408, ck_X12_laysNow_0), (442, ck_X12_passesThrough_1), (430, ck_X12_cutsNow_0)]
def ca_X12_broughtBy_2 : List (Nat × AA) := []
set_option maxRecDepth 100000 in
theorem cc_X12_broughtBy_2 : aChk QPl CF ck_X12_broughtBy_2 cg_X12_broughtBy_2 xxX12 mX12_broughtBy tX12_broughtBy ca_X12_broughtBy_2 [] 1 = true := by decide +kernel
theorem cx_X12_broughtBy_2 : ctsO QQ CF xxX12 cg_X12_broughtBy_2 := ctsO_cons rfl ct_X12_laysNow_0 (ctsO_cons rfl ct_X12_passesThrough_1 (ctsO_cons rfl ct_X12_cutsNow_0 (ctsO_nil)))
theorem ct_X12_broughtBy_2 : ctrO QQ CF ck_X12_broughtBy_2 mX12_broughtBy := chk_ok (Q := QQ) (QP := QPl) (C := CF) (c := ck_X12_broughtBy_2) (G := cg_X12_broughtBy_2) (X := xxX12) (M := mX12_broughtBy) (t := tX12_broughtBy) (anns := ca_X12_broughtBy_2) 1 xx12 pl12 rfl kX12_broughtBy qq_ok cx_X12_broughtBy_2 cc_X12_broughtBy_2
def ck_X12_laysCuts_36 : AK := (1, [.inr (.inl [67]), .inl (.ofNat 0, .ofNat 2147483646), .inl (.ofNat 1, .ofNat 4)], [94], false, [([(.ofNat 0, .ofNat 2147483646), (.ofNat 1, .ofNat 4)], .inr (.inr 9), [])], [])
def cg_X12_laysCuts_36 : List (Nat × AK) := []
def ca_X12_laysCuts_36 : List (Nat × AA) := [(7, [(.ofNat 0, .ofNat 0), (.ofNat 0, .ofNat 2147483646), (.ofNat 1, .ofNat 4), (.negSucc 0, .ofNat 3), (.ofNat 0, .ofNat 2147483646)], [.inr (.inl [67]), .inl (1, .ofNat 0), .inl (2, .ofNat 0), .inl (4, .ofNat 0), .inl (3, .ofNat 0)], [], [], [(0, 4, 0), (0, 3, 0)], (.ofNat 1, [.ofNat 0, .ofNat 0, .ofNat 0, .ofNat 1, .ofNat 0]))]
set_option maxRecDepth 100000 in
theorem cc_X12_laysCuts_36 : aChk QPl CF ck_X12_laysCuts_36 cg_X12_laysCuts_36 xxX12 mX12_laysCuts tX12_laysCuts ca_X12_laysCuts_36 [] 5 = true := by decide +kernel
theorem cx_X12_laysCuts_36 : ctsO QQ CF xxX12 cg_X12_laysCuts_36 := ctsO_nil
theorem ct_X12_laysCuts_36 : ctrO QQ CF ck_X12_laysCuts_36 mX12_laysCuts := chk_ok (Q := QQ) (QP := QPl) (C := CF) (c := ck_X12_laysCuts_36) (G := cg_X12_laysCuts_36) (X := xxX12) (M := mX12_laysCuts) (t := tX12_laysCuts) (anns := ca_X12_laysCuts_36) 5 xx12 pl12 rfl kX12_laysCuts qq_ok cx_X12_laysCuts_36 cc_X12_laysCuts_36
def ck_X12_most_0 : AK := (14, [.inr (.inl [67]), .inl fr, .inl fr, .inl fr, .inl fr], [91, 93, 94, 95], false, [([fr, fr, fr, fr], .inl (.negSucc 0, .negSucc 0), []), ([(.ofNat 0, .ofNat 3), (.ofNat 0, .ofNat 3), (.ofNat 1, .ofNat 4), (.negSucc 0, .ofNat 3)], .inl fr, []), ([(.ofNat 0, .ofNat 3), (.ofNat 0, .ofNat 3), (.ofNat 1, .ofNat 4), (.ofNat 0, .ofNat 3)], .inl (.ofNat 8, .ofNat 8), [])], [])
def cg_X12_most_0 : List (Nat × AK) := [(424, ck_X12_isReaper_0), (427, ck_X12_isBarn_0), (116, ck_X12_in_13), (116, ck_X12_in_14), (478, ck_X12_laysCuts_36), (481, ck_X12_broughtBy_2)]
def ca_X12_most_0 : List (Nat × AA) := [(45, [(.ofNat 0, .ofNat 0), (.ofNat 0, .ofNat 3), (.ofNat 0, .ofNat 3), (.ofNat 1, .ofNat 4), (.negSucc 0, .ofNat 3), fr, (.ofNat 0, .ofNat 4)], [.inr (.inl [67]), .inl (1, .ofNat 0), .inl (2, .ofNat 0), .inl (3, .ofNat 0), .inl (4, .ofNat 0), .inl (5, .ofNat 0), .inl (6, .ofNat 0), .inr (.inr 0), .inr (.inr 0), .inr (.inr 0)], [], [], [(0, 5, 0), (0, 6, 0)], (.ofNat 12884901892, [.ofNat 0, .ofNat 0, .ofNat 0, .ofNat 0, .ofNat 0, .ofNat 0, .negSucc 0])), (76, [(.ofNat 0, .ofNat 0), (.ofNat 0, .ofNat 3), (.ofNat 0, .ofNat 3), (.ofNat 1, .ofNat 4), (.negSucc 0, .ofNat 3), fr, (.negSucc 0, .ofNat 2147483647), (.ofNat 0, .ofNat 2147483647)], [.inr (.inl [67]), .inl (1, .ofNat 0), .inl (2, .ofNat 0), .inl (3, .ofNat 0), .inl (4, .ofNat 0), .inl (5, .ofNat 0), .inl (6, .ofNat 0), .inl (7, .ofNat 0), .inr (.inr 0), .inr (.inr 0)], [], [], [(0, 5, 0), (0, 6, 0), (0, 7, 0)], (.ofNat 12884901887, [.ofNat 0, .ofNat 0, .ofNat 0, .ofNat 0, .ofNat 0, .ofNat 0, .ofNat 0, .negSucc 5])), (113, [(.ofNat 0, .ofNat 0), (.ofNat 0, .ofNat 3), (.ofNat 0, .ofNat 3), (.ofNat 1, .ofNat 4), (.negSucc 0, .ofNat 3), (.ofNat 1, .ofNat 2147483647), (.ofNat 0, .ofNat 2147483647), (.ofNat 0, .ofNat 2147483646), (.ofNat 0, .ofNat 2147483647), (.ofNat 0, .ofNat 4)], [.inr (.inl [67]), .inl (1, .ofNat 0), .inl (2, .ofNat 0), .inl (3, .ofNat 0), .inl (4, .ofNat 0), .inl (5, .ofNat 0), .inl (6, .ofNat 0), .inl (7, .ofNat 0), .inl (8, .ofNat 0), .inl (9, .ofNat 0)], [], [], [(0, 5, 0), (0, 6, 0), (0, 7, 0), (0, 8, 0), (0, 9, 0)], (.ofNat 12884901886, [.ofNat 0, .ofNat 0, .ofNat 0, .ofNat 0, .ofNat 0, .ofNat 0, .ofNat 0, .negSucc 5, .ofNat 0, .negSucc 0]))]
set_option maxRecDepth 100000 in
theorem cc_X12_most_0 : aChk QPl CF ck_X12_most_0 cg_X12_most_0 xxX12 mX12_most tX12_most ca_X12_most_0 [] 12884901893 = true := by decide +kernel
theorem cx_X12_most_0 : ctsO QQ CF xxX12 cg_X12_most_0 := ctsO_cons rfl ct_X12_isReaper_0 (ctsO_cons rfl ct_X12_isBarn_0 (ctsO_cons rfl ct_X12_in_13 (ctsO_cons rfl ct_X12_in_14 (ctsO_cons rfl ct_X12_laysCuts_36 (ctsO_cons rfl ct_X12_broughtBy_2 (ctsO_nil))))))
theorem ct_X12_most_0 : ctrO QQ CF ck_X12_most_0 mX12_most := chk_ok (Q := QQ) (QP := QPl) (C := CF) (c := ck_X12_most_0) (G := cg_X12_most_0) (X := xxX12) (M := mX12_most) (t := tX12_most) (anns := ca_X12_most_0) 12884901893 xx12 pl12 rfl kX12_most qq_ok cx_X12_most_0 cc_X12_most_0
def ck_X12_in_15 : AK := (1, [.inl fr, .inl (.ofNat 0, .ofNat 0), .inl (.ofNat 999, .ofNat 999)], [], false, [([(.ofNat 0, .ofNat 999), (.ofNat 0, .ofNat 0), (.ofNat 999, .ofNat 999)], .inl (.ofNat 1, .ofNat 1), []), ([fr, (.ofNat 0, .ofNat 0), (.ofNat 999, .ofNat 999)], .inl (.ofNat 0, .ofNat 0), [])], [])
def cg_X12_in_15 : List (Nat × AK) := []
def ca_X12_in_15 : List (Nat × AA) := []
set_option maxRecDepth 100000 in
theorem cc_X12_in_15 : aChk QPl CF ck_X12_in_15 cg_X12_in_15 xxX12 mX12_in tX12_in ca_X12_in_15 [] 1 = true := by decide +kernel
theorem cx_X12_in_15 : ctsO QQ CF xxX12 cg_X12_in_15 := ctsO_nil
theorem ct_X12_in_15 : ctrO QQ CF ck_X12_in_15 mX12_in := chk_ok (Q := QQ) (QP := QPl) (C := CF) (c := ck_X12_in_15) (G := cg_X12_in_15) (X := xxX12) (M := mX12_in) (t := tX12_in) (anns := ca_X12_in_15) 1 xx12 pl12 rfl kX12_in qq_ok cx_X12_in_15 cc_X12_in_15
def ck_X12_in_16 : AK := (1, [.inl fr, .inl (.ofNat 1, .ofNat 1), .inl (.ofNat 9999, .ofNat 9999)], [], false, [([(.ofNat 1, .ofNat 9999), (.ofNat 1, .ofNat 1), (.ofNat 9999, .ofNat 9999)], .inl (.ofNat 1, .ofNat 1), []), ([fr, (.ofNat 1, .ofNat 1), (.ofNat 9999, .ofNat 9999)], .inl (.ofNat 0, .ofNat 0), [])], [])
def cg_X12_in_16 : List (Nat × AK) := []
def ca_X12_in_16 : List (Nat × AA) := []
set_option maxRecDepth 100000 in
theorem cc_X12_in_16 : aChk QPl CF ck_X12_in_16 cg_X12_in_16 xxX12 mX12_in tX12_in ca_X12_in_16 [] 1 = true := by decide +kernel
theorem cx_X12_in_16 : ctsO QQ CF xxX12 cg_X12_in_16 := ctsO_nil
theorem ct_X12_in_16 : ctrO QQ CF ck_X12_in_16 mX12_in := chk_ok (Q := QQ) (QP := QPl) (C := CF) (c := ck_X12_in_16) (G := cg_X12_in_16) (X := xxX12) (M := mX12_in) (t := tX12_in) (anns := ca_X12_in_16) 1 xx12 pl12 rfl kX12_in qq_ok cx_X12_in_16 cc_X12_in_16
def ck_X12_in_17 : AK := (1, [.inl fr, .inl (.ofNat 0, .ofNat 0), .inl (.ofNat 60, .ofNat 60)], [], false, [([(.ofNat 0, .ofNat 60), (.ofNat 0, .ofNat 0), (.ofNat 60, .ofNat 60)], .inl (.ofNat 1, .ofNat 1), []), ([fr, (.ofNat 0, .ofNat 0), (.ofNat 60, .ofNat 60)], .inl (.ofNat 0, .ofNat 0), [])], [])
def cg_X12_in_17 : List (Nat × AK) := []
def ca_X12_in_17 : List (Nat × AA) := []
set_option maxRecDepth 100000 in
theorem cc_X12_in_17 : aChk QPl CF ck_X12_in_17 cg_X12_in_17 xxX12 mX12_in tX12_in ca_X12_in_17 [] 1 = true := by decide +kernel
theorem cx_X12_in_17 : ctsO QQ CF xxX12 cg_X12_in_17 := ctsO_nil
theorem ct_X12_in_17 : ctrO QQ CF ck_X12_in_17 mX12_in := chk_ok (Q := QQ) (QP := QPl) (C := CF) (c := ck_X12_in_17) (G := cg_X12_in_17) (X := xxX12) (M := mX12_in) (t := tX12_in) (anns := ca_X12_in_17) 1 xx12 pl12 rfl kX12_in qq_ok cx_X12_in_17 cc_X12_in_17
def ck_X12_has_0 : AK := (1, [.inl fr, .inl fr], [], false, [([fr, fr], .inl (.ofNat 1, .ofNat 1), []), ([fr, fr], .inl (.ofNat 0, .ofNat 0), [])], [])
def cg_X12_has_0 : List (Nat × AK) := []
def ca_X12_has_0 : List (Nat × AA) := []
set_option maxRecDepth 100000 in
theorem cc_X12_has_0 : aChk QPl CF ck_X12_has_0 cg_X12_has_0 xxX12 mX12_has tX12_has ca_X12_has_0 [] 1 = true := by decide +kernel
theorem cx_X12_has_0 : ctsO QQ CF xxX12 cg_X12_has_0 := ctsO_nil
theorem ct_X12_has_0 : ctrO QQ CF ck_X12_has_0 mX12_has := chk_ok (Q := QQ) (QP := QPl) (C := CF) (c := ck_X12_has_0) (G := cg_X12_has_0) (X := xxX12) (M := mX12_has) (t := tX12_has) (anns := ca_X12_has_0) 1 xx12 pl12 rfl kX12_has qq_ok cx_X12_has_0 cc_X12_has_0
def ck_X12_many_0 : AK := (1, [.inl (.ofNat 0, .ofNat 2147483647)], [], false, [([(.ofNat 0, .ofNat 2147483647)], .inl fr, [])], [])
set_option maxRecDepth 100000 in
set_option maxHeartbeats 1000000 in
theorem ct_X12_many_0 : ctrO QQ CF ck_X12_many_0 mX12_many := by
  intro l d sh I J as Rp ha hce hs hi hq hR
  obtain ⟨x, rfl, hx⟩ := agi ha
  obtain ⟨N, rfl, _, _, hN⟩ := nI_inI (a := 0) (b := 2147483647) hx (by decide)
  exact hm_many l d N hN sh I J Rp (fun r => hR _ sh I J hs (fun _ => rfl) hi hq (fun _ _ => rfl) ⟨_, List.mem_cons_self, one_post ha ⟨r, rfl, inI_fr _⟩⟩)
def ck_X12_enough_0 : AK := (13, [.inr (.inl [67]), .inl fr, .inl fr], [91, 93], false, [([fr, fr], .inl (.negSucc 0, .negSucc 0), []), ([(.ofNat 1, .ofNat 9999), (.ofNat 0, .ofNat 60)], .inl (.negSucc 0, .ofNat 4095), [])], [])
def cg_X12_enough_0 : List (Nat × AK) := [(116, ck_X12_in_16), (116, ck_X12_in_17), (408, ck_X12_laysNow_0), (442, ck_X12_passesThrough_1), (490, ck_X12_has_0), (493, ck_X12_many_0)]
def ca_X12_enough_0 : List (Nat × AA) := [(39, [(.ofNat 0, .ofNat 0), (.ofNat 1, .ofNat 9999), (.ofNat 0, .ofNat 60), (.negSucc 0, .ofNat 4095), (.negSucc 0, .ofNat 4095)], [.inr (.inl [67]), .inl (1, .ofNat 0), .inl (2, .ofNat 0), .inl (3, .ofNat 0), .inl (4, .ofNat 0), .inr (.inr 0), .inr (.inr 0), .inr (.inr 0)], [], [], [(0, 3, 0), (0, 4, 0)], (.ofNat 27, [.ofNat 0, .ofNat 0, .ofNat 0, .ofNat 0, .ofNat 14])), (53, [(.ofNat 0, .ofNat 0), (.ofNat 1, .ofNat 9999), (.ofNat 0, .ofNat 60), (.negSucc 0, .ofNat 4095), (.ofNat 0, .ofNat 4095), fr, (.ofNat 0, .ofNat 1), (.ofNat 0, .ofNat 12)], [.inr (.inl [67]), .inl (1, .ofNat 0), .inl (2, .ofNat 0), .inl (3, .ofNat 0), .inl (4, .ofNat 0), .inl (5, .ofNat 0), .inl (6, .ofNat 0), .inl (7, .ofNat 0)], [], [], [(0, 3, 0), (0, 4, 0), (0, 5, 0), (0, 6, 0), (0, 7, 0)], (.ofNat 26, [.ofNat 0, .ofNat 0, .ofNat 0, .ofNat 0, .ofNat 14, .ofNat 0, .ofNat 0, .negSucc 0]))]
set_option maxRecDepth 100000 in
theorem cc_X12_enough_0 : aChk QPl CF ck_X12_enough_0 cg_X12_enough_0 xxX12 mX12_enough tX12_enough ca_X12_enough_0 [] 57358 = true := by decide +kernel
theorem cx_X12_enough_0 : ctsO QQ CF xxX12 cg_X12_enough_0 := ctsO_cons rfl ct_X12_in_16 (ctsO_cons rfl ct_X12_in_17 (ctsO_cons rfl ct_X12_laysNow_0 (ctsO_cons rfl ct_X12_passesThrough_1 (ctsO_cons rfl ct_X12_has_0 (ctsO_cons rfl ct_X12_many_0 (ctsO_nil))))))
theorem ct_X12_enough_0 : ctrO QQ CF ck_X12_enough_0 mX12_enough := chk_ok (Q := QQ) (QP := QPl) (C := CF) (c := ck_X12_enough_0) (G := cg_X12_enough_0) (X := xxX12) (M := mX12_enough) (t := tX12_enough) (anns := ca_X12_enough_0) 57358 xx12 pl12 rfl kX12_enough qq_ok cx_X12_enough_0 cc_X12_enough_0
def ck_X12_in_18 : AK := (1, [.inl fr, .inl (.ofNat 1, .ofNat 1), .inl (.ofNat 8, .ofNat 8)], [], false, [([(.ofNat 1, .ofNat 8), (.ofNat 1, .ofNat 1), (.ofNat 8, .ofNat 8)], .inl (.ofNat 1, .ofNat 1), []), ([fr, (.ofNat 1, .ofNat 1), (.ofNat 8, .ofNat 8)], .inl (.ofNat 0, .ofNat 0), [])], [])
def cg_X12_in_18 : List (Nat × AK) := []
def ca_X12_in_18 : List (Nat × AA) := []
set_option maxRecDepth 100000 in
theorem cc_X12_in_18 : aChk QPl CF ck_X12_in_18 cg_X12_in_18 xxX12 mX12_in tX12_in ca_X12_in_18 [] 1 = true := by decide +kernel
theorem cx_X12_in_18 : ctsO QQ CF xxX12 cg_X12_in_18 := ctsO_nil
theorem ct_X12_in_18 : ctrO QQ CF ck_X12_in_18 mX12_in := chk_ok (Q := QQ) (QP := QPl) (C := CF) (c := ck_X12_in_18) (G := cg_X12_in_18) (X := xxX12) (M := mX12_in) (t := tX12_in) (anns := ca_X12_in_18) 1 xx12 pl12 rfl kX12_in qq_ok cx_X12_in_18 cc_X12_in_18
def ck_X12_in_19 : AK := (1, [.inl fr, .inl (.ofNat 0, .ofNat 0), .inl (.ofNat 9, .ofNat 9)], [], false, [([(.ofNat 0, .ofNat 9), (.ofNat 0, .ofNat 0), (.ofNat 9, .ofNat 9)], .inl (.ofNat 1, .ofNat 1), []), ([fr, (.ofNat 0, .ofNat 0), (.ofNat 9, .ofNat 9)], .inl (.ofNat 0, .ofNat 0), [])], [])
def cg_X12_in_19 : List (Nat × AK) := []
def ca_X12_in_19 : List (Nat × AA) := []
set_option maxRecDepth 100000 in
theorem cc_X12_in_19 : aChk QPl CF ck_X12_in_19 cg_X12_in_19 xxX12 mX12_in tX12_in ca_X12_in_19 [] 1 = true := by decide +kernel
theorem cx_X12_in_19 : ctsO QQ CF xxX12 cg_X12_in_19 := ctsO_nil
theorem ct_X12_in_19 : ctrO QQ CF ck_X12_in_19 mX12_in := chk_ok (Q := QQ) (QP := QPl) (C := CF) (c := ck_X12_in_19) (G := cg_X12_in_19) (X := xxX12) (M := mX12_in) (t := tX12_in) (anns := ca_X12_in_19) 1 xx12 pl12 rfl kX12_in qq_ok cx_X12_in_19 cc_X12_in_19
def ck_X12_givesBy_41 : AK := (10, [.inr (.inl [67]), .inl (.ofNat 0, .ofNat 7), .inl (.ofNat 1, .ofNat 8), .inl (.ofNat 0, .ofNat 9), .inl (.ofNat 0, .ofNat 2147483646)], [91, 93], false, [([(.ofNat 0, .ofNat 7), (.ofNat 1, .ofNat 8), (.ofNat 0, .ofNat 9), (.ofNat 0, .ofNat 2147483646)], .inl fr, [])], [])
def cg_X12_givesBy_41 : List (Nat × AK) := [(408, ck_X12_laysNow_0), (490, ck_X12_has_0), (372, ck_X12_longOf_0), (396, ck_X12_growsOf_0), (378, ck_X12_least_0)]
def ca_X12_givesBy_41 : List (Nat × AA) := [(18, [(.ofNat 0, .ofNat 0), (.ofNat 0, .ofNat 7), (.ofNat 1, .ofNat 8), (.ofNat 0, .ofNat 9), (.ofNat 0, .ofNat 2147483646), fr, (.ofNat 0, .ofNat 8)], [.inr (.inl [67]), .inl (1, .ofNat 0), .inl (2, .ofNat 0), .inl (3, .ofNat 0), .inl (4, .ofNat 0), .inl (5, .ofNat 0), .inl (6, .ofNat 0)], [], [(93, 64, 3, .ofNat 0)], [(0, 5, 0), (0, 6, 0)], (.ofNat 8, [.ofNat 0, .ofNat 0, .ofNat 0, .ofNat 0, .ofNat 0, .ofNat 0, .negSucc 0]))]
set_option maxRecDepth 100000 in
theorem cc_X12_givesBy_41 : aChk QPl CF ck_X12_givesBy_41 cg_X12_givesBy_41 xxX12 mX12_givesBy tX12_givesBy ca_X12_givesBy_41 [] 9 = true := by decide +kernel
theorem cx_X12_givesBy_41 : ctsO QQ CF xxX12 cg_X12_givesBy_41 := ctsO_cons rfl ct_X12_laysNow_0 (ctsO_cons rfl ct_X12_has_0 (ctsO_cons rfl ct_X12_longOf_0 (ctsO_cons rfl ct_X12_growsOf_0 (ctsO_cons rfl ct_X12_least_0 (ctsO_nil)))))
theorem ct_X12_givesBy_41 : ctrO QQ CF ck_X12_givesBy_41 mX12_givesBy := chk_ok (Q := QQ) (QP := QPl) (C := CF) (c := ck_X12_givesBy_41) (G := cg_X12_givesBy_41) (X := xxX12) (M := mX12_givesBy) (t := tX12_givesBy) (anns := ca_X12_givesBy_41) 9 xx12 pl12 rfl kX12_givesBy qq_ok cx_X12_givesBy_41 cc_X12_givesBy_41
def ck_X12_over_0 : AK := (11, [.inr (.inl [67]), .inl fr, .inl fr, .inl fr, .inl fr], [91, 93], false, [([fr, fr, fr, fr], .inl (.negSucc 0, .negSucc 0), []), ([(.ofNat 0, .ofNat 7), (.ofNat 1, .ofNat 8), (.ofNat 0, .ofNat 9), (.ofNat 0, .ofNat 1)], .inl fr, [])], [])
def cg_X12_over_0 : List (Nat × AK) := [(421, ck_X12_isThing_0), (116, ck_X12_in_18), (116, ck_X12_in_19), (116, ck_X12_in_12), (496, ck_X12_givesBy_41), (490, ck_X12_has_0)]
def ca_X12_over_0 : List (Nat × AA) := [(49, [(.ofNat 0, .ofNat 0), (.ofNat 0, .ofNat 7), (.ofNat 1, .ofNat 8), (.ofNat 0, .ofNat 9), (.ofNat 0, .ofNat 1), (.negSucc 0, .ofNat 2147483647), (.ofNat 0, .ofNat 2147483646), (.ofNat 0, .ofNat 2147483647)], [.inr (.inl [67]), .inl (1, .ofNat 0), .inl (2, .ofNat 0), .inl (3, .ofNat 0), .inl (4, .ofNat 0), .inl (5, .ofNat 0), .inl (6, .ofNat 0), .inl (7, .ofNat 0), .inr (.inr 0)], [], [], [(0, 5, 0), (0, 6, 0), (0, 7, 0)], (.ofNat 2147483656, [.ofNat 0, .ofNat 0, .ofNat 0, .ofNat 0, .ofNat 0, .ofNat 0, .ofNat 0, .negSucc 0])), (103, [(.ofNat 0, .ofNat 0), (.ofNat 0, .ofNat 7), (.ofNat 1, .ofNat 8), (.ofNat 0, .ofNat 9), (.ofNat 1, .ofNat 1), (.negSucc 0, .ofNat 2147483647), (.ofNat 0, .ofNat 2147483646), fr, (.ofNat 0, .ofNat 8)], [.inr (.inl [67]), .inl (1, .ofNat 0), .inl (2, .ofNat 0), .inl (3, .ofNat 0), .inl (4, .ofNat 0), .inl (5, .ofNat 0), .inl (6, .ofNat 0), .inl (7, .ofNat 0), .inl (8, .ofNat 0)], [], [], [(0, 5, 0), (0, 6, 0), (0, 7, 0), (0, 8, 0)], (.ofNat 8, [.ofNat 0, .ofNat 0, .ofNat 0, .ofNat 0, .ofNat 0, .ofNat 0, .ofNat 0, .ofNat 0, .negSucc 0]))]
set_option maxRecDepth 100000 in
theorem cc_X12_over_0 : aChk QPl CF ck_X12_over_0 cg_X12_over_0 xxX12 mX12_over tX12_over ca_X12_over_0 [] 2147483657 = true := by decide +kernel
theorem cx_X12_over_0 : ctsO QQ CF xxX12 cg_X12_over_0 := ctsO_cons rfl ct_X12_isThing_0 (ctsO_cons rfl ct_X12_in_18 (ctsO_cons rfl ct_X12_in_19 (ctsO_cons rfl ct_X12_in_12 (ctsO_cons rfl ct_X12_givesBy_41 (ctsO_cons rfl ct_X12_has_0 (ctsO_nil))))))
theorem ct_X12_over_0 : ctrO QQ CF ck_X12_over_0 mX12_over := chk_ok (Q := QQ) (QP := QPl) (C := CF) (c := ck_X12_over_0) (G := cg_X12_over_0) (X := xxX12) (M := mX12_over) (t := tX12_over) (anns := ca_X12_over_0) 2147483657 xx12 pl12 rfl kX12_over qq_ok cx_X12_over_0 cc_X12_over_0
def ck_X12_hoursOf_7 : AK := (10, [.inr (.inl [67]), .inl (.ofNat 0, .ofNat 7), .inl (.ofNat 1, .ofNat 999), .inl (.ofNat 0, .ofNat 999)], [91, 93], false, [([(.ofNat 0, .ofNat 7), (.ofNat 1, .ofNat 999), (.ofNat 0, .ofNat 999)], .inl fr, [])], [])
def cg_X12_hoursOf_7 : List (Nat × AK) := [(408, ck_X12_laysNow_0), (372, ck_X12_longOf_0)]
def ca_X12_hoursOf_7 : List (Nat × AA) := [(36, [(.ofNat 0, .ofNat 0), (.ofNat 0, .ofNat 7), (.ofNat 1, .ofNat 999), (.ofNat 0, .ofNat 999), fr, (.ofNat 0, .ofNat 10), (.ofNat 0, .ofNat 0)], [.inr (.inl [67]), .inl (1, .ofNat 0), .inl (2, .ofNat 0), .inl (3, .ofNat 0), .inl (4, .ofNat 0), .inl (5, .ofNat 0)], [], [(93, 66, 6, .ofNat 0), (93, 65, 3, .ofNat 0)], [(0, 4, 0), (0, 5, 0), (2, 93, 66)], (.ofNat 10, [.ofNat 0, .ofNat 0, .ofNat 0, .ofNat 0, .ofNat 0, .negSucc 0, .ofNat 0]))]
set_option maxRecDepth 100000 in
theorem cc_X12_hoursOf_7 : aChk QPl CF ck_X12_hoursOf_7 cg_X12_hoursOf_7 xxX12 mX12_hoursOf tX12_hoursOf ca_X12_hoursOf_7 [] 11 = true := by decide +kernel
theorem cx_X12_hoursOf_7 : ctsO QQ CF xxX12 cg_X12_hoursOf_7 := ctsO_cons rfl ct_X12_laysNow_0 (ctsO_cons rfl ct_X12_longOf_0 (ctsO_nil))
theorem ct_X12_hoursOf_7 : ctrO QQ CF ck_X12_hoursOf_7 mX12_hoursOf := chk_ok (Q := QQ) (QP := QPl) (C := CF) (c := ck_X12_hoursOf_7) (G := cg_X12_hoursOf_7) (X := xxX12) (M := mX12_hoursOf) (t := tX12_hoursOf) (anns := ca_X12_hoursOf_7) 11 xx12 pl12 rfl kX12_hoursOf qq_ok cx_X12_hoursOf_7 cc_X12_hoursOf_7
def ck_X12_whose_0 : AK := (11, [.inr (.inl [67]), .inl fr, .inl fr, .inl fr], [91, 93], false, [([fr, fr, fr], .inl (.negSucc 0, .negSucc 0), []), ([(.ofNat 0, .ofNat 5), (.ofNat 1, .ofNat 999), (.ofNat 0, .ofNat 999)], .inl fr, [])], [])
def cg_X12_whose_0 : List (Nat × AK) := [(116, ck_X12_in_3), (116, ck_X12_in_5), (116, ck_X12_in_15), (500, ck_X12_hoursOf_7)]
def ca_X12_whose_0 : List (Nat × AA) := [(39, [(.ofNat 0, .ofNat 0), (.ofNat 0, .ofNat 5), (.ofNat 1, .ofNat 999), (.ofNat 0, .ofNat 999), fr, (.ofNat 0, .ofNat 8)], [.inr (.inl [67]), .inl (1, .ofNat 0), .inl (2, .ofNat 0), .inl (3, .ofNat 0), .inl (4, .ofNat 0), .inl (5, .ofNat 0)], [], [], [(0, 4, 0), (0, 5, 0)], (.ofNat 8, [.ofNat 0, .ofNat 0, .ofNat 0, .ofNat 0, .ofNat 0, .negSucc 0]))]
set_option maxRecDepth 100000 in
theorem cc_X12_whose_0 : aChk QPl CF ck_X12_whose_0 cg_X12_whose_0 xxX12 mX12_whose tX12_whose ca_X12_whose_0 [] 9 = true := by decide +kernel
theorem cx_X12_whose_0 : ctsO QQ CF xxX12 cg_X12_whose_0 := ctsO_cons rfl ct_X12_in_3 (ctsO_cons rfl ct_X12_in_5 (ctsO_cons rfl ct_X12_in_15 (ctsO_cons rfl ct_X12_hoursOf_7 (ctsO_nil))))
theorem ct_X12_whose_0 : ctrO QQ CF ck_X12_whose_0 mX12_whose := chk_ok (Q := QQ) (QP := QPl) (C := CF) (c := ck_X12_whose_0) (G := cg_X12_whose_0) (X := xxX12) (M := mX12_whose) (t := tX12_whose) (anns := ca_X12_whose_0) 9 xx12 pl12 rfl kX12_whose qq_ok cx_X12_whose_0 cc_X12_whose_0
def ck_X12_at_0 : AK := (11, [.inr (.inl [67]), .inl fr, .inl fr, .inl fr], [91, 93], false, [([(.ofNat 0, .ofNat 7), (.ofNat 1, .ofNat 999), (.ofNat 0, .ofNat 999)], .inl fr, []), ([fr, fr, fr], .inl (.negSucc 0, .negSucc 0), [])], [])
def cg_X12_at_0 : List (Nat × AK) := [(421, ck_X12_isThing_0), (116, ck_X12_in_5), (116, ck_X12_in_15), (500, ck_X12_hoursOf_7)]
def ca_X12_at_0 : List (Nat × AA) := []
set_option maxRecDepth 100000 in
theorem cc_X12_at_0 : aChk QPl CF ck_X12_at_0 cg_X12_at_0 xxX12 mX12_at tX12_at ca_X12_at_0 [] 1 = true := by decide +kernel
theorem cx_X12_at_0 : ctsO QQ CF xxX12 cg_X12_at_0 := ctsO_cons rfl ct_X12_isThing_0 (ctsO_cons rfl ct_X12_in_5 (ctsO_cons rfl ct_X12_in_15 (ctsO_cons rfl ct_X12_hoursOf_7 (ctsO_nil))))
theorem ct_X12_at_0 : ctrO QQ CF ck_X12_at_0 mX12_at := chk_ok (Q := QQ) (QP := QPl) (C := CF) (c := ck_X12_at_0) (G := cg_X12_at_0) (X := xxX12) (M := mX12_at) (t := tX12_at) (anns := ca_X12_at_0) 1 xx12 pl12 rfl kX12_at qq_ok cx_X12_at_0 cc_X12_at_0
def ck_X12_leave_0 : AK := (10, [.inr (.inl [67]), .inl fr, .inl fr, .inl fr, .inl fr], [91, 93], false, [([fr, fr, fr, fr], .inl (.negSucc 0, .negSucc 0), []), ([(.ofNat 0, .ofNat 9999), (.ofNat 0, .ofNat 9999), (.ofNat 0, .ofNat 9999), (.ofNat 0, .ofNat 9999)], .inl (.ofNat 1, .ofNat 15), [])], [])
def cg_X12_leave_0 : List (Nat × AK) := [(116, ck_X12_in_9), (408, ck_X12_laysNow_0), (493, ck_X12_many_0), (372, ck_X12_longOf_0), (490, ck_X12_has_0)]
def ca_X12_leave_0 : List (Nat × AA) := [(54, [(.ofNat 0, .ofNat 0), (.ofNat 0, .ofNat 9999), (.ofNat 0, .ofNat 9999), (.ofNat 0, .ofNat 9999), (.ofNat 0, .ofNat 9999), (.ofNat 1, .ofNat 16)], [.inr (.inl [67]), .inl (1, .ofNat 0), .inl (2, .ofNat 0), .inl (3, .ofNat 0), .inl (4, .ofNat 0), .inl (5, .ofNat 0), .inr (.inr 0), .inr (.inr 0), .inr (.inr 0)], [], [], [(0, 5, 0)], (.ofNat 169, [.ofNat 0, .ofNat 0, .ofNat 0, .ofNat 0, .ofNat 0, .negSucc 9])), (67, [(.ofNat 0, .ofNat 0), (.ofNat 0, .ofNat 9999), (.ofNat 0, .ofNat 9999), (.ofNat 0, .ofNat 9999), (.ofNat 0, .ofNat 9999), (.ofNat 1, .ofNat 15), fr, (.ofNat 0, .ofNat 8)], [.inr (.inl [67]), .inl (1, .ofNat 0), .inl (2, .ofNat 0), .inl (3, .ofNat 0), .inl (4, .ofNat 0), .inl (5, .ofNat 0), .inl (6, .ofNat 0), .inl (7, .ofNat 0), .inr (.inr 0)], [], [], [(0, 5, 0), (0, 6, 0), (0, 7, 0)], (.ofNat 168, [.ofNat 0, .ofNat 0, .ofNat 0, .ofNat 0, .ofNat 0, .negSucc 9, .ofNat 0, .negSucc 0]))]
set_option maxRecDepth 100000 in
theorem cc_X12_leave_0 : aChk QPl CF ck_X12_leave_0 cg_X12_leave_0 xxX12 mX12_leave tX12_leave ca_X12_leave_0 [] 160 = true := by decide +kernel
theorem cx_X12_leave_0 : ctsO QQ CF xxX12 cg_X12_leave_0 := ctsO_cons rfl ct_X12_in_9 (ctsO_cons rfl ct_X12_laysNow_0 (ctsO_cons rfl ct_X12_many_0 (ctsO_cons rfl ct_X12_longOf_0 (ctsO_cons rfl ct_X12_has_0 (ctsO_nil)))))
theorem ct_X12_leave_0 : ctrO QQ CF ck_X12_leave_0 mX12_leave := chk_ok (Q := QQ) (QP := QPl) (C := CF) (c := ck_X12_leave_0) (G := cg_X12_leave_0) (X := xxX12) (M := mX12_leave) (t := tX12_leave) (anns := ca_X12_leave_0) 160 xx12 pl12 rfl kX12_leave qq_ok cx_X12_leave_0 cc_X12_leave_0
def ck_X12_packed_0 : AK := (20, [.inr (.inl [67]), .inl fr, .inl fr], [96, 97, 98], false, [([fr, fr], .inl fr, [])], [])
def ck_X12_when_0 : AK := (13, [.inr (.inl [67]), .inl fr, .inl fr, .inl fr], [91, 93], false, [([fr, fr, fr], .inl (.negSucc 0, .negSucc 0), []), ([(.ofNat 0, .ofNat 11), (.ofNat 0, .ofNat 60), (.ofNat 0, .ofNat 1)], .inl (.negSucc 0, .ofNat 2147483646), [])], [])
def cg_X12_when_0 : List (Nat × AK) := [(436, ck_X12_isBale_0), (116, ck_X12_in_17), (116, ck_X12_in_12), (408, ck_X12_laysNow_0), (390, ck_X12_sellsOf_0), (417, ck_X12_canPass_0), (442, ck_X12_passesThrough_1)]
def ca_X12_when_0 : List (Nat × AA) := [(45, [(.ofNat 0, .ofNat 0), (.ofNat 0, .ofNat 11), (.ofNat 0, .ofNat 60), (.ofNat 0, .ofNat 1), (.negSucc 0, .ofNat 2147483646), (.negSucc 0, .ofNat 9999), (.ofNat 0, .ofNat 1), (.ofNat 0, .ofNat 63)], [.inr (.inl [67]), .inl (1, .ofNat 0), .inl (2, .ofNat 0), .inl (3, .ofNat 0), .inl (4, .ofNat 0), .inl (5, .ofNat 0), .inl (6, .ofNat 0), .inl (7, .ofNat 0), .inr (.inr 0)], [], [], [(0, 4, 0), (0, 5, 0), (0, 6, 0), (0, 7, 0)], (.ofNat 63, [.ofNat 0, .ofNat 0, .ofNat 0, .ofNat 0, .ofNat 0, .ofNat 0, .ofNat 0, .negSucc 0]))]
set_option maxRecDepth 100000 in
theorem cc_X12_when_0 : aChk QPl CF ck_X12_when_0 cg_X12_when_0 xxX12 mX12_when tX12_when ca_X12_when_0 [] 64 = true := by decide +kernel
theorem cx_X12_when_0 : ctsO QQ CF xxX12 cg_X12_when_0 := ctsO_cons rfl ct_X12_isBale_0 (ctsO_cons rfl ct_X12_in_17 (ctsO_cons rfl ct_X12_in_12 (ctsO_cons rfl ct_X12_laysNow_0 (ctsO_cons rfl ct_X12_sellsOf_0 (ctsO_cons rfl ct_X12_canPass_0 (ctsO_cons rfl ct_X12_passesThrough_1 (ctsO_nil)))))))
theorem ct_X12_when_0 : ctrO QQ CF ck_X12_when_0 mX12_when := chk_ok (Q := QQ) (QP := QPl) (C := CF) (c := ck_X12_when_0) (G := cg_X12_when_0) (X := xxX12) (M := mX12_when) (t := tX12_when) (anns := ca_X12_when_0) 64 xx12 pl12 rfl kX12_when qq_ok cx_X12_when_0 cc_X12_when_0
def ck_X12_hail_0 : AK := (20, [.inr (.inl [67]), .inl fr, .inl fr, .inl (.ofNat 0, .ofNat 1)], [], false, [([fr, fr, (.ofNat 0, .ofNat 1)], .inl fr, [])], [])
set_option maxRecDepth 100000 in
set_option maxHeartbeats 1000000 in
theorem ct_X12_hail_0 : ctrO QQ CF ck_X12_hail_0 mX12_hail := by
  intro l d sh I J as Rp ha hce hs hi hq hR
  obtain ⟨n, k, w, rfl, _, _, hw⟩ := ag1iii ha
  have fin : ∀ r : Int32, Rp (some (.int r)) sh I J := fun r => hR _ sh I J hs (fun _ => rfl) hi hq (fun _ _ => rfl) ⟨_, List.mem_cons_self, one_post ha ⟨r, rfl, inI_fr _⟩⟩
  exact m_hail_any l (d + 18) n k w sh I J Rp fin
